set_option maxHeartbeats 20000000 in
set_option maxRecDepth 20000 in
theorem kL_arm_12 {p : Program} {l : Launch} {e : Env} {s : State} {m : MethodId} {args : Array Value} {below : List Frame} {meth : Method} {c : Code} {D : va_G} {ct : Nat → ClassId} {A : Nat → Prop} {Q : State → Prop} {sb L : Nat} {xs : Nat → Int32} {g : Nat → Nat → Nat} {am qa : Nat → Nat} (hl9 : l.stackTraces = false) (X : Cx p s m args meth c cL_law 9 RL wsL_law D (tyz ct) A s.heap ret) (XX : XL A s) (hX : va_X sb L xs s s.heap) (hbl : sb < s.heap.size) (hbA : ¬ A sb) (hend : ∀ (k j : Nat) (w : va_W) (lv : List (Nat × Value)), k ≤ 601024 → j ≤ 7293034 → GG p l e room_1 s m args below meth c D A s.heap 9 Q (w) (k) (j) lv 1325 [.int 1])  {n : Nat} (ih : n ≤ 513 → ∀ (kc : Mem) (v : Mem) (sl : Nat → Mem) (b : Mem) (r : Nat → Mem) (tx : Mem) (y : Mem) (o : Mem) (x : Mem) (w : Mem) (hs : Int64) (ou : Nat → Int64) (x4 : Int32), PL_law_23 xs L n kc v sl b r tx y o x w hs ou x4 → GG p l e room_1 s m args below meth c D A s.heap 9 Q (fl [wC ct g kc, wS ct (g 1) v, wS ct (g 2) (sl 0), wS ct (g 3) (sl 1), wV ct g b, wS ct (g 5) (r 0), wS ct (g 6) (r 1), wS ct (g 7) (r 2), wS ct (g 8) (r 3), wS ct (g 9) (r 4), wS ct (g 10) (r 5), wT ct (g 11) tx, wL ct (g 12) y, wO ct (g 13) o, wR ct (g 14) x, wM ct am w hs, wQ ct qa ou]) (117 + (513 - n)) (2344 + 6 * (513 - n)) [(0, .ref sb), (1, .ref (g 0 0)), (2, .ref (am 0)), (3, .ref (qa 0)), (4, .int x4)] 23 []) (hn9 : n + 1 ≤ 513) (kc : Mem) (v : Mem) (sl : Nat → Mem) (b : Mem) (r : Nat → Mem) (tx : Mem) (y : Mem) (o : Mem) (x : Mem) (w : Mem) (hs : Int64) (ou : Nat → Int64) (x4 : Int32) (c191 : ((xs (ix x4)) &&& 31) = 12) (hw : PL_undo kc v b r ou (fun r192 v194 b195 ou196 => PX8_undo w hs (fun r197 w199 => PX8_thrown w199 hs (fun r200 => ((r200 = r192) → ((¬ r192 = 0) → PL_law_23 xs L n kc v194 sl b195 r tx y o x w199 hs ou196 (x4 + 3)) ∧ ((r192 = 0) → (((lg_cmp (ou196 0) r197.toInt64) = 0) → PL_law_23 xs L n kc v194 sl b195 r tx y o x w199 hs ou196 (x4 + 3)) ∧ ((¬ (lg_cmp (ou196 0) r197.toInt64) = 0) → False))) ∧ ((¬ r200 = r192) → False))))) : GG p l e room_1 s m args below meth c D A s.heap 9 Q (fl [wC ct g kc, wS ct (g 1) v, wS ct (g 2) (sl 0), wS ct (g 3) (sl 1), wV ct g b, wS ct (g 5) (r 0), wS ct (g 6) (r 1), wS ct (g 7) (r 2), wS ct (g 8) (r 3), wS ct (g 9) (r 4), wS ct (g 10) (r 5), wT ct (g 11) tx, wL ct (g 12) y, wO ct (g 13) o, wR ct (g 14) x, wM ct am w hs, wQ ct qa ou]) (117 + (513 - (n + 1))) (2344 + 6 * (513 - (n + 1))) [(0, .ref sb), (1, .ref (g 0 0)), (2, .ref (am 0)), (3, .ref (qa 0)), (4, .int x4)] 742 [] := by
  refine g_aload_n X 1 dL_law_742 rfl rfl ?_
  refine g_aload_n X 3 dL_law_743 rfl rfl ?_
  refine g_chS X XX [wC ct g kc, wS ct (g 1) v, wS ct (g 2) (sl 0), wS ct (g 3) (sl 1), wV ct g b, wS ct (g 5) (r 0), wS ct (g 6) (r 1), wS ct (g 7) (r 2), wS ct (g 8) (r 3), wS ct (g 9) (r 4), wS ct (g 10) (r 5), wT ct (g 11) tx, wL ct (g 12) y, wO ct (g 13) o, wR ct (g 14) x, wM ct am w hs, wQ ct qa ou] (fun (u193 : Mem × Mem × (Nat → Int64)) => [wC ct g kc, wS ct (g 1) u193.1, wS ct (g 2) (sl 0), wS ct (g 3) (sl 1), wV ct g u193.2.1, wS ct (g 5) (r 0), wS ct (g 6) (r 1), wS ct (g 7) (r 2), wS ct (g 8) (r 3), wS ct (g 9) (r 4), wS ct (g 10) (r 5), wT ct (g 11) tx, wL ct (g 12) y, wO ct (g 13) o, wR ct (g 14) x, wM ct am w hs, wQ ct qa u193.2.2]) (fun (u193 : Mem × Mem × (Nat → Int64)) => fl [wC ct g kc, wS ct (g 1) u193.1, wS ct (g 2) (sl 0), wS ct (g 3) (sl 1), wV ct g u193.2.1, wS ct (g 5) (r 0), wS ct (g 6) (r 1), wS ct (g 7) (r 2), wS ct (g 8) (r 3), wS ct (g 9) (r 4), wS ct (g 10) (r 5), wT ct (g 11) tx, wL ct (g 12) y, wO ct (g 13) o, wR ct (g 14) x, wM ct am w hs, wQ ct qa u193.2.2]) 17 [0, 1, 4, 5, 6, 7, 8, 9, 10, 16] [2, 3, 11, 12, 13, 14, 15] (kL_undo l hl9 D ct g qa kc v b r ou _ hw) (vx_cwSW 2 X.1.2.2.2.2 gL_law_L_undo rfl rfl rfl (by decide +kernel) ⟨Nat.le_of_ble_eq_true rfl, Nat.le_of_ble_eq_true rfl⟩) dL_law_744 rfl rfl (Nat.le_of_ble_eq_true rfl) ⟨by show _ ≤ 601024; omega, by show _ ≤ 7293034; omega⟩ rfl rfl rfl (by decide) (fun _ => rfl) (fun _ => rfl) (fun _ => rfl) (fun _ => rfl) (fun r192 u193 hw => ?_)
  obtain ⟨v194, hv194⟩ : ∃ z : Mem, z = u193.1 := ⟨_, rfl⟩
  rw [← hv194] at hw
  rw [← hv194]
  obtain ⟨b195, hb195⟩ : ∃ z : Mem, z = u193.2.1 := ⟨_, rfl⟩
  rw [← hb195] at hw
  rw [← hb195]
  obtain ⟨ou196, hou196⟩ : ∃ z : Nat → Int64, z = u193.2.2 := ⟨_, rfl⟩
  rw [← hou196] at hw
  rw [← hou196]
  refine g_istore X [(5, .int r192), (0, .ref sb), (1, .ref (g 0 0)), (2, .ref (am 0)), (3, .ref (qa 0)), (4, .int x4)] dL_law_747 (by decide) rfl ?_
  refine g_aload_n X 3 dL_law_749 rfl rfl ?_
  refine g_ciV X [wC ct g kc, wS ct (g 1) v194, wS ct (g 2) (sl 0), wS ct (g 3) (sl 1), wV ct g b195, wS ct (g 5) (r 0), wS ct (g 6) (r 1), wS ct (g 7) (r 2), wS ct (g 8) (r 3), wS ct (g 9) (r 4), wS ct (g 10) (r 5), wT ct (g 11) tx, wL ct (g 12) y, wO ct (g 13) o, wR ct (g 14) x, wM ct am w hs, wQ ct qa ou196] (fun (u198 : Mem) => [wC ct g kc, wS ct (g 1) v194, wS ct (g 2) (sl 0), wS ct (g 3) (sl 1), wV ct g b195, wS ct (g 5) (r 0), wS ct (g 6) (r 1), wS ct (g 7) (r 2), wS ct (g 8) (r 3), wS ct (g 9) (r 4), wS ct (g 10) (r 5), wT ct (g 11) tx, wL ct (g 12) y, wO ct (g 13) o, wR ct (g 14) x, wM ct am u198 hs, wQ ct qa ou196]) (fun (u198 : Mem) => fl [wC ct g kc, wS ct (g 1) v194, wS ct (g 2) (sl 0), wS ct (g 3) (sl 1), wV ct g b195, wS ct (g 5) (r 0), wS ct (g 6) (r 1), wS ct (g 7) (r 2), wS ct (g 8) (r 3), wS ct (g 9) (r 4), wS ct (g 10) (r 5), wT ct (g 11) tx, wL ct (g 12) y, wO ct (g 13) o, wR ct (g 14) x, wM ct am u198 hs, wQ ct qa ou196]) 17 [15] [0, 1, 2, 3, 4, 5, 6, 7, 8, 9, 10, 11, 12, 13, 14, 16] 0 (kX8_undo l D ct am w hs _ hw) (cwV 0 X.1.2.2.2.2 gL_law_X8_undo rfl rfl rfl (by decide +kernel) ⟨Nat.le_of_ble_eq_true rfl, Nat.le_of_ble_eq_true rfl⟩) dL_law_750 rfl rfl (Nat.le_of_ble_eq_true rfl) ⟨by show _ ≤ 601024; omega, by show _ ≤ 7293034; omega⟩ rfl rfl rfl (by decide) (fun _ => rfl) (fun _ => rfl) (fun _ => rfl) (fun _ => rfl) rfl rfl rfl (fun r197 u198 hw => ?_)
  obtain ⟨w199, hw199⟩ : ∃ z : Mem, z = u198 := ⟨_, rfl⟩
  rw [← hw199] at hw
  rw [← hw199]
  refine g_istore X [(6, .int r197), (5, .int r192), (0, .ref sb), (1, .ref (g 0 0)), (2, .ref (am 0)), (3, .ref (qa 0)), (4, .int x4)] dL_law_753 (by decide) rfl ?_
  refine g_aload_n X 4 dL_law_755 rfl rfl ?_
  refine g_ciV X [wC ct g kc, wS ct (g 1) v194, wS ct (g 2) (sl 0), wS ct (g 3) (sl 1), wV ct g b195, wS ct (g 5) (r 0), wS ct (g 6) (r 1), wS ct (g 7) (r 2), wS ct (g 8) (r 3), wS ct (g 9) (r 4), wS ct (g 10) (r 5), wT ct (g 11) tx, wL ct (g 12) y, wO ct (g 13) o, wR ct (g 14) x, wM ct am w199 hs, wQ ct qa ou196] (fun (_ : Unit) => [wC ct g kc, wS ct (g 1) v194, wS ct (g 2) (sl 0), wS ct (g 3) (sl 1), wV ct g b195, wS ct (g 5) (r 0), wS ct (g 6) (r 1), wS ct (g 7) (r 2), wS ct (g 8) (r 3), wS ct (g 9) (r 4), wS ct (g 10) (r 5), wT ct (g 11) tx, wL ct (g 12) y, wO ct (g 13) o, wR ct (g 14) x, wM ct am w199 hs, wQ ct qa ou196]) (fun _ => fl [wC ct g kc, wS ct (g 1) v194, wS ct (g 2) (sl 0), wS ct (g 3) (sl 1), wV ct g b195, wS ct (g 5) (r 0), wS ct (g 6) (r 1), wS ct (g 7) (r 2), wS ct (g 8) (r 3), wS ct (g 9) (r 4), wS ct (g 10) (r 5), wT ct (g 11) tx, wL ct (g 12) y, wO ct (g 13) o, wR ct (g 14) x, wM ct am w199 hs, wQ ct qa ou196]) 17 [15] [0, 1, 2, 3, 4, 5, 6, 7, 8, 9, 10, 11, 12, 13, 14, 16] 0 (kX8_thrown l D ct am w199 hs _ hw) (cwV 0 X.1.2.2.2.2 gL_law_X8_thrown rfl rfl rfl (by decide +kernel) ⟨Nat.le_of_ble_eq_true rfl, Nat.le_of_ble_eq_true rfl⟩) dL_law_756 rfl rfl (Nat.le_of_ble_eq_true rfl) ⟨by show _ ≤ 601024; omega, by show _ ≤ 7293034; omega⟩ rfl rfl rfl (by decide) (fun _ => rfl) (fun _ => rfl) (fun _ => rfl) (fun _ => rfl) rfl rfl rfl (fun r200 _ hw => ?_)
  refine g_iload X 1 dL_law_759 rfl ?_
  refine g_icmp_eq X 766 dL_law_761 (by decide) (fun c202 => ?_) (fun c202 => ?_)
  · replace hw := hw.1 c202
    refine g_iload X 1 dL_law_766 rfl ?_
    refine g_if_ne X 783 dL_law_768 (by decide) (fun c203 => ?_) (fun c203 => ?_)
    · replace hw := hw.1 c203
      refine g_goto X 1318 dL_law_783 (by decide) ?_
      refine g_iinc X [(4, .int (x4 + 3)), (6, .int r197), (5, .int r192), (0, .ref sb), (1, .ref (g 0 0)), (2, .ref (am 0)), (3, .ref (qa 0))] 6 dL_law_1318 rfl rfl (by decide) rfl ?_
      refine g_goto X 23 dL_law_1321 (by decide) ?_
      refine g_sub [(0, .ref sb), (1, .ref (g 0 0)), (2, .ref (am 0)), (3, .ref (qa 0)), (4, .int (x4 + 3))] [3, 4, 5, 6, 0] rfl ?_
      refine g_wide (k2 := 117 + (513 - n)) (j2 := 2344 + 6 * (513 - n)) (by omega) (by omega) ?_
      exact ih (by omega) _ _ _ _ _ _ _ _ _ _ _ _ _ hw
    · replace hw := hw.2 c203
      refine g_aload_n X 5 dL_law_771 rfl rfl ?_
      refine g_iconst (v := 0) X rfl dL_law_772 ?_
      refine g_lald X 116 4 dL_law_773 rfl rfl (vp_in_nI (n := 0) (by decide) (by decide)) ?_
      refine g_iload X 0 dL_law_774 rfl ?_
      refine g_i2l X dL_law_776 ?_
      refine g_lcmp X dL_law_777 ?_
      refine g_if_eq X 783 dL_law_778 (by decide) (fun c204 => ?_) (fun c204 => ?_)
      · replace hw := hw.1 c204
        refine g_goto X 1318 dL_law_783 (by decide) ?_
        refine g_iinc X [(4, .int (x4 + 3)), (6, .int r197), (5, .int r192), (0, .ref sb), (1, .ref (g 0 0)), (2, .ref (am 0)), (3, .ref (qa 0))] 6 dL_law_1318 rfl rfl (by decide) rfl ?_
        refine g_goto X 23 dL_law_1321 (by decide) ?_
        refine g_sub [(0, .ref sb), (1, .ref (g 0 0)), (2, .ref (am 0)), (3, .ref (qa 0)), (4, .int (x4 + 3))] [3, 4, 5, 6, 0] rfl ?_
        refine g_wide (k2 := 117 + (513 - n)) (j2 := 2344 + 6 * (513 - n)) (by omega) (by omega) ?_
        exact ih (by omega) _ _ _ _ _ _ _ _ _ _ _ _ _ hw
      · replace hw := hw.2 c204
        refine g_iconst (v := 0) X rfl dL_law_781 ?_
        exact hw.elim
  · replace hw := hw.2 c202
    refine g_iconst (v := 0) X rfl dL_law_764 ?_
    exact hw.elim
set_option maxHeartbeats 20000000 in
set_option maxRecDepth 20000 in
theorem kL_arm_13 {p : Program} {l : Launch} {e : Env} {s : State} {m : MethodId} {args : Array Value} {below : List Frame} {meth : Method} {c : Code} {D : va_G} {ct : Nat → ClassId} {A : Nat → Prop} {Q : State → Prop} {sb L : Nat} {xs : Nat → Int32} {g : Nat → Nat → Nat} {am qa : Nat → Nat} (hl9 : l.stackTraces = false) (X : Cx p s m args meth c cL_law 9 RL wsL_law D (tyz ct) A s.heap ret) (XX : XL A s) (hX : va_X sb L xs s s.heap) (hbl : sb < s.heap.size) (hbA : ¬ A sb) (hend : ∀ (k j : Nat) (w : va_W) (lv : List (Nat × Value)), k ≤ 601024 → j ≤ 7293034 → GG p l e room_1 s m args below meth c D A s.heap 9 Q (w) (k) (j) lv 1325 [.int 1])  {n : Nat} (ih : n ≤ 513 → ∀ (kc : Mem) (v : Mem) (sl : Nat → Mem) (b : Mem) (r : Nat → Mem) (tx : Mem) (y : Mem) (o : Mem) (x : Mem) (w : Mem) (hs : Int64) (ou : Nat → Int64) (x4 : Int32), PL_law_23 xs L n kc v sl b r tx y o x w hs ou x4 → GG p l e room_1 s m args below meth c D A s.heap 9 Q (fl [wC ct g kc, wS ct (g 1) v, wS ct (g 2) (sl 0), wS ct (g 3) (sl 1), wV ct g b, wS ct (g 5) (r 0), wS ct (g 6) (r 1), wS ct (g 7) (r 2), wS ct (g 8) (r 3), wS ct (g 9) (r 4), wS ct (g 10) (r 5), wT ct (g 11) tx, wL ct (g 12) y, wO ct (g 13) o, wR ct (g 14) x, wM ct am w hs, wQ ct qa ou]) (117 + (513 - n)) (2344 + 6 * (513 - n)) [(0, .ref sb), (1, .ref (g 0 0)), (2, .ref (am 0)), (3, .ref (qa 0)), (4, .int x4)] 23 []) (hn9 : n + 1 ≤ 513) (kc : Mem) (v : Mem) (sl : Nat → Mem) (b : Mem) (r : Nat → Mem) (tx : Mem) (y : Mem) (o : Mem) (x : Mem) (w : Mem) (hs : Int64) (ou : Nat → Int64) (x4 : Int32) (c205 : ((xs (ix x4)) &&& 31) = 13) (hw : vp_in (x4 + 1) L ∧ vp_in (x4 + 2) L ∧ PL_personOf kc v ou (xs (ix (x4 + 1))) (xs (ix (x4 + 2))) (fun r208 ou210 => vp_in (x4 + 1) L ∧ vp_in (x4 + 2) L ∧ PX8_personOf w hs (xs (ix (x4 + 1))) (xs (ix (x4 + 2))) (fun r213 w215 => PX8_thrown w215 hs (fun r216 => ((r216 = r208) → ((¬ r208 = 0) → PL_law_23 xs L n kc v sl b r tx y o x w215 hs ou210 (x4 + 3)) ∧ ((r208 = 0) → (((lg_cmp (ou210 0) r213.toInt64) = 0) → PL_law_23 xs L n kc v sl b r tx y o x w215 hs ou210 (x4 + 3)) ∧ ((¬ (lg_cmp (ou210 0) r213.toInt64) = 0) → False))) ∧ ((¬ r216 = r208) → False))))) : GG p l e room_1 s m args below meth c D A s.heap 9 Q (fl [wC ct g kc, wS ct (g 1) v, wS ct (g 2) (sl 0), wS ct (g 3) (sl 1), wV ct g b, wS ct (g 5) (r 0), wS ct (g 6) (r 1), wS ct (g 7) (r 2), wS ct (g 8) (r 3), wS ct (g 9) (r 4), wS ct (g 10) (r 5), wT ct (g 11) tx, wL ct (g 12) y, wO ct (g 13) o, wR ct (g 14) x, wM ct am w hs, wQ ct qa ou]) (117 + (513 - (n + 1))) (2344 + 6 * (513 - (n + 1))) [(0, .ref sb), (1, .ref (g 0 0)), (2, .ref (am 0)), (3, .ref (qa 0)), (4, .int x4)] 786 [] := by
  refine g_aload_n X 1 dL_law_786 rfl rfl ?_
  refine g_aload_n X 0 dL_law_787 rfl rfl ?_
  refine g_iload X 4 dL_law_788 rfl ?_
  refine g_iconst (v := 1) X rfl dL_law_790 ?_
  refine g_iadd X dL_law_791 ?_
  obtain ⟨h206, hw⟩ := hw
  refine g_sld X hX hbl hbA h206 dL_law_792 ?_
  refine g_aload_n X 0 dL_law_793 rfl rfl ?_
  refine g_iload X 4 dL_law_794 rfl ?_
  refine g_iconst (v := 2) X rfl dL_law_796 ?_
  refine g_iadd X dL_law_797 ?_
  obtain ⟨h207, hw⟩ := hw
  refine g_sld X hX hbl hbA h207 dL_law_798 ?_
  refine g_aload_n X 3 dL_law_799 rfl rfl ?_
  refine g_chS X XX [wC ct g kc, wS ct (g 1) v, wS ct (g 2) (sl 0), wS ct (g 3) (sl 1), wV ct g b, wS ct (g 5) (r 0), wS ct (g 6) (r 1), wS ct (g 7) (r 2), wS ct (g 8) (r 3), wS ct (g 9) (r 4), wS ct (g 10) (r 5), wT ct (g 11) tx, wL ct (g 12) y, wO ct (g 13) o, wR ct (g 14) x, wM ct am w hs, wQ ct qa ou] (fun (u209 : (Nat → Int64)) => [wC ct g kc, wS ct (g 1) v, wS ct (g 2) (sl 0), wS ct (g 3) (sl 1), wV ct g b, wS ct (g 5) (r 0), wS ct (g 6) (r 1), wS ct (g 7) (r 2), wS ct (g 8) (r 3), wS ct (g 9) (r 4), wS ct (g 10) (r 5), wT ct (g 11) tx, wL ct (g 12) y, wO ct (g 13) o, wR ct (g 14) x, wM ct am w hs, wQ ct qa u209]) (fun (u209 : (Nat → Int64)) => fl [wC ct g kc, wS ct (g 1) v, wS ct (g 2) (sl 0), wS ct (g 3) (sl 1), wV ct g b, wS ct (g 5) (r 0), wS ct (g 6) (r 1), wS ct (g 7) (r 2), wS ct (g 8) (r 3), wS ct (g 9) (r 4), wS ct (g 10) (r 5), wT ct (g 11) tx, wL ct (g 12) y, wO ct (g 13) o, wR ct (g 14) x, wM ct am w hs, wQ ct qa u209]) 17 [0, 1, 16] [2, 3, 4, 5, 6, 7, 8, 9, 10, 11, 12, 13, 14, 15] (kL_personOf l hl9 D ct g qa kc v ou (xs (ix (x4 + 1))) (xs (ix (x4 + 2))) _ hw) (vx_cwSW 4 X.1.2.2.2.2 gL_law_L_personOf rfl rfl rfl (by decide +kernel) ⟨Nat.le_of_ble_eq_true rfl, Nat.le_of_ble_eq_true rfl⟩) dL_law_800 rfl rfl (Nat.le_of_ble_eq_true rfl) ⟨by show _ ≤ 601024; omega, by show _ ≤ 7293034; omega⟩ rfl rfl rfl (by decide) (fun _ => rfl) (fun _ => rfl) (fun _ => rfl) (fun _ => rfl) (fun r208 u209 hw => ?_)
  obtain ⟨ou210, hou210⟩ : ∃ z : Nat → Int64, z = u209 := ⟨_, rfl⟩
  rw [← hou210] at hw
  rw [← hou210]
  refine g_istore X [(5, .int r208), (0, .ref sb), (1, .ref (g 0 0)), (2, .ref (am 0)), (3, .ref (qa 0)), (4, .int x4)] dL_law_803 (by decide) rfl ?_
  refine g_aload_n X 3 dL_law_805 rfl rfl ?_
  refine g_aload_n X 1 dL_law_806 rfl rfl ?_
  refine g_iload X 5 dL_law_807 rfl ?_
  refine g_iconst (v := 1) X rfl dL_law_809 ?_
  refine g_iadd X dL_law_810 ?_
  obtain ⟨h211, hw⟩ := hw
  refine g_sld X hX hbl hbA h211 dL_law_811 ?_
  refine g_aload_n X 1 dL_law_812 rfl rfl ?_
  refine g_iload X 5 dL_law_813 rfl ?_
  refine g_iconst (v := 2) X rfl dL_law_815 ?_
  refine g_iadd X dL_law_816 ?_
  obtain ⟨h212, hw⟩ := hw
  refine g_sld X hX hbl hbA h212 dL_law_817 ?_
  refine g_ciV X [wC ct g kc, wS ct (g 1) v, wS ct (g 2) (sl 0), wS ct (g 3) (sl 1), wV ct g b, wS ct (g 5) (r 0), wS ct (g 6) (r 1), wS ct (g 7) (r 2), wS ct (g 8) (r 3), wS ct (g 9) (r 4), wS ct (g 10) (r 5), wT ct (g 11) tx, wL ct (g 12) y, wO ct (g 13) o, wR ct (g 14) x, wM ct am w hs, wQ ct qa ou210] (fun (u214 : Mem) => [wC ct g kc, wS ct (g 1) v, wS ct (g 2) (sl 0), wS ct (g 3) (sl 1), wV ct g b, wS ct (g 5) (r 0), wS ct (g 6) (r 1), wS ct (g 7) (r 2), wS ct (g 8) (r 3), wS ct (g 9) (r 4), wS ct (g 10) (r 5), wT ct (g 11) tx, wL ct (g 12) y, wO ct (g 13) o, wR ct (g 14) x, wM ct am u214 hs, wQ ct qa ou210]) (fun (u214 : Mem) => fl [wC ct g kc, wS ct (g 1) v, wS ct (g 2) (sl 0), wS ct (g 3) (sl 1), wV ct g b, wS ct (g 5) (r 0), wS ct (g 6) (r 1), wS ct (g 7) (r 2), wS ct (g 8) (r 3), wS ct (g 9) (r 4), wS ct (g 10) (r 5), wT ct (g 11) tx, wL ct (g 12) y, wO ct (g 13) o, wR ct (g 14) x, wM ct am u214 hs, wQ ct qa ou210]) 17 [15] [0, 1, 2, 3, 4, 5, 6, 7, 8, 9, 10, 11, 12, 13, 14, 16] 0 (kX8_personOf l D ct am w hs (xs (ix (x4 + 1))) (xs (ix (x4 + 2))) _ hw) (cwV 2 X.1.2.2.2.2 gL_law_X8_personOf rfl rfl rfl (by decide +kernel) ⟨Nat.le_of_ble_eq_true rfl, Nat.le_of_ble_eq_true rfl⟩) dL_law_818 rfl rfl (Nat.le_of_ble_eq_true rfl) ⟨by show _ ≤ 601024; omega, by show _ ≤ 7293034; omega⟩ rfl rfl rfl (by decide) (fun _ => rfl) (fun _ => rfl) (fun _ => rfl) (fun _ => rfl) rfl rfl rfl (fun r213 u214 hw => ?_)
  obtain ⟨w215, hw215⟩ : ∃ z : Mem, z = u214 := ⟨_, rfl⟩
  rw [← hw215] at hw
  rw [← hw215]
  refine g_istore X [(6, .int r213), (5, .int r208), (0, .ref sb), (1, .ref (g 0 0)), (2, .ref (am 0)), (3, .ref (qa 0)), (4, .int x4)] dL_law_821 (by decide) rfl ?_
  refine g_aload_n X 4 dL_law_823 rfl rfl ?_
  refine g_ciV X [wC ct g kc, wS ct (g 1) v, wS ct (g 2) (sl 0), wS ct (g 3) (sl 1), wV ct g b, wS ct (g 5) (r 0), wS ct (g 6) (r 1), wS ct (g 7) (r 2), wS ct (g 8) (r 3), wS ct (g 9) (r 4), wS ct (g 10) (r 5), wT ct (g 11) tx, wL ct (g 12) y, wO ct (g 13) o, wR ct (g 14) x, wM ct am w215 hs, wQ ct qa ou210] (fun (_ : Unit) => [wC ct g kc, wS ct (g 1) v, wS ct (g 2) (sl 0), wS ct (g 3) (sl 1), wV ct g b, wS ct (g 5) (r 0), wS ct (g 6) (r 1), wS ct (g 7) (r 2), wS ct (g 8) (r 3), wS ct (g 9) (r 4), wS ct (g 10) (r 5), wT ct (g 11) tx, wL ct (g 12) y, wO ct (g 13) o, wR ct (g 14) x, wM ct am w215 hs, wQ ct qa ou210]) (fun _ => fl [wC ct g kc, wS ct (g 1) v, wS ct (g 2) (sl 0), wS ct (g 3) (sl 1), wV ct g b, wS ct (g 5) (r 0), wS ct (g 6) (r 1), wS ct (g 7) (r 2), wS ct (g 8) (r 3), wS ct (g 9) (r 4), wS ct (g 10) (r 5), wT ct (g 11) tx, wL ct (g 12) y, wO ct (g 13) o, wR ct (g 14) x, wM ct am w215 hs, wQ ct qa ou210]) 17 [15] [0, 1, 2, 3, 4, 5, 6, 7, 8, 9, 10, 11, 12, 13, 14, 16] 0 (kX8_thrown l D ct am w215 hs _ hw) (cwV 0 X.1.2.2.2.2 gL_law_X8_thrown rfl rfl rfl (by decide +kernel) ⟨Nat.le_of_ble_eq_true rfl, Nat.le_of_ble_eq_true rfl⟩) dL_law_824 rfl rfl (Nat.le_of_ble_eq_true rfl) ⟨by show _ ≤ 601024; omega, by show _ ≤ 7293034; omega⟩ rfl rfl rfl (by decide) (fun _ => rfl) (fun _ => rfl) (fun _ => rfl) (fun _ => rfl) rfl rfl rfl (fun r216 _ hw => ?_)
  refine g_iload X 1 dL_law_827 rfl ?_
  refine g_icmp_eq X 834 dL_law_829 (by decide) (fun c218 => ?_) (fun c218 => ?_)
  · replace hw := hw.1 c218
    refine g_iload X 1 dL_law_834 rfl ?_
    refine g_if_ne X 851 dL_law_836 (by decide) (fun c219 => ?_) (fun c219 => ?_)
    · replace hw := hw.1 c219
      refine g_goto X 1318 dL_law_851 (by decide) ?_
      refine g_iinc X [(4, .int (x4 + 3)), (6, .int r213), (5, .int r208), (0, .ref sb), (1, .ref (g 0 0)), (2, .ref (am 0)), (3, .ref (qa 0))] 6 dL_law_1318 rfl rfl (by decide) rfl ?_
      refine g_goto X 23 dL_law_1321 (by decide) ?_
      refine g_sub [(0, .ref sb), (1, .ref (g 0 0)), (2, .ref (am 0)), (3, .ref (qa 0)), (4, .int (x4 + 3))] [3, 4, 5, 6, 0] rfl ?_
      refine g_wide (k2 := 117 + (513 - n)) (j2 := 2344 + 6 * (513 - n)) (by omega) (by omega) ?_
      exact ih (by omega) _ _ _ _ _ _ _ _ _ _ _ _ _ hw
    · replace hw := hw.2 c219
      refine g_aload_n X 5 dL_law_839 rfl rfl ?_
      refine g_iconst (v := 0) X rfl dL_law_840 ?_
      refine g_lald X 116 4 dL_law_841 rfl rfl (vp_in_nI (n := 0) (by decide) (by decide)) ?_
      refine g_iload X 0 dL_law_842 rfl ?_
      refine g_i2l X dL_law_844 ?_
      refine g_lcmp X dL_law_845 ?_
      refine g_if_eq X 851 dL_law_846 (by decide) (fun c220 => ?_) (fun c220 => ?_)
      · replace hw := hw.1 c220
        refine g_goto X 1318 dL_law_851 (by decide) ?_
        refine g_iinc X [(4, .int (x4 + 3)), (6, .int r213), (5, .int r208), (0, .ref sb), (1, .ref (g 0 0)), (2, .ref (am 0)), (3, .ref (qa 0))] 6 dL_law_1318 rfl rfl (by decide) rfl ?_
        refine g_goto X 23 dL_law_1321 (by decide) ?_
        refine g_sub [(0, .ref sb), (1, .ref (g 0 0)), (2, .ref (am 0)), (3, .ref (qa 0)), (4, .int (x4 + 3))] [3, 4, 5, 6, 0] rfl ?_
        refine g_wide (k2 := 117 + (513 - n)) (j2 := 2344 + 6 * (513 - n)) (by omega) (by omega) ?_
        exact ih (by omega) _ _ _ _ _ _ _ _ _ _ _ _ _ hw
      · replace hw := hw.2 c220
        refine g_iconst (v := 0) X rfl dL_law_849 ?_
        exact hw.elim
  · replace hw := hw.2 c218
    refine g_iconst (v := 0) X rfl dL_law_832 ?_
    exact hw.elim
set_option maxHeartbeats 20000000 in
set_option maxRecDepth 20000 in
theorem kL_arm_14 {p : Program} {l : Launch} {e : Env} {s : State} {m : MethodId} {args : Array Value} {below : List Frame} {meth : Method} {c : Code} {D : va_G} {ct : Nat → ClassId} {A : Nat → Prop} {Q : State → Prop} {sb L : Nat} {xs : Nat → Int32} {g : Nat → Nat → Nat} {am qa : Nat → Nat} (hl9 : l.stackTraces = false) (X : Cx p s m args meth c cL_law 9 RL wsL_law D (tyz ct) A s.heap ret) (XX : XL A s) (hX : va_X sb L xs s s.heap) (hbl : sb < s.heap.size) (hbA : ¬ A sb) (hend : ∀ (k j : Nat) (w : va_W) (lv : List (Nat × Value)), k ≤ 601024 → j ≤ 7293034 → GG p l e room_1 s m args below meth c D A s.heap 9 Q (w) (k) (j) lv 1325 [.int 1])  {n : Nat} (ih : n ≤ 513 → ∀ (kc : Mem) (v : Mem) (sl : Nat → Mem) (b : Mem) (r : Nat → Mem) (tx : Mem) (y : Mem) (o : Mem) (x : Mem) (w : Mem) (hs : Int64) (ou : Nat → Int64) (x4 : Int32), PL_law_23 xs L n kc v sl b r tx y o x w hs ou x4 → GG p l e room_1 s m args below meth c D A s.heap 9 Q (fl [wC ct g kc, wS ct (g 1) v, wS ct (g 2) (sl 0), wS ct (g 3) (sl 1), wV ct g b, wS ct (g 5) (r 0), wS ct (g 6) (r 1), wS ct (g 7) (r 2), wS ct (g 8) (r 3), wS ct (g 9) (r 4), wS ct (g 10) (r 5), wT ct (g 11) tx, wL ct (g 12) y, wO ct (g 13) o, wR ct (g 14) x, wM ct am w hs, wQ ct qa ou]) (117 + (513 - n)) (2344 + 6 * (513 - n)) [(0, .ref sb), (1, .ref (g 0 0)), (2, .ref (am 0)), (3, .ref (qa 0)), (4, .int x4)] 23 []) (hn9 : n + 1 ≤ 513) (kc : Mem) (v : Mem) (sl : Nat → Mem) (b : Mem) (r : Nat → Mem) (tx : Mem) (y : Mem) (o : Mem) (x : Mem) (w : Mem) (hs : Int64) (ou : Nat → Int64) (x4 : Int32) (c221 : ((xs (ix x4)) &&& 31) = 14) (hw : vp_in (x4 + 1) L ∧ vp_in (x4 + 2) L ∧ PL_coupleOf kc v ou (xs (ix (x4 + 1))) (xs (ix (x4 + 2))) (fun r224 ou226 => vp_in (x4 + 1) L ∧ vp_in (x4 + 2) L ∧ PX8_coupleOf w hs (xs (ix (x4 + 1))) (xs (ix (x4 + 2))) (fun r229 w231 => PX8_thrown w231 hs (fun r232 => ((r232 = r224) → ((¬ r224 = 0) → PL_law_23 xs L n kc v sl b r tx y o x w231 hs ou226 (x4 + 3)) ∧ ((r224 = 0) → (((lg_cmp (ou226 0) r229.toInt64) = 0) → PL_law_23 xs L n kc v sl b r tx y o x w231 hs ou226 (x4 + 3)) ∧ ((¬ (lg_cmp (ou226 0) r229.toInt64) = 0) → False))) ∧ ((¬ r232 = r224) → False))))) : GG p l e room_1 s m args below meth c D A s.heap 9 Q (fl [wC ct g kc, wS ct (g 1) v, wS ct (g 2) (sl 0), wS ct (g 3) (sl 1), wV ct g b, wS ct (g 5) (r 0), wS ct (g 6) (r 1), wS ct (g 7) (r 2), wS ct (g 8) (r 3), wS ct (g 9) (r 4), wS ct (g 10) (r 5), wT ct (g 11) tx, wL ct (g 12) y, wO ct (g 13) o, wR ct (g 14) x, wM ct am w hs, wQ ct qa ou]) (117 + (513 - (n + 1))) (2344 + 6 * (513 - (n + 1))) [(0, .ref sb), (1, .ref (g 0 0)), (2, .ref (am 0)), (3, .ref (qa 0)), (4, .int x4)] 854 [] := by
  refine g_aload_n X 1 dL_law_854 rfl rfl ?_
  refine g_aload_n X 0 dL_law_855 rfl rfl ?_
  refine g_iload X 4 dL_law_856 rfl ?_
  refine g_iconst (v := 1) X rfl dL_law_858 ?_
  refine g_iadd X dL_law_859 ?_
  obtain ⟨h222, hw⟩ := hw
  refine g_sld X hX hbl hbA h222 dL_law_860 ?_
  refine g_aload_n X 0 dL_law_861 rfl rfl ?_
  refine g_iload X 4 dL_law_862 rfl ?_
  refine g_iconst (v := 2) X rfl dL_law_864 ?_
  refine g_iadd X dL_law_865 ?_
  obtain ⟨h223, hw⟩ := hw
  refine g_sld X hX hbl hbA h223 dL_law_866 ?_
  refine g_aload_n X 3 dL_law_867 rfl rfl ?_
  refine g_chS X XX [wC ct g kc, wS ct (g 1) v, wS ct (g 2) (sl 0), wS ct (g 3) (sl 1), wV ct g b, wS ct (g 5) (r 0), wS ct (g 6) (r 1), wS ct (g 7) (r 2), wS ct (g 8) (r 3), wS ct (g 9) (r 4), wS ct (g 10) (r 5), wT ct (g 11) tx, wL ct (g 12) y, wO ct (g 13) o, wR ct (g 14) x, wM ct am w hs, wQ ct qa ou] (fun (u225 : (Nat → Int64)) => [wC ct g kc, wS ct (g 1) v, wS ct (g 2) (sl 0), wS ct (g 3) (sl 1), wV ct g b, wS ct (g 5) (r 0), wS ct (g 6) (r 1), wS ct (g 7) (r 2), wS ct (g 8) (r 3), wS ct (g 9) (r 4), wS ct (g 10) (r 5), wT ct (g 11) tx, wL ct (g 12) y, wO ct (g 13) o, wR ct (g 14) x, wM ct am w hs, wQ ct qa u225]) (fun (u225 : (Nat → Int64)) => fl [wC ct g kc, wS ct (g 1) v, wS ct (g 2) (sl 0), wS ct (g 3) (sl 1), wV ct g b, wS ct (g 5) (r 0), wS ct (g 6) (r 1), wS ct (g 7) (r 2), wS ct (g 8) (r 3), wS ct (g 9) (r 4), wS ct (g 10) (r 5), wT ct (g 11) tx, wL ct (g 12) y, wO ct (g 13) o, wR ct (g 14) x, wM ct am w hs, wQ ct qa u225]) 17 [0, 1, 16] [2, 3, 4, 5, 6, 7, 8, 9, 10, 11, 12, 13, 14, 15] (kL_coupleOf l hl9 D ct g qa kc v ou (xs (ix (x4 + 1))) (xs (ix (x4 + 2))) _ hw) (vx_cwSW 4 X.1.2.2.2.2 gL_law_L_coupleOf rfl rfl rfl (by decide +kernel) ⟨Nat.le_of_ble_eq_true rfl, Nat.le_of_ble_eq_true rfl⟩) dL_law_868 rfl rfl (Nat.le_of_ble_eq_true rfl) ⟨by show _ ≤ 601024; omega, by show _ ≤ 7293034; omega⟩ rfl rfl rfl (by decide) (fun _ => rfl) (fun _ => rfl) (fun _ => rfl) (fun _ => rfl) (fun r224 u225 hw => ?_)
  obtain ⟨ou226, hou226⟩ : ∃ z : Nat → Int64, z = u225 := ⟨_, rfl⟩
  rw [← hou226] at hw
  rw [← hou226]
  refine g_istore X [(5, .int r224), (0, .ref sb), (1, .ref (g 0 0)), (2, .ref (am 0)), (3, .ref (qa 0)), (4, .int x4)] dL_law_871 (by decide) rfl ?_
  refine g_aload_n X 3 dL_law_873 rfl rfl ?_
  refine g_aload_n X 1 dL_law_874 rfl rfl ?_
  refine g_iload X 5 dL_law_875 rfl ?_
  refine g_iconst (v := 1) X rfl dL_law_877 ?_
  refine g_iadd X dL_law_878 ?_
  obtain ⟨h227, hw⟩ := hw
  refine g_sld X hX hbl hbA h227 dL_law_879 ?_
  refine g_aload_n X 1 dL_law_880 rfl rfl ?_
  refine g_iload X 5 dL_law_881 rfl ?_
  refine g_iconst (v := 2) X rfl dL_law_883 ?_
  refine g_iadd X dL_law_884 ?_
  obtain ⟨h228, hw⟩ := hw
  refine g_sld X hX hbl hbA h228 dL_law_885 ?_
  refine g_ciV X [wC ct g kc, wS ct (g 1) v, wS ct (g 2) (sl 0), wS ct (g 3) (sl 1), wV ct g b, wS ct (g 5) (r 0), wS ct (g 6) (r 1), wS ct (g 7) (r 2), wS ct (g 8) (r 3), wS ct (g 9) (r 4), wS ct (g 10) (r 5), wT ct (g 11) tx, wL ct (g 12) y, wO ct (g 13) o, wR ct (g 14) x, wM ct am w hs, wQ ct qa ou226] (fun (u230 : Mem) => [wC ct g kc, wS ct (g 1) v, wS ct (g 2) (sl 0), wS ct (g 3) (sl 1), wV ct g b, wS ct (g 5) (r 0), wS ct (g 6) (r 1), wS ct (g 7) (r 2), wS ct (g 8) (r 3), wS ct (g 9) (r 4), wS ct (g 10) (r 5), wT ct (g 11) tx, wL ct (g 12) y, wO ct (g 13) o, wR ct (g 14) x, wM ct am u230 hs, wQ ct qa ou226]) (fun (u230 : Mem) => fl [wC ct g kc, wS ct (g 1) v, wS ct (g 2) (sl 0), wS ct (g 3) (sl 1), wV ct g b, wS ct (g 5) (r 0), wS ct (g 6) (r 1), wS ct (g 7) (r 2), wS ct (g 8) (r 3), wS ct (g 9) (r 4), wS ct (g 10) (r 5), wT ct (g 11) tx, wL ct (g 12) y, wO ct (g 13) o, wR ct (g 14) x, wM ct am u230 hs, wQ ct qa ou226]) 17 [15] [0, 1, 2, 3, 4, 5, 6, 7, 8, 9, 10, 11, 12, 13, 14, 16] 0 (kX8_coupleOf l D ct am w hs (xs (ix (x4 + 1))) (xs (ix (x4 + 2))) _ hw) (cwV 2 X.1.2.2.2.2 gL_law_X8_coupleOf rfl rfl rfl (by decide +kernel) ⟨Nat.le_of_ble_eq_true rfl, Nat.le_of_ble_eq_true rfl⟩) dL_law_886 rfl rfl (Nat.le_of_ble_eq_true rfl) ⟨by show _ ≤ 601024; omega, by show _ ≤ 7293034; omega⟩ rfl rfl rfl (by decide) (fun _ => rfl) (fun _ => rfl) (fun _ => rfl) (fun _ => rfl) rfl rfl rfl (fun r229 u230 hw => ?_)
  obtain ⟨w231, hw231⟩ : ∃ z : Mem, z = u230 := ⟨_, rfl⟩
  rw [← hw231] at hw
  rw [← hw231]
  refine g_istore X [(6, .int r229), (5, .int r224), (0, .ref sb), (1, .ref (g 0 0)), (2, .ref (am 0)), (3, .ref (qa 0)), (4, .int x4)] dL_law_889 (by decide) rfl ?_
  refine g_aload_n X 4 dL_law_891 rfl rfl ?_
  refine g_ciV X [wC ct g kc, wS ct (g 1) v, wS ct (g 2) (sl 0), wS ct (g 3) (sl 1), wV ct g b, wS ct (g 5) (r 0), wS ct (g 6) (r 1), wS ct (g 7) (r 2), wS ct (g 8) (r 3), wS ct (g 9) (r 4), wS ct (g 10) (r 5), wT ct (g 11) tx, wL ct (g 12) y, wO ct (g 13) o, wR ct (g 14) x, wM ct am w231 hs, wQ ct qa ou226] (fun (_ : Unit) => [wC ct g kc, wS ct (g 1) v, wS ct (g 2) (sl 0), wS ct (g 3) (sl 1), wV ct g b, wS ct (g 5) (r 0), wS ct (g 6) (r 1), wS ct (g 7) (r 2), wS ct (g 8) (r 3), wS ct (g 9) (r 4), wS ct (g 10) (r 5), wT ct (g 11) tx, wL ct (g 12) y, wO ct (g 13) o, wR ct (g 14) x, wM ct am w231 hs, wQ ct qa ou226]) (fun _ => fl [wC ct g kc, wS ct (g 1) v, wS ct (g 2) (sl 0), wS ct (g 3) (sl 1), wV ct g b, wS ct (g 5) (r 0), wS ct (g 6) (r 1), wS ct (g 7) (r 2), wS ct (g 8) (r 3), wS ct (g 9) (r 4), wS ct (g 10) (r 5), wT ct (g 11) tx, wL ct (g 12) y, wO ct (g 13) o, wR ct (g 14) x, wM ct am w231 hs, wQ ct qa ou226]) 17 [15] [0, 1, 2, 3, 4, 5, 6, 7, 8, 9, 10, 11, 12, 13, 14, 16] 0 (kX8_thrown l D ct am w231 hs _ hw) (cwV 0 X.1.2.2.2.2 gL_law_X8_thrown rfl rfl rfl (by decide +kernel) ⟨Nat.le_of_ble_eq_true rfl, Nat.le_of_ble_eq_true rfl⟩) dL_law_892 rfl rfl (Nat.le_of_ble_eq_true rfl) ⟨by show _ ≤ 601024; omega, by show _ ≤ 7293034; omega⟩ rfl rfl rfl (by decide) (fun _ => rfl) (fun _ => rfl) (fun _ => rfl) (fun _ => rfl) rfl rfl rfl (fun r232 _ hw => ?_)
  refine g_iload X 1 dL_law_895 rfl ?_
  refine g_icmp_eq X 902 dL_law_897 (by decide) (fun c234 => ?_) (fun c234 => ?_)
  · replace hw := hw.1 c234
    refine g_iload X 1 dL_law_902 rfl ?_
    refine g_if_ne X 919 dL_law_904 (by decide) (fun c235 => ?_) (fun c235 => ?_)
    · replace hw := hw.1 c235
      refine g_goto X 1318 dL_law_919 (by decide) ?_
      refine g_iinc X [(4, .int (x4 + 3)), (6, .int r229), (5, .int r224), (0, .ref sb), (1, .ref (g 0 0)), (2, .ref (am 0)), (3, .ref (qa 0))] 6 dL_law_1318 rfl rfl (by decide) rfl ?_
      refine g_goto X 23 dL_law_1321 (by decide) ?_
      refine g_sub [(0, .ref sb), (1, .ref (g 0 0)), (2, .ref (am 0)), (3, .ref (qa 0)), (4, .int (x4 + 3))] [3, 4, 5, 6, 0] rfl ?_
      refine g_wide (k2 := 117 + (513 - n)) (j2 := 2344 + 6 * (513 - n)) (by omega) (by omega) ?_
      exact ih (by omega) _ _ _ _ _ _ _ _ _ _ _ _ _ hw
    · replace hw := hw.2 c235
      refine g_aload_n X 5 dL_law_907 rfl rfl ?_
      refine g_iconst (v := 0) X rfl dL_law_908 ?_
      refine g_lald X 116 4 dL_law_909 rfl rfl (vp_in_nI (n := 0) (by decide) (by decide)) ?_
      refine g_iload X 0 dL_law_910 rfl ?_
      refine g_i2l X dL_law_912 ?_
      refine g_lcmp X dL_law_913 ?_
      refine g_if_eq X 919 dL_law_914 (by decide) (fun c236 => ?_) (fun c236 => ?_)
      · replace hw := hw.1 c236
        refine g_goto X 1318 dL_law_919 (by decide) ?_
        refine g_iinc X [(4, .int (x4 + 3)), (6, .int r229), (5, .int r224), (0, .ref sb), (1, .ref (g 0 0)), (2, .ref (am 0)), (3, .ref (qa 0))] 6 dL_law_1318 rfl rfl (by decide) rfl ?_
        refine g_goto X 23 dL_law_1321 (by decide) ?_
        refine g_sub [(0, .ref sb), (1, .ref (g 0 0)), (2, .ref (am 0)), (3, .ref (qa 0)), (4, .int (x4 + 3))] [3, 4, 5, 6, 0] rfl ?_
        refine g_wide (k2 := 117 + (513 - n)) (j2 := 2344 + 6 * (513 - n)) (by omega) (by omega) ?_
        exact ih (by omega) _ _ _ _ _ _ _ _ _ _ _ _ _ hw
      · replace hw := hw.2 c236
        refine g_iconst (v := 0) X rfl dL_law_917 ?_
        exact hw.elim
  · replace hw := hw.2 c234
    refine g_iconst (v := 0) X rfl dL_law_900 ?_
    exact hw.elim
set_option maxHeartbeats 20000000 in
set_option maxRecDepth 20000 in
theorem kL_arm_15 {p : Program} {l : Launch} {e : Env} {s : State} {m : MethodId} {args : Array Value} {below : List Frame} {meth : Method} {c : Code} {D : va_G} {ct : Nat → ClassId} {A : Nat → Prop} {Q : State → Prop} {sb L : Nat} {xs : Nat → Int32} {g : Nat → Nat → Nat} {am qa : Nat → Nat} (hl9 : l.stackTraces = false) (X : Cx p s m args meth c cL_law 9 RL wsL_law D (tyz ct) A s.heap ret) (XX : XL A s) (hX : va_X sb L xs s s.heap) (hbl : sb < s.heap.size) (hbA : ¬ A sb) (hend : ∀ (k j : Nat) (w : va_W) (lv : List (Nat × Value)), k ≤ 601024 → j ≤ 7293034 → GG p l e room_1 s m args below meth c D A s.heap 9 Q (w) (k) (j) lv 1325 [.int 1])  {n : Nat} (ih : n ≤ 513 → ∀ (kc : Mem) (v : Mem) (sl : Nat → Mem) (b : Mem) (r : Nat → Mem) (tx : Mem) (y : Mem) (o : Mem) (x : Mem) (w : Mem) (hs : Int64) (ou : Nat → Int64) (x4 : Int32), PL_law_23 xs L n kc v sl b r tx y o x w hs ou x4 → GG p l e room_1 s m args below meth c D A s.heap 9 Q (fl [wC ct g kc, wS ct (g 1) v, wS ct (g 2) (sl 0), wS ct (g 3) (sl 1), wV ct g b, wS ct (g 5) (r 0), wS ct (g 6) (r 1), wS ct (g 7) (r 2), wS ct (g 8) (r 3), wS ct (g 9) (r 4), wS ct (g 10) (r 5), wT ct (g 11) tx, wL ct (g 12) y, wO ct (g 13) o, wR ct (g 14) x, wM ct am w hs, wQ ct qa ou]) (117 + (513 - n)) (2344 + 6 * (513 - n)) [(0, .ref sb), (1, .ref (g 0 0)), (2, .ref (am 0)), (3, .ref (qa 0)), (4, .int x4)] 23 []) (hn9 : n + 1 ≤ 513) (kc : Mem) (v : Mem) (sl : Nat → Mem) (b : Mem) (r : Nat → Mem) (tx : Mem) (y : Mem) (o : Mem) (x : Mem) (w : Mem) (hs : Int64) (ou : Nat → Int64) (x4 : Int32) (c237 : ((xs (ix x4)) &&& 31) = 15) (hw : vp_in (x4 + 1) L ∧ vp_in (x4 + 2) L ∧ PL_at kc v ou (xs (ix (x4 + 1))) (xs (ix (x4 + 2))) (fun r240 ou242 => vp_in (x4 + 1) L ∧ vp_in (x4 + 2) L ∧ PX8_at w hs (xs (ix (x4 + 1))) (xs (ix (x4 + 2))) (fun r245 w247 => PX8_thrown w247 hs (fun r248 => ((r248 = r240) → ((¬ r240 = 0) → PL_law_23 xs L n kc v sl b r tx y o x w247 hs ou242 (x4 + 3)) ∧ ((r240 = 0) → (((lg_cmp (ou242 0) r245.toInt64) = 0) → PL_law_23 xs L n kc v sl b r tx y o x w247 hs ou242 (x4 + 3)) ∧ ((¬ (lg_cmp (ou242 0) r245.toInt64) = 0) → False))) ∧ ((¬ r248 = r240) → False))))) : GG p l e room_1 s m args below meth c D A s.heap 9 Q (fl [wC ct g kc, wS ct (g 1) v, wS ct (g 2) (sl 0), wS ct (g 3) (sl 1), wV ct g b, wS ct (g 5) (r 0), wS ct (g 6) (r 1), wS ct (g 7) (r 2), wS ct (g 8) (r 3), wS ct (g 9) (r 4), wS ct (g 10) (r 5), wT ct (g 11) tx, wL ct (g 12) y, wO ct (g 13) o, wR ct (g 14) x, wM ct am w hs, wQ ct qa ou]) (117 + (513 - (n + 1))) (2344 + 6 * (513 - (n + 1))) [(0, .ref sb), (1, .ref (g 0 0)), (2, .ref (am 0)), (3, .ref (qa 0)), (4, .int x4)] 922 [] := by
  refine g_aload_n X 1 dL_law_922 rfl rfl ?_
  refine g_aload_n X 0 dL_law_923 rfl rfl ?_
  refine g_iload X 4 dL_law_924 rfl ?_
  refine g_iconst (v := 1) X rfl dL_law_926 ?_
  refine g_iadd X dL_law_927 ?_
  obtain ⟨h238, hw⟩ := hw
  refine g_sld X hX hbl hbA h238 dL_law_928 ?_
  refine g_aload_n X 0 dL_law_929 rfl rfl ?_
  refine g_iload X 4 dL_law_930 rfl ?_
  refine g_iconst (v := 2) X rfl dL_law_932 ?_
  refine g_iadd X dL_law_933 ?_
  obtain ⟨h239, hw⟩ := hw
  refine g_sld X hX hbl hbA h239 dL_law_934 ?_
  refine g_aload_n X 3 dL_law_935 rfl rfl ?_
  refine g_chS X XX [wC ct g kc, wS ct (g 1) v, wS ct (g 2) (sl 0), wS ct (g 3) (sl 1), wV ct g b, wS ct (g 5) (r 0), wS ct (g 6) (r 1), wS ct (g 7) (r 2), wS ct (g 8) (r 3), wS ct (g 9) (r 4), wS ct (g 10) (r 5), wT ct (g 11) tx, wL ct (g 12) y, wO ct (g 13) o, wR ct (g 14) x, wM ct am w hs, wQ ct qa ou] (fun (u241 : (Nat → Int64)) => [wC ct g kc, wS ct (g 1) v, wS ct (g 2) (sl 0), wS ct (g 3) (sl 1), wV ct g b, wS ct (g 5) (r 0), wS ct (g 6) (r 1), wS ct (g 7) (r 2), wS ct (g 8) (r 3), wS ct (g 9) (r 4), wS ct (g 10) (r 5), wT ct (g 11) tx, wL ct (g 12) y, wO ct (g 13) o, wR ct (g 14) x, wM ct am w hs, wQ ct qa u241]) (fun (u241 : (Nat → Int64)) => fl [wC ct g kc, wS ct (g 1) v, wS ct (g 2) (sl 0), wS ct (g 3) (sl 1), wV ct g b, wS ct (g 5) (r 0), wS ct (g 6) (r 1), wS ct (g 7) (r 2), wS ct (g 8) (r 3), wS ct (g 9) (r 4), wS ct (g 10) (r 5), wT ct (g 11) tx, wL ct (g 12) y, wO ct (g 13) o, wR ct (g 14) x, wM ct am w hs, wQ ct qa u241]) 17 [0, 1, 16] [2, 3, 4, 5, 6, 7, 8, 9, 10, 11, 12, 13, 14, 15] (kL_at l hl9 D ct g qa kc v ou (xs (ix (x4 + 1))) (xs (ix (x4 + 2))) _ hw) (vx_cwSW 4 X.1.2.2.2.2 gL_law_L_at rfl rfl rfl (by decide +kernel) ⟨Nat.le_of_ble_eq_true rfl, Nat.le_of_ble_eq_true rfl⟩) dL_law_936 rfl rfl (Nat.le_of_ble_eq_true rfl) ⟨by show _ ≤ 601024; omega, by show _ ≤ 7293034; omega⟩ rfl rfl rfl (by decide) (fun _ => rfl) (fun _ => rfl) (fun _ => rfl) (fun _ => rfl) (fun r240 u241 hw => ?_)
  obtain ⟨ou242, hou242⟩ : ∃ z : Nat → Int64, z = u241 := ⟨_, rfl⟩
  rw [← hou242] at hw
  rw [← hou242]
  refine g_istore X [(5, .int r240), (0, .ref sb), (1, .ref (g 0 0)), (2, .ref (am 0)), (3, .ref (qa 0)), (4, .int x4)] dL_law_939 (by decide) rfl ?_
  refine g_aload_n X 3 dL_law_941 rfl rfl ?_
  refine g_aload_n X 1 dL_law_942 rfl rfl ?_
  refine g_iload X 5 dL_law_943 rfl ?_
  refine g_iconst (v := 1) X rfl dL_law_945 ?_
  refine g_iadd X dL_law_946 ?_
  obtain ⟨h243, hw⟩ := hw
  refine g_sld X hX hbl hbA h243 dL_law_947 ?_
  refine g_aload_n X 1 dL_law_948 rfl rfl ?_
  refine g_iload X 5 dL_law_949 rfl ?_
  refine g_iconst (v := 2) X rfl dL_law_951 ?_
  refine g_iadd X dL_law_952 ?_
  obtain ⟨h244, hw⟩ := hw
  refine g_sld X hX hbl hbA h244 dL_law_953 ?_
  refine g_ciV X [wC ct g kc, wS ct (g 1) v, wS ct (g 2) (sl 0), wS ct (g 3) (sl 1), wV ct g b, wS ct (g 5) (r 0), wS ct (g 6) (r 1), wS ct (g 7) (r 2), wS ct (g 8) (r 3), wS ct (g 9) (r 4), wS ct (g 10) (r 5), wT ct (g 11) tx, wL ct (g 12) y, wO ct (g 13) o, wR ct (g 14) x, wM ct am w hs, wQ ct qa ou242] (fun (u246 : Mem) => [wC ct g kc, wS ct (g 1) v, wS ct (g 2) (sl 0), wS ct (g 3) (sl 1), wV ct g b, wS ct (g 5) (r 0), wS ct (g 6) (r 1), wS ct (g 7) (r 2), wS ct (g 8) (r 3), wS ct (g 9) (r 4), wS ct (g 10) (r 5), wT ct (g 11) tx, wL ct (g 12) y, wO ct (g 13) o, wR ct (g 14) x, wM ct am u246 hs, wQ ct qa ou242]) (fun (u246 : Mem) => fl [wC ct g kc, wS ct (g 1) v, wS ct (g 2) (sl 0), wS ct (g 3) (sl 1), wV ct g b, wS ct (g 5) (r 0), wS ct (g 6) (r 1), wS ct (g 7) (r 2), wS ct (g 8) (r 3), wS ct (g 9) (r 4), wS ct (g 10) (r 5), wT ct (g 11) tx, wL ct (g 12) y, wO ct (g 13) o, wR ct (g 14) x, wM ct am u246 hs, wQ ct qa ou242]) 17 [15] [0, 1, 2, 3, 4, 5, 6, 7, 8, 9, 10, 11, 12, 13, 14, 16] 0 (kX8_at l D ct am w hs (xs (ix (x4 + 1))) (xs (ix (x4 + 2))) _ hw) (cwV 2 X.1.2.2.2.2 gL_law_X8_at rfl rfl rfl (by decide +kernel) ⟨Nat.le_of_ble_eq_true rfl, Nat.le_of_ble_eq_true rfl⟩) dL_law_954 rfl rfl (Nat.le_of_ble_eq_true rfl) ⟨by show _ ≤ 601024; omega, by show _ ≤ 7293034; omega⟩ rfl rfl rfl (by decide) (fun _ => rfl) (fun _ => rfl) (fun _ => rfl) (fun _ => rfl) rfl rfl rfl (fun r245 u246 hw => ?_)
  obtain ⟨w247, hw247⟩ : ∃ z : Mem, z = u246 := ⟨_, rfl⟩
  rw [← hw247] at hw
  rw [← hw247]
  refine g_istore X [(6, .int r245), (5, .int r240), (0, .ref sb), (1, .ref (g 0 0)), (2, .ref (am 0)), (3, .ref (qa 0)), (4, .int x4)] dL_law_957 (by decide) rfl ?_
  refine g_aload_n X 4 dL_law_959 rfl rfl ?_
  refine g_ciV X [wC ct g kc, wS ct (g 1) v, wS ct (g 2) (sl 0), wS ct (g 3) (sl 1), wV ct g b, wS ct (g 5) (r 0), wS ct (g 6) (r 1), wS ct (g 7) (r 2), wS ct (g 8) (r 3), wS ct (g 9) (r 4), wS ct (g 10) (r 5), wT ct (g 11) tx, wL ct (g 12) y, wO ct (g 13) o, wR ct (g 14) x, wM ct am w247 hs, wQ ct qa ou242] (fun (_ : Unit) => [wC ct g kc, wS ct (g 1) v, wS ct (g 2) (sl 0), wS ct (g 3) (sl 1), wV ct g b, wS ct (g 5) (r 0), wS ct (g 6) (r 1), wS ct (g 7) (r 2), wS ct (g 8) (r 3), wS ct (g 9) (r 4), wS ct (g 10) (r 5), wT ct (g 11) tx, wL ct (g 12) y, wO ct (g 13) o, wR ct (g 14) x, wM ct am w247 hs, wQ ct qa ou242]) (fun _ => fl [wC ct g kc, wS ct (g 1) v, wS ct (g 2) (sl 0), wS ct (g 3) (sl 1), wV ct g b, wS ct (g 5) (r 0), wS ct (g 6) (r 1), wS ct (g 7) (r 2), wS ct (g 8) (r 3), wS ct (g 9) (r 4), wS ct (g 10) (r 5), wT ct (g 11) tx, wL ct (g 12) y, wO ct (g 13) o, wR ct (g 14) x, wM ct am w247 hs, wQ ct qa ou242]) 17 [15] [0, 1, 2, 3, 4, 5, 6, 7, 8, 9, 10, 11, 12, 13, 14, 16] 0 (kX8_thrown l D ct am w247 hs _ hw) (cwV 0 X.1.2.2.2.2 gL_law_X8_thrown rfl rfl rfl (by decide +kernel) ⟨Nat.le_of_ble_eq_true rfl, Nat.le_of_ble_eq_true rfl⟩) dL_law_960 rfl rfl (Nat.le_of_ble_eq_true rfl) ⟨by show _ ≤ 601024; omega, by show _ ≤ 7293034; omega⟩ rfl rfl rfl (by decide) (fun _ => rfl) (fun _ => rfl) (fun _ => rfl) (fun _ => rfl) rfl rfl rfl (fun r248 _ hw => ?_)
  refine g_iload X 1 dL_law_963 rfl ?_
  refine g_icmp_eq X 970 dL_law_965 (by decide) (fun c250 => ?_) (fun c250 => ?_)
  · replace hw := hw.1 c250
    refine g_iload X 1 dL_law_970 rfl ?_
    refine g_if_ne X 987 dL_law_972 (by decide) (fun c251 => ?_) (fun c251 => ?_)
    · replace hw := hw.1 c251
      refine g_goto X 1318 dL_law_987 (by decide) ?_
      refine g_iinc X [(4, .int (x4 + 3)), (6, .int r245), (5, .int r240), (0, .ref sb), (1, .ref (g 0 0)), (2, .ref (am 0)), (3, .ref (qa 0))] 6 dL_law_1318 rfl rfl (by decide) rfl ?_
      refine g_goto X 23 dL_law_1321 (by decide) ?_
      refine g_sub [(0, .ref sb), (1, .ref (g 0 0)), (2, .ref (am 0)), (3, .ref (qa 0)), (4, .int (x4 + 3))] [3, 4, 5, 6, 0] rfl ?_
      refine g_wide (k2 := 117 + (513 - n)) (j2 := 2344 + 6 * (513 - n)) (by omega) (by omega) ?_
      exact ih (by omega) _ _ _ _ _ _ _ _ _ _ _ _ _ hw
    · replace hw := hw.2 c251
      refine g_aload_n X 5 dL_law_975 rfl rfl ?_
      refine g_iconst (v := 0) X rfl dL_law_976 ?_
      refine g_lald X 116 4 dL_law_977 rfl rfl (vp_in_nI (n := 0) (by decide) (by decide)) ?_
      refine g_iload X 0 dL_law_978 rfl ?_
      refine g_i2l X dL_law_980 ?_
      refine g_lcmp X dL_law_981 ?_
      refine g_if_eq X 987 dL_law_982 (by decide) (fun c252 => ?_) (fun c252 => ?_)
      · replace hw := hw.1 c252
        refine g_goto X 1318 dL_law_987 (by decide) ?_
        refine g_iinc X [(4, .int (x4 + 3)), (6, .int r245), (5, .int r240), (0, .ref sb), (1, .ref (g 0 0)), (2, .ref (am 0)), (3, .ref (qa 0))] 6 dL_law_1318 rfl rfl (by decide) rfl ?_
        refine g_goto X 23 dL_law_1321 (by decide) ?_
        refine g_sub [(0, .ref sb), (1, .ref (g 0 0)), (2, .ref (am 0)), (3, .ref (qa 0)), (4, .int (x4 + 3))] [3, 4, 5, 6, 0] rfl ?_
        refine g_wide (k2 := 117 + (513 - n)) (j2 := 2344 + 6 * (513 - n)) (by omega) (by omega) ?_
        exact ih (by omega) _ _ _ _ _ _ _ _ _ _ _ _ _ hw
      · replace hw := hw.2 c252
        refine g_iconst (v := 0) X rfl dL_law_985 ?_
        exact hw.elim
  · replace hw := hw.2 c250
    refine g_iconst (v := 0) X rfl dL_law_968 ?_
    exact hw.elim
set_option maxHeartbeats 20000000 in
set_option maxRecDepth 20000 in
theorem kL_arm_16 {p : Program} {l : Launch} {e : Env} {s : State} {m : MethodId} {args : Array Value} {below : List Frame} {meth : Method} {c : Code} {D : va_G} {ct : Nat → ClassId} {A : Nat → Prop} {Q : State → Prop} {sb L : Nat} {xs : Nat → Int32} {g : Nat → Nat → Nat} {am qa : Nat → Nat} (hl9 : l.stackTraces = false) (X : Cx p s m args meth c cL_law 9 RL wsL_law D (tyz ct) A s.heap ret) (XX : XL A s) (hX : va_X sb L xs s s.heap) (hbl : sb < s.heap.size) (hbA : ¬ A sb) (hend : ∀ (k j : Nat) (w : va_W) (lv : List (Nat × Value)), k ≤ 601024 → j ≤ 7293034 → GG p l e room_1 s m args below meth c D A s.heap 9 Q (w) (k) (j) lv 1325 [.int 1])  {n : Nat} (ih : n ≤ 513 → ∀ (kc : Mem) (v : Mem) (sl : Nat → Mem) (b : Mem) (r : Nat → Mem) (tx : Mem) (y : Mem) (o : Mem) (x : Mem) (w : Mem) (hs : Int64) (ou : Nat → Int64) (x4 : Int32), PL_law_23 xs L n kc v sl b r tx y o x w hs ou x4 → GG p l e room_1 s m args below meth c D A s.heap 9 Q (fl [wC ct g kc, wS ct (g 1) v, wS ct (g 2) (sl 0), wS ct (g 3) (sl 1), wV ct g b, wS ct (g 5) (r 0), wS ct (g 6) (r 1), wS ct (g 7) (r 2), wS ct (g 8) (r 3), wS ct (g 9) (r 4), wS ct (g 10) (r 5), wT ct (g 11) tx, wL ct (g 12) y, wO ct (g 13) o, wR ct (g 14) x, wM ct am w hs, wQ ct qa ou]) (117 + (513 - n)) (2344 + 6 * (513 - n)) [(0, .ref sb), (1, .ref (g 0 0)), (2, .ref (am 0)), (3, .ref (qa 0)), (4, .int x4)] 23 []) (hn9 : n + 1 ≤ 513) (kc : Mem) (v : Mem) (sl : Nat → Mem) (b : Mem) (r : Nat → Mem) (tx : Mem) (y : Mem) (o : Mem) (x : Mem) (w : Mem) (hs : Int64) (ou : Nat → Int64) (x4 : Int32) (c253 : ((xs (ix x4)) &&& 31) = 16) (hw : vp_in (x4 + 1) L ∧ vp_in (x4 + 2) L ∧ PL_crossings kc v y ou (xs (ix (x4 + 1))) (xs (ix (x4 + 2))) (fun r256 y258 ou259 => vp_in (x4 + 1) L ∧ vp_in (x4 + 2) L ∧ PX8_crossings w hs (xs (ix (x4 + 1))) (xs (ix (x4 + 2))) (fun r262 w264 => PX8_thrown w264 hs (fun r265 => ((r265 = r256) → ((¬ r256 = 0) → PL_law_23 xs L n kc v sl b r tx y258 o x w264 hs ou259 (x4 + 3)) ∧ ((r256 = 0) → (((lg_cmp (ou259 0) r262.toInt64) = 0) → PL_law_23 xs L n kc v sl b r tx y258 o x w264 hs ou259 (x4 + 3)) ∧ ((¬ (lg_cmp (ou259 0) r262.toInt64) = 0) → False))) ∧ ((¬ r265 = r256) → False))))) : GG p l e room_1 s m args below meth c D A s.heap 9 Q (fl [wC ct g kc, wS ct (g 1) v, wS ct (g 2) (sl 0), wS ct (g 3) (sl 1), wV ct g b, wS ct (g 5) (r 0), wS ct (g 6) (r 1), wS ct (g 7) (r 2), wS ct (g 8) (r 3), wS ct (g 9) (r 4), wS ct (g 10) (r 5), wT ct (g 11) tx, wL ct (g 12) y, wO ct (g 13) o, wR ct (g 14) x, wM ct am w hs, wQ ct qa ou]) (117 + (513 - (n + 1))) (2344 + 6 * (513 - (n + 1))) [(0, .ref sb), (1, .ref (g 0 0)), (2, .ref (am 0)), (3, .ref (qa 0)), (4, .int x4)] 990 [] := by
  refine g_aload_n X 1 dL_law_990 rfl rfl ?_
  refine g_aload_n X 0 dL_law_991 rfl rfl ?_
  refine g_iload X 4 dL_law_992 rfl ?_
  refine g_iconst (v := 1) X rfl dL_law_994 ?_
  refine g_iadd X dL_law_995 ?_
  obtain ⟨h254, hw⟩ := hw
  refine g_sld X hX hbl hbA h254 dL_law_996 ?_
  refine g_aload_n X 0 dL_law_997 rfl rfl ?_
  refine g_iload X 4 dL_law_998 rfl ?_
  refine g_iconst (v := 2) X rfl dL_law_1000 ?_
  refine g_iadd X dL_law_1001 ?_
  obtain ⟨h255, hw⟩ := hw
  refine g_sld X hX hbl hbA h255 dL_law_1002 ?_
  refine g_aload_n X 3 dL_law_1003 rfl rfl ?_
  refine g_chS X XX [wC ct g kc, wS ct (g 1) v, wS ct (g 2) (sl 0), wS ct (g 3) (sl 1), wV ct g b, wS ct (g 5) (r 0), wS ct (g 6) (r 1), wS ct (g 7) (r 2), wS ct (g 8) (r 3), wS ct (g 9) (r 4), wS ct (g 10) (r 5), wT ct (g 11) tx, wL ct (g 12) y, wO ct (g 13) o, wR ct (g 14) x, wM ct am w hs, wQ ct qa ou] (fun (u257 : Mem × (Nat → Int64)) => [wC ct g kc, wS ct (g 1) v, wS ct (g 2) (sl 0), wS ct (g 3) (sl 1), wV ct g b, wS ct (g 5) (r 0), wS ct (g 6) (r 1), wS ct (g 7) (r 2), wS ct (g 8) (r 3), wS ct (g 9) (r 4), wS ct (g 10) (r 5), wT ct (g 11) tx, wL ct (g 12) u257.1, wO ct (g 13) o, wR ct (g 14) x, wM ct am w hs, wQ ct qa u257.2]) (fun (u257 : Mem × (Nat → Int64)) => fl [wC ct g kc, wS ct (g 1) v, wS ct (g 2) (sl 0), wS ct (g 3) (sl 1), wV ct g b, wS ct (g 5) (r 0), wS ct (g 6) (r 1), wS ct (g 7) (r 2), wS ct (g 8) (r 3), wS ct (g 9) (r 4), wS ct (g 10) (r 5), wT ct (g 11) tx, wL ct (g 12) u257.1, wO ct (g 13) o, wR ct (g 14) x, wM ct am w hs, wQ ct qa u257.2]) 17 [0, 1, 12, 16] [2, 3, 4, 5, 6, 7, 8, 9, 10, 11, 13, 14, 15] (kL_crossings l hl9 D ct g qa kc v y ou (xs (ix (x4 + 1))) (xs (ix (x4 + 2))) _ hw) (vx_cwSW 4 X.1.2.2.2.2 gL_law_L_crossings rfl rfl rfl (by decide +kernel) ⟨Nat.le_of_ble_eq_true rfl, Nat.le_of_ble_eq_true rfl⟩) dL_law_1004 rfl rfl (Nat.le_of_ble_eq_true rfl) ⟨by show _ ≤ 601024; omega, by show _ ≤ 7293034; omega⟩ rfl rfl rfl (by decide) (fun _ => rfl) (fun _ => rfl) (fun _ => rfl) (fun _ => rfl) (fun r256 u257 hw => ?_)
  obtain ⟨y258, hy258⟩ : ∃ z : Mem, z = u257.1 := ⟨_, rfl⟩
  rw [← hy258] at hw
  rw [← hy258]
  obtain ⟨ou259, hou259⟩ : ∃ z : Nat → Int64, z = u257.2 := ⟨_, rfl⟩
  rw [← hou259] at hw
  rw [← hou259]
  refine g_istore X [(5, .int r256), (0, .ref sb), (1, .ref (g 0 0)), (2, .ref (am 0)), (3, .ref (qa 0)), (4, .int x4)] dL_law_1007 (by decide) rfl ?_
  refine g_aload_n X 3 dL_law_1009 rfl rfl ?_
  refine g_aload_n X 1 dL_law_1010 rfl rfl ?_
  refine g_iload X 5 dL_law_1011 rfl ?_
  refine g_iconst (v := 1) X rfl dL_law_1013 ?_
  refine g_iadd X dL_law_1014 ?_
  obtain ⟨h260, hw⟩ := hw
  refine g_sld X hX hbl hbA h260 dL_law_1015 ?_
  refine g_aload_n X 1 dL_law_1016 rfl rfl ?_
  refine g_iload X 5 dL_law_1017 rfl ?_
  refine g_iconst (v := 2) X rfl dL_law_1019 ?_
  refine g_iadd X dL_law_1020 ?_
  obtain ⟨h261, hw⟩ := hw
  refine g_sld X hX hbl hbA h261 dL_law_1021 ?_
  refine g_ciV X [wC ct g kc, wS ct (g 1) v, wS ct (g 2) (sl 0), wS ct (g 3) (sl 1), wV ct g b, wS ct (g 5) (r 0), wS ct (g 6) (r 1), wS ct (g 7) (r 2), wS ct (g 8) (r 3), wS ct (g 9) (r 4), wS ct (g 10) (r 5), wT ct (g 11) tx, wL ct (g 12) y258, wO ct (g 13) o, wR ct (g 14) x, wM ct am w hs, wQ ct qa ou259] (fun (u263 : Mem) => [wC ct g kc, wS ct (g 1) v, wS ct (g 2) (sl 0), wS ct (g 3) (sl 1), wV ct g b, wS ct (g 5) (r 0), wS ct (g 6) (r 1), wS ct (g 7) (r 2), wS ct (g 8) (r 3), wS ct (g 9) (r 4), wS ct (g 10) (r 5), wT ct (g 11) tx, wL ct (g 12) y258, wO ct (g 13) o, wR ct (g 14) x, wM ct am u263 hs, wQ ct qa ou259]) (fun (u263 : Mem) => fl [wC ct g kc, wS ct (g 1) v, wS ct (g 2) (sl 0), wS ct (g 3) (sl 1), wV ct g b, wS ct (g 5) (r 0), wS ct (g 6) (r 1), wS ct (g 7) (r 2), wS ct (g 8) (r 3), wS ct (g 9) (r 4), wS ct (g 10) (r 5), wT ct (g 11) tx, wL ct (g 12) y258, wO ct (g 13) o, wR ct (g 14) x, wM ct am u263 hs, wQ ct qa ou259]) 17 [15] [0, 1, 2, 3, 4, 5, 6, 7, 8, 9, 10, 11, 12, 13, 14, 16] 0 (kX8_crossings l D ct am w hs (xs (ix (x4 + 1))) (xs (ix (x4 + 2))) _ hw) (cwV 2 X.1.2.2.2.2 gL_law_X8_crossings rfl rfl rfl (by decide +kernel) ⟨Nat.le_of_ble_eq_true rfl, Nat.le_of_ble_eq_true rfl⟩) dL_law_1022 rfl rfl (Nat.le_of_ble_eq_true rfl) ⟨by show _ ≤ 601024; omega, by show _ ≤ 7293034; omega⟩ rfl rfl rfl (by decide) (fun _ => rfl) (fun _ => rfl) (fun _ => rfl) (fun _ => rfl) rfl rfl rfl (fun r262 u263 hw => ?_)
  obtain ⟨w264, hw264⟩ : ∃ z : Mem, z = u263 := ⟨_, rfl⟩
  rw [← hw264] at hw
  rw [← hw264]
  refine g_istore X [(6, .int r262), (5, .int r256), (0, .ref sb), (1, .ref (g 0 0)), (2, .ref (am 0)), (3, .ref (qa 0)), (4, .int x4)] dL_law_1025 (by decide) rfl ?_
  refine g_aload_n X 4 dL_law_1027 rfl rfl ?_
  refine g_ciV X [wC ct g kc, wS ct (g 1) v, wS ct (g 2) (sl 0), wS ct (g 3) (sl 1), wV ct g b, wS ct (g 5) (r 0), wS ct (g 6) (r 1), wS ct (g 7) (r 2), wS ct (g 8) (r 3), wS ct (g 9) (r 4), wS ct (g 10) (r 5), wT ct (g 11) tx, wL ct (g 12) y258, wO ct (g 13) o, wR ct (g 14) x, wM ct am w264 hs, wQ ct qa ou259] (fun (_ : Unit) => [wC ct g kc, wS ct (g 1) v, wS ct (g 2) (sl 0), wS ct (g 3) (sl 1), wV ct g b, wS ct (g 5) (r 0), wS ct (g 6) (r 1), wS ct (g 7) (r 2), wS ct (g 8) (r 3), wS ct (g 9) (r 4), wS ct (g 10) (r 5), wT ct (g 11) tx, wL ct (g 12) y258, wO ct (g 13) o, wR ct (g 14) x, wM ct am w264 hs, wQ ct qa ou259]) (fun _ => fl [wC ct g kc, wS ct (g 1) v, wS ct (g 2) (sl 0), wS ct (g 3) (sl 1), wV ct g b, wS ct (g 5) (r 0), wS ct (g 6) (r 1), wS ct (g 7) (r 2), wS ct (g 8) (r 3), wS ct (g 9) (r 4), wS ct (g 10) (r 5), wT ct (g 11) tx, wL ct (g 12) y258, wO ct (g 13) o, wR ct (g 14) x, wM ct am w264 hs, wQ ct qa ou259]) 17 [15] [0, 1, 2, 3, 4, 5, 6, 7, 8, 9, 10, 11, 12, 13, 14, 16] 0 (kX8_thrown l D ct am w264 hs _ hw) (cwV 0 X.1.2.2.2.2 gL_law_X8_thrown rfl rfl rfl (by decide +kernel) ⟨Nat.le_of_ble_eq_true rfl, Nat.le_of_ble_eq_true rfl⟩) dL_law_1028 rfl rfl (Nat.le_of_ble_eq_true rfl) ⟨by show _ ≤ 601024; omega, by show _ ≤ 7293034; omega⟩ rfl rfl rfl (by decide) (fun _ => rfl) (fun _ => rfl) (fun _ => rfl) (fun _ => rfl) rfl rfl rfl (fun r265 _ hw => ?_)
  refine g_iload X 1 dL_law_1031 rfl ?_
  refine g_icmp_eq X 1038 dL_law_1033 (by decide) (fun c267 => ?_) (fun c267 => ?_)
  · replace hw := hw.1 c267
    refine g_iload X 1 dL_law_1038 rfl ?_
    refine g_if_ne X 1055 dL_law_1040 (by decide) (fun c268 => ?_) (fun c268 => ?_)
    · replace hw := hw.1 c268
      refine g_goto X 1318 dL_law_1055 (by decide) ?_
      refine g_iinc X [(4, .int (x4 + 3)), (6, .int r262), (5, .int r256), (0, .ref sb), (1, .ref (g 0 0)), (2, .ref (am 0)), (3, .ref (qa 0))] 6 dL_law_1318 rfl rfl (by decide) rfl ?_
      refine g_goto X 23 dL_law_1321 (by decide) ?_
      refine g_sub [(0, .ref sb), (1, .ref (g 0 0)), (2, .ref (am 0)), (3, .ref (qa 0)), (4, .int (x4 + 3))] [3, 4, 5, 6, 0] rfl ?_
      refine g_wide (k2 := 117 + (513 - n)) (j2 := 2344 + 6 * (513 - n)) (by omega) (by omega) ?_
      exact ih (by omega) _ _ _ _ _ _ _ _ _ _ _ _ _ hw
    · replace hw := hw.2 c268
      refine g_aload_n X 5 dL_law_1043 rfl rfl ?_
      refine g_iconst (v := 0) X rfl dL_law_1044 ?_
      refine g_lald X 116 4 dL_law_1045 rfl rfl (vp_in_nI (n := 0) (by decide) (by decide)) ?_
      refine g_iload X 0 dL_law_1046 rfl ?_
      refine g_i2l X dL_law_1048 ?_
      refine g_lcmp X dL_law_1049 ?_
      refine g_if_eq X 1055 dL_law_1050 (by decide) (fun c269 => ?_) (fun c269 => ?_)
      · replace hw := hw.1 c269
        refine g_goto X 1318 dL_law_1055 (by decide) ?_
        refine g_iinc X [(4, .int (x4 + 3)), (6, .int r262), (5, .int r256), (0, .ref sb), (1, .ref (g 0 0)), (2, .ref (am 0)), (3, .ref (qa 0))] 6 dL_law_1318 rfl rfl (by decide) rfl ?_
        refine g_goto X 23 dL_law_1321 (by decide) ?_
        refine g_sub [(0, .ref sb), (1, .ref (g 0 0)), (2, .ref (am 0)), (3, .ref (qa 0)), (4, .int (x4 + 3))] [3, 4, 5, 6, 0] rfl ?_
        refine g_wide (k2 := 117 + (513 - n)) (j2 := 2344 + 6 * (513 - n)) (by omega) (by omega) ?_
        exact ih (by omega) _ _ _ _ _ _ _ _ _ _ _ _ _ hw
      · replace hw := hw.2 c269
        refine g_iconst (v := 0) X rfl dL_law_1053 ?_
        exact hw.elim
  · replace hw := hw.2 c267
    refine g_iconst (v := 0) X rfl dL_law_1036 ?_
    exact hw.elim
set_option maxHeartbeats 20000000 in
set_option maxRecDepth 20000 in
theorem kL_arm_17 {p : Program} {l : Launch} {e : Env} {s : State} {m : MethodId} {args : Array Value} {below : List Frame} {meth : Method} {c : Code} {D : va_G} {ct : Nat → ClassId} {A : Nat → Prop} {Q : State → Prop} {sb L : Nat} {xs : Nat → Int32} {g : Nat → Nat → Nat} {am qa : Nat → Nat} (hl9 : l.stackTraces = false) (X : Cx p s m args meth c cL_law 9 RL wsL_law D (tyz ct) A s.heap ret) (XX : XL A s) (hX : va_X sb L xs s s.heap) (hbl : sb < s.heap.size) (hbA : ¬ A sb) (hend : ∀ (k j : Nat) (w : va_W) (lv : List (Nat × Value)), k ≤ 601024 → j ≤ 7293034 → GG p l e room_1 s m args below meth c D A s.heap 9 Q (w) (k) (j) lv 1325 [.int 1])  {n : Nat} (ih : n ≤ 513 → ∀ (kc : Mem) (v : Mem) (sl : Nat → Mem) (b : Mem) (r : Nat → Mem) (tx : Mem) (y : Mem) (o : Mem) (x : Mem) (w : Mem) (hs : Int64) (ou : Nat → Int64) (x4 : Int32), PL_law_23 xs L n kc v sl b r tx y o x w hs ou x4 → GG p l e room_1 s m args below meth c D A s.heap 9 Q (fl [wC ct g kc, wS ct (g 1) v, wS ct (g 2) (sl 0), wS ct (g 3) (sl 1), wV ct g b, wS ct (g 5) (r 0), wS ct (g 6) (r 1), wS ct (g 7) (r 2), wS ct (g 8) (r 3), wS ct (g 9) (r 4), wS ct (g 10) (r 5), wT ct (g 11) tx, wL ct (g 12) y, wO ct (g 13) o, wR ct (g 14) x, wM ct am w hs, wQ ct qa ou]) (117 + (513 - n)) (2344 + 6 * (513 - n)) [(0, .ref sb), (1, .ref (g 0 0)), (2, .ref (am 0)), (3, .ref (qa 0)), (4, .int x4)] 23 []) (hn9 : n + 1 ≤ 513) (kc : Mem) (v : Mem) (sl : Nat → Mem) (b : Mem) (r : Nat → Mem) (tx : Mem) (y : Mem) (o : Mem) (x : Mem) (w : Mem) (hs : Int64) (ou : Nat → Int64) (x4 : Int32) (c270 : ((xs (ix x4)) &&& 31) = 17) (hw : vp_in (x4 + 1) L ∧ PL_count kc v b y ou (xs (ix (x4 + 1))) (fun r272 y274 ou275 => vp_in (x4 + 1) L ∧ PX8_count w hs (xs (ix (x4 + 1))) (fun r277 w279 => PX8_thrown w279 hs (fun r280 => ((r280 = r272) → ((¬ r272 = 0) → PL_law_23 xs L n kc v sl b r tx y274 o x w279 hs ou275 (x4 + 3)) ∧ ((r272 = 0) → (((lg_cmp (ou275 0) r277.toInt64) = 0) → PL_law_23 xs L n kc v sl b r tx y274 o x w279 hs ou275 (x4 + 3)) ∧ ((¬ (lg_cmp (ou275 0) r277.toInt64) = 0) → False))) ∧ ((¬ r280 = r272) → False))))) : GG p l e room_1 s m args below meth c D A s.heap 9 Q (fl [wC ct g kc, wS ct (g 1) v, wS ct (g 2) (sl 0), wS ct (g 3) (sl 1), wV ct g b, wS ct (g 5) (r 0), wS ct (g 6) (r 1), wS ct (g 7) (r 2), wS ct (g 8) (r 3), wS ct (g 9) (r 4), wS ct (g 10) (r 5), wT ct (g 11) tx, wL ct (g 12) y, wO ct (g 13) o, wR ct (g 14) x, wM ct am w hs, wQ ct qa ou]) (117 + (513 - (n + 1))) (2344 + 6 * (513 - (n + 1))) [(0, .ref sb), (1, .ref (g 0 0)), (2, .ref (am 0)), (3, .ref (qa 0)), (4, .int x4)] 1058 [] := by
  refine g_aload_n X 1 dL_law_1058 rfl rfl ?_
  refine g_aload_n X 0 dL_law_1059 rfl rfl ?_
  refine g_iload X 4 dL_law_1060 rfl ?_
  refine g_iconst (v := 1) X rfl dL_law_1062 ?_
  refine g_iadd X dL_law_1063 ?_
  obtain ⟨h271, hw⟩ := hw
  refine g_sld X hX hbl hbA h271 dL_law_1064 ?_
  refine g_aload_n X 3 dL_law_1065 rfl rfl ?_
  refine g_chS X XX [wC ct g kc, wS ct (g 1) v, wS ct (g 2) (sl 0), wS ct (g 3) (sl 1), wV ct g b, wS ct (g 5) (r 0), wS ct (g 6) (r 1), wS ct (g 7) (r 2), wS ct (g 8) (r 3), wS ct (g 9) (r 4), wS ct (g 10) (r 5), wT ct (g 11) tx, wL ct (g 12) y, wO ct (g 13) o, wR ct (g 14) x, wM ct am w hs, wQ ct qa ou] (fun (u273 : Mem × (Nat → Int64)) => [wC ct g kc, wS ct (g 1) v, wS ct (g 2) (sl 0), wS ct (g 3) (sl 1), wV ct g b, wS ct (g 5) (r 0), wS ct (g 6) (r 1), wS ct (g 7) (r 2), wS ct (g 8) (r 3), wS ct (g 9) (r 4), wS ct (g 10) (r 5), wT ct (g 11) tx, wL ct (g 12) u273.1, wO ct (g 13) o, wR ct (g 14) x, wM ct am w hs, wQ ct qa u273.2]) (fun (u273 : Mem × (Nat → Int64)) => fl [wC ct g kc, wS ct (g 1) v, wS ct (g 2) (sl 0), wS ct (g 3) (sl 1), wV ct g b, wS ct (g 5) (r 0), wS ct (g 6) (r 1), wS ct (g 7) (r 2), wS ct (g 8) (r 3), wS ct (g 9) (r 4), wS ct (g 10) (r 5), wT ct (g 11) tx, wL ct (g 12) u273.1, wO ct (g 13) o, wR ct (g 14) x, wM ct am w hs, wQ ct qa u273.2]) 17 [0, 1, 4, 12, 16] [2, 3, 5, 6, 7, 8, 9, 10, 11, 13, 14, 15] (kL_count l hl9 D ct g qa kc v b y ou (xs (ix (x4 + 1))) _ hw) (vx_cwSW 3 X.1.2.2.2.2 gL_law_L_count rfl rfl rfl (by decide +kernel) ⟨Nat.le_of_ble_eq_true rfl, Nat.le_of_ble_eq_true rfl⟩) dL_law_1066 rfl rfl (Nat.le_of_ble_eq_true rfl) ⟨by show _ ≤ 601024; omega, by show _ ≤ 7293034; omega⟩ rfl rfl rfl (by decide) (fun _ => rfl) (fun _ => rfl) (fun _ => rfl) (fun _ => rfl) (fun r272 u273 hw => ?_)
  obtain ⟨y274, hy274⟩ : ∃ z : Mem, z = u273.1 := ⟨_, rfl⟩
  rw [← hy274] at hw
  rw [← hy274]
  obtain ⟨ou275, hou275⟩ : ∃ z : Nat → Int64, z = u273.2 := ⟨_, rfl⟩
  rw [← hou275] at hw
  rw [← hou275]
  refine g_istore X [(5, .int r272), (0, .ref sb), (1, .ref (g 0 0)), (2, .ref (am 0)), (3, .ref (qa 0)), (4, .int x4)] dL_law_1069 (by decide) rfl ?_
  refine g_aload_n X 3 dL_law_1071 rfl rfl ?_
  refine g_aload_n X 1 dL_law_1072 rfl rfl ?_
  refine g_iload X 5 dL_law_1073 rfl ?_
  refine g_iconst (v := 1) X rfl dL_law_1075 ?_
  refine g_iadd X dL_law_1076 ?_
  obtain ⟨h276, hw⟩ := hw
  refine g_sld X hX hbl hbA h276 dL_law_1077 ?_
  refine g_ciV X [wC ct g kc, wS ct (g 1) v, wS ct (g 2) (sl 0), wS ct (g 3) (sl 1), wV ct g b, wS ct (g 5) (r 0), wS ct (g 6) (r 1), wS ct (g 7) (r 2), wS ct (g 8) (r 3), wS ct (g 9) (r 4), wS ct (g 10) (r 5), wT ct (g 11) tx, wL ct (g 12) y274, wO ct (g 13) o, wR ct (g 14) x, wM ct am w hs, wQ ct qa ou275] (fun (u278 : Mem) => [wC ct g kc, wS ct (g 1) v, wS ct (g 2) (sl 0), wS ct (g 3) (sl 1), wV ct g b, wS ct (g 5) (r 0), wS ct (g 6) (r 1), wS ct (g 7) (r 2), wS ct (g 8) (r 3), wS ct (g 9) (r 4), wS ct (g 10) (r 5), wT ct (g 11) tx, wL ct (g 12) y274, wO ct (g 13) o, wR ct (g 14) x, wM ct am u278 hs, wQ ct qa ou275]) (fun (u278 : Mem) => fl [wC ct g kc, wS ct (g 1) v, wS ct (g 2) (sl 0), wS ct (g 3) (sl 1), wV ct g b, wS ct (g 5) (r 0), wS ct (g 6) (r 1), wS ct (g 7) (r 2), wS ct (g 8) (r 3), wS ct (g 9) (r 4), wS ct (g 10) (r 5), wT ct (g 11) tx, wL ct (g 12) y274, wO ct (g 13) o, wR ct (g 14) x, wM ct am u278 hs, wQ ct qa ou275]) 17 [15] [0, 1, 2, 3, 4, 5, 6, 7, 8, 9, 10, 11, 12, 13, 14, 16] 0 (kX8_count l D ct am w hs (xs (ix (x4 + 1))) _ hw) (cwV 1 X.1.2.2.2.2 gL_law_X8_count rfl rfl rfl (by decide +kernel) ⟨Nat.le_of_ble_eq_true rfl, Nat.le_of_ble_eq_true rfl⟩) dL_law_1078 rfl rfl (Nat.le_of_ble_eq_true rfl) ⟨by show _ ≤ 601024; omega, by show _ ≤ 7293034; omega⟩ rfl rfl rfl (by decide) (fun _ => rfl) (fun _ => rfl) (fun _ => rfl) (fun _ => rfl) rfl rfl rfl (fun r277 u278 hw => ?_)
  obtain ⟨w279, hw279⟩ : ∃ z : Mem, z = u278 := ⟨_, rfl⟩
  rw [← hw279] at hw
  rw [← hw279]
  refine g_istore X [(6, .int r277), (5, .int r272), (0, .ref sb), (1, .ref (g 0 0)), (2, .ref (am 0)), (3, .ref (qa 0)), (4, .int x4)] dL_law_1081 (by decide) rfl ?_
  refine g_aload_n X 4 dL_law_1083 rfl rfl ?_
  refine g_ciV X [wC ct g kc, wS ct (g 1) v, wS ct (g 2) (sl 0), wS ct (g 3) (sl 1), wV ct g b, wS ct (g 5) (r 0), wS ct (g 6) (r 1), wS ct (g 7) (r 2), wS ct (g 8) (r 3), wS ct (g 9) (r 4), wS ct (g 10) (r 5), wT ct (g 11) tx, wL ct (g 12) y274, wO ct (g 13) o, wR ct (g 14) x, wM ct am w279 hs, wQ ct qa ou275] (fun (_ : Unit) => [wC ct g kc, wS ct (g 1) v, wS ct (g 2) (sl 0), wS ct (g 3) (sl 1), wV ct g b, wS ct (g 5) (r 0), wS ct (g 6) (r 1), wS ct (g 7) (r 2), wS ct (g 8) (r 3), wS ct (g 9) (r 4), wS ct (g 10) (r 5), wT ct (g 11) tx, wL ct (g 12) y274, wO ct (g 13) o, wR ct (g 14) x, wM ct am w279 hs, wQ ct qa ou275]) (fun _ => fl [wC ct g kc, wS ct (g 1) v, wS ct (g 2) (sl 0), wS ct (g 3) (sl 1), wV ct g b, wS ct (g 5) (r 0), wS ct (g 6) (r 1), wS ct (g 7) (r 2), wS ct (g 8) (r 3), wS ct (g 9) (r 4), wS ct (g 10) (r 5), wT ct (g 11) tx, wL ct (g 12) y274, wO ct (g 13) o, wR ct (g 14) x, wM ct am w279 hs, wQ ct qa ou275]) 17 [15] [0, 1, 2, 3, 4, 5, 6, 7, 8, 9, 10, 11, 12, 13, 14, 16] 0 (kX8_thrown l D ct am w279 hs _ hw) (cwV 0 X.1.2.2.2.2 gL_law_X8_thrown rfl rfl rfl (by decide +kernel) ⟨Nat.le_of_ble_eq_true rfl, Nat.le_of_ble_eq_true rfl⟩) dL_law_1084 rfl rfl (Nat.le_of_ble_eq_true rfl) ⟨by show _ ≤ 601024; omega, by show _ ≤ 7293034; omega⟩ rfl rfl rfl (by decide) (fun _ => rfl) (fun _ => rfl) (fun _ => rfl) (fun _ => rfl) rfl rfl rfl (fun r280 _ hw => ?_)
  refine g_iload X 1 dL_law_1087 rfl ?_
  refine g_icmp_eq X 1094 dL_law_1089 (by decide) (fun c282 => ?_) (fun c282 => ?_)
  · replace hw := hw.1 c282
    refine g_iload X 1 dL_law_1094 rfl ?_
    refine g_if_ne X 1111 dL_law_1096 (by decide) (fun c283 => ?_) (fun c283 => ?_)
    · replace hw := hw.1 c283
      refine g_goto X 1318 dL_law_1111 (by decide) ?_
      refine g_iinc X [(4, .int (x4 + 3)), (6, .int r277), (5, .int r272), (0, .ref sb), (1, .ref (g 0 0)), (2, .ref (am 0)), (3, .ref (qa 0))] 6 dL_law_1318 rfl rfl (by decide) rfl ?_
      refine g_goto X 23 dL_law_1321 (by decide) ?_
      refine g_sub [(0, .ref sb), (1, .ref (g 0 0)), (2, .ref (am 0)), (3, .ref (qa 0)), (4, .int (x4 + 3))] [3, 4, 5, 6, 0] rfl ?_
      refine g_wide (k2 := 117 + (513 - n)) (j2 := 2344 + 6 * (513 - n)) (by omega) (by omega) ?_
      exact ih (by omega) _ _ _ _ _ _ _ _ _ _ _ _ _ hw
    · replace hw := hw.2 c283
      refine g_aload_n X 5 dL_law_1099 rfl rfl ?_
      refine g_iconst (v := 0) X rfl dL_law_1100 ?_
      refine g_lald X 116 4 dL_law_1101 rfl rfl (vp_in_nI (n := 0) (by decide) (by decide)) ?_
      refine g_iload X 0 dL_law_1102 rfl ?_
      refine g_i2l X dL_law_1104 ?_
      refine g_lcmp X dL_law_1105 ?_
      refine g_if_eq X 1111 dL_law_1106 (by decide) (fun c284 => ?_) (fun c284 => ?_)
      · replace hw := hw.1 c284
        refine g_goto X 1318 dL_law_1111 (by decide) ?_
        refine g_iinc X [(4, .int (x4 + 3)), (6, .int r277), (5, .int r272), (0, .ref sb), (1, .ref (g 0 0)), (2, .ref (am 0)), (3, .ref (qa 0))] 6 dL_law_1318 rfl rfl (by decide) rfl ?_
        refine g_goto X 23 dL_law_1321 (by decide) ?_
        refine g_sub [(0, .ref sb), (1, .ref (g 0 0)), (2, .ref (am 0)), (3, .ref (qa 0)), (4, .int (x4 + 3))] [3, 4, 5, 6, 0] rfl ?_
        refine g_wide (k2 := 117 + (513 - n)) (j2 := 2344 + 6 * (513 - n)) (by omega) (by omega) ?_
        exact ih (by omega) _ _ _ _ _ _ _ _ _ _ _ _ _ hw
      · replace hw := hw.2 c284
        refine g_iconst (v := 0) X rfl dL_law_1109 ?_
        exact hw.elim
  · replace hw := hw.2 c282
    refine g_iconst (v := 0) X rfl dL_law_1092 ?_
    exact hw.elim
