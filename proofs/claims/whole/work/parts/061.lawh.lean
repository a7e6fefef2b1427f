abbrev rmL_person : Room := { frames := 7, cells := 1, slots := 6, locals := 123 }
set_option maxHeartbeats 4000000 in
set_option maxRecDepth 20000 in
theorem kL_person (l : Launch) (hl9 : l.stackTraces = false) (D : va_G) (ct : Nat → ClassId) (g : Nat → Nat → Nat) (qa : Nat → Nat) (kc : Mem) (v : Mem) (b : Mem) (r : Nat → Mem) (ou : Nat → Int64) (p2 : Int32) (post : Int32 → Mem → Mem → (Nat → Mem) → (Nat → Int64) → Prop) (hw : PL_person kc v b r ou p2 post) : Ch (S := Mem × Mem × (Nat → Mem) × (Nat → Int64)) l yL_person wsL_person rmL_person D (tyz ct) [.ref (g 0 0), .int p2, .ref (qa 0)] (fl [wC ct g kc, wS ct (g 1) v, wV ct g b, wS ct (g 5) (r 0), wS ct (g 6) (r 1), wS ct (g 7) (r 2), wS ct (g 8) (r 3), wS ct (g 9) (r 4), wS ct (g 10) (r 5), wQ ct qa ou]) (fun r (u9 : Mem × Mem × (Nat → Mem) × (Nat → Int64)) => post r u9.1 u9.2.1 u9.2.2.1 u9.2.2.2) (fun u9 => fl [wC ct g kc, wS ct (g 1) u9.1, wV ct g u9.2.1, wS ct (g 5) (u9.2.2.1 0), wS ct (g 6) (u9.2.2.1 1), wS ct (g 7) (u9.2.2.1 2), wS ct (g 8) (u9.2.2.1 3), wS ct (g 9) (u9.2.2.1 4), wS ct (g 10) (u9.2.2.1 5), wQ ct qa u9.2.2.2]) 1 6 := by
  intro sz
  refine g_ofh (own := RL) (by decide) rfl rfl (Nat.le_of_ble_eq_true rfl) [(0, .ref (g 0 0)), (1, .int p2), (2, .ref (qa 0))] rfl (fun p e s m args below meth c hsz htab XX X => ?_)
  subst hsz
  unfold PL_person at hw
  refine g_aload_n X 2 dL_person_0 rfl rfl ?_
  refine g_iconst (v := 0) X rfl dL_person_1 ?_
  refine g_aload_n X 0 dL_person_2 rfl rfl ?_
  refine g_iload_n X 1 dL_person_3 rfl rfl ?_
  refine g_cxV X XX [wC ct g kc, wS ct (g 1) v, wV ct g b, wS ct (g 5) (r 0), wS ct (g 6) (r 1), wS ct (g 7) (r 2), wS ct (g 8) (r 3), wS ct (g 9) (r 4), wS ct (g 10) (r 5), wQ ct qa ou] (fun (u : Mem × Mem × (Nat → Mem)) => [wC ct g kc, wS ct (g 1) u.1, wV ct g u.2.1, wS ct (g 5) (u.2.2 0), wS ct (g 6) (u.2.2 1), wS ct (g 7) (u.2.2 2), wS ct (g 8) (u.2.2 3), wS ct (g 9) (u.2.2 4), wS ct (g 10) (u.2.2 5), wQ ct qa ou]) (fun (u : Mem × Mem × (Nat → Mem)) => fl [wC ct g kc, wS ct (g 1) u.1, wV ct g u.2.1, wS ct (g 5) (u.2.2 0), wS ct (g 6) (u.2.2 1), wS ct (g 7) (u.2.2 2), wS ct (g 8) (u.2.2 3), wS ct (g 9) (u.2.2 4), wS ct (g 10) (u.2.2 5), wQ ct qa ou]) 10 [0, 1, 2, 3, 4, 5, 6, 7, 8] [9] 0 (kX7_person_x l hl9 D ct g kc v b r p2 _ _ hw) (cwV 1 X.1.2.2.2.2 gL_person_X7_person rfl rfl rfl (by decide +kernel) ⟨(Nat.le_of_ble_eq_true rfl), (Nat.le_of_ble_eq_true rfl)⟩) dL_person_4 rfl rfl (Nat.le_of_ble_eq_true rfl) ⟨(Nat.le_of_ble_eq_true rfl), (Nat.le_of_ble_eq_true rfl)⟩ rfl rfl rfl (by decide) (fun _ => rfl) (fun _ => rfl) (fun _ => rfl) (fun _ => rfl) rfl rfl rfl (fun code hx => ?_) (fun rz u hw => ?_)
  · obtain ⟨rfl, hx⟩ := hx
    refine ⟨[], ⟨0, 9, 12, 13⟩, [], htab.trans rfl, (fun z hz => by cases hz), by decide, by decide, (List.mem_of_getElem? (i := 1) rfl), fun q9 => ?_⟩
    refine g_astore_n X [(3, .ref q9), (0, .ref (g 0 0)), (1, .int p2), (2, .ref (qa 0))] dL_person_12 rfl (by decide) rfl ?_
    refine g_iconst (v := 1) X rfl dL_person_13 ?_
    exact g_iret X (v, b, r, ou) hx rfl (Nat.le_of_ble_eq_true rfl) (Nat.le_of_ble_eq_true rfl) dL_person_14
  · refine g_i2l X dL_person_7 ?_
    refine g_last X (fun z => fl [wC ct g kc, wS ct (g 1) u.1, wV ct g u.2.1, wS ct (g 5) (u.2.2 0), wS ct (g 6) (u.2.2 1), wS ct (g 7) (u.2.2 2), wS ct (g 8) (u.2.2 3), wS ct (g 9) (u.2.2 4), wS ct (g 10) (u.2.2 5), wQ ct qa z]) 61 4 dL_person_8 rfl rfl (vp_in_nI (n := 0) (by decide) (by decide)) rfl (fun oz hoz => ?_)
    replace hw := hw oz hoz
    refine g_goto X 15 dL_person_9 (by decide) ?_
    refine g_iconst (v := 0) X rfl dL_person_15 ?_
    exact g_iret X (u.1, u.2.1, u.2.2, oz) hw rfl (Nat.le_of_ble_eq_true rfl) (Nat.le_of_ble_eq_true rfl) dL_person_16

abbrev rmL_marry : Room := { frames := 7, cells := 1, slots := 6, locals := 124 }
set_option maxHeartbeats 4000000 in
set_option maxRecDepth 20000 in
theorem kL_marry (l : Launch) (hl9 : l.stackTraces = false) (D : va_G) (ct : Nat → ClassId) (g : Nat → Nat → Nat) (qa : Nat → Nat) (kc : Mem) (v : Mem) (b : Mem) (r : Nat → Mem) (ou : Nat → Int64) (p2 : Int32) (p3 : Int32) (post : Int32 → Mem → Mem → (Nat → Mem) → (Nat → Int64) → Prop) (hw : PL_marry kc v b r ou p2 p3 post) : Ch (S := Mem × Mem × (Nat → Mem) × (Nat → Int64)) l yL_marry wsL_marry rmL_marry D (tyz ct) [.ref (g 0 0), .int p2, .int p3, .ref (qa 0)] (fl [wC ct g kc, wS ct (g 1) v, wV ct g b, wS ct (g 5) (r 0), wS ct (g 6) (r 1), wS ct (g 7) (r 2), wS ct (g 8) (r 3), wS ct (g 9) (r 4), wS ct (g 10) (r 5), wQ ct qa ou]) (fun r (u9 : Mem × Mem × (Nat → Mem) × (Nat → Int64)) => post r u9.1 u9.2.1 u9.2.2.1 u9.2.2.2) (fun u9 => fl [wC ct g kc, wS ct (g 1) u9.1, wV ct g u9.2.1, wS ct (g 5) (u9.2.2.1 0), wS ct (g 6) (u9.2.2.1 1), wS ct (g 7) (u9.2.2.1 2), wS ct (g 8) (u9.2.2.1 3), wS ct (g 9) (u9.2.2.1 4), wS ct (g 10) (u9.2.2.1 5), wQ ct qa u9.2.2.2]) 1 6 := by
  intro sz
  refine g_ofh (own := RL) (by decide) rfl rfl (Nat.le_of_ble_eq_true rfl) [(0, .ref (g 0 0)), (1, .int p2), (2, .int p3), (3, .ref (qa 0))] rfl (fun p e s m args below meth c hsz htab XX X => ?_)
  subst hsz
  unfold PL_marry at hw
  refine g_aload_n X 3 dL_marry_0 rfl rfl ?_
  refine g_iconst (v := 0) X rfl dL_marry_1 ?_
  refine g_aload_n X 0 dL_marry_2 rfl rfl ?_
  refine g_iload_n X 1 dL_marry_3 rfl rfl ?_
  refine g_iload_n X 2 dL_marry_4 rfl rfl ?_
  refine g_cxV X XX [wC ct g kc, wS ct (g 1) v, wV ct g b, wS ct (g 5) (r 0), wS ct (g 6) (r 1), wS ct (g 7) (r 2), wS ct (g 8) (r 3), wS ct (g 9) (r 4), wS ct (g 10) (r 5), wQ ct qa ou] (fun (u : Mem × Mem × (Nat → Mem)) => [wC ct g kc, wS ct (g 1) u.1, wV ct g u.2.1, wS ct (g 5) (u.2.2 0), wS ct (g 6) (u.2.2 1), wS ct (g 7) (u.2.2 2), wS ct (g 8) (u.2.2 3), wS ct (g 9) (u.2.2 4), wS ct (g 10) (u.2.2 5), wQ ct qa ou]) (fun (u : Mem × Mem × (Nat → Mem)) => fl [wC ct g kc, wS ct (g 1) u.1, wV ct g u.2.1, wS ct (g 5) (u.2.2 0), wS ct (g 6) (u.2.2 1), wS ct (g 7) (u.2.2 2), wS ct (g 8) (u.2.2 3), wS ct (g 9) (u.2.2 4), wS ct (g 10) (u.2.2 5), wQ ct qa ou]) 10 [0, 1, 2, 3, 4, 5, 6, 7, 8] [9] 0 (kX7_marry_x l hl9 D ct g kc v b r p2 p3 _ _ hw) (cwV 2 X.1.2.2.2.2 gL_marry_X7_marry rfl rfl rfl (by decide +kernel) ⟨(Nat.le_of_ble_eq_true rfl), (Nat.le_of_ble_eq_true rfl)⟩) dL_marry_5 rfl rfl (Nat.le_of_ble_eq_true rfl) ⟨(Nat.le_of_ble_eq_true rfl), (Nat.le_of_ble_eq_true rfl)⟩ rfl rfl rfl (by decide) (fun _ => rfl) (fun _ => rfl) (fun _ => rfl) (fun _ => rfl) rfl rfl rfl (fun code hx => ?_) (fun rz u hw => ?_)
  · rcases hx with ⟨rfl, hx⟩ | ⟨rfl, hx⟩
    · refine ⟨[], ⟨0, 10, 13, 13⟩, [⟨0, 10, 17, 19⟩], htab.trans rfl, (fun z hz => by cases hz), by decide, by decide, (List.mem_of_getElem? (i := 1) rfl), fun q9 => ?_⟩
      refine g_astore X [(4, .ref q9), (0, .ref (g 0 0)), (1, .int p2), (2, .int p3), (3, .ref (qa 0))] dL_marry_13 (by decide) rfl ?_
      refine g_iconst (v := 1) X rfl dL_marry_15 ?_
      exact g_iret X (v, b, r, ou) hx rfl (Nat.le_of_ble_eq_true rfl) (Nat.le_of_ble_eq_true rfl) dL_marry_16
    · refine ⟨[⟨0, 10, 13, 13⟩], ⟨0, 10, 17, 19⟩, [], htab.trans rfl, (fun z hz => by rw [List.mem_singleton.mp hz]; exact ⟨by decide, "java/lang/IndexOutOfBoundsException", (List.mem_of_getElem? (i := 1) rfl), XX.2.1⟩), by decide, by decide, (List.mem_of_getElem? (i := 2) rfl), fun q9 => ?_⟩
      refine g_astore X [(4, .ref q9), (0, .ref (g 0 0)), (1, .int p2), (2, .int p3), (3, .ref (qa 0))] dL_marry_17 (by decide) rfl ?_
      refine g_iconst (v := 2) X rfl dL_marry_19 ?_
      exact g_iret X (v, b, r, ou) hx rfl (Nat.le_of_ble_eq_true rfl) (Nat.le_of_ble_eq_true rfl) dL_marry_20
  · refine g_i2l X dL_marry_8 ?_
    refine g_last X (fun z => fl [wC ct g kc, wS ct (g 1) u.1, wV ct g u.2.1, wS ct (g 5) (u.2.2 0), wS ct (g 6) (u.2.2 1), wS ct (g 7) (u.2.2 2), wS ct (g 8) (u.2.2 3), wS ct (g 9) (u.2.2 4), wS ct (g 10) (u.2.2 5), wQ ct qa z]) 61 4 dL_marry_9 rfl rfl (vp_in_nI (n := 0) (by decide) (by decide)) rfl (fun oz hoz => ?_)
    replace hw := hw oz hoz
    refine g_goto X 21 dL_marry_10 (by decide) ?_
    refine g_iconst (v := 0) X rfl dL_marry_21 ?_
    exact g_iret X (u.1, u.2.1, u.2.2, oz) hw rfl (Nat.le_of_ble_eq_true rfl) (Nat.le_of_ble_eq_true rfl) dL_marry_22

abbrev rmL_child : Room := { frames := 7, cells := 1, slots := 6, locals := 123 }
set_option maxHeartbeats 4000000 in
set_option maxRecDepth 20000 in
theorem kL_child (l : Launch) (hl9 : l.stackTraces = false) (D : va_G) (ct : Nat → ClassId) (g : Nat → Nat → Nat) (qa : Nat → Nat) (kc : Mem) (v : Mem) (b : Mem) (r : Nat → Mem) (ou : Nat → Int64) (p2 : Int32) (post : Int32 → Mem → Mem → (Nat → Mem) → (Nat → Int64) → Prop) (hw : PL_child kc v b r ou p2 post) : Ch (S := Mem × Mem × (Nat → Mem) × (Nat → Int64)) l yL_child wsL_child rmL_child D (tyz ct) [.ref (g 0 0), .int p2, .ref (qa 0)] (fl [wC ct g kc, wS ct (g 1) v, wV ct g b, wS ct (g 5) (r 0), wS ct (g 6) (r 1), wS ct (g 7) (r 2), wS ct (g 8) (r 3), wS ct (g 9) (r 4), wS ct (g 10) (r 5), wQ ct qa ou]) (fun r (u9 : Mem × Mem × (Nat → Mem) × (Nat → Int64)) => post r u9.1 u9.2.1 u9.2.2.1 u9.2.2.2) (fun u9 => fl [wC ct g kc, wS ct (g 1) u9.1, wV ct g u9.2.1, wS ct (g 5) (u9.2.2.1 0), wS ct (g 6) (u9.2.2.1 1), wS ct (g 7) (u9.2.2.1 2), wS ct (g 8) (u9.2.2.1 3), wS ct (g 9) (u9.2.2.1 4), wS ct (g 10) (u9.2.2.1 5), wQ ct qa u9.2.2.2]) 1 6 := by
  intro sz
  refine g_ofh (own := RL) (by decide) rfl rfl (Nat.le_of_ble_eq_true rfl) [(0, .ref (g 0 0)), (1, .int p2), (2, .ref (qa 0))] rfl (fun p e s m args below meth c hsz htab XX X => ?_)
  subst hsz
  unfold PL_child at hw
  refine g_aload_n X 2 dL_child_0 rfl rfl ?_
  refine g_iconst (v := 0) X rfl dL_child_1 ?_
  refine g_aload_n X 0 dL_child_2 rfl rfl ?_
  refine g_iload_n X 1 dL_child_3 rfl rfl ?_
  refine g_cxV X XX [wC ct g kc, wS ct (g 1) v, wV ct g b, wS ct (g 5) (r 0), wS ct (g 6) (r 1), wS ct (g 7) (r 2), wS ct (g 8) (r 3), wS ct (g 9) (r 4), wS ct (g 10) (r 5), wQ ct qa ou] (fun (u : Mem × Mem × (Nat → Mem)) => [wC ct g kc, wS ct (g 1) u.1, wV ct g u.2.1, wS ct (g 5) (u.2.2 0), wS ct (g 6) (u.2.2 1), wS ct (g 7) (u.2.2 2), wS ct (g 8) (u.2.2 3), wS ct (g 9) (u.2.2 4), wS ct (g 10) (u.2.2 5), wQ ct qa ou]) (fun (u : Mem × Mem × (Nat → Mem)) => fl [wC ct g kc, wS ct (g 1) u.1, wV ct g u.2.1, wS ct (g 5) (u.2.2 0), wS ct (g 6) (u.2.2 1), wS ct (g 7) (u.2.2 2), wS ct (g 8) (u.2.2 3), wS ct (g 9) (u.2.2 4), wS ct (g 10) (u.2.2 5), wQ ct qa ou]) 10 [0, 1, 2, 3, 4, 5, 6, 7, 8] [9] 0 (kX7_child_x l hl9 D ct g kc v b r p2 _ _ hw) (cwV 1 X.1.2.2.2.2 gL_child_X7_child rfl rfl rfl (by decide +kernel) ⟨(Nat.le_of_ble_eq_true rfl), (Nat.le_of_ble_eq_true rfl)⟩) dL_child_4 rfl rfl (Nat.le_of_ble_eq_true rfl) ⟨(Nat.le_of_ble_eq_true rfl), (Nat.le_of_ble_eq_true rfl)⟩ rfl rfl rfl (by decide) (fun _ => rfl) (fun _ => rfl) (fun _ => rfl) (fun _ => rfl) rfl rfl rfl (fun code hx => ?_) (fun rz u hw => ?_)
  · obtain ⟨rfl, hx⟩ := hx
    refine ⟨[], ⟨0, 9, 12, 13⟩, [], htab.trans rfl, (fun z hz => by cases hz), by decide, by decide, (List.mem_of_getElem? (i := 1) rfl), fun q9 => ?_⟩
    refine g_astore_n X [(3, .ref q9), (0, .ref (g 0 0)), (1, .int p2), (2, .ref (qa 0))] dL_child_12 rfl (by decide) rfl ?_
    refine g_iconst (v := 1) X rfl dL_child_13 ?_
    exact g_iret X (v, b, r, ou) hx rfl (Nat.le_of_ble_eq_true rfl) (Nat.le_of_ble_eq_true rfl) dL_child_14
  · refine g_i2l X dL_child_7 ?_
    refine g_last X (fun z => fl [wC ct g kc, wS ct (g 1) u.1, wV ct g u.2.1, wS ct (g 5) (u.2.2 0), wS ct (g 6) (u.2.2 1), wS ct (g 7) (u.2.2 2), wS ct (g 8) (u.2.2 3), wS ct (g 9) (u.2.2 4), wS ct (g 10) (u.2.2 5), wQ ct qa z]) 61 4 dL_child_8 rfl rfl (vp_in_nI (n := 0) (by decide) (by decide)) rfl (fun oz hoz => ?_)
    replace hw := hw oz hoz
    refine g_goto X 15 dL_child_9 (by decide) ?_
    refine g_iconst (v := 0) X rfl dL_child_15 ?_
    exact g_iret X (u.1, u.2.1, u.2.2, oz) hw rfl (Nat.le_of_ble_eq_true rfl) (Nat.le_of_ble_eq_true rfl) dL_child_16

abbrev rmL_swap : Room := { frames := 7, cells := 1, slots := 6, locals := 153 }
set_option maxHeartbeats 4000000 in
set_option maxRecDepth 20000 in
theorem kL_swap (l : Launch) (hl9 : l.stackTraces = false) (D : va_G) (ct : Nat → ClassId) (g : Nat → Nat → Nat) (qa : Nat → Nat) (kc : Mem) (v : Mem) (b : Mem) (r : Nat → Mem) (y : Mem) (ou : Nat → Int64) (p2 : Int32) (p3 : Int32) (post : Int32 → Mem → Mem → (Nat → Mem) → Mem → (Nat → Int64) → Prop) (hw : PL_swap kc v b r y ou p2 p3 post) : Ch (S := Mem × Mem × (Nat → Mem) × Mem × (Nat → Int64)) l yL_swap wsL_swap rmL_swap D (tyz ct) [.ref (g 0 0), .int p2, .int p3, .ref (qa 0)] (fl [wC ct g kc, wS ct (g 1) v, wV ct g b, wS ct (g 5) (r 0), wS ct (g 6) (r 1), wS ct (g 7) (r 2), wS ct (g 8) (r 3), wS ct (g 9) (r 4), wS ct (g 10) (r 5), wL ct (g 12) y, wQ ct qa ou]) (fun r (u9 : Mem × Mem × (Nat → Mem) × Mem × (Nat → Int64)) => post r u9.1 u9.2.1 u9.2.2.1 u9.2.2.2.1 u9.2.2.2.2) (fun u9 => fl [wC ct g kc, wS ct (g 1) u9.1, wV ct g u9.2.1, wS ct (g 5) (u9.2.2.1 0), wS ct (g 6) (u9.2.2.1 1), wS ct (g 7) (u9.2.2.1 2), wS ct (g 8) (u9.2.2.1 3), wS ct (g 9) (u9.2.2.1 4), wS ct (g 10) (u9.2.2.1 5), wL ct (g 12) u9.2.2.2.1, wQ ct qa u9.2.2.2.2]) 1 6 := by
  intro sz
  refine g_ofh (own := RL) (by decide) rfl rfl (Nat.le_of_ble_eq_true rfl) [(0, .ref (g 0 0)), (1, .int p2), (2, .int p3), (3, .ref (qa 0))] rfl (fun p e s m args below meth c hsz htab XX X => ?_)
  subst hsz
  unfold PL_swap at hw
  refine g_aload_n X 3 dL_swap_0 rfl rfl ?_
  refine g_iconst (v := 0) X rfl dL_swap_1 ?_
  refine g_aload_n X 0 dL_swap_2 rfl rfl ?_
  refine g_iload_n X 1 dL_swap_3 rfl rfl ?_
  refine g_iload_n X 2 dL_swap_4 rfl rfl ?_
  refine g_cxV X XX [wC ct g kc, wS ct (g 1) v, wV ct g b, wS ct (g 5) (r 0), wS ct (g 6) (r 1), wS ct (g 7) (r 2), wS ct (g 8) (r 3), wS ct (g 9) (r 4), wS ct (g 10) (r 5), wL ct (g 12) y, wQ ct qa ou] (fun (u : Mem × Mem × (Nat → Mem) × Mem) => [wC ct g kc, wS ct (g 1) u.1, wV ct g u.2.1, wS ct (g 5) (u.2.2.1 0), wS ct (g 6) (u.2.2.1 1), wS ct (g 7) (u.2.2.1 2), wS ct (g 8) (u.2.2.1 3), wS ct (g 9) (u.2.2.1 4), wS ct (g 10) (u.2.2.1 5), wL ct (g 12) u.2.2.2, wQ ct qa ou]) (fun (u : Mem × Mem × (Nat → Mem) × Mem) => fl [wC ct g kc, wS ct (g 1) u.1, wV ct g u.2.1, wS ct (g 5) (u.2.2.1 0), wS ct (g 6) (u.2.2.1 1), wS ct (g 7) (u.2.2.1 2), wS ct (g 8) (u.2.2.1 3), wS ct (g 9) (u.2.2.1 4), wS ct (g 10) (u.2.2.1 5), wL ct (g 12) u.2.2.2, wQ ct qa ou]) 11 [0, 1, 2, 3, 4, 5, 6, 7, 8, 9] [10] 0 (kX7_swap_x l hl9 D ct g kc v b r y p2 p3 _ _ hw) (cwV 2 X.1.2.2.2.2 gL_swap_X7_swap rfl rfl rfl (by decide +kernel) ⟨(Nat.le_of_ble_eq_true rfl), (Nat.le_of_ble_eq_true rfl)⟩) dL_swap_5 rfl rfl (Nat.le_of_ble_eq_true rfl) ⟨(Nat.le_of_ble_eq_true rfl), (Nat.le_of_ble_eq_true rfl)⟩ rfl rfl rfl (by decide) (fun _ => rfl) (fun _ => rfl) (fun _ => rfl) (fun _ => rfl) rfl rfl rfl (fun code hx => ?_) (fun rz u hw => ?_)
  · rcases hx with ⟨rfl, hx⟩ | ⟨rfl, hx⟩
    · refine ⟨[], ⟨0, 10, 13, 13⟩, [⟨0, 10, 17, 19⟩], htab.trans rfl, (fun z hz => by cases hz), by decide, by decide, (List.mem_of_getElem? (i := 1) rfl), fun q9 => ?_⟩
      refine g_astore X [(4, .ref q9), (0, .ref (g 0 0)), (1, .int p2), (2, .int p3), (3, .ref (qa 0))] dL_swap_13 (by decide) rfl ?_
      refine g_iconst (v := 1) X rfl dL_swap_15 ?_
      exact g_iret X (v, b, r, y, ou) hx rfl (Nat.le_of_ble_eq_true rfl) (Nat.le_of_ble_eq_true rfl) dL_swap_16
    · refine ⟨[⟨0, 10, 13, 13⟩], ⟨0, 10, 17, 19⟩, [], htab.trans rfl, (fun z hz => by rw [List.mem_singleton.mp hz]; exact ⟨by decide, "java/lang/IndexOutOfBoundsException", (List.mem_of_getElem? (i := 1) rfl), XX.2.1⟩), by decide, by decide, (List.mem_of_getElem? (i := 2) rfl), fun q9 => ?_⟩
      refine g_astore X [(4, .ref q9), (0, .ref (g 0 0)), (1, .int p2), (2, .int p3), (3, .ref (qa 0))] dL_swap_17 (by decide) rfl ?_
      refine g_iconst (v := 2) X rfl dL_swap_19 ?_
      exact g_iret X (v, b, r, y, ou) hx rfl (Nat.le_of_ble_eq_true rfl) (Nat.le_of_ble_eq_true rfl) dL_swap_20
  · refine g_i2l X dL_swap_8 ?_
    refine g_last X (fun z => fl [wC ct g kc, wS ct (g 1) u.1, wV ct g u.2.1, wS ct (g 5) (u.2.2.1 0), wS ct (g 6) (u.2.2.1 1), wS ct (g 7) (u.2.2.1 2), wS ct (g 8) (u.2.2.1 3), wS ct (g 9) (u.2.2.1 4), wS ct (g 10) (u.2.2.1 5), wL ct (g 12) u.2.2.2, wQ ct qa z]) 64 4 dL_swap_9 rfl rfl (vp_in_nI (n := 0) (by decide) (by decide)) rfl (fun oz hoz => ?_)
    replace hw := hw oz hoz
    refine g_goto X 21 dL_swap_10 (by decide) ?_
    refine g_iconst (v := 0) X rfl dL_swap_21 ?_
    exact g_iret X (u.1, u.2.1, u.2.2.1, u.2.2.2, oz) hw rfl (Nat.le_of_ble_eq_true rfl) (Nat.le_of_ble_eq_true rfl) dL_swap_22

abbrev rmL_byParents : Room := { frames := 7, cells := 1, slots := 6, locals := 131 }
set_option maxHeartbeats 4000000 in
set_option maxRecDepth 20000 in
theorem kL_byParents (l : Launch) (hl9 : l.stackTraces = false) (D : va_G) (ct : Nat → ClassId) (g : Nat → Nat → Nat) (qa : Nat → Nat) (kc : Mem) (v : Mem) (b : Mem) (r : Nat → Mem) (o : Mem) (ou : Nat → Int64) (p2 : Int32) (post : Int32 → Mem → Mem → (Nat → Mem) → Mem → (Nat → Int64) → Prop) (hw : PL_byParents kc v b r o ou p2 post) : Ch (S := Mem × Mem × (Nat → Mem) × Mem × (Nat → Int64)) l yL_byParents wsL_byParents rmL_byParents D (tyz ct) [.ref (g 0 0), .int p2, .ref (qa 0)] (fl [wC ct g kc, wS ct (g 1) v, wV ct g b, wS ct (g 5) (r 0), wS ct (g 6) (r 1), wS ct (g 7) (r 2), wS ct (g 8) (r 3), wS ct (g 9) (r 4), wS ct (g 10) (r 5), wO ct (g 13) o, wQ ct qa ou]) (fun r (u9 : Mem × Mem × (Nat → Mem) × Mem × (Nat → Int64)) => post r u9.1 u9.2.1 u9.2.2.1 u9.2.2.2.1 u9.2.2.2.2) (fun u9 => fl [wC ct g kc, wS ct (g 1) u9.1, wV ct g u9.2.1, wS ct (g 5) (u9.2.2.1 0), wS ct (g 6) (u9.2.2.1 1), wS ct (g 7) (u9.2.2.1 2), wS ct (g 8) (u9.2.2.1 3), wS ct (g 9) (u9.2.2.1 4), wS ct (g 10) (u9.2.2.1 5), wO ct (g 13) u9.2.2.2.1, wQ ct qa u9.2.2.2.2]) 1 6 := by
  intro sz
  refine g_ofh (own := RL) (by decide) rfl rfl (Nat.le_of_ble_eq_true rfl) [(0, .ref (g 0 0)), (1, .int p2), (2, .ref (qa 0))] rfl (fun p e s m args below meth c hsz htab XX X => ?_)
  subst hsz
  unfold PL_byParents at hw
  refine g_aload_n X 2 dL_byParents_0 rfl rfl ?_
  refine g_iconst (v := 0) X rfl dL_byParents_1 ?_
  refine g_aload_n X 0 dL_byParents_2 rfl rfl ?_
  refine g_iload_n X 1 dL_byParents_3 rfl rfl ?_
  refine g_cxV X XX [wC ct g kc, wS ct (g 1) v, wV ct g b, wS ct (g 5) (r 0), wS ct (g 6) (r 1), wS ct (g 7) (r 2), wS ct (g 8) (r 3), wS ct (g 9) (r 4), wS ct (g 10) (r 5), wO ct (g 13) o, wQ ct qa ou] (fun (u : Mem × Mem × (Nat → Mem) × Mem) => [wC ct g kc, wS ct (g 1) u.1, wV ct g u.2.1, wS ct (g 5) (u.2.2.1 0), wS ct (g 6) (u.2.2.1 1), wS ct (g 7) (u.2.2.1 2), wS ct (g 8) (u.2.2.1 3), wS ct (g 9) (u.2.2.1 4), wS ct (g 10) (u.2.2.1 5), wO ct (g 13) u.2.2.2, wQ ct qa ou]) (fun (u : Mem × Mem × (Nat → Mem) × Mem) => fl [wC ct g kc, wS ct (g 1) u.1, wV ct g u.2.1, wS ct (g 5) (u.2.2.1 0), wS ct (g 6) (u.2.2.1 1), wS ct (g 7) (u.2.2.1 2), wS ct (g 8) (u.2.2.1 3), wS ct (g 9) (u.2.2.1 4), wS ct (g 10) (u.2.2.1 5), wO ct (g 13) u.2.2.2, wQ ct qa ou]) 11 [0, 1, 2, 3, 4, 5, 6, 7, 8, 9] [10] 0 (kX7_byParents_x l hl9 D ct g kc v b r o p2 _ _ hw) (cwV 1 X.1.2.2.2.2 gL_byParents_X7_byParents rfl rfl rfl (by decide +kernel) ⟨(Nat.le_of_ble_eq_true rfl), (Nat.le_of_ble_eq_true rfl)⟩) dL_byParents_4 rfl rfl (Nat.le_of_ble_eq_true rfl) ⟨(Nat.le_of_ble_eq_true rfl), (Nat.le_of_ble_eq_true rfl)⟩ rfl rfl rfl (by decide) (fun _ => rfl) (fun _ => rfl) (fun _ => rfl) (fun _ => rfl) rfl rfl rfl (fun code hx => ?_) (fun rz u hw => ?_)
  · obtain ⟨rfl, hx⟩ := hx
    refine ⟨[], ⟨0, 9, 12, 13⟩, [], htab.trans rfl, (fun z hz => by cases hz), by decide, by decide, (List.mem_of_getElem? (i := 1) rfl), fun q9 => ?_⟩
    refine g_astore_n X [(3, .ref q9), (0, .ref (g 0 0)), (1, .int p2), (2, .ref (qa 0))] dL_byParents_12 rfl (by decide) rfl ?_
    refine g_iconst (v := 1) X rfl dL_byParents_13 ?_
    exact g_iret X (v, b, r, o, ou) hx rfl (Nat.le_of_ble_eq_true rfl) (Nat.le_of_ble_eq_true rfl) dL_byParents_14
  · refine g_i2l X dL_byParents_7 ?_
    refine g_last X (fun z => fl [wC ct g kc, wS ct (g 1) u.1, wV ct g u.2.1, wS ct (g 5) (u.2.2.1 0), wS ct (g 6) (u.2.2.1 1), wS ct (g 7) (u.2.2.1 2), wS ct (g 8) (u.2.2.1 3), wS ct (g 9) (u.2.2.1 4), wS ct (g 10) (u.2.2.1 5), wO ct (g 13) u.2.2.2, wQ ct qa z]) 64 4 dL_byParents_8 rfl rfl (vp_in_nI (n := 0) (by decide) (by decide)) rfl (fun oz hoz => ?_)
    replace hw := hw oz hoz
    refine g_goto X 15 dL_byParents_9 (by decide) ?_
    refine g_iconst (v := 0) X rfl dL_byParents_15 ?_
    exact g_iret X (u.1, u.2.1, u.2.2.1, u.2.2.2, oz) hw rfl (Nat.le_of_ble_eq_true rfl) (Nat.le_of_ble_eq_true rfl) dL_byParents_16

abbrev rmL_untangle : Room := { frames := 7, cells := 1, slots := 6, locals := 153 }
set_option maxHeartbeats 4000000 in
set_option maxRecDepth 20000 in
theorem kL_untangle (l : Launch) (hl9 : l.stackTraces = false) (D : va_G) (ct : Nat → ClassId) (g : Nat → Nat → Nat) (qa : Nat → Nat) (kc : Mem) (v : Mem) (b : Mem) (r : Nat → Mem) (x : Mem) (ou : Nat → Int64) (p2 : Int32) (post : Int32 → Mem → Mem → (Nat → Mem) → Mem → (Nat → Int64) → Prop) (hw : PL_untangle kc v b r x ou p2 post) : Ch (S := Mem × Mem × (Nat → Mem) × Mem × (Nat → Int64)) l yL_untangle wsL_untangle rmL_untangle D (tyz ct) [.ref (g 0 0), .int p2, .ref (qa 0)] (fl [wC ct g kc, wS ct (g 1) v, wV ct g b, wS ct (g 5) (r 0), wS ct (g 6) (r 1), wS ct (g 7) (r 2), wS ct (g 8) (r 3), wS ct (g 9) (r 4), wS ct (g 10) (r 5), wR ct (g 14) x, wQ ct qa ou]) (fun r (u9 : Mem × Mem × (Nat → Mem) × Mem × (Nat → Int64)) => post r u9.1 u9.2.1 u9.2.2.1 u9.2.2.2.1 u9.2.2.2.2) (fun u9 => fl [wC ct g kc, wS ct (g 1) u9.1, wV ct g u9.2.1, wS ct (g 5) (u9.2.2.1 0), wS ct (g 6) (u9.2.2.1 1), wS ct (g 7) (u9.2.2.1 2), wS ct (g 8) (u9.2.2.1 3), wS ct (g 9) (u9.2.2.1 4), wS ct (g 10) (u9.2.2.1 5), wR ct (g 14) u9.2.2.2.1, wQ ct qa u9.2.2.2.2]) 1 6 := by
  intro sz
  refine g_ofh (own := RL) (by decide) rfl rfl (Nat.le_of_ble_eq_true rfl) [(0, .ref (g 0 0)), (1, .int p2), (2, .ref (qa 0))] rfl (fun p e s m args below meth c hsz htab XX X => ?_)
  subst hsz
  unfold PL_untangle at hw
  refine g_aload_n X 2 dL_untangle_0 rfl rfl ?_
  refine g_iconst (v := 0) X rfl dL_untangle_1 ?_
  refine g_aload_n X 0 dL_untangle_2 rfl rfl ?_
  refine g_iload_n X 1 dL_untangle_3 rfl rfl ?_
  refine g_cxV X XX [wC ct g kc, wS ct (g 1) v, wV ct g b, wS ct (g 5) (r 0), wS ct (g 6) (r 1), wS ct (g 7) (r 2), wS ct (g 8) (r 3), wS ct (g 9) (r 4), wS ct (g 10) (r 5), wR ct (g 14) x, wQ ct qa ou] (fun (u : Mem × Mem × (Nat → Mem) × Mem) => [wC ct g kc, wS ct (g 1) u.1, wV ct g u.2.1, wS ct (g 5) (u.2.2.1 0), wS ct (g 6) (u.2.2.1 1), wS ct (g 7) (u.2.2.1 2), wS ct (g 8) (u.2.2.1 3), wS ct (g 9) (u.2.2.1 4), wS ct (g 10) (u.2.2.1 5), wR ct (g 14) u.2.2.2, wQ ct qa ou]) (fun (u : Mem × Mem × (Nat → Mem) × Mem) => fl [wC ct g kc, wS ct (g 1) u.1, wV ct g u.2.1, wS ct (g 5) (u.2.2.1 0), wS ct (g 6) (u.2.2.1 1), wS ct (g 7) (u.2.2.1 2), wS ct (g 8) (u.2.2.1 3), wS ct (g 9) (u.2.2.1 4), wS ct (g 10) (u.2.2.1 5), wR ct (g 14) u.2.2.2, wQ ct qa ou]) 11 [0, 1, 2, 3, 4, 5, 6, 7, 8, 9] [10] 0 (kX7_untangle_x l hl9 D ct g kc v b r x p2 _ _ hw) (cwV 1 X.1.2.2.2.2 gL_untangle_X7_untangle rfl rfl rfl (by decide +kernel) ⟨(Nat.le_of_ble_eq_true rfl), (Nat.le_of_ble_eq_true rfl)⟩) dL_untangle_4 rfl rfl (Nat.le_of_ble_eq_true rfl) ⟨(Nat.le_of_ble_eq_true rfl), (Nat.le_of_ble_eq_true rfl)⟩ rfl rfl rfl (by decide) (fun _ => rfl) (fun _ => rfl) (fun _ => rfl) (fun _ => rfl) rfl rfl rfl (fun code hx => ?_) (fun rz u hw => ?_)
  · obtain ⟨rfl, hx⟩ := hx
    refine ⟨[], ⟨0, 9, 12, 13⟩, [], htab.trans rfl, (fun z hz => by cases hz), by decide, by decide, (List.mem_of_getElem? (i := 1) rfl), fun q9 => ?_⟩
    refine g_astore_n X [(3, .ref q9), (0, .ref (g 0 0)), (1, .int p2), (2, .ref (qa 0))] dL_untangle_12 rfl (by decide) rfl ?_
    refine g_iconst (v := 1) X rfl dL_untangle_13 ?_
    exact g_iret X (v, b, r, x, ou) hx rfl (Nat.le_of_ble_eq_true rfl) (Nat.le_of_ble_eq_true rfl) dL_untangle_14
  · refine g_i2l X dL_untangle_7 ?_
    refine g_last X (fun z => fl [wC ct g kc, wS ct (g 1) u.1, wV ct g u.2.1, wS ct (g 5) (u.2.2.1 0), wS ct (g 6) (u.2.2.1 1), wS ct (g 7) (u.2.2.1 2), wS ct (g 8) (u.2.2.1 3), wS ct (g 9) (u.2.2.1 4), wS ct (g 10) (u.2.2.1 5), wR ct (g 14) u.2.2.2, wQ ct qa z]) 78 4 dL_untangle_8 rfl rfl (vp_in_nI (n := 0) (by decide) (by decide)) rfl (fun oz hoz => ?_)
    replace hw := hw oz hoz
    refine g_goto X 15 dL_untangle_9 (by decide) ?_
    refine g_iconst (v := 0) X rfl dL_untangle_15 ?_
    exact g_iret X (u.1, u.2.1, u.2.2.1, u.2.2.2, oz) hw rfl (Nat.le_of_ble_eq_true rfl) (Nat.le_of_ble_eq_true rfl) dL_untangle_16

abbrev rmL_append : Room := { frames := 7, cells := 1, slots := 6, locals := 111 }
set_option maxHeartbeats 4000000 in
set_option maxRecDepth 20000 in
theorem kL_append (l : Launch) (hl9 : l.stackTraces = false) (D : va_G) (ct : Nat → ClassId) (g : Nat → Nat → Nat) (qa : Nat → Nat) (kc : Mem) (tx : Mem) (ou : Nat → Int64) (p2 : Int32) (post : Int32 → Mem → (Nat → Int64) → Prop) (hw : PL_append kc tx ou p2 post) : Ch (S := Mem × (Nat → Int64)) l yL_append wsL_append rmL_append D (tyz ct) [.ref (g 0 0), .int p2, .ref (qa 0)] (fl [wC ct g kc, wT ct (g 11) tx, wQ ct qa ou]) (fun r (u9 : Mem × (Nat → Int64)) => post r u9.1 u9.2) (fun u9 => fl [wC ct g kc, wT ct (g 11) u9.1, wQ ct qa u9.2]) 1 6 := by
  intro sz
  refine g_ofh (own := RL) (by decide) rfl rfl (Nat.le_of_ble_eq_true rfl) [(0, .ref (g 0 0)), (1, .int p2), (2, .ref (qa 0))] rfl (fun p e s m args below meth c hsz htab XX X => ?_)
  subst hsz
  unfold PL_append at hw
  refine g_aload_n X 2 dL_append_0 rfl rfl ?_
  refine g_iconst (v := 0) X rfl dL_append_1 ?_
  refine g_aload_n X 0 dL_append_2 rfl rfl ?_
  refine g_iload_n X 1 dL_append_3 rfl rfl ?_
  refine g_cxV X XX [wC ct g kc, wT ct (g 11) tx, wQ ct qa ou] (fun (u : Mem) => [wC ct g kc, wT ct (g 11) u, wQ ct qa ou]) (fun (u : Mem) => fl [wC ct g kc, wT ct (g 11) u, wQ ct qa ou]) 3 [0, 1] [2] 0 (kX7_append_x l hl9 D ct g kc tx p2 _ _ hw) (cwV 1 X.1.2.2.2.2 gL_append_X7_append rfl rfl rfl (by decide +kernel) ⟨(Nat.le_of_ble_eq_true rfl), (Nat.le_of_ble_eq_true rfl)⟩) dL_append_4 rfl rfl (Nat.le_of_ble_eq_true rfl) ⟨(Nat.le_of_ble_eq_true rfl), (Nat.le_of_ble_eq_true rfl)⟩ rfl rfl rfl (by decide) (fun _ => rfl) (fun _ => rfl) (fun _ => rfl) (fun _ => rfl) rfl rfl rfl (fun code hx => ?_) (fun rz u hw => ?_)
  · rcases hx with ⟨rfl, hx⟩ | ⟨rfl, hx⟩
    · refine ⟨[], ⟨0, 9, 12, 19⟩, [⟨0, 9, 15, 36⟩], htab.trans rfl, (fun z hz => by cases hz), by decide, by decide, (List.mem_of_getElem? (i := 1) rfl), fun q9 => ?_⟩
      refine g_astore_n X [(3, .ref q9), (0, .ref (g 0 0)), (1, .int p2), (2, .ref (qa 0))] dL_append_12 rfl (by decide) rfl ?_
      refine g_iconst (v := 1) X rfl dL_append_13 ?_
      exact g_iret X (tx, ou) hx rfl (Nat.le_of_ble_eq_true rfl) (Nat.le_of_ble_eq_true rfl) dL_append_14
    · refine ⟨[⟨0, 9, 12, 19⟩], ⟨0, 9, 15, 36⟩, [], htab.trans rfl, (fun z hz => by rw [List.mem_singleton.mp hz]; exact ⟨by decide, "java/lang/IllegalArgumentException", (List.mem_of_getElem? (i := 1) rfl), XX.2.2⟩), by decide, by decide, (List.mem_of_getElem? (i := 2) rfl), fun q9 => ?_⟩
      refine g_astore_n X [(3, .ref q9), (0, .ref (g 0 0)), (1, .int p2), (2, .ref (qa 0))] dL_append_15 rfl (by decide) rfl ?_
      refine g_iconst (v := 2) X rfl dL_append_16 ?_
      exact g_iret X (tx, ou) hx rfl (Nat.le_of_ble_eq_true rfl) (Nat.le_of_ble_eq_true rfl) dL_append_17
  · refine g_i2l X dL_append_7 ?_
    refine g_last X (fun z => fl [wC ct g kc, wT ct (g 11) u, wQ ct qa z]) 5 4 dL_append_8 rfl rfl (vp_in_nI (n := 0) (by decide) (by decide)) rfl (fun oz hoz => ?_)
    replace hw := hw oz hoz
    refine g_goto X 18 dL_append_9 (by decide) ?_
    refine g_iconst (v := 0) X rfl dL_append_18 ?_
    exact g_iret X (u, oz) hw rfl (Nat.le_of_ble_eq_true rfl) (Nat.le_of_ble_eq_true rfl) dL_append_19

abbrev rmL_run : Room := { frames := 7, cells := 1, slots := 6, locals := 133 }
set_option maxHeartbeats 4000000 in
set_option maxRecDepth 20000 in
theorem kL_run (l : Launch) (hl9 : l.stackTraces = false) (D : va_G) (ct : Nat → ClassId) (g : Nat → Nat → Nat) (qa : Nat → Nat) (kc : Mem) (v : Mem) (b : Mem) (r : Nat → Mem) (tx : Mem) (ou : Nat → Int64) (post : Int32 → Mem → Mem → (Nat → Mem) → Mem → (Nat → Int64) → Prop) (hw : PL_run kc v b r tx ou  post) : Ch (S := Mem × Mem × (Nat → Mem) × Mem × (Nat → Int64)) l yL_run wsL_run rmL_run D (tyz ct) [.ref (g 0 0), .ref (qa 0)] (fl [wC ct g kc, wS ct (g 1) v, wV ct g b, wS ct (g 5) (r 0), wS ct (g 6) (r 1), wS ct (g 7) (r 2), wS ct (g 8) (r 3), wS ct (g 9) (r 4), wS ct (g 10) (r 5), wT ct (g 11) tx, wQ ct qa ou]) (fun r (u9 : Mem × Mem × (Nat → Mem) × Mem × (Nat → Int64)) => post r u9.1 u9.2.1 u9.2.2.1 u9.2.2.2.1 u9.2.2.2.2) (fun u9 => fl [wC ct g kc, wS ct (g 1) u9.1, wV ct g u9.2.1, wS ct (g 5) (u9.2.2.1 0), wS ct (g 6) (u9.2.2.1 1), wS ct (g 7) (u9.2.2.1 2), wS ct (g 8) (u9.2.2.1 3), wS ct (g 9) (u9.2.2.1 4), wS ct (g 10) (u9.2.2.1 5), wT ct (g 11) u9.2.2.2.1, wQ ct qa u9.2.2.2.2]) 1 6 := by
  intro sz
  refine g_ofh (own := RL) (by decide) rfl rfl (Nat.le_of_ble_eq_true rfl) [(0, .ref (g 0 0)), (1, .ref (qa 0))] rfl (fun p e s m args below meth c hsz htab XX X => ?_)
  subst hsz
  unfold PL_run at hw
  refine g_aload_n X 1 dL_run_0 rfl rfl ?_
  refine g_iconst (v := 0) X rfl dL_run_1 ?_
  refine g_aload_n X 0 dL_run_2 rfl rfl ?_
  refine g_cxV X XX [wC ct g kc, wS ct (g 1) v, wV ct g b, wS ct (g 5) (r 0), wS ct (g 6) (r 1), wS ct (g 7) (r 2), wS ct (g 8) (r 3), wS ct (g 9) (r 4), wS ct (g 10) (r 5), wT ct (g 11) tx, wQ ct qa ou] (fun (u : Mem × Mem × (Nat → Mem) × Mem) => [wC ct g kc, wS ct (g 1) u.1, wV ct g u.2.1, wS ct (g 5) (u.2.2.1 0), wS ct (g 6) (u.2.2.1 1), wS ct (g 7) (u.2.2.1 2), wS ct (g 8) (u.2.2.1 3), wS ct (g 9) (u.2.2.1 4), wS ct (g 10) (u.2.2.1 5), wT ct (g 11) u.2.2.2, wQ ct qa ou]) (fun (u : Mem × Mem × (Nat → Mem) × Mem) => fl [wC ct g kc, wS ct (g 1) u.1, wV ct g u.2.1, wS ct (g 5) (u.2.2.1 0), wS ct (g 6) (u.2.2.1 1), wS ct (g 7) (u.2.2.1 2), wS ct (g 8) (u.2.2.1 3), wS ct (g 9) (u.2.2.1 4), wS ct (g 10) (u.2.2.1 5), wT ct (g 11) u.2.2.2, wQ ct qa ou]) 11 [0, 1, 2, 3, 4, 5, 6, 7, 8, 9] [10] 0 (kX7_run_x l hl9 D ct g kc v b r tx  _ _ hw) (cwV 0 X.1.2.2.2.2 gL_run_X7_run rfl rfl rfl (by decide +kernel) ⟨(Nat.le_of_ble_eq_true rfl), (Nat.le_of_ble_eq_true rfl)⟩) dL_run_3 rfl rfl (Nat.le_of_ble_eq_true rfl) ⟨(Nat.le_of_ble_eq_true rfl), (Nat.le_of_ble_eq_true rfl)⟩ rfl rfl rfl (by decide) (fun _ => rfl) (fun _ => rfl) (fun _ => rfl) (fun _ => rfl) rfl rfl rfl (fun code hx => ?_) (fun rz u hw => ?_)
  · obtain ⟨rfl, hx⟩ := hx
    refine ⟨[], ⟨0, 8, 11, 19⟩, [], htab.trans rfl, (fun z hz => by cases hz), by decide, by decide, (List.mem_of_getElem? (i := 1) rfl), fun q9 => ?_⟩
    refine g_astore_n X [(2, .ref q9), (0, .ref (g 0 0)), (1, .ref (qa 0))] dL_run_11 rfl (by decide) rfl ?_
    refine g_iconst (v := 1) X rfl dL_run_12 ?_
    exact g_iret X (v, b, r, tx, ou) hx rfl (Nat.le_of_ble_eq_true rfl) (Nat.le_of_ble_eq_true rfl) dL_run_13
  · refine g_i2l X dL_run_6 ?_
    refine g_last X (fun z => fl [wC ct g kc, wS ct (g 1) u.1, wV ct g u.2.1, wS ct (g 5) (u.2.2.1 0), wS ct (g 6) (u.2.2.1 1), wS ct (g 7) (u.2.2.1 2), wS ct (g 8) (u.2.2.1 3), wS ct (g 9) (u.2.2.1 4), wS ct (g 10) (u.2.2.1 5), wT ct (g 11) u.2.2.2, wQ ct qa z]) 63 4 dL_run_7 rfl rfl (vp_in_nI (n := 0) (by decide) (by decide)) rfl (fun oz hoz => ?_)
    replace hw := hw oz hoz
    refine g_goto X 14 dL_run_8 (by decide) ?_
    refine g_iconst (v := 0) X rfl dL_run_14 ?_
    exact g_iret X (u.1, u.2.1, u.2.2.1, u.2.2.2, oz) hw rfl (Nat.le_of_ble_eq_true rfl) (Nat.le_of_ble_eq_true rfl) dL_run_15

abbrev rmL_keep : Room := { frames := 7, cells := 1, slots := 6, locals := 111 }
set_option maxHeartbeats 4000000 in
set_option maxRecDepth 20000 in
theorem kL_keep (l : Launch) (hl9 : l.stackTraces = false) (D : va_G) (ct : Nat → ClassId) (g : Nat → Nat → Nat) (qa : Nat → Nat) (kc : Mem) (v : Mem) (sl : Nat → Mem) (ou : Nat → Int64) (p2 : Int32) (post : Int32 → Mem → (Nat → Mem) → (Nat → Int64) → Prop) (hw : PL_keep kc v sl ou p2 post) : Ch (S := Mem × (Nat → Mem) × (Nat → Int64)) l yL_keep wsL_keep rmL_keep D (tyz ct) [.ref (g 0 0), .int p2, .ref (qa 0)] (fl [wC ct g kc, wS ct (g 1) v, wS ct (g 2) (sl 0), wS ct (g 3) (sl 1), wQ ct qa ou]) (fun r (u9 : Mem × (Nat → Mem) × (Nat → Int64)) => post r u9.1 u9.2.1 u9.2.2) (fun u9 => fl [wC ct g u9.1, wS ct (g 1) v, wS ct (g 2) (u9.2.1 0), wS ct (g 3) (u9.2.1 1), wQ ct qa u9.2.2]) 1 6 := by
  intro sz
  refine g_ofh (own := RL) (by decide) rfl rfl (Nat.le_of_ble_eq_true rfl) [(0, .ref (g 0 0)), (1, .int p2), (2, .ref (qa 0))] rfl (fun p e s m args below meth c hsz htab XX X => ?_)
  subst hsz
  unfold PL_keep at hw
  refine g_aload_n X 2 dL_keep_0 rfl rfl ?_
  refine g_iconst (v := 0) X rfl dL_keep_1 ?_
  refine g_aload_n X 0 dL_keep_2 rfl rfl ?_
  refine g_iload_n X 1 dL_keep_3 rfl rfl ?_
  refine g_cxV X XX [wC ct g kc, wS ct (g 1) v, wS ct (g 2) (sl 0), wS ct (g 3) (sl 1), wQ ct qa ou] (fun (u : Mem × (Nat → Mem)) => [wC ct g u.1, wS ct (g 1) v, wS ct (g 2) (u.2 0), wS ct (g 3) (u.2 1), wQ ct qa ou]) (fun (u : Mem × (Nat → Mem)) => fl [wC ct g u.1, wS ct (g 1) v, wS ct (g 2) (u.2 0), wS ct (g 3) (u.2 1), wQ ct qa ou]) 5 [0, 1, 2, 3] [4] 0 (kX7_keep_x l hl9 D ct g kc v sl p2 _ _ hw) (cwV 1 X.1.2.2.2.2 gL_keep_X7_keep rfl rfl rfl (by decide +kernel) ⟨(Nat.le_of_ble_eq_true rfl), (Nat.le_of_ble_eq_true rfl)⟩) dL_keep_4 rfl rfl (Nat.le_of_ble_eq_true rfl) ⟨(Nat.le_of_ble_eq_true rfl), (Nat.le_of_ble_eq_true rfl)⟩ rfl rfl rfl (by decide) (fun _ => rfl) (fun _ => rfl) (fun _ => rfl) (fun _ => rfl) rfl rfl rfl (fun code hx => ?_) (fun rz u hw => ?_)
  · obtain ⟨rfl, hx⟩ := hx
    refine ⟨[], ⟨0, 9, 12, 19⟩, [], htab.trans rfl, (fun z hz => by cases hz), by decide, by decide, (List.mem_of_getElem? (i := 1) rfl), fun q9 => ?_⟩
    refine g_astore_n X [(3, .ref q9), (0, .ref (g 0 0)), (1, .int p2), (2, .ref (qa 0))] dL_keep_12 rfl (by decide) rfl ?_
    refine g_iconst (v := 1) X rfl dL_keep_13 ?_
    exact g_iret X (kc, sl, ou) hx rfl (Nat.le_of_ble_eq_true rfl) (Nat.le_of_ble_eq_true rfl) dL_keep_14
  · refine g_i2l X dL_keep_7 ?_
    refine g_last X (fun z => fl [wC ct g u.1, wS ct (g 1) v, wS ct (g 2) (u.2 0), wS ct (g 3) (u.2 1), wQ ct qa z]) 27 4 dL_keep_8 rfl rfl (vp_in_nI (n := 0) (by decide) (by decide)) rfl (fun oz hoz => ?_)
    replace hw := hw oz hoz
    refine g_goto X 15 dL_keep_9 (by decide) ?_
    refine g_iconst (v := 0) X rfl dL_keep_15 ?_
    exact g_iret X (u.1, u.2, oz) hw rfl (Nat.le_of_ble_eq_true rfl) (Nat.le_of_ble_eq_true rfl) dL_keep_16

abbrev rmL_goBack : Room := { frames := 7, cells := 1, slots := 6, locals := 123 }
set_option maxHeartbeats 4000000 in
set_option maxRecDepth 20000 in
theorem kL_goBack (l : Launch) (hl9 : l.stackTraces = false) (D : va_G) (ct : Nat → ClassId) (g : Nat → Nat → Nat) (qa : Nat → Nat) (kc : Mem) (v : Mem) (sl : Nat → Mem) (b : Mem) (r : Nat → Mem) (ou : Nat → Int64) (p2 : Int32) (post : Int32 → Mem → Mem → (Nat → Mem) → (Nat → Int64) → Prop) (hw : PL_goBack kc v sl b r ou p2 post) : Ch (S := Mem × Mem × (Nat → Mem) × (Nat → Int64)) l yL_goBack wsL_goBack rmL_goBack D (tyz ct) [.ref (g 0 0), .int p2, .ref (qa 0)] (fl [wC ct g kc, wS ct (g 1) v, wS ct (g 2) (sl 0), wS ct (g 3) (sl 1), wV ct g b, wS ct (g 5) (r 0), wS ct (g 6) (r 1), wS ct (g 7) (r 2), wS ct (g 8) (r 3), wS ct (g 9) (r 4), wS ct (g 10) (r 5), wQ ct qa ou]) (fun r (u9 : Mem × Mem × (Nat → Mem) × (Nat → Int64)) => post r u9.1 u9.2.1 u9.2.2.1 u9.2.2.2) (fun u9 => fl [wC ct g kc, wS ct (g 1) u9.1, wS ct (g 2) (sl 0), wS ct (g 3) (sl 1), wV ct g u9.2.1, wS ct (g 5) (u9.2.2.1 0), wS ct (g 6) (u9.2.2.1 1), wS ct (g 7) (u9.2.2.1 2), wS ct (g 8) (u9.2.2.1 3), wS ct (g 9) (u9.2.2.1 4), wS ct (g 10) (u9.2.2.1 5), wQ ct qa u9.2.2.2]) 1 6 := by
  intro sz
  refine g_ofh (own := RL) (by decide) rfl rfl (Nat.le_of_ble_eq_true rfl) [(0, .ref (g 0 0)), (1, .int p2), (2, .ref (qa 0))] rfl (fun p e s m args below meth c hsz htab XX X => ?_)
  subst hsz
  unfold PL_goBack at hw
  refine g_aload_n X 2 dL_goBack_0 rfl rfl ?_
  refine g_iconst (v := 0) X rfl dL_goBack_1 ?_
  refine g_aload_n X 0 dL_goBack_2 rfl rfl ?_
  refine g_iload_n X 1 dL_goBack_3 rfl rfl ?_
  refine g_cxV X XX [wC ct g kc, wS ct (g 1) v, wS ct (g 2) (sl 0), wS ct (g 3) (sl 1), wV ct g b, wS ct (g 5) (r 0), wS ct (g 6) (r 1), wS ct (g 7) (r 2), wS ct (g 8) (r 3), wS ct (g 9) (r 4), wS ct (g 10) (r 5), wQ ct qa ou] (fun (u : Mem × Mem × (Nat → Mem)) => [wC ct g kc, wS ct (g 1) u.1, wS ct (g 2) (sl 0), wS ct (g 3) (sl 1), wV ct g u.2.1, wS ct (g 5) (u.2.2 0), wS ct (g 6) (u.2.2 1), wS ct (g 7) (u.2.2 2), wS ct (g 8) (u.2.2 3), wS ct (g 9) (u.2.2 4), wS ct (g 10) (u.2.2 5), wQ ct qa ou]) (fun (u : Mem × Mem × (Nat → Mem)) => fl [wC ct g kc, wS ct (g 1) u.1, wS ct (g 2) (sl 0), wS ct (g 3) (sl 1), wV ct g u.2.1, wS ct (g 5) (u.2.2 0), wS ct (g 6) (u.2.2 1), wS ct (g 7) (u.2.2 2), wS ct (g 8) (u.2.2 3), wS ct (g 9) (u.2.2 4), wS ct (g 10) (u.2.2 5), wQ ct qa ou]) 12 [0, 1, 2, 3, 4, 5, 6, 7, 8, 9, 10] [11] 0 (kX7_goBack_x l hl9 D ct g kc v sl b r p2 _ _ hw) (cwV 1 X.1.2.2.2.2 gL_goBack_X7_goBack rfl rfl rfl (by decide +kernel) ⟨(Nat.le_of_ble_eq_true rfl), (Nat.le_of_ble_eq_true rfl)⟩) dL_goBack_4 rfl rfl (Nat.le_of_ble_eq_true rfl) ⟨(Nat.le_of_ble_eq_true rfl), (Nat.le_of_ble_eq_true rfl)⟩ rfl rfl rfl (by decide) (fun _ => rfl) (fun _ => rfl) (fun _ => rfl) (fun _ => rfl) rfl rfl rfl (fun code hx => ?_) (fun rz u hw => ?_)
  · rcases hx with ⟨rfl, hx⟩ | ⟨rfl, hx⟩
    · refine ⟨[], ⟨0, 9, 12, 19⟩, [⟨0, 9, 15, 36⟩], htab.trans rfl, (fun z hz => by cases hz), by decide, by decide, (List.mem_of_getElem? (i := 1) rfl), fun q9 => ?_⟩
      refine g_astore_n X [(3, .ref q9), (0, .ref (g 0 0)), (1, .int p2), (2, .ref (qa 0))] dL_goBack_12 rfl (by decide) rfl ?_
      refine g_iconst (v := 1) X rfl dL_goBack_13 ?_
      exact g_iret X (v, b, r, ou) hx rfl (Nat.le_of_ble_eq_true rfl) (Nat.le_of_ble_eq_true rfl) dL_goBack_14
    · refine ⟨[⟨0, 9, 12, 19⟩], ⟨0, 9, 15, 36⟩, [], htab.trans rfl, (fun z hz => by rw [List.mem_singleton.mp hz]; exact ⟨by decide, "java/lang/IllegalArgumentException", (List.mem_of_getElem? (i := 1) rfl), XX.2.2⟩), by decide, by decide, (List.mem_of_getElem? (i := 2) rfl), fun q9 => ?_⟩
      refine g_astore_n X [(3, .ref q9), (0, .ref (g 0 0)), (1, .int p2), (2, .ref (qa 0))] dL_goBack_15 rfl (by decide) rfl ?_
      refine g_iconst (v := 2) X rfl dL_goBack_16 ?_
      exact g_iret X (v, b, r, ou) hx rfl (Nat.le_of_ble_eq_true rfl) (Nat.le_of_ble_eq_true rfl) dL_goBack_17
  · refine g_i2l X dL_goBack_7 ?_
    refine g_last X (fun z => fl [wC ct g kc, wS ct (g 1) u.1, wS ct (g 2) (sl 0), wS ct (g 3) (sl 1), wV ct g u.2.1, wS ct (g 5) (u.2.2 0), wS ct (g 6) (u.2.2 1), wS ct (g 7) (u.2.2 2), wS ct (g 8) (u.2.2 3), wS ct (g 9) (u.2.2 4), wS ct (g 10) (u.2.2 5), wQ ct qa z]) 77 4 dL_goBack_8 rfl rfl (vp_in_nI (n := 0) (by decide) (by decide)) rfl (fun oz hoz => ?_)
    replace hw := hw oz hoz
    refine g_goto X 18 dL_goBack_9 (by decide) ?_
    refine g_iconst (v := 0) X rfl dL_goBack_18 ?_
    exact g_iret X (u.1, u.2.1, u.2.2, oz) hw rfl (Nat.le_of_ble_eq_true rfl) (Nat.le_of_ble_eq_true rfl) dL_goBack_19

abbrev rmL_undo : Room := { frames := 7, cells := 1, slots := 6, locals := 122 }
set_option maxHeartbeats 4000000 in
set_option maxRecDepth 20000 in
theorem kL_undo (l : Launch) (hl9 : l.stackTraces = false) (D : va_G) (ct : Nat → ClassId) (g : Nat → Nat → Nat) (qa : Nat → Nat) (kc : Mem) (v : Mem) (b : Mem) (r : Nat → Mem) (ou : Nat → Int64) (post : Int32 → Mem → Mem → (Nat → Int64) → Prop) (hw : PL_undo kc v b r ou  post) : Ch (S := Mem × Mem × (Nat → Int64)) l yL_undo wsL_undo rmL_undo D (tyz ct) [.ref (g 0 0), .ref (qa 0)] (fl [wC ct g kc, wS ct (g 1) v, wV ct g b, wS ct (g 5) (r 0), wS ct (g 6) (r 1), wS ct (g 7) (r 2), wS ct (g 8) (r 3), wS ct (g 9) (r 4), wS ct (g 10) (r 5), wQ ct qa ou]) (fun r (u9 : Mem × Mem × (Nat → Int64)) => post r u9.1 u9.2.1 u9.2.2) (fun u9 => fl [wC ct g kc, wS ct (g 1) u9.1, wV ct g u9.2.1, wS ct (g 5) (r 0), wS ct (g 6) (r 1), wS ct (g 7) (r 2), wS ct (g 8) (r 3), wS ct (g 9) (r 4), wS ct (g 10) (r 5), wQ ct qa u9.2.2]) 1 6 := by
  intro sz
  refine g_ofh (own := RL) (by decide) rfl rfl (Nat.le_of_ble_eq_true rfl) [(0, .ref (g 0 0)), (1, .ref (qa 0))] rfl (fun p e s m args below meth c hsz htab XX X => ?_)
  subst hsz
  unfold PL_undo at hw
  refine g_aload_n X 1 dL_undo_0 rfl rfl ?_
  refine g_iconst (v := 0) X rfl dL_undo_1 ?_
  refine g_aload_n X 0 dL_undo_2 rfl rfl ?_
  refine g_cxV X XX [wC ct g kc, wS ct (g 1) v, wV ct g b, wS ct (g 5) (r 0), wS ct (g 6) (r 1), wS ct (g 7) (r 2), wS ct (g 8) (r 3), wS ct (g 9) (r 4), wS ct (g 10) (r 5), wQ ct qa ou] (fun (u : Mem × Mem) => [wC ct g kc, wS ct (g 1) u.1, wV ct g u.2, wS ct (g 5) (r 0), wS ct (g 6) (r 1), wS ct (g 7) (r 2), wS ct (g 8) (r 3), wS ct (g 9) (r 4), wS ct (g 10) (r 5), wQ ct qa ou]) (fun (u : Mem × Mem) => fl [wC ct g kc, wS ct (g 1) u.1, wV ct g u.2, wS ct (g 5) (r 0), wS ct (g 6) (r 1), wS ct (g 7) (r 2), wS ct (g 8) (r 3), wS ct (g 9) (r 4), wS ct (g 10) (r 5), wQ ct qa ou]) 10 [0, 1, 2, 3, 4, 5, 6, 7, 8] [9] 0 (kX7_undo_x l hl9 D ct g kc v b r  _ _ hw) (cwV 0 X.1.2.2.2.2 gL_undo_X7_undo rfl rfl rfl (by decide +kernel) ⟨(Nat.le_of_ble_eq_true rfl), (Nat.le_of_ble_eq_true rfl)⟩) dL_undo_3 rfl rfl (Nat.le_of_ble_eq_true rfl) ⟨(Nat.le_of_ble_eq_true rfl), (Nat.le_of_ble_eq_true rfl)⟩ rfl rfl rfl (by decide) (fun _ => rfl) (fun _ => rfl) (fun _ => rfl) (fun _ => rfl) rfl rfl rfl (fun code hx => ?_) (fun rz u hw => ?_)
  · obtain ⟨rfl, hx⟩ := hx
    refine ⟨[], ⟨0, 8, 11, 36⟩, [], htab.trans rfl, (fun z hz => by cases hz), by decide, by decide, (List.mem_of_getElem? (i := 1) rfl), fun q9 => ?_⟩
    refine g_astore_n X [(2, .ref q9), (0, .ref (g 0 0)), (1, .ref (qa 0))] dL_undo_11 rfl (by decide) rfl ?_
    refine g_iconst (v := 1) X rfl dL_undo_12 ?_
    exact g_iret X (v, b, ou) hx rfl (Nat.le_of_ble_eq_true rfl) (Nat.le_of_ble_eq_true rfl) dL_undo_13
  · refine g_i2l X dL_undo_6 ?_
    refine g_last X (fun z => fl [wC ct g kc, wS ct (g 1) u.1, wV ct g u.2, wS ct (g 5) (r 0), wS ct (g 6) (r 1), wS ct (g 7) (r 2), wS ct (g 8) (r 3), wS ct (g 9) (r 4), wS ct (g 10) (r 5), wQ ct qa z]) 61 4 dL_undo_7 rfl rfl (vp_in_nI (n := 0) (by decide) (by decide)) rfl (fun oz hoz => ?_)
    replace hw := hw oz hoz
    refine g_goto X 14 dL_undo_8 (by decide) ?_
    refine g_iconst (v := 0) X rfl dL_undo_14 ?_
    exact g_iret X (u.1, u.2, oz) hw rfl (Nat.le_of_ble_eq_true rfl) (Nat.le_of_ble_eq_true rfl) dL_undo_15

abbrev rmL_personOf : Room := { frames := 7, cells := 1, slots := 6, locals := 112 }
set_option maxHeartbeats 4000000 in
set_option maxRecDepth 20000 in
theorem kL_personOf (l : Launch) (hl9 : l.stackTraces = false) (D : va_G) (ct : Nat → ClassId) (g : Nat → Nat → Nat) (qa : Nat → Nat) (kc : Mem) (v : Mem) (ou : Nat → Int64) (p2 : Int32) (p3 : Int32) (post : Int32 → (Nat → Int64) → Prop) (hw : PL_personOf kc v ou p2 p3 post) : Ch (S := (Nat → Int64)) l yL_personOf wsL_personOf rmL_personOf D (tyz ct) [.ref (g 0 0), .int p2, .int p3, .ref (qa 0)] (fl [wC ct g kc, wS ct (g 1) v, wQ ct qa ou]) (fun r (u9 : (Nat → Int64)) => post r u9) (fun u9 => fl [wC ct g kc, wS ct (g 1) v, wQ ct qa u9]) 1 6 := by
  intro sz
  refine g_ofh (own := RL) (by decide) rfl rfl (Nat.le_of_ble_eq_true rfl) [(0, .ref (g 0 0)), (1, .int p2), (2, .int p3), (3, .ref (qa 0))] rfl (fun p e s m args below meth c hsz htab XX X => ?_)
  subst hsz
  unfold PL_personOf at hw
  refine g_aload_n X 3 dL_personOf_0 rfl rfl ?_
  refine g_iconst (v := 0) X rfl dL_personOf_1 ?_
  refine g_aload_n X 0 dL_personOf_2 rfl rfl ?_
  refine g_iload_n X 1 dL_personOf_3 rfl rfl ?_
  refine g_iload_n X 2 dL_personOf_4 rfl rfl ?_
  refine g_cxV X XX [wC ct g kc, wS ct (g 1) v, wQ ct qa ou] (fun (u : Unit) => [wC ct g kc, wS ct (g 1) v, wQ ct qa ou]) (fun (u : Unit) => fl [wC ct g kc, wS ct (g 1) v, wQ ct qa ou]) 3 [0, 1] [2] 0 (kX7_personOf_x l hl9 D ct g kc v p2 p3 _ _ hw) (cwV 2 X.1.2.2.2.2 gL_personOf_X7_personOf rfl rfl rfl (by decide +kernel) ⟨(Nat.le_of_ble_eq_true rfl), (Nat.le_of_ble_eq_true rfl)⟩) dL_personOf_5 rfl rfl (Nat.le_of_ble_eq_true rfl) ⟨(Nat.le_of_ble_eq_true rfl), (Nat.le_of_ble_eq_true rfl)⟩ rfl rfl rfl (by decide) (fun _ => rfl) (fun _ => rfl) (fun _ => rfl) (fun _ => rfl) rfl rfl rfl (fun code hx => ?_) (fun rz u hw => ?_)
  · rcases hx with ⟨rfl, hx⟩ | ⟨rfl, hx⟩
    · refine ⟨[], ⟨0, 10, 13, 13⟩, [⟨0, 10, 17, 19⟩], htab.trans rfl, (fun z hz => by cases hz), by decide, by decide, (List.mem_of_getElem? (i := 1) rfl), fun q9 => ?_⟩
      refine g_astore X [(4, .ref q9), (0, .ref (g 0 0)), (1, .int p2), (2, .int p3), (3, .ref (qa 0))] dL_personOf_13 (by decide) rfl ?_
      refine g_iconst (v := 1) X rfl dL_personOf_15 ?_
      exact g_iret X ou hx rfl (Nat.le_of_ble_eq_true rfl) (Nat.le_of_ble_eq_true rfl) dL_personOf_16
    · refine ⟨[⟨0, 10, 13, 13⟩], ⟨0, 10, 17, 19⟩, [], htab.trans rfl, (fun z hz => by rw [List.mem_singleton.mp hz]; exact ⟨by decide, "java/lang/IndexOutOfBoundsException", (List.mem_of_getElem? (i := 1) rfl), XX.2.1⟩), by decide, by decide, (List.mem_of_getElem? (i := 2) rfl), fun q9 => ?_⟩
      refine g_astore X [(4, .ref q9), (0, .ref (g 0 0)), (1, .int p2), (2, .int p3), (3, .ref (qa 0))] dL_personOf_17 (by decide) rfl ?_
      refine g_iconst (v := 2) X rfl dL_personOf_19 ?_
      exact g_iret X ou hx rfl (Nat.le_of_ble_eq_true rfl) (Nat.le_of_ble_eq_true rfl) dL_personOf_20
  · refine g_i2l X dL_personOf_8 ?_
    refine g_last X (fun z => fl [wC ct g kc, wS ct (g 1) v, wQ ct qa z]) 11 4 dL_personOf_9 rfl rfl (vp_in_nI (n := 0) (by decide) (by decide)) rfl (fun oz hoz => ?_)
    replace hw := hw oz hoz
    refine g_goto X 21 dL_personOf_10 (by decide) ?_
    refine g_iconst (v := 0) X rfl dL_personOf_21 ?_
    exact g_iret X oz hw rfl (Nat.le_of_ble_eq_true rfl) (Nat.le_of_ble_eq_true rfl) dL_personOf_22

abbrev rmL_coupleOf : Room := { frames := 7, cells := 1, slots := 6, locals := 130 }
set_option maxHeartbeats 4000000 in
set_option maxRecDepth 20000 in
theorem kL_coupleOf (l : Launch) (hl9 : l.stackTraces = false) (D : va_G) (ct : Nat → ClassId) (g : Nat → Nat → Nat) (qa : Nat → Nat) (kc : Mem) (v : Mem) (ou : Nat → Int64) (p2 : Int32) (p3 : Int32) (post : Int32 → (Nat → Int64) → Prop) (hw : PL_coupleOf kc v ou p2 p3 post) : Ch (S := (Nat → Int64)) l yL_coupleOf wsL_coupleOf rmL_coupleOf D (tyz ct) [.ref (g 0 0), .int p2, .int p3, .ref (qa 0)] (fl [wC ct g kc, wS ct (g 1) v, wQ ct qa ou]) (fun r (u9 : (Nat → Int64)) => post r u9) (fun u9 => fl [wC ct g kc, wS ct (g 1) v, wQ ct qa u9]) 1 6 := by
  intro sz
  refine g_ofh (own := RL) (by decide) rfl rfl (Nat.le_of_ble_eq_true rfl) [(0, .ref (g 0 0)), (1, .int p2), (2, .int p3), (3, .ref (qa 0))] rfl (fun p e s m args below meth c hsz htab XX X => ?_)
  subst hsz
  unfold PL_coupleOf at hw
  refine g_aload_n X 3 dL_coupleOf_0 rfl rfl ?_
  refine g_iconst (v := 0) X rfl dL_coupleOf_1 ?_
  refine g_aload_n X 0 dL_coupleOf_2 rfl rfl ?_
  refine g_iload_n X 1 dL_coupleOf_3 rfl rfl ?_
  refine g_iload_n X 2 dL_coupleOf_4 rfl rfl ?_
  refine g_cxV X XX [wC ct g kc, wS ct (g 1) v, wQ ct qa ou] (fun (u : Unit) => [wC ct g kc, wS ct (g 1) v, wQ ct qa ou]) (fun (u : Unit) => fl [wC ct g kc, wS ct (g 1) v, wQ ct qa ou]) 3 [0, 1] [2] 0 (kX7_coupleOf_x l hl9 D ct g kc v p2 p3 _ _ hw) (cwV 2 X.1.2.2.2.2 gL_coupleOf_X7_coupleOf rfl rfl rfl (by decide +kernel) ⟨(Nat.le_of_ble_eq_true rfl), (Nat.le_of_ble_eq_true rfl)⟩) dL_coupleOf_5 rfl rfl (Nat.le_of_ble_eq_true rfl) ⟨(Nat.le_of_ble_eq_true rfl), (Nat.le_of_ble_eq_true rfl)⟩ rfl rfl rfl (by decide) (fun _ => rfl) (fun _ => rfl) (fun _ => rfl) (fun _ => rfl) rfl rfl rfl (fun code hx => ?_) (fun rz u hw => ?_)
  · rcases hx with ⟨rfl, hx⟩ | ⟨rfl, hx⟩
    · refine ⟨[], ⟨0, 10, 13, 13⟩, [⟨0, 10, 17, 19⟩], htab.trans rfl, (fun z hz => by cases hz), by decide, by decide, (List.mem_of_getElem? (i := 1) rfl), fun q9 => ?_⟩
      refine g_astore X [(4, .ref q9), (0, .ref (g 0 0)), (1, .int p2), (2, .int p3), (3, .ref (qa 0))] dL_coupleOf_13 (by decide) rfl ?_
      refine g_iconst (v := 1) X rfl dL_coupleOf_15 ?_
      exact g_iret X ou hx rfl (Nat.le_of_ble_eq_true rfl) (Nat.le_of_ble_eq_true rfl) dL_coupleOf_16
    · refine ⟨[⟨0, 10, 13, 13⟩], ⟨0, 10, 17, 19⟩, [], htab.trans rfl, (fun z hz => by rw [List.mem_singleton.mp hz]; exact ⟨by decide, "java/lang/IndexOutOfBoundsException", (List.mem_of_getElem? (i := 1) rfl), XX.2.1⟩), by decide, by decide, (List.mem_of_getElem? (i := 2) rfl), fun q9 => ?_⟩
      refine g_astore X [(4, .ref q9), (0, .ref (g 0 0)), (1, .int p2), (2, .int p3), (3, .ref (qa 0))] dL_coupleOf_17 (by decide) rfl ?_
      refine g_iconst (v := 2) X rfl dL_coupleOf_19 ?_
      exact g_iret X ou hx rfl (Nat.le_of_ble_eq_true rfl) (Nat.le_of_ble_eq_true rfl) dL_coupleOf_20
  · refine g_i2l X dL_coupleOf_8 ?_
    refine g_last X (fun z => fl [wC ct g kc, wS ct (g 1) v, wQ ct qa z]) 11 4 dL_coupleOf_9 rfl rfl (vp_in_nI (n := 0) (by decide) (by decide)) rfl (fun oz hoz => ?_)
    replace hw := hw oz hoz
    refine g_goto X 21 dL_coupleOf_10 (by decide) ?_
    refine g_iconst (v := 0) X rfl dL_coupleOf_21 ?_
    exact g_iret X oz hw rfl (Nat.le_of_ble_eq_true rfl) (Nat.le_of_ble_eq_true rfl) dL_coupleOf_22

abbrev rmL_at : Room := { frames := 7, cells := 1, slots := 6, locals := 112 }
set_option maxHeartbeats 4000000 in
set_option maxRecDepth 20000 in
theorem kL_at (l : Launch) (hl9 : l.stackTraces = false) (D : va_G) (ct : Nat → ClassId) (g : Nat → Nat → Nat) (qa : Nat → Nat) (kc : Mem) (v : Mem) (ou : Nat → Int64) (p2 : Int32) (p3 : Int32) (post : Int32 → (Nat → Int64) → Prop) (hw : PL_at kc v ou p2 p3 post) : Ch (S := (Nat → Int64)) l yL_at wsL_at rmL_at D (tyz ct) [.ref (g 0 0), .int p2, .int p3, .ref (qa 0)] (fl [wC ct g kc, wS ct (g 1) v, wQ ct qa ou]) (fun r (u9 : (Nat → Int64)) => post r u9) (fun u9 => fl [wC ct g kc, wS ct (g 1) v, wQ ct qa u9]) 1 6 := by
  intro sz
  refine g_ofh (own := RL) (by decide) rfl rfl (Nat.le_of_ble_eq_true rfl) [(0, .ref (g 0 0)), (1, .int p2), (2, .int p3), (3, .ref (qa 0))] rfl (fun p e s m args below meth c hsz htab XX X => ?_)
  subst hsz
  unfold PL_at at hw
  refine g_aload_n X 3 dL_at_0 rfl rfl ?_
  refine g_iconst (v := 0) X rfl dL_at_1 ?_
  refine g_aload_n X 0 dL_at_2 rfl rfl ?_
  refine g_iload_n X 1 dL_at_3 rfl rfl ?_
  refine g_iload_n X 2 dL_at_4 rfl rfl ?_
  refine g_cxV X XX [wC ct g kc, wS ct (g 1) v, wQ ct qa ou] (fun (u : Unit) => [wC ct g kc, wS ct (g 1) v, wQ ct qa ou]) (fun (u : Unit) => fl [wC ct g kc, wS ct (g 1) v, wQ ct qa ou]) 3 [0, 1] [2] 0 (kX7_at_x l hl9 D ct g kc v p2 p3 _ _ hw) (cwV 2 X.1.2.2.2.2 gL_at_X7_at rfl rfl rfl (by decide +kernel) ⟨(Nat.le_of_ble_eq_true rfl), (Nat.le_of_ble_eq_true rfl)⟩) dL_at_5 rfl rfl (Nat.le_of_ble_eq_true rfl) ⟨(Nat.le_of_ble_eq_true rfl), (Nat.le_of_ble_eq_true rfl)⟩ rfl rfl rfl (by decide) (fun _ => rfl) (fun _ => rfl) (fun _ => rfl) (fun _ => rfl) rfl rfl rfl (fun code hx => ?_) (fun rz u hw => ?_)
  · rcases hx with ⟨rfl, hx⟩ | ⟨rfl, hx⟩
    · refine ⟨[], ⟨0, 10, 13, 13⟩, [⟨0, 10, 17, 19⟩], htab.trans rfl, (fun z hz => by cases hz), by decide, by decide, (List.mem_of_getElem? (i := 1) rfl), fun q9 => ?_⟩
      refine g_astore X [(4, .ref q9), (0, .ref (g 0 0)), (1, .int p2), (2, .int p3), (3, .ref (qa 0))] dL_at_13 (by decide) rfl ?_
      refine g_iconst (v := 1) X rfl dL_at_15 ?_
      exact g_iret X ou hx rfl (Nat.le_of_ble_eq_true rfl) (Nat.le_of_ble_eq_true rfl) dL_at_16
    · refine ⟨[⟨0, 10, 13, 13⟩], ⟨0, 10, 17, 19⟩, [], htab.trans rfl, (fun z hz => by rw [List.mem_singleton.mp hz]; exact ⟨by decide, "java/lang/IndexOutOfBoundsException", (List.mem_of_getElem? (i := 1) rfl), XX.2.1⟩), by decide, by decide, (List.mem_of_getElem? (i := 2) rfl), fun q9 => ?_⟩
      refine g_astore X [(4, .ref q9), (0, .ref (g 0 0)), (1, .int p2), (2, .int p3), (3, .ref (qa 0))] dL_at_17 (by decide) rfl ?_
      refine g_iconst (v := 2) X rfl dL_at_19 ?_
      exact g_iret X ou hx rfl (Nat.le_of_ble_eq_true rfl) (Nat.le_of_ble_eq_true rfl) dL_at_20
  · refine g_i2l X dL_at_8 ?_
    refine g_last X (fun z => fl [wC ct g kc, wS ct (g 1) v, wQ ct qa z]) 11 4 dL_at_9 rfl rfl (vp_in_nI (n := 0) (by decide) (by decide)) rfl (fun oz hoz => ?_)
    replace hw := hw oz hoz
    refine g_goto X 21 dL_at_10 (by decide) ?_
    refine g_iconst (v := 0) X rfl dL_at_21 ?_
    exact g_iret X oz hw rfl (Nat.le_of_ble_eq_true rfl) (Nat.le_of_ble_eq_true rfl) dL_at_22

abbrev rmL_crossings : Room := { frames := 7, cells := 1, slots := 6, locals := 130 }
set_option maxHeartbeats 4000000 in
set_option maxRecDepth 20000 in
theorem kL_crossings (l : Launch) (hl9 : l.stackTraces = false) (D : va_G) (ct : Nat → ClassId) (g : Nat → Nat → Nat) (qa : Nat → Nat) (kc : Mem) (v : Mem) (y : Mem) (ou : Nat → Int64) (p2 : Int32) (p3 : Int32) (post : Int32 → Mem → (Nat → Int64) → Prop) (hw : PL_crossings kc v y ou p2 p3 post) : Ch (S := Mem × (Nat → Int64)) l yL_crossings wsL_crossings rmL_crossings D (tyz ct) [.ref (g 0 0), .int p2, .int p3, .ref (qa 0)] (fl [wC ct g kc, wS ct (g 1) v, wL ct (g 12) y, wQ ct qa ou]) (fun r (u9 : Mem × (Nat → Int64)) => post r u9.1 u9.2) (fun u9 => fl [wC ct g kc, wS ct (g 1) v, wL ct (g 12) u9.1, wQ ct qa u9.2]) 1 6 := by
  intro sz
  refine g_ofh (own := RL) (by decide) rfl rfl (Nat.le_of_ble_eq_true rfl) [(0, .ref (g 0 0)), (1, .int p2), (2, .int p3), (3, .ref (qa 0))] rfl (fun p e s m args below meth c hsz htab XX X => ?_)
  subst hsz
  unfold PL_crossings at hw
  refine g_aload_n X 3 dL_crossings_0 rfl rfl ?_
  refine g_iconst (v := 0) X rfl dL_crossings_1 ?_
  refine g_aload_n X 0 dL_crossings_2 rfl rfl ?_
  refine g_iload_n X 1 dL_crossings_3 rfl rfl ?_
  refine g_iload_n X 2 dL_crossings_4 rfl rfl ?_
  refine g_cxV X XX [wC ct g kc, wS ct (g 1) v, wL ct (g 12) y, wQ ct qa ou] (fun (u : Mem) => [wC ct g kc, wS ct (g 1) v, wL ct (g 12) u, wQ ct qa ou]) (fun (u : Mem) => fl [wC ct g kc, wS ct (g 1) v, wL ct (g 12) u, wQ ct qa ou]) 4 [0, 1, 2] [3] 0 (kX7_crossings_x l hl9 D ct g kc v y p2 p3 _ _ hw) (cwV 2 X.1.2.2.2.2 gL_crossings_X7_crossings rfl rfl rfl (by decide +kernel) ⟨(Nat.le_of_ble_eq_true rfl), (Nat.le_of_ble_eq_true rfl)⟩) dL_crossings_5 rfl rfl (Nat.le_of_ble_eq_true rfl) ⟨(Nat.le_of_ble_eq_true rfl), (Nat.le_of_ble_eq_true rfl)⟩ rfl rfl rfl (by decide) (fun _ => rfl) (fun _ => rfl) (fun _ => rfl) (fun _ => rfl) rfl rfl rfl (fun code hx => ?_) (fun rz u hw => ?_)
  · rcases hx with ⟨rfl, hx⟩ | ⟨rfl, hx⟩
    · refine ⟨[], ⟨0, 10, 13, 13⟩, [⟨0, 10, 17, 19⟩], htab.trans rfl, (fun z hz => by cases hz), by decide, by decide, (List.mem_of_getElem? (i := 1) rfl), fun q9 => ?_⟩
      refine g_astore X [(4, .ref q9), (0, .ref (g 0 0)), (1, .int p2), (2, .int p3), (3, .ref (qa 0))] dL_crossings_13 (by decide) rfl ?_
      refine g_iconst (v := 1) X rfl dL_crossings_15 ?_
      exact g_iret X (y, ou) hx rfl (Nat.le_of_ble_eq_true rfl) (Nat.le_of_ble_eq_true rfl) dL_crossings_16
    · refine ⟨[⟨0, 10, 13, 13⟩], ⟨0, 10, 17, 19⟩, [], htab.trans rfl, (fun z hz => by rw [List.mem_singleton.mp hz]; exact ⟨by decide, "java/lang/IndexOutOfBoundsException", (List.mem_of_getElem? (i := 1) rfl), XX.2.1⟩), by decide, by decide, (List.mem_of_getElem? (i := 2) rfl), fun q9 => ?_⟩
      refine g_astore X [(4, .ref q9), (0, .ref (g 0 0)), (1, .int p2), (2, .int p3), (3, .ref (qa 0))] dL_crossings_17 (by decide) rfl ?_
      refine g_iconst (v := 2) X rfl dL_crossings_19 ?_
      exact g_iret X (y, ou) hx rfl (Nat.le_of_ble_eq_true rfl) (Nat.le_of_ble_eq_true rfl) dL_crossings_20
  · refine g_i2l X dL_crossings_8 ?_
    refine g_last X (fun z => fl [wC ct g kc, wS ct (g 1) v, wL ct (g 12) u, wQ ct qa z]) 14 4 dL_crossings_9 rfl rfl (vp_in_nI (n := 0) (by decide) (by decide)) rfl (fun oz hoz => ?_)
    replace hw := hw oz hoz
    refine g_goto X 21 dL_crossings_10 (by decide) ?_
    refine g_iconst (v := 0) X rfl dL_crossings_21 ?_
    exact g_iret X (u, oz) hw rfl (Nat.le_of_ble_eq_true rfl) (Nat.le_of_ble_eq_true rfl) dL_crossings_22

abbrev rmL_count : Room := { frames := 7, cells := 1, slots := 6, locals := 151 }
set_option maxHeartbeats 4000000 in
set_option maxRecDepth 20000 in
theorem kL_count (l : Launch) (hl9 : l.stackTraces = false) (D : va_G) (ct : Nat → ClassId) (g : Nat → Nat → Nat) (qa : Nat → Nat) (kc : Mem) (v : Mem) (b : Mem) (y : Mem) (ou : Nat → Int64) (p2 : Int32) (post : Int32 → Mem → (Nat → Int64) → Prop) (hw : PL_count kc v b y ou p2 post) : Ch (S := Mem × (Nat → Int64)) l yL_count wsL_count rmL_count D (tyz ct) [.ref (g 0 0), .int p2, .ref (qa 0)] (fl [wC ct g kc, wS ct (g 1) v, wV ct g b, wL ct (g 12) y, wQ ct qa ou]) (fun r (u9 : Mem × (Nat → Int64)) => post r u9.1 u9.2) (fun u9 => fl [wC ct g kc, wS ct (g 1) v, wV ct g b, wL ct (g 12) u9.1, wQ ct qa u9.2]) 1 6 := by
  intro sz
  refine g_ofh (own := RL) (by decide) rfl rfl (Nat.le_of_ble_eq_true rfl) [(0, .ref (g 0 0)), (1, .int p2), (2, .ref (qa 0))] rfl (fun p e s m args below meth c hsz htab XX X => ?_)
  subst hsz
  unfold PL_count at hw
  refine g_aload_n X 2 dL_count_0 rfl rfl ?_
  refine g_iconst (v := 0) X rfl dL_count_1 ?_
  refine g_aload_n X 0 dL_count_2 rfl rfl ?_
  refine g_iload_n X 1 dL_count_3 rfl rfl ?_
  refine g_cxV X XX [wC ct g kc, wS ct (g 1) v, wV ct g b, wL ct (g 12) y, wQ ct qa ou] (fun (u : Mem) => [wC ct g kc, wS ct (g 1) v, wV ct g b, wL ct (g 12) u, wQ ct qa ou]) (fun (u : Mem) => fl [wC ct g kc, wS ct (g 1) v, wV ct g b, wL ct (g 12) u, wQ ct qa ou]) 5 [0, 1, 2, 3] [4] 0 (kX7_count_x l hl9 D ct g kc v b y p2 _ _ hw) (cwV 1 X.1.2.2.2.2 gL_count_X7_count rfl rfl rfl (by decide +kernel) ⟨(Nat.le_of_ble_eq_true rfl), (Nat.le_of_ble_eq_true rfl)⟩) dL_count_4 rfl rfl (Nat.le_of_ble_eq_true rfl) ⟨(Nat.le_of_ble_eq_true rfl), (Nat.le_of_ble_eq_true rfl)⟩ rfl rfl rfl (by decide) (fun _ => rfl) (fun _ => rfl) (fun _ => rfl) (fun _ => rfl) rfl rfl rfl (fun code hx => ?_) (fun rz u hw => ?_)
  · obtain ⟨rfl, hx⟩ := hx
    refine ⟨[], ⟨0, 9, 12, 19⟩, [], htab.trans rfl, (fun z hz => by cases hz), by decide, by decide, (List.mem_of_getElem? (i := 1) rfl), fun q9 => ?_⟩
    refine g_astore_n X [(3, .ref q9), (0, .ref (g 0 0)), (1, .int p2), (2, .ref (qa 0))] dL_count_12 rfl (by decide) rfl ?_
    refine g_iconst (v := 1) X rfl dL_count_13 ?_
    exact g_iret X (y, ou) hx rfl (Nat.le_of_ble_eq_true rfl) (Nat.le_of_ble_eq_true rfl) dL_count_14
  · refine g_i2l X dL_count_7 ?_
    refine g_last X (fun z => fl [wC ct g kc, wS ct (g 1) v, wV ct g b, wL ct (g 12) u, wQ ct qa z]) 16 4 dL_count_8 rfl rfl (vp_in_nI (n := 0) (by decide) (by decide)) rfl (fun oz hoz => ?_)
    replace hw := hw oz hoz
    refine g_goto X 15 dL_count_9 (by decide) ?_
    refine g_iconst (v := 0) X rfl dL_count_15 ?_
    exact g_iret X (u, oz) hw rfl (Nat.le_of_ble_eq_true rfl) (Nat.le_of_ble_eq_true rfl) dL_count_16

abbrev rmL_least : Room := { frames := 13, cells := 1, slots := 6, locals := 299 }
set_option maxHeartbeats 4000000 in
set_option maxRecDepth 20000 in
theorem kL_least (l : Launch) (hl9 : l.stackTraces = false) (D : va_G) (ct : Nat → ClassId) (g : Nat → Nat → Nat) (qa : Nat → Nat) (kc : Mem) (v : Mem) (x : Mem) (ou : Nat → Int64) (p2 : Int32) (p3 : Int32) (post : Int32 → Mem → (Nat → Int64) → Prop) (hw : PL_least kc v x ou p2 p3 post) : Ch (S := Mem × (Nat → Int64)) l yL_least wsL_least rmL_least D (tyz ct) [.ref (g 0 0), .int p2, .int p3, .ref (qa 0)] (fl [wC ct g kc, wS ct (g 1) v, wR ct (g 14) x, wQ ct qa ou]) (fun r (u9 : Mem × (Nat → Int64)) => post r u9.1 u9.2) (fun u9 => fl [wC ct g kc, wS ct (g 1) v, wR ct (g 14) u9.1, wQ ct qa u9.2]) 1 6 := by
  intro sz
  refine g_ofh (own := RL) (by decide) rfl rfl (Nat.le_of_ble_eq_true rfl) [(0, .ref (g 0 0)), (1, .int p2), (2, .int p3), (3, .ref (qa 0))] rfl (fun p e s m args below meth c hsz htab XX X => ?_)
  subst hsz
  unfold PL_least at hw
  refine g_aload_n X 3 dL_least_0 rfl rfl ?_
  refine g_iconst (v := 0) X rfl dL_least_1 ?_
  refine g_aload_n X 0 dL_least_2 rfl rfl ?_
  refine g_iload_n X 1 dL_least_3 rfl rfl ?_
  refine g_iload_n X 2 dL_least_4 rfl rfl ?_
  refine g_cxV X XX [wC ct g kc, wS ct (g 1) v, wR ct (g 14) x, wQ ct qa ou] (fun (u : Mem) => [wC ct g kc, wS ct (g 1) v, wR ct (g 14) u, wQ ct qa ou]) (fun (u : Mem) => fl [wC ct g kc, wS ct (g 1) v, wR ct (g 14) u, wQ ct qa ou]) 4 [0, 1, 2] [3] 0 (kX7_least_x l hl9 D ct g kc v x p2 p3 _ _ hw) (cwV 2 X.1.2.2.2.2 gL_least_X7_least rfl rfl rfl (by decide +kernel) ⟨(Nat.le_of_ble_eq_true rfl), (Nat.le_of_ble_eq_true rfl)⟩) dL_least_5 rfl rfl (Nat.le_of_ble_eq_true rfl) ⟨(Nat.le_of_ble_eq_true rfl), (Nat.le_of_ble_eq_true rfl)⟩ rfl rfl rfl (by decide) (fun _ => rfl) (fun _ => rfl) (fun _ => rfl) (fun _ => rfl) rfl rfl rfl (fun code hx => ?_) (fun rz u hw => ?_)
  · rcases hx with ⟨rfl, hx⟩ | ⟨rfl, hx⟩
    · refine ⟨[], ⟨0, 10, 13, 13⟩, [⟨0, 10, 17, 19⟩], htab.trans rfl, (fun z hz => by cases hz), by decide, by decide, (List.mem_of_getElem? (i := 1) rfl), fun q9 => ?_⟩
      refine g_astore X [(4, .ref q9), (0, .ref (g 0 0)), (1, .int p2), (2, .int p3), (3, .ref (qa 0))] dL_least_13 (by decide) rfl ?_
      refine g_iconst (v := 1) X rfl dL_least_15 ?_
      exact g_iret X (x, ou) hx rfl (Nat.le_of_ble_eq_true rfl) (Nat.le_of_ble_eq_true rfl) dL_least_16
    · refine ⟨[⟨0, 10, 13, 13⟩], ⟨0, 10, 17, 19⟩, [], htab.trans rfl, (fun z hz => by rw [List.mem_singleton.mp hz]; exact ⟨by decide, "java/lang/IndexOutOfBoundsException", (List.mem_of_getElem? (i := 1) rfl), XX.2.1⟩), by decide, by decide, (List.mem_of_getElem? (i := 2) rfl), fun q9 => ?_⟩
      refine g_astore X [(4, .ref q9), (0, .ref (g 0 0)), (1, .int p2), (2, .int p3), (3, .ref (qa 0))] dL_least_17 (by decide) rfl ?_
      refine g_iconst (v := 2) X rfl dL_least_19 ?_
      exact g_iret X (x, ou) hx rfl (Nat.le_of_ble_eq_true rfl) (Nat.le_of_ble_eq_true rfl) dL_least_20
  · refine g_i2l X dL_least_8 ?_
    refine g_last X (fun z => fl [wC ct g kc, wS ct (g 1) v, wR ct (g 14) u, wQ ct qa z]) 28 4 dL_least_9 rfl rfl (vp_in_nI (n := 0) (by decide) (by decide)) rfl (fun oz hoz => ?_)
    replace hw := hw oz hoz
    refine g_goto X 21 dL_least_10 (by decide) ?_
    refine g_iconst (v := 0) X rfl dL_least_21 ?_
    exact g_iret X (u, oz) hw rfl (Nat.le_of_ble_eq_true rfl) (Nat.le_of_ble_eq_true rfl) dL_least_22

abbrev rmL_nearness : Room := { frames := 7, cells := 1, slots := 6, locals := 135 }
set_option maxHeartbeats 4000000 in
set_option maxRecDepth 20000 in
theorem kL_nearness (l : Launch) (hl9 : l.stackTraces = false) (D : va_G) (ct : Nat → ClassId) (g : Nat → Nat → Nat) (qa : Nat → Nat) (kc : Mem) (v : Mem) (ou : Nat → Int64) (p2 : Int32) (p3 : Int32) (post : Int32 → (Nat → Int64) → Prop) (hw : PL_nearness kc v ou p2 p3 post) : Ch (S := (Nat → Int64)) l yL_nearness wsL_nearness rmL_nearness D (tyz ct) [.ref (g 0 0), .int p2, .int p3, .ref (qa 0)] (fl [wC ct g kc, wS ct (g 1) v, wQ ct qa ou]) (fun r (u9 : (Nat → Int64)) => post r u9) (fun u9 => fl [wC ct g kc, wS ct (g 1) v, wQ ct qa u9]) 1 6 := by
  intro sz
  refine g_ofh (own := RL) (by decide) rfl rfl (Nat.le_of_ble_eq_true rfl) [(0, .ref (g 0 0)), (1, .int p2), (2, .int p3), (3, .ref (qa 0))] rfl (fun p e s m args below meth c hsz htab XX X => ?_)
  subst hsz
  unfold PL_nearness at hw
  refine g_aload_n X 3 dL_nearness_0 rfl rfl ?_
  refine g_iconst (v := 0) X rfl dL_nearness_1 ?_
  refine g_aload_n X 0 dL_nearness_2 rfl rfl ?_
  refine g_iload_n X 1 dL_nearness_3 rfl rfl ?_
  refine g_iload_n X 2 dL_nearness_4 rfl rfl ?_
  refine g_cxV X XX [wC ct g kc, wS ct (g 1) v, wQ ct qa ou] (fun (u : Unit) => [wC ct g kc, wS ct (g 1) v, wQ ct qa ou]) (fun (u : Unit) => fl [wC ct g kc, wS ct (g 1) v, wQ ct qa ou]) 3 [0, 1] [2] 0 (kX7_nearness_x l hl9 D ct g kc v p2 p3 _ _ hw) (cwV 2 X.1.2.2.2.2 gL_nearness_X7_nearness rfl rfl rfl (by decide +kernel) ⟨(Nat.le_of_ble_eq_true rfl), (Nat.le_of_ble_eq_true rfl)⟩) dL_nearness_5 rfl rfl (Nat.le_of_ble_eq_true rfl) ⟨(Nat.le_of_ble_eq_true rfl), (Nat.le_of_ble_eq_true rfl)⟩ rfl rfl rfl (by decide) (fun _ => rfl) (fun _ => rfl) (fun _ => rfl) (fun _ => rfl) rfl rfl rfl (fun code hx => ?_) (fun rz u hw => ?_)
  · obtain ⟨rfl, hx⟩ := hx
    refine ⟨[], ⟨0, 10, 13, 13⟩, [], htab.trans rfl, (fun z hz => by cases hz), by decide, by decide, (List.mem_of_getElem? (i := 1) rfl), fun q9 => ?_⟩
    refine g_astore X [(4, .ref q9), (0, .ref (g 0 0)), (1, .int p2), (2, .int p3), (3, .ref (qa 0))] dL_nearness_13 (by decide) rfl ?_
    refine g_iconst (v := 1) X rfl dL_nearness_15 ?_
    exact g_iret X ou hx rfl (Nat.le_of_ble_eq_true rfl) (Nat.le_of_ble_eq_true rfl) dL_nearness_16
  · refine g_i2l X dL_nearness_8 ?_
    refine g_last X (fun z => fl [wC ct g kc, wS ct (g 1) v, wQ ct qa z]) 11 4 dL_nearness_9 rfl rfl (vp_in_nI (n := 0) (by decide) (by decide)) rfl (fun oz hoz => ?_)
    replace hw := hw oz hoz
    refine g_goto X 17 dL_nearness_10 (by decide) ?_
    refine g_iconst (v := 0) X rfl dL_nearness_17 ?_
    exact g_iret X oz hw rfl (Nat.le_of_ble_eq_true rfl) (Nat.le_of_ble_eq_true rfl) dL_nearness_18
