abbrev rmX7_isRow : Room := { frames := 0, cells := 0, slots := 0, locals := 0 }

abbrev GX7_isRow (l : Launch) (D : va_G) (ct : Nat → ClassId) (post : Int32 → Prop) (p : Program) (e : Env) (s : State) (m : MethodId) (args : Array Value) (below : List Frame) (meth : Method) (c : Code) (A : Nat → Prop) (w9 : va_W) (lv : List (Nat × Value)) (pc : Nat) (st : List Value) : Prop :=
  GG p l e rmX7_isRow s m args below meth c D A s.heap 1 (MQ below (va_Qi (fun r (_ : Unit) => post r) (fun u9 t9 => Af D (tyz ct) A ((fun _ => ([] : va_W)) u9) t9) A)  args s 0 0 A) w9 0 0 lv pc st

set_option maxHeartbeats 4000000 in
set_option maxRecDepth 20000 in
theorem kX7_isRow (l : Launch) (D : va_G) (ct : Nat → ClassId) (p1 : Int32) (post : Int32 → Prop) (hw : PX7_isRow p1 post) : Ci (S := Unit) l yX7_isRow wsX7_isRow rmX7_isRow D (tyz ct) [.int p1] (([] : va_W)) (fun r (_ : Unit) => post r) (fun _ => ([] : va_W)) 0 0 := by
  intro sz
  refine g_of (own := RX7) (by decide) rfl rfl (Nat.le_of_ble_eq_true rfl) [(0, .int p1)] rfl (fun p e s m args below meth c hsz X => ?_)
  subst hsz
  unfold PX7_isRow at hw
  refine g_iload_n X 0 dX7_isRow_0 rfl rfl ?_
  refine g_if_lt X 13 dX7_isRow_1 (by decide) (fun c1 => ?_) (fun c1 => ?_)
  · replace hw := hw.1 c1
    refine g_iconst (v := 0) X rfl dX7_isRow_13 ?_
    exact g_zret X () isB_0 hw rfl (Nat.le_of_ble_eq_true rfl) (Nat.le_of_ble_eq_true rfl) dX7_isRow_14
  · replace hw := hw.2 c1
    refine g_iload_n X 0 dX7_isRow_4 rfl rfl ?_
    refine g_iconst (v := 4) X rfl dX7_isRow_5 ?_
    refine g_icmp_ge X 13 dX7_isRow_6 (by decide) (fun c2 => ?_) (fun c2 => ?_)
    · replace hw := hw.1 c2
      refine g_iconst (v := 0) X rfl dX7_isRow_13 ?_
      exact g_zret X () isB_0 hw rfl (Nat.le_of_ble_eq_true rfl) (Nat.le_of_ble_eq_true rfl) dX7_isRow_14
    · replace hw := hw.2 c2
      refine g_iconst (v := 1) X rfl dX7_isRow_9 ?_
      refine g_goto X 14 dX7_isRow_10 (by decide) ?_
      exact g_zret X () isB_1 hw rfl (Nat.le_of_ble_eq_true rfl) (Nat.le_of_ble_eq_true rfl) dX7_isRow_14

abbrev rmX7_person_nt : Room := { frames := 3, cells := 0, slots := 0, locals := 102 }

abbrev GX7_person_nt (l : Launch) (D : va_G) (ct : Nat → ClassId) (g : Nat → Nat → Nat) (kc : Mem) (post : Int32 → Mem → Mem → (Nat → Mem) → Prop) (p : Program) (e : Env) (s : State) (m : MethodId) (args : Array Value) (below : List Frame) (meth : Method) (c : Code) (A : Nat → Prop) (w9 : va_W) (lv : List (Nat × Value)) (pc : Nat) (st : List Value) : Prop :=
  GG p l e rmX7_person_nt s m args below meth c D A s.heap 2 (MQ below (va_Qi (fun r (u9 : Mem × Mem × (Nat → Mem)) => post r u9.1 u9.2.1 u9.2.2) (fun u9 t9 => Af D (tyz ct) A ((fun u9 => fl [wC ct g kc, wS ct (g 1) u9.1, wV ct g u9.2.1, wS ct (g 5) (u9.2.2 0), wS ct (g 6) (u9.2.2 1), wS ct (g 7) (u9.2.2 2), wS ct (g 8) (u9.2.2 3), wS ct (g 9) (u9.2.2 4), wS ct (g 10) (u9.2.2 5)]) u9) t9) A)  args s 0 0 A) w9 0 0 lv pc st

set_option maxHeartbeats 4000000 in
set_option maxRecDepth 20000 in
theorem kX7_person_nt (l : Launch) (D : va_G) (ct : Nat → ClassId) (g : Nat → Nat → Nat) (kc : Mem) (v : Mem) (b : Mem) (r : Nat → Mem) (p1 : Int32) (post : Int32 → Mem → Mem → (Nat → Mem) → Prop) (hw : PX7_person_nt kc v b r p1 post) : Ci (S := Mem × Mem × (Nat → Mem)) l yX7_person wsX7_person rmX7_person_nt D (tyz ct) [.ref (g 0 0), .int p1] (fl [wC ct g kc, wS ct (g 1) v, wV ct g b, wS ct (g 5) (r 0), wS ct (g 6) (r 1), wS ct (g 7) (r 2), wS ct (g 8) (r 3), wS ct (g 9) (r 4), wS ct (g 10) (r 5)]) (fun r (u9 : Mem × Mem × (Nat → Mem)) => post r u9.1 u9.2.1 u9.2.2) (fun u9 => fl [wC ct g kc, wS ct (g 1) u9.1, wV ct g u9.2.1, wS ct (g 5) (u9.2.2 0), wS ct (g 6) (u9.2.2 1), wS ct (g 7) (u9.2.2 2), wS ct (g 8) (u9.2.2 3), wS ct (g 9) (u9.2.2 4), wS ct (g 10) (u9.2.2 5)]) 0 0 := by
  intro sz
  refine g_of (own := RX7) (by decide) rfl rfl (Nat.le_of_ble_eq_true rfl) [(0, .ref (g 0 0)), (1, .int p1)] rfl (fun p e s m args below meth c hsz X => ?_)
  subst hsz
  unfold PX7_person_nt at hw
  refine g_iload_n X 1 dX7_person_0 rfl rfl ?_
  refine g_ciS X [wC ct g kc, wS ct (g 1) v, wV ct g b, wS ct (g 5) (r 0), wS ct (g 6) (r 1), wS ct (g 7) (r 2), wS ct (g 8) (r 3), wS ct (g 9) (r 4), wS ct (g 10) (r 5)] (fun (_ : Unit) => [wC ct g kc, wS ct (g 1) v, wV ct g b, wS ct (g 5) (r 0), wS ct (g 6) (r 1), wS ct (g 7) (r 2), wS ct (g 8) (r 3), wS ct (g 9) (r 4), wS ct (g 10) (r 5)]) (fun _ => fl [wC ct g kc, wS ct (g 1) v, wV ct g b, wS ct (g 5) (r 0), wS ct (g 6) (r 1), wS ct (g 7) (r 2), wS ct (g 8) (r 3), wS ct (g 9) (r 4), wS ct (g 10) (r 5)]) 9 [] [0, 1, 2, 3, 4, 5, 6, 7, 8] (kX7_isRow l D ct  p1 _ hw) (va_cwS 1 X.1.2.2.2.2 gX7_person_X7_isRow rfl rfl rfl (by decide +kernel) ⟨Nat.le_of_ble_eq_true rfl, Nat.le_of_ble_eq_true rfl⟩) dX7_person_1 rfl rfl (Nat.le_of_ble_eq_true rfl) ⟨Nat.le_of_ble_eq_true rfl, Nat.le_of_ble_eq_true rfl⟩ rfl rfl rfl (by decide) (fun _ => rfl) (fun _ => rfl) (fun _ => rfl) (fun _ => rfl) (fun r1 _ hw => ?_)
  refine g_if_ne X 17 dX7_person_4 (by decide) (fun c3 => ?_) (fun c3 => ?_)
  · replace hw := hw.1 c3
    refine g_aload_n X 0 dX7_person_17 rfl rfl ?_
    refine g_get (T := TX7) (C := RX7) (N := 8) (v := .ref (g 4 0)) X 0 3 (fun _ h => (List.mem_cons_of_mem _ (List.mem_append_left _ (List.mem_append_left _ (List.mem_append_left _ (List.mem_append_right _ h)))))) (List.mem_of_getElem? (i := 3) rfl) dX7_person_18 rfl rfl (by decide) rfl rfl ?_
    refine g_aload_n X 0 dX7_person_21 rfl rfl ?_
    refine g_get (T := TX7) (C := RX7) (N := 8) (v := .ref (g 1 0)) X 0 0 (fun _ h => (List.mem_cons_of_mem _ (List.mem_append_left _ (List.mem_append_left _ (List.mem_append_left _ (List.mem_append_right _ h)))))) (List.mem_of_getElem? (i := 4) rfl) dX7_person_22 rfl rfl (by decide) rfl rfl ?_
    refine g_cvV X [wC ct g kc, wS ct (g 1) v, wV ct g b, wS ct (g 5) (r 0), wS ct (g 6) (r 1), wS ct (g 7) (r 2), wS ct (g 8) (r 3), wS ct (g 9) (r 4), wS ct (g 10) (r 5)] (fun (u4 : Mem × (Nat → Mem)) => [wC ct g kc, wS ct (g 1) v, wV ct g u4.1, wS ct (g 5) (u4.2 0), wS ct (g 6) (u4.2 1), wS ct (g 7) (u4.2 2), wS ct (g 8) (u4.2 3), wS ct (g 9) (u4.2 4), wS ct (g 10) (u4.2 5)]) (fun (u4 : Mem × (Nat → Mem)) => fl [wC ct g kc, wS ct (g 1) v, wV ct g u4.1, wS ct (g 5) (u4.2 0), wS ct (g 6) (u4.2 1), wS ct (g 7) (u4.2 2), wS ct (g 8) (u4.2 3), wS ct (g 9) (u4.2 4), wS ct (g 10) (u4.2 5)]) 9 [2, 3, 4, 5, 6, 7, 8, 1] [0] 0 (kX4_push l D ct g (g 1) b r v _ hw) (cwV 1 X.1.2.2.2.2 gX7_person_X4_push rfl rfl rfl (by decide +kernel) ⟨Nat.le_of_ble_eq_true rfl, Nat.le_of_ble_eq_true rfl⟩) dX7_person_25 rfl rfl (Nat.le_of_ble_eq_true rfl) ⟨Nat.le_of_ble_eq_true rfl, Nat.le_of_ble_eq_true rfl⟩ rfl rfl rfl (by decide) (fun _ => rfl) (fun _ => rfl) (fun _ => rfl) (fun _ => rfl) rfl rfl rfl (fun u4 hw => ?_)
    obtain ⟨b5, hb5⟩ : ∃ z : Mem, z = u4.1 := ⟨_, rfl⟩
    rw [← hb5] at hw
    rw [← hb5]
    obtain ⟨r6, hr6⟩ : ∃ z : Nat → Mem, z = u4.2 := ⟨_, rfl⟩
    rw [← hr6] at hw
    rw [← hr6]
    refine g_aload_n X 0 dX7_person_28 rfl rfl ?_
    refine g_get (T := TX7) (C := RX7) (N := 8) (v := .ref (g 1 0)) X 0 0 (fun _ h => (List.mem_cons_of_mem _ (List.mem_append_left _ (List.mem_append_left _ (List.mem_append_left _ (List.mem_append_right _ h)))))) (List.mem_of_getElem? (i := 4) rfl) dX7_person_29 rfl rfl (by decide) rfl rfl ?_
    refine g_iload_n X 1 dX7_person_32 rfl rfl ?_
    refine g_iconst (v := (-1)) X rfl dX7_person_33 ?_
    refine g_ciV X [wC ct g kc, wS ct (g 1) v, wV ct g b5, wS ct (g 5) (r6 0), wS ct (g 6) (r6 1), wS ct (g 7) (r6 2), wS ct (g 8) (r6 3), wS ct (g 9) (r6 4), wS ct (g 10) (r6 5)] (fun (u8 : Mem) => [wC ct g kc, wS ct (g 1) u8, wV ct g b5, wS ct (g 5) (r6 0), wS ct (g 6) (r6 1), wS ct (g 7) (r6 2), wS ct (g 8) (r6 3), wS ct (g 9) (r6 4), wS ct (g 10) (r6 5)]) (fun (u8 : Mem) => fl [wC ct g kc, wS ct (g 1) u8, wV ct g b5, wS ct (g 5) (r6 0), wS ct (g 6) (r6 1), wS ct (g 7) (r6 2), wS ct (g 8) (r6 3), wS ct (g 9) (r6 4), wS ct (g 10) (r6 5)]) 9 [1] [0, 2, 3, 4, 5, 6, 7, 8] 0 (kX5_addPerson l D ct (g 1) v p1 ((-1)) _ hw) (cwV 2 X.1.2.2.2.2 gX7_person_X5_addPerson rfl rfl rfl (by decide +kernel) ⟨Nat.le_of_ble_eq_true rfl, Nat.le_of_ble_eq_true rfl⟩) dX7_person_34 rfl rfl (Nat.le_of_ble_eq_true rfl) ⟨Nat.le_of_ble_eq_true rfl, Nat.le_of_ble_eq_true rfl⟩ rfl rfl rfl (by decide) (fun _ => rfl) (fun _ => rfl) (fun _ => rfl) (fun _ => rfl) rfl rfl rfl (fun r7 u8 hw => ?_)
    obtain ⟨v9, hv9⟩ : ∃ z : Mem, z = u8 := ⟨_, rfl⟩
    rw [← hv9] at hw
    rw [← hv9]
    exact g_iret X (v9, b5, r6) hw rfl (Nat.le_of_ble_eq_true rfl) (Nat.le_of_ble_eq_true rfl) dX7_person_37
  · replace hw := hw.2 c3
    exact hw.elim

abbrev rmX7_marry_nt : Room := { frames := 4, cells := 0, slots := 0, locals := 102 }

abbrev GX7_marry_nt (l : Launch) (D : va_G) (ct : Nat → ClassId) (g : Nat → Nat → Nat) (kc : Mem) (post : Int32 → Mem → Mem → (Nat → Mem) → Prop) (p : Program) (e : Env) (s : State) (m : MethodId) (args : Array Value) (below : List Frame) (meth : Method) (c : Code) (A : Nat → Prop) (w9 : va_W) (lv : List (Nat × Value)) (pc : Nat) (st : List Value) : Prop :=
  GG p l e rmX7_marry_nt s m args below meth c D A s.heap 3 (MQ below (va_Qi (fun r (u9 : Mem × Mem × (Nat → Mem)) => post r u9.1 u9.2.1 u9.2.2) (fun u9 t9 => Af D (tyz ct) A ((fun u9 => fl [wC ct g kc, wS ct (g 1) u9.1, wV ct g u9.2.1, wS ct (g 5) (u9.2.2 0), wS ct (g 6) (u9.2.2 1), wS ct (g 7) (u9.2.2 2), wS ct (g 8) (u9.2.2 3), wS ct (g 9) (u9.2.2 4), wS ct (g 10) (u9.2.2 5)]) u9) t9) A)  args s 0 0 A) w9 0 0 lv pc st

set_option maxHeartbeats 4000000 in
set_option maxRecDepth 20000 in
theorem kX7_marry_nt (l : Launch) (D : va_G) (ct : Nat → ClassId) (g : Nat → Nat → Nat) (kc : Mem) (v : Mem) (b : Mem) (r : Nat → Mem) (p1 : Int32) (p2 : Int32) (post : Int32 → Mem → Mem → (Nat → Mem) → Prop) (hw : PX7_marry_nt kc v b r p1 p2 post) : Ci (S := Mem × Mem × (Nat → Mem)) l yX7_marry wsX7_marry rmX7_marry_nt D (tyz ct) [.ref (g 0 0), .int p1, .int p2] (fl [wC ct g kc, wS ct (g 1) v, wV ct g b, wS ct (g 5) (r 0), wS ct (g 6) (r 1), wS ct (g 7) (r 2), wS ct (g 8) (r 3), wS ct (g 9) (r 4), wS ct (g 10) (r 5)]) (fun r (u9 : Mem × Mem × (Nat → Mem)) => post r u9.1 u9.2.1 u9.2.2) (fun u9 => fl [wC ct g kc, wS ct (g 1) u9.1, wV ct g u9.2.1, wS ct (g 5) (u9.2.2 0), wS ct (g 6) (u9.2.2 1), wS ct (g 7) (u9.2.2 2), wS ct (g 8) (u9.2.2 3), wS ct (g 9) (u9.2.2 4), wS ct (g 10) (u9.2.2 5)]) 0 0 := by
  intro sz
  refine g_of (own := RX7) (by decide) rfl rfl (Nat.le_of_ble_eq_true rfl) [(0, .ref (g 0 0)), (1, .int p1), (2, .int p2)] rfl (fun p e s m args below meth c hsz X => ?_)
  subst hsz
  unfold PX7_marry_nt at hw
  refine g_aload_n X 0 dX7_marry_0 rfl rfl ?_
  refine g_get (T := TX7) (C := RX7) (N := 8) (v := .ref (g 1 0)) X 0 0 (fun _ h => (List.mem_cons_of_mem _ (List.mem_append_left _ (List.mem_append_left _ (List.mem_append_left _ (List.mem_append_left _ (List.mem_append_right _ h))))))) (List.mem_of_getElem? (i := 5) rfl) dX7_marry_1 rfl rfl (by decide) rfl rfl ?_
  refine g_iload_n X 1 dX7_marry_4 rfl rfl ?_
  refine g_ciV X [wC ct g kc, wS ct (g 1) v, wV ct g b, wS ct (g 5) (r 0), wS ct (g 6) (r 1), wS ct (g 7) (r 2), wS ct (g 8) (r 3), wS ct (g 9) (r 4), wS ct (g 10) (r 5)] (fun (_ : Unit) => [wC ct g kc, wS ct (g 1) v, wV ct g b, wS ct (g 5) (r 0), wS ct (g 6) (r 1), wS ct (g 7) (r 2), wS ct (g 8) (r 3), wS ct (g 9) (r 4), wS ct (g 10) (r 5)]) (fun _ => fl [wC ct g kc, wS ct (g 1) v, wV ct g b, wS ct (g 5) (r 0), wS ct (g 6) (r 1), wS ct (g 7) (r 2), wS ct (g 8) (r 3), wS ct (g 9) (r 4), wS ct (g 10) (r 5)]) 9 [1] [0, 2, 3, 4, 5, 6, 7, 8] 0 (kX5_isPerson l D ct (g 1) v p1 _ hw) (cwV 1 X.1.2.2.2.2 gX7_marry_X5_isPerson rfl rfl rfl (by decide +kernel) ⟨Nat.le_of_ble_eq_true rfl, Nat.le_of_ble_eq_true rfl⟩) dX7_marry_5 rfl rfl (Nat.le_of_ble_eq_true rfl) ⟨Nat.le_of_ble_eq_true rfl, Nat.le_of_ble_eq_true rfl⟩ rfl rfl rfl (by decide) (fun _ => rfl) (fun _ => rfl) (fun _ => rfl) (fun _ => rfl) rfl rfl rfl (fun r1 _ hw => ?_)
  refine g_if_eq X 22 dX7_marry_8 (by decide) (fun c3 => ?_) (fun c3 => ?_)
  · replace hw := hw.1 c3
    exact hw.elim
  · replace hw := hw.2 c3
    refine g_aload_n X 0 dX7_marry_11 rfl rfl ?_
    refine g_get (T := TX7) (C := RX7) (N := 8) (v := .ref (g 1 0)) X 0 0 (fun _ h => (List.mem_cons_of_mem _ (List.mem_append_left _ (List.mem_append_left _ (List.mem_append_left _ (List.mem_append_left _ (List.mem_append_right _ h))))))) (List.mem_of_getElem? (i := 5) rfl) dX7_marry_12 rfl rfl (by decide) rfl rfl ?_
    refine g_iload_n X 2 dX7_marry_15 rfl rfl ?_
    refine g_ciV X [wC ct g kc, wS ct (g 1) v, wV ct g b, wS ct (g 5) (r 0), wS ct (g 6) (r 1), wS ct (g 7) (r 2), wS ct (g 8) (r 3), wS ct (g 9) (r 4), wS ct (g 10) (r 5)] (fun (_ : Unit) => [wC ct g kc, wS ct (g 1) v, wV ct g b, wS ct (g 5) (r 0), wS ct (g 6) (r 1), wS ct (g 7) (r 2), wS ct (g 8) (r 3), wS ct (g 9) (r 4), wS ct (g 10) (r 5)]) (fun _ => fl [wC ct g kc, wS ct (g 1) v, wV ct g b, wS ct (g 5) (r 0), wS ct (g 6) (r 1), wS ct (g 7) (r 2), wS ct (g 8) (r 3), wS ct (g 9) (r 4), wS ct (g 10) (r 5)]) 9 [1] [0, 2, 3, 4, 5, 6, 7, 8] 0 (kX5_isPerson l D ct (g 1) v p2 _ hw) (cwV 1 X.1.2.2.2.2 gX7_marry_X5_isPerson rfl rfl rfl (by decide +kernel) ⟨Nat.le_of_ble_eq_true rfl, Nat.le_of_ble_eq_true rfl⟩) dX7_marry_16 rfl rfl (Nat.le_of_ble_eq_true rfl) ⟨Nat.le_of_ble_eq_true rfl, Nat.le_of_ble_eq_true rfl⟩ rfl rfl rfl (by decide) (fun _ => rfl) (fun _ => rfl) (fun _ => rfl) (fun _ => rfl) rfl rfl rfl (fun r4 _ hw => ?_)
    refine g_if_ne X 32 dX7_marry_19 (by decide) (fun c6 => ?_) (fun c6 => ?_)
    · replace hw := hw.1 c6
      refine g_iload_n X 1 dX7_marry_32 rfl rfl ?_
      refine g_iload_n X 2 dX7_marry_33 rfl rfl ?_
      refine g_icmp_ne X 47 dX7_marry_34 (by decide) (fun c7 => ?_) (fun c7 => ?_)
      · replace hw := hw.1 c7
        refine g_aload_n X 0 dX7_marry_47 rfl rfl ?_
        refine g_get (T := TX7) (C := RX7) (N := 8) (v := .ref (g 4 0)) X 0 3 (fun _ h => (List.mem_cons_of_mem _ (List.mem_append_left _ (List.mem_append_left _ (List.mem_append_left _ (List.mem_append_left _ (List.mem_append_right _ h))))))) (List.mem_of_getElem? (i := 6) rfl) dX7_marry_48 rfl rfl (by decide) rfl rfl ?_
        refine g_aload_n X 0 dX7_marry_51 rfl rfl ?_
        refine g_get (T := TX7) (C := RX7) (N := 8) (v := .ref (g 1 0)) X 0 0 (fun _ h => (List.mem_cons_of_mem _ (List.mem_append_left _ (List.mem_append_left _ (List.mem_append_left _ (List.mem_append_left _ (List.mem_append_right _ h))))))) (List.mem_of_getElem? (i := 5) rfl) dX7_marry_52 rfl rfl (by decide) rfl rfl ?_
        refine g_cvV X [wC ct g kc, wS ct (g 1) v, wV ct g b, wS ct (g 5) (r 0), wS ct (g 6) (r 1), wS ct (g 7) (r 2), wS ct (g 8) (r 3), wS ct (g 9) (r 4), wS ct (g 10) (r 5)] (fun (u8 : Mem × (Nat → Mem)) => [wC ct g kc, wS ct (g 1) v, wV ct g u8.1, wS ct (g 5) (u8.2 0), wS ct (g 6) (u8.2 1), wS ct (g 7) (u8.2 2), wS ct (g 8) (u8.2 3), wS ct (g 9) (u8.2 4), wS ct (g 10) (u8.2 5)]) (fun (u8 : Mem × (Nat → Mem)) => fl [wC ct g kc, wS ct (g 1) v, wV ct g u8.1, wS ct (g 5) (u8.2 0), wS ct (g 6) (u8.2 1), wS ct (g 7) (u8.2 2), wS ct (g 8) (u8.2 3), wS ct (g 9) (u8.2 4), wS ct (g 10) (u8.2 5)]) 9 [2, 3, 4, 5, 6, 7, 8, 1] [0] 0 (kX4_push l D ct g (g 1) b r v _ hw) (cwV 1 X.1.2.2.2.2 gX7_marry_X4_push rfl rfl rfl (by decide +kernel) ⟨Nat.le_of_ble_eq_true rfl, Nat.le_of_ble_eq_true rfl⟩) dX7_marry_55 rfl rfl (Nat.le_of_ble_eq_true rfl) ⟨Nat.le_of_ble_eq_true rfl, Nat.le_of_ble_eq_true rfl⟩ rfl rfl rfl (by decide) (fun _ => rfl) (fun _ => rfl) (fun _ => rfl) (fun _ => rfl) rfl rfl rfl (fun u8 hw => ?_)
        obtain ⟨b9, hb9⟩ : ∃ z : Mem, z = u8.1 := ⟨_, rfl⟩
        rw [← hb9] at hw
        rw [← hb9]
        obtain ⟨r10, hr10⟩ : ∃ z : Nat → Mem, z = u8.2 := ⟨_, rfl⟩
        rw [← hr10] at hw
        rw [← hr10]
        refine g_aload_n X 0 dX7_marry_58 rfl rfl ?_
        refine g_get (T := TX7) (C := RX7) (N := 8) (v := .ref (g 1 0)) X 0 0 (fun _ h => (List.mem_cons_of_mem _ (List.mem_append_left _ (List.mem_append_left _ (List.mem_append_left _ (List.mem_append_left _ (List.mem_append_right _ h))))))) (List.mem_of_getElem? (i := 5) rfl) dX7_marry_59 rfl rfl (by decide) rfl rfl ?_
        refine g_iload_n X 1 dX7_marry_62 rfl rfl ?_
        refine g_iload_n X 2 dX7_marry_63 rfl rfl ?_
        refine g_ciV X [wC ct g kc, wS ct (g 1) v, wV ct g b9, wS ct (g 5) (r10 0), wS ct (g 6) (r10 1), wS ct (g 7) (r10 2), wS ct (g 8) (r10 3), wS ct (g 9) (r10 4), wS ct (g 10) (r10 5)] (fun (u12 : Mem) => [wC ct g kc, wS ct (g 1) u12, wV ct g b9, wS ct (g 5) (r10 0), wS ct (g 6) (r10 1), wS ct (g 7) (r10 2), wS ct (g 8) (r10 3), wS ct (g 9) (r10 4), wS ct (g 10) (r10 5)]) (fun (u12 : Mem) => fl [wC ct g kc, wS ct (g 1) u12, wV ct g b9, wS ct (g 5) (r10 0), wS ct (g 6) (r10 1), wS ct (g 7) (r10 2), wS ct (g 8) (r10 3), wS ct (g 9) (r10 4), wS ct (g 10) (r10 5)]) 9 [1] [0, 2, 3, 4, 5, 6, 7, 8] 0 (kX5_addCouple l D ct (g 1) v p1 p2 _ hw) (cwV 2 X.1.2.2.2.2 gX7_marry_X5_addCouple rfl rfl rfl (by decide +kernel) ⟨Nat.le_of_ble_eq_true rfl, Nat.le_of_ble_eq_true rfl⟩) dX7_marry_64 rfl rfl (Nat.le_of_ble_eq_true rfl) ⟨Nat.le_of_ble_eq_true rfl, Nat.le_of_ble_eq_true rfl⟩ rfl rfl rfl (by decide) (fun _ => rfl) (fun _ => rfl) (fun _ => rfl) (fun _ => rfl) rfl rfl rfl (fun r11 u12 hw => ?_)
        obtain ⟨v13, hv13⟩ : ∃ z : Mem, z = u12 := ⟨_, rfl⟩
        rw [← hv13] at hw
        rw [← hv13]
        exact g_iret X (v13, b9, r10) hw rfl (Nat.le_of_ble_eq_true rfl) (Nat.le_of_ble_eq_true rfl) dX7_marry_67
      · replace hw := hw.2 c7
        exact hw.elim
    · replace hw := hw.2 c6
      exact hw.elim

abbrev rmX7_child_nt : Room := { frames := 4, cells := 0, slots := 0, locals := 102 }

abbrev GX7_child_nt (l : Launch) (D : va_G) (ct : Nat → ClassId) (g : Nat → Nat → Nat) (kc : Mem) (post : Int32 → Mem → Mem → (Nat → Mem) → Prop) (p : Program) (e : Env) (s : State) (m : MethodId) (args : Array Value) (below : List Frame) (meth : Method) (c : Code) (A : Nat → Prop) (w9 : va_W) (lv : List (Nat × Value)) (pc : Nat) (st : List Value) : Prop :=
  GG p l e rmX7_child_nt s m args below meth c D A s.heap 2 (MQ below (va_Qi (fun r (u9 : Mem × Mem × (Nat → Mem)) => post r u9.1 u9.2.1 u9.2.2) (fun u9 t9 => Af D (tyz ct) A ((fun u9 => fl [wC ct g kc, wS ct (g 1) u9.1, wV ct g u9.2.1, wS ct (g 5) (u9.2.2 0), wS ct (g 6) (u9.2.2 1), wS ct (g 7) (u9.2.2 2), wS ct (g 8) (u9.2.2 3), wS ct (g 9) (u9.2.2 4), wS ct (g 10) (u9.2.2 5)]) u9) t9) A)  args s 0 0 A) w9 0 0 lv pc st

set_option maxHeartbeats 4000000 in
set_option maxRecDepth 20000 in
theorem kX7_child_nt (l : Launch) (D : va_G) (ct : Nat → ClassId) (g : Nat → Nat → Nat) (kc : Mem) (v : Mem) (b : Mem) (r : Nat → Mem) (p1 : Int32) (post : Int32 → Mem → Mem → (Nat → Mem) → Prop) (hw : PX7_child_nt kc v b r p1 post) : Ci (S := Mem × Mem × (Nat → Mem)) l yX7_child wsX7_child rmX7_child_nt D (tyz ct) [.ref (g 0 0), .int p1] (fl [wC ct g kc, wS ct (g 1) v, wV ct g b, wS ct (g 5) (r 0), wS ct (g 6) (r 1), wS ct (g 7) (r 2), wS ct (g 8) (r 3), wS ct (g 9) (r 4), wS ct (g 10) (r 5)]) (fun r (u9 : Mem × Mem × (Nat → Mem)) => post r u9.1 u9.2.1 u9.2.2) (fun u9 => fl [wC ct g kc, wS ct (g 1) u9.1, wV ct g u9.2.1, wS ct (g 5) (u9.2.2 0), wS ct (g 6) (u9.2.2 1), wS ct (g 7) (u9.2.2 2), wS ct (g 8) (u9.2.2 3), wS ct (g 9) (u9.2.2 4), wS ct (g 10) (u9.2.2 5)]) 0 0 := by
  intro sz
  refine g_of (own := RX7) (by decide) rfl rfl (Nat.le_of_ble_eq_true rfl) [(0, .ref (g 0 0)), (1, .int p1)] rfl (fun p e s m args below meth c hsz X => ?_)
  subst hsz
  unfold PX7_child_nt at hw
  refine g_aload_n X 0 dX7_child_0 rfl rfl ?_
  refine g_get (T := TX7) (C := RX7) (N := 8) (v := .ref (g 1 0)) X 0 0 (fun _ h => (List.mem_cons_of_mem _ (List.mem_append_left _ (List.mem_append_left _ (List.mem_append_left _ (List.mem_append_right _ h)))))) (List.mem_of_getElem? (i := 3) rfl) dX7_child_1 rfl rfl (by decide) rfl rfl ?_
  refine g_iload_n X 1 dX7_child_4 rfl rfl ?_
  refine g_ciV X [wC ct g kc, wS ct (g 1) v, wV ct g b, wS ct (g 5) (r 0), wS ct (g 6) (r 1), wS ct (g 7) (r 2), wS ct (g 8) (r 3), wS ct (g 9) (r 4), wS ct (g 10) (r 5)] (fun (_ : Unit) => [wC ct g kc, wS ct (g 1) v, wV ct g b, wS ct (g 5) (r 0), wS ct (g 6) (r 1), wS ct (g 7) (r 2), wS ct (g 8) (r 3), wS ct (g 9) (r 4), wS ct (g 10) (r 5)]) (fun _ => fl [wC ct g kc, wS ct (g 1) v, wV ct g b, wS ct (g 5) (r 0), wS ct (g 6) (r 1), wS ct (g 7) (r 2), wS ct (g 8) (r 3), wS ct (g 9) (r 4), wS ct (g 10) (r 5)]) 9 [1] [0, 2, 3, 4, 5, 6, 7, 8] 0 (kX5_isCouple l D ct (g 1) v p1 _ hw) (cwV 1 X.1.2.2.2.2 gX7_child_X5_isCouple rfl rfl rfl (by decide +kernel) ⟨Nat.le_of_ble_eq_true rfl, Nat.le_of_ble_eq_true rfl⟩) dX7_child_5 rfl rfl (Nat.le_of_ble_eq_true rfl) ⟨Nat.le_of_ble_eq_true rfl, Nat.le_of_ble_eq_true rfl⟩ rfl rfl rfl (by decide) (fun _ => rfl) (fun _ => rfl) (fun _ => rfl) (fun _ => rfl) rfl rfl rfl (fun r1 _ hw => ?_)
  refine g_if_ne X 21 dX7_child_8 (by decide) (fun c3 => ?_) (fun c3 => ?_)
  · replace hw := hw.1 c3
    refine g_aload_n X 0 dX7_child_21 rfl rfl ?_
    refine g_get (T := TX7) (C := RX7) (N := 8) (v := .ref (g 4 0)) X 0 3 (fun _ h => (List.mem_cons_of_mem _ (List.mem_append_left _ (List.mem_append_left _ (List.mem_append_left _ (List.mem_append_right _ h)))))) (List.mem_of_getElem? (i := 4) rfl) dX7_child_22 rfl rfl (by decide) rfl rfl ?_
    refine g_aload_n X 0 dX7_child_25 rfl rfl ?_
    refine g_get (T := TX7) (C := RX7) (N := 8) (v := .ref (g 1 0)) X 0 0 (fun _ h => (List.mem_cons_of_mem _ (List.mem_append_left _ (List.mem_append_left _ (List.mem_append_left _ (List.mem_append_right _ h)))))) (List.mem_of_getElem? (i := 3) rfl) dX7_child_26 rfl rfl (by decide) rfl rfl ?_
    refine g_cvV X [wC ct g kc, wS ct (g 1) v, wV ct g b, wS ct (g 5) (r 0), wS ct (g 6) (r 1), wS ct (g 7) (r 2), wS ct (g 8) (r 3), wS ct (g 9) (r 4), wS ct (g 10) (r 5)] (fun (u4 : Mem × (Nat → Mem)) => [wC ct g kc, wS ct (g 1) v, wV ct g u4.1, wS ct (g 5) (u4.2 0), wS ct (g 6) (u4.2 1), wS ct (g 7) (u4.2 2), wS ct (g 8) (u4.2 3), wS ct (g 9) (u4.2 4), wS ct (g 10) (u4.2 5)]) (fun (u4 : Mem × (Nat → Mem)) => fl [wC ct g kc, wS ct (g 1) v, wV ct g u4.1, wS ct (g 5) (u4.2 0), wS ct (g 6) (u4.2 1), wS ct (g 7) (u4.2 2), wS ct (g 8) (u4.2 3), wS ct (g 9) (u4.2 4), wS ct (g 10) (u4.2 5)]) 9 [2, 3, 4, 5, 6, 7, 8, 1] [0] 0 (kX4_push l D ct g (g 1) b r v _ hw) (cwV 1 X.1.2.2.2.2 gX7_child_X4_push rfl rfl rfl (by decide +kernel) ⟨Nat.le_of_ble_eq_true rfl, Nat.le_of_ble_eq_true rfl⟩) dX7_child_29 rfl rfl (Nat.le_of_ble_eq_true rfl) ⟨Nat.le_of_ble_eq_true rfl, Nat.le_of_ble_eq_true rfl⟩ rfl rfl rfl (by decide) (fun _ => rfl) (fun _ => rfl) (fun _ => rfl) (fun _ => rfl) rfl rfl rfl (fun u4 hw => ?_)
    obtain ⟨b5, hb5⟩ : ∃ z : Mem, z = u4.1 := ⟨_, rfl⟩
    rw [← hb5] at hw
    rw [← hb5]
    obtain ⟨r6, hr6⟩ : ∃ z : Nat → Mem, z = u4.2 := ⟨_, rfl⟩
    rw [← hr6] at hw
    rw [← hr6]
    refine g_aload_n X 0 dX7_child_32 rfl rfl ?_
    refine g_get (T := TX7) (C := RX7) (N := 8) (v := .ref (g 1 0)) X 0 0 (fun _ h => (List.mem_cons_of_mem _ (List.mem_append_left _ (List.mem_append_left _ (List.mem_append_left _ (List.mem_append_right _ h)))))) (List.mem_of_getElem? (i := 3) rfl) dX7_child_33 rfl rfl (by decide) rfl rfl ?_
    refine g_iload_n X 1 dX7_child_36 rfl rfl ?_
    refine g_ciV X [wC ct g kc, wS ct (g 1) v, wV ct g b5, wS ct (g 5) (r6 0), wS ct (g 6) (r6 1), wS ct (g 7) (r6 2), wS ct (g 8) (r6 3), wS ct (g 9) (r6 4), wS ct (g 10) (r6 5)] (fun (u8 : Mem) => [wC ct g kc, wS ct (g 1) u8, wV ct g b5, wS ct (g 5) (r6 0), wS ct (g 6) (r6 1), wS ct (g 7) (r6 2), wS ct (g 8) (r6 3), wS ct (g 9) (r6 4), wS ct (g 10) (r6 5)]) (fun (u8 : Mem) => fl [wC ct g kc, wS ct (g 1) u8, wV ct g b5, wS ct (g 5) (r6 0), wS ct (g 6) (r6 1), wS ct (g 7) (r6 2), wS ct (g 8) (r6 3), wS ct (g 9) (r6 4), wS ct (g 10) (r6 5)]) 9 [1] [0, 2, 3, 4, 5, 6, 7, 8] 0 (kX5_addChild l D ct (g 1) v p1 _ hw) (cwV 1 X.1.2.2.2.2 gX7_child_X5_addChild rfl rfl rfl (by decide +kernel) ⟨Nat.le_of_ble_eq_true rfl, Nat.le_of_ble_eq_true rfl⟩) dX7_child_37 rfl rfl (Nat.le_of_ble_eq_true rfl) ⟨Nat.le_of_ble_eq_true rfl, Nat.le_of_ble_eq_true rfl⟩ rfl rfl rfl (by decide) (fun _ => rfl) (fun _ => rfl) (fun _ => rfl) (fun _ => rfl) rfl rfl rfl (fun r7 u8 hw => ?_)
    obtain ⟨v9, hv9⟩ : ∃ z : Mem, z = u8 := ⟨_, rfl⟩
    rw [← hv9] at hw
    rw [← hv9]
    exact g_iret X (v9, b5, r6) hw rfl (Nat.le_of_ble_eq_true rfl) (Nat.le_of_ble_eq_true rfl) dX7_child_40
  · replace hw := hw.2 c3
    exact hw.elim

abbrev rmX7_allCrossings : Room := { frames := 5, cells := 0, slots := 0, locals := 108 }

abbrev GX7_allCrossings (l : Launch) (D : va_G) (ct : Nat → ClassId) (g : Nat → Nat → Nat) (kc : Mem) (v : Mem) (post : Int32 → Mem → Prop) (p : Program) (e : Env) (s : State) (m : MethodId) (args : Array Value) (below : List Frame) (meth : Method) (c : Code) (A : Nat → Prop) (w9 : va_W) (lv : List (Nat × Value)) (pc : Nat) (st : List Value) : Prop :=
  GG p l e rmX7_allCrossings s m args below meth c D A s.heap 3 (MQ below (va_Qi (fun r (u9 : Mem) => post r u9) (fun u9 t9 => Af D (tyz ct) A ((fun u9 => fl [wC ct g kc, wS ct (g 1) v, wL ct (g 12) u9]) u9) t9) A)  args s 0 0 A) w9 0 0 lv pc st

set_option maxHeartbeats 4000000 in
set_option maxRecDepth 20000 in
theorem kX7_allCrossings_4 (l : Launch) (D : va_G) (ct : Nat → ClassId) (g : Nat → Nat → Nat) (kc : Mem) (v : Mem) (post : Int32 → Mem → Prop) {p : Program} {e : Env} {s : State} {m : MethodId} {args : Array Value} {below : List Frame} {meth : Method} {c : Code} {A : Nat → Prop} (X : Cx p s m args meth c cX7_allCrossings 3 RX7 wsX7_allCrossings D (tyz ct) A s.heap (some .int))  :
    ∀ (n : Nat) (y : Mem) (x1 : Int32) (x2 : Int32), PX7_allCrossings_4 kc v post n y x1 x2 → GX7_allCrossings l D ct g kc v post p e s m args below meth c A (fl [wC ct g kc, wS ct (g 1) v, wL ct (g 12) y]) [(0, .ref (g 0 0)), (1, .int x1), (2, .int x2)] 4 [] := by
  intro n
  induction n with
  | zero =>
    intro y x1 x2 hw
    exact hw.elim
  | succ n ih =>
    intro y x1 x2 hw
    unfold PX7_allCrossings_4 at hw
    refine g_iload_n X 2 dX7_allCrossings_4 rfl rfl ?_
    refine g_iconst (v := 4) X rfl dX7_allCrossings_5 ?_
    refine g_icmp_ge X 37 dX7_allCrossings_6 (by decide) (fun c1 => ?_) (fun c1 => ?_)
    · replace hw := hw.1 c1
      refine g_iload_n X 1 dX7_allCrossings_37 rfl rfl ?_
      exact g_iret X y hw rfl (Nat.le_of_ble_eq_true rfl) (Nat.le_of_ble_eq_true rfl) dX7_allCrossings_38
    · replace hw := hw.2 c1
      refine g_aload_n X 0 dX7_allCrossings_9 rfl rfl ?_
      refine g_get (T := TX7) (C := RX7) (N := 8) (v := .ref (g 12 0)) X 0 5 (fun _ h => (List.mem_cons_of_mem _ (List.mem_append_left _ (List.mem_append_left _ (List.mem_append_right _ h))))) (List.mem_of_getElem? (i := 1) rfl) dX7_allCrossings_10 rfl rfl (by decide) rfl rfl ?_
      refine g_aload_n X 0 dX7_allCrossings_13 rfl rfl ?_
      refine g_get (T := TX7) (C := RX7) (N := 8) (v := .ref (g 1 0)) X 0 0 (fun _ h => (List.mem_cons_of_mem _ (List.mem_append_left _ (List.mem_append_left _ (List.mem_append_right _ h))))) (List.mem_of_getElem? (i := 2) rfl) dX7_allCrossings_14 rfl rfl (by decide) rfl rfl ?_
      refine g_iload_n X 2 dX7_allCrossings_17 rfl rfl ?_
      refine g_cvV X [wC ct g kc, wS ct (g 1) v, wL ct (g 12) y] (fun (u2 : Mem) => [wC ct g kc, wS ct (g 1) v, wL ct (g 12) u2]) (fun (u2 : Mem) => fl [wC ct g kc, wS ct (g 1) v, wL ct (g 12) u2]) 3 [2, 1] [0] 0 (kX2_collect l D ct (g 12) (g 1) y v x2 _ hw) (cwV 2 X.1.2.2.2.2 gX7_allCrossings_X2_collect rfl rfl rfl (by decide +kernel) ⟨Nat.le_of_ble_eq_true rfl, Nat.le_of_ble_eq_true rfl⟩) dX7_allCrossings_18 rfl rfl (Nat.le_of_ble_eq_true rfl) ⟨Nat.le_of_ble_eq_true rfl, Nat.le_of_ble_eq_true rfl⟩ rfl rfl rfl (by decide) (fun _ => rfl) (fun _ => rfl) (fun _ => rfl) (fun _ => rfl) rfl rfl rfl (fun u2 hw => ?_)
      obtain ⟨y3, hy3⟩ : ∃ z : Mem, z = u2 := ⟨_, rfl⟩
      rw [← hy3] at hw
      rw [← hy3]
      refine g_iload_n X 1 dX7_allCrossings_21 rfl rfl ?_
      refine g_aload_n X 0 dX7_allCrossings_22 rfl rfl ?_
      refine g_get (T := TX7) (C := RX7) (N := 8) (v := .ref (g 12 0)) X 0 5 (fun _ h => (List.mem_cons_of_mem _ (List.mem_append_left _ (List.mem_append_left _ (List.mem_append_right _ h))))) (List.mem_of_getElem? (i := 1) rfl) dX7_allCrossings_23 rfl rfl (by decide) rfl rfl ?_
      refine g_ciV X [wC ct g kc, wS ct (g 1) v, wL ct (g 12) y3] (fun (_ : Unit) => [wC ct g kc, wS ct (g 1) v, wL ct (g 12) y3]) (fun _ => fl [wC ct g kc, wS ct (g 1) v, wL ct (g 12) y3]) 3 [2] [0, 1] 0 (kX2_crossedPairs l D ct (g 12) y3 _ hw) (cwV 0 X.1.2.2.2.2 gX7_allCrossings_X2_crossedPairs rfl rfl rfl (by decide +kernel) ⟨Nat.le_of_ble_eq_true rfl, Nat.le_of_ble_eq_true rfl⟩) dX7_allCrossings_26 rfl rfl (Nat.le_of_ble_eq_true rfl) ⟨Nat.le_of_ble_eq_true rfl, Nat.le_of_ble_eq_true rfl⟩ rfl rfl rfl (by decide) (fun _ => rfl) (fun _ => rfl) (fun _ => rfl) (fun _ => rfl) rfl rfl rfl (fun r4 _ hw => ?_)
      refine g_iadd X dX7_allCrossings_29 ?_
      refine g_topi (fun q6 hq6 => ?_)
      replace hw := hw q6 hq6
      refine g_istore_n X [(1, .int q6), (0, .ref (g 0 0)), (2, .int x2)] dX7_allCrossings_30 rfl (by decide) rfl ?_
      refine g_iinc X [(2, .int (x2 + 1)), (1, .int q6), (0, .ref (g 0 0))] 2 dX7_allCrossings_31 rfl rfl (by decide) rfl ?_
      refine g_goto X 4 dX7_allCrossings_34 (by decide) ?_
      refine g_sub [(0, .ref (g 0 0)), (1, .int q6), (2, .int (x2 + 1))] [2, 1, 0] rfl ?_
      exact ih _ _ _ hw

set_option maxHeartbeats 4000000 in
set_option maxRecDepth 20000 in
theorem kX7_allCrossings (l : Launch) (D : va_G) (ct : Nat → ClassId) (g : Nat → Nat → Nat) (kc : Mem) (v : Mem) (y : Mem) (post : Int32 → Mem → Prop) (hw : PX7_allCrossings kc v y post) : Ci (S := Mem) l yX7_allCrossings wsX7_allCrossings rmX7_allCrossings D (tyz ct) [.ref (g 0 0)] (fl [wC ct g kc, wS ct (g 1) v, wL ct (g 12) y]) (fun r (u9 : Mem) => post r u9) (fun u9 => fl [wC ct g kc, wS ct (g 1) v, wL ct (g 12) u9]) 0 0 := by
  intro sz
  refine g_of (own := RX7) (by decide) rfl rfl (Nat.le_of_ble_eq_true rfl) [(0, .ref (g 0 0))] rfl (fun p e s m args below meth c hsz X => ?_)
  subst hsz
  unfold PX7_allCrossings at hw
  refine g_iconst (v := 0) X rfl dX7_allCrossings_0 ?_
  refine g_istore_n X [(1, .int 0), (0, .ref (g 0 0))] dX7_allCrossings_1 rfl (by decide) rfl ?_
  refine g_iconst (v := 0) X rfl dX7_allCrossings_2 ?_
  refine g_istore_n X [(2, .int 0), (1, .int 0), (0, .ref (g 0 0))] dX7_allCrossings_3 rfl (by decide) rfl ?_
  refine g_sub [(0, .ref (g 0 0)), (1, .int 0), (2, .int 0)] [2, 1, 0] rfl ?_
  obtain ⟨n7, hw⟩ := hw
  exact kX7_allCrossings_4 l D ct g kc v post X n7 _ _ _ hw

abbrev rmX7_swap_nt : Room := { frames := 6, cells := 0, slots := 0, locals := 130 }

abbrev GX7_swap_nt (l : Launch) (D : va_G) (ct : Nat → ClassId) (g : Nat → Nat → Nat) (kc : Mem) (post : Int32 → Mem → Mem → (Nat → Mem) → Mem → Prop) (p : Program) (e : Env) (s : State) (m : MethodId) (args : Array Value) (below : List Frame) (meth : Method) (c : Code) (A : Nat → Prop) (w9 : va_W) (lv : List (Nat × Value)) (pc : Nat) (st : List Value) : Prop :=
  GG p l e rmX7_swap_nt s m args below meth c D A s.heap 4 (MQ below (va_Qi (fun r (u9 : Mem × Mem × (Nat → Mem) × Mem) => post r u9.1 u9.2.1 u9.2.2.1 u9.2.2.2) (fun u9 t9 => Af D (tyz ct) A ((fun u9 => fl [wC ct g kc, wS ct (g 1) u9.1, wV ct g u9.2.1, wS ct (g 5) (u9.2.2.1 0), wS ct (g 6) (u9.2.2.1 1), wS ct (g 7) (u9.2.2.1 2), wS ct (g 8) (u9.2.2.1 3), wS ct (g 9) (u9.2.2.1 4), wS ct (g 10) (u9.2.2.1 5), wL ct (g 12) u9.2.2.2]) u9) t9) A)  args s 0 0 A) w9 0 0 lv pc st

set_option maxHeartbeats 4000000 in
set_option maxRecDepth 20000 in
theorem kX7_swap_nt (l : Launch) (D : va_G) (ct : Nat → ClassId) (g : Nat → Nat → Nat) (kc : Mem) (v : Mem) (b : Mem) (r : Nat → Mem) (y : Mem) (p1 : Int32) (p2 : Int32) (post : Int32 → Mem → Mem → (Nat → Mem) → Mem → Prop) (hw : PX7_swap_nt kc v b r y p1 p2 post) : Ci (S := Mem × Mem × (Nat → Mem) × Mem) l yX7_swap wsX7_swap rmX7_swap_nt D (tyz ct) [.ref (g 0 0), .int p1, .int p2] (fl [wC ct g kc, wS ct (g 1) v, wV ct g b, wS ct (g 5) (r 0), wS ct (g 6) (r 1), wS ct (g 7) (r 2), wS ct (g 8) (r 3), wS ct (g 9) (r 4), wS ct (g 10) (r 5), wL ct (g 12) y]) (fun r (u9 : Mem × Mem × (Nat → Mem) × Mem) => post r u9.1 u9.2.1 u9.2.2.1 u9.2.2.2) (fun u9 => fl [wC ct g kc, wS ct (g 1) u9.1, wV ct g u9.2.1, wS ct (g 5) (u9.2.2.1 0), wS ct (g 6) (u9.2.2.1 1), wS ct (g 7) (u9.2.2.1 2), wS ct (g 8) (u9.2.2.1 3), wS ct (g 9) (u9.2.2.1 4), wS ct (g 10) (u9.2.2.1 5), wL ct (g 12) u9.2.2.2]) 0 0 := by
  intro sz
  refine g_of (own := RX7) (by decide) rfl rfl (Nat.le_of_ble_eq_true rfl) [(0, .ref (g 0 0)), (1, .int p1), (2, .int p2)] rfl (fun p e s m args below meth c hsz X => ?_)
  subst hsz
  unfold PX7_swap_nt at hw
  refine g_iload_n X 1 dX7_swap_0 rfl rfl ?_
  refine g_ciS X [wC ct g kc, wS ct (g 1) v, wV ct g b, wS ct (g 5) (r 0), wS ct (g 6) (r 1), wS ct (g 7) (r 2), wS ct (g 8) (r 3), wS ct (g 9) (r 4), wS ct (g 10) (r 5), wL ct (g 12) y] (fun (_ : Unit) => [wC ct g kc, wS ct (g 1) v, wV ct g b, wS ct (g 5) (r 0), wS ct (g 6) (r 1), wS ct (g 7) (r 2), wS ct (g 8) (r 3), wS ct (g 9) (r 4), wS ct (g 10) (r 5), wL ct (g 12) y]) (fun _ => fl [wC ct g kc, wS ct (g 1) v, wV ct g b, wS ct (g 5) (r 0), wS ct (g 6) (r 1), wS ct (g 7) (r 2), wS ct (g 8) (r 3), wS ct (g 9) (r 4), wS ct (g 10) (r 5), wL ct (g 12) y]) 10 [] [0, 1, 2, 3, 4, 5, 6, 7, 8, 9] (kX7_isRow l D ct  p1 _ hw) (va_cwS 1 X.1.2.2.2.2 gX7_swap_X7_isRow rfl rfl rfl (by decide +kernel) ⟨Nat.le_of_ble_eq_true rfl, Nat.le_of_ble_eq_true rfl⟩) dX7_swap_1 rfl rfl (Nat.le_of_ble_eq_true rfl) ⟨Nat.le_of_ble_eq_true rfl, Nat.le_of_ble_eq_true rfl⟩ rfl rfl rfl (by decide) (fun _ => rfl) (fun _ => rfl) (fun _ => rfl) (fun _ => rfl) (fun r1 _ hw => ?_)
  refine g_if_ne X 17 dX7_swap_4 (by decide) (fun c3 => ?_) (fun c3 => ?_)
  · replace hw := hw.1 c3
    refine g_iload_n X 2 dX7_swap_17 rfl rfl ?_
    refine g_if_lt X 35 dX7_swap_18 (by decide) (fun c4 => ?_) (fun c4 => ?_)
    · replace hw := hw.1 c4
      exact hw.elim
    · replace hw := hw.2 c4
      refine g_iload_n X 2 dX7_swap_21 rfl rfl ?_
      refine g_aload_n X 0 dX7_swap_22 rfl rfl ?_
      refine g_get (T := TX7) (C := RX7) (N := 8) (v := .ref (g 1 0)) X 0 0 (fun _ h => (List.mem_cons_of_mem _ (List.mem_append_left _ (List.mem_append_left _ (List.mem_append_left _ (List.mem_append_left _ (List.mem_append_left _ (List.mem_append_right _ h)))))))) (List.mem_of_getElem? (i := 5) rfl) dX7_swap_23 rfl rfl (by decide) rfl rfl ?_
      refine g_iload_n X 1 dX7_swap_26 rfl rfl ?_
      refine g_ciV X [wC ct g kc, wS ct (g 1) v, wV ct g b, wS ct (g 5) (r 0), wS ct (g 6) (r 1), wS ct (g 7) (r 2), wS ct (g 8) (r 3), wS ct (g 9) (r 4), wS ct (g 10) (r 5), wL ct (g 12) y] (fun (_ : Unit) => [wC ct g kc, wS ct (g 1) v, wV ct g b, wS ct (g 5) (r 0), wS ct (g 6) (r 1), wS ct (g 7) (r 2), wS ct (g 8) (r 3), wS ct (g 9) (r 4), wS ct (g 10) (r 5), wL ct (g 12) y]) (fun _ => fl [wC ct g kc, wS ct (g 1) v, wV ct g b, wS ct (g 5) (r 0), wS ct (g 6) (r 1), wS ct (g 7) (r 2), wS ct (g 8) (r 3), wS ct (g 9) (r 4), wS ct (g 10) (r 5), wL ct (g 12) y]) 10 [1] [0, 2, 3, 4, 5, 6, 7, 8, 9] 0 (kX5_sizeOf l D ct (g 1) v p1 _ hw) (cwV 1 X.1.2.2.2.2 gX7_swap_X5_sizeOf rfl rfl rfl (by decide +kernel) ⟨Nat.le_of_ble_eq_true rfl, Nat.le_of_ble_eq_true rfl⟩) dX7_swap_27 rfl rfl (Nat.le_of_ble_eq_true rfl) ⟨Nat.le_of_ble_eq_true rfl, Nat.le_of_ble_eq_true rfl⟩ rfl rfl rfl (by decide) (fun _ => rfl) (fun _ => rfl) (fun _ => rfl) (fun _ => rfl) rfl rfl rfl (fun r5 _ hw => ?_)
      refine g_iconst (v := 1) X rfl dX7_swap_30 ?_
      refine g_isub X dX7_swap_31 ?_
      refine g_icmp_lt X 45 dX7_swap_32 (by decide) (fun c7 => ?_) (fun c7 => ?_)
      · replace hw := hw.1 c7
        refine g_aload_n X 0 dX7_swap_45 rfl rfl ?_
        refine g_get (T := TX7) (C := RX7) (N := 8) (v := .ref (g 4 0)) X 0 3 (fun _ h => (List.mem_cons_of_mem _ (List.mem_append_left _ (List.mem_append_left _ (List.mem_append_left _ (List.mem_append_left _ (List.mem_append_left _ (List.mem_append_right _ h)))))))) (List.mem_of_getElem? (i := 6) rfl) dX7_swap_46 rfl rfl (by decide) rfl rfl ?_
        refine g_aload_n X 0 dX7_swap_49 rfl rfl ?_
        refine g_get (T := TX7) (C := RX7) (N := 8) (v := .ref (g 1 0)) X 0 0 (fun _ h => (List.mem_cons_of_mem _ (List.mem_append_left _ (List.mem_append_left _ (List.mem_append_left _ (List.mem_append_left _ (List.mem_append_left _ (List.mem_append_right _ h)))))))) (List.mem_of_getElem? (i := 5) rfl) dX7_swap_50 rfl rfl (by decide) rfl rfl ?_
        refine g_cvV X [wC ct g kc, wS ct (g 1) v, wV ct g b, wS ct (g 5) (r 0), wS ct (g 6) (r 1), wS ct (g 7) (r 2), wS ct (g 8) (r 3), wS ct (g 9) (r 4), wS ct (g 10) (r 5), wL ct (g 12) y] (fun (u8 : Mem × (Nat → Mem)) => [wC ct g kc, wS ct (g 1) v, wV ct g u8.1, wS ct (g 5) (u8.2 0), wS ct (g 6) (u8.2 1), wS ct (g 7) (u8.2 2), wS ct (g 8) (u8.2 3), wS ct (g 9) (u8.2 4), wS ct (g 10) (u8.2 5), wL ct (g 12) y]) (fun (u8 : Mem × (Nat → Mem)) => fl [wC ct g kc, wS ct (g 1) v, wV ct g u8.1, wS ct (g 5) (u8.2 0), wS ct (g 6) (u8.2 1), wS ct (g 7) (u8.2 2), wS ct (g 8) (u8.2 3), wS ct (g 9) (u8.2 4), wS ct (g 10) (u8.2 5), wL ct (g 12) y]) 10 [2, 3, 4, 5, 6, 7, 8, 1] [0, 9] 0 (kX4_push l D ct g (g 1) b r v _ hw) (cwV 1 X.1.2.2.2.2 gX7_swap_X4_push rfl rfl rfl (by decide +kernel) ⟨Nat.le_of_ble_eq_true rfl, Nat.le_of_ble_eq_true rfl⟩) dX7_swap_53 rfl rfl (Nat.le_of_ble_eq_true rfl) ⟨Nat.le_of_ble_eq_true rfl, Nat.le_of_ble_eq_true rfl⟩ rfl rfl rfl (by decide) (fun _ => rfl) (fun _ => rfl) (fun _ => rfl) (fun _ => rfl) rfl rfl rfl (fun u8 hw => ?_)
        obtain ⟨b9, hb9⟩ : ∃ z : Mem, z = u8.1 := ⟨_, rfl⟩
        rw [← hb9] at hw
        rw [← hb9]
        obtain ⟨r10, hr10⟩ : ∃ z : Nat → Mem, z = u8.2 := ⟨_, rfl⟩
        rw [← hr10] at hw
        rw [← hr10]
        refine g_aload_n X 0 dX7_swap_56 rfl rfl ?_
        refine g_ciV X [wC ct g kc, wS ct (g 1) v, wV ct g b9, wS ct (g 5) (r10 0), wS ct (g 6) (r10 1), wS ct (g 7) (r10 2), wS ct (g 8) (r10 3), wS ct (g 9) (r10 4), wS ct (g 10) (r10 5), wL ct (g 12) y] (fun (u12 : Mem) => [wC ct g kc, wS ct (g 1) v, wV ct g b9, wS ct (g 5) (r10 0), wS ct (g 6) (r10 1), wS ct (g 7) (r10 2), wS ct (g 8) (r10 3), wS ct (g 9) (r10 4), wS ct (g 10) (r10 5), wL ct (g 12) u12]) (fun (u12 : Mem) => fl [wC ct g kc, wS ct (g 1) v, wV ct g b9, wS ct (g 5) (r10 0), wS ct (g 6) (r10 1), wS ct (g 7) (r10 2), wS ct (g 8) (r10 3), wS ct (g 9) (r10 4), wS ct (g 10) (r10 5), wL ct (g 12) u12]) 10 [0, 1, 9] [2, 3, 4, 5, 6, 7, 8] 0 (kX7_allCrossings l D ct g kc v y _ hw) (cwV 0 X.1.2.2.2.2 gX7_swap_X7_allCrossings rfl rfl rfl (by decide +kernel) ⟨Nat.le_of_ble_eq_true rfl, Nat.le_of_ble_eq_true rfl⟩) dX7_swap_57 rfl rfl (Nat.le_of_ble_eq_true rfl) ⟨Nat.le_of_ble_eq_true rfl, Nat.le_of_ble_eq_true rfl⟩ rfl rfl rfl (by decide) (fun _ => rfl) (fun _ => rfl) (fun _ => rfl) (fun _ => rfl) rfl rfl rfl (fun r11 u12 hw => ?_)
        obtain ⟨y13, hy13⟩ : ∃ z : Mem, z = u12 := ⟨_, rfl⟩
        rw [← hy13] at hw
        rw [← hy13]
        refine g_istore_n X [(3, .int r11), (0, .ref (g 0 0)), (1, .int p1), (2, .int p2)] dX7_swap_60 rfl (by decide) rfl ?_
        refine g_aload_n X 1 dX7_swap_61 rfl rfl ?_
        refine g_get (T := TX7) (C := RX7) (N := 8) (v := .ref (g 1 0)) X 0 0 (fun _ h => (List.mem_cons_of_mem _ (List.mem_append_left _ (List.mem_append_left _ (List.mem_append_left _ (List.mem_append_left _ (List.mem_append_left _ (List.mem_append_right _ h)))))))) (List.mem_of_getElem? (i := 5) rfl) dX7_swap_62 rfl rfl (by decide) rfl rfl ?_
        refine g_iload_n X 2 dX7_swap_65 rfl rfl ?_
        refine g_iload_n X 3 dX7_swap_66 rfl rfl ?_
        refine g_cvV X [wC ct g kc, wS ct (g 1) v, wV ct g b9, wS ct (g 5) (r10 0), wS ct (g 6) (r10 1), wS ct (g 7) (r10 2), wS ct (g 8) (r10 3), wS ct (g 9) (r10 4), wS ct (g 10) (r10 5), wL ct (g 12) y13] (fun (u14 : Mem) => [wC ct g kc, wS ct (g 1) u14, wV ct g b9, wS ct (g 5) (r10 0), wS ct (g 6) (r10 1), wS ct (g 7) (r10 2), wS ct (g 8) (r10 3), wS ct (g 9) (r10 4), wS ct (g 10) (r10 5), wL ct (g 12) y13]) (fun (u14 : Mem) => fl [wC ct g kc, wS ct (g 1) u14, wV ct g b9, wS ct (g 5) (r10 0), wS ct (g 6) (r10 1), wS ct (g 7) (r10 2), wS ct (g 8) (r10 3), wS ct (g 9) (r10 4), wS ct (g 10) (r10 5), wL ct (g 12) y13]) 10 [1] [0, 2, 3, 4, 5, 6, 7, 8, 9] 0 (kX5_exchange l D ct (g 1) v p1 p2 _ hw) (cwV 2 X.1.2.2.2.2 gX7_swap_X5_exchange rfl rfl rfl (by decide +kernel) ⟨Nat.le_of_ble_eq_true rfl, Nat.le_of_ble_eq_true rfl⟩) dX7_swap_67 rfl rfl (Nat.le_of_ble_eq_true rfl) ⟨Nat.le_of_ble_eq_true rfl, Nat.le_of_ble_eq_true rfl⟩ rfl rfl rfl (by decide) (fun _ => rfl) (fun _ => rfl) (fun _ => rfl) (fun _ => rfl) rfl rfl rfl (fun u14 hw => ?_)
        obtain ⟨v15, hv15⟩ : ∃ z : Mem, z = u14 := ⟨_, rfl⟩
        rw [← hv15] at hw
        rw [← hv15]
        refine g_aload_n X 1 dX7_swap_70 rfl rfl ?_
        refine g_ciV X [wC ct g kc, wS ct (g 1) v15, wV ct g b9, wS ct (g 5) (r10 0), wS ct (g 6) (r10 1), wS ct (g 7) (r10 2), wS ct (g 8) (r10 3), wS ct (g 9) (r10 4), wS ct (g 10) (r10 5), wL ct (g 12) y13] (fun (u17 : Mem) => [wC ct g kc, wS ct (g 1) v15, wV ct g b9, wS ct (g 5) (r10 0), wS ct (g 6) (r10 1), wS ct (g 7) (r10 2), wS ct (g 8) (r10 3), wS ct (g 9) (r10 4), wS ct (g 10) (r10 5), wL ct (g 12) u17]) (fun (u17 : Mem) => fl [wC ct g kc, wS ct (g 1) v15, wV ct g b9, wS ct (g 5) (r10 0), wS ct (g 6) (r10 1), wS ct (g 7) (r10 2), wS ct (g 8) (r10 3), wS ct (g 9) (r10 4), wS ct (g 10) (r10 5), wL ct (g 12) u17]) 10 [0, 1, 9] [2, 3, 4, 5, 6, 7, 8] 0 (kX7_allCrossings l D ct g kc v15 y13 _ hw) (cwV 0 X.1.2.2.2.2 gX7_swap_X7_allCrossings rfl rfl rfl (by decide +kernel) ⟨Nat.le_of_ble_eq_true rfl, Nat.le_of_ble_eq_true rfl⟩) dX7_swap_71 rfl rfl (Nat.le_of_ble_eq_true rfl) ⟨Nat.le_of_ble_eq_true rfl, Nat.le_of_ble_eq_true rfl⟩ rfl rfl rfl (by decide) (fun _ => rfl) (fun _ => rfl) (fun _ => rfl) (fun _ => rfl) rfl rfl rfl (fun r16 u17 hw => ?_)
        obtain ⟨y18, hy18⟩ : ∃ z : Mem, z = u17 := ⟨_, rfl⟩
        rw [← hy18] at hw
        rw [← hy18]
        refine g_iload_n X 0 dX7_swap_74 rfl rfl ?_
        refine g_isub X dX7_swap_75 ?_
        refine g_bipush (v := 100) X rfl dX7_swap_76 ?_
        refine g_iadd X dX7_swap_78 ?_
        exact g_iret X (v15, b9, r10, y18) hw rfl (Nat.le_of_ble_eq_true rfl) (Nat.le_of_ble_eq_true rfl) dX7_swap_79
      · replace hw := hw.2 c7
        exact hw.elim
  · replace hw := hw.2 c3
    exact hw.elim

abbrev rmX7_byParents_nt : Room := { frames := 5, cells := 0, slots := 0, locals := 110 }

abbrev GX7_byParents_nt (l : Launch) (D : va_G) (ct : Nat → ClassId) (g : Nat → Nat → Nat) (kc : Mem) (post : Int32 → Mem → Mem → (Nat → Mem) → Mem → Prop) (p : Program) (e : Env) (s : State) (m : MethodId) (args : Array Value) (below : List Frame) (meth : Method) (c : Code) (A : Nat → Prop) (w9 : va_W) (lv : List (Nat × Value)) (pc : Nat) (st : List Value) : Prop :=
  GG p l e rmX7_byParents_nt s m args below meth c D A s.heap 2 (MQ below (va_Qi (fun r (u9 : Mem × Mem × (Nat → Mem) × Mem) => post r u9.1 u9.2.1 u9.2.2.1 u9.2.2.2) (fun u9 t9 => Af D (tyz ct) A ((fun u9 => fl [wC ct g kc, wS ct (g 1) u9.1, wV ct g u9.2.1, wS ct (g 5) (u9.2.2.1 0), wS ct (g 6) (u9.2.2.1 1), wS ct (g 7) (u9.2.2.1 2), wS ct (g 8) (u9.2.2.1 3), wS ct (g 9) (u9.2.2.1 4), wS ct (g 10) (u9.2.2.1 5), wO ct (g 13) u9.2.2.2]) u9) t9) A)  args s 0 0 A) w9 0 0 lv pc st

set_option maxHeartbeats 4000000 in
set_option maxRecDepth 20000 in
theorem kX7_byParents_nt (l : Launch) (D : va_G) (ct : Nat → ClassId) (g : Nat → Nat → Nat) (kc : Mem) (v : Mem) (b : Mem) (r : Nat → Mem) (o : Mem) (p1 : Int32) (post : Int32 → Mem → Mem → (Nat → Mem) → Mem → Prop) (hw : PX7_byParents_nt kc v b r o p1 post) : Ci (S := Mem × Mem × (Nat → Mem) × Mem) l yX7_byParents wsX7_byParents rmX7_byParents_nt D (tyz ct) [.ref (g 0 0), .int p1] (fl [wC ct g kc, wS ct (g 1) v, wV ct g b, wS ct (g 5) (r 0), wS ct (g 6) (r 1), wS ct (g 7) (r 2), wS ct (g 8) (r 3), wS ct (g 9) (r 4), wS ct (g 10) (r 5), wO ct (g 13) o]) (fun r (u9 : Mem × Mem × (Nat → Mem) × Mem) => post r u9.1 u9.2.1 u9.2.2.1 u9.2.2.2) (fun u9 => fl [wC ct g kc, wS ct (g 1) u9.1, wV ct g u9.2.1, wS ct (g 5) (u9.2.2.1 0), wS ct (g 6) (u9.2.2.1 1), wS ct (g 7) (u9.2.2.1 2), wS ct (g 8) (u9.2.2.1 3), wS ct (g 9) (u9.2.2.1 4), wS ct (g 10) (u9.2.2.1 5), wO ct (g 13) u9.2.2.2]) 0 0 := by
  intro sz
  refine g_of (own := RX7) (by decide) rfl rfl (Nat.le_of_ble_eq_true rfl) [(0, .ref (g 0 0)), (1, .int p1)] rfl (fun p e s m args below meth c hsz X => ?_)
  subst hsz
  unfold PX7_byParents_nt at hw
  refine g_iload_n X 1 dX7_byParents_0 rfl rfl ?_
  refine g_ciS X [wC ct g kc, wS ct (g 1) v, wV ct g b, wS ct (g 5) (r 0), wS ct (g 6) (r 1), wS ct (g 7) (r 2), wS ct (g 8) (r 3), wS ct (g 9) (r 4), wS ct (g 10) (r 5), wO ct (g 13) o] (fun (_ : Unit) => [wC ct g kc, wS ct (g 1) v, wV ct g b, wS ct (g 5) (r 0), wS ct (g 6) (r 1), wS ct (g 7) (r 2), wS ct (g 8) (r 3), wS ct (g 9) (r 4), wS ct (g 10) (r 5), wO ct (g 13) o]) (fun _ => fl [wC ct g kc, wS ct (g 1) v, wV ct g b, wS ct (g 5) (r 0), wS ct (g 6) (r 1), wS ct (g 7) (r 2), wS ct (g 8) (r 3), wS ct (g 9) (r 4), wS ct (g 10) (r 5), wO ct (g 13) o]) 10 [] [0, 1, 2, 3, 4, 5, 6, 7, 8, 9] (kX7_isRow l D ct  p1 _ hw) (va_cwS 1 X.1.2.2.2.2 gX7_byParents_X7_isRow rfl rfl rfl (by decide +kernel) ⟨Nat.le_of_ble_eq_true rfl, Nat.le_of_ble_eq_true rfl⟩) dX7_byParents_1 rfl rfl (Nat.le_of_ble_eq_true rfl) ⟨Nat.le_of_ble_eq_true rfl, Nat.le_of_ble_eq_true rfl⟩ rfl rfl rfl (by decide) (fun _ => rfl) (fun _ => rfl) (fun _ => rfl) (fun _ => rfl) (fun r1 _ hw => ?_)
  refine g_if_ne X 17 dX7_byParents_4 (by decide) (fun c3 => ?_) (fun c3 => ?_)
  · replace hw := hw.1 c3
    refine g_aload_n X 0 dX7_byParents_17 rfl rfl ?_
    refine g_get (T := TX7) (C := RX7) (N := 8) (v := .ref (g 4 0)) X 0 3 (fun _ h => (List.mem_cons_of_mem _ (List.mem_append_left _ (List.mem_append_left _ (List.mem_append_left _ (List.mem_append_left _ (List.mem_append_right _ h))))))) (List.mem_of_getElem? (i := 3) rfl) dX7_byParents_18 rfl rfl (by decide) rfl rfl ?_
    refine g_aload_n X 0 dX7_byParents_21 rfl rfl ?_
    refine g_get (T := TX7) (C := RX7) (N := 8) (v := .ref (g 1 0)) X 0 0 (fun _ h => (List.mem_cons_of_mem _ (List.mem_append_left _ (List.mem_append_left _ (List.mem_append_left _ (List.mem_append_left _ (List.mem_append_right _ h))))))) (List.mem_of_getElem? (i := 4) rfl) dX7_byParents_22 rfl rfl (by decide) rfl rfl ?_
    refine g_cvV X [wC ct g kc, wS ct (g 1) v, wV ct g b, wS ct (g 5) (r 0), wS ct (g 6) (r 1), wS ct (g 7) (r 2), wS ct (g 8) (r 3), wS ct (g 9) (r 4), wS ct (g 10) (r 5), wO ct (g 13) o] (fun (u4 : Mem × (Nat → Mem)) => [wC ct g kc, wS ct (g 1) v, wV ct g u4.1, wS ct (g 5) (u4.2 0), wS ct (g 6) (u4.2 1), wS ct (g 7) (u4.2 2), wS ct (g 8) (u4.2 3), wS ct (g 9) (u4.2 4), wS ct (g 10) (u4.2 5), wO ct (g 13) o]) (fun (u4 : Mem × (Nat → Mem)) => fl [wC ct g kc, wS ct (g 1) v, wV ct g u4.1, wS ct (g 5) (u4.2 0), wS ct (g 6) (u4.2 1), wS ct (g 7) (u4.2 2), wS ct (g 8) (u4.2 3), wS ct (g 9) (u4.2 4), wS ct (g 10) (u4.2 5), wO ct (g 13) o]) 10 [2, 3, 4, 5, 6, 7, 8, 1] [0, 9] 0 (kX4_push l D ct g (g 1) b r v _ hw) (cwV 1 X.1.2.2.2.2 gX7_byParents_X4_push rfl rfl rfl (by decide +kernel) ⟨Nat.le_of_ble_eq_true rfl, Nat.le_of_ble_eq_true rfl⟩) dX7_byParents_25 rfl rfl (Nat.le_of_ble_eq_true rfl) ⟨Nat.le_of_ble_eq_true rfl, Nat.le_of_ble_eq_true rfl⟩ rfl rfl rfl (by decide) (fun _ => rfl) (fun _ => rfl) (fun _ => rfl) (fun _ => rfl) rfl rfl rfl (fun u4 hw => ?_)
    obtain ⟨b5, hb5⟩ : ∃ z : Mem, z = u4.1 := ⟨_, rfl⟩
    rw [← hb5] at hw
    rw [← hb5]
    obtain ⟨r6, hr6⟩ : ∃ z : Nat → Mem, z = u4.2 := ⟨_, rfl⟩
    rw [← hr6] at hw
    rw [← hr6]
    refine g_aload_n X 0 dX7_byParents_28 rfl rfl ?_
    refine g_get (T := TX7) (C := RX7) (N := 8) (v := .ref (g 13 0)) X 0 6 (fun _ h => (List.mem_cons_of_mem _ (List.mem_append_left _ (List.mem_append_left _ (List.mem_append_left _ (List.mem_append_left _ (List.mem_append_right _ h))))))) (List.mem_of_getElem? (i := 5) rfl) dX7_byParents_29 rfl rfl (by decide) rfl rfl ?_
    refine g_aload_n X 0 dX7_byParents_32 rfl rfl ?_
    refine g_get (T := TX7) (C := RX7) (N := 8) (v := .ref (g 1 0)) X 0 0 (fun _ h => (List.mem_cons_of_mem _ (List.mem_append_left _ (List.mem_append_left _ (List.mem_append_left _ (List.mem_append_left _ (List.mem_append_right _ h))))))) (List.mem_of_getElem? (i := 4) rfl) dX7_byParents_33 rfl rfl (by decide) rfl rfl ?_
    refine g_iload_n X 1 dX7_byParents_36 rfl rfl ?_
    refine g_ciV X [wC ct g kc, wS ct (g 1) v, wV ct g b5, wS ct (g 5) (r6 0), wS ct (g 6) (r6 1), wS ct (g 7) (r6 2), wS ct (g 8) (r6 3), wS ct (g 9) (r6 4), wS ct (g 10) (r6 5), wO ct (g 13) o] (fun (u8 : Mem × Mem) => [wC ct g kc, wS ct (g 1) u8.2, wV ct g b5, wS ct (g 5) (r6 0), wS ct (g 6) (r6 1), wS ct (g 7) (r6 2), wS ct (g 8) (r6 3), wS ct (g 9) (r6 4), wS ct (g 10) (r6 5), wO ct (g 13) u8.1]) (fun (u8 : Mem × Mem) => fl [wC ct g kc, wS ct (g 1) u8.2, wV ct g b5, wS ct (g 5) (r6 0), wS ct (g 6) (r6 1), wS ct (g 7) (r6 2), wS ct (g 8) (r6 3), wS ct (g 9) (r6 4), wS ct (g 10) (r6 5), wO ct (g 13) u8.1]) 10 [9, 1] [0, 2, 3, 4, 5, 6, 7, 8] 0 (kX1_lay l D ct (g 13) (g 1) o v p1 _ hw) (cwV 2 X.1.2.2.2.2 gX7_byParents_X1_lay rfl rfl rfl (by decide +kernel) ⟨Nat.le_of_ble_eq_true rfl, Nat.le_of_ble_eq_true rfl⟩) dX7_byParents_37 rfl rfl (Nat.le_of_ble_eq_true rfl) ⟨Nat.le_of_ble_eq_true rfl, Nat.le_of_ble_eq_true rfl⟩ rfl rfl rfl (by decide) (fun _ => rfl) (fun _ => rfl) (fun _ => rfl) (fun _ => rfl) rfl rfl rfl (fun r7 u8 hw => ?_)
    obtain ⟨o9, ho9⟩ : ∃ z : Mem, z = u8.1 := ⟨_, rfl⟩
    rw [← ho9] at hw
    rw [← ho9]
    obtain ⟨v10, hv10⟩ : ∃ z : Mem, z = u8.2 := ⟨_, rfl⟩
    rw [← hv10] at hw
    rw [← hv10]
    exact g_iret X (v10, b5, r6, o9) hw rfl (Nat.le_of_ble_eq_true rfl) (Nat.le_of_ble_eq_true rfl) dX7_byParents_40
  · replace hw := hw.2 c3
    exact hw.elim

abbrev rmX7_untangle_nt : Room := { frames := 6, cells := 0, slots := 0, locals := 131 }

abbrev GX7_untangle_nt (l : Launch) (D : va_G) (ct : Nat → ClassId) (g : Nat → Nat → Nat) (kc : Mem) (post : Int32 → Mem → Mem → (Nat → Mem) → Mem → Prop) (p : Program) (e : Env) (s : State) (m : MethodId) (args : Array Value) (below : List Frame) (meth : Method) (c : Code) (A : Nat → Prop) (w9 : va_W) (lv : List (Nat × Value)) (pc : Nat) (st : List Value) : Prop :=
  GG p l e rmX7_untangle_nt s m args below meth c D A s.heap 3 (MQ below (va_Qi (fun r (u9 : Mem × Mem × (Nat → Mem) × Mem) => post r u9.1 u9.2.1 u9.2.2.1 u9.2.2.2) (fun u9 t9 => Af D (tyz ct) A ((fun u9 => fl [wC ct g kc, wS ct (g 1) u9.1, wV ct g u9.2.1, wS ct (g 5) (u9.2.2.1 0), wS ct (g 6) (u9.2.2.1 1), wS ct (g 7) (u9.2.2.1 2), wS ct (g 8) (u9.2.2.1 3), wS ct (g 9) (u9.2.2.1 4), wS ct (g 10) (u9.2.2.1 5), wR ct (g 14) u9.2.2.2]) u9) t9) A)  args s 0 0 A) w9 0 0 lv pc st

set_option maxHeartbeats 4000000 in
set_option maxRecDepth 20000 in
theorem kX7_untangle_nt (l : Launch) (D : va_G) (ct : Nat → ClassId) (g : Nat → Nat → Nat) (kc : Mem) (v : Mem) (b : Mem) (r : Nat → Mem) (x : Mem) (p1 : Int32) (post : Int32 → Mem → Mem → (Nat → Mem) → Mem → Prop) (hw : PX7_untangle_nt kc v b r x p1 post) : Ci (S := Mem × Mem × (Nat → Mem) × Mem) l yX7_untangle wsX7_untangle rmX7_untangle_nt D (tyz ct) [.ref (g 0 0), .int p1] (fl [wC ct g kc, wS ct (g 1) v, wV ct g b, wS ct (g 5) (r 0), wS ct (g 6) (r 1), wS ct (g 7) (r 2), wS ct (g 8) (r 3), wS ct (g 9) (r 4), wS ct (g 10) (r 5), wR ct (g 14) x]) (fun r (u9 : Mem × Mem × (Nat → Mem) × Mem) => post r u9.1 u9.2.1 u9.2.2.1 u9.2.2.2) (fun u9 => fl [wC ct g kc, wS ct (g 1) u9.1, wV ct g u9.2.1, wS ct (g 5) (u9.2.2.1 0), wS ct (g 6) (u9.2.2.1 1), wS ct (g 7) (u9.2.2.1 2), wS ct (g 8) (u9.2.2.1 3), wS ct (g 9) (u9.2.2.1 4), wS ct (g 10) (u9.2.2.1 5), wR ct (g 14) u9.2.2.2]) 0 0 := by
  intro sz
  refine g_of (own := RX7) (by decide) rfl rfl (Nat.le_of_ble_eq_true rfl) [(0, .ref (g 0 0)), (1, .int p1)] rfl (fun p e s m args below meth c hsz X => ?_)
  subst hsz
  unfold PX7_untangle_nt at hw
  refine g_iload_n X 1 dX7_untangle_0 rfl rfl ?_
  refine g_ciS X [wC ct g kc, wS ct (g 1) v, wV ct g b, wS ct (g 5) (r 0), wS ct (g 6) (r 1), wS ct (g 7) (r 2), wS ct (g 8) (r 3), wS ct (g 9) (r 4), wS ct (g 10) (r 5), wR ct (g 14) x] (fun (_ : Unit) => [wC ct g kc, wS ct (g 1) v, wV ct g b, wS ct (g 5) (r 0), wS ct (g 6) (r 1), wS ct (g 7) (r 2), wS ct (g 8) (r 3), wS ct (g 9) (r 4), wS ct (g 10) (r 5), wR ct (g 14) x]) (fun _ => fl [wC ct g kc, wS ct (g 1) v, wV ct g b, wS ct (g 5) (r 0), wS ct (g 6) (r 1), wS ct (g 7) (r 2), wS ct (g 8) (r 3), wS ct (g 9) (r 4), wS ct (g 10) (r 5), wR ct (g 14) x]) 10 [] [0, 1, 2, 3, 4, 5, 6, 7, 8, 9] (kX7_isRow l D ct  p1 _ hw) (va_cwS 1 X.1.2.2.2.2 gX7_untangle_X7_isRow rfl rfl rfl (by decide +kernel) ⟨Nat.le_of_ble_eq_true rfl, Nat.le_of_ble_eq_true rfl⟩) dX7_untangle_1 rfl rfl (Nat.le_of_ble_eq_true rfl) ⟨Nat.le_of_ble_eq_true rfl, Nat.le_of_ble_eq_true rfl⟩ rfl rfl rfl (by decide) (fun _ => rfl) (fun _ => rfl) (fun _ => rfl) (fun _ => rfl) (fun r1 _ hw => ?_)
  refine g_if_ne X 17 dX7_untangle_4 (by decide) (fun c3 => ?_) (fun c3 => ?_)
  · replace hw := hw.1 c3
    refine g_aload_n X 0 dX7_untangle_17 rfl rfl ?_
    refine g_get (T := TX7) (C := RX7) (N := 8) (v := .ref (g 4 0)) X 0 3 (fun _ h => (List.mem_cons_of_mem _ (List.mem_append_left _ (List.mem_append_left _ (List.mem_append_left _ (List.mem_append_left _ (List.mem_append_right _ h))))))) (List.mem_of_getElem? (i := 3) rfl) dX7_untangle_18 rfl rfl (by decide) rfl rfl ?_
    refine g_aload_n X 0 dX7_untangle_21 rfl rfl ?_
    refine g_get (T := TX7) (C := RX7) (N := 8) (v := .ref (g 1 0)) X 0 0 (fun _ h => (List.mem_cons_of_mem _ (List.mem_append_left _ (List.mem_append_left _ (List.mem_append_left _ (List.mem_append_left _ (List.mem_append_right _ h))))))) (List.mem_of_getElem? (i := 4) rfl) dX7_untangle_22 rfl rfl (by decide) rfl rfl ?_
    refine g_cvV X [wC ct g kc, wS ct (g 1) v, wV ct g b, wS ct (g 5) (r 0), wS ct (g 6) (r 1), wS ct (g 7) (r 2), wS ct (g 8) (r 3), wS ct (g 9) (r 4), wS ct (g 10) (r 5), wR ct (g 14) x] (fun (u4 : Mem × (Nat → Mem)) => [wC ct g kc, wS ct (g 1) v, wV ct g u4.1, wS ct (g 5) (u4.2 0), wS ct (g 6) (u4.2 1), wS ct (g 7) (u4.2 2), wS ct (g 8) (u4.2 3), wS ct (g 9) (u4.2 4), wS ct (g 10) (u4.2 5), wR ct (g 14) x]) (fun (u4 : Mem × (Nat → Mem)) => fl [wC ct g kc, wS ct (g 1) v, wV ct g u4.1, wS ct (g 5) (u4.2 0), wS ct (g 6) (u4.2 1), wS ct (g 7) (u4.2 2), wS ct (g 8) (u4.2 3), wS ct (g 9) (u4.2 4), wS ct (g 10) (u4.2 5), wR ct (g 14) x]) 10 [2, 3, 4, 5, 6, 7, 8, 1] [0, 9] 0 (kX4_push l D ct g (g 1) b r v _ hw) (cwV 1 X.1.2.2.2.2 gX7_untangle_X4_push rfl rfl rfl (by decide +kernel) ⟨Nat.le_of_ble_eq_true rfl, Nat.le_of_ble_eq_true rfl⟩) dX7_untangle_25 rfl rfl (Nat.le_of_ble_eq_true rfl) ⟨Nat.le_of_ble_eq_true rfl, Nat.le_of_ble_eq_true rfl⟩ rfl rfl rfl (by decide) (fun _ => rfl) (fun _ => rfl) (fun _ => rfl) (fun _ => rfl) rfl rfl rfl (fun u4 hw => ?_)
    obtain ⟨b5, hb5⟩ : ∃ z : Mem, z = u4.1 := ⟨_, rfl⟩
    rw [← hb5] at hw
    rw [← hb5]
    obtain ⟨r6, hr6⟩ : ∃ z : Nat → Mem, z = u4.2 := ⟨_, rfl⟩
    rw [← hr6] at hw
    rw [← hr6]
    refine g_aload_n X 0 dX7_untangle_28 rfl rfl ?_
    refine g_get (T := TX7) (C := RX7) (N := 8) (v := .ref (g 14 0)) X 0 7 (fun _ h => (List.mem_cons_of_mem _ (List.mem_append_left _ (List.mem_append_left _ (List.mem_append_left _ (List.mem_append_left _ (List.mem_append_right _ h))))))) (List.mem_of_getElem? (i := 5) rfl) dX7_untangle_29 rfl rfl (by decide) rfl rfl ?_
    refine g_aload_n X 0 dX7_untangle_32 rfl rfl ?_
    refine g_get (T := TX7) (C := RX7) (N := 8) (v := .ref (g 1 0)) X 0 0 (fun _ h => (List.mem_cons_of_mem _ (List.mem_append_left _ (List.mem_append_left _ (List.mem_append_left _ (List.mem_append_left _ (List.mem_append_right _ h))))))) (List.mem_of_getElem? (i := 4) rfl) dX7_untangle_33 rfl rfl (by decide) rfl rfl ?_
    refine g_iload_n X 1 dX7_untangle_36 rfl rfl ?_
    refine g_cvV X [wC ct g kc, wS ct (g 1) v, wV ct g b5, wS ct (g 5) (r6 0), wS ct (g 6) (r6 1), wS ct (g 7) (r6 2), wS ct (g 8) (r6 3), wS ct (g 9) (r6 4), wS ct (g 10) (r6 5), wR ct (g 14) x] (fun (u7 : Mem) => [wC ct g kc, wS ct (g 1) v, wV ct g b5, wS ct (g 5) (r6 0), wS ct (g 6) (r6 1), wS ct (g 7) (r6 2), wS ct (g 8) (r6 3), wS ct (g 9) (r6 4), wS ct (g 10) (r6 5), wR ct (g 14) u7]) (fun (u7 : Mem) => fl [wC ct g kc, wS ct (g 1) v, wV ct g b5, wS ct (g 5) (r6 0), wS ct (g 6) (r6 1), wS ct (g 7) (r6 2), wS ct (g 8) (r6 3), wS ct (g 9) (r6 4), wS ct (g 10) (r6 5), wR ct (g 14) u7]) 10 [9, 1] [0, 2, 3, 4, 5, 6, 7, 8] 0 (kX3_prepare l D ct (g 14) (g 1) x v p1 _ hw) (cwV 2 X.1.2.2.2.2 gX7_untangle_X3_prepare rfl rfl rfl (by decide +kernel) ⟨Nat.le_of_ble_eq_true rfl, Nat.le_of_ble_eq_true rfl⟩) dX7_untangle_37 rfl rfl (Nat.le_of_ble_eq_true rfl) ⟨Nat.le_of_ble_eq_true rfl, Nat.le_of_ble_eq_true rfl⟩ rfl rfl rfl (by decide) (fun _ => rfl) (fun _ => rfl) (fun _ => rfl) (fun _ => rfl) rfl rfl rfl (fun u7 hw => ?_)
    obtain ⟨x8, hx8⟩ : ∃ z : Mem, z = u7 := ⟨_, rfl⟩
    rw [← hx8] at hw
    rw [← hx8]
    refine g_aload_n X 0 dX7_untangle_40 rfl rfl ?_
    refine g_get (T := TX7) (C := RX7) (N := 8) (v := .ref (g 14 0)) X 0 7 (fun _ h => (List.mem_cons_of_mem _ (List.mem_append_left _ (List.mem_append_left _ (List.mem_append_left _ (List.mem_append_left _ (List.mem_append_right _ h))))))) (List.mem_of_getElem? (i := 5) rfl) dX7_untangle_41 rfl rfl (by decide) rfl rfl ?_
    refine g_ciV X [wC ct g kc, wS ct (g 1) v, wV ct g b5, wS ct (g 5) (r6 0), wS ct (g 6) (r6 1), wS ct (g 7) (r6 2), wS ct (g 8) (r6 3), wS ct (g 9) (r6 4), wS ct (g 10) (r6 5), wR ct (g 14) x8] (fun (u10 : Mem) => [wC ct g kc, wS ct (g 1) v, wV ct g b5, wS ct (g 5) (r6 0), wS ct (g 6) (r6 1), wS ct (g 7) (r6 2), wS ct (g 8) (r6 3), wS ct (g 9) (r6 4), wS ct (g 10) (r6 5), wR ct (g 14) u10]) (fun (u10 : Mem) => fl [wC ct g kc, wS ct (g 1) v, wV ct g b5, wS ct (g 5) (r6 0), wS ct (g 6) (r6 1), wS ct (g 7) (r6 2), wS ct (g 8) (r6 3), wS ct (g 9) (r6 4), wS ct (g 10) (r6 5), wR ct (g 14) u10]) 10 [9] [0, 1, 2, 3, 4, 5, 6, 7, 8] 0 (kX3_leastByAllOrders l D ct (g 14) x8 _ hw) (cwV 0 X.1.2.2.2.2 gX7_untangle_X3_leastByAllOrders rfl rfl rfl (by decide +kernel) ⟨Nat.le_of_ble_eq_true rfl, Nat.le_of_ble_eq_true rfl⟩) dX7_untangle_44 rfl rfl (Nat.le_of_ble_eq_true rfl) ⟨Nat.le_of_ble_eq_true rfl, Nat.le_of_ble_eq_true rfl⟩ rfl rfl rfl (by decide) (fun _ => rfl) (fun _ => rfl) (fun _ => rfl) (fun _ => rfl) rfl rfl rfl (fun r9 u10 hw => ?_)
    obtain ⟨x11, hx11⟩ : ∃ z : Mem, z = u10 := ⟨_, rfl⟩
    rw [← hx11] at hw
    rw [← hx11]
    refine g_istore_n X [(2, .int r9), (0, .ref (g 0 0)), (1, .int p1)] dX7_untangle_47 rfl (by decide) rfl ?_
    refine g_aload_n X 1 dX7_untangle_48 rfl rfl ?_
    refine g_get (T := TX7) (C := RX7) (N := 8) (v := .ref (g 14 0)) X 0 7 (fun _ h => (List.mem_cons_of_mem _ (List.mem_append_left _ (List.mem_append_left _ (List.mem_append_left _ (List.mem_append_left _ (List.mem_append_right _ h))))))) (List.mem_of_getElem? (i := 5) rfl) dX7_untangle_49 rfl rfl (by decide) rfl rfl ?_
    refine g_aload_n X 1 dX7_untangle_52 rfl rfl ?_
    refine g_get (T := TX7) (C := RX7) (N := 8) (v := .ref (g 1 0)) X 0 0 (fun _ h => (List.mem_cons_of_mem _ (List.mem_append_left _ (List.mem_append_left _ (List.mem_append_left _ (List.mem_append_left _ (List.mem_append_right _ h))))))) (List.mem_of_getElem? (i := 4) rfl) dX7_untangle_53 rfl rfl (by decide) rfl rfl ?_
    refine g_iload_n X 2 dX7_untangle_56 rfl rfl ?_
    refine g_cvV X [wC ct g kc, wS ct (g 1) v, wV ct g b5, wS ct (g 5) (r6 0), wS ct (g 6) (r6 1), wS ct (g 7) (r6 2), wS ct (g 8) (r6 3), wS ct (g 9) (r6 4), wS ct (g 10) (r6 5), wR ct (g 14) x11] (fun (u12 : Mem) => [wC ct g kc, wS ct (g 1) u12, wV ct g b5, wS ct (g 5) (r6 0), wS ct (g 6) (r6 1), wS ct (g 7) (r6 2), wS ct (g 8) (r6 3), wS ct (g 9) (r6 4), wS ct (g 10) (r6 5), wR ct (g 14) x11]) (fun (u12 : Mem) => fl [wC ct g kc, wS ct (g 1) u12, wV ct g b5, wS ct (g 5) (r6 0), wS ct (g 6) (r6 1), wS ct (g 7) (r6 2), wS ct (g 8) (r6 3), wS ct (g 9) (r6 4), wS ct (g 10) (r6 5), wR ct (g 14) x11]) 10 [9, 1] [0, 2, 3, 4, 5, 6, 7, 8] 0 (kX3_layBest l D ct (g 14) (g 1) x11 v p1 _ hw) (cwV 2 X.1.2.2.2.2 gX7_untangle_X3_layBest rfl rfl rfl (by decide +kernel) ⟨Nat.le_of_ble_eq_true rfl, Nat.le_of_ble_eq_true rfl⟩) dX7_untangle_57 rfl rfl (Nat.le_of_ble_eq_true rfl) ⟨Nat.le_of_ble_eq_true rfl, Nat.le_of_ble_eq_true rfl⟩ rfl rfl rfl (by decide) (fun _ => rfl) (fun _ => rfl) (fun _ => rfl) (fun _ => rfl) rfl rfl rfl (fun u12 hw => ?_)
    obtain ⟨v13, hv13⟩ : ∃ z : Mem, z = u12 := ⟨_, rfl⟩
    rw [← hv13] at hw
    rw [← hv13]
    refine g_iload_n X 0 dX7_untangle_60 rfl rfl ?_
    exact g_iret X (v13, b5, r6, x11) hw rfl (Nat.le_of_ble_eq_true rfl) (Nat.le_of_ble_eq_true rfl) dX7_untangle_61
  · replace hw := hw.2 c3
    exact hw.elim

abbrev rmX7_personOf_nt : Room := { frames := 4, cells := 0, slots := 0, locals := 87 }

abbrev GX7_personOf_nt (l : Launch) (D : va_G) (ct : Nat → ClassId) (g : Nat → Nat → Nat) (kc : Mem) (v : Mem) (post : Int32 → Prop) (p : Program) (e : Env) (s : State) (m : MethodId) (args : Array Value) (below : List Frame) (meth : Method) (c : Code) (A : Nat → Prop) (w9 : va_W) (lv : List (Nat × Value)) (pc : Nat) (st : List Value) : Prop :=
  GG p l e rmX7_personOf_nt s m args below meth c D A s.heap 3 (MQ below (va_Qi (fun r (_ : Unit) => post r) (fun u9 t9 => Af D (tyz ct) A ((fun _ => fl [wC ct g kc, wS ct (g 1) v]) u9) t9) A)  args s 0 0 A) w9 0 0 lv pc st

set_option maxHeartbeats 4000000 in
set_option maxRecDepth 20000 in
theorem kX7_personOf_nt (l : Launch) (D : va_G) (ct : Nat → ClassId) (g : Nat → Nat → Nat) (kc : Mem) (v : Mem) (p1 : Int32) (p2 : Int32) (post : Int32 → Prop) (hw : PX7_personOf_nt kc v p1 p2 post) : Ci (S := Unit) l yX7_personOf wsX7_personOf rmX7_personOf_nt D (tyz ct) [.ref (g 0 0), .int p1, .int p2] (fl [wC ct g kc, wS ct (g 1) v]) (fun r (_ : Unit) => post r) (fun _ => fl [wC ct g kc, wS ct (g 1) v]) 0 0 := by
  intro sz
  refine g_of (own := RX7) (by decide) rfl rfl (Nat.le_of_ble_eq_true rfl) [(0, .ref (g 0 0)), (1, .int p1), (2, .int p2)] rfl (fun p e s m args below meth c hsz X => ?_)
  subst hsz
  unfold PX7_personOf_nt at hw
  refine g_aload_n X 0 dX7_personOf_0 rfl rfl ?_
  refine g_get (T := TX7) (C := RX7) (N := 8) (v := .ref (g 1 0)) X 0 0 (fun _ h => (List.mem_cons_of_mem _ (List.mem_append_left _ (List.mem_append_left _ (List.mem_append_left _ (List.mem_append_right _ h)))))) (List.mem_of_getElem? (i := 5) rfl) dX7_personOf_1 rfl rfl (by decide) rfl rfl ?_
  refine g_iload_n X 1 dX7_personOf_4 rfl rfl ?_
  refine g_ciV X [wC ct g kc, wS ct (g 1) v] (fun (_ : Unit) => [wC ct g kc, wS ct (g 1) v]) (fun _ => fl [wC ct g kc, wS ct (g 1) v]) 2 [1] [0] 0 (kX5_isPerson l D ct (g 1) v p1 _ hw) (cwV 1 X.1.2.2.2.2 gX7_personOf_X5_isPerson rfl rfl rfl (by decide +kernel) ⟨Nat.le_of_ble_eq_true rfl, Nat.le_of_ble_eq_true rfl⟩) dX7_personOf_5 rfl rfl (Nat.le_of_ble_eq_true rfl) ⟨Nat.le_of_ble_eq_true rfl, Nat.le_of_ble_eq_true rfl⟩ rfl rfl rfl (by decide) (fun _ => rfl) (fun _ => rfl) (fun _ => rfl) (fun _ => rfl) rfl rfl rfl (fun r1 _ hw => ?_)
  refine g_if_ne X 21 dX7_personOf_8 (by decide) (fun c3 => ?_) (fun c3 => ?_)
  · replace hw := hw.1 c3
    refine g_iload_n X 2 dX7_personOf_21 rfl rfl ?_
    by_cases c4 : p2 = 0
    · replace hw := hw.1 c4
      refine g_tableIn X 64 dX7_personOf_22 (by rw [c4]; decide) (by rw [c4]; decide) (by rw [c4]; rfl) (by decide) ?_
      refine g_aload_n X 0 dX7_personOf_64 rfl rfl ?_
      refine g_get (T := TX7) (C := RX7) (N := 8) (v := .ref (g 1 0)) X 0 0 (fun _ h => (List.mem_cons_of_mem _ (List.mem_append_left _ (List.mem_append_left _ (List.mem_append_left _ (List.mem_append_right _ h)))))) (List.mem_of_getElem? (i := 5) rfl) dX7_personOf_65 rfl rfl (by decide) rfl rfl ?_
      refine g_iload_n X 1 dX7_personOf_68 rfl rfl ?_
      refine g_ciV X [wC ct g kc, wS ct (g 1) v] (fun (_ : Unit) => [wC ct g kc, wS ct (g 1) v]) (fun _ => fl [wC ct g kc, wS ct (g 1) v]) 2 [1] [0] 0 (kX5_rowOf l D ct (g 1) v p1 _ hw) (cwV 1 X.1.2.2.2.2 gX7_personOf_X5_rowOf rfl rfl rfl (by decide +kernel) ⟨Nat.le_of_ble_eq_true rfl, Nat.le_of_ble_eq_true rfl⟩) dX7_personOf_69 rfl rfl (Nat.le_of_ble_eq_true rfl) ⟨Nat.le_of_ble_eq_true rfl, Nat.le_of_ble_eq_true rfl⟩ rfl rfl rfl (by decide) (fun _ => rfl) (fun _ => rfl) (fun _ => rfl) (fun _ => rfl) rfl rfl rfl (fun r5 _ hw => ?_)
      exact g_iret X () hw rfl (Nat.le_of_ble_eq_true rfl) (Nat.le_of_ble_eq_true rfl) dX7_personOf_72
    · replace hw := hw.2 c4
      by_cases c7 : p2 = 1
      · replace hw := hw.1 c7
        refine g_tableIn X 73 dX7_personOf_22 (by rw [c7]; decide) (by rw [c7]; decide) (by rw [c7]; rfl) (by decide) ?_
        refine g_aload_n X 0 dX7_personOf_73 rfl rfl ?_
        refine g_get (T := TX7) (C := RX7) (N := 8) (v := .ref (g 1 0)) X 0 0 (fun _ h => (List.mem_cons_of_mem _ (List.mem_append_left _ (List.mem_append_left _ (List.mem_append_left _ (List.mem_append_right _ h)))))) (List.mem_of_getElem? (i := 5) rfl) dX7_personOf_74 rfl rfl (by decide) rfl rfl ?_
        refine g_iload_n X 1 dX7_personOf_77 rfl rfl ?_
        refine g_ciV X [wC ct g kc, wS ct (g 1) v] (fun (_ : Unit) => [wC ct g kc, wS ct (g 1) v]) (fun _ => fl [wC ct g kc, wS ct (g 1) v]) 2 [1] [0] 0 (kX5_placeOf l D ct (g 1) v p1 _ hw) (cwV 1 X.1.2.2.2.2 gX7_personOf_X5_placeOf rfl rfl rfl (by decide +kernel) ⟨Nat.le_of_ble_eq_true rfl, Nat.le_of_ble_eq_true rfl⟩) dX7_personOf_78 rfl rfl (Nat.le_of_ble_eq_true rfl) ⟨Nat.le_of_ble_eq_true rfl, Nat.le_of_ble_eq_true rfl⟩ rfl rfl rfl (by decide) (fun _ => rfl) (fun _ => rfl) (fun _ => rfl) (fun _ => rfl) rfl rfl rfl (fun r8 _ hw => ?_)
        exact g_iret X () hw rfl (Nat.le_of_ble_eq_true rfl) (Nat.le_of_ble_eq_true rfl) dX7_personOf_81
      · replace hw := hw.2 c7
        by_cases c10 : p2 = 2
        · replace hw := hw.1 c10
          refine g_tableIn X 82 dX7_personOf_22 (by rw [c10]; decide) (by rw [c10]; decide) (by rw [c10]; rfl) (by decide) ?_
          refine g_aload_n X 0 dX7_personOf_82 rfl rfl ?_
          refine g_get (T := TX7) (C := RX7) (N := 8) (v := .ref (g 1 0)) X 0 0 (fun _ h => (List.mem_cons_of_mem _ (List.mem_append_left _ (List.mem_append_left _ (List.mem_append_left _ (List.mem_append_right _ h)))))) (List.mem_of_getElem? (i := 5) rfl) dX7_personOf_83 rfl rfl (by decide) rfl rfl ?_
          refine g_iload_n X 1 dX7_personOf_86 rfl rfl ?_
          refine g_ciV X [wC ct g kc, wS ct (g 1) v] (fun (_ : Unit) => [wC ct g kc, wS ct (g 1) v]) (fun _ => fl [wC ct g kc, wS ct (g 1) v]) 2 [1] [0] 0 (kX5_parentsOf l D ct (g 1) v p1 _ hw) (cwV 1 X.1.2.2.2.2 gX7_personOf_X5_parentsOf rfl rfl rfl (by decide +kernel) ⟨Nat.le_of_ble_eq_true rfl, Nat.le_of_ble_eq_true rfl⟩) dX7_personOf_87 rfl rfl (Nat.le_of_ble_eq_true rfl) ⟨Nat.le_of_ble_eq_true rfl, Nat.le_of_ble_eq_true rfl⟩ rfl rfl rfl (by decide) (fun _ => rfl) (fun _ => rfl) (fun _ => rfl) (fun _ => rfl) rfl rfl rfl (fun r11 _ hw => ?_)
          exact g_iret X () hw rfl (Nat.le_of_ble_eq_true rfl) (Nat.le_of_ble_eq_true rfl) dX7_personOf_90
        · replace hw := hw.2 c10
          by_cases c13 : p2 = 3
          · replace hw := hw.1 c13
            refine g_tableIn X 91 dX7_personOf_22 (by rw [c13]; decide) (by rw [c13]; decide) (by rw [c13]; rfl) (by decide) ?_
            refine g_aload_n X 0 dX7_personOf_91 rfl rfl ?_
            refine g_get (T := TX7) (C := RX7) (N := 8) (v := .ref (g 1 0)) X 0 0 (fun _ h => (List.mem_cons_of_mem _ (List.mem_append_left _ (List.mem_append_left _ (List.mem_append_left _ (List.mem_append_right _ h)))))) (List.mem_of_getElem? (i := 5) rfl) dX7_personOf_92 rfl rfl (by decide) rfl rfl ?_
            refine g_iload_n X 1 dX7_personOf_95 rfl rfl ?_
            refine g_ciV X [wC ct g kc, wS ct (g 1) v] (fun (_ : Unit) => [wC ct g kc, wS ct (g 1) v]) (fun _ => fl [wC ct g kc, wS ct (g 1) v]) 2 [1] [0] 0 (kX5_couplesWith l D ct (g 1) v p1 _ hw) (cwV 1 X.1.2.2.2.2 gX7_personOf_X5_couplesWith rfl rfl rfl (by decide +kernel) ⟨Nat.le_of_ble_eq_true rfl, Nat.le_of_ble_eq_true rfl⟩) dX7_personOf_96 rfl rfl (Nat.le_of_ble_eq_true rfl) ⟨Nat.le_of_ble_eq_true rfl, Nat.le_of_ble_eq_true rfl⟩ rfl rfl rfl (by decide) (fun _ => rfl) (fun _ => rfl) (fun _ => rfl) (fun _ => rfl) rfl rfl rfl (fun r14 _ hw => ?_)
            exact g_iret X () hw rfl (Nat.le_of_ble_eq_true rfl) (Nat.le_of_ble_eq_true rfl) dX7_personOf_99
          · replace hw := hw.2 c13
            by_cases c16 : p2 = 4
            · replace hw := hw.1 c16
              refine g_tableIn X 100 dX7_personOf_22 (by rw [c16]; decide) (by rw [c16]; decide) (by rw [c16]; rfl) (by decide) ?_
              refine g_aload_n X 0 dX7_personOf_100 rfl rfl ?_
              refine g_get (T := TX7) (C := RX7) (N := 8) (v := .ref (g 1 0)) X 0 0 (fun _ h => (List.mem_cons_of_mem _ (List.mem_append_left _ (List.mem_append_left _ (List.mem_append_left _ (List.mem_append_right _ h)))))) (List.mem_of_getElem? (i := 5) rfl) dX7_personOf_101 rfl rfl (by decide) rfl rfl ?_
              refine g_iload_n X 1 dX7_personOf_104 rfl rfl ?_
              refine g_ciV X [wC ct g kc, wS ct (g 1) v] (fun (_ : Unit) => [wC ct g kc, wS ct (g 1) v]) (fun _ => fl [wC ct g kc, wS ct (g 1) v]) 2 [1] [0] 0 (kX5_childrenWith l D ct (g 1) v p1 _ hw) (cwV 1 X.1.2.2.2.2 gX7_personOf_X5_childrenWith rfl rfl rfl (by decide +kernel) ⟨Nat.le_of_ble_eq_true rfl, Nat.le_of_ble_eq_true rfl⟩) dX7_personOf_105 rfl rfl (Nat.le_of_ble_eq_true rfl) ⟨Nat.le_of_ble_eq_true rfl, Nat.le_of_ble_eq_true rfl⟩ rfl rfl rfl (by decide) (fun _ => rfl) (fun _ => rfl) (fun _ => rfl) (fun _ => rfl) rfl rfl rfl (fun r17 _ hw => ?_)
              exact g_iret X () hw rfl (Nat.le_of_ble_eq_true rfl) (Nat.le_of_ble_eq_true rfl) dX7_personOf_108
            · replace hw := hw.2 c16
              by_cases c19 : p2 = 5
              · replace hw := hw.1 c19
                refine g_tableIn X 109 dX7_personOf_22 (by rw [c19]; decide) (by rw [c19]; decide) (by rw [c19]; rfl) (by decide) ?_
                refine g_aload_n X 0 dX7_personOf_109 rfl rfl ?_
                refine g_get (T := TX7) (C := RX7) (N := 8) (v := .ref (g 1 0)) X 0 0 (fun _ h => (List.mem_cons_of_mem _ (List.mem_append_left _ (List.mem_append_left _ (List.mem_append_left _ (List.mem_append_right _ h)))))) (List.mem_of_getElem? (i := 5) rfl) dX7_personOf_110 rfl rfl (by decide) rfl rfl ?_
                refine g_iload_n X 1 dX7_personOf_113 rfl rfl ?_
                refine g_ciS X [wC ct g kc, wS ct (g 1) v] (fun (_ : Unit) => [wC ct g kc, wS ct (g 1) v]) (fun _ => fl [wC ct g kc, wS ct (g 1) v]) 2 [1] [0] (kX0_descendants l D ct (g 1) v p1 _ hw) (va_cwS 2 X.1.2.2.2.2 gX7_personOf_X0_descendants rfl rfl rfl (by decide +kernel) ⟨Nat.le_of_ble_eq_true rfl, Nat.le_of_ble_eq_true rfl⟩) dX7_personOf_114 rfl rfl (Nat.le_of_ble_eq_true rfl) ⟨Nat.le_of_ble_eq_true rfl, Nat.le_of_ble_eq_true rfl⟩ rfl rfl rfl (by decide) (fun _ => rfl) (fun _ => rfl) (fun _ => rfl) (fun _ => rfl) (fun r20 _ hw => ?_)
                refine g_ciS X [wC ct g kc, wS ct (g 1) v] (fun (_ : Unit) => [wC ct g kc, wS ct (g 1) v]) (fun _ => fl [wC ct g kc, wS ct (g 1) v]) 2 [] [0, 1] (kJ6_bitCount_0f7a4 l D ct  r20 _ hw) (va_cwS 1 X.1.2.2.2.2 gX7_personOf_J6_bitCount_0f7a4 rfl rfl rfl (by decide +kernel) ⟨Nat.le_of_ble_eq_true rfl, Nat.le_of_ble_eq_true rfl⟩) dX7_personOf_117 rfl rfl (Nat.le_of_ble_eq_true rfl) ⟨Nat.le_of_ble_eq_true rfl, Nat.le_of_ble_eq_true rfl⟩ rfl rfl rfl (by decide) (fun _ => rfl) (fun _ => rfl) (fun _ => rfl) (fun _ => rfl) (fun r22 _ hw => ?_)
                exact g_iret X () hw rfl (Nat.le_of_ble_eq_true rfl) (Nat.le_of_ble_eq_true rfl) dX7_personOf_120
              · replace hw := hw.2 c19
                by_cases c24 : p2 = 6
                · replace hw := hw.1 c24
                  refine g_tableIn X 121 dX7_personOf_22 (by rw [c24]; decide) (by rw [c24]; decide) (by rw [c24]; rfl) (by decide) ?_
                  refine g_aload_n X 0 dX7_personOf_121 rfl rfl ?_
                  refine g_get (T := TX7) (C := RX7) (N := 8) (v := .ref (g 1 0)) X 0 0 (fun _ h => (List.mem_cons_of_mem _ (List.mem_append_left _ (List.mem_append_left _ (List.mem_append_left _ (List.mem_append_right _ h)))))) (List.mem_of_getElem? (i := 5) rfl) dX7_personOf_122 rfl rfl (by decide) rfl rfl ?_
                  refine g_iload_n X 1 dX7_personOf_125 rfl rfl ?_
                  refine g_ciS X [wC ct g kc, wS ct (g 1) v] (fun (_ : Unit) => [wC ct g kc, wS ct (g 1) v]) (fun _ => fl [wC ct g kc, wS ct (g 1) v]) 2 [1] [0] (kX0_ancestors l D ct (g 1) v p1 _ hw) (va_cwS 2 X.1.2.2.2.2 gX7_personOf_X0_ancestors rfl rfl rfl (by decide +kernel) ⟨Nat.le_of_ble_eq_true rfl, Nat.le_of_ble_eq_true rfl⟩) dX7_personOf_126 rfl rfl (Nat.le_of_ble_eq_true rfl) ⟨Nat.le_of_ble_eq_true rfl, Nat.le_of_ble_eq_true rfl⟩ rfl rfl rfl (by decide) (fun _ => rfl) (fun _ => rfl) (fun _ => rfl) (fun _ => rfl) (fun r25 _ hw => ?_)
                  refine g_ciS X [wC ct g kc, wS ct (g 1) v] (fun (_ : Unit) => [wC ct g kc, wS ct (g 1) v]) (fun _ => fl [wC ct g kc, wS ct (g 1) v]) 2 [] [0, 1] (kJ6_bitCount_0f7a4 l D ct  r25 _ hw) (va_cwS 1 X.1.2.2.2.2 gX7_personOf_J6_bitCount_0f7a4 rfl rfl rfl (by decide +kernel) ⟨Nat.le_of_ble_eq_true rfl, Nat.le_of_ble_eq_true rfl⟩) dX7_personOf_129 rfl rfl (Nat.le_of_ble_eq_true rfl) ⟨Nat.le_of_ble_eq_true rfl, Nat.le_of_ble_eq_true rfl⟩ rfl rfl rfl (by decide) (fun _ => rfl) (fun _ => rfl) (fun _ => rfl) (fun _ => rfl) (fun r27 _ hw => ?_)
                  exact g_iret X () hw rfl (Nat.le_of_ble_eq_true rfl) (Nat.le_of_ble_eq_true rfl) dX7_personOf_132
                · replace hw := hw.2 c24
                  refine g_tableOut X 133 dX7_personOf_22 (by have tc4 := lv_neT c4 (show (0 : Int32).toInt = 0 from rfl); have tc7 := lv_neT c7 (show (1 : Int32).toInt = 1 from rfl); have tc10 := lv_neT c10 (show (2 : Int32).toInt = 2 from rfl); have tc13 := lv_neT c13 (show (3 : Int32).toInt = 3 from rfl); have tc16 := lv_neT c16 (show (4 : Int32).toInt = 4 from rfl); have tc19 := lv_neT c19 (show (5 : Int32).toInt = 5 from rfl); have tc24 := lv_neT c24 (show (6 : Int32).toInt = 6 from rfl); omega) (by decide) ?_
                  exact hw.elim
  · replace hw := hw.2 c3
    exact hw.elim

abbrev rmX7_coupleOf_nt : Room := { frames := 5, cells := 0, slots := 0, locals := 108 }

abbrev GX7_coupleOf_nt (l : Launch) (D : va_G) (ct : Nat → ClassId) (g : Nat → Nat → Nat) (kc : Mem) (v : Mem) (post : Int32 → Prop) (p : Program) (e : Env) (s : State) (m : MethodId) (args : Array Value) (below : List Frame) (meth : Method) (c : Code) (A : Nat → Prop) (w9 : va_W) (lv : List (Nat × Value)) (pc : Nat) (st : List Value) : Prop :=
  GG p l e rmX7_coupleOf_nt s m args below meth c D A s.heap 3 (MQ below (va_Qi (fun r (_ : Unit) => post r) (fun u9 t9 => Af D (tyz ct) A ((fun _ => fl [wC ct g kc, wS ct (g 1) v]) u9) t9) A)  args s 0 0 A) w9 0 0 lv pc st

set_option maxHeartbeats 4000000 in
set_option maxRecDepth 20000 in
theorem kX7_coupleOf_nt (l : Launch) (D : va_G) (ct : Nat → ClassId) (g : Nat → Nat → Nat) (kc : Mem) (v : Mem) (p1 : Int32) (p2 : Int32) (post : Int32 → Prop) (hw : PX7_coupleOf_nt kc v p1 p2 post) : Ci (S := Unit) l yX7_coupleOf wsX7_coupleOf rmX7_coupleOf_nt D (tyz ct) [.ref (g 0 0), .int p1, .int p2] (fl [wC ct g kc, wS ct (g 1) v]) (fun r (_ : Unit) => post r) (fun _ => fl [wC ct g kc, wS ct (g 1) v]) 0 0 := by
  intro sz
  refine g_of (own := RX7) (by decide) rfl rfl (Nat.le_of_ble_eq_true rfl) [(0, .ref (g 0 0)), (1, .int p1), (2, .int p2)] rfl (fun p e s m args below meth c hsz X => ?_)
  subst hsz
  unfold PX7_coupleOf_nt at hw
  refine g_aload_n X 0 dX7_coupleOf_0 rfl rfl ?_
  refine g_get (T := TX7) (C := RX7) (N := 8) (v := .ref (g 1 0)) X 0 0 (fun _ h => (List.mem_cons_of_mem _ (List.mem_append_left _ (List.mem_append_left _ (List.mem_append_left _ (List.mem_append_right _ h)))))) (List.mem_of_getElem? (i := 5) rfl) dX7_coupleOf_1 rfl rfl (by decide) rfl rfl ?_
  refine g_iload_n X 1 dX7_coupleOf_4 rfl rfl ?_
  refine g_ciV X [wC ct g kc, wS ct (g 1) v] (fun (_ : Unit) => [wC ct g kc, wS ct (g 1) v]) (fun _ => fl [wC ct g kc, wS ct (g 1) v]) 2 [1] [0] 0 (kX5_isCouple l D ct (g 1) v p1 _ hw) (cwV 1 X.1.2.2.2.2 gX7_coupleOf_X5_isCouple rfl rfl rfl (by decide +kernel) ⟨Nat.le_of_ble_eq_true rfl, Nat.le_of_ble_eq_true rfl⟩) dX7_coupleOf_5 rfl rfl (Nat.le_of_ble_eq_true rfl) ⟨Nat.le_of_ble_eq_true rfl, Nat.le_of_ble_eq_true rfl⟩ rfl rfl rfl (by decide) (fun _ => rfl) (fun _ => rfl) (fun _ => rfl) (fun _ => rfl) rfl rfl rfl (fun r1 _ hw => ?_)
  refine g_if_ne X 21 dX7_coupleOf_8 (by decide) (fun c3 => ?_) (fun c3 => ?_)
  · replace hw := hw.1 c3
    refine g_iload_n X 2 dX7_coupleOf_21 rfl rfl ?_
    by_cases c4 : p2 = 0
    · replace hw := hw.1 c4
      refine g_tableIn X 60 dX7_coupleOf_22 (by rw [c4]; decide) (by rw [c4]; decide) (by rw [c4]; rfl) (by decide) ?_
      refine g_aload_n X 0 dX7_coupleOf_60 rfl rfl ?_
      refine g_get (T := TX7) (C := RX7) (N := 8) (v := .ref (g 1 0)) X 0 0 (fun _ h => (List.mem_cons_of_mem _ (List.mem_append_left _ (List.mem_append_left _ (List.mem_append_left _ (List.mem_append_right _ h)))))) (List.mem_of_getElem? (i := 5) rfl) dX7_coupleOf_61 rfl rfl (by decide) rfl rfl ?_
      refine g_iload_n X 1 dX7_coupleOf_64 rfl rfl ?_
      refine g_ciV X [wC ct g kc, wS ct (g 1) v] (fun (_ : Unit) => [wC ct g kc, wS ct (g 1) v]) (fun _ => fl [wC ct g kc, wS ct (g 1) v]) 2 [1] [0] 0 (kX5_lesserOf l D ct (g 1) v p1 _ hw) (cwV 1 X.1.2.2.2.2 gX7_coupleOf_X5_lesserOf rfl rfl rfl (by decide +kernel) ⟨Nat.le_of_ble_eq_true rfl, Nat.le_of_ble_eq_true rfl⟩) dX7_coupleOf_65 rfl rfl (Nat.le_of_ble_eq_true rfl) ⟨Nat.le_of_ble_eq_true rfl, Nat.le_of_ble_eq_true rfl⟩ rfl rfl rfl (by decide) (fun _ => rfl) (fun _ => rfl) (fun _ => rfl) (fun _ => rfl) rfl rfl rfl (fun r5 _ hw => ?_)
      exact g_iret X () hw rfl (Nat.le_of_ble_eq_true rfl) (Nat.le_of_ble_eq_true rfl) dX7_coupleOf_68
    · replace hw := hw.2 c4
      by_cases c7 : p2 = 1
      · replace hw := hw.1 c7
        refine g_tableIn X 69 dX7_coupleOf_22 (by rw [c7]; decide) (by rw [c7]; decide) (by rw [c7]; rfl) (by decide) ?_
        refine g_aload_n X 0 dX7_coupleOf_69 rfl rfl ?_
        refine g_get (T := TX7) (C := RX7) (N := 8) (v := .ref (g 1 0)) X 0 0 (fun _ h => (List.mem_cons_of_mem _ (List.mem_append_left _ (List.mem_append_left _ (List.mem_append_left _ (List.mem_append_right _ h)))))) (List.mem_of_getElem? (i := 5) rfl) dX7_coupleOf_70 rfl rfl (by decide) rfl rfl ?_
        refine g_iload_n X 1 dX7_coupleOf_73 rfl rfl ?_
        refine g_ciV X [wC ct g kc, wS ct (g 1) v] (fun (_ : Unit) => [wC ct g kc, wS ct (g 1) v]) (fun _ => fl [wC ct g kc, wS ct (g 1) v]) 2 [1] [0] 0 (kX5_greaterOf l D ct (g 1) v p1 _ hw) (cwV 1 X.1.2.2.2.2 gX7_coupleOf_X5_greaterOf rfl rfl rfl (by decide +kernel) ⟨Nat.le_of_ble_eq_true rfl, Nat.le_of_ble_eq_true rfl⟩) dX7_coupleOf_74 rfl rfl (Nat.le_of_ble_eq_true rfl) ⟨Nat.le_of_ble_eq_true rfl, Nat.le_of_ble_eq_true rfl⟩ rfl rfl rfl (by decide) (fun _ => rfl) (fun _ => rfl) (fun _ => rfl) (fun _ => rfl) rfl rfl rfl (fun r8 _ hw => ?_)
        exact g_iret X () hw rfl (Nat.le_of_ble_eq_true rfl) (Nat.le_of_ble_eq_true rfl) dX7_coupleOf_77
      · replace hw := hw.2 c7
        by_cases c10 : p2 = 2
        · replace hw := hw.1 c10
          refine g_tableIn X 78 dX7_coupleOf_22 (by rw [c10]; decide) (by rw [c10]; decide) (by rw [c10]; rfl) (by decide) ?_
          refine g_aload_n X 0 dX7_coupleOf_78 rfl rfl ?_
          refine g_get (T := TX7) (C := RX7) (N := 8) (v := .ref (g 1 0)) X 0 0 (fun _ h => (List.mem_cons_of_mem _ (List.mem_append_left _ (List.mem_append_left _ (List.mem_append_left _ (List.mem_append_right _ h)))))) (List.mem_of_getElem? (i := 5) rfl) dX7_coupleOf_79 rfl rfl (by decide) rfl rfl ?_
          refine g_aload_n X 0 dX7_coupleOf_82 rfl rfl ?_
          refine g_get (T := TX7) (C := RX7) (N := 8) (v := .ref (g 1 0)) X 0 0 (fun _ h => (List.mem_cons_of_mem _ (List.mem_append_left _ (List.mem_append_left _ (List.mem_append_left _ (List.mem_append_right _ h)))))) (List.mem_of_getElem? (i := 5) rfl) dX7_coupleOf_83 rfl rfl (by decide) rfl rfl ?_
          refine g_iload_n X 1 dX7_coupleOf_86 rfl rfl ?_
          refine g_ciV X [wC ct g kc, wS ct (g 1) v] (fun (_ : Unit) => [wC ct g kc, wS ct (g 1) v]) (fun _ => fl [wC ct g kc, wS ct (g 1) v]) 2 [1] [0] 0 (kX5_lesserOf l D ct (g 1) v p1 _ hw) (cwV 1 X.1.2.2.2.2 gX7_coupleOf_X5_lesserOf rfl rfl rfl (by decide +kernel) ⟨Nat.le_of_ble_eq_true rfl, Nat.le_of_ble_eq_true rfl⟩) dX7_coupleOf_87 rfl rfl (Nat.le_of_ble_eq_true rfl) ⟨Nat.le_of_ble_eq_true rfl, Nat.le_of_ble_eq_true rfl⟩ rfl rfl rfl (by decide) (fun _ => rfl) (fun _ => rfl) (fun _ => rfl) (fun _ => rfl) rfl rfl rfl (fun r11 _ hw => ?_)
          refine g_ciV X [wC ct g kc, wS ct (g 1) v] (fun (_ : Unit) => [wC ct g kc, wS ct (g 1) v]) (fun _ => fl [wC ct g kc, wS ct (g 1) v]) 2 [1] [0] 0 (kX5_rowOf l D ct (g 1) v r11 _ hw) (cwV 1 X.1.2.2.2.2 gX7_coupleOf_X5_rowOf rfl rfl rfl (by decide +kernel) ⟨Nat.le_of_ble_eq_true rfl, Nat.le_of_ble_eq_true rfl⟩) dX7_coupleOf_90 rfl rfl (Nat.le_of_ble_eq_true rfl) ⟨Nat.le_of_ble_eq_true rfl, Nat.le_of_ble_eq_true rfl⟩ rfl rfl rfl (by decide) (fun _ => rfl) (fun _ => rfl) (fun _ => rfl) (fun _ => rfl) rfl rfl rfl (fun r13 _ hw => ?_)
          exact g_iret X () hw rfl (Nat.le_of_ble_eq_true rfl) (Nat.le_of_ble_eq_true rfl) dX7_coupleOf_93
        · replace hw := hw.2 c10
          by_cases c15 : p2 = 3
          · replace hw := hw.1 c15
            refine g_tableIn X 94 dX7_coupleOf_22 (by rw [c15]; decide) (by rw [c15]; decide) (by rw [c15]; rfl) (by decide) ?_
            refine g_aload_n X 0 dX7_coupleOf_94 rfl rfl ?_
            refine g_get (T := TX7) (C := RX7) (N := 8) (v := .ref (g 1 0)) X 0 0 (fun _ h => (List.mem_cons_of_mem _ (List.mem_append_left _ (List.mem_append_left _ (List.mem_append_left _ (List.mem_append_right _ h)))))) (List.mem_of_getElem? (i := 5) rfl) dX7_coupleOf_95 rfl rfl (by decide) rfl rfl ?_
            refine g_iload_n X 1 dX7_coupleOf_98 rfl rfl ?_
            refine g_ciV X [wC ct g kc, wS ct (g 1) v] (fun (_ : Unit) => [wC ct g kc, wS ct (g 1) v]) (fun _ => fl [wC ct g kc, wS ct (g 1) v]) 2 [1] [0] 0 (kX5_middleOf l D ct (g 1) v p1 _ hw) (cwV 1 X.1.2.2.2.2 gX7_coupleOf_X5_middleOf rfl rfl rfl (by decide +kernel) ⟨Nat.le_of_ble_eq_true rfl, Nat.le_of_ble_eq_true rfl⟩) dX7_coupleOf_99 rfl rfl (Nat.le_of_ble_eq_true rfl) ⟨Nat.le_of_ble_eq_true rfl, Nat.le_of_ble_eq_true rfl⟩ rfl rfl rfl (by decide) (fun _ => rfl) (fun _ => rfl) (fun _ => rfl) (fun _ => rfl) rfl rfl rfl (fun r16 _ hw => ?_)
            exact g_iret X () hw rfl (Nat.le_of_ble_eq_true rfl) (Nat.le_of_ble_eq_true rfl) dX7_coupleOf_102
          · replace hw := hw.2 c15
            by_cases c18 : p2 = 4
            · replace hw := hw.1 c18
              refine g_tableIn X 103 dX7_coupleOf_22 (by rw [c18]; decide) (by rw [c18]; decide) (by rw [c18]; rfl) (by decide) ?_
              refine g_aload_n X 0 dX7_coupleOf_103 rfl rfl ?_
              refine g_get (T := TX7) (C := RX7) (N := 8) (v := .ref (g 1 0)) X 0 0 (fun _ h => (List.mem_cons_of_mem _ (List.mem_append_left _ (List.mem_append_left _ (List.mem_append_left _ (List.mem_append_right _ h)))))) (List.mem_of_getElem? (i := 5) rfl) dX7_coupleOf_104 rfl rfl (by decide) rfl rfl ?_
              refine g_iload_n X 1 dX7_coupleOf_107 rfl rfl ?_
              refine g_ciV X [wC ct g kc, wS ct (g 1) v] (fun (_ : Unit) => [wC ct g kc, wS ct (g 1) v]) (fun _ => fl [wC ct g kc, wS ct (g 1) v]) 2 [1] [0] 0 (kX5_childrenOf l D ct (g 1) v p1 _ hw) (cwV 1 X.1.2.2.2.2 gX7_coupleOf_X5_childrenOf rfl rfl rfl (by decide +kernel) ⟨Nat.le_of_ble_eq_true rfl, Nat.le_of_ble_eq_true rfl⟩) dX7_coupleOf_108 rfl rfl (Nat.le_of_ble_eq_true rfl) ⟨Nat.le_of_ble_eq_true rfl, Nat.le_of_ble_eq_true rfl⟩ rfl rfl rfl (by decide) (fun _ => rfl) (fun _ => rfl) (fun _ => rfl) (fun _ => rfl) rfl rfl rfl (fun r19 _ hw => ?_)
              exact g_iret X () hw rfl (Nat.le_of_ble_eq_true rfl) (Nat.le_of_ble_eq_true rfl) dX7_coupleOf_111
            · replace hw := hw.2 c18
              by_cases c21 : p2 = 5
              · replace hw := hw.1 c21
                refine g_tableIn X 112 dX7_coupleOf_22 (by rw [c21]; decide) (by rw [c21]; decide) (by rw [c21]; rfl) (by decide) ?_
                refine g_aload_n X 0 dX7_coupleOf_112 rfl rfl ?_
                refine g_get (T := TX7) (C := RX7) (N := 8) (v := .ref (g 1 0)) X 0 0 (fun _ h => (List.mem_cons_of_mem _ (List.mem_append_left _ (List.mem_append_left _ (List.mem_append_left _ (List.mem_append_right _ h)))))) (List.mem_of_getElem? (i := 5) rfl) dX7_coupleOf_113 rfl rfl (by decide) rfl rfl ?_
                refine g_iload_n X 1 dX7_coupleOf_116 rfl rfl ?_
                refine g_ciS X [wC ct g kc, wS ct (g 1) v] (fun (_ : Unit) => [wC ct g kc, wS ct (g 1) v]) (fun _ => fl [wC ct g kc, wS ct (g 1) v]) 2 [1] [0] (kX0_commonAncestors l D ct (g 1) v p1 _ hw) (va_cwS 2 X.1.2.2.2.2 gX7_coupleOf_X0_commonAncestors rfl rfl rfl (by decide +kernel) ⟨Nat.le_of_ble_eq_true rfl, Nat.le_of_ble_eq_true rfl⟩) dX7_coupleOf_117 rfl rfl (Nat.le_of_ble_eq_true rfl) ⟨Nat.le_of_ble_eq_true rfl, Nat.le_of_ble_eq_true rfl⟩ rfl rfl rfl (by decide) (fun _ => rfl) (fun _ => rfl) (fun _ => rfl) (fun _ => rfl) (fun r22 _ hw => ?_)
                refine g_ciS X [wC ct g kc, wS ct (g 1) v] (fun (_ : Unit) => [wC ct g kc, wS ct (g 1) v]) (fun _ => fl [wC ct g kc, wS ct (g 1) v]) 2 [] [0, 1] (kJ6_bitCount_0f7a4 l D ct  r22 _ hw) (va_cwS 1 X.1.2.2.2.2 gX7_coupleOf_J6_bitCount_0f7a4 rfl rfl rfl (by decide +kernel) ⟨Nat.le_of_ble_eq_true rfl, Nat.le_of_ble_eq_true rfl⟩) dX7_coupleOf_120 rfl rfl (Nat.le_of_ble_eq_true rfl) ⟨Nat.le_of_ble_eq_true rfl, Nat.le_of_ble_eq_true rfl⟩ rfl rfl rfl (by decide) (fun _ => rfl) (fun _ => rfl) (fun _ => rfl) (fun _ => rfl) (fun r24 _ hw => ?_)
                exact g_iret X () hw rfl (Nat.le_of_ble_eq_true rfl) (Nat.le_of_ble_eq_true rfl) dX7_coupleOf_123
              · replace hw := hw.2 c21
                refine g_tableOut X 124 dX7_coupleOf_22 (by have tc4 := lv_neT c4 (show (0 : Int32).toInt = 0 from rfl); have tc7 := lv_neT c7 (show (1 : Int32).toInt = 1 from rfl); have tc10 := lv_neT c10 (show (2 : Int32).toInt = 2 from rfl); have tc15 := lv_neT c15 (show (3 : Int32).toInt = 3 from rfl); have tc18 := lv_neT c18 (show (4 : Int32).toInt = 4 from rfl); have tc21 := lv_neT c21 (show (5 : Int32).toInt = 5 from rfl); omega) (by decide) ?_
                exact hw.elim
  · replace hw := hw.2 c3
    exact hw.elim

abbrev rmX7_at_nt : Room := { frames := 2, cells := 0, slots := 0, locals := 43 }

abbrev GX7_at_nt (l : Launch) (D : va_G) (ct : Nat → ClassId) (g : Nat → Nat → Nat) (kc : Mem) (v : Mem) (post : Int32 → Prop) (p : Program) (e : Env) (s : State) (m : MethodId) (args : Array Value) (below : List Frame) (meth : Method) (c : Code) (A : Nat → Prop) (w9 : va_W) (lv : List (Nat × Value)) (pc : Nat) (st : List Value) : Prop :=
  GG p l e rmX7_at_nt s m args below meth c D A s.heap 3 (MQ below (va_Qi (fun r (_ : Unit) => post r) (fun u9 t9 => Af D (tyz ct) A ((fun _ => fl [wC ct g kc, wS ct (g 1) v]) u9) t9) A)  args s 0 0 A) w9 0 0 lv pc st

set_option maxHeartbeats 4000000 in
set_option maxRecDepth 20000 in
theorem kX7_at_nt (l : Launch) (D : va_G) (ct : Nat → ClassId) (g : Nat → Nat → Nat) (kc : Mem) (v : Mem) (p1 : Int32) (p2 : Int32) (post : Int32 → Prop) (hw : PX7_at_nt kc v p1 p2 post) : Ci (S := Unit) l yX7_at wsX7_at rmX7_at_nt D (tyz ct) [.ref (g 0 0), .int p1, .int p2] (fl [wC ct g kc, wS ct (g 1) v]) (fun r (_ : Unit) => post r) (fun _ => fl [wC ct g kc, wS ct (g 1) v]) 0 0 := by
  intro sz
  refine g_of (own := RX7) (by decide) rfl rfl (Nat.le_of_ble_eq_true rfl) [(0, .ref (g 0 0)), (1, .int p1), (2, .int p2)] rfl (fun p e s m args below meth c hsz X => ?_)
  subst hsz
  unfold PX7_at_nt at hw
  refine g_iload_n X 1 dX7_at_0 rfl rfl ?_
  refine g_ciS X [wC ct g kc, wS ct (g 1) v] (fun (_ : Unit) => [wC ct g kc, wS ct (g 1) v]) (fun _ => fl [wC ct g kc, wS ct (g 1) v]) 2 [] [0, 1] (kX7_isRow l D ct  p1 _ hw) (va_cwS 1 X.1.2.2.2.2 gX7_at_X7_isRow rfl rfl rfl (by decide +kernel) ⟨Nat.le_of_ble_eq_true rfl, Nat.le_of_ble_eq_true rfl⟩) dX7_at_1 rfl rfl (Nat.le_of_ble_eq_true rfl) ⟨Nat.le_of_ble_eq_true rfl, Nat.le_of_ble_eq_true rfl⟩ rfl rfl rfl (by decide) (fun _ => rfl) (fun _ => rfl) (fun _ => rfl) (fun _ => rfl) (fun r1 _ hw => ?_)
  refine g_if_ne X 17 dX7_at_4 (by decide) (fun c3 => ?_) (fun c3 => ?_)
  · replace hw := hw.1 c3
    refine g_iload_n X 2 dX7_at_17 rfl rfl ?_
    refine g_if_ge X 31 dX7_at_18 (by decide) (fun c4 => ?_) (fun c4 => ?_)
    · replace hw := hw.1 c4
      refine g_aload_n X 0 dX7_at_31 rfl rfl ?_
      refine g_get (T := TX7) (C := RX7) (N := 8) (v := .ref (g 1 0)) X 0 0 (fun _ h => (List.mem_cons_of_mem _ (List.mem_append_left _ (List.mem_append_left _ (List.mem_append_left _ (List.mem_append_right _ h)))))) (List.mem_of_getElem? (i := 5) rfl) dX7_at_32 rfl rfl (by decide) rfl rfl ?_
      refine g_iload_n X 1 dX7_at_35 rfl rfl ?_
      refine g_iload_n X 2 dX7_at_36 rfl rfl ?_
      refine g_ciV X [wC ct g kc, wS ct (g 1) v] (fun (_ : Unit) => [wC ct g kc, wS ct (g 1) v]) (fun _ => fl [wC ct g kc, wS ct (g 1) v]) 2 [1] [0] 0 (kX5_personAt l D ct (g 1) v p1 p2 _ hw) (cwV 2 X.1.2.2.2.2 gX7_at_X5_personAt rfl rfl rfl (by decide +kernel) ⟨Nat.le_of_ble_eq_true rfl, Nat.le_of_ble_eq_true rfl⟩) dX7_at_37 rfl rfl (Nat.le_of_ble_eq_true rfl) ⟨Nat.le_of_ble_eq_true rfl, Nat.le_of_ble_eq_true rfl⟩ rfl rfl rfl (by decide) (fun _ => rfl) (fun _ => rfl) (fun _ => rfl) (fun _ => rfl) rfl rfl rfl (fun r5 _ hw => ?_)
      exact g_iret X () hw rfl (Nat.le_of_ble_eq_true rfl) (Nat.le_of_ble_eq_true rfl) dX7_at_40
    · replace hw := hw.2 c4
      exact hw.elim
  · replace hw := hw.2 c3
    exact hw.elim

abbrev rmX7_crossings_nt : Room := { frames := 5, cells := 0, slots := 0, locals := 108 }

abbrev GX7_crossings_nt (l : Launch) (D : va_G) (ct : Nat → ClassId) (g : Nat → Nat → Nat) (kc : Mem) (v : Mem) (post : Int32 → Mem → Prop) (p : Program) (e : Env) (s : State) (m : MethodId) (args : Array Value) (below : List Frame) (meth : Method) (c : Code) (A : Nat → Prop) (w9 : va_W) (lv : List (Nat × Value)) (pc : Nat) (st : List Value) : Prop :=
  GG p l e rmX7_crossings_nt s m args below meth c D A s.heap 3 (MQ below (va_Qi (fun r (u9 : Mem) => post r u9) (fun u9 t9 => Af D (tyz ct) A ((fun u9 => fl [wC ct g kc, wS ct (g 1) v, wL ct (g 12) u9]) u9) t9) A)  args s 0 0 A) w9 0 0 lv pc st

set_option maxHeartbeats 4000000 in
set_option maxRecDepth 20000 in
theorem kX7_crossings_nt_36 (l : Launch) (D : va_G) (ct : Nat → ClassId) (g : Nat → Nat → Nat) (kc : Mem) (v : Mem) (post : Int32 → Mem → Prop) {p : Program} {e : Env} {s : State} {m : MethodId} {args : Array Value} {below : List Frame} {meth : Method} {c : Code} {A : Nat → Prop} (X : Cx p s m args meth c cX7_crossings 3 RX7 wsX7_crossings D (tyz ct) A s.heap (some .int))  :
    ∀ (y : Mem) (x1 : Int32) (x2 : Int32), PX7_crossings_nt_36 kc v post y x1 x2 → GX7_crossings_nt l D ct g kc v post p e s m args below meth c A (fl [wC ct g kc, wS ct (g 1) v, wL ct (g 12) y]) [(0, .ref (g 0 0)), (1, .int x1), (2, .int x2)] 36 [] := by
  intro y x1 x2 hw
  unfold PX7_crossings_nt_36 at hw
  refine g_aload_n X 0 dX7_crossings_36 rfl rfl ?_
  refine g_get (T := TX7) (C := RX7) (N := 8) (v := .ref (g 12 0)) X 0 5 (fun _ h => (List.mem_cons_of_mem _ (List.mem_append_left _ (List.mem_append_left _ (List.mem_append_left _ (List.mem_append_left _ (List.mem_append_right _ h))))))) (List.mem_of_getElem? (i := 5) rfl) dX7_crossings_37 rfl rfl (by decide) rfl rfl ?_
  refine g_aload_n X 0 dX7_crossings_40 rfl rfl ?_
  refine g_get (T := TX7) (C := RX7) (N := 8) (v := .ref (g 1 0)) X 0 0 (fun _ h => (List.mem_cons_of_mem _ (List.mem_append_left _ (List.mem_append_left _ (List.mem_append_left _ (List.mem_append_left _ (List.mem_append_right _ h))))))) (List.mem_of_getElem? (i := 6) rfl) dX7_crossings_41 rfl rfl (by decide) rfl rfl ?_
  refine g_iload_n X 1 dX7_crossings_44 rfl rfl ?_
  refine g_cvV X [wC ct g kc, wS ct (g 1) v, wL ct (g 12) y] (fun (u5 : Mem) => [wC ct g kc, wS ct (g 1) v, wL ct (g 12) u5]) (fun (u5 : Mem) => fl [wC ct g kc, wS ct (g 1) v, wL ct (g 12) u5]) 3 [2, 1] [0] 0 (kX2_collect l D ct (g 12) (g 1) y v x1 _ hw) (cwV 2 X.1.2.2.2.2 gX7_crossings_X2_collect rfl rfl rfl (by decide +kernel) ⟨Nat.le_of_ble_eq_true rfl, Nat.le_of_ble_eq_true rfl⟩) dX7_crossings_45 rfl rfl (Nat.le_of_ble_eq_true rfl) ⟨Nat.le_of_ble_eq_true rfl, Nat.le_of_ble_eq_true rfl⟩ rfl rfl rfl (by decide) (fun _ => rfl) (fun _ => rfl) (fun _ => rfl) (fun _ => rfl) rfl rfl rfl (fun u5 hw => ?_)
  obtain ⟨y6, hy6⟩ : ∃ z : Mem, z = u5 := ⟨_, rfl⟩
  rw [← hy6] at hw
  rw [← hy6]
  refine g_iload_n X 2 dX7_crossings_48 rfl rfl ?_
  refine g_if_ne X 62 dX7_crossings_49 (by decide) (fun c7 => ?_) (fun c7 => ?_)
  · replace hw := hw.1 c7
    refine g_aload_n X 0 dX7_crossings_62 rfl rfl ?_
    refine g_get (T := TX7) (C := RX7) (N := 8) (v := .ref (g 12 0)) X 0 5 (fun _ h => (List.mem_cons_of_mem _ (List.mem_append_left _ (List.mem_append_left _ (List.mem_append_left _ (List.mem_append_left _ (List.mem_append_right _ h))))))) (List.mem_of_getElem? (i := 5) rfl) dX7_crossings_63 rfl rfl (by decide) rfl rfl ?_
    refine g_ciV X [wC ct g kc, wS ct (g 1) v, wL ct (g 12) y6] (fun (u9 : Mem) => [wC ct g kc, wS ct (g 1) v, wL ct (g 12) u9]) (fun (u9 : Mem) => fl [wC ct g kc, wS ct (g 1) v, wL ct (g 12) u9]) 3 [2] [0, 1] 0 (kX2_crossedOneByOne l D ct (g 12) y6 _ hw) (cwV 0 X.1.2.2.2.2 gX7_crossings_X2_crossedOneByOne rfl rfl rfl (by decide +kernel) ⟨Nat.le_of_ble_eq_true rfl, Nat.le_of_ble_eq_true rfl⟩) dX7_crossings_66 rfl rfl (Nat.le_of_ble_eq_true rfl) ⟨Nat.le_of_ble_eq_true rfl, Nat.le_of_ble_eq_true rfl⟩ rfl rfl rfl (by decide) (fun _ => rfl) (fun _ => rfl) (fun _ => rfl) (fun _ => rfl) rfl rfl rfl (fun r8 u9 hw => ?_)
    obtain ⟨y10, hy10⟩ : ∃ z : Mem, z = u9 := ⟨_, rfl⟩
    rw [← hy10] at hw
    rw [← hy10]
    exact g_iret X y10 hw rfl (Nat.le_of_ble_eq_true rfl) (Nat.le_of_ble_eq_true rfl) dX7_crossings_69
  · replace hw := hw.2 c7
    refine g_aload_n X 0 dX7_crossings_52 rfl rfl ?_
    refine g_get (T := TX7) (C := RX7) (N := 8) (v := .ref (g 12 0)) X 0 5 (fun _ h => (List.mem_cons_of_mem _ (List.mem_append_left _ (List.mem_append_left _ (List.mem_append_left _ (List.mem_append_left _ (List.mem_append_right _ h))))))) (List.mem_of_getElem? (i := 5) rfl) dX7_crossings_53 rfl rfl (by decide) rfl rfl ?_
    refine g_ciV X [wC ct g kc, wS ct (g 1) v, wL ct (g 12) y6] (fun (_ : Unit) => [wC ct g kc, wS ct (g 1) v, wL ct (g 12) y6]) (fun _ => fl [wC ct g kc, wS ct (g 1) v, wL ct (g 12) y6]) 3 [2] [0, 1] 0 (kX2_crossedPairs l D ct (g 12) y6 _ hw) (cwV 0 X.1.2.2.2.2 gX7_crossings_X2_crossedPairs rfl rfl rfl (by decide +kernel) ⟨Nat.le_of_ble_eq_true rfl, Nat.le_of_ble_eq_true rfl⟩) dX7_crossings_56 rfl rfl (Nat.le_of_ble_eq_true rfl) ⟨Nat.le_of_ble_eq_true rfl, Nat.le_of_ble_eq_true rfl⟩ rfl rfl rfl (by decide) (fun _ => rfl) (fun _ => rfl) (fun _ => rfl) (fun _ => rfl) rfl rfl rfl (fun r11 _ hw => ?_)
    refine g_goto X 69 dX7_crossings_59 (by decide) ?_
    exact g_iret X y6 hw rfl (Nat.le_of_ble_eq_true rfl) (Nat.le_of_ble_eq_true rfl) dX7_crossings_69

set_option maxHeartbeats 4000000 in
set_option maxRecDepth 20000 in
theorem kX7_crossings_nt (l : Launch) (D : va_G) (ct : Nat → ClassId) (g : Nat → Nat → Nat) (kc : Mem) (v : Mem) (y : Mem) (p1 : Int32) (p2 : Int32) (post : Int32 → Mem → Prop) (hw : PX7_crossings_nt kc v y p1 p2 post) : Ci (S := Mem) l yX7_crossings wsX7_crossings rmX7_crossings_nt D (tyz ct) [.ref (g 0 0), .int p1, .int p2] (fl [wC ct g kc, wS ct (g 1) v, wL ct (g 12) y]) (fun r (u9 : Mem) => post r u9) (fun u9 => fl [wC ct g kc, wS ct (g 1) v, wL ct (g 12) u9]) 0 0 := by
  intro sz
  refine g_of (own := RX7) (by decide) rfl rfl (Nat.le_of_ble_eq_true rfl) [(0, .ref (g 0 0)), (1, .int p1), (2, .int p2)] rfl (fun p e s m args below meth c hsz X => ?_)
  subst hsz
  unfold PX7_crossings_nt at hw
  refine g_iload_n X 1 dX7_crossings_0 rfl rfl ?_
  refine g_ciS X [wC ct g kc, wS ct (g 1) v, wL ct (g 12) y] (fun (_ : Unit) => [wC ct g kc, wS ct (g 1) v, wL ct (g 12) y]) (fun _ => fl [wC ct g kc, wS ct (g 1) v, wL ct (g 12) y]) 3 [] [0, 1, 2] (kX7_isRow l D ct  p1 _ hw) (va_cwS 1 X.1.2.2.2.2 gX7_crossings_X7_isRow rfl rfl rfl (by decide +kernel) ⟨Nat.le_of_ble_eq_true rfl, Nat.le_of_ble_eq_true rfl⟩) dX7_crossings_1 rfl rfl (Nat.le_of_ble_eq_true rfl) ⟨Nat.le_of_ble_eq_true rfl, Nat.le_of_ble_eq_true rfl⟩ rfl rfl rfl (by decide) (fun _ => rfl) (fun _ => rfl) (fun _ => rfl) (fun _ => rfl) (fun r1 _ hw => ?_)
  refine g_if_ne X 17 dX7_crossings_4 (by decide) (fun c3 => ?_) (fun c3 => ?_)
  · replace hw := hw.1 c3
    refine g_iload_n X 2 dX7_crossings_17 rfl rfl ?_
    refine g_if_eq X 36 dX7_crossings_18 (by decide) (fun c4 => ?_) (fun c4 => ?_)
    · replace hw := hw.1 c4
      refine g_sub [(0, .ref (g 0 0)), (1, .int p1), (2, .int p2)] [0, 1, 2] rfl ?_
      exact kX7_crossings_nt_36 l D ct g kc v post X _ _ _ hw
    · replace hw := hw.2 c4
      refine g_iload_n X 2 dX7_crossings_21 rfl rfl ?_
      refine g_iconst (v := 1) X rfl dX7_crossings_22 ?_
      refine g_icmp_eq X 36 dX7_crossings_23 (by decide) (fun c13 => ?_) (fun c13 => ?_)
      · replace hw := hw.1 c13
        refine g_sub [(0, .ref (g 0 0)), (1, .int p1), (2, .int p2)] [0, 1, 2] rfl ?_
        exact kX7_crossings_nt_36 l D ct g kc v post X _ _ _ hw
      · replace hw := hw.2 c13
        exact hw.elim
  · replace hw := hw.2 c3
    exact hw.elim

abbrev rmX7_count_nt : Room := { frames := 6, cells := 0, slots := 0, locals := 130 }

abbrev GX7_count_nt (l : Launch) (D : va_G) (ct : Nat → ClassId) (g : Nat → Nat → Nat) (kc : Mem) (v : Mem) (b : Mem) (post : Int32 → Mem → Prop) (p : Program) (e : Env) (s : State) (m : MethodId) (args : Array Value) (below : List Frame) (meth : Method) (c : Code) (A : Nat → Prop) (w9 : va_W) (lv : List (Nat × Value)) (pc : Nat) (st : List Value) : Prop :=
  GG p l e rmX7_count_nt s m args below meth c D A s.heap 2 (MQ below (va_Qi (fun r (u9 : Mem) => post r u9) (fun u9 t9 => Af D (tyz ct) A ((fun u9 => fl [wC ct g kc, wS ct (g 1) v, wV ct g b, wL ct (g 12) u9]) u9) t9) A)  args s 0 0 A) w9 0 0 lv pc st

set_option maxHeartbeats 4000000 in
set_option maxRecDepth 20000 in
theorem kX7_count_nt (l : Launch) (D : va_G) (ct : Nat → ClassId) (g : Nat → Nat → Nat) (kc : Mem) (v : Mem) (b : Mem) (y : Mem) (p1 : Int32) (post : Int32 → Mem → Prop) (hw : PX7_count_nt kc v b y p1 post) : Ci (S := Mem) l yX7_count wsX7_count rmX7_count_nt D (tyz ct) [.ref (g 0 0), .int p1] (fl [wC ct g kc, wS ct (g 1) v, wV ct g b, wL ct (g 12) y]) (fun r (u9 : Mem) => post r u9) (fun u9 => fl [wC ct g kc, wS ct (g 1) v, wV ct g b, wL ct (g 12) u9]) 0 0 := by
  intro sz
  refine g_of (own := RX7) (by decide) rfl rfl (Nat.le_of_ble_eq_true rfl) [(0, .ref (g 0 0)), (1, .int p1)] rfl (fun p e s m args below meth c hsz X => ?_)
  subst hsz
  unfold PX7_count_nt at hw
  refine g_iload_n X 1 dX7_count_0 rfl rfl ?_
  by_cases c1 : p1 = 0
  · replace hw := hw.1 c1
    refine g_tableIn X 52 dX7_count_1 (by rw [c1]; decide) (by rw [c1]; decide) (by rw [c1]; rfl) (by decide) ?_
    refine g_aload_n X 0 dX7_count_52 rfl rfl ?_
    refine g_get (T := TX7) (C := RX7) (N := 8) (v := .ref (g 1 0)) X 0 0 (fun _ h => (List.mem_cons_of_mem _ (List.mem_append_left _ (List.mem_append_left _ (List.mem_append_left _ (List.mem_append_left _ (List.mem_append_right _ h))))))) (List.mem_of_getElem? (i := 3) rfl) dX7_count_53 rfl rfl (by decide) rfl rfl ?_
    refine g_ciV X [wC ct g kc, wS ct (g 1) v, wV ct g b, wL ct (g 12) y] (fun (_ : Unit) => [wC ct g kc, wS ct (g 1) v, wV ct g b, wL ct (g 12) y]) (fun _ => fl [wC ct g kc, wS ct (g 1) v, wV ct g b, wL ct (g 12) y]) 4 [1] [0, 2, 3] 0 (kX5_people l D ct (g 1) v _ hw) (cwV 0 X.1.2.2.2.2 gX7_count_X5_people rfl rfl rfl (by decide +kernel) ⟨Nat.le_of_ble_eq_true rfl, Nat.le_of_ble_eq_true rfl⟩) dX7_count_56 rfl rfl (Nat.le_of_ble_eq_true rfl) ⟨Nat.le_of_ble_eq_true rfl, Nat.le_of_ble_eq_true rfl⟩ rfl rfl rfl (by decide) (fun _ => rfl) (fun _ => rfl) (fun _ => rfl) (fun _ => rfl) rfl rfl rfl (fun r2 _ hw => ?_)
    exact g_iret X y hw rfl (Nat.le_of_ble_eq_true rfl) (Nat.le_of_ble_eq_true rfl) dX7_count_59
  · replace hw := hw.2 c1
    by_cases c4 : p1 = 1
    · replace hw := hw.1 c4
      refine g_tableIn X 60 dX7_count_1 (by rw [c4]; decide) (by rw [c4]; decide) (by rw [c4]; rfl) (by decide) ?_
      refine g_aload_n X 0 dX7_count_60 rfl rfl ?_
      refine g_get (T := TX7) (C := RX7) (N := 8) (v := .ref (g 1 0)) X 0 0 (fun _ h => (List.mem_cons_of_mem _ (List.mem_append_left _ (List.mem_append_left _ (List.mem_append_left _ (List.mem_append_left _ (List.mem_append_right _ h))))))) (List.mem_of_getElem? (i := 3) rfl) dX7_count_61 rfl rfl (by decide) rfl rfl ?_
      refine g_ciV X [wC ct g kc, wS ct (g 1) v, wV ct g b, wL ct (g 12) y] (fun (_ : Unit) => [wC ct g kc, wS ct (g 1) v, wV ct g b, wL ct (g 12) y]) (fun _ => fl [wC ct g kc, wS ct (g 1) v, wV ct g b, wL ct (g 12) y]) 4 [1] [0, 2, 3] 0 (kX5_couples l D ct (g 1) v _ hw) (cwV 0 X.1.2.2.2.2 gX7_count_X5_couples rfl rfl rfl (by decide +kernel) ⟨Nat.le_of_ble_eq_true rfl, Nat.le_of_ble_eq_true rfl⟩) dX7_count_64 rfl rfl (Nat.le_of_ble_eq_true rfl) ⟨Nat.le_of_ble_eq_true rfl, Nat.le_of_ble_eq_true rfl⟩ rfl rfl rfl (by decide) (fun _ => rfl) (fun _ => rfl) (fun _ => rfl) (fun _ => rfl) rfl rfl rfl (fun r5 _ hw => ?_)
      exact g_iret X y hw rfl (Nat.le_of_ble_eq_true rfl) (Nat.le_of_ble_eq_true rfl) dX7_count_67
    · replace hw := hw.2 c4
      by_cases c7 : p1 = 2
      · replace hw := hw.1 c7
        refine g_tableIn X 68 dX7_count_1 (by rw [c7]; decide) (by rw [c7]; decide) (by rw [c7]; rfl) (by decide) ?_
        refine g_aload_n X 0 dX7_count_68 rfl rfl ?_
        refine g_get (T := TX7) (C := RX7) (N := 8) (v := .ref (g 1 0)) X 0 0 (fun _ h => (List.mem_cons_of_mem _ (List.mem_append_left _ (List.mem_append_left _ (List.mem_append_left _ (List.mem_append_left _ (List.mem_append_right _ h))))))) (List.mem_of_getElem? (i := 3) rfl) dX7_count_69 rfl rfl (by decide) rfl rfl ?_
        refine g_ciV X [wC ct g kc, wS ct (g 1) v, wV ct g b, wL ct (g 12) y] (fun (_ : Unit) => [wC ct g kc, wS ct (g 1) v, wV ct g b, wL ct (g 12) y]) (fun _ => fl [wC ct g kc, wS ct (g 1) v, wV ct g b, wL ct (g 12) y]) 4 [1] [0, 2, 3] 0 (kX5_lines l D ct (g 1) v _ hw) (cwV 0 X.1.2.2.2.2 gX7_count_X5_lines rfl rfl rfl (by decide +kernel) ⟨Nat.le_of_ble_eq_true rfl, Nat.le_of_ble_eq_true rfl⟩) dX7_count_72 rfl rfl (Nat.le_of_ble_eq_true rfl) ⟨Nat.le_of_ble_eq_true rfl, Nat.le_of_ble_eq_true rfl⟩ rfl rfl rfl (by decide) (fun _ => rfl) (fun _ => rfl) (fun _ => rfl) (fun _ => rfl) rfl rfl rfl (fun r8 _ hw => ?_)
        exact g_iret X y hw rfl (Nat.le_of_ble_eq_true rfl) (Nat.le_of_ble_eq_true rfl) dX7_count_75
      · replace hw := hw.2 c7
        by_cases c10 : p1 = 3
        · replace hw := hw.1 c10
          refine g_tableIn X 76 dX7_count_1 (by rw [c10]; decide) (by rw [c10]; decide) (by rw [c10]; rfl) (by decide) ?_
          refine g_aload_n X 0 dX7_count_76 rfl rfl ?_
          refine g_ciV X [wC ct g kc, wS ct (g 1) v, wV ct g b, wL ct (g 12) y] (fun (u12 : Mem) => [wC ct g kc, wS ct (g 1) v, wV ct g b, wL ct (g 12) u12]) (fun (u12 : Mem) => fl [wC ct g kc, wS ct (g 1) v, wV ct g b, wL ct (g 12) u12]) 4 [0, 1, 3] [2] 0 (kX7_allCrossings l D ct g kc v y _ hw) (cwV 0 X.1.2.2.2.2 gX7_count_X7_allCrossings rfl rfl rfl (by decide +kernel) ⟨Nat.le_of_ble_eq_true rfl, Nat.le_of_ble_eq_true rfl⟩) dX7_count_77 rfl rfl (Nat.le_of_ble_eq_true rfl) ⟨Nat.le_of_ble_eq_true rfl, Nat.le_of_ble_eq_true rfl⟩ rfl rfl rfl (by decide) (fun _ => rfl) (fun _ => rfl) (fun _ => rfl) (fun _ => rfl) rfl rfl rfl (fun r11 u12 hw => ?_)
          obtain ⟨y13, hy13⟩ : ∃ z : Mem, z = u12 := ⟨_, rfl⟩
          rw [← hy13] at hw
          rw [← hy13]
          exact g_iret X y13 hw rfl (Nat.le_of_ble_eq_true rfl) (Nat.le_of_ble_eq_true rfl) dX7_count_80
        · replace hw := hw.2 c10
          by_cases c14 : p1 = 4
          · replace hw := hw.1 c14
            refine g_tableIn X 81 dX7_count_1 (by rw [c14]; decide) (by rw [c14]; decide) (by rw [c14]; rfl) (by decide) ?_
            refine g_aload_n X 0 dX7_count_81 rfl rfl ?_
            refine g_get (T := TX7) (C := RX7) (N := 8) (v := .ref (g 1 0)) X 0 0 (fun _ h => (List.mem_cons_of_mem _ (List.mem_append_left _ (List.mem_append_left _ (List.mem_append_left _ (List.mem_append_left _ (List.mem_append_right _ h))))))) (List.mem_of_getElem? (i := 3) rfl) dX7_count_82 rfl rfl (by decide) rfl rfl ?_
            refine g_ciV X [wC ct g kc, wS ct (g 1) v, wV ct g b, wL ct (g 12) y] (fun (_ : Unit) => [wC ct g kc, wS ct (g 1) v, wV ct g b, wL ct (g 12) y]) (fun _ => fl [wC ct g kc, wS ct (g 1) v, wV ct g b, wL ct (g 12) y]) 4 [1] [0, 2, 3] 0 (kX5_bentLines l D ct (g 1) v _ hw) (cwV 0 X.1.2.2.2.2 gX7_count_X5_bentLines rfl rfl rfl (by decide +kernel) ⟨Nat.le_of_ble_eq_true rfl, Nat.le_of_ble_eq_true rfl⟩) dX7_count_85 rfl rfl (Nat.le_of_ble_eq_true rfl) ⟨Nat.le_of_ble_eq_true rfl, Nat.le_of_ble_eq_true rfl⟩ rfl rfl rfl (by decide) (fun _ => rfl) (fun _ => rfl) (fun _ => rfl) (fun _ => rfl) rfl rfl rfl (fun r15 _ hw => ?_)
            exact g_iret X y hw rfl (Nat.le_of_ble_eq_true rfl) (Nat.le_of_ble_eq_true rfl) dX7_count_88
          · replace hw := hw.2 c14
            by_cases c17 : p1 = 5
            · replace hw := hw.1 c17
              refine g_tableIn X 89 dX7_count_1 (by rw [c17]; decide) (by rw [c17]; decide) (by rw [c17]; rfl) (by decide) ?_
              refine g_aload_n X 0 dX7_count_89 rfl rfl ?_
              refine g_get (T := TX7) (C := RX7) (N := 8) (v := .ref (g 1 0)) X 0 0 (fun _ h => (List.mem_cons_of_mem _ (List.mem_append_left _ (List.mem_append_left _ (List.mem_append_left _ (List.mem_append_left _ (List.mem_append_right _ h))))))) (List.mem_of_getElem? (i := 3) rfl) dX7_count_90 rfl rfl (by decide) rfl rfl ?_
              refine g_ciV X [wC ct g kc, wS ct (g 1) v, wV ct g b, wL ct (g 12) y] (fun (_ : Unit) => [wC ct g kc, wS ct (g 1) v, wV ct g b, wL ct (g 12) y]) (fun _ => fl [wC ct g kc, wS ct (g 1) v, wV ct g b, wL ct (g 12) y]) 4 [1] [0, 2, 3] 0 (kX5_doubles l D ct (g 1) v _ hw) (cwV 0 X.1.2.2.2.2 gX7_count_X5_doubles rfl rfl rfl (by decide +kernel) ⟨Nat.le_of_ble_eq_true rfl, Nat.le_of_ble_eq_true rfl⟩) dX7_count_93 rfl rfl (Nat.le_of_ble_eq_true rfl) ⟨Nat.le_of_ble_eq_true rfl, Nat.le_of_ble_eq_true rfl⟩ rfl rfl rfl (by decide) (fun _ => rfl) (fun _ => rfl) (fun _ => rfl) (fun _ => rfl) rfl rfl rfl (fun r18 _ hw => ?_)
              exact g_iret X y hw rfl (Nat.le_of_ble_eq_true rfl) (Nat.le_of_ble_eq_true rfl) dX7_count_96
            · replace hw := hw.2 c17
              by_cases c20 : p1 = 6
              · replace hw := hw.1 c20
                refine g_tableIn X 97 dX7_count_1 (by rw [c20]; decide) (by rw [c20]; decide) (by rw [c20]; rfl) (by decide) ?_
                refine g_aload_n X 0 dX7_count_97 rfl rfl ?_
                refine g_get (T := TX7) (C := RX7) (N := 8) (v := .ref (g 1 0)) X 0 0 (fun _ h => (List.mem_cons_of_mem _ (List.mem_append_left _ (List.mem_append_left _ (List.mem_append_left _ (List.mem_append_left _ (List.mem_append_right _ h))))))) (List.mem_of_getElem? (i := 3) rfl) dX7_count_98 rfl rfl (by decide) rfl rfl ?_
                refine g_ciS X [wC ct g kc, wS ct (g 1) v, wV ct g b, wL ct (g 12) y] (fun (_ : Unit) => [wC ct g kc, wS ct (g 1) v, wV ct g b, wL ct (g 12) y]) (fun _ => fl [wC ct g kc, wS ct (g 1) v, wV ct g b, wL ct (g 12) y]) 4 [1] [0, 2, 3] (kX0_kinCouples l D ct (g 1) v _ hw) (va_cwS 1 X.1.2.2.2.2 gX7_count_X0_kinCouples rfl rfl rfl (by decide +kernel) ⟨Nat.le_of_ble_eq_true rfl, Nat.le_of_ble_eq_true rfl⟩) dX7_count_101 rfl rfl (Nat.le_of_ble_eq_true rfl) ⟨Nat.le_of_ble_eq_true rfl, Nat.le_of_ble_eq_true rfl⟩ rfl rfl rfl (by decide) (fun _ => rfl) (fun _ => rfl) (fun _ => rfl) (fun _ => rfl) (fun r21 _ hw => ?_)
                exact g_iret X y hw rfl (Nat.le_of_ble_eq_true rfl) (Nat.le_of_ble_eq_true rfl) dX7_count_104
              · replace hw := hw.2 c20
                by_cases c23 : p1 = 7
                · replace hw := hw.1 c23
                  refine g_tableIn X 105 dX7_count_1 (by rw [c23]; decide) (by rw [c23]; decide) (by rw [c23]; rfl) (by decide) ?_
                  refine g_aload_n X 0 dX7_count_105 rfl rfl ?_
                  refine g_get (T := TX7) (C := RX7) (N := 8) (v := .ref (g 1 0)) X 0 0 (fun _ h => (List.mem_cons_of_mem _ (List.mem_append_left _ (List.mem_append_left _ (List.mem_append_left _ (List.mem_append_left _ (List.mem_append_right _ h))))))) (List.mem_of_getElem? (i := 3) rfl) dX7_count_106 rfl rfl (by decide) rfl rfl ?_
                  refine g_ciV X [wC ct g kc, wS ct (g 1) v, wV ct g b, wL ct (g 12) y] (fun (_ : Unit) => [wC ct g kc, wS ct (g 1) v, wV ct g b, wL ct (g 12) y]) (fun _ => fl [wC ct g kc, wS ct (g 1) v, wV ct g b, wL ct (g 12) y]) 4 [1] [0, 2, 3] 0 (kX5_refused l D ct (g 1) v _ hw) (cwV 0 X.1.2.2.2.2 gX7_count_X5_refused rfl rfl rfl (by decide +kernel) ⟨Nat.le_of_ble_eq_true rfl, Nat.le_of_ble_eq_true rfl⟩) dX7_count_109 rfl rfl (Nat.le_of_ble_eq_true rfl) ⟨Nat.le_of_ble_eq_true rfl, Nat.le_of_ble_eq_true rfl⟩ rfl rfl rfl (by decide) (fun _ => rfl) (fun _ => rfl) (fun _ => rfl) (fun _ => rfl) rfl rfl rfl (fun r24 _ hw => ?_)
                  exact g_iret X y hw rfl (Nat.le_of_ble_eq_true rfl) (Nat.le_of_ble_eq_true rfl) dX7_count_112
                · replace hw := hw.2 c23
                  by_cases c26 : p1 = 8
                  · replace hw := hw.1 c26
                    refine g_tableIn X 113 dX7_count_1 (by rw [c26]; decide) (by rw [c26]; decide) (by rw [c26]; rfl) (by decide) ?_
                    refine g_aload_n X 0 dX7_count_113 rfl rfl ?_
                    refine g_get (T := TX7) (C := RX7) (N := 8) (v := .ref (g 4 0)) X 0 3 (fun _ h => (List.mem_cons_of_mem _ (List.mem_append_left _ (List.mem_append_left _ (List.mem_append_left _ (List.mem_append_left _ (List.mem_append_right _ h))))))) (List.mem_of_getElem? (i := 4) rfl) dX7_count_114 rfl rfl (by decide) rfl rfl ?_
                    refine g_ciV X [wC ct g kc, wS ct (g 1) v, wV ct g b, wL ct (g 12) y] (fun (_ : Unit) => [wC ct g kc, wS ct (g 1) v, wV ct g b, wL ct (g 12) y]) (fun _ => fl [wC ct g kc, wS ct (g 1) v, wV ct g b, wL ct (g 12) y]) 4 [2] [0, 1, 3] 0 (kX4_size l D ct g b _ hw) (cwV 0 X.1.2.2.2.2 gX7_count_X4_size rfl rfl rfl (by decide +kernel) ⟨Nat.le_of_ble_eq_true rfl, Nat.le_of_ble_eq_true rfl⟩) dX7_count_117 rfl rfl (Nat.le_of_ble_eq_true rfl) ⟨Nat.le_of_ble_eq_true rfl, Nat.le_of_ble_eq_true rfl⟩ rfl rfl rfl (by decide) (fun _ => rfl) (fun _ => rfl) (fun _ => rfl) (fun _ => rfl) rfl rfl rfl (fun r27 _ hw => ?_)
                    exact g_iret X y hw rfl (Nat.le_of_ble_eq_true rfl) (Nat.le_of_ble_eq_true rfl) dX7_count_120
                  · replace hw := hw.2 c26
                    refine g_tableOut X 121 dX7_count_1 (by have tc1 := lv_neT c1 (show (0 : Int32).toInt = 0 from rfl); have tc4 := lv_neT c4 (show (1 : Int32).toInt = 1 from rfl); have tc7 := lv_neT c7 (show (2 : Int32).toInt = 2 from rfl); have tc10 := lv_neT c10 (show (3 : Int32).toInt = 3 from rfl); have tc14 := lv_neT c14 (show (4 : Int32).toInt = 4 from rfl); have tc17 := lv_neT c17 (show (5 : Int32).toInt = 5 from rfl); have tc20 := lv_neT c20 (show (6 : Int32).toInt = 6 from rfl); have tc23 := lv_neT c23 (show (7 : Int32).toInt = 7 from rfl); have tc26 := lv_neT c26 (show (8 : Int32).toInt = 8 from rfl); omega) (by decide) ?_
                    exact hw.elim

abbrev rmX7_least_nt : Room := { frames := 12, cells := 0, slots := 0, locals := 277 }

abbrev GX7_least_nt (l : Launch) (D : va_G) (ct : Nat → ClassId) (g : Nat → Nat → Nat) (kc : Mem) (v : Mem) (post : Int32 → Mem → Prop) (p : Program) (e : Env) (s : State) (m : MethodId) (args : Array Value) (below : List Frame) (meth : Method) (c : Code) (A : Nat → Prop) (w9 : va_W) (lv : List (Nat × Value)) (pc : Nat) (st : List Value) : Prop :=
  GG p l e rmX7_least_nt s m args below meth c D A s.heap 3 (MQ below (va_Qi (fun r (u9 : Mem) => post r u9) (fun u9 t9 => Af D (tyz ct) A ((fun u9 => fl [wC ct g kc, wS ct (g 1) v, wR ct (g 14) u9]) u9) t9) A)  args s 0 0 A) w9 0 0 lv pc st

set_option maxHeartbeats 4000000 in
set_option maxRecDepth 20000 in
theorem kX7_least_nt_36 (l : Launch) (D : va_G) (ct : Nat → ClassId) (g : Nat → Nat → Nat) (kc : Mem) (v : Mem) (post : Int32 → Mem → Prop) {p : Program} {e : Env} {s : State} {m : MethodId} {args : Array Value} {below : List Frame} {meth : Method} {c : Code} {A : Nat → Prop} (X : Cx p s m args meth c cX7_least 3 RX7 wsX7_least D (tyz ct) A s.heap (some .int))  :
    ∀ (x : Mem) (x1 : Int32) (x2 : Int32), PX7_least_nt_36 kc v post x x1 x2 → GX7_least_nt l D ct g kc v post p e s m args below meth c A (fl [wC ct g kc, wS ct (g 1) v, wR ct (g 14) x]) [(0, .ref (g 0 0)), (1, .int x1), (2, .int x2)] 36 [] := by
  intro x x1 x2 hw
  unfold PX7_least_nt_36 at hw
  refine g_aload_n X 0 dX7_least_36 rfl rfl ?_
  refine g_get (T := TX7) (C := RX7) (N := 8) (v := .ref (g 14 0)) X 0 7 (fun _ h => (List.mem_cons_of_mem _ (List.mem_append_left _ (List.mem_append_left _ (List.mem_append_left _ (List.mem_append_left _ (List.mem_append_right _ h))))))) (List.mem_of_getElem? (i := 5) rfl) dX7_least_37 rfl rfl (by decide) rfl rfl ?_
  refine g_aload_n X 0 dX7_least_40 rfl rfl ?_
  refine g_get (T := TX7) (C := RX7) (N := 8) (v := .ref (g 1 0)) X 0 0 (fun _ h => (List.mem_cons_of_mem _ (List.mem_append_left _ (List.mem_append_left _ (List.mem_append_left _ (List.mem_append_left _ (List.mem_append_right _ h))))))) (List.mem_of_getElem? (i := 6) rfl) dX7_least_41 rfl rfl (by decide) rfl rfl ?_
  refine g_iload_n X 1 dX7_least_44 rfl rfl ?_
  refine g_cvV X [wC ct g kc, wS ct (g 1) v, wR ct (g 14) x] (fun (u5 : Mem) => [wC ct g kc, wS ct (g 1) v, wR ct (g 14) u5]) (fun (u5 : Mem) => fl [wC ct g kc, wS ct (g 1) v, wR ct (g 14) u5]) 3 [2, 1] [0] 0 (kX3_prepare l D ct (g 14) (g 1) x v x1 _ hw) (cwV 2 X.1.2.2.2.2 gX7_least_X3_prepare rfl rfl rfl (by decide +kernel) ⟨Nat.le_of_ble_eq_true rfl, Nat.le_of_ble_eq_true rfl⟩) dX7_least_45 rfl rfl (Nat.le_of_ble_eq_true rfl) ⟨Nat.le_of_ble_eq_true rfl, Nat.le_of_ble_eq_true rfl⟩ rfl rfl rfl (by decide) (fun _ => rfl) (fun _ => rfl) (fun _ => rfl) (fun _ => rfl) rfl rfl rfl (fun u5 hw => ?_)
  obtain ⟨x6, hx6⟩ : ∃ z : Mem, z = u5 := ⟨_, rfl⟩
  rw [← hx6] at hw
  rw [← hx6]
  refine g_iload_n X 2 dX7_least_48 rfl rfl ?_
  refine g_if_ne X 62 dX7_least_49 (by decide) (fun c7 => ?_) (fun c7 => ?_)
  · replace hw := hw.1 c7
    refine g_aload_n X 0 dX7_least_62 rfl rfl ?_
    refine g_get (T := TX7) (C := RX7) (N := 8) (v := .ref (g 14 0)) X 0 7 (fun _ h => (List.mem_cons_of_mem _ (List.mem_append_left _ (List.mem_append_left _ (List.mem_append_left _ (List.mem_append_left _ (List.mem_append_right _ h))))))) (List.mem_of_getElem? (i := 5) rfl) dX7_least_63 rfl rfl (by decide) rfl rfl ?_
    refine g_ciV X [wC ct g kc, wS ct (g 1) v, wR ct (g 14) x6] (fun (u9 : Mem) => [wC ct g kc, wS ct (g 1) v, wR ct (g 14) u9]) (fun (u9 : Mem) => fl [wC ct g kc, wS ct (g 1) v, wR ct (g 14) u9]) 3 [2] [0, 1] 0 (kX3_leastByLaying l D ct (g 14) x6 _ hw) (cwV 0 X.1.2.2.2.2 gX7_least_X3_leastByLaying rfl rfl rfl (by decide +kernel) ⟨Nat.le_of_ble_eq_true rfl, Nat.le_of_ble_eq_true rfl⟩) dX7_least_66 rfl rfl (Nat.le_of_ble_eq_true rfl) ⟨Nat.le_of_ble_eq_true rfl, Nat.le_of_ble_eq_true rfl⟩ rfl rfl rfl (by decide) (fun _ => rfl) (fun _ => rfl) (fun _ => rfl) (fun _ => rfl) rfl rfl rfl (fun r8 u9 hw => ?_)
    obtain ⟨x10, hx10⟩ : ∃ z : Mem, z = u9 := ⟨_, rfl⟩
    rw [← hx10] at hw
    rw [← hx10]
    exact g_iret X x10 hw rfl (Nat.le_of_ble_eq_true rfl) (Nat.le_of_ble_eq_true rfl) dX7_least_69
  · replace hw := hw.2 c7
    refine g_aload_n X 0 dX7_least_52 rfl rfl ?_
    refine g_get (T := TX7) (C := RX7) (N := 8) (v := .ref (g 14 0)) X 0 7 (fun _ h => (List.mem_cons_of_mem _ (List.mem_append_left _ (List.mem_append_left _ (List.mem_append_left _ (List.mem_append_left _ (List.mem_append_right _ h))))))) (List.mem_of_getElem? (i := 5) rfl) dX7_least_53 rfl rfl (by decide) rfl rfl ?_
    refine g_ciV X [wC ct g kc, wS ct (g 1) v, wR ct (g 14) x6] (fun (u12 : Mem) => [wC ct g kc, wS ct (g 1) v, wR ct (g 14) u12]) (fun (u12 : Mem) => fl [wC ct g kc, wS ct (g 1) v, wR ct (g 14) u12]) 3 [2] [0, 1] 0 (kX3_leastByAllOrders l D ct (g 14) x6 _ hw) (cwV 0 X.1.2.2.2.2 gX7_least_X3_leastByAllOrders rfl rfl rfl (by decide +kernel) ⟨Nat.le_of_ble_eq_true rfl, Nat.le_of_ble_eq_true rfl⟩) dX7_least_56 rfl rfl (Nat.le_of_ble_eq_true rfl) ⟨Nat.le_of_ble_eq_true rfl, Nat.le_of_ble_eq_true rfl⟩ rfl rfl rfl (by decide) (fun _ => rfl) (fun _ => rfl) (fun _ => rfl) (fun _ => rfl) rfl rfl rfl (fun r11 u12 hw => ?_)
    obtain ⟨x13, hx13⟩ : ∃ z : Mem, z = u12 := ⟨_, rfl⟩
    rw [← hx13] at hw
    rw [← hx13]
    refine g_goto X 69 dX7_least_59 (by decide) ?_
    exact g_iret X x13 hw rfl (Nat.le_of_ble_eq_true rfl) (Nat.le_of_ble_eq_true rfl) dX7_least_69

set_option maxHeartbeats 4000000 in
set_option maxRecDepth 20000 in
theorem kX7_least_nt (l : Launch) (D : va_G) (ct : Nat → ClassId) (g : Nat → Nat → Nat) (kc : Mem) (v : Mem) (x : Mem) (p1 : Int32) (p2 : Int32) (post : Int32 → Mem → Prop) (hw : PX7_least_nt kc v x p1 p2 post) : Ci (S := Mem) l yX7_least wsX7_least rmX7_least_nt D (tyz ct) [.ref (g 0 0), .int p1, .int p2] (fl [wC ct g kc, wS ct (g 1) v, wR ct (g 14) x]) (fun r (u9 : Mem) => post r u9) (fun u9 => fl [wC ct g kc, wS ct (g 1) v, wR ct (g 14) u9]) 0 0 := by
  intro sz
  refine g_of (own := RX7) (by decide) rfl rfl (Nat.le_of_ble_eq_true rfl) [(0, .ref (g 0 0)), (1, .int p1), (2, .int p2)] rfl (fun p e s m args below meth c hsz X => ?_)
  subst hsz
  unfold PX7_least_nt at hw
  refine g_iload_n X 1 dX7_least_0 rfl rfl ?_
  refine g_ciS X [wC ct g kc, wS ct (g 1) v, wR ct (g 14) x] (fun (_ : Unit) => [wC ct g kc, wS ct (g 1) v, wR ct (g 14) x]) (fun _ => fl [wC ct g kc, wS ct (g 1) v, wR ct (g 14) x]) 3 [] [0, 1, 2] (kX7_isRow l D ct  p1 _ hw) (va_cwS 1 X.1.2.2.2.2 gX7_least_X7_isRow rfl rfl rfl (by decide +kernel) ⟨Nat.le_of_ble_eq_true rfl, Nat.le_of_ble_eq_true rfl⟩) dX7_least_1 rfl rfl (Nat.le_of_ble_eq_true rfl) ⟨Nat.le_of_ble_eq_true rfl, Nat.le_of_ble_eq_true rfl⟩ rfl rfl rfl (by decide) (fun _ => rfl) (fun _ => rfl) (fun _ => rfl) (fun _ => rfl) (fun r1 _ hw => ?_)
  refine g_if_ne X 17 dX7_least_4 (by decide) (fun c3 => ?_) (fun c3 => ?_)
  · replace hw := hw.1 c3
    refine g_iload_n X 2 dX7_least_17 rfl rfl ?_
    refine g_if_eq X 36 dX7_least_18 (by decide) (fun c4 => ?_) (fun c4 => ?_)
    · replace hw := hw.1 c4
      refine g_sub [(0, .ref (g 0 0)), (1, .int p1), (2, .int p2)] [0, 1, 2] rfl ?_
      exact kX7_least_nt_36 l D ct g kc v post X _ _ _ hw
    · replace hw := hw.2 c4
      refine g_iload_n X 2 dX7_least_21 rfl rfl ?_
      refine g_iconst (v := 1) X rfl dX7_least_22 ?_
      refine g_icmp_eq X 36 dX7_least_23 (by decide) (fun c14 => ?_) (fun c14 => ?_)
      · replace hw := hw.1 c14
        refine g_sub [(0, .ref (g 0 0)), (1, .int p1), (2, .int p2)] [0, 1, 2] rfl ?_
        exact kX7_least_nt_36 l D ct g kc v post X _ _ _ hw
      · replace hw := hw.2 c14
        exact hw.elim
  · replace hw := hw.2 c3
    exact hw.elim

abbrev rmX7_bestSwap : Room := { frames := 6, cells := 0, slots := 0, locals := 130 }

abbrev GX7_bestSwap (l : Launch) (D : va_G) (ct : Nat → ClassId) (g : Nat → Nat → Nat) (kc : Mem) (post : Int32 → Mem → Mem → Prop) (p : Program) (e : Env) (s : State) (m : MethodId) (args : Array Value) (below : List Frame) (meth : Method) (c : Code) (A : Nat → Prop) (w9 : va_W) (lv : List (Nat × Value)) (pc : Nat) (st : List Value) : Prop :=
  GG p l e rmX7_bestSwap s m args below meth c D A s.heap 6 (MQ below (va_Qi (fun r (u9 : Mem × Mem) => post r u9.1 u9.2) (fun u9 t9 => Af D (tyz ct) A ((fun u9 => fl [wC ct g kc, wS ct (g 1) u9.1, wL ct (g 12) u9.2]) u9) t9) A)  args s 0 0 A) w9 0 0 lv pc st

set_option maxHeartbeats 4000000 in
set_option maxRecDepth 20000 in
theorem kX7_bestSwap_17 (l : Launch) (D : va_G) (ct : Nat → ClassId) (g : Nat → Nat → Nat) (kc : Mem) (post : Int32 → Mem → Mem → Prop) (K9 : Mem → Mem → Int32 → Int32 → Int32 → Prop) {p : Program} {e : Env} {s : State} {m : MethodId} {args : Array Value} {below : List Frame} {meth : Method} {c : Code} {A : Nat → Prop} (X : Cx p s m args meth c cX7_bestSwap 6 RX7 wsX7_bestSwap D (tyz ct) A s.heap (some .int)) (hK9 : ∀ (v : Mem) (y : Mem) (x1 : Int32) (x2 : Int32) (x3 : Int32), K9 v y x1 x2 x3 → GX7_bestSwap l D ct g kc post p e s m args below meth c A (fl [wC ct g kc, wS ct (g 1) v, wL ct (g 12) y]) [(0, .ref (g 0 0)), (1, .int x1), (2, .int x2), (3, .int x3)] 9 []) :
    ∀ (n : Nat) (v : Mem) (y : Mem) (x1 : Int32) (x2 : Int32) (x3 : Int32) (x4 : Int32), PX7_bestSwap_17 kc post K9 n v y x1 x2 x3 x4 → GX7_bestSwap l D ct g kc post p e s m args below meth c A (fl [wC ct g kc, wS ct (g 1) v, wL ct (g 12) y]) [(0, .ref (g 0 0)), (1, .int x1), (2, .int x2), (3, .int x3), (4, .int x4)] 17 [] := by
  intro n
  induction n with
  | zero =>
    intro v y x1 x2 x3 x4 hw
    exact hw.elim
  | succ n ih =>
    intro v y x1 x2 x3 x4 hw
    unfold PX7_bestSwap_17 at hw
    refine g_iload X 4 dX7_bestSwap_17 rfl ?_
    refine g_aload_n X 0 dX7_bestSwap_19 rfl rfl ?_
    refine g_get (T := TX7) (C := RX7) (N := 8) (v := .ref (g 1 0)) X 0 0 (fun _ h => (List.mem_cons_of_mem _ (List.mem_append_left _ (List.mem_append_left _ (List.mem_append_right _ h))))) (List.mem_of_getElem? (i := 1) rfl) dX7_bestSwap_20 rfl rfl (by decide) rfl rfl ?_
    refine g_iload_n X 3 dX7_bestSwap_23 rfl rfl ?_
    refine g_ciV X [wC ct g kc, wS ct (g 1) v, wL ct (g 12) y] (fun (_ : Unit) => [wC ct g kc, wS ct (g 1) v, wL ct (g 12) y]) (fun _ => fl [wC ct g kc, wS ct (g 1) v, wL ct (g 12) y]) 3 [1] [0, 2] 0 (kX5_sizeOf l D ct (g 1) v x3 _ hw) (cwV 1 X.1.2.2.2.2 gX7_bestSwap_X5_sizeOf rfl rfl rfl (by decide +kernel) ⟨Nat.le_of_ble_eq_true rfl, Nat.le_of_ble_eq_true rfl⟩) dX7_bestSwap_24 rfl rfl (Nat.le_of_ble_eq_true rfl) ⟨Nat.le_of_ble_eq_true rfl, Nat.le_of_ble_eq_true rfl⟩ rfl rfl rfl (by decide) (fun _ => rfl) (fun _ => rfl) (fun _ => rfl) (fun _ => rfl) rfl rfl rfl (fun r5 _ hw => ?_)
    refine g_iconst (v := 1) X rfl dX7_bestSwap_27 ?_
    refine g_isub X dX7_bestSwap_28 ?_
    refine g_icmp_ge X 81 dX7_bestSwap_29 (by decide) (fun c7 => ?_) (fun c7 => ?_)
    · replace hw := hw.1 c7
      refine g_iinc X [(3, .int (x3 + 1)), (0, .ref (g 0 0)), (1, .int x1), (2, .int x2), (4, .int x4)] 3 dX7_bestSwap_81 rfl rfl (by decide) rfl ?_
      refine g_goto X 9 dX7_bestSwap_84 (by decide) ?_
      refine g_sub [(0, .ref (g 0 0)), (1, .int x1), (2, .int x2), (3, .int (x3 + 1))] [1, 2, 3, 0] rfl ?_
      exact hK9 _ _ _ _ _ hw
    · replace hw := hw.2 c7
      refine g_aload_n X 0 dX7_bestSwap_32 rfl rfl ?_
      refine g_get (T := TX7) (C := RX7) (N := 8) (v := .ref (g 1 0)) X 0 0 (fun _ h => (List.mem_cons_of_mem _ (List.mem_append_left _ (List.mem_append_left _ (List.mem_append_right _ h))))) (List.mem_of_getElem? (i := 1) rfl) dX7_bestSwap_33 rfl rfl (by decide) rfl rfl ?_
      refine g_iload_n X 3 dX7_bestSwap_36 rfl rfl ?_
      refine g_iload X 4 dX7_bestSwap_37 rfl ?_
      refine g_cvV X [wC ct g kc, wS ct (g 1) v, wL ct (g 12) y] (fun (u8 : Mem) => [wC ct g kc, wS ct (g 1) u8, wL ct (g 12) y]) (fun (u8 : Mem) => fl [wC ct g kc, wS ct (g 1) u8, wL ct (g 12) y]) 3 [1] [0, 2] 0 (kX5_exchange l D ct (g 1) v x3 x4 _ hw) (cwV 2 X.1.2.2.2.2 gX7_bestSwap_X5_exchange rfl rfl rfl (by decide +kernel) ⟨Nat.le_of_ble_eq_true rfl, Nat.le_of_ble_eq_true rfl⟩) dX7_bestSwap_39 rfl rfl (Nat.le_of_ble_eq_true rfl) ⟨Nat.le_of_ble_eq_true rfl, Nat.le_of_ble_eq_true rfl⟩ rfl rfl rfl (by decide) (fun _ => rfl) (fun _ => rfl) (fun _ => rfl) (fun _ => rfl) rfl rfl rfl (fun u8 hw => ?_)
      obtain ⟨v9, hv9⟩ : ∃ z : Mem, z = u8 := ⟨_, rfl⟩
      rw [← hv9] at hw
      rw [← hv9]
      refine g_aload_n X 0 dX7_bestSwap_42 rfl rfl ?_
      refine g_ciV X [wC ct g kc, wS ct (g 1) v9, wL ct (g 12) y] (fun (u11 : Mem) => [wC ct g kc, wS ct (g 1) v9, wL ct (g 12) u11]) (fun (u11 : Mem) => fl [wC ct g kc, wS ct (g 1) v9, wL ct (g 12) u11]) 3 [0, 1, 2] [] 0 (kX7_allCrossings l D ct g kc v9 y _ hw) (cwV 0 X.1.2.2.2.2 gX7_bestSwap_X7_allCrossings rfl rfl rfl (by decide +kernel) ⟨Nat.le_of_ble_eq_true rfl, Nat.le_of_ble_eq_true rfl⟩) dX7_bestSwap_43 rfl rfl (Nat.le_of_ble_eq_true rfl) ⟨Nat.le_of_ble_eq_true rfl, Nat.le_of_ble_eq_true rfl⟩ rfl rfl rfl (by decide) (fun _ => rfl) (fun _ => rfl) (fun _ => rfl) (fun _ => rfl) rfl rfl rfl (fun r10 u11 hw => ?_)
      obtain ⟨y12, hy12⟩ : ∃ z : Mem, z = u11 := ⟨_, rfl⟩
      rw [← hy12] at hw
      rw [← hy12]
      refine g_istore X [(5, .int r10), (0, .ref (g 0 0)), (1, .int x1), (2, .int x2), (3, .int x3), (4, .int x4)] dX7_bestSwap_46 (by decide) rfl ?_
      refine g_aload_n X 1 dX7_bestSwap_48 rfl rfl ?_
      refine g_get (T := TX7) (C := RX7) (N := 8) (v := .ref (g 1 0)) X 0 0 (fun _ h => (List.mem_cons_of_mem _ (List.mem_append_left _ (List.mem_append_left _ (List.mem_append_right _ h))))) (List.mem_of_getElem? (i := 1) rfl) dX7_bestSwap_49 rfl rfl (by decide) rfl rfl ?_
      refine g_iload_n X 4 dX7_bestSwap_52 rfl rfl ?_
      refine g_iload X 5 dX7_bestSwap_53 rfl ?_
      refine g_cvV X [wC ct g kc, wS ct (g 1) v9, wL ct (g 12) y12] (fun (u13 : Mem) => [wC ct g kc, wS ct (g 1) u13, wL ct (g 12) y12]) (fun (u13 : Mem) => fl [wC ct g kc, wS ct (g 1) u13, wL ct (g 12) y12]) 3 [1] [0, 2] 0 (kX5_exchange l D ct (g 1) v9 x3 x4 _ hw) (cwV 2 X.1.2.2.2.2 gX7_bestSwap_X5_exchange rfl rfl rfl (by decide +kernel) ⟨Nat.le_of_ble_eq_true rfl, Nat.le_of_ble_eq_true rfl⟩) dX7_bestSwap_55 rfl rfl (Nat.le_of_ble_eq_true rfl) ⟨Nat.le_of_ble_eq_true rfl, Nat.le_of_ble_eq_true rfl⟩ rfl rfl rfl (by decide) (fun _ => rfl) (fun _ => rfl) (fun _ => rfl) (fun _ => rfl) rfl rfl rfl (fun u13 hw => ?_)
      obtain ⟨v14, hv14⟩ : ∃ z : Mem, z = u13 := ⟨_, rfl⟩
      rw [← hv14] at hw
      rw [← hv14]
      refine g_iload X 0 dX7_bestSwap_58 rfl ?_
      refine g_iload_n X 2 dX7_bestSwap_60 rfl rfl ?_
      refine g_icmp_ge X 75 dX7_bestSwap_61 (by decide) (fun c15 => ?_) (fun c15 => ?_)
      · replace hw := hw.1 c15
        refine g_iinc X [(4, .int (x4 + 1)), (5, .int r10), (0, .ref (g 0 0)), (1, .int x1), (2, .int x2), (3, .int x3)] 5 dX7_bestSwap_75 rfl rfl (by decide) rfl ?_
        refine g_goto X 17 dX7_bestSwap_78 (by decide) ?_
        refine g_sub [(0, .ref (g 0 0)), (1, .int x1), (2, .int x2), (3, .int x3), (4, .int (x4 + 1))] [2, 3, 4, 5, 0] rfl ?_
        exact ih _ _ _ _ _ _ hw
      · replace hw := hw.2 c15
        refine g_iload X 0 dX7_bestSwap_64 rfl ?_
        refine g_istore_n X [(1, .int r10), (5, .int r10), (0, .ref (g 0 0)), (2, .int x2), (3, .int x3), (4, .int x4)] dX7_bestSwap_66 rfl (by decide) rfl ?_
        refine g_bipush (v := 10) X rfl dX7_bestSwap_67 ?_
        refine g_iload_n X 4 dX7_bestSwap_69 rfl rfl ?_
        refine g_imul X dX7_bestSwap_70 ?_
        refine g_iload X 5 dX7_bestSwap_71 rfl ?_
        refine g_iadd X dX7_bestSwap_73 ?_
        refine g_topi (fun q16 hq16 => ?_)
        replace hw := hw q16 hq16
        refine g_istore_n X [(2, .int q16), (1, .int r10), (5, .int r10), (0, .ref (g 0 0)), (3, .int x3), (4, .int x4)] dX7_bestSwap_74 rfl (by decide) rfl ?_
        refine g_iinc X [(4, .int (x4 + 1)), (2, .int q16), (1, .int r10), (5, .int r10), (0, .ref (g 0 0)), (3, .int x3)] 5 dX7_bestSwap_75 rfl rfl (by decide) rfl ?_
        refine g_goto X 17 dX7_bestSwap_78 (by decide) ?_
        refine g_sub [(0, .ref (g 0 0)), (1, .int r10), (2, .int q16), (3, .int x3), (4, .int (x4 + 1))] [4, 2, 1, 5, 0] rfl ?_
        exact ih _ _ _ _ _ _ hw

set_option maxHeartbeats 4000000 in
set_option maxRecDepth 20000 in
theorem kX7_bestSwap_9 (l : Launch) (D : va_G) (ct : Nat → ClassId) (g : Nat → Nat → Nat) (kc : Mem) (post : Int32 → Mem → Mem → Prop) {p : Program} {e : Env} {s : State} {m : MethodId} {args : Array Value} {below : List Frame} {meth : Method} {c : Code} {A : Nat → Prop} (X : Cx p s m args meth c cX7_bestSwap 6 RX7 wsX7_bestSwap D (tyz ct) A s.heap (some .int))  :
    ∀ (n : Nat) (v : Mem) (y : Mem) (x1 : Int32) (x2 : Int32) (x3 : Int32), PX7_bestSwap_9 kc post n v y x1 x2 x3 → GX7_bestSwap l D ct g kc post p e s m args below meth c A (fl [wC ct g kc, wS ct (g 1) v, wL ct (g 12) y]) [(0, .ref (g 0 0)), (1, .int x1), (2, .int x2), (3, .int x3)] 9 [] := by
  intro n
  induction n with
  | zero =>
    intro v y x1 x2 x3 hw
    exact hw.elim
  | succ n ih =>
    intro v y x1 x2 x3 hw
    unfold PX7_bestSwap_9 at hw
    refine g_iload_n X 3 dX7_bestSwap_9 rfl rfl ?_
    refine g_iconst (v := 4) X rfl dX7_bestSwap_10 ?_
    refine g_icmp_ge X 87 dX7_bestSwap_11 (by decide) (fun c4 => ?_) (fun c4 => ?_)
    · replace hw := hw.1 c4
      refine g_iload_n X 2 dX7_bestSwap_87 rfl rfl ?_
      exact g_iret X (v, y) hw rfl (Nat.le_of_ble_eq_true rfl) (Nat.le_of_ble_eq_true rfl) dX7_bestSwap_88
    · replace hw := hw.2 c4
      refine g_iconst (v := 0) X rfl dX7_bestSwap_14 ?_
      refine g_istore X [(4, .int 0), (0, .ref (g 0 0)), (1, .int x1), (2, .int x2), (3, .int x3)] dX7_bestSwap_15 (by decide) rfl ?_
      refine g_sub [(0, .ref (g 0 0)), (1, .int x1), (2, .int x2), (3, .int x3), (4, .int 0)] [1, 2, 3, 4, 0] rfl ?_
      obtain ⟨n17, hw⟩ := hw
      exact kX7_bestSwap_17 l D ct g kc post _ X ih n17 _ _ _ _ _ _ hw

set_option maxHeartbeats 4000000 in
set_option maxRecDepth 20000 in
theorem kX7_bestSwap (l : Launch) (D : va_G) (ct : Nat → ClassId) (g : Nat → Nat → Nat) (kc : Mem) (v : Mem) (y : Mem) (post : Int32 → Mem → Mem → Prop) (hw : PX7_bestSwap kc v y post) : Ci (S := Mem × Mem) l yX7_bestSwap wsX7_bestSwap rmX7_bestSwap D (tyz ct) [.ref (g 0 0)] (fl [wC ct g kc, wS ct (g 1) v, wL ct (g 12) y]) (fun r (u9 : Mem × Mem) => post r u9.1 u9.2) (fun u9 => fl [wC ct g kc, wS ct (g 1) u9.1, wL ct (g 12) u9.2]) 0 0 := by
  intro sz
  refine g_of (own := RX7) (by decide) rfl rfl (Nat.le_of_ble_eq_true rfl) [(0, .ref (g 0 0))] rfl (fun p e s m args below meth c hsz X => ?_)
  subst hsz
  unfold PX7_bestSwap at hw
  refine g_aload_n X 0 dX7_bestSwap_0 rfl rfl ?_
  refine g_ciV X [wC ct g kc, wS ct (g 1) v, wL ct (g 12) y] (fun (u2 : Mem) => [wC ct g kc, wS ct (g 1) v, wL ct (g 12) u2]) (fun (u2 : Mem) => fl [wC ct g kc, wS ct (g 1) v, wL ct (g 12) u2]) 3 [0, 1, 2] [] 0 (kX7_allCrossings l D ct g kc v y _ hw) (cwV 0 X.1.2.2.2.2 gX7_bestSwap_X7_allCrossings rfl rfl rfl (by decide +kernel) ⟨Nat.le_of_ble_eq_true rfl, Nat.le_of_ble_eq_true rfl⟩) dX7_bestSwap_1 rfl rfl (Nat.le_of_ble_eq_true rfl) ⟨Nat.le_of_ble_eq_true rfl, Nat.le_of_ble_eq_true rfl⟩ rfl rfl rfl (by decide) (fun _ => rfl) (fun _ => rfl) (fun _ => rfl) (fun _ => rfl) rfl rfl rfl (fun r1 u2 hw => ?_)
  obtain ⟨y3, hy3⟩ : ∃ z : Mem, z = u2 := ⟨_, rfl⟩
  rw [← hy3] at hw
  rw [← hy3]
  refine g_istore_n X [(1, .int r1), (0, .ref (g 0 0))] dX7_bestSwap_4 rfl (by decide) rfl ?_
  refine g_iconst (v := (-1)) X rfl dX7_bestSwap_5 ?_
  refine g_istore_n X [(2, .int ((-1))), (1, .int r1), (0, .ref (g 0 0))] dX7_bestSwap_6 rfl (by decide) rfl ?_
  refine g_iconst (v := 0) X rfl dX7_bestSwap_7 ?_
  refine g_istore_n X [(3, .int 0), (2, .int ((-1))), (1, .int r1), (0, .ref (g 0 0))] dX7_bestSwap_8 rfl (by decide) rfl ?_
  refine g_sub [(0, .ref (g 0 0)), (1, .int r1), (2, .int ((-1))), (3, .int 0)] [3, 2, 1, 0] rfl ?_
  obtain ⟨n18, hw⟩ := hw
  exact kX7_bestSwap_9 l D ct g kc post X n18 _ _ _ _ _ hw

abbrev rmX7_nearness_nt : Room := { frames := 5, cells := 0, slots := 0, locals := 113 }

abbrev GX7_nearness_nt (l : Launch) (D : va_G) (ct : Nat → ClassId) (g : Nat → Nat → Nat) (kc : Mem) (v : Mem) (post : Int32 → Prop) (p : Program) (e : Env) (s : State) (m : MethodId) (args : Array Value) (below : List Frame) (meth : Method) (c : Code) (A : Nat → Prop) (w9 : va_W) (lv : List (Nat × Value)) (pc : Nat) (st : List Value) : Prop :=
  GG p l e rmX7_nearness_nt s m args below meth c D A s.heap 3 (MQ below (va_Qi (fun r (_ : Unit) => post r) (fun u9 t9 => Af D (tyz ct) A ((fun _ => fl [wC ct g kc, wS ct (g 1) v]) u9) t9) A)  args s 0 0 A) w9 0 0 lv pc st

set_option maxHeartbeats 4000000 in
set_option maxRecDepth 20000 in
theorem kX7_nearness_nt (l : Launch) (D : va_G) (ct : Nat → ClassId) (g : Nat → Nat → Nat) (kc : Mem) (v : Mem) (p1 : Int32) (p2 : Int32) (post : Int32 → Prop) (hw : PX7_nearness_nt kc v p1 p2 post) : Ci (S := Unit) l yX7_nearness wsX7_nearness rmX7_nearness_nt D (tyz ct) [.ref (g 0 0), .int p1, .int p2] (fl [wC ct g kc, wS ct (g 1) v]) (fun r (_ : Unit) => post r) (fun _ => fl [wC ct g kc, wS ct (g 1) v]) 0 0 := by
  intro sz
  refine g_of (own := RX7) (by decide) rfl rfl (Nat.le_of_ble_eq_true rfl) [(0, .ref (g 0 0)), (1, .int p1), (2, .int p2)] rfl (fun p e s m args below meth c hsz X => ?_)
  subst hsz
  unfold PX7_nearness_nt at hw
  refine g_aload_n X 0 dX7_nearness_0 rfl rfl ?_
  refine g_get (T := TX7) (C := RX7) (N := 8) (v := .ref (g 1 0)) X 0 0 (fun _ h => (List.mem_cons_of_mem _ (List.mem_append_left _ (List.mem_append_left _ (List.mem_append_right _ h))))) (List.mem_of_getElem? (i := 3) rfl) dX7_nearness_1 rfl rfl (by decide) rfl rfl ?_
  refine g_iload_n X 1 dX7_nearness_4 rfl rfl ?_
  refine g_ciV X [wC ct g kc, wS ct (g 1) v] (fun (_ : Unit) => [wC ct g kc, wS ct (g 1) v]) (fun _ => fl [wC ct g kc, wS ct (g 1) v]) 2 [1] [0] 0 (kX5_isPerson l D ct (g 1) v p1 _ hw) (cwV 1 X.1.2.2.2.2 gX7_nearness_X5_isPerson rfl rfl rfl (by decide +kernel) ⟨Nat.le_of_ble_eq_true rfl, Nat.le_of_ble_eq_true rfl⟩) dX7_nearness_5 rfl rfl (Nat.le_of_ble_eq_true rfl) ⟨Nat.le_of_ble_eq_true rfl, Nat.le_of_ble_eq_true rfl⟩ rfl rfl rfl (by decide) (fun _ => rfl) (fun _ => rfl) (fun _ => rfl) (fun _ => rfl) rfl rfl rfl (fun r1 _ hw => ?_)
  refine g_if_eq X 22 dX7_nearness_8 (by decide) (fun c3 => ?_) (fun c3 => ?_)
  · replace hw := hw.1 c3
    exact hw.elim
  · replace hw := hw.2 c3
    refine g_aload_n X 0 dX7_nearness_11 rfl rfl ?_
    refine g_get (T := TX7) (C := RX7) (N := 8) (v := .ref (g 1 0)) X 0 0 (fun _ h => (List.mem_cons_of_mem _ (List.mem_append_left _ (List.mem_append_left _ (List.mem_append_right _ h))))) (List.mem_of_getElem? (i := 3) rfl) dX7_nearness_12 rfl rfl (by decide) rfl rfl ?_
    refine g_iload_n X 2 dX7_nearness_15 rfl rfl ?_
    refine g_ciV X [wC ct g kc, wS ct (g 1) v] (fun (_ : Unit) => [wC ct g kc, wS ct (g 1) v]) (fun _ => fl [wC ct g kc, wS ct (g 1) v]) 2 [1] [0] 0 (kX5_isPerson l D ct (g 1) v p2 _ hw) (cwV 1 X.1.2.2.2.2 gX7_nearness_X5_isPerson rfl rfl rfl (by decide +kernel) ⟨Nat.le_of_ble_eq_true rfl, Nat.le_of_ble_eq_true rfl⟩) dX7_nearness_16 rfl rfl (Nat.le_of_ble_eq_true rfl) ⟨Nat.le_of_ble_eq_true rfl, Nat.le_of_ble_eq_true rfl⟩ rfl rfl rfl (by decide) (fun _ => rfl) (fun _ => rfl) (fun _ => rfl) (fun _ => rfl) rfl rfl rfl (fun r4 _ hw => ?_)
    refine g_if_ne X 32 dX7_nearness_19 (by decide) (fun c6 => ?_) (fun c6 => ?_)
    · replace hw := hw.1 c6
      refine g_aload_n X 0 dX7_nearness_32 rfl rfl ?_
      refine g_get (T := TX7) (C := RX7) (N := 8) (v := .ref (g 1 0)) X 0 0 (fun _ h => (List.mem_cons_of_mem _ (List.mem_append_left _ (List.mem_append_left _ (List.mem_append_right _ h))))) (List.mem_of_getElem? (i := 3) rfl) dX7_nearness_33 rfl rfl (by decide) rfl rfl ?_
      refine g_iload_n X 1 dX7_nearness_36 rfl rfl ?_
      refine g_iload_n X 2 dX7_nearness_37 rfl rfl ?_
      refine g_ciS X [wC ct g kc, wS ct (g 1) v] (fun (_ : Unit) => [wC ct g kc, wS ct (g 1) v]) (fun _ => fl [wC ct g kc, wS ct (g 1) v]) 2 [1] [0] (kX0_fewestLines l D ct (g 1) v p1 p2 _ hw) (va_cwS 3 X.1.2.2.2.2 gX7_nearness_X0_fewestLines rfl rfl rfl (by decide +kernel) ⟨Nat.le_of_ble_eq_true rfl, Nat.le_of_ble_eq_true rfl⟩) dX7_nearness_38 rfl rfl (Nat.le_of_ble_eq_true rfl) ⟨Nat.le_of_ble_eq_true rfl, Nat.le_of_ble_eq_true rfl⟩ rfl rfl rfl (by decide) (fun _ => rfl) (fun _ => rfl) (fun _ => rfl) (fun _ => rfl) (fun r7 _ hw => ?_)
      exact g_iret X () hw rfl (Nat.le_of_ble_eq_true rfl) (Nat.le_of_ble_eq_true rfl) dX7_nearness_41
    · replace hw := hw.2 c6
      exact hw.elim

abbrev rmX7_straightShare : Room := { frames := 5, cells := 0, slots := 0, locals := 106 }

abbrev GX7_straightShare (l : Launch) (D : va_G) (ct : Nat → ClassId) (g : Nat → Nat → Nat) (kc : Mem) (v : Mem) (post : UInt64 → Prop) (p : Program) (e : Env) (s : State) (m : MethodId) (args : Array Value) (below : List Frame) (meth : Method) (c : Code) (A : Nat → Prop) (w9 : va_W) (lv : List (Nat × Value)) (pc : Nat) (st : List Value) : Prop :=
  GG p l e rmX7_straightShare s m args below meth c D A s.heap 2 (MQ below (va_Qd (fun r (_ : Unit) => post r) (fun u9 t9 => Af D (tyz ct) A ((fun _ => fl [wC ct g kc, wS ct (g 1) v]) u9) t9) A)  args s 0 0 A) w9 0 0 lv pc st

set_option maxHeartbeats 4000000 in
set_option maxRecDepth 20000 in
theorem kX7_straightShare (l : Launch) (D : va_G) (ct : Nat → ClassId) (g : Nat → Nat → Nat) (kc : Mem) (v : Mem) (post : UInt64 → Prop) (hw : PX7_straightShare kc v post) : Cd (S := Unit) l yX7_straightShare wsX7_straightShare rmX7_straightShare D (tyz ct) [.ref (g 0 0)] (fl [wC ct g kc, wS ct (g 1) v]) (fun r (_ : Unit) => post r) (fun _ => fl [wC ct g kc, wS ct (g 1) v]) 0 0 := by
  intro sz
  refine g_of (own := RX7) (by decide) rfl rfl (Nat.le_of_ble_eq_true rfl) [(0, .ref (g 0 0))] rfl (fun p e s m args below meth c hsz X => ?_)
  subst hsz
  unfold PX7_straightShare at hw
  refine g_aload_n X 0 dX7_straightShare_0 rfl rfl ?_
  refine g_get (T := TX7) (C := RX7) (N := 8) (v := .ref (g 1 0)) X 0 0 (fun _ h => (List.mem_cons_of_mem _ (List.mem_append_left _ (List.mem_append_right _ h)))) (List.mem_of_getElem? (i := 1) rfl) dX7_straightShare_1 rfl rfl (by decide) rfl rfl ?_
  refine g_ciV X [wC ct g kc, wS ct (g 1) v] (fun (_ : Unit) => [wC ct g kc, wS ct (g 1) v]) (fun _ => fl [wC ct g kc, wS ct (g 1) v]) 2 [1] [0] 0 (kX5_lines l D ct (g 1) v _ hw) (cwV 0 X.1.2.2.2.2 gX7_straightShare_X5_lines rfl rfl rfl (by decide +kernel) ⟨Nat.le_of_ble_eq_true rfl, Nat.le_of_ble_eq_true rfl⟩) dX7_straightShare_4 rfl rfl (Nat.le_of_ble_eq_true rfl) ⟨Nat.le_of_ble_eq_true rfl, Nat.le_of_ble_eq_true rfl⟩ rfl rfl rfl (by decide) (fun _ => rfl) (fun _ => rfl) (fun _ => rfl) (fun _ => rfl) rfl rfl rfl (fun r1 _ hw => ?_)
  refine g_istore_n X [(1, .int r1), (0, .ref (g 0 0))] dX7_straightShare_7 rfl (by decide) rfl ?_
  refine g_iload_n X 0 dX7_straightShare_8 rfl rfl ?_
  refine g_if_ne X 14 dX7_straightShare_9 (by decide) (fun c3 => ?_) (fun c3 => ?_)
  · replace hw := hw.1 c3
    refine g_iload_n X 0 dX7_straightShare_14 rfl rfl ?_
    refine g_aload_n X 1 dX7_straightShare_15 rfl rfl ?_
    refine g_get (T := TX7) (C := RX7) (N := 8) (v := .ref (g 1 0)) X 0 0 (fun _ h => (List.mem_cons_of_mem _ (List.mem_append_left _ (List.mem_append_right _ h)))) (List.mem_of_getElem? (i := 1) rfl) dX7_straightShare_16 rfl rfl (by decide) rfl rfl ?_
    refine g_ciV X [wC ct g kc, wS ct (g 1) v] (fun (_ : Unit) => [wC ct g kc, wS ct (g 1) v]) (fun _ => fl [wC ct g kc, wS ct (g 1) v]) 2 [1] [0] 0 (kX5_bentLines l D ct (g 1) v _ hw) (cwV 0 X.1.2.2.2.2 gX7_straightShare_X5_bentLines rfl rfl rfl (by decide +kernel) ⟨Nat.le_of_ble_eq_true rfl, Nat.le_of_ble_eq_true rfl⟩) dX7_straightShare_19 rfl rfl (Nat.le_of_ble_eq_true rfl) ⟨Nat.le_of_ble_eq_true rfl, Nat.le_of_ble_eq_true rfl⟩ rfl rfl rfl (by decide) (fun _ => rfl) (fun _ => rfl) (fun _ => rfl) (fun _ => rfl) rfl rfl rfl (fun r4 _ hw => ?_)
    refine g_isub X dX7_straightShare_22 ?_
    refine g_i2d X dX7_straightShare_23 ?_
    refine g_iload_n X 0 dX7_straightShare_24 rfl rfl ?_
    refine g_i2d X dX7_straightShare_25 ?_
    obtain ⟨h6, hw⟩ := hw
    refine g_ddiv X h6 dX7_straightShare_26 ?_
    exact g_dret X () hw rfl (Nat.le_of_ble_eq_true rfl) (Nat.le_of_ble_eq_true rfl) dX7_straightShare_27
  · replace hw := hw.2 c3
    refine g_dconst1 X dX7_straightShare_12 ?_
    exact g_dret X () hw rfl (Nat.le_of_ble_eq_true rfl) (Nat.le_of_ble_eq_true rfl) dX7_straightShare_13
