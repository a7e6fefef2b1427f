abbrev rmX7_isRow : Room := { frames := 0, cells := 0, slots := 0, locals := 0 }

abbrev GX7_isRow (l : Launch) (D : va_G) (ct : Nat → ClassId) (post : Int32 → Prop) (p : Program) (e : Env) (s : State) (m : MethodId) (args : Array Value) (below : List Frame) (meth : Method) (c : Code) (A : Nat → Prop) (w9 : va_W) (lv : List (Nat × Value)) (pc : Nat) (st : List Value) : Prop :=
  GG p l e rmX7_isRow s m args below meth c D A s.heap 1 (MQ below (va_Qi (fun r (_ : Unit) => post r) (fun u9 t9 => Af D (tyz ct) A ((fun _ => ([] : va_W)) u9) t9) A)  args s 0 0 A) w9 0 0 lv pc st

set_option maxHeartbeats 4000000 in
set_option maxRecDepth 20000 in
theorem kX7_isRow (l : Launch) (D : va_G) (ct : Nat → ClassId) (p1 : Int32) (post : Int32 → Prop) (hw : PX7_isRow p1 post) : Ci (S := Unit) l yX7_isRow wsX7_isRow rmX7_isRow D (tyz ct) [.int p1] (([] : va_W)) (fun r (_ : Unit) => post r) (fun _ => ([] : va_W)) 0 0 := by
  intro sz
  refine g_of (own := RX7) (by decide) rfl rfl (Nat.le_of_ble_eq_true rfl) [(0, .int p1)] rfl (fun p e s m args below meth c hsz X => ?_)
  subst hsz
  unfold PX7_isRow at hw
  refine g_iload_n X 0 dX7_isRow_0 rfl rfl ?_
  refine g_if_lt X 13 dX7_isRow_1 (by decide) (fun c1 => ?_) (fun c1 => ?_)
  · replace hw := hw.1 c1
    refine g_iconst (v := 0) X rfl dX7_isRow_13 ?_
    exact g_zret X () isB_0 hw rfl (Nat.le_of_ble_eq_true rfl) (Nat.le_of_ble_eq_true rfl) dX7_isRow_14
  · replace hw := hw.2 c1
    refine g_iload_n X 0 dX7_isRow_4 rfl rfl ?_
    refine g_iconst (v := 4) X rfl dX7_isRow_5 ?_
    refine g_icmp_ge X 13 dX7_isRow_6 (by decide) (fun c2 => ?_) (fun c2 => ?_)
    · replace hw := hw.1 c2
      refine g_iconst (v := 0) X rfl dX7_isRow_13 ?_
      exact g_zret X () isB_0 hw rfl (Nat.le_of_ble_eq_true rfl) (Nat.le_of_ble_eq_true rfl) dX7_isRow_14
    · replace hw := hw.2 c2
      refine g_iconst (v := 1) X rfl dX7_isRow_9 ?_
      refine g_goto X 14 dX7_isRow_10 (by decide) ?_
      exact g_zret X () isB_1 hw rfl (Nat.le_of_ble_eq_true rfl) (Nat.le_of_ble_eq_true rfl) dX7_isRow_14

abbrev rmX7_allCrossings : Room := { frames := 5, cells := 0, slots := 0, locals := 108 }

abbrev GX7_allCrossings (l : Launch) (D : va_G) (ct : Nat → ClassId) (g : Nat → Nat → Nat) (kc : Mem) (v : Mem) (post : Int32 → Mem → Prop) (p : Program) (e : Env) (s : State) (m : MethodId) (args : Array Value) (below : List Frame) (meth : Method) (c : Code) (A : Nat → Prop) (w9 : va_W) (lv : List (Nat × Value)) (pc : Nat) (st : List Value) : Prop :=
  GG p l e rmX7_allCrossings s m args below meth c D A s.heap 3 (MQ below (va_Qi (fun r (u9 : Mem) => post r u9) (fun u9 t9 => Af D (tyz ct) A ((fun u9 => fl [wC ct g kc, wS ct (g 1) v, wL ct (g 12) u9]) u9) t9) A)  args s 0 0 A) w9 0 0 lv pc st

set_option maxHeartbeats 4000000 in
set_option maxRecDepth 20000 in
theorem kX7_allCrossings_4 (l : Launch) (D : va_G) (ct : Nat → ClassId) (g : Nat → Nat → Nat) (kc : Mem) (v : Mem) (post : Int32 → Mem → Prop) {p : Program} {e : Env} {s : State} {m : MethodId} {args : Array Value} {below : List Frame} {meth : Method} {c : Code} {A : Nat → Prop} (X : Cx p s m args meth c cX7_allCrossings 3 RX7 wsX7_allCrossings D (tyz ct) A s.heap (some .int))  :
    ∀ (n : Nat) (y : Mem) (x1 : Int32) (x2 : Int32), PX7_allCrossings_4 kc v post n y x1 x2 → GX7_allCrossings l D ct g kc v post p e s m args below meth c A (fl [wC ct g kc, wS ct (g 1) v, wL ct (g 12) y]) [(0, .ref (g 0 0)), (1, .int x1), (2, .int x2)] 4 [] := by
  intro n
  induction n with
  | zero =>
    intro y x1 x2 hw
    exact hw.elim
  | succ n ih =>
    intro y x1 x2 hw
    unfold PX7_allCrossings_4 at hw
    refine g_iload_n X 2 dX7_allCrossings_4 rfl rfl ?_
    refine g_iconst (v := 4) X rfl dX7_allCrossings_5 ?_
    refine g_icmp_ge X 37 dX7_allCrossings_6 (by decide) (fun c1 => ?_) (fun c1 => ?_)
    · replace hw := hw.1 c1
      refine g_iload_n X 1 dX7_allCrossings_37 rfl rfl ?_
      exact g_iret X y hw rfl (Nat.le_of_ble_eq_true rfl) (Nat.le_of_ble_eq_true rfl) dX7_allCrossings_38
    · replace hw := hw.2 c1
      refine g_aload_n X 0 dX7_allCrossings_9 rfl rfl ?_
      refine g_get (T := TX7) (C := RX7) (N := 8) (v := .ref (g 12 0)) X 0 5 (fun _ h => (List.mem_cons_of_mem _ (List.mem_append_left _ (List.mem_append_left _ (List.mem_append_right _ h))))) (List.mem_of_getElem? (i := 1) rfl) dX7_allCrossings_10 rfl rfl (by decide) rfl rfl ?_
      refine g_aload_n X 0 dX7_allCrossings_13 rfl rfl ?_
      refine g_get (T := TX7) (C := RX7) (N := 8) (v := .ref (g 1 0)) X 0 0 (fun _ h => (List.mem_cons_of_mem _ (List.mem_append_left _ (List.mem_append_left _ (List.mem_append_right _ h))))) (List.mem_of_getElem? (i := 2) rfl) dX7_allCrossings_14 rfl rfl (by decide) rfl rfl ?_
      refine g_iload_n X 2 dX7_allCrossings_17 rfl rfl ?_
      refine g_cvV X [wC ct g kc, wS ct (g 1) v, wL ct (g 12) y] (fun (u2 : Mem) => [wC ct g kc, wS ct (g 1) v, wL ct (g 12) u2]) (fun (u2 : Mem) => fl [wC ct g kc, wS ct (g 1) v, wL ct (g 12) u2]) 3 [2, 1] [0] 0 (kX2_collect l D ct (g 12) (g 1) y v x2 _ hw) (cwV 2 X.1.2.2.2.2 gX7_allCrossings_X2_collect rfl rfl rfl (by decide +kernel) ⟨Nat.le_of_ble_eq_true rfl, Nat.le_of_ble_eq_true rfl⟩) dX7_allCrossings_18 rfl rfl (Nat.le_of_ble_eq_true rfl) ⟨Nat.le_of_ble_eq_true rfl, Nat.le_of_ble_eq_true rfl⟩ rfl rfl rfl (by decide) (fun _ => rfl) (fun _ => rfl) (fun _ => rfl) (fun _ => rfl) rfl rfl rfl (fun u2 hw => ?_)
      obtain ⟨y3, hy3⟩ : ∃ z : Mem, z = u2 := ⟨_, rfl⟩
      rw [← hy3] at hw
      rw [← hy3]
      refine g_iload_n X 1 dX7_allCrossings_21 rfl rfl ?_
      refine g_aload_n X 0 dX7_allCrossings_22 rfl rfl ?_
      refine g_get (T := TX7) (C := RX7) (N := 8) (v := .ref (g 12 0)) X 0 5 (fun _ h => (List.mem_cons_of_mem _ (List.mem_append_left _ (List.mem_append_left _ (List.mem_append_right _ h))))) (List.mem_of_getElem? (i := 1) rfl) dX7_allCrossings_23 rfl rfl (by decide) rfl rfl ?_
      refine g_ciV X [wC ct g kc, wS ct (g 1) v, wL ct (g 12) y3] (fun (_ : Unit) => [wC ct g kc, wS ct (g 1) v, wL ct (g 12) y3]) (fun _ => fl [wC ct g kc, wS ct (g 1) v, wL ct (g 12) y3]) 3 [2] [0, 1] 0 (kX2_crossedPairs l D ct (g 12) y3 _ hw) (cwV 0 X.1.2.2.2.2 gX7_allCrossings_X2_crossedPairs rfl rfl rfl (by decide +kernel) ⟨Nat.le_of_ble_eq_true rfl, Nat.le_of_ble_eq_true rfl⟩) dX7_allCrossings_26 rfl rfl (Nat.le_of_ble_eq_true rfl) ⟨Nat.le_of_ble_eq_true rfl, Nat.le_of_ble_eq_true rfl⟩ rfl rfl rfl (by decide) (fun _ => rfl) (fun _ => rfl) (fun _ => rfl) (fun _ => rfl) rfl rfl rfl (fun r4 _ hw => ?_)
      refine g_iadd X dX7_allCrossings_29 ?_
      refine g_topi (fun q6 hq6 => ?_)
      replace hw := hw q6 hq6
      refine g_istore_n X [(1, .int q6), (0, .ref (g 0 0)), (2, .int x2)] dX7_allCrossings_30 rfl (by decide) rfl ?_
      refine g_iinc X [(2, .int (x2 + 1)), (1, .int q6), (0, .ref (g 0 0))] 2 dX7_allCrossings_31 rfl rfl (by decide) rfl ?_
      refine g_goto X 4 dX7_allCrossings_34 (by decide) ?_
      refine g_sub [(0, .ref (g 0 0)), (1, .int q6), (2, .int (x2 + 1))] [2, 1, 0] rfl ?_
      exact ih _ _ _ hw

set_option maxHeartbeats 4000000 in
set_option maxRecDepth 20000 in
theorem kX7_allCrossings (l : Launch) (D : va_G) (ct : Nat → ClassId) (g : Nat → Nat → Nat) (kc : Mem) (v : Mem) (y : Mem) (post : Int32 → Mem → Prop) (hw : PX7_allCrossings kc v y post) : Ci (S := Mem) l yX7_allCrossings wsX7_allCrossings rmX7_allCrossings D (tyz ct) [.ref (g 0 0)] (fl [wC ct g kc, wS ct (g 1) v, wL ct (g 12) y]) (fun r (u9 : Mem) => post r u9) (fun u9 => fl [wC ct g kc, wS ct (g 1) v, wL ct (g 12) u9]) 0 0 := by
  intro sz
  refine g_of (own := RX7) (by decide) rfl rfl (Nat.le_of_ble_eq_true rfl) [(0, .ref (g 0 0))] rfl (fun p e s m args below meth c hsz X => ?_)
  subst hsz
  unfold PX7_allCrossings at hw
  refine g_iconst (v := 0) X rfl dX7_allCrossings_0 ?_
  refine g_istore_n X [(1, .int 0), (0, .ref (g 0 0))] dX7_allCrossings_1 rfl (by decide) rfl ?_
  refine g_iconst (v := 0) X rfl dX7_allCrossings_2 ?_
  refine g_istore_n X [(2, .int 0), (1, .int 0), (0, .ref (g 0 0))] dX7_allCrossings_3 rfl (by decide) rfl ?_
  refine g_sub [(0, .ref (g 0 0)), (1, .int 0), (2, .int 0)] [2, 1, 0] rfl ?_
  obtain ⟨n7, hw⟩ := hw
  exact kX7_allCrossings_4 l D ct g kc v post X n7 _ _ _ hw

abbrev rmX7_clearBuffer : Room := { frames := 1, cells := 0, slots := 0, locals := 21 }

abbrev GX7_clearBuffer (l : Launch) (D : va_G) (ct : Nat → ClassId) (g : Nat → Nat → Nat) (kc : Mem) (post : Int32 → Mem → Prop) (p : Program) (e : Env) (s : State) (m : MethodId) (args : Array Value) (below : List Frame) (meth : Method) (c : Code) (A : Nat → Prop) (w9 : va_W) (lv : List (Nat × Value)) (pc : Nat) (st : List Value) : Prop :=
  GG p l e rmX7_clearBuffer s m args below meth c D A s.heap 1 (MQ below (va_Qi (fun r (u9 : Mem) => post r u9) (fun u9 t9 => Af D (tyz ct) A ((fun u9 => fl [wC ct g kc, wT ct (g 11) u9]) u9) t9) A)  args s 0 0 A) w9 0 0 lv pc st

set_option maxHeartbeats 4000000 in
set_option maxRecDepth 20000 in
theorem kX7_clearBuffer (l : Launch) (D : va_G) (ct : Nat → ClassId) (g : Nat → Nat → Nat) (kc : Mem) (tx : Mem) (post : Int32 → Mem → Prop) (hw : PX7_clearBuffer kc tx post) : Ci (S := Mem) l yX7_clearBuffer wsX7_clearBuffer rmX7_clearBuffer D (tyz ct) [.ref (g 0 0)] (fl [wC ct g kc, wT ct (g 11) tx]) (fun r (u9 : Mem) => post r u9) (fun u9 => fl [wC ct g kc, wT ct (g 11) u9]) 0 0 := by
  intro sz
  refine g_of (own := RX7) (by decide) rfl rfl (Nat.le_of_ble_eq_true rfl) [(0, .ref (g 0 0))] rfl (fun p e s m args below meth c hsz X => ?_)
  subst hsz
  unfold PX7_clearBuffer at hw
  refine g_aload_n X 0 dX7_clearBuffer_0 rfl rfl ?_
  refine g_get (T := TX7) (C := RX7) (N := 8) (v := .ref (g 11 0)) X 0 4 (fun _ h => (List.mem_cons_of_mem _ (List.mem_append_left _ (List.mem_append_right _ h)))) (List.mem_of_getElem? (i := 1) rfl) dX7_clearBuffer_1 rfl rfl (by decide) rfl rfl ?_
  refine g_ciV X [wC ct g kc, wT ct (g 11) tx] (fun (u2 : Mem) => [wC ct g kc, wT ct (g 11) u2]) (fun (u2 : Mem) => fl [wC ct g kc, wT ct (g 11) u2]) 2 [1] [0] 0 (kX6_empty l D ct (g 11) tx _ hw) (cwV 0 X.1.2.2.2.2 gX7_clearBuffer_X6_empty rfl rfl rfl (by decide +kernel) ⟨Nat.le_of_ble_eq_true rfl, Nat.le_of_ble_eq_true rfl⟩) dX7_clearBuffer_4 rfl rfl (Nat.le_of_ble_eq_true rfl) ⟨Nat.le_of_ble_eq_true rfl, Nat.le_of_ble_eq_true rfl⟩ rfl rfl rfl (by decide) (fun _ => rfl) (fun _ => rfl) (fun _ => rfl) (fun _ => rfl) rfl rfl rfl (fun r1 u2 hw => ?_)
  obtain ⟨tx3, htx3⟩ : ∃ z : Mem, z = u2 := ⟨_, rfl⟩
  rw [← htx3] at hw
  rw [← htx3]
  exact g_iret X tx3 hw rfl (Nat.le_of_ble_eq_true rfl) (Nat.le_of_ble_eq_true rfl) dX7_clearBuffer_7

abbrev rmX7_firstError : Room := { frames := 4, cells := 0, slots := 0, locals := 85 }

abbrev GX7_firstError (l : Launch) (D : va_G) (ct : Nat → ClassId) (g : Nat → Nat → Nat) (kc : Mem) (tx : Mem) (post : Int32 → Prop) (p : Program) (e : Env) (s : State) (m : MethodId) (args : Array Value) (below : List Frame) (meth : Method) (c : Code) (A : Nat → Prop) (w9 : va_W) (lv : List (Nat × Value)) (pc : Nat) (st : List Value) : Prop :=
  GG p l e rmX7_firstError s m args below meth c D A s.heap 1 (MQ below (va_Qi (fun r (_ : Unit) => post r) (fun u9 t9 => Af D (tyz ct) A ((fun _ => fl [wC ct g kc, wT ct (g 11) tx]) u9) t9) A)  args s 0 0 A) w9 0 0 lv pc st

set_option maxHeartbeats 4000000 in
set_option maxRecDepth 20000 in
theorem kX7_firstError (l : Launch) (D : va_G) (ct : Nat → ClassId) (g : Nat → Nat → Nat) (kc : Mem) (tx : Mem) (post : Int32 → Prop) (hw : PX7_firstError kc tx post) : Ci (S := Unit) l yX7_firstError wsX7_firstError rmX7_firstError D (tyz ct) [.ref (g 0 0)] (fl [wC ct g kc, wT ct (g 11) tx]) (fun r (_ : Unit) => post r) (fun _ => fl [wC ct g kc, wT ct (g 11) tx]) 0 0 := by
  intro sz
  refine g_of (own := RX7) (by decide) rfl rfl (Nat.le_of_ble_eq_true rfl) [(0, .ref (g 0 0))] rfl (fun p e s m args below meth c hsz X => ?_)
  subst hsz
  unfold PX7_firstError at hw
  refine g_aload_n X 0 dX7_firstError_0 rfl rfl ?_
  refine g_get (T := TX7) (C := RX7) (N := 8) (v := .ref (g 11 0)) X 0 4 (fun _ h => (List.mem_cons_of_mem _ (List.mem_append_left _ (List.mem_append_right _ h)))) (List.mem_of_getElem? (i := 1) rfl) dX7_firstError_1 rfl rfl (by decide) rfl rfl ?_
  refine g_ciV X [wC ct g kc, wT ct (g 11) tx] (fun (_ : Unit) => [wC ct g kc, wT ct (g 11) tx]) (fun _ => fl [wC ct g kc, wT ct (g 11) tx]) 2 [1] [0] 0 (kX6_firstBad l D ct (g 11) tx _ hw) (cwV 0 X.1.2.2.2.2 gX7_firstError_X6_firstBad rfl rfl rfl (by decide +kernel) ⟨Nat.le_of_ble_eq_true rfl, Nat.le_of_ble_eq_true rfl⟩) dX7_firstError_4 rfl rfl (Nat.le_of_ble_eq_true rfl) ⟨Nat.le_of_ble_eq_true rfl, Nat.le_of_ble_eq_true rfl⟩ rfl rfl rfl (by decide) (fun _ => rfl) (fun _ => rfl) (fun _ => rfl) (fun _ => rfl) rfl rfl rfl (fun r1 _ hw => ?_)
  exact g_iret X () hw rfl (Nat.le_of_ble_eq_true rfl) (Nat.le_of_ble_eq_true rfl) dX7_firstError_7

abbrev rmX7_doItem : Room := { frames := 4, cells := 0, slots := 0, locals := 90 }

abbrev GX7_doItem (l : Launch) (D : va_G) (ct : Nat → ClassId) (g : Nat → Nat → Nat) (kc : Mem) (tx : Mem) (post : Int32 → Mem → Prop) (p : Program) (e : Env) (s : State) (m : MethodId) (args : Array Value) (below : List Frame) (meth : Method) (c : Code) (A : Nat → Prop) (w9 : va_W) (lv : List (Nat × Value)) (pc : Nat) (st : List Value) : Prop :=
  GG p l e rmX7_doItem s m args below meth c D A s.heap 3 (MQ below (va_Qi (fun r (u9 : Mem) => post r u9) (fun u9 t9 => Af D (tyz ct) A ((fun u9 => fl [wC ct g kc, wS ct (g 1) u9, wT ct (g 11) tx]) u9) t9) A)  args s 0 0 A) w9 0 0 lv pc st

set_option maxHeartbeats 4000000 in
set_option maxRecDepth 20000 in
theorem kX7_doItem (l : Launch) (D : va_G) (ct : Nat → ClassId) (g : Nat → Nat → Nat) (kc : Mem) (v : Mem) (tx : Mem) (post : Int32 → Mem → Prop) (hw : PX7_doItem kc v tx post) : Ci (S := Mem) l yX7_doItem wsX7_doItem rmX7_doItem D (tyz ct) [.ref (g 0 0)] (fl [wC ct g kc, wS ct (g 1) v, wT ct (g 11) tx]) (fun r (u9 : Mem) => post r u9) (fun u9 => fl [wC ct g kc, wS ct (g 1) u9, wT ct (g 11) tx]) 0 0 := by
  intro sz
  refine g_of (own := RX7) (by decide) rfl rfl (Nat.le_of_ble_eq_true rfl) [(0, .ref (g 0 0))] rfl (fun p e s m args below meth c hsz X => ?_)
  subst hsz
  unfold PX7_doItem at hw
  refine g_aload_n X 0 dX7_doItem_0 rfl rfl ?_
  refine g_get (T := TX7) (C := RX7) (N := 8) (v := .ref (g 11 0)) X 0 4 (fun _ h => (List.mem_cons_of_mem _ (List.mem_append_left _ (List.mem_append_left _ (List.mem_append_right _ h))))) (List.mem_of_getElem? (i := 1) rfl) dX7_doItem_1 rfl rfl (by decide) rfl rfl ?_
  refine g_ciV X [wC ct g kc, wS ct (g 1) v, wT ct (g 11) tx] (fun (_ : Unit) => [wC ct g kc, wS ct (g 1) v, wT ct (g 11) tx]) (fun _ => fl [wC ct g kc, wS ct (g 1) v, wT ct (g 11) tx]) 3 [2] [0, 1] 0 (kX6_firstNumber l D ct (g 11) tx _ hw) (cwV 0 X.1.2.2.2.2 gX7_doItem_X6_firstNumber rfl rfl rfl (by decide +kernel) ⟨Nat.le_of_ble_eq_true rfl, Nat.le_of_ble_eq_true rfl⟩) dX7_doItem_4 rfl rfl (Nat.le_of_ble_eq_true rfl) ⟨Nat.le_of_ble_eq_true rfl, Nat.le_of_ble_eq_true rfl⟩ rfl rfl rfl (by decide) (fun _ => rfl) (fun _ => rfl) (fun _ => rfl) (fun _ => rfl) rfl rfl rfl (fun r1 _ hw => ?_)
  refine g_istore_n X [(1, .int r1), (0, .ref (g 0 0))] dX7_doItem_7 rfl (by decide) rfl ?_
  refine g_aload_n X 1 dX7_doItem_8 rfl rfl ?_
  refine g_get (T := TX7) (C := RX7) (N := 8) (v := .ref (g 11 0)) X 0 4 (fun _ h => (List.mem_cons_of_mem _ (List.mem_append_left _ (List.mem_append_left _ (List.mem_append_right _ h))))) (List.mem_of_getElem? (i := 1) rfl) dX7_doItem_9 rfl rfl (by decide) rfl rfl ?_
  refine g_ciV X [wC ct g kc, wS ct (g 1) v, wT ct (g 11) tx] (fun (_ : Unit) => [wC ct g kc, wS ct (g 1) v, wT ct (g 11) tx]) (fun _ => fl [wC ct g kc, wS ct (g 1) v, wT ct (g 11) tx]) 3 [2] [0, 1] 0 (kX6_secondNumber l D ct (g 11) tx _ hw) (cwV 0 X.1.2.2.2.2 gX7_doItem_X6_secondNumber rfl rfl rfl (by decide +kernel) ⟨Nat.le_of_ble_eq_true rfl, Nat.le_of_ble_eq_true rfl⟩) dX7_doItem_12 rfl rfl (Nat.le_of_ble_eq_true rfl) ⟨Nat.le_of_ble_eq_true rfl, Nat.le_of_ble_eq_true rfl⟩ rfl rfl rfl (by decide) (fun _ => rfl) (fun _ => rfl) (fun _ => rfl) (fun _ => rfl) rfl rfl rfl (fun r3 _ hw => ?_)
  refine g_istore_n X [(2, .int r3), (1, .int r1), (0, .ref (g 0 0))] dX7_doItem_15 rfl (by decide) rfl ?_
  refine g_aload_n X 2 dX7_doItem_16 rfl rfl ?_
  refine g_get (T := TX7) (C := RX7) (N := 8) (v := .ref (g 11 0)) X 0 4 (fun _ h => (List.mem_cons_of_mem _ (List.mem_append_left _ (List.mem_append_left _ (List.mem_append_right _ h))))) (List.mem_of_getElem? (i := 1) rfl) dX7_doItem_17 rfl rfl (by decide) rfl rfl ?_
  refine g_ciV X [wC ct g kc, wS ct (g 1) v, wT ct (g 11) tx] (fun (_ : Unit) => [wC ct g kc, wS ct (g 1) v, wT ct (g 11) tx]) (fun _ => fl [wC ct g kc, wS ct (g 1) v, wT ct (g 11) tx]) 3 [2] [0, 1] 0 (kX6_itemKind l D ct (g 11) tx _ hw) (cwV 0 X.1.2.2.2.2 gX7_doItem_X6_itemKind rfl rfl rfl (by decide +kernel) ⟨Nat.le_of_ble_eq_true rfl, Nat.le_of_ble_eq_true rfl⟩) dX7_doItem_20 rfl rfl (Nat.le_of_ble_eq_true rfl) ⟨Nat.le_of_ble_eq_true rfl, Nat.le_of_ble_eq_true rfl⟩ rfl rfl rfl (by decide) (fun _ => rfl) (fun _ => rfl) (fun _ => rfl) (fun _ => rfl) rfl rfl rfl (fun r5 _ hw => ?_)
  by_cases c7 : r5 = 1
  · replace hw := hw.1 c7
    refine g_lookup X 48 (off := 25) dX7_doItem_23 (by decide) (by first | (rw [c7]; done) | (rw [c7]; rfl)) (by decide) ?_
    refine g_aload_n X 2 dX7_doItem_48 rfl rfl ?_
    refine g_get (T := TX7) (C := RX7) (N := 8) (v := .ref (g 1 0)) X 0 0 (fun _ h => (List.mem_cons_of_mem _ (List.mem_append_left _ (List.mem_append_left _ (List.mem_append_right _ h))))) (List.mem_of_getElem? (i := 2) rfl) dX7_doItem_49 rfl rfl (by decide) rfl rfl ?_
    refine g_iload_n X 1 dX7_doItem_52 rfl rfl ?_
    refine g_ciV X [wC ct g kc, wS ct (g 1) v, wT ct (g 11) tx] (fun (_ : Unit) => [wC ct g kc, wS ct (g 1) v, wT ct (g 11) tx]) (fun _ => fl [wC ct g kc, wS ct (g 1) v, wT ct (g 11) tx]) 3 [1] [0, 2] 0 (kX5_isPerson l D ct (g 1) v r1 _ hw) (cwV 1 X.1.2.2.2.2 gX7_doItem_X5_isPerson rfl rfl rfl (by decide +kernel) ⟨Nat.le_of_ble_eq_true rfl, Nat.le_of_ble_eq_true rfl⟩) dX7_doItem_53 rfl rfl (Nat.le_of_ble_eq_true rfl) ⟨Nat.le_of_ble_eq_true rfl, Nat.le_of_ble_eq_true rfl⟩ rfl rfl rfl (by decide) (fun _ => rfl) (fun _ => rfl) (fun _ => rfl) (fun _ => rfl) rfl rfl rfl (fun r8 _ hw => ?_)
    refine g_if_eq X 93 dX7_doItem_56 (by decide) (fun c10 => ?_) (fun c10 => ?_)
    · replace hw := hw.1 c10
      refine g_iconst (v := 0) X rfl dX7_doItem_93 ?_
      exact g_zret X v isB_0 hw rfl (Nat.le_of_ble_eq_true rfl) (Nat.le_of_ble_eq_true rfl) dX7_doItem_94
    · replace hw := hw.2 c10
      refine g_aload_n X 2 dX7_doItem_59 rfl rfl ?_
      refine g_get (T := TX7) (C := RX7) (N := 8) (v := .ref (g 1 0)) X 0 0 (fun _ h => (List.mem_cons_of_mem _ (List.mem_append_left _ (List.mem_append_left _ (List.mem_append_right _ h))))) (List.mem_of_getElem? (i := 2) rfl) dX7_doItem_60 rfl rfl (by decide) rfl rfl ?_
      refine g_iload_n X 0 dX7_doItem_63 rfl rfl ?_
      refine g_ciV X [wC ct g kc, wS ct (g 1) v, wT ct (g 11) tx] (fun (_ : Unit) => [wC ct g kc, wS ct (g 1) v, wT ct (g 11) tx]) (fun _ => fl [wC ct g kc, wS ct (g 1) v, wT ct (g 11) tx]) 3 [1] [0, 2] 0 (kX5_isPerson l D ct (g 1) v r3 _ hw) (cwV 1 X.1.2.2.2.2 gX7_doItem_X5_isPerson rfl rfl rfl (by decide +kernel) ⟨Nat.le_of_ble_eq_true rfl, Nat.le_of_ble_eq_true rfl⟩) dX7_doItem_64 rfl rfl (Nat.le_of_ble_eq_true rfl) ⟨Nat.le_of_ble_eq_true rfl, Nat.le_of_ble_eq_true rfl⟩ rfl rfl rfl (by decide) (fun _ => rfl) (fun _ => rfl) (fun _ => rfl) (fun _ => rfl) rfl rfl rfl (fun r11 _ hw => ?_)
      refine g_if_eq X 93 dX7_doItem_67 (by decide) (fun c13 => ?_) (fun c13 => ?_)
      · replace hw := hw.1 c13
        refine g_iconst (v := 0) X rfl dX7_doItem_93 ?_
        exact g_zret X v isB_0 hw rfl (Nat.le_of_ble_eq_true rfl) (Nat.le_of_ble_eq_true rfl) dX7_doItem_94
      · replace hw := hw.2 c13
        refine g_iload_n X 1 dX7_doItem_70 rfl rfl ?_
        refine g_iload_n X 0 dX7_doItem_71 rfl rfl ?_
        refine g_icmp_eq X 93 dX7_doItem_72 (by decide) (fun c14 => ?_) (fun c14 => ?_)
        · replace hw := hw.1 c14
          refine g_iconst (v := 0) X rfl dX7_doItem_93 ?_
          exact g_zret X v isB_0 hw rfl (Nat.le_of_ble_eq_true rfl) (Nat.le_of_ble_eq_true rfl) dX7_doItem_94
        · replace hw := hw.2 c14
          refine g_aload_n X 2 dX7_doItem_75 rfl rfl ?_
          refine g_get (T := TX7) (C := RX7) (N := 8) (v := .ref (g 1 0)) X 0 0 (fun _ h => (List.mem_cons_of_mem _ (List.mem_append_left _ (List.mem_append_left _ (List.mem_append_right _ h))))) (List.mem_of_getElem? (i := 2) rfl) dX7_doItem_76 rfl rfl (by decide) rfl rfl ?_
          refine g_iload_n X 1 dX7_doItem_79 rfl rfl ?_
          refine g_iload_n X 0 dX7_doItem_80 rfl rfl ?_
          refine g_ciV X [wC ct g kc, wS ct (g 1) v, wT ct (g 11) tx] (fun (u16 : Mem) => [wC ct g kc, wS ct (g 1) u16, wT ct (g 11) tx]) (fun (u16 : Mem) => fl [wC ct g kc, wS ct (g 1) u16, wT ct (g 11) tx]) 3 [1] [0, 2] 0 (kX5_addCouple l D ct (g 1) v r1 r3 _ hw) (cwV 2 X.1.2.2.2.2 gX7_doItem_X5_addCouple rfl rfl rfl (by decide +kernel) ⟨Nat.le_of_ble_eq_true rfl, Nat.le_of_ble_eq_true rfl⟩) dX7_doItem_81 rfl rfl (Nat.le_of_ble_eq_true rfl) ⟨Nat.le_of_ble_eq_true rfl, Nat.le_of_ble_eq_true rfl⟩ rfl rfl rfl (by decide) (fun _ => rfl) (fun _ => rfl) (fun _ => rfl) (fun _ => rfl) rfl rfl rfl (fun r15 u16 hw => ?_)
          obtain ⟨v17, hv17⟩ : ∃ z : Mem, z = u16 := ⟨_, rfl⟩
          rw [← hv17] at hw
          rw [← hv17]
          refine g_bipush (v := 10) X rfl dX7_doItem_84 ?_
          refine g_icmp_lt X 93 dX7_doItem_86 (by decide) (fun c18 => ?_) (fun c18 => ?_)
          · replace hw := hw.1 c18
            refine g_iconst (v := 0) X rfl dX7_doItem_93 ?_
            exact g_zret X v17 isB_0 hw rfl (Nat.le_of_ble_eq_true rfl) (Nat.le_of_ble_eq_true rfl) dX7_doItem_94
          · replace hw := hw.2 c18
            refine g_iconst (v := 1) X rfl dX7_doItem_89 ?_
            refine g_goto X 94 dX7_doItem_90 (by decide) ?_
            exact g_zret X v17 isB_1 hw rfl (Nat.le_of_ble_eq_true rfl) (Nat.le_of_ble_eq_true rfl) dX7_doItem_94
  · replace hw := hw.2 c7
    by_cases c19 : r5 = 2
    · replace hw := hw.1 c19
      refine g_lookup X 95 (off := 72) dX7_doItem_23 (by decide) (by first | (rw [c19]; done) | (rw [c19]; rfl)) (by decide) ?_
      refine g_aload_n X 2 dX7_doItem_95 rfl rfl ?_
      refine g_get (T := TX7) (C := RX7) (N := 8) (v := .ref (g 1 0)) X 0 0 (fun _ h => (List.mem_cons_of_mem _ (List.mem_append_left _ (List.mem_append_left _ (List.mem_append_right _ h))))) (List.mem_of_getElem? (i := 2) rfl) dX7_doItem_96 rfl rfl (by decide) rfl rfl ?_
      refine g_iload_n X 1 dX7_doItem_99 rfl rfl ?_
      refine g_ciV X [wC ct g kc, wS ct (g 1) v, wT ct (g 11) tx] (fun (_ : Unit) => [wC ct g kc, wS ct (g 1) v, wT ct (g 11) tx]) (fun _ => fl [wC ct g kc, wS ct (g 1) v, wT ct (g 11) tx]) 3 [1] [0, 2] 0 (kX5_isCouple l D ct (g 1) v r1 _ hw) (cwV 1 X.1.2.2.2.2 gX7_doItem_X5_isCouple rfl rfl rfl (by decide +kernel) ⟨Nat.le_of_ble_eq_true rfl, Nat.le_of_ble_eq_true rfl⟩) dX7_doItem_100 rfl rfl (Nat.le_of_ble_eq_true rfl) ⟨Nat.le_of_ble_eq_true rfl, Nat.le_of_ble_eq_true rfl⟩ rfl rfl rfl (by decide) (fun _ => rfl) (fun _ => rfl) (fun _ => rfl) (fun _ => rfl) rfl rfl rfl (fun r20 _ hw => ?_)
      refine g_if_eq X 122 dX7_doItem_103 (by decide) (fun c22 => ?_) (fun c22 => ?_)
      · replace hw := hw.1 c22
        refine g_iconst (v := 0) X rfl dX7_doItem_122 ?_
        exact g_zret X v isB_0 hw rfl (Nat.le_of_ble_eq_true rfl) (Nat.le_of_ble_eq_true rfl) dX7_doItem_123
      · replace hw := hw.2 c22
        refine g_aload_n X 2 dX7_doItem_106 rfl rfl ?_
        refine g_get (T := TX7) (C := RX7) (N := 8) (v := .ref (g 1 0)) X 0 0 (fun _ h => (List.mem_cons_of_mem _ (List.mem_append_left _ (List.mem_append_left _ (List.mem_append_right _ h))))) (List.mem_of_getElem? (i := 2) rfl) dX7_doItem_107 rfl rfl (by decide) rfl rfl ?_
        refine g_iload_n X 1 dX7_doItem_110 rfl rfl ?_
        refine g_ciV X [wC ct g kc, wS ct (g 1) v, wT ct (g 11) tx] (fun (u24 : Mem) => [wC ct g kc, wS ct (g 1) u24, wT ct (g 11) tx]) (fun (u24 : Mem) => fl [wC ct g kc, wS ct (g 1) u24, wT ct (g 11) tx]) 3 [1] [0, 2] 0 (kX5_addChild l D ct (g 1) v r1 _ hw) (cwV 1 X.1.2.2.2.2 gX7_doItem_X5_addChild rfl rfl rfl (by decide +kernel) ⟨Nat.le_of_ble_eq_true rfl, Nat.le_of_ble_eq_true rfl⟩) dX7_doItem_111 rfl rfl (Nat.le_of_ble_eq_true rfl) ⟨Nat.le_of_ble_eq_true rfl, Nat.le_of_ble_eq_true rfl⟩ rfl rfl rfl (by decide) (fun _ => rfl) (fun _ => rfl) (fun _ => rfl) (fun _ => rfl) rfl rfl rfl (fun r23 u24 hw => ?_)
        obtain ⟨v25, hv25⟩ : ∃ z : Mem, z = u24 := ⟨_, rfl⟩
        rw [← hv25] at hw
        rw [← hv25]
        refine g_iconst (v := (-1)) X rfl dX7_doItem_114 ?_
        refine g_icmp_eq X 122 dX7_doItem_115 (by decide) (fun c26 => ?_) (fun c26 => ?_)
        · replace hw := hw.1 c26
          refine g_iconst (v := 0) X rfl dX7_doItem_122 ?_
          exact g_zret X v25 isB_0 hw rfl (Nat.le_of_ble_eq_true rfl) (Nat.le_of_ble_eq_true rfl) dX7_doItem_123
        · replace hw := hw.2 c26
          refine g_iconst (v := 1) X rfl dX7_doItem_118 ?_
          refine g_goto X 123 dX7_doItem_119 (by decide) ?_
          exact g_zret X v25 isB_1 hw rfl (Nat.le_of_ble_eq_true rfl) (Nat.le_of_ble_eq_true rfl) dX7_doItem_123
    · replace hw := hw.2 c19
      refine g_lookup X 124 (off := 101) dX7_doItem_23 (by decide) ((lv_osw c7 rfl).trans ((lv_osw c19 rfl).trans (rfl))) (by decide) ?_
      refine g_iload_n X 1 dX7_doItem_124 rfl rfl ?_
      refine g_ciS X [wC ct g kc, wS ct (g 1) v, wT ct (g 11) tx] (fun (_ : Unit) => [wC ct g kc, wS ct (g 1) v, wT ct (g 11) tx]) (fun _ => fl [wC ct g kc, wS ct (g 1) v, wT ct (g 11) tx]) 3 [] [0, 1, 2] (kX7_isRow l D ct  r1 _ hw) (va_cwS 1 X.1.2.2.2.2 gX7_doItem_X7_isRow rfl rfl rfl (by decide +kernel) ⟨Nat.le_of_ble_eq_true rfl, Nat.le_of_ble_eq_true rfl⟩) dX7_doItem_125 rfl rfl (Nat.le_of_ble_eq_true rfl) ⟨Nat.le_of_ble_eq_true rfl, Nat.le_of_ble_eq_true rfl⟩ rfl rfl rfl (by decide) (fun _ => rfl) (fun _ => rfl) (fun _ => rfl) (fun _ => rfl) (fun r27 _ hw => ?_)
      refine g_if_eq X 148 dX7_doItem_128 (by decide) (fun c29 => ?_) (fun c29 => ?_)
      · replace hw := hw.1 c29
        refine g_iconst (v := 0) X rfl dX7_doItem_148 ?_
        exact g_zret X v isB_0 hw rfl (Nat.le_of_ble_eq_true rfl) (Nat.le_of_ble_eq_true rfl) dX7_doItem_149
      · replace hw := hw.2 c29
        refine g_aload_n X 2 dX7_doItem_131 rfl rfl ?_
        refine g_get (T := TX7) (C := RX7) (N := 8) (v := .ref (g 1 0)) X 0 0 (fun _ h => (List.mem_cons_of_mem _ (List.mem_append_left _ (List.mem_append_left _ (List.mem_append_right _ h))))) (List.mem_of_getElem? (i := 2) rfl) dX7_doItem_132 rfl rfl (by decide) rfl rfl ?_
        refine g_iload_n X 1 dX7_doItem_135 rfl rfl ?_
        refine g_iconst (v := (-1)) X rfl dX7_doItem_136 ?_
        refine g_ciV X [wC ct g kc, wS ct (g 1) v, wT ct (g 11) tx] (fun (u31 : Mem) => [wC ct g kc, wS ct (g 1) u31, wT ct (g 11) tx]) (fun (u31 : Mem) => fl [wC ct g kc, wS ct (g 1) u31, wT ct (g 11) tx]) 3 [1] [0, 2] 0 (kX5_addPerson l D ct (g 1) v r1 ((-1)) _ hw) (cwV 2 X.1.2.2.2.2 gX7_doItem_X5_addPerson rfl rfl rfl (by decide +kernel) ⟨Nat.le_of_ble_eq_true rfl, Nat.le_of_ble_eq_true rfl⟩) dX7_doItem_137 rfl rfl (Nat.le_of_ble_eq_true rfl) ⟨Nat.le_of_ble_eq_true rfl, Nat.le_of_ble_eq_true rfl⟩ rfl rfl rfl (by decide) (fun _ => rfl) (fun _ => rfl) (fun _ => rfl) (fun _ => rfl) rfl rfl rfl (fun r30 u31 hw => ?_)
        obtain ⟨v32, hv32⟩ : ∃ z : Mem, z = u31 := ⟨_, rfl⟩
        rw [← hv32] at hw
        rw [← hv32]
        refine g_iconst (v := (-1)) X rfl dX7_doItem_140 ?_
        refine g_icmp_eq X 148 dX7_doItem_141 (by decide) (fun c33 => ?_) (fun c33 => ?_)
        · replace hw := hw.1 c33
          refine g_iconst (v := 0) X rfl dX7_doItem_148 ?_
          exact g_zret X v32 isB_0 hw rfl (Nat.le_of_ble_eq_true rfl) (Nat.le_of_ble_eq_true rfl) dX7_doItem_149
        · replace hw := hw.2 c33
          refine g_iconst (v := 1) X rfl dX7_doItem_144 ?_
          refine g_goto X 149 dX7_doItem_145 (by decide) ?_
          exact g_zret X v32 isB_1 hw rfl (Nat.le_of_ble_eq_true rfl) (Nat.le_of_ble_eq_true rfl) dX7_doItem_149

abbrev rmX7_isSlot : Room := { frames := 0, cells := 0, slots := 0, locals := 0 }

abbrev GX7_isSlot (l : Launch) (D : va_G) (ct : Nat → ClassId) (post : Int32 → Prop) (p : Program) (e : Env) (s : State) (m : MethodId) (args : Array Value) (below : List Frame) (meth : Method) (c : Code) (A : Nat → Prop) (w9 : va_W) (lv : List (Nat × Value)) (pc : Nat) (st : List Value) : Prop :=
  GG p l e rmX7_isSlot s m args below meth c D A s.heap 1 (MQ below (va_Qi (fun r (_ : Unit) => post r) (fun u9 t9 => Af D (tyz ct) A ((fun _ => ([] : va_W)) u9) t9) A)  args s 0 0 A) w9 0 0 lv pc st

set_option maxHeartbeats 4000000 in
set_option maxRecDepth 20000 in
theorem kX7_isSlot (l : Launch) (D : va_G) (ct : Nat → ClassId) (p1 : Int32) (post : Int32 → Prop) (hw : PX7_isSlot p1 post) : Ci (S := Unit) l yX7_isSlot wsX7_isSlot rmX7_isSlot D (tyz ct) [.int p1] (([] : va_W)) (fun r (_ : Unit) => post r) (fun _ => ([] : va_W)) 0 0 := by
  intro sz
  refine g_of (own := RX7) (by decide) rfl rfl (Nat.le_of_ble_eq_true rfl) [(0, .int p1)] rfl (fun p e s m args below meth c hsz X => ?_)
  subst hsz
  unfold PX7_isSlot at hw
  refine g_iload_n X 0 dX7_isSlot_0 rfl rfl ?_
  refine g_if_lt X 13 dX7_isSlot_1 (by decide) (fun c1 => ?_) (fun c1 => ?_)
  · replace hw := hw.1 c1
    refine g_iconst (v := 0) X rfl dX7_isSlot_13 ?_
    exact g_zret X () isB_0 hw rfl (Nat.le_of_ble_eq_true rfl) (Nat.le_of_ble_eq_true rfl) dX7_isSlot_14
  · replace hw := hw.2 c1
    refine g_iload_n X 0 dX7_isSlot_4 rfl rfl ?_
    refine g_iconst (v := 2) X rfl dX7_isSlot_5 ?_
    refine g_icmp_ge X 13 dX7_isSlot_6 (by decide) (fun c2 => ?_) (fun c2 => ?_)
    · replace hw := hw.1 c2
      refine g_iconst (v := 0) X rfl dX7_isSlot_13 ?_
      exact g_zret X () isB_0 hw rfl (Nat.le_of_ble_eq_true rfl) (Nat.le_of_ble_eq_true rfl) dX7_isSlot_14
    · replace hw := hw.2 c2
      refine g_iconst (v := 1) X rfl dX7_isSlot_9 ?_
      refine g_goto X 14 dX7_isSlot_10 (by decide) ?_
      exact g_zret X () isB_1 hw rfl (Nat.le_of_ble_eq_true rfl) (Nat.le_of_ble_eq_true rfl) dX7_isSlot_14

abbrev rmX7_personOf_nt : Room := { frames := 4, cells := 0, slots := 0, locals := 87 }

abbrev GX7_personOf_nt (l : Launch) (D : va_G) (ct : Nat → ClassId) (g : Nat → Nat → Nat) (kc : Mem) (v : Mem) (post : Int32 → Prop) (p : Program) (e : Env) (s : State) (m : MethodId) (args : Array Value) (below : List Frame) (meth : Method) (c : Code) (A : Nat → Prop) (w9 : va_W) (lv : List (Nat × Value)) (pc : Nat) (st : List Value) : Prop :=
  GG p l e rmX7_personOf_nt s m args below meth c D A s.heap 3 (MQ below (va_Qi (fun r (_ : Unit) => post r) (fun u9 t9 => Af D (tyz ct) A ((fun _ => fl [wC ct g kc, wS ct (g 1) v]) u9) t9) A)  args s 0 0 A) w9 0 0 lv pc st

set_option maxHeartbeats 4000000 in
set_option maxRecDepth 20000 in
theorem kX7_personOf_nt (l : Launch) (D : va_G) (ct : Nat → ClassId) (g : Nat → Nat → Nat) (kc : Mem) (v : Mem) (p1 : Int32) (p2 : Int32) (post : Int32 → Prop) (hw : PX7_personOf_nt kc v p1 p2 post) : Ci (S := Unit) l yX7_personOf wsX7_personOf rmX7_personOf_nt D (tyz ct) [.ref (g 0 0), .int p1, .int p2] (fl [wC ct g kc, wS ct (g 1) v]) (fun r (_ : Unit) => post r) (fun _ => fl [wC ct g kc, wS ct (g 1) v]) 0 0 := by
  intro sz
  refine g_of (own := RX7) (by decide) rfl rfl (Nat.le_of_ble_eq_true rfl) [(0, .ref (g 0 0)), (1, .int p1), (2, .int p2)] rfl (fun p e s m args below meth c hsz X => ?_)
  subst hsz
  unfold PX7_personOf_nt at hw
  refine g_aload_n X 0 dX7_personOf_0 rfl rfl ?_
  refine g_get (T := TX7) (C := RX7) (N := 8) (v := .ref (g 1 0)) X 0 0 (fun _ h => (List.mem_cons_of_mem _ (List.mem_append_left _ (List.mem_append_left _ (List.mem_append_left _ (List.mem_append_right _ h)))))) (List.mem_of_getElem? (i := 5) rfl) dX7_personOf_1 rfl rfl (by decide) rfl rfl ?_
  refine g_iload_n X 1 dX7_personOf_4 rfl rfl ?_
  refine g_ciV X [wC ct g kc, wS ct (g 1) v] (fun (_ : Unit) => [wC ct g kc, wS ct (g 1) v]) (fun _ => fl [wC ct g kc, wS ct (g 1) v]) 2 [1] [0] 0 (kX5_isPerson l D ct (g 1) v p1 _ hw) (cwV 1 X.1.2.2.2.2 gX7_personOf_X5_isPerson rfl rfl rfl (by decide +kernel) ⟨Nat.le_of_ble_eq_true rfl, Nat.le_of_ble_eq_true rfl⟩) dX7_personOf_5 rfl rfl (Nat.le_of_ble_eq_true rfl) ⟨Nat.le_of_ble_eq_true rfl, Nat.le_of_ble_eq_true rfl⟩ rfl rfl rfl (by decide) (fun _ => rfl) (fun _ => rfl) (fun _ => rfl) (fun _ => rfl) rfl rfl rfl (fun r1 _ hw => ?_)
  refine g_if_ne X 21 dX7_personOf_8 (by decide) (fun c3 => ?_) (fun c3 => ?_)
  · replace hw := hw.1 c3
    refine g_iload_n X 2 dX7_personOf_21 rfl rfl ?_
    by_cases c4 : p2 = 0
    · replace hw := hw.1 c4
      refine g_tableIn X 64 dX7_personOf_22 (by rw [c4]; decide) (by rw [c4]; decide) (by rw [c4]; rfl) (by decide) ?_
      refine g_aload_n X 0 dX7_personOf_64 rfl rfl ?_
      refine g_get (T := TX7) (C := RX7) (N := 8) (v := .ref (g 1 0)) X 0 0 (fun _ h => (List.mem_cons_of_mem _ (List.mem_append_left _ (List.mem_append_left _ (List.mem_append_left _ (List.mem_append_right _ h)))))) (List.mem_of_getElem? (i := 5) rfl) dX7_personOf_65 rfl rfl (by decide) rfl rfl ?_
      refine g_iload_n X 1 dX7_personOf_68 rfl rfl ?_
      refine g_ciV X [wC ct g kc, wS ct (g 1) v] (fun (_ : Unit) => [wC ct g kc, wS ct (g 1) v]) (fun _ => fl [wC ct g kc, wS ct (g 1) v]) 2 [1] [0] 0 (kX5_rowOf l D ct (g 1) v p1 _ hw) (cwV 1 X.1.2.2.2.2 gX7_personOf_X5_rowOf rfl rfl rfl (by decide +kernel) ⟨Nat.le_of_ble_eq_true rfl, Nat.le_of_ble_eq_true rfl⟩) dX7_personOf_69 rfl rfl (Nat.le_of_ble_eq_true rfl) ⟨Nat.le_of_ble_eq_true rfl, Nat.le_of_ble_eq_true rfl⟩ rfl rfl rfl (by decide) (fun _ => rfl) (fun _ => rfl) (fun _ => rfl) (fun _ => rfl) rfl rfl rfl (fun r5 _ hw => ?_)
      exact g_iret X () hw rfl (Nat.le_of_ble_eq_true rfl) (Nat.le_of_ble_eq_true rfl) dX7_personOf_72
    · replace hw := hw.2 c4
      by_cases c7 : p2 = 1
      · replace hw := hw.1 c7
        refine g_tableIn X 73 dX7_personOf_22 (by rw [c7]; decide) (by rw [c7]; decide) (by rw [c7]; rfl) (by decide) ?_
        refine g_aload_n X 0 dX7_personOf_73 rfl rfl ?_
        refine g_get (T := TX7) (C := RX7) (N := 8) (v := .ref (g 1 0)) X 0 0 (fun _ h => (List.mem_cons_of_mem _ (List.mem_append_left _ (List.mem_append_left _ (List.mem_append_left _ (List.mem_append_right _ h)))))) (List.mem_of_getElem? (i := 5) rfl) dX7_personOf_74 rfl rfl (by decide) rfl rfl ?_
        refine g_iload_n X 1 dX7_personOf_77 rfl rfl ?_
        refine g_ciV X [wC ct g kc, wS ct (g 1) v] (fun (_ : Unit) => [wC ct g kc, wS ct (g 1) v]) (fun _ => fl [wC ct g kc, wS ct (g 1) v]) 2 [1] [0] 0 (kX5_placeOf l D ct (g 1) v p1 _ hw) (cwV 1 X.1.2.2.2.2 gX7_personOf_X5_placeOf rfl rfl rfl (by decide +kernel) ⟨Nat.le_of_ble_eq_true rfl, Nat.le_of_ble_eq_true rfl⟩) dX7_personOf_78 rfl rfl (Nat.le_of_ble_eq_true rfl) ⟨Nat.le_of_ble_eq_true rfl, Nat.le_of_ble_eq_true rfl⟩ rfl rfl rfl (by decide) (fun _ => rfl) (fun _ => rfl) (fun _ => rfl) (fun _ => rfl) rfl rfl rfl (fun r8 _ hw => ?_)
        exact g_iret X () hw rfl (Nat.le_of_ble_eq_true rfl) (Nat.le_of_ble_eq_true rfl) dX7_personOf_81
      · replace hw := hw.2 c7
        by_cases c10 : p2 = 2
        · replace hw := hw.1 c10
          refine g_tableIn X 82 dX7_personOf_22 (by rw [c10]; decide) (by rw [c10]; decide) (by rw [c10]; rfl) (by decide) ?_
          refine g_aload_n X 0 dX7_personOf_82 rfl rfl ?_
          refine g_get (T := TX7) (C := RX7) (N := 8) (v := .ref (g 1 0)) X 0 0 (fun _ h => (List.mem_cons_of_mem _ (List.mem_append_left _ (List.mem_append_left _ (List.mem_append_left _ (List.mem_append_right _ h)))))) (List.mem_of_getElem? (i := 5) rfl) dX7_personOf_83 rfl rfl (by decide) rfl rfl ?_
          refine g_iload_n X 1 dX7_personOf_86 rfl rfl ?_
          refine g_ciV X [wC ct g kc, wS ct (g 1) v] (fun (_ : Unit) => [wC ct g kc, wS ct (g 1) v]) (fun _ => fl [wC ct g kc, wS ct (g 1) v]) 2 [1] [0] 0 (kX5_parentsOf l D ct (g 1) v p1 _ hw) (cwV 1 X.1.2.2.2.2 gX7_personOf_X5_parentsOf rfl rfl rfl (by decide +kernel) ⟨Nat.le_of_ble_eq_true rfl, Nat.le_of_ble_eq_true rfl⟩) dX7_personOf_87 rfl rfl (Nat.le_of_ble_eq_true rfl) ⟨Nat.le_of_ble_eq_true rfl, Nat.le_of_ble_eq_true rfl⟩ rfl rfl rfl (by decide) (fun _ => rfl) (fun _ => rfl) (fun _ => rfl) (fun _ => rfl) rfl rfl rfl (fun r11 _ hw => ?_)
          exact g_iret X () hw rfl (Nat.le_of_ble_eq_true rfl) (Nat.le_of_ble_eq_true rfl) dX7_personOf_90
        · replace hw := hw.2 c10
          by_cases c13 : p2 = 3
          · replace hw := hw.1 c13
            refine g_tableIn X 91 dX7_personOf_22 (by rw [c13]; decide) (by rw [c13]; decide) (by rw [c13]; rfl) (by decide) ?_
            refine g_aload_n X 0 dX7_personOf_91 rfl rfl ?_
            refine g_get (T := TX7) (C := RX7) (N := 8) (v := .ref (g 1 0)) X 0 0 (fun _ h => (List.mem_cons_of_mem _ (List.mem_append_left _ (List.mem_append_left _ (List.mem_append_left _ (List.mem_append_right _ h)))))) (List.mem_of_getElem? (i := 5) rfl) dX7_personOf_92 rfl rfl (by decide) rfl rfl ?_
            refine g_iload_n X 1 dX7_personOf_95 rfl rfl ?_
            refine g_ciV X [wC ct g kc, wS ct (g 1) v] (fun (_ : Unit) => [wC ct g kc, wS ct (g 1) v]) (fun _ => fl [wC ct g kc, wS ct (g 1) v]) 2 [1] [0] 0 (kX5_couplesWith l D ct (g 1) v p1 _ hw) (cwV 1 X.1.2.2.2.2 gX7_personOf_X5_couplesWith rfl rfl rfl (by decide +kernel) ⟨Nat.le_of_ble_eq_true rfl, Nat.le_of_ble_eq_true rfl⟩) dX7_personOf_96 rfl rfl (Nat.le_of_ble_eq_true rfl) ⟨Nat.le_of_ble_eq_true rfl, Nat.le_of_ble_eq_true rfl⟩ rfl rfl rfl (by decide) (fun _ => rfl) (fun _ => rfl) (fun _ => rfl) (fun _ => rfl) rfl rfl rfl (fun r14 _ hw => ?_)
            exact g_iret X () hw rfl (Nat.le_of_ble_eq_true rfl) (Nat.le_of_ble_eq_true rfl) dX7_personOf_99
          · replace hw := hw.2 c13
            by_cases c16 : p2 = 4
            · replace hw := hw.1 c16
              refine g_tableIn X 100 dX7_personOf_22 (by rw [c16]; decide) (by rw [c16]; decide) (by rw [c16]; rfl) (by decide) ?_
              refine g_aload_n X 0 dX7_personOf_100 rfl rfl ?_
              refine g_get (T := TX7) (C := RX7) (N := 8) (v := .ref (g 1 0)) X 0 0 (fun _ h => (List.mem_cons_of_mem _ (List.mem_append_left _ (List.mem_append_left _ (List.mem_append_left _ (List.mem_append_right _ h)))))) (List.mem_of_getElem? (i := 5) rfl) dX7_personOf_101 rfl rfl (by decide) rfl rfl ?_
              refine g_iload_n X 1 dX7_personOf_104 rfl rfl ?_
              refine g_ciV X [wC ct g kc, wS ct (g 1) v] (fun (_ : Unit) => [wC ct g kc, wS ct (g 1) v]) (fun _ => fl [wC ct g kc, wS ct (g 1) v]) 2 [1] [0] 0 (kX5_childrenWith l D ct (g 1) v p1 _ hw) (cwV 1 X.1.2.2.2.2 gX7_personOf_X5_childrenWith rfl rfl rfl (by decide +kernel) ⟨Nat.le_of_ble_eq_true rfl, Nat.le_of_ble_eq_true rfl⟩) dX7_personOf_105 rfl rfl (Nat.le_of_ble_eq_true rfl) ⟨Nat.le_of_ble_eq_true rfl, Nat.le_of_ble_eq_true rfl⟩ rfl rfl rfl (by decide) (fun _ => rfl) (fun _ => rfl) (fun _ => rfl) (fun _ => rfl) rfl rfl rfl (fun r17 _ hw => ?_)
              exact g_iret X () hw rfl (Nat.le_of_ble_eq_true rfl) (Nat.le_of_ble_eq_true rfl) dX7_personOf_108
            · replace hw := hw.2 c16
              by_cases c19 : p2 = 5
              · replace hw := hw.1 c19
                refine g_tableIn X 109 dX7_personOf_22 (by rw [c19]; decide) (by rw [c19]; decide) (by rw [c19]; rfl) (by decide) ?_
                refine g_aload_n X 0 dX7_personOf_109 rfl rfl ?_
                refine g_get (T := TX7) (C := RX7) (N := 8) (v := .ref (g 1 0)) X 0 0 (fun _ h => (List.mem_cons_of_mem _ (List.mem_append_left _ (List.mem_append_left _ (List.mem_append_left _ (List.mem_append_right _ h)))))) (List.mem_of_getElem? (i := 5) rfl) dX7_personOf_110 rfl rfl (by decide) rfl rfl ?_
                refine g_iload_n X 1 dX7_personOf_113 rfl rfl ?_
                refine g_ciS X [wC ct g kc, wS ct (g 1) v] (fun (_ : Unit) => [wC ct g kc, wS ct (g 1) v]) (fun _ => fl [wC ct g kc, wS ct (g 1) v]) 2 [1] [0] (kX0_descendants l D ct (g 1) v p1 _ hw) (va_cwS 2 X.1.2.2.2.2 gX7_personOf_X0_descendants rfl rfl rfl (by decide +kernel) ⟨Nat.le_of_ble_eq_true rfl, Nat.le_of_ble_eq_true rfl⟩) dX7_personOf_114 rfl rfl (Nat.le_of_ble_eq_true rfl) ⟨Nat.le_of_ble_eq_true rfl, Nat.le_of_ble_eq_true rfl⟩ rfl rfl rfl (by decide) (fun _ => rfl) (fun _ => rfl) (fun _ => rfl) (fun _ => rfl) (fun r20 _ hw => ?_)
                refine g_ciS X [wC ct g kc, wS ct (g 1) v] (fun (_ : Unit) => [wC ct g kc, wS ct (g 1) v]) (fun _ => fl [wC ct g kc, wS ct (g 1) v]) 2 [] [0, 1] (kJ6_bitCount_0f7a4 l D ct  r20 _ hw) (va_cwS 1 X.1.2.2.2.2 gX7_personOf_J6_bitCount_0f7a4 rfl rfl rfl (by decide +kernel) ⟨Nat.le_of_ble_eq_true rfl, Nat.le_of_ble_eq_true rfl⟩) dX7_personOf_117 rfl rfl (Nat.le_of_ble_eq_true rfl) ⟨Nat.le_of_ble_eq_true rfl, Nat.le_of_ble_eq_true rfl⟩ rfl rfl rfl (by decide) (fun _ => rfl) (fun _ => rfl) (fun _ => rfl) (fun _ => rfl) (fun r22 _ hw => ?_)
                exact g_iret X () hw rfl (Nat.le_of_ble_eq_true rfl) (Nat.le_of_ble_eq_true rfl) dX7_personOf_120
              · replace hw := hw.2 c19
                by_cases c24 : p2 = 6
                · replace hw := hw.1 c24
                  refine g_tableIn X 121 dX7_personOf_22 (by rw [c24]; decide) (by rw [c24]; decide) (by rw [c24]; rfl) (by decide) ?_
                  refine g_aload_n X 0 dX7_personOf_121 rfl rfl ?_
                  refine g_get (T := TX7) (C := RX7) (N := 8) (v := .ref (g 1 0)) X 0 0 (fun _ h => (List.mem_cons_of_mem _ (List.mem_append_left _ (List.mem_append_left _ (List.mem_append_left _ (List.mem_append_right _ h)))))) (List.mem_of_getElem? (i := 5) rfl) dX7_personOf_122 rfl rfl (by decide) rfl rfl ?_
                  refine g_iload_n X 1 dX7_personOf_125 rfl rfl ?_
                  refine g_ciS X [wC ct g kc, wS ct (g 1) v] (fun (_ : Unit) => [wC ct g kc, wS ct (g 1) v]) (fun _ => fl [wC ct g kc, wS ct (g 1) v]) 2 [1] [0] (kX0_ancestors l D ct (g 1) v p1 _ hw) (va_cwS 2 X.1.2.2.2.2 gX7_personOf_X0_ancestors rfl rfl rfl (by decide +kernel) ⟨Nat.le_of_ble_eq_true rfl, Nat.le_of_ble_eq_true rfl⟩) dX7_personOf_126 rfl rfl (Nat.le_of_ble_eq_true rfl) ⟨Nat.le_of_ble_eq_true rfl, Nat.le_of_ble_eq_true rfl⟩ rfl rfl rfl (by decide) (fun _ => rfl) (fun _ => rfl) (fun _ => rfl) (fun _ => rfl) (fun r25 _ hw => ?_)
                  refine g_ciS X [wC ct g kc, wS ct (g 1) v] (fun (_ : Unit) => [wC ct g kc, wS ct (g 1) v]) (fun _ => fl [wC ct g kc, wS ct (g 1) v]) 2 [] [0, 1] (kJ6_bitCount_0f7a4 l D ct  r25 _ hw) (va_cwS 1 X.1.2.2.2.2 gX7_personOf_J6_bitCount_0f7a4 rfl rfl rfl (by decide +kernel) ⟨Nat.le_of_ble_eq_true rfl, Nat.le_of_ble_eq_true rfl⟩) dX7_personOf_129 rfl rfl (Nat.le_of_ble_eq_true rfl) ⟨Nat.le_of_ble_eq_true rfl, Nat.le_of_ble_eq_true rfl⟩ rfl rfl rfl (by decide) (fun _ => rfl) (fun _ => rfl) (fun _ => rfl) (fun _ => rfl) (fun r27 _ hw => ?_)
                  exact g_iret X () hw rfl (Nat.le_of_ble_eq_true rfl) (Nat.le_of_ble_eq_true rfl) dX7_personOf_132
                · replace hw := hw.2 c24
                  refine g_tableOut X 133 dX7_personOf_22 (by have tc4 := lv_neT c4 (show (0 : Int32).toInt = 0 from rfl); have tc7 := lv_neT c7 (show (1 : Int32).toInt = 1 from rfl); have tc10 := lv_neT c10 (show (2 : Int32).toInt = 2 from rfl); have tc13 := lv_neT c13 (show (3 : Int32).toInt = 3 from rfl); have tc16 := lv_neT c16 (show (4 : Int32).toInt = 4 from rfl); have tc19 := lv_neT c19 (show (5 : Int32).toInt = 5 from rfl); have tc24 := lv_neT c24 (show (6 : Int32).toInt = 6 from rfl); omega) (by decide) ?_
                  exact hw.elim
  · replace hw := hw.2 c3
    exact hw.elim

abbrev rmX7_coupleOf_nt : Room := { frames := 5, cells := 0, slots := 0, locals := 108 }

abbrev GX7_coupleOf_nt (l : Launch) (D : va_G) (ct : Nat → ClassId) (g : Nat → Nat → Nat) (kc : Mem) (v : Mem) (post : Int32 → Prop) (p : Program) (e : Env) (s : State) (m : MethodId) (args : Array Value) (below : List Frame) (meth : Method) (c : Code) (A : Nat → Prop) (w9 : va_W) (lv : List (Nat × Value)) (pc : Nat) (st : List Value) : Prop :=
  GG p l e rmX7_coupleOf_nt s m args below meth c D A s.heap 3 (MQ below (va_Qi (fun r (_ : Unit) => post r) (fun u9 t9 => Af D (tyz ct) A ((fun _ => fl [wC ct g kc, wS ct (g 1) v]) u9) t9) A)  args s 0 0 A) w9 0 0 lv pc st

set_option maxHeartbeats 4000000 in
set_option maxRecDepth 20000 in
theorem kX7_coupleOf_nt (l : Launch) (D : va_G) (ct : Nat → ClassId) (g : Nat → Nat → Nat) (kc : Mem) (v : Mem) (p1 : Int32) (p2 : Int32) (post : Int32 → Prop) (hw : PX7_coupleOf_nt kc v p1 p2 post) : Ci (S := Unit) l yX7_coupleOf wsX7_coupleOf rmX7_coupleOf_nt D (tyz ct) [.ref (g 0 0), .int p1, .int p2] (fl [wC ct g kc, wS ct (g 1) v]) (fun r (_ : Unit) => post r) (fun _ => fl [wC ct g kc, wS ct (g 1) v]) 0 0 := by
  intro sz
  refine g_of (own := RX7) (by decide) rfl rfl (Nat.le_of_ble_eq_true rfl) [(0, .ref (g 0 0)), (1, .int p1), (2, .int p2)] rfl (fun p e s m args below meth c hsz X => ?_)
  subst hsz
  unfold PX7_coupleOf_nt at hw
  refine g_aload_n X 0 dX7_coupleOf_0 rfl rfl ?_
  refine g_get (T := TX7) (C := RX7) (N := 8) (v := .ref (g 1 0)) X 0 0 (fun _ h => (List.mem_cons_of_mem _ (List.mem_append_left _ (List.mem_append_left _ (List.mem_append_left _ (List.mem_append_right _ h)))))) (List.mem_of_getElem? (i := 5) rfl) dX7_coupleOf_1 rfl rfl (by decide) rfl rfl ?_
  refine g_iload_n X 1 dX7_coupleOf_4 rfl rfl ?_
  refine g_ciV X [wC ct g kc, wS ct (g 1) v] (fun (_ : Unit) => [wC ct g kc, wS ct (g 1) v]) (fun _ => fl [wC ct g kc, wS ct (g 1) v]) 2 [1] [0] 0 (kX5_isCouple l D ct (g 1) v p1 _ hw) (cwV 1 X.1.2.2.2.2 gX7_coupleOf_X5_isCouple rfl rfl rfl (by decide +kernel) ⟨Nat.le_of_ble_eq_true rfl, Nat.le_of_ble_eq_true rfl⟩) dX7_coupleOf_5 rfl rfl (Nat.le_of_ble_eq_true rfl) ⟨Nat.le_of_ble_eq_true rfl, Nat.le_of_ble_eq_true rfl⟩ rfl rfl rfl (by decide) (fun _ => rfl) (fun _ => rfl) (fun _ => rfl) (fun _ => rfl) rfl rfl rfl (fun r1 _ hw => ?_)
  refine g_if_ne X 21 dX7_coupleOf_8 (by decide) (fun c3 => ?_) (fun c3 => ?_)
  · replace hw := hw.1 c3
    refine g_iload_n X 2 dX7_coupleOf_21 rfl rfl ?_
    by_cases c4 : p2 = 0
    · replace hw := hw.1 c4
      refine g_tableIn X 60 dX7_coupleOf_22 (by rw [c4]; decide) (by rw [c4]; decide) (by rw [c4]; rfl) (by decide) ?_
      refine g_aload_n X 0 dX7_coupleOf_60 rfl rfl ?_
      refine g_get (T := TX7) (C := RX7) (N := 8) (v := .ref (g 1 0)) X 0 0 (fun _ h => (List.mem_cons_of_mem _ (List.mem_append_left _ (List.mem_append_left _ (List.mem_append_left _ (List.mem_append_right _ h)))))) (List.mem_of_getElem? (i := 5) rfl) dX7_coupleOf_61 rfl rfl (by decide) rfl rfl ?_
      refine g_iload_n X 1 dX7_coupleOf_64 rfl rfl ?_
      refine g_ciV X [wC ct g kc, wS ct (g 1) v] (fun (_ : Unit) => [wC ct g kc, wS ct (g 1) v]) (fun _ => fl [wC ct g kc, wS ct (g 1) v]) 2 [1] [0] 0 (kX5_lesserOf l D ct (g 1) v p1 _ hw) (cwV 1 X.1.2.2.2.2 gX7_coupleOf_X5_lesserOf rfl rfl rfl (by decide +kernel) ⟨Nat.le_of_ble_eq_true rfl, Nat.le_of_ble_eq_true rfl⟩) dX7_coupleOf_65 rfl rfl (Nat.le_of_ble_eq_true rfl) ⟨Nat.le_of_ble_eq_true rfl, Nat.le_of_ble_eq_true rfl⟩ rfl rfl rfl (by decide) (fun _ => rfl) (fun _ => rfl) (fun _ => rfl) (fun _ => rfl) rfl rfl rfl (fun r5 _ hw => ?_)
      exact g_iret X () hw rfl (Nat.le_of_ble_eq_true rfl) (Nat.le_of_ble_eq_true rfl) dX7_coupleOf_68
    · replace hw := hw.2 c4
      by_cases c7 : p2 = 1
      · replace hw := hw.1 c7
        refine g_tableIn X 69 dX7_coupleOf_22 (by rw [c7]; decide) (by rw [c7]; decide) (by rw [c7]; rfl) (by decide) ?_
        refine g_aload_n X 0 dX7_coupleOf_69 rfl rfl ?_
        refine g_get (T := TX7) (C := RX7) (N := 8) (v := .ref (g 1 0)) X 0 0 (fun _ h => (List.mem_cons_of_mem _ (List.mem_append_left _ (List.mem_append_left _ (List.mem_append_left _ (List.mem_append_right _ h)))))) (List.mem_of_getElem? (i := 5) rfl) dX7_coupleOf_70 rfl rfl (by decide) rfl rfl ?_
        refine g_iload_n X 1 dX7_coupleOf_73 rfl rfl ?_
        refine g_ciV X [wC ct g kc, wS ct (g 1) v] (fun (_ : Unit) => [wC ct g kc, wS ct (g 1) v]) (fun _ => fl [wC ct g kc, wS ct (g 1) v]) 2 [1] [0] 0 (kX5_greaterOf l D ct (g 1) v p1 _ hw) (cwV 1 X.1.2.2.2.2 gX7_coupleOf_X5_greaterOf rfl rfl rfl (by decide +kernel) ⟨Nat.le_of_ble_eq_true rfl, Nat.le_of_ble_eq_true rfl⟩) dX7_coupleOf_74 rfl rfl (Nat.le_of_ble_eq_true rfl) ⟨Nat.le_of_ble_eq_true rfl, Nat.le_of_ble_eq_true rfl⟩ rfl rfl rfl (by decide) (fun _ => rfl) (fun _ => rfl) (fun _ => rfl) (fun _ => rfl) rfl rfl rfl (fun r8 _ hw => ?_)
        exact g_iret X () hw rfl (Nat.le_of_ble_eq_true rfl) (Nat.le_of_ble_eq_true rfl) dX7_coupleOf_77
      · replace hw := hw.2 c7
        by_cases c10 : p2 = 2
        · replace hw := hw.1 c10
          refine g_tableIn X 78 dX7_coupleOf_22 (by rw [c10]; decide) (by rw [c10]; decide) (by rw [c10]; rfl) (by decide) ?_
          refine g_aload_n X 0 dX7_coupleOf_78 rfl rfl ?_
          refine g_get (T := TX7) (C := RX7) (N := 8) (v := .ref (g 1 0)) X 0 0 (fun _ h => (List.mem_cons_of_mem _ (List.mem_append_left _ (List.mem_append_left _ (List.mem_append_left _ (List.mem_append_right _ h)))))) (List.mem_of_getElem? (i := 5) rfl) dX7_coupleOf_79 rfl rfl (by decide) rfl rfl ?_
          refine g_aload_n X 0 dX7_coupleOf_82 rfl rfl ?_
          refine g_get (T := TX7) (C := RX7) (N := 8) (v := .ref (g 1 0)) X 0 0 (fun _ h => (List.mem_cons_of_mem _ (List.mem_append_left _ (List.mem_append_left _ (List.mem_append_left _ (List.mem_append_right _ h)))))) (List.mem_of_getElem? (i := 5) rfl) dX7_coupleOf_83 rfl rfl (by decide) rfl rfl ?_
          refine g_iload_n X 1 dX7_coupleOf_86 rfl rfl ?_
          refine g_ciV X [wC ct g kc, wS ct (g 1) v] (fun (_ : Unit) => [wC ct g kc, wS ct (g 1) v]) (fun _ => fl [wC ct g kc, wS ct (g 1) v]) 2 [1] [0] 0 (kX5_lesserOf l D ct (g 1) v p1 _ hw) (cwV 1 X.1.2.2.2.2 gX7_coupleOf_X5_lesserOf rfl rfl rfl (by decide +kernel) ⟨Nat.le_of_ble_eq_true rfl, Nat.le_of_ble_eq_true rfl⟩) dX7_coupleOf_87 rfl rfl (Nat.le_of_ble_eq_true rfl) ⟨Nat.le_of_ble_eq_true rfl, Nat.le_of_ble_eq_true rfl⟩ rfl rfl rfl (by decide) (fun _ => rfl) (fun _ => rfl) (fun _ => rfl) (fun _ => rfl) rfl rfl rfl (fun r11 _ hw => ?_)
          refine g_ciV X [wC ct g kc, wS ct (g 1) v] (fun (_ : Unit) => [wC ct g kc, wS ct (g 1) v]) (fun _ => fl [wC ct g kc, wS ct (g 1) v]) 2 [1] [0] 0 (kX5_rowOf l D ct (g 1) v r11 _ hw) (cwV 1 X.1.2.2.2.2 gX7_coupleOf_X5_rowOf rfl rfl rfl (by decide +kernel) ⟨Nat.le_of_ble_eq_true rfl, Nat.le_of_ble_eq_true rfl⟩) dX7_coupleOf_90 rfl rfl (Nat.le_of_ble_eq_true rfl) ⟨Nat.le_of_ble_eq_true rfl, Nat.le_of_ble_eq_true rfl⟩ rfl rfl rfl (by decide) (fun _ => rfl) (fun _ => rfl) (fun _ => rfl) (fun _ => rfl) rfl rfl rfl (fun r13 _ hw => ?_)
          exact g_iret X () hw rfl (Nat.le_of_ble_eq_true rfl) (Nat.le_of_ble_eq_true rfl) dX7_coupleOf_93
        · replace hw := hw.2 c10
          by_cases c15 : p2 = 3
          · replace hw := hw.1 c15
            refine g_tableIn X 94 dX7_coupleOf_22 (by rw [c15]; decide) (by rw [c15]; decide) (by rw [c15]; rfl) (by decide) ?_
            refine g_aload_n X 0 dX7_coupleOf_94 rfl rfl ?_
            refine g_get (T := TX7) (C := RX7) (N := 8) (v := .ref (g 1 0)) X 0 0 (fun _ h => (List.mem_cons_of_mem _ (List.mem_append_left _ (List.mem_append_left _ (List.mem_append_left _ (List.mem_append_right _ h)))))) (List.mem_of_getElem? (i := 5) rfl) dX7_coupleOf_95 rfl rfl (by decide) rfl rfl ?_
            refine g_iload_n X 1 dX7_coupleOf_98 rfl rfl ?_
            refine g_ciV X [wC ct g kc, wS ct (g 1) v] (fun (_ : Unit) => [wC ct g kc, wS ct (g 1) v]) (fun _ => fl [wC ct g kc, wS ct (g 1) v]) 2 [1] [0] 0 (kX5_middleOf l D ct (g 1) v p1 _ hw) (cwV 1 X.1.2.2.2.2 gX7_coupleOf_X5_middleOf rfl rfl rfl (by decide +kernel) ⟨Nat.le_of_ble_eq_true rfl, Nat.le_of_ble_eq_true rfl⟩) dX7_coupleOf_99 rfl rfl (Nat.le_of_ble_eq_true rfl) ⟨Nat.le_of_ble_eq_true rfl, Nat.le_of_ble_eq_true rfl⟩ rfl rfl rfl (by decide) (fun _ => rfl) (fun _ => rfl) (fun _ => rfl) (fun _ => rfl) rfl rfl rfl (fun r16 _ hw => ?_)
            exact g_iret X () hw rfl (Nat.le_of_ble_eq_true rfl) (Nat.le_of_ble_eq_true rfl) dX7_coupleOf_102
          · replace hw := hw.2 c15
            by_cases c18 : p2 = 4
            · replace hw := hw.1 c18
              refine g_tableIn X 103 dX7_coupleOf_22 (by rw [c18]; decide) (by rw [c18]; decide) (by rw [c18]; rfl) (by decide) ?_
              refine g_aload_n X 0 dX7_coupleOf_103 rfl rfl ?_
              refine g_get (T := TX7) (C := RX7) (N := 8) (v := .ref (g 1 0)) X 0 0 (fun _ h => (List.mem_cons_of_mem _ (List.mem_append_left _ (List.mem_append_left _ (List.mem_append_left _ (List.mem_append_right _ h)))))) (List.mem_of_getElem? (i := 5) rfl) dX7_coupleOf_104 rfl rfl (by decide) rfl rfl ?_
              refine g_iload_n X 1 dX7_coupleOf_107 rfl rfl ?_
              refine g_ciV X [wC ct g kc, wS ct (g 1) v] (fun (_ : Unit) => [wC ct g kc, wS ct (g 1) v]) (fun _ => fl [wC ct g kc, wS ct (g 1) v]) 2 [1] [0] 0 (kX5_childrenOf l D ct (g 1) v p1 _ hw) (cwV 1 X.1.2.2.2.2 gX7_coupleOf_X5_childrenOf rfl rfl rfl (by decide +kernel) ⟨Nat.le_of_ble_eq_true rfl, Nat.le_of_ble_eq_true rfl⟩) dX7_coupleOf_108 rfl rfl (Nat.le_of_ble_eq_true rfl) ⟨Nat.le_of_ble_eq_true rfl, Nat.le_of_ble_eq_true rfl⟩ rfl rfl rfl (by decide) (fun _ => rfl) (fun _ => rfl) (fun _ => rfl) (fun _ => rfl) rfl rfl rfl (fun r19 _ hw => ?_)
              exact g_iret X () hw rfl (Nat.le_of_ble_eq_true rfl) (Nat.le_of_ble_eq_true rfl) dX7_coupleOf_111
            · replace hw := hw.2 c18
              by_cases c21 : p2 = 5
              · replace hw := hw.1 c21
                refine g_tableIn X 112 dX7_coupleOf_22 (by rw [c21]; decide) (by rw [c21]; decide) (by rw [c21]; rfl) (by decide) ?_
                refine g_aload_n X 0 dX7_coupleOf_112 rfl rfl ?_
                refine g_get (T := TX7) (C := RX7) (N := 8) (v := .ref (g 1 0)) X 0 0 (fun _ h => (List.mem_cons_of_mem _ (List.mem_append_left _ (List.mem_append_left _ (List.mem_append_left _ (List.mem_append_right _ h)))))) (List.mem_of_getElem? (i := 5) rfl) dX7_coupleOf_113 rfl rfl (by decide) rfl rfl ?_
                refine g_iload_n X 1 dX7_coupleOf_116 rfl rfl ?_
                refine g_ciS X [wC ct g kc, wS ct (g 1) v] (fun (_ : Unit) => [wC ct g kc, wS ct (g 1) v]) (fun _ => fl [wC ct g kc, wS ct (g 1) v]) 2 [1] [0] (kX0_commonAncestors l D ct (g 1) v p1 _ hw) (va_cwS 2 X.1.2.2.2.2 gX7_coupleOf_X0_commonAncestors rfl rfl rfl (by decide +kernel) ⟨Nat.le_of_ble_eq_true rfl, Nat.le_of_ble_eq_true rfl⟩) dX7_coupleOf_117 rfl rfl (Nat.le_of_ble_eq_true rfl) ⟨Nat.le_of_ble_eq_true rfl, Nat.le_of_ble_eq_true rfl⟩ rfl rfl rfl (by decide) (fun _ => rfl) (fun _ => rfl) (fun _ => rfl) (fun _ => rfl) (fun r22 _ hw => ?_)
                refine g_ciS X [wC ct g kc, wS ct (g 1) v] (fun (_ : Unit) => [wC ct g kc, wS ct (g 1) v]) (fun _ => fl [wC ct g kc, wS ct (g 1) v]) 2 [] [0, 1] (kJ6_bitCount_0f7a4 l D ct  r22 _ hw) (va_cwS 1 X.1.2.2.2.2 gX7_coupleOf_J6_bitCount_0f7a4 rfl rfl rfl (by decide +kernel) ⟨Nat.le_of_ble_eq_true rfl, Nat.le_of_ble_eq_true rfl⟩) dX7_coupleOf_120 rfl rfl (Nat.le_of_ble_eq_true rfl) ⟨Nat.le_of_ble_eq_true rfl, Nat.le_of_ble_eq_true rfl⟩ rfl rfl rfl (by decide) (fun _ => rfl) (fun _ => rfl) (fun _ => rfl) (fun _ => rfl) (fun r24 _ hw => ?_)
                exact g_iret X () hw rfl (Nat.le_of_ble_eq_true rfl) (Nat.le_of_ble_eq_true rfl) dX7_coupleOf_123
              · replace hw := hw.2 c21
                refine g_tableOut X 124 dX7_coupleOf_22 (by have tc4 := lv_neT c4 (show (0 : Int32).toInt = 0 from rfl); have tc7 := lv_neT c7 (show (1 : Int32).toInt = 1 from rfl); have tc10 := lv_neT c10 (show (2 : Int32).toInt = 2 from rfl); have tc15 := lv_neT c15 (show (3 : Int32).toInt = 3 from rfl); have tc18 := lv_neT c18 (show (4 : Int32).toInt = 4 from rfl); have tc21 := lv_neT c21 (show (5 : Int32).toInt = 5 from rfl); omega) (by decide) ?_
                exact hw.elim
  · replace hw := hw.2 c3
    exact hw.elim

abbrev rmX7_at_nt : Room := { frames := 2, cells := 0, slots := 0, locals := 43 }

abbrev GX7_at_nt (l : Launch) (D : va_G) (ct : Nat → ClassId) (g : Nat → Nat → Nat) (kc : Mem) (v : Mem) (post : Int32 → Prop) (p : Program) (e : Env) (s : State) (m : MethodId) (args : Array Value) (below : List Frame) (meth : Method) (c : Code) (A : Nat → Prop) (w9 : va_W) (lv : List (Nat × Value)) (pc : Nat) (st : List Value) : Prop :=
  GG p l e rmX7_at_nt s m args below meth c D A s.heap 3 (MQ below (va_Qi (fun r (_ : Unit) => post r) (fun u9 t9 => Af D (tyz ct) A ((fun _ => fl [wC ct g kc, wS ct (g 1) v]) u9) t9) A)  args s 0 0 A) w9 0 0 lv pc st

set_option maxHeartbeats 4000000 in
set_option maxRecDepth 20000 in
theorem kX7_at_nt (l : Launch) (D : va_G) (ct : Nat → ClassId) (g : Nat → Nat → Nat) (kc : Mem) (v : Mem) (p1 : Int32) (p2 : Int32) (post : Int32 → Prop) (hw : PX7_at_nt kc v p1 p2 post) : Ci (S := Unit) l yX7_at wsX7_at rmX7_at_nt D (tyz ct) [.ref (g 0 0), .int p1, .int p2] (fl [wC ct g kc, wS ct (g 1) v]) (fun r (_ : Unit) => post r) (fun _ => fl [wC ct g kc, wS ct (g 1) v]) 0 0 := by
  intro sz
  refine g_of (own := RX7) (by decide) rfl rfl (Nat.le_of_ble_eq_true rfl) [(0, .ref (g 0 0)), (1, .int p1), (2, .int p2)] rfl (fun p e s m args below meth c hsz X => ?_)
  subst hsz
  unfold PX7_at_nt at hw
  refine g_iload_n X 1 dX7_at_0 rfl rfl ?_
  refine g_ciS X [wC ct g kc, wS ct (g 1) v] (fun (_ : Unit) => [wC ct g kc, wS ct (g 1) v]) (fun _ => fl [wC ct g kc, wS ct (g 1) v]) 2 [] [0, 1] (kX7_isRow l D ct  p1 _ hw) (va_cwS 1 X.1.2.2.2.2 gX7_at_X7_isRow rfl rfl rfl (by decide +kernel) ⟨Nat.le_of_ble_eq_true rfl, Nat.le_of_ble_eq_true rfl⟩) dX7_at_1 rfl rfl (Nat.le_of_ble_eq_true rfl) ⟨Nat.le_of_ble_eq_true rfl, Nat.le_of_ble_eq_true rfl⟩ rfl rfl rfl (by decide) (fun _ => rfl) (fun _ => rfl) (fun _ => rfl) (fun _ => rfl) (fun r1 _ hw => ?_)
  refine g_if_ne X 17 dX7_at_4 (by decide) (fun c3 => ?_) (fun c3 => ?_)
  · replace hw := hw.1 c3
    refine g_iload_n X 2 dX7_at_17 rfl rfl ?_
    refine g_if_ge X 31 dX7_at_18 (by decide) (fun c4 => ?_) (fun c4 => ?_)
    · replace hw := hw.1 c4
      refine g_aload_n X 0 dX7_at_31 rfl rfl ?_
      refine g_get (T := TX7) (C := RX7) (N := 8) (v := .ref (g 1 0)) X 0 0 (fun _ h => (List.mem_cons_of_mem _ (List.mem_append_left _ (List.mem_append_left _ (List.mem_append_left _ (List.mem_append_right _ h)))))) (List.mem_of_getElem? (i := 5) rfl) dX7_at_32 rfl rfl (by decide) rfl rfl ?_
      refine g_iload_n X 1 dX7_at_35 rfl rfl ?_
      refine g_iload_n X 2 dX7_at_36 rfl rfl ?_
      refine g_ciV X [wC ct g kc, wS ct (g 1) v] (fun (_ : Unit) => [wC ct g kc, wS ct (g 1) v]) (fun _ => fl [wC ct g kc, wS ct (g 1) v]) 2 [1] [0] 0 (kX5_personAt l D ct (g 1) v p1 p2 _ hw) (cwV 2 X.1.2.2.2.2 gX7_at_X5_personAt rfl rfl rfl (by decide +kernel) ⟨Nat.le_of_ble_eq_true rfl, Nat.le_of_ble_eq_true rfl⟩) dX7_at_37 rfl rfl (Nat.le_of_ble_eq_true rfl) ⟨Nat.le_of_ble_eq_true rfl, Nat.le_of_ble_eq_true rfl⟩ rfl rfl rfl (by decide) (fun _ => rfl) (fun _ => rfl) (fun _ => rfl) (fun _ => rfl) rfl rfl rfl (fun r5 _ hw => ?_)
      exact g_iret X () hw rfl (Nat.le_of_ble_eq_true rfl) (Nat.le_of_ble_eq_true rfl) dX7_at_40
    · replace hw := hw.2 c4
      exact hw.elim
  · replace hw := hw.2 c3
    exact hw.elim

abbrev rmX7_crossings_nt : Room := { frames := 5, cells := 0, slots := 0, locals := 108 }

abbrev GX7_crossings_nt (l : Launch) (D : va_G) (ct : Nat → ClassId) (g : Nat → Nat → Nat) (kc : Mem) (v : Mem) (post : Int32 → Mem → Prop) (p : Program) (e : Env) (s : State) (m : MethodId) (args : Array Value) (below : List Frame) (meth : Method) (c : Code) (A : Nat → Prop) (w9 : va_W) (lv : List (Nat × Value)) (pc : Nat) (st : List Value) : Prop :=
  GG p l e rmX7_crossings_nt s m args below meth c D A s.heap 3 (MQ below (va_Qi (fun r (u9 : Mem) => post r u9) (fun u9 t9 => Af D (tyz ct) A ((fun u9 => fl [wC ct g kc, wS ct (g 1) v, wL ct (g 12) u9]) u9) t9) A)  args s 0 0 A) w9 0 0 lv pc st

set_option maxHeartbeats 4000000 in
set_option maxRecDepth 20000 in
theorem kX7_crossings_nt_36 (l : Launch) (D : va_G) (ct : Nat → ClassId) (g : Nat → Nat → Nat) (kc : Mem) (v : Mem) (post : Int32 → Mem → Prop) {p : Program} {e : Env} {s : State} {m : MethodId} {args : Array Value} {below : List Frame} {meth : Method} {c : Code} {A : Nat → Prop} (X : Cx p s m args meth c cX7_crossings 3 RX7 wsX7_crossings D (tyz ct) A s.heap (some .int))  :
    ∀ (y : Mem) (x1 : Int32) (x2 : Int32), PX7_crossings_nt_36 kc v post y x1 x2 → GX7_crossings_nt l D ct g kc v post p e s m args below meth c A (fl [wC ct g kc, wS ct (g 1) v, wL ct (g 12) y]) [(0, .ref (g 0 0)), (1, .int x1), (2, .int x2)] 36 [] := by
  intro y x1 x2 hw
  unfold PX7_crossings_nt_36 at hw
  refine g_aload_n X 0 dX7_crossings_36 rfl rfl ?_
  refine g_get (T := TX7) (C := RX7) (N := 8) (v := .ref (g 12 0)) X 0 5 (fun _ h => (List.mem_cons_of_mem _ (List.mem_append_left _ (List.mem_append_left _ (List.mem_append_left _ (List.mem_append_left _ (List.mem_append_right _ h))))))) (List.mem_of_getElem? (i := 5) rfl) dX7_crossings_37 rfl rfl (by decide) rfl rfl ?_
  refine g_aload_n X 0 dX7_crossings_40 rfl rfl ?_
  refine g_get (T := TX7) (C := RX7) (N := 8) (v := .ref (g 1 0)) X 0 0 (fun _ h => (List.mem_cons_of_mem _ (List.mem_append_left _ (List.mem_append_left _ (List.mem_append_left _ (List.mem_append_left _ (List.mem_append_right _ h))))))) (List.mem_of_getElem? (i := 6) rfl) dX7_crossings_41 rfl rfl (by decide) rfl rfl ?_
  refine g_iload_n X 1 dX7_crossings_44 rfl rfl ?_
  refine g_cvV X [wC ct g kc, wS ct (g 1) v, wL ct (g 12) y] (fun (u5 : Mem) => [wC ct g kc, wS ct (g 1) v, wL ct (g 12) u5]) (fun (u5 : Mem) => fl [wC ct g kc, wS ct (g 1) v, wL ct (g 12) u5]) 3 [2, 1] [0] 0 (kX2_collect l D ct (g 12) (g 1) y v x1 _ hw) (cwV 2 X.1.2.2.2.2 gX7_crossings_X2_collect rfl rfl rfl (by decide +kernel) ⟨Nat.le_of_ble_eq_true rfl, Nat.le_of_ble_eq_true rfl⟩) dX7_crossings_45 rfl rfl (Nat.le_of_ble_eq_true rfl) ⟨Nat.le_of_ble_eq_true rfl, Nat.le_of_ble_eq_true rfl⟩ rfl rfl rfl (by decide) (fun _ => rfl) (fun _ => rfl) (fun _ => rfl) (fun _ => rfl) rfl rfl rfl (fun u5 hw => ?_)
  obtain ⟨y6, hy6⟩ : ∃ z : Mem, z = u5 := ⟨_, rfl⟩
  rw [← hy6] at hw
  rw [← hy6]
  refine g_iload_n X 2 dX7_crossings_48 rfl rfl ?_
  refine g_if_ne X 62 dX7_crossings_49 (by decide) (fun c7 => ?_) (fun c7 => ?_)
  · replace hw := hw.1 c7
    refine g_aload_n X 0 dX7_crossings_62 rfl rfl ?_
    refine g_get (T := TX7) (C := RX7) (N := 8) (v := .ref (g 12 0)) X 0 5 (fun _ h => (List.mem_cons_of_mem _ (List.mem_append_left _ (List.mem_append_left _ (List.mem_append_left _ (List.mem_append_left _ (List.mem_append_right _ h))))))) (List.mem_of_getElem? (i := 5) rfl) dX7_crossings_63 rfl rfl (by decide) rfl rfl ?_
    refine g_ciV X [wC ct g kc, wS ct (g 1) v, wL ct (g 12) y6] (fun (u9 : Mem) => [wC ct g kc, wS ct (g 1) v, wL ct (g 12) u9]) (fun (u9 : Mem) => fl [wC ct g kc, wS ct (g 1) v, wL ct (g 12) u9]) 3 [2] [0, 1] 0 (kX2_crossedOneByOne l D ct (g 12) y6 _ hw) (cwV 0 X.1.2.2.2.2 gX7_crossings_X2_crossedOneByOne rfl rfl rfl (by decide +kernel) ⟨Nat.le_of_ble_eq_true rfl, Nat.le_of_ble_eq_true rfl⟩) dX7_crossings_66 rfl rfl (Nat.le_of_ble_eq_true rfl) ⟨Nat.le_of_ble_eq_true rfl, Nat.le_of_ble_eq_true rfl⟩ rfl rfl rfl (by decide) (fun _ => rfl) (fun _ => rfl) (fun _ => rfl) (fun _ => rfl) rfl rfl rfl (fun r8 u9 hw => ?_)
    obtain ⟨y10, hy10⟩ : ∃ z : Mem, z = u9 := ⟨_, rfl⟩
    rw [← hy10] at hw
    rw [← hy10]
    exact g_iret X y10 hw rfl (Nat.le_of_ble_eq_true rfl) (Nat.le_of_ble_eq_true rfl) dX7_crossings_69
  · replace hw := hw.2 c7
    refine g_aload_n X 0 dX7_crossings_52 rfl rfl ?_
    refine g_get (T := TX7) (C := RX7) (N := 8) (v := .ref (g 12 0)) X 0 5 (fun _ h => (List.mem_cons_of_mem _ (List.mem_append_left _ (List.mem_append_left _ (List.mem_append_left _ (List.mem_append_left _ (List.mem_append_right _ h))))))) (List.mem_of_getElem? (i := 5) rfl) dX7_crossings_53 rfl rfl (by decide) rfl rfl ?_
    refine g_ciV X [wC ct g kc, wS ct (g 1) v, wL ct (g 12) y6] (fun (_ : Unit) => [wC ct g kc, wS ct (g 1) v, wL ct (g 12) y6]) (fun _ => fl [wC ct g kc, wS ct (g 1) v, wL ct (g 12) y6]) 3 [2] [0, 1] 0 (kX2_crossedPairs l D ct (g 12) y6 _ hw) (cwV 0 X.1.2.2.2.2 gX7_crossings_X2_crossedPairs rfl rfl rfl (by decide +kernel) ⟨Nat.le_of_ble_eq_true rfl, Nat.le_of_ble_eq_true rfl⟩) dX7_crossings_56 rfl rfl (Nat.le_of_ble_eq_true rfl) ⟨Nat.le_of_ble_eq_true rfl, Nat.le_of_ble_eq_true rfl⟩ rfl rfl rfl (by decide) (fun _ => rfl) (fun _ => rfl) (fun _ => rfl) (fun _ => rfl) rfl rfl rfl (fun r11 _ hw => ?_)
    refine g_goto X 69 dX7_crossings_59 (by decide) ?_
    exact g_iret X y6 hw rfl (Nat.le_of_ble_eq_true rfl) (Nat.le_of_ble_eq_true rfl) dX7_crossings_69

set_option maxHeartbeats 4000000 in
set_option maxRecDepth 20000 in
theorem kX7_crossings_nt (l : Launch) (D : va_G) (ct : Nat → ClassId) (g : Nat → Nat → Nat) (kc : Mem) (v : Mem) (y : Mem) (p1 : Int32) (p2 : Int32) (post : Int32 → Mem → Prop) (hw : PX7_crossings_nt kc v y p1 p2 post) : Ci (S := Mem) l yX7_crossings wsX7_crossings rmX7_crossings_nt D (tyz ct) [.ref (g 0 0), .int p1, .int p2] (fl [wC ct g kc, wS ct (g 1) v, wL ct (g 12) y]) (fun r (u9 : Mem) => post r u9) (fun u9 => fl [wC ct g kc, wS ct (g 1) v, wL ct (g 12) u9]) 0 0 := by
  intro sz
  refine g_of (own := RX7) (by decide) rfl rfl (Nat.le_of_ble_eq_true rfl) [(0, .ref (g 0 0)), (1, .int p1), (2, .int p2)] rfl (fun p e s m args below meth c hsz X => ?_)
  subst hsz
  unfold PX7_crossings_nt at hw
  refine g_iload_n X 1 dX7_crossings_0 rfl rfl ?_
  refine g_ciS X [wC ct g kc, wS ct (g 1) v, wL ct (g 12) y] (fun (_ : Unit) => [wC ct g kc, wS ct (g 1) v, wL ct (g 12) y]) (fun _ => fl [wC ct g kc, wS ct (g 1) v, wL ct (g 12) y]) 3 [] [0, 1, 2] (kX7_isRow l D ct  p1 _ hw) (va_cwS 1 X.1.2.2.2.2 gX7_crossings_X7_isRow rfl rfl rfl (by decide +kernel) ⟨Nat.le_of_ble_eq_true rfl, Nat.le_of_ble_eq_true rfl⟩) dX7_crossings_1 rfl rfl (Nat.le_of_ble_eq_true rfl) ⟨Nat.le_of_ble_eq_true rfl, Nat.le_of_ble_eq_true rfl⟩ rfl rfl rfl (by decide) (fun _ => rfl) (fun _ => rfl) (fun _ => rfl) (fun _ => rfl) (fun r1 _ hw => ?_)
  refine g_if_ne X 17 dX7_crossings_4 (by decide) (fun c3 => ?_) (fun c3 => ?_)
  · replace hw := hw.1 c3
    refine g_iload_n X 2 dX7_crossings_17 rfl rfl ?_
    refine g_if_eq X 36 dX7_crossings_18 (by decide) (fun c4 => ?_) (fun c4 => ?_)
    · replace hw := hw.1 c4
      refine g_sub [(0, .ref (g 0 0)), (1, .int p1), (2, .int p2)] [0, 1, 2] rfl ?_
      exact kX7_crossings_nt_36 l D ct g kc v post X _ _ _ hw
    · replace hw := hw.2 c4
      refine g_iload_n X 2 dX7_crossings_21 rfl rfl ?_
      refine g_iconst (v := 1) X rfl dX7_crossings_22 ?_
      refine g_icmp_eq X 36 dX7_crossings_23 (by decide) (fun c13 => ?_) (fun c13 => ?_)
      · replace hw := hw.1 c13
        refine g_sub [(0, .ref (g 0 0)), (1, .int p1), (2, .int p2)] [0, 1, 2] rfl ?_
        exact kX7_crossings_nt_36 l D ct g kc v post X _ _ _ hw
      · replace hw := hw.2 c13
        exact hw.elim
  · replace hw := hw.2 c3
    exact hw.elim

abbrev rmX7_count_nt : Room := { frames := 6, cells := 0, slots := 0, locals := 130 }

abbrev GX7_count_nt (l : Launch) (D : va_G) (ct : Nat → ClassId) (g : Nat → Nat → Nat) (kc : Mem) (v : Mem) (b : Mem) (post : Int32 → Mem → Prop) (p : Program) (e : Env) (s : State) (m : MethodId) (args : Array Value) (below : List Frame) (meth : Method) (c : Code) (A : Nat → Prop) (w9 : va_W) (lv : List (Nat × Value)) (pc : Nat) (st : List Value) : Prop :=
  GG p l e rmX7_count_nt s m args below meth c D A s.heap 2 (MQ below (va_Qi (fun r (u9 : Mem) => post r u9) (fun u9 t9 => Af D (tyz ct) A ((fun u9 => fl [wC ct g kc, wS ct (g 1) v, wV ct g b, wL ct (g 12) u9]) u9) t9) A)  args s 0 0 A) w9 0 0 lv pc st

set_option maxHeartbeats 4000000 in
set_option maxRecDepth 20000 in
theorem kX7_count_nt (l : Launch) (D : va_G) (ct : Nat → ClassId) (g : Nat → Nat → Nat) (kc : Mem) (v : Mem) (b : Mem) (y : Mem) (p1 : Int32) (post : Int32 → Mem → Prop) (hw : PX7_count_nt kc v b y p1 post) : Ci (S := Mem) l yX7_count wsX7_count rmX7_count_nt D (tyz ct) [.ref (g 0 0), .int p1] (fl [wC ct g kc, wS ct (g 1) v, wV ct g b, wL ct (g 12) y]) (fun r (u9 : Mem) => post r u9) (fun u9 => fl [wC ct g kc, wS ct (g 1) v, wV ct g b, wL ct (g 12) u9]) 0 0 := by
  intro sz
  refine g_of (own := RX7) (by decide) rfl rfl (Nat.le_of_ble_eq_true rfl) [(0, .ref (g 0 0)), (1, .int p1)] rfl (fun p e s m args below meth c hsz X => ?_)
  subst hsz
  unfold PX7_count_nt at hw
  refine g_iload_n X 1 dX7_count_0 rfl rfl ?_
  by_cases c1 : p1 = 0
  · replace hw := hw.1 c1
    refine g_tableIn X 52 dX7_count_1 (by rw [c1]; decide) (by rw [c1]; decide) (by rw [c1]; rfl) (by decide) ?_
    refine g_aload_n X 0 dX7_count_52 rfl rfl ?_
    refine g_get (T := TX7) (C := RX7) (N := 8) (v := .ref (g 1 0)) X 0 0 (fun _ h => (List.mem_cons_of_mem _ (List.mem_append_left _ (List.mem_append_left _ (List.mem_append_left _ (List.mem_append_left _ (List.mem_append_right _ h))))))) (List.mem_of_getElem? (i := 3) rfl) dX7_count_53 rfl rfl (by decide) rfl rfl ?_
    refine g_ciV X [wC ct g kc, wS ct (g 1) v, wV ct g b, wL ct (g 12) y] (fun (_ : Unit) => [wC ct g kc, wS ct (g 1) v, wV ct g b, wL ct (g 12) y]) (fun _ => fl [wC ct g kc, wS ct (g 1) v, wV ct g b, wL ct (g 12) y]) 4 [1] [0, 2, 3] 0 (kX5_people l D ct (g 1) v _ hw) (cwV 0 X.1.2.2.2.2 gX7_count_X5_people rfl rfl rfl (by decide +kernel) ⟨Nat.le_of_ble_eq_true rfl, Nat.le_of_ble_eq_true rfl⟩) dX7_count_56 rfl rfl (Nat.le_of_ble_eq_true rfl) ⟨Nat.le_of_ble_eq_true rfl, Nat.le_of_ble_eq_true rfl⟩ rfl rfl rfl (by decide) (fun _ => rfl) (fun _ => rfl) (fun _ => rfl) (fun _ => rfl) rfl rfl rfl (fun r2 _ hw => ?_)
    exact g_iret X y hw rfl (Nat.le_of_ble_eq_true rfl) (Nat.le_of_ble_eq_true rfl) dX7_count_59
  · replace hw := hw.2 c1
    by_cases c4 : p1 = 1
    · replace hw := hw.1 c4
      refine g_tableIn X 60 dX7_count_1 (by rw [c4]; decide) (by rw [c4]; decide) (by rw [c4]; rfl) (by decide) ?_
      refine g_aload_n X 0 dX7_count_60 rfl rfl ?_
      refine g_get (T := TX7) (C := RX7) (N := 8) (v := .ref (g 1 0)) X 0 0 (fun _ h => (List.mem_cons_of_mem _ (List.mem_append_left _ (List.mem_append_left _ (List.mem_append_left _ (List.mem_append_left _ (List.mem_append_right _ h))))))) (List.mem_of_getElem? (i := 3) rfl) dX7_count_61 rfl rfl (by decide) rfl rfl ?_
      refine g_ciV X [wC ct g kc, wS ct (g 1) v, wV ct g b, wL ct (g 12) y] (fun (_ : Unit) => [wC ct g kc, wS ct (g 1) v, wV ct g b, wL ct (g 12) y]) (fun _ => fl [wC ct g kc, wS ct (g 1) v, wV ct g b, wL ct (g 12) y]) 4 [1] [0, 2, 3] 0 (kX5_couples l D ct (g 1) v _ hw) (cwV 0 X.1.2.2.2.2 gX7_count_X5_couples rfl rfl rfl (by decide +kernel) ⟨Nat.le_of_ble_eq_true rfl, Nat.le_of_ble_eq_true rfl⟩) dX7_count_64 rfl rfl (Nat.le_of_ble_eq_true rfl) ⟨Nat.le_of_ble_eq_true rfl, Nat.le_of_ble_eq_true rfl⟩ rfl rfl rfl (by decide) (fun _ => rfl) (fun _ => rfl) (fun _ => rfl) (fun _ => rfl) rfl rfl rfl (fun r5 _ hw => ?_)
      exact g_iret X y hw rfl (Nat.le_of_ble_eq_true rfl) (Nat.le_of_ble_eq_true rfl) dX7_count_67
    · replace hw := hw.2 c4
      by_cases c7 : p1 = 2
      · replace hw := hw.1 c7
        refine g_tableIn X 68 dX7_count_1 (by rw [c7]; decide) (by rw [c7]; decide) (by rw [c7]; rfl) (by decide) ?_
        refine g_aload_n X 0 dX7_count_68 rfl rfl ?_
        refine g_get (T := TX7) (C := RX7) (N := 8) (v := .ref (g 1 0)) X 0 0 (fun _ h => (List.mem_cons_of_mem _ (List.mem_append_left _ (List.mem_append_left _ (List.mem_append_left _ (List.mem_append_left _ (List.mem_append_right _ h))))))) (List.mem_of_getElem? (i := 3) rfl) dX7_count_69 rfl rfl (by decide) rfl rfl ?_
        refine g_ciV X [wC ct g kc, wS ct (g 1) v, wV ct g b, wL ct (g 12) y] (fun (_ : Unit) => [wC ct g kc, wS ct (g 1) v, wV ct g b, wL ct (g 12) y]) (fun _ => fl [wC ct g kc, wS ct (g 1) v, wV ct g b, wL ct (g 12) y]) 4 [1] [0, 2, 3] 0 (kX5_lines l D ct (g 1) v _ hw) (cwV 0 X.1.2.2.2.2 gX7_count_X5_lines rfl rfl rfl (by decide +kernel) ⟨Nat.le_of_ble_eq_true rfl, Nat.le_of_ble_eq_true rfl⟩) dX7_count_72 rfl rfl (Nat.le_of_ble_eq_true rfl) ⟨Nat.le_of_ble_eq_true rfl, Nat.le_of_ble_eq_true rfl⟩ rfl rfl rfl (by decide) (fun _ => rfl) (fun _ => rfl) (fun _ => rfl) (fun _ => rfl) rfl rfl rfl (fun r8 _ hw => ?_)
        exact g_iret X y hw rfl (Nat.le_of_ble_eq_true rfl) (Nat.le_of_ble_eq_true rfl) dX7_count_75
      · replace hw := hw.2 c7
        by_cases c10 : p1 = 3
        · replace hw := hw.1 c10
          refine g_tableIn X 76 dX7_count_1 (by rw [c10]; decide) (by rw [c10]; decide) (by rw [c10]; rfl) (by decide) ?_
          refine g_aload_n X 0 dX7_count_76 rfl rfl ?_
          refine g_ciV X [wC ct g kc, wS ct (g 1) v, wV ct g b, wL ct (g 12) y] (fun (u12 : Mem) => [wC ct g kc, wS ct (g 1) v, wV ct g b, wL ct (g 12) u12]) (fun (u12 : Mem) => fl [wC ct g kc, wS ct (g 1) v, wV ct g b, wL ct (g 12) u12]) 4 [0, 1, 3] [2] 0 (kX7_allCrossings l D ct g kc v y _ hw) (cwV 0 X.1.2.2.2.2 gX7_count_X7_allCrossings rfl rfl rfl (by decide +kernel) ⟨Nat.le_of_ble_eq_true rfl, Nat.le_of_ble_eq_true rfl⟩) dX7_count_77 rfl rfl (Nat.le_of_ble_eq_true rfl) ⟨Nat.le_of_ble_eq_true rfl, Nat.le_of_ble_eq_true rfl⟩ rfl rfl rfl (by decide) (fun _ => rfl) (fun _ => rfl) (fun _ => rfl) (fun _ => rfl) rfl rfl rfl (fun r11 u12 hw => ?_)
          obtain ⟨y13, hy13⟩ : ∃ z : Mem, z = u12 := ⟨_, rfl⟩
          rw [← hy13] at hw
          rw [← hy13]
          exact g_iret X y13 hw rfl (Nat.le_of_ble_eq_true rfl) (Nat.le_of_ble_eq_true rfl) dX7_count_80
        · replace hw := hw.2 c10
          by_cases c14 : p1 = 4
          · replace hw := hw.1 c14
            refine g_tableIn X 81 dX7_count_1 (by rw [c14]; decide) (by rw [c14]; decide) (by rw [c14]; rfl) (by decide) ?_
            refine g_aload_n X 0 dX7_count_81 rfl rfl ?_
            refine g_get (T := TX7) (C := RX7) (N := 8) (v := .ref (g 1 0)) X 0 0 (fun _ h => (List.mem_cons_of_mem _ (List.mem_append_left _ (List.mem_append_left _ (List.mem_append_left _ (List.mem_append_left _ (List.mem_append_right _ h))))))) (List.mem_of_getElem? (i := 3) rfl) dX7_count_82 rfl rfl (by decide) rfl rfl ?_
            refine g_ciV X [wC ct g kc, wS ct (g 1) v, wV ct g b, wL ct (g 12) y] (fun (_ : Unit) => [wC ct g kc, wS ct (g 1) v, wV ct g b, wL ct (g 12) y]) (fun _ => fl [wC ct g kc, wS ct (g 1) v, wV ct g b, wL ct (g 12) y]) 4 [1] [0, 2, 3] 0 (kX5_bentLines l D ct (g 1) v _ hw) (cwV 0 X.1.2.2.2.2 gX7_count_X5_bentLines rfl rfl rfl (by decide +kernel) ⟨Nat.le_of_ble_eq_true rfl, Nat.le_of_ble_eq_true rfl⟩) dX7_count_85 rfl rfl (Nat.le_of_ble_eq_true rfl) ⟨Nat.le_of_ble_eq_true rfl, Nat.le_of_ble_eq_true rfl⟩ rfl rfl rfl (by decide) (fun _ => rfl) (fun _ => rfl) (fun _ => rfl) (fun _ => rfl) rfl rfl rfl (fun r15 _ hw => ?_)
            exact g_iret X y hw rfl (Nat.le_of_ble_eq_true rfl) (Nat.le_of_ble_eq_true rfl) dX7_count_88
          · replace hw := hw.2 c14
            by_cases c17 : p1 = 5
            · replace hw := hw.1 c17
              refine g_tableIn X 89 dX7_count_1 (by rw [c17]; decide) (by rw [c17]; decide) (by rw [c17]; rfl) (by decide) ?_
              refine g_aload_n X 0 dX7_count_89 rfl rfl ?_
              refine g_get (T := TX7) (C := RX7) (N := 8) (v := .ref (g 1 0)) X 0 0 (fun _ h => (List.mem_cons_of_mem _ (List.mem_append_left _ (List.mem_append_left _ (List.mem_append_left _ (List.mem_append_left _ (List.mem_append_right _ h))))))) (List.mem_of_getElem? (i := 3) rfl) dX7_count_90 rfl rfl (by decide) rfl rfl ?_
              refine g_ciV X [wC ct g kc, wS ct (g 1) v, wV ct g b, wL ct (g 12) y] (fun (_ : Unit) => [wC ct g kc, wS ct (g 1) v, wV ct g b, wL ct (g 12) y]) (fun _ => fl [wC ct g kc, wS ct (g 1) v, wV ct g b, wL ct (g 12) y]) 4 [1] [0, 2, 3] 0 (kX5_doubles l D ct (g 1) v _ hw) (cwV 0 X.1.2.2.2.2 gX7_count_X5_doubles rfl rfl rfl (by decide +kernel) ⟨Nat.le_of_ble_eq_true rfl, Nat.le_of_ble_eq_true rfl⟩) dX7_count_93 rfl rfl (Nat.le_of_ble_eq_true rfl) ⟨Nat.le_of_ble_eq_true rfl, Nat.le_of_ble_eq_true rfl⟩ rfl rfl rfl (by decide) (fun _ => rfl) (fun _ => rfl) (fun _ => rfl) (fun _ => rfl) rfl rfl rfl (fun r18 _ hw => ?_)
              exact g_iret X y hw rfl (Nat.le_of_ble_eq_true rfl) (Nat.le_of_ble_eq_true rfl) dX7_count_96
            · replace hw := hw.2 c17
              by_cases c20 : p1 = 6
              · replace hw := hw.1 c20
                refine g_tableIn X 97 dX7_count_1 (by rw [c20]; decide) (by rw [c20]; decide) (by rw [c20]; rfl) (by decide) ?_
                refine g_aload_n X 0 dX7_count_97 rfl rfl ?_
                refine g_get (T := TX7) (C := RX7) (N := 8) (v := .ref (g 1 0)) X 0 0 (fun _ h => (List.mem_cons_of_mem _ (List.mem_append_left _ (List.mem_append_left _ (List.mem_append_left _ (List.mem_append_left _ (List.mem_append_right _ h))))))) (List.mem_of_getElem? (i := 3) rfl) dX7_count_98 rfl rfl (by decide) rfl rfl ?_
                refine g_ciS X [wC ct g kc, wS ct (g 1) v, wV ct g b, wL ct (g 12) y] (fun (_ : Unit) => [wC ct g kc, wS ct (g 1) v, wV ct g b, wL ct (g 12) y]) (fun _ => fl [wC ct g kc, wS ct (g 1) v, wV ct g b, wL ct (g 12) y]) 4 [1] [0, 2, 3] (kX0_kinCouples l D ct (g 1) v _ hw) (va_cwS 1 X.1.2.2.2.2 gX7_count_X0_kinCouples rfl rfl rfl (by decide +kernel) ⟨Nat.le_of_ble_eq_true rfl, Nat.le_of_ble_eq_true rfl⟩) dX7_count_101 rfl rfl (Nat.le_of_ble_eq_true rfl) ⟨Nat.le_of_ble_eq_true rfl, Nat.le_of_ble_eq_true rfl⟩ rfl rfl rfl (by decide) (fun _ => rfl) (fun _ => rfl) (fun _ => rfl) (fun _ => rfl) (fun r21 _ hw => ?_)
                exact g_iret X y hw rfl (Nat.le_of_ble_eq_true rfl) (Nat.le_of_ble_eq_true rfl) dX7_count_104
              · replace hw := hw.2 c20
                by_cases c23 : p1 = 7
                · replace hw := hw.1 c23
                  refine g_tableIn X 105 dX7_count_1 (by rw [c23]; decide) (by rw [c23]; decide) (by rw [c23]; rfl) (by decide) ?_
                  refine g_aload_n X 0 dX7_count_105 rfl rfl ?_
                  refine g_get (T := TX7) (C := RX7) (N := 8) (v := .ref (g 1 0)) X 0 0 (fun _ h => (List.mem_cons_of_mem _ (List.mem_append_left _ (List.mem_append_left _ (List.mem_append_left _ (List.mem_append_left _ (List.mem_append_right _ h))))))) (List.mem_of_getElem? (i := 3) rfl) dX7_count_106 rfl rfl (by decide) rfl rfl ?_
                  refine g_ciV X [wC ct g kc, wS ct (g 1) v, wV ct g b, wL ct (g 12) y] (fun (_ : Unit) => [wC ct g kc, wS ct (g 1) v, wV ct g b, wL ct (g 12) y]) (fun _ => fl [wC ct g kc, wS ct (g 1) v, wV ct g b, wL ct (g 12) y]) 4 [1] [0, 2, 3] 0 (kX5_refused l D ct (g 1) v _ hw) (cwV 0 X.1.2.2.2.2 gX7_count_X5_refused rfl rfl rfl (by decide +kernel) ⟨Nat.le_of_ble_eq_true rfl, Nat.le_of_ble_eq_true rfl⟩) dX7_count_109 rfl rfl (Nat.le_of_ble_eq_true rfl) ⟨Nat.le_of_ble_eq_true rfl, Nat.le_of_ble_eq_true rfl⟩ rfl rfl rfl (by decide) (fun _ => rfl) (fun _ => rfl) (fun _ => rfl) (fun _ => rfl) rfl rfl rfl (fun r24 _ hw => ?_)
                  exact g_iret X y hw rfl (Nat.le_of_ble_eq_true rfl) (Nat.le_of_ble_eq_true rfl) dX7_count_112
                · replace hw := hw.2 c23
                  by_cases c26 : p1 = 8
                  · replace hw := hw.1 c26
                    refine g_tableIn X 113 dX7_count_1 (by rw [c26]; decide) (by rw [c26]; decide) (by rw [c26]; rfl) (by decide) ?_
                    refine g_aload_n X 0 dX7_count_113 rfl rfl ?_
                    refine g_get (T := TX7) (C := RX7) (N := 8) (v := .ref (g 4 0)) X 0 3 (fun _ h => (List.mem_cons_of_mem _ (List.mem_append_left _ (List.mem_append_left _ (List.mem_append_left _ (List.mem_append_left _ (List.mem_append_right _ h))))))) (List.mem_of_getElem? (i := 4) rfl) dX7_count_114 rfl rfl (by decide) rfl rfl ?_
                    refine g_ciV X [wC ct g kc, wS ct (g 1) v, wV ct g b, wL ct (g 12) y] (fun (_ : Unit) => [wC ct g kc, wS ct (g 1) v, wV ct g b, wL ct (g 12) y]) (fun _ => fl [wC ct g kc, wS ct (g 1) v, wV ct g b, wL ct (g 12) y]) 4 [2] [0, 1, 3] 0 (kX4_size l D ct g b _ hw) (cwV 0 X.1.2.2.2.2 gX7_count_X4_size rfl rfl rfl (by decide +kernel) ⟨Nat.le_of_ble_eq_true rfl, Nat.le_of_ble_eq_true rfl⟩) dX7_count_117 rfl rfl (Nat.le_of_ble_eq_true rfl) ⟨Nat.le_of_ble_eq_true rfl, Nat.le_of_ble_eq_true rfl⟩ rfl rfl rfl (by decide) (fun _ => rfl) (fun _ => rfl) (fun _ => rfl) (fun _ => rfl) rfl rfl rfl (fun r27 _ hw => ?_)
                    exact g_iret X y hw rfl (Nat.le_of_ble_eq_true rfl) (Nat.le_of_ble_eq_true rfl) dX7_count_120
                  · replace hw := hw.2 c26
                    refine g_tableOut X 121 dX7_count_1 (by have tc1 := lv_neT c1 (show (0 : Int32).toInt = 0 from rfl); have tc4 := lv_neT c4 (show (1 : Int32).toInt = 1 from rfl); have tc7 := lv_neT c7 (show (2 : Int32).toInt = 2 from rfl); have tc10 := lv_neT c10 (show (3 : Int32).toInt = 3 from rfl); have tc14 := lv_neT c14 (show (4 : Int32).toInt = 4 from rfl); have tc17 := lv_neT c17 (show (5 : Int32).toInt = 5 from rfl); have tc20 := lv_neT c20 (show (6 : Int32).toInt = 6 from rfl); have tc23 := lv_neT c23 (show (7 : Int32).toInt = 7 from rfl); have tc26 := lv_neT c26 (show (8 : Int32).toInt = 8 from rfl); omega) (by decide) ?_
                    exact hw.elim

abbrev rmX7_least_nt : Room := { frames := 12, cells := 0, slots := 0, locals := 277 }

abbrev GX7_least_nt (l : Launch) (D : va_G) (ct : Nat → ClassId) (g : Nat → Nat → Nat) (kc : Mem) (v : Mem) (post : Int32 → Mem → Prop) (p : Program) (e : Env) (s : State) (m : MethodId) (args : Array Value) (below : List Frame) (meth : Method) (c : Code) (A : Nat → Prop) (w9 : va_W) (lv : List (Nat × Value)) (pc : Nat) (st : List Value) : Prop :=
  GG p l e rmX7_least_nt s m args below meth c D A s.heap 3 (MQ below (va_Qi (fun r (u9 : Mem) => post r u9) (fun u9 t9 => Af D (tyz ct) A ((fun u9 => fl [wC ct g kc, wS ct (g 1) v, wR ct (g 14) u9]) u9) t9) A)  args s 0 0 A) w9 0 0 lv pc st

set_option maxHeartbeats 4000000 in
set_option maxRecDepth 20000 in
theorem kX7_least_nt_36 (l : Launch) (D : va_G) (ct : Nat → ClassId) (g : Nat → Nat → Nat) (kc : Mem) (v : Mem) (post : Int32 → Mem → Prop) {p : Program} {e : Env} {s : State} {m : MethodId} {args : Array Value} {below : List Frame} {meth : Method} {c : Code} {A : Nat → Prop} (X : Cx p s m args meth c cX7_least 3 RX7 wsX7_least D (tyz ct) A s.heap (some .int))  :
    ∀ (x : Mem) (x1 : Int32) (x2 : Int32), PX7_least_nt_36 kc v post x x1 x2 → GX7_least_nt l D ct g kc v post p e s m args below meth c A (fl [wC ct g kc, wS ct (g 1) v, wR ct (g 14) x]) [(0, .ref (g 0 0)), (1, .int x1), (2, .int x2)] 36 [] := by
  intro x x1 x2 hw
  unfold PX7_least_nt_36 at hw
  refine g_aload_n X 0 dX7_least_36 rfl rfl ?_
  refine g_get (T := TX7) (C := RX7) (N := 8) (v := .ref (g 14 0)) X 0 7 (fun _ h => (List.mem_cons_of_mem _ (List.mem_append_left _ (List.mem_append_left _ (List.mem_append_left _ (List.mem_append_left _ (List.mem_append_right _ h))))))) (List.mem_of_getElem? (i := 5) rfl) dX7_least_37 rfl rfl (by decide) rfl rfl ?_
  refine g_aload_n X 0 dX7_least_40 rfl rfl ?_
  refine g_get (T := TX7) (C := RX7) (N := 8) (v := .ref (g 1 0)) X 0 0 (fun _ h => (List.mem_cons_of_mem _ (List.mem_append_left _ (List.mem_append_left _ (List.mem_append_left _ (List.mem_append_left _ (List.mem_append_right _ h))))))) (List.mem_of_getElem? (i := 6) rfl) dX7_least_41 rfl rfl (by decide) rfl rfl ?_
  refine g_iload_n X 1 dX7_least_44 rfl rfl ?_
  refine g_cvV X [wC ct g kc, wS ct (g 1) v, wR ct (g 14) x] (fun (u5 : Mem) => [wC ct g kc, wS ct (g 1) v, wR ct (g 14) u5]) (fun (u5 : Mem) => fl [wC ct g kc, wS ct (g 1) v, wR ct (g 14) u5]) 3 [2, 1] [0] 0 (kX3_prepare l D ct (g 14) (g 1) x v x1 _ hw) (cwV 2 X.1.2.2.2.2 gX7_least_X3_prepare rfl rfl rfl (by decide +kernel) ⟨Nat.le_of_ble_eq_true rfl, Nat.le_of_ble_eq_true rfl⟩) dX7_least_45 rfl rfl (Nat.le_of_ble_eq_true rfl) ⟨Nat.le_of_ble_eq_true rfl, Nat.le_of_ble_eq_true rfl⟩ rfl rfl rfl (by decide) (fun _ => rfl) (fun _ => rfl) (fun _ => rfl) (fun _ => rfl) rfl rfl rfl (fun u5 hw => ?_)
  obtain ⟨x6, hx6⟩ : ∃ z : Mem, z = u5 := ⟨_, rfl⟩
  rw [← hx6] at hw
  rw [← hx6]
  refine g_iload_n X 2 dX7_least_48 rfl rfl ?_
  refine g_if_ne X 62 dX7_least_49 (by decide) (fun c7 => ?_) (fun c7 => ?_)
  · replace hw := hw.1 c7
    refine g_aload_n X 0 dX7_least_62 rfl rfl ?_
    refine g_get (T := TX7) (C := RX7) (N := 8) (v := .ref (g 14 0)) X 0 7 (fun _ h => (List.mem_cons_of_mem _ (List.mem_append_left _ (List.mem_append_left _ (List.mem_append_left _ (List.mem_append_left _ (List.mem_append_right _ h))))))) (List.mem_of_getElem? (i := 5) rfl) dX7_least_63 rfl rfl (by decide) rfl rfl ?_
    refine g_ciV X [wC ct g kc, wS ct (g 1) v, wR ct (g 14) x6] (fun (u9 : Mem) => [wC ct g kc, wS ct (g 1) v, wR ct (g 14) u9]) (fun (u9 : Mem) => fl [wC ct g kc, wS ct (g 1) v, wR ct (g 14) u9]) 3 [2] [0, 1] 0 (kX3_leastByLaying l D ct (g 14) x6 _ hw) (cwV 0 X.1.2.2.2.2 gX7_least_X3_leastByLaying rfl rfl rfl (by decide +kernel) ⟨Nat.le_of_ble_eq_true rfl, Nat.le_of_ble_eq_true rfl⟩) dX7_least_66 rfl rfl (Nat.le_of_ble_eq_true rfl) ⟨Nat.le_of_ble_eq_true rfl, Nat.le_of_ble_eq_true rfl⟩ rfl rfl rfl (by decide) (fun _ => rfl) (fun _ => rfl) (fun _ => rfl) (fun _ => rfl) rfl rfl rfl (fun r8 u9 hw => ?_)
    obtain ⟨x10, hx10⟩ : ∃ z : Mem, z = u9 := ⟨_, rfl⟩
    rw [← hx10] at hw
    rw [← hx10]
    exact g_iret X x10 hw rfl (Nat.le_of_ble_eq_true rfl) (Nat.le_of_ble_eq_true rfl) dX7_least_69
  · replace hw := hw.2 c7
    refine g_aload_n X 0 dX7_least_52 rfl rfl ?_
    refine g_get (T := TX7) (C := RX7) (N := 8) (v := .ref (g 14 0)) X 0 7 (fun _ h => (List.mem_cons_of_mem _ (List.mem_append_left _ (List.mem_append_left _ (List.mem_append_left _ (List.mem_append_left _ (List.mem_append_right _ h))))))) (List.mem_of_getElem? (i := 5) rfl) dX7_least_53 rfl rfl (by decide) rfl rfl ?_
    refine g_ciV X [wC ct g kc, wS ct (g 1) v, wR ct (g 14) x6] (fun (u12 : Mem) => [wC ct g kc, wS ct (g 1) v, wR ct (g 14) u12]) (fun (u12 : Mem) => fl [wC ct g kc, wS ct (g 1) v, wR ct (g 14) u12]) 3 [2] [0, 1] 0 (kX3_leastByAllOrders l D ct (g 14) x6 _ hw) (cwV 0 X.1.2.2.2.2 gX7_least_X3_leastByAllOrders rfl rfl rfl (by decide +kernel) ⟨Nat.le_of_ble_eq_true rfl, Nat.le_of_ble_eq_true rfl⟩) dX7_least_56 rfl rfl (Nat.le_of_ble_eq_true rfl) ⟨Nat.le_of_ble_eq_true rfl, Nat.le_of_ble_eq_true rfl⟩ rfl rfl rfl (by decide) (fun _ => rfl) (fun _ => rfl) (fun _ => rfl) (fun _ => rfl) rfl rfl rfl (fun r11 u12 hw => ?_)
    obtain ⟨x13, hx13⟩ : ∃ z : Mem, z = u12 := ⟨_, rfl⟩
    rw [← hx13] at hw
    rw [← hx13]
    refine g_goto X 69 dX7_least_59 (by decide) ?_
    exact g_iret X x13 hw rfl (Nat.le_of_ble_eq_true rfl) (Nat.le_of_ble_eq_true rfl) dX7_least_69

set_option maxHeartbeats 4000000 in
set_option maxRecDepth 20000 in
theorem kX7_least_nt (l : Launch) (D : va_G) (ct : Nat → ClassId) (g : Nat → Nat → Nat) (kc : Mem) (v : Mem) (x : Mem) (p1 : Int32) (p2 : Int32) (post : Int32 → Mem → Prop) (hw : PX7_least_nt kc v x p1 p2 post) : Ci (S := Mem) l yX7_least wsX7_least rmX7_least_nt D (tyz ct) [.ref (g 0 0), .int p1, .int p2] (fl [wC ct g kc, wS ct (g 1) v, wR ct (g 14) x]) (fun r (u9 : Mem) => post r u9) (fun u9 => fl [wC ct g kc, wS ct (g 1) v, wR ct (g 14) u9]) 0 0 := by
  intro sz
  refine g_of (own := RX7) (by decide) rfl rfl (Nat.le_of_ble_eq_true rfl) [(0, .ref (g 0 0)), (1, .int p1), (2, .int p2)] rfl (fun p e s m args below meth c hsz X => ?_)
  subst hsz
  unfold PX7_least_nt at hw
  refine g_iload_n X 1 dX7_least_0 rfl rfl ?_
  refine g_ciS X [wC ct g kc, wS ct (g 1) v, wR ct (g 14) x] (fun (_ : Unit) => [wC ct g kc, wS ct (g 1) v, wR ct (g 14) x]) (fun _ => fl [wC ct g kc, wS ct (g 1) v, wR ct (g 14) x]) 3 [] [0, 1, 2] (kX7_isRow l D ct  p1 _ hw) (va_cwS 1 X.1.2.2.2.2 gX7_least_X7_isRow rfl rfl rfl (by decide +kernel) ⟨Nat.le_of_ble_eq_true rfl, Nat.le_of_ble_eq_true rfl⟩) dX7_least_1 rfl rfl (Nat.le_of_ble_eq_true rfl) ⟨Nat.le_of_ble_eq_true rfl, Nat.le_of_ble_eq_true rfl⟩ rfl rfl rfl (by decide) (fun _ => rfl) (fun _ => rfl) (fun _ => rfl) (fun _ => rfl) (fun r1 _ hw => ?_)
  refine g_if_ne X 17 dX7_least_4 (by decide) (fun c3 => ?_) (fun c3 => ?_)
  · replace hw := hw.1 c3
    refine g_iload_n X 2 dX7_least_17 rfl rfl ?_
    refine g_if_eq X 36 dX7_least_18 (by decide) (fun c4 => ?_) (fun c4 => ?_)
    · replace hw := hw.1 c4
      refine g_sub [(0, .ref (g 0 0)), (1, .int p1), (2, .int p2)] [0, 1, 2] rfl ?_
      exact kX7_least_nt_36 l D ct g kc v post X _ _ _ hw
    · replace hw := hw.2 c4
      refine g_iload_n X 2 dX7_least_21 rfl rfl ?_
      refine g_iconst (v := 1) X rfl dX7_least_22 ?_
      refine g_icmp_eq X 36 dX7_least_23 (by decide) (fun c14 => ?_) (fun c14 => ?_)
      · replace hw := hw.1 c14
        refine g_sub [(0, .ref (g 0 0)), (1, .int p1), (2, .int p2)] [0, 1, 2] rfl ?_
        exact kX7_least_nt_36 l D ct g kc v post X _ _ _ hw
      · replace hw := hw.2 c14
        exact hw.elim
  · replace hw := hw.2 c3
    exact hw.elim

abbrev rmX7_bestSwap : Room := { frames := 6, cells := 0, slots := 0, locals := 130 }

abbrev GX7_bestSwap (l : Launch) (D : va_G) (ct : Nat → ClassId) (g : Nat → Nat → Nat) (kc : Mem) (post : Int32 → Mem → Mem → Prop) (p : Program) (e : Env) (s : State) (m : MethodId) (args : Array Value) (below : List Frame) (meth : Method) (c : Code) (A : Nat → Prop) (w9 : va_W) (lv : List (Nat × Value)) (pc : Nat) (st : List Value) : Prop :=
  GG p l e rmX7_bestSwap s m args below meth c D A s.heap 6 (MQ below (va_Qi (fun r (u9 : Mem × Mem) => post r u9.1 u9.2) (fun u9 t9 => Af D (tyz ct) A ((fun u9 => fl [wC ct g kc, wS ct (g 1) u9.1, wL ct (g 12) u9.2]) u9) t9) A)  args s 0 0 A) w9 0 0 lv pc st

set_option maxHeartbeats 4000000 in
set_option maxRecDepth 20000 in
theorem kX7_bestSwap_17 (l : Launch) (D : va_G) (ct : Nat → ClassId) (g : Nat → Nat → Nat) (kc : Mem) (post : Int32 → Mem → Mem → Prop) (K9 : Mem → Mem → Int32 → Int32 → Int32 → Prop) {p : Program} {e : Env} {s : State} {m : MethodId} {args : Array Value} {below : List Frame} {meth : Method} {c : Code} {A : Nat → Prop} (X : Cx p s m args meth c cX7_bestSwap 6 RX7 wsX7_bestSwap D (tyz ct) A s.heap (some .int)) (hK9 : ∀ (v : Mem) (y : Mem) (x1 : Int32) (x2 : Int32) (x3 : Int32), K9 v y x1 x2 x3 → GX7_bestSwap l D ct g kc post p e s m args below meth c A (fl [wC ct g kc, wS ct (g 1) v, wL ct (g 12) y]) [(0, .ref (g 0 0)), (1, .int x1), (2, .int x2), (3, .int x3)] 9 []) :
    ∀ (n : Nat) (v : Mem) (y : Mem) (x1 : Int32) (x2 : Int32) (x3 : Int32) (x4 : Int32), PX7_bestSwap_17 kc post K9 n v y x1 x2 x3 x4 → GX7_bestSwap l D ct g kc post p e s m args below meth c A (fl [wC ct g kc, wS ct (g 1) v, wL ct (g 12) y]) [(0, .ref (g 0 0)), (1, .int x1), (2, .int x2), (3, .int x3), (4, .int x4)] 17 [] := by
  intro n
  induction n with
  | zero =>
    intro v y x1 x2 x3 x4 hw
    exact hw.elim
  | succ n ih =>
    intro v y x1 x2 x3 x4 hw
    unfold PX7_bestSwap_17 at hw
    refine g_iload X 4 dX7_bestSwap_17 rfl ?_
    refine g_aload_n X 0 dX7_bestSwap_19 rfl rfl ?_
    refine g_get (T := TX7) (C := RX7) (N := 8) (v := .ref (g 1 0)) X 0 0 (fun _ h => (List.mem_cons_of_mem _ (List.mem_append_left _ (List.mem_append_left _ (List.mem_append_right _ h))))) (List.mem_of_getElem? (i := 1) rfl) dX7_bestSwap_20 rfl rfl (by decide) rfl rfl ?_
    refine g_iload_n X 3 dX7_bestSwap_23 rfl rfl ?_
    refine g_ciV X [wC ct g kc, wS ct (g 1) v, wL ct (g 12) y] (fun (_ : Unit) => [wC ct g kc, wS ct (g 1) v, wL ct (g 12) y]) (fun _ => fl [wC ct g kc, wS ct (g 1) v, wL ct (g 12) y]) 3 [1] [0, 2] 0 (kX5_sizeOf l D ct (g 1) v x3 _ hw) (cwV 1 X.1.2.2.2.2 gX7_bestSwap_X5_sizeOf rfl rfl rfl (by decide +kernel) ⟨Nat.le_of_ble_eq_true rfl, Nat.le_of_ble_eq_true rfl⟩) dX7_bestSwap_24 rfl rfl (Nat.le_of_ble_eq_true rfl) ⟨Nat.le_of_ble_eq_true rfl, Nat.le_of_ble_eq_true rfl⟩ rfl rfl rfl (by decide) (fun _ => rfl) (fun _ => rfl) (fun _ => rfl) (fun _ => rfl) rfl rfl rfl (fun r5 _ hw => ?_)
    refine g_iconst (v := 1) X rfl dX7_bestSwap_27 ?_
    refine g_isub X dX7_bestSwap_28 ?_
    refine g_icmp_ge X 81 dX7_bestSwap_29 (by decide) (fun c7 => ?_) (fun c7 => ?_)
    · replace hw := hw.1 c7
      refine g_iinc X [(3, .int (x3 + 1)), (0, .ref (g 0 0)), (1, .int x1), (2, .int x2), (4, .int x4)] 3 dX7_bestSwap_81 rfl rfl (by decide) rfl ?_
      refine g_goto X 9 dX7_bestSwap_84 (by decide) ?_
      refine g_sub [(0, .ref (g 0 0)), (1, .int x1), (2, .int x2), (3, .int (x3 + 1))] [1, 2, 3, 0] rfl ?_
      exact hK9 _ _ _ _ _ hw
    · replace hw := hw.2 c7
      refine g_aload_n X 0 dX7_bestSwap_32 rfl rfl ?_
      refine g_get (T := TX7) (C := RX7) (N := 8) (v := .ref (g 1 0)) X 0 0 (fun _ h => (List.mem_cons_of_mem _ (List.mem_append_left _ (List.mem_append_left _ (List.mem_append_right _ h))))) (List.mem_of_getElem? (i := 1) rfl) dX7_bestSwap_33 rfl rfl (by decide) rfl rfl ?_
      refine g_iload_n X 3 dX7_bestSwap_36 rfl rfl ?_
      refine g_iload X 4 dX7_bestSwap_37 rfl ?_
      refine g_cvV X [wC ct g kc, wS ct (g 1) v, wL ct (g 12) y] (fun (u8 : Mem) => [wC ct g kc, wS ct (g 1) u8, wL ct (g 12) y]) (fun (u8 : Mem) => fl [wC ct g kc, wS ct (g 1) u8, wL ct (g 12) y]) 3 [1] [0, 2] 0 (kX5_exchange l D ct (g 1) v x3 x4 _ hw) (cwV 2 X.1.2.2.2.2 gX7_bestSwap_X5_exchange rfl rfl rfl (by decide +kernel) ⟨Nat.le_of_ble_eq_true rfl, Nat.le_of_ble_eq_true rfl⟩) dX7_bestSwap_39 rfl rfl (Nat.le_of_ble_eq_true rfl) ⟨Nat.le_of_ble_eq_true rfl, Nat.le_of_ble_eq_true rfl⟩ rfl rfl rfl (by decide) (fun _ => rfl) (fun _ => rfl) (fun _ => rfl) (fun _ => rfl) rfl rfl rfl (fun u8 hw => ?_)
      obtain ⟨v9, hv9⟩ : ∃ z : Mem, z = u8 := ⟨_, rfl⟩
      rw [← hv9] at hw
      rw [← hv9]
      refine g_aload_n X 0 dX7_bestSwap_42 rfl rfl ?_
      refine g_ciV X [wC ct g kc, wS ct (g 1) v9, wL ct (g 12) y] (fun (u11 : Mem) => [wC ct g kc, wS ct (g 1) v9, wL ct (g 12) u11]) (fun (u11 : Mem) => fl [wC ct g kc, wS ct (g 1) v9, wL ct (g 12) u11]) 3 [0, 1, 2] [] 0 (kX7_allCrossings l D ct g kc v9 y _ hw) (cwV 0 X.1.2.2.2.2 gX7_bestSwap_X7_allCrossings rfl rfl rfl (by decide +kernel) ⟨Nat.le_of_ble_eq_true rfl, Nat.le_of_ble_eq_true rfl⟩) dX7_bestSwap_43 rfl rfl (Nat.le_of_ble_eq_true rfl) ⟨Nat.le_of_ble_eq_true rfl, Nat.le_of_ble_eq_true rfl⟩ rfl rfl rfl (by decide) (fun _ => rfl) (fun _ => rfl) (fun _ => rfl) (fun _ => rfl) rfl rfl rfl (fun r10 u11 hw => ?_)
      obtain ⟨y12, hy12⟩ : ∃ z : Mem, z = u11 := ⟨_, rfl⟩
      rw [← hy12] at hw
      rw [← hy12]
      refine g_istore X [(5, .int r10), (0, .ref (g 0 0)), (1, .int x1), (2, .int x2), (3, .int x3), (4, .int x4)] dX7_bestSwap_46 (by decide) rfl ?_
      refine g_aload_n X 1 dX7_bestSwap_48 rfl rfl ?_
      refine g_get (T := TX7) (C := RX7) (N := 8) (v := .ref (g 1 0)) X 0 0 (fun _ h => (List.mem_cons_of_mem _ (List.mem_append_left _ (List.mem_append_left _ (List.mem_append_right _ h))))) (List.mem_of_getElem? (i := 1) rfl) dX7_bestSwap_49 rfl rfl (by decide) rfl rfl ?_
      refine g_iload_n X 4 dX7_bestSwap_52 rfl rfl ?_
      refine g_iload X 5 dX7_bestSwap_53 rfl ?_
      refine g_cvV X [wC ct g kc, wS ct (g 1) v9, wL ct (g 12) y12] (fun (u13 : Mem) => [wC ct g kc, wS ct (g 1) u13, wL ct (g 12) y12]) (fun (u13 : Mem) => fl [wC ct g kc, wS ct (g 1) u13, wL ct (g 12) y12]) 3 [1] [0, 2] 0 (kX5_exchange l D ct (g 1) v9 x3 x4 _ hw) (cwV 2 X.1.2.2.2.2 gX7_bestSwap_X5_exchange rfl rfl rfl (by decide +kernel) ⟨Nat.le_of_ble_eq_true rfl, Nat.le_of_ble_eq_true rfl⟩) dX7_bestSwap_55 rfl rfl (Nat.le_of_ble_eq_true rfl) ⟨Nat.le_of_ble_eq_true rfl, Nat.le_of_ble_eq_true rfl⟩ rfl rfl rfl (by decide) (fun _ => rfl) (fun _ => rfl) (fun _ => rfl) (fun _ => rfl) rfl rfl rfl (fun u13 hw => ?_)
      obtain ⟨v14, hv14⟩ : ∃ z : Mem, z = u13 := ⟨_, rfl⟩
      rw [← hv14] at hw
      rw [← hv14]
      refine g_iload X 0 dX7_bestSwap_58 rfl ?_
      refine g_iload_n X 2 dX7_bestSwap_60 rfl rfl ?_
      refine g_icmp_ge X 75 dX7_bestSwap_61 (by decide) (fun c15 => ?_) (fun c15 => ?_)
      · replace hw := hw.1 c15
        refine g_iinc X [(4, .int (x4 + 1)), (5, .int r10), (0, .ref (g 0 0)), (1, .int x1), (2, .int x2), (3, .int x3)] 5 dX7_bestSwap_75 rfl rfl (by decide) rfl ?_
        refine g_goto X 17 dX7_bestSwap_78 (by decide) ?_
        refine g_sub [(0, .ref (g 0 0)), (1, .int x1), (2, .int x2), (3, .int x3), (4, .int (x4 + 1))] [2, 3, 4, 5, 0] rfl ?_
        exact ih _ _ _ _ _ _ hw
      · replace hw := hw.2 c15
        refine g_iload X 0 dX7_bestSwap_64 rfl ?_
        refine g_istore_n X [(1, .int r10), (5, .int r10), (0, .ref (g 0 0)), (2, .int x2), (3, .int x3), (4, .int x4)] dX7_bestSwap_66 rfl (by decide) rfl ?_
        refine g_bipush (v := 10) X rfl dX7_bestSwap_67 ?_
        refine g_iload_n X 4 dX7_bestSwap_69 rfl rfl ?_
        refine g_imul X dX7_bestSwap_70 ?_
        refine g_iload X 5 dX7_bestSwap_71 rfl ?_
        refine g_iadd X dX7_bestSwap_73 ?_
        refine g_topi (fun q16 hq16 => ?_)
        replace hw := hw q16 hq16
        refine g_istore_n X [(2, .int q16), (1, .int r10), (5, .int r10), (0, .ref (g 0 0)), (3, .int x3), (4, .int x4)] dX7_bestSwap_74 rfl (by decide) rfl ?_
        refine g_iinc X [(4, .int (x4 + 1)), (2, .int q16), (1, .int r10), (5, .int r10), (0, .ref (g 0 0)), (3, .int x3)] 5 dX7_bestSwap_75 rfl rfl (by decide) rfl ?_
        refine g_goto X 17 dX7_bestSwap_78 (by decide) ?_
        refine g_sub [(0, .ref (g 0 0)), (1, .int r10), (2, .int q16), (3, .int x3), (4, .int (x4 + 1))] [4, 2, 1, 5, 0] rfl ?_
        exact ih _ _ _ _ _ _ hw

set_option maxHeartbeats 4000000 in
set_option maxRecDepth 20000 in
theorem kX7_bestSwap_9 (l : Launch) (D : va_G) (ct : Nat → ClassId) (g : Nat → Nat → Nat) (kc : Mem) (post : Int32 → Mem → Mem → Prop) {p : Program} {e : Env} {s : State} {m : MethodId} {args : Array Value} {below : List Frame} {meth : Method} {c : Code} {A : Nat → Prop} (X : Cx p s m args meth c cX7_bestSwap 6 RX7 wsX7_bestSwap D (tyz ct) A s.heap (some .int))  :
    ∀ (n : Nat) (v : Mem) (y : Mem) (x1 : Int32) (x2 : Int32) (x3 : Int32), PX7_bestSwap_9 kc post n v y x1 x2 x3 → GX7_bestSwap l D ct g kc post p e s m args below meth c A (fl [wC ct g kc, wS ct (g 1) v, wL ct (g 12) y]) [(0, .ref (g 0 0)), (1, .int x1), (2, .int x2), (3, .int x3)] 9 [] := by
  intro n
  induction n with
  | zero =>
    intro v y x1 x2 x3 hw
    exact hw.elim
  | succ n ih =>
    intro v y x1 x2 x3 hw
    unfold PX7_bestSwap_9 at hw
    refine g_iload_n X 3 dX7_bestSwap_9 rfl rfl ?_
    refine g_iconst (v := 4) X rfl dX7_bestSwap_10 ?_
    refine g_icmp_ge X 87 dX7_bestSwap_11 (by decide) (fun c4 => ?_) (fun c4 => ?_)
    · replace hw := hw.1 c4
      refine g_iload_n X 2 dX7_bestSwap_87 rfl rfl ?_
      exact g_iret X (v, y) hw rfl (Nat.le_of_ble_eq_true rfl) (Nat.le_of_ble_eq_true rfl) dX7_bestSwap_88
    · replace hw := hw.2 c4
      refine g_iconst (v := 0) X rfl dX7_bestSwap_14 ?_
      refine g_istore X [(4, .int 0), (0, .ref (g 0 0)), (1, .int x1), (2, .int x2), (3, .int x3)] dX7_bestSwap_15 (by decide) rfl ?_
      refine g_sub [(0, .ref (g 0 0)), (1, .int x1), (2, .int x2), (3, .int x3), (4, .int 0)] [1, 2, 3, 4, 0] rfl ?_
      obtain ⟨n17, hw⟩ := hw
      exact kX7_bestSwap_17 l D ct g kc post _ X ih n17 _ _ _ _ _ _ hw

set_option maxHeartbeats 4000000 in
set_option maxRecDepth 20000 in
theorem kX7_bestSwap (l : Launch) (D : va_G) (ct : Nat → ClassId) (g : Nat → Nat → Nat) (kc : Mem) (v : Mem) (y : Mem) (post : Int32 → Mem → Mem → Prop) (hw : PX7_bestSwap kc v y post) : Ci (S := Mem × Mem) l yX7_bestSwap wsX7_bestSwap rmX7_bestSwap D (tyz ct) [.ref (g 0 0)] (fl [wC ct g kc, wS ct (g 1) v, wL ct (g 12) y]) (fun r (u9 : Mem × Mem) => post r u9.1 u9.2) (fun u9 => fl [wC ct g kc, wS ct (g 1) u9.1, wL ct (g 12) u9.2]) 0 0 := by
  intro sz
  refine g_of (own := RX7) (by decide) rfl rfl (Nat.le_of_ble_eq_true rfl) [(0, .ref (g 0 0))] rfl (fun p e s m args below meth c hsz X => ?_)
  subst hsz
  unfold PX7_bestSwap at hw
  refine g_aload_n X 0 dX7_bestSwap_0 rfl rfl ?_
  refine g_ciV X [wC ct g kc, wS ct (g 1) v, wL ct (g 12) y] (fun (u2 : Mem) => [wC ct g kc, wS ct (g 1) v, wL ct (g 12) u2]) (fun (u2 : Mem) => fl [wC ct g kc, wS ct (g 1) v, wL ct (g 12) u2]) 3 [0, 1, 2] [] 0 (kX7_allCrossings l D ct g kc v y _ hw) (cwV 0 X.1.2.2.2.2 gX7_bestSwap_X7_allCrossings rfl rfl rfl (by decide +kernel) ⟨Nat.le_of_ble_eq_true rfl, Nat.le_of_ble_eq_true rfl⟩) dX7_bestSwap_1 rfl rfl (Nat.le_of_ble_eq_true rfl) ⟨Nat.le_of_ble_eq_true rfl, Nat.le_of_ble_eq_true rfl⟩ rfl rfl rfl (by decide) (fun _ => rfl) (fun _ => rfl) (fun _ => rfl) (fun _ => rfl) rfl rfl rfl (fun r1 u2 hw => ?_)
  obtain ⟨y3, hy3⟩ : ∃ z : Mem, z = u2 := ⟨_, rfl⟩
  rw [← hy3] at hw
  rw [← hy3]
  refine g_istore_n X [(1, .int r1), (0, .ref (g 0 0))] dX7_bestSwap_4 rfl (by decide) rfl ?_
  refine g_iconst (v := (-1)) X rfl dX7_bestSwap_5 ?_
  refine g_istore_n X [(2, .int ((-1))), (1, .int r1), (0, .ref (g 0 0))] dX7_bestSwap_6 rfl (by decide) rfl ?_
  refine g_iconst (v := 0) X rfl dX7_bestSwap_7 ?_
  refine g_istore_n X [(3, .int 0), (2, .int ((-1))), (1, .int r1), (0, .ref (g 0 0))] dX7_bestSwap_8 rfl (by decide) rfl ?_
  refine g_sub [(0, .ref (g 0 0)), (1, .int r1), (2, .int ((-1))), (3, .int 0)] [3, 2, 1, 0] rfl ?_
  obtain ⟨n18, hw⟩ := hw
  exact kX7_bestSwap_9 l D ct g kc post X n18 _ _ _ _ _ hw

abbrev rmX7_nearness_nt : Room := { frames := 5, cells := 0, slots := 0, locals := 113 }

abbrev GX7_nearness_nt (l : Launch) (D : va_G) (ct : Nat → ClassId) (g : Nat → Nat → Nat) (kc : Mem) (v : Mem) (post : Int32 → Prop) (p : Program) (e : Env) (s : State) (m : MethodId) (args : Array Value) (below : List Frame) (meth : Method) (c : Code) (A : Nat → Prop) (w9 : va_W) (lv : List (Nat × Value)) (pc : Nat) (st : List Value) : Prop :=
  GG p l e rmX7_nearness_nt s m args below meth c D A s.heap 3 (MQ below (va_Qi (fun r (_ : Unit) => post r) (fun u9 t9 => Af D (tyz ct) A ((fun _ => fl [wC ct g kc, wS ct (g 1) v]) u9) t9) A)  args s 0 0 A) w9 0 0 lv pc st

set_option maxHeartbeats 4000000 in
set_option maxRecDepth 20000 in
theorem kX7_nearness_nt (l : Launch) (D : va_G) (ct : Nat → ClassId) (g : Nat → Nat → Nat) (kc : Mem) (v : Mem) (p1 : Int32) (p2 : Int32) (post : Int32 → Prop) (hw : PX7_nearness_nt kc v p1 p2 post) : Ci (S := Unit) l yX7_nearness wsX7_nearness rmX7_nearness_nt D (tyz ct) [.ref (g 0 0), .int p1, .int p2] (fl [wC ct g kc, wS ct (g 1) v]) (fun r (_ : Unit) => post r) (fun _ => fl [wC ct g kc, wS ct (g 1) v]) 0 0 := by
  intro sz
  refine g_of (own := RX7) (by decide) rfl rfl (Nat.le_of_ble_eq_true rfl) [(0, .ref (g 0 0)), (1, .int p1), (2, .int p2)] rfl (fun p e s m args below meth c hsz X => ?_)
  subst hsz
  unfold PX7_nearness_nt at hw
  refine g_aload_n X 0 dX7_nearness_0 rfl rfl ?_
  refine g_get (T := TX7) (C := RX7) (N := 8) (v := .ref (g 1 0)) X 0 0 (fun _ h => (List.mem_cons_of_mem _ (List.mem_append_left _ (List.mem_append_left _ (List.mem_append_right _ h))))) (List.mem_of_getElem? (i := 3) rfl) dX7_nearness_1 rfl rfl (by decide) rfl rfl ?_
  refine g_iload_n X 1 dX7_nearness_4 rfl rfl ?_
  refine g_ciV X [wC ct g kc, wS ct (g 1) v] (fun (_ : Unit) => [wC ct g kc, wS ct (g 1) v]) (fun _ => fl [wC ct g kc, wS ct (g 1) v]) 2 [1] [0] 0 (kX5_isPerson l D ct (g 1) v p1 _ hw) (cwV 1 X.1.2.2.2.2 gX7_nearness_X5_isPerson rfl rfl rfl (by decide +kernel) ⟨Nat.le_of_ble_eq_true rfl, Nat.le_of_ble_eq_true rfl⟩) dX7_nearness_5 rfl rfl (Nat.le_of_ble_eq_true rfl) ⟨Nat.le_of_ble_eq_true rfl, Nat.le_of_ble_eq_true rfl⟩ rfl rfl rfl (by decide) (fun _ => rfl) (fun _ => rfl) (fun _ => rfl) (fun _ => rfl) rfl rfl rfl (fun r1 _ hw => ?_)
  refine g_if_eq X 22 dX7_nearness_8 (by decide) (fun c3 => ?_) (fun c3 => ?_)
  · replace hw := hw.1 c3
    exact hw.elim
  · replace hw := hw.2 c3
    refine g_aload_n X 0 dX7_nearness_11 rfl rfl ?_
    refine g_get (T := TX7) (C := RX7) (N := 8) (v := .ref (g 1 0)) X 0 0 (fun _ h => (List.mem_cons_of_mem _ (List.mem_append_left _ (List.mem_append_left _ (List.mem_append_right _ h))))) (List.mem_of_getElem? (i := 3) rfl) dX7_nearness_12 rfl rfl (by decide) rfl rfl ?_
    refine g_iload_n X 2 dX7_nearness_15 rfl rfl ?_
    refine g_ciV X [wC ct g kc, wS ct (g 1) v] (fun (_ : Unit) => [wC ct g kc, wS ct (g 1) v]) (fun _ => fl [wC ct g kc, wS ct (g 1) v]) 2 [1] [0] 0 (kX5_isPerson l D ct (g 1) v p2 _ hw) (cwV 1 X.1.2.2.2.2 gX7_nearness_X5_isPerson rfl rfl rfl (by decide +kernel) ⟨Nat.le_of_ble_eq_true rfl, Nat.le_of_ble_eq_true rfl⟩) dX7_nearness_16 rfl rfl (Nat.le_of_ble_eq_true rfl) ⟨Nat.le_of_ble_eq_true rfl, Nat.le_of_ble_eq_true rfl⟩ rfl rfl rfl (by decide) (fun _ => rfl) (fun _ => rfl) (fun _ => rfl) (fun _ => rfl) rfl rfl rfl (fun r4 _ hw => ?_)
    refine g_if_ne X 32 dX7_nearness_19 (by decide) (fun c6 => ?_) (fun c6 => ?_)
    · replace hw := hw.1 c6
      refine g_aload_n X 0 dX7_nearness_32 rfl rfl ?_
      refine g_get (T := TX7) (C := RX7) (N := 8) (v := .ref (g 1 0)) X 0 0 (fun _ h => (List.mem_cons_of_mem _ (List.mem_append_left _ (List.mem_append_left _ (List.mem_append_right _ h))))) (List.mem_of_getElem? (i := 3) rfl) dX7_nearness_33 rfl rfl (by decide) rfl rfl ?_
      refine g_iload_n X 1 dX7_nearness_36 rfl rfl ?_
      refine g_iload_n X 2 dX7_nearness_37 rfl rfl ?_
      refine g_ciS X [wC ct g kc, wS ct (g 1) v] (fun (_ : Unit) => [wC ct g kc, wS ct (g 1) v]) (fun _ => fl [wC ct g kc, wS ct (g 1) v]) 2 [1] [0] (kX0_fewestLines l D ct (g 1) v p1 p2 _ hw) (va_cwS 3 X.1.2.2.2.2 gX7_nearness_X0_fewestLines rfl rfl rfl (by decide +kernel) ⟨Nat.le_of_ble_eq_true rfl, Nat.le_of_ble_eq_true rfl⟩) dX7_nearness_38 rfl rfl (Nat.le_of_ble_eq_true rfl) ⟨Nat.le_of_ble_eq_true rfl, Nat.le_of_ble_eq_true rfl⟩ rfl rfl rfl (by decide) (fun _ => rfl) (fun _ => rfl) (fun _ => rfl) (fun _ => rfl) (fun r7 _ hw => ?_)
      exact g_iret X () hw rfl (Nat.le_of_ble_eq_true rfl) (Nat.le_of_ble_eq_true rfl) dX7_nearness_41
    · replace hw := hw.2 c6
      exact hw.elim

abbrev rmX7_straightShare : Room := { frames := 5, cells := 0, slots := 0, locals := 106 }

abbrev GX7_straightShare (l : Launch) (D : va_G) (ct : Nat → ClassId) (g : Nat → Nat → Nat) (kc : Mem) (v : Mem) (post : UInt64 → Prop) (p : Program) (e : Env) (s : State) (m : MethodId) (args : Array Value) (below : List Frame) (meth : Method) (c : Code) (A : Nat → Prop) (w9 : va_W) (lv : List (Nat × Value)) (pc : Nat) (st : List Value) : Prop :=
  GG p l e rmX7_straightShare s m args below meth c D A s.heap 2 (MQ below (va_Qd (fun r (_ : Unit) => post r) (fun u9 t9 => Af D (tyz ct) A ((fun _ => fl [wC ct g kc, wS ct (g 1) v]) u9) t9) A)  args s 0 0 A) w9 0 0 lv pc st

set_option maxHeartbeats 4000000 in
set_option maxRecDepth 20000 in
theorem kX7_straightShare (l : Launch) (D : va_G) (ct : Nat → ClassId) (g : Nat → Nat → Nat) (kc : Mem) (v : Mem) (post : UInt64 → Prop) (hw : PX7_straightShare kc v post) : Cd (S := Unit) l yX7_straightShare wsX7_straightShare rmX7_straightShare D (tyz ct) [.ref (g 0 0)] (fl [wC ct g kc, wS ct (g 1) v]) (fun r (_ : Unit) => post r) (fun _ => fl [wC ct g kc, wS ct (g 1) v]) 0 0 := by
  intro sz
  refine g_of (own := RX7) (by decide) rfl rfl (Nat.le_of_ble_eq_true rfl) [(0, .ref (g 0 0))] rfl (fun p e s m args below meth c hsz X => ?_)
  subst hsz
  unfold PX7_straightShare at hw
  refine g_aload_n X 0 dX7_straightShare_0 rfl rfl ?_
  refine g_get (T := TX7) (C := RX7) (N := 8) (v := .ref (g 1 0)) X 0 0 (fun _ h => (List.mem_cons_of_mem _ (List.mem_append_left _ (List.mem_append_right _ h)))) (List.mem_of_getElem? (i := 1) rfl) dX7_straightShare_1 rfl rfl (by decide) rfl rfl ?_
  refine g_ciV X [wC ct g kc, wS ct (g 1) v] (fun (_ : Unit) => [wC ct g kc, wS ct (g 1) v]) (fun _ => fl [wC ct g kc, wS ct (g 1) v]) 2 [1] [0] 0 (kX5_lines l D ct (g 1) v _ hw) (cwV 0 X.1.2.2.2.2 gX7_straightShare_X5_lines rfl rfl rfl (by decide +kernel) ⟨Nat.le_of_ble_eq_true rfl, Nat.le_of_ble_eq_true rfl⟩) dX7_straightShare_4 rfl rfl (Nat.le_of_ble_eq_true rfl) ⟨Nat.le_of_ble_eq_true rfl, Nat.le_of_ble_eq_true rfl⟩ rfl rfl rfl (by decide) (fun _ => rfl) (fun _ => rfl) (fun _ => rfl) (fun _ => rfl) rfl rfl rfl (fun r1 _ hw => ?_)
  refine g_istore_n X [(1, .int r1), (0, .ref (g 0 0))] dX7_straightShare_7 rfl (by decide) rfl ?_
  refine g_iload_n X 0 dX7_straightShare_8 rfl rfl ?_
  refine g_if_ne X 14 dX7_straightShare_9 (by decide) (fun c3 => ?_) (fun c3 => ?_)
  · replace hw := hw.1 c3
    refine g_iload_n X 0 dX7_straightShare_14 rfl rfl ?_
    refine g_aload_n X 1 dX7_straightShare_15 rfl rfl ?_
    refine g_get (T := TX7) (C := RX7) (N := 8) (v := .ref (g 1 0)) X 0 0 (fun _ h => (List.mem_cons_of_mem _ (List.mem_append_left _ (List.mem_append_right _ h)))) (List.mem_of_getElem? (i := 1) rfl) dX7_straightShare_16 rfl rfl (by decide) rfl rfl ?_
    refine g_ciV X [wC ct g kc, wS ct (g 1) v] (fun (_ : Unit) => [wC ct g kc, wS ct (g 1) v]) (fun _ => fl [wC ct g kc, wS ct (g 1) v]) 2 [1] [0] 0 (kX5_bentLines l D ct (g 1) v _ hw) (cwV 0 X.1.2.2.2.2 gX7_straightShare_X5_bentLines rfl rfl rfl (by decide +kernel) ⟨Nat.le_of_ble_eq_true rfl, Nat.le_of_ble_eq_true rfl⟩) dX7_straightShare_19 rfl rfl (Nat.le_of_ble_eq_true rfl) ⟨Nat.le_of_ble_eq_true rfl, Nat.le_of_ble_eq_true rfl⟩ rfl rfl rfl (by decide) (fun _ => rfl) (fun _ => rfl) (fun _ => rfl) (fun _ => rfl) rfl rfl rfl (fun r4 _ hw => ?_)
    refine g_isub X dX7_straightShare_22 ?_
    refine g_i2d X dX7_straightShare_23 ?_
    refine g_iload_n X 0 dX7_straightShare_24 rfl rfl ?_
    refine g_i2d X dX7_straightShare_25 ?_
    obtain ⟨h6, hw⟩ := hw
    refine g_ddiv X h6 dX7_straightShare_26 ?_
    exact g_dret X () hw rfl (Nat.le_of_ble_eq_true rfl) (Nat.le_of_ble_eq_true rfl) dX7_straightShare_27
  · replace hw := hw.2 c3
    refine g_dconst1 X dX7_straightShare_12 ?_
    exact g_dret X () hw rfl (Nat.le_of_ble_eq_true rfl) (Nat.le_of_ble_eq_true rfl) dX7_straightShare_13

abbrev rmX7_hashPeopleAndCouples : Room := { frames := 6, cells := 0, slots := 0, locals := 130 }

abbrev GX7_hashPeopleAndCouples (l : Launch) (D : va_G) (ct : Nat → ClassId) (g : Nat → Nat → Nat) (kc : Mem) (v : Mem) (post : Int64 → Prop) (p : Program) (e : Env) (s : State) (m : MethodId) (args : Array Value) (below : List Frame) (meth : Method) (c : Code) (A : Nat → Prop) (w9 : va_W) (lv : List (Nat × Value)) (pc : Nat) (st : List Value) : Prop :=
  GG p l e rmX7_hashPeopleAndCouples s m args below meth c D A s.heap 7 (MQ below (va_Ql (fun r (_ : Unit) => post r) (fun u9 t9 => Af D (tyz ct) A ((fun _ => fl [wC ct g kc, wS ct (g 1) v]) u9) t9) A)  args s 0 0 A) w9 0 0 lv pc st

set_option maxHeartbeats 4000000 in
set_option maxRecDepth 20000 in
theorem kX7_hashPeopleAndCouples_73 (l : Launch) (D : va_G) (ct : Nat → ClassId) (g : Nat → Nat → Nat) (kc : Mem) (v : Mem) (post : Int64 → Prop) (K58 : Int64 → Int32 → Prop) {p : Program} {e : Env} {s : State} {m : MethodId} {args : Array Value} {below : List Frame} {meth : Method} {c : Code} {A : Nat → Prop} (X : Cx p s m args meth c cX7_hashPeopleAndCouples 7 RX7 wsX7_hashPeopleAndCouples D (tyz ct) A s.heap (some .long)) (hK58 : ∀ (x3 : Int64) (x5 : Int32), K58 x3 x5 → GX7_hashPeopleAndCouples l D ct g kc v post p e s m args below meth c A (fl [wC ct g kc, wS ct (g 1) v]) [(0, .ref (g 0 0)), (3, .long x3), (5, .int x5)] 58 []) :
    ∀ (n : Nat) (x3 : Int64) (x5 : Int32) (x6 : Int32), PX7_hashPeopleAndCouples_73 kc v post K58 n x3 x5 x6 → GX7_hashPeopleAndCouples l D ct g kc v post p e s m args below meth c A (fl [wC ct g kc, wS ct (g 1) v]) [(0, .ref (g 0 0)), (3, .long x3), (5, .int x5), (6, .int x6)] 73 [] := by
  intro n
  induction n with
  | zero =>
    intro x3 x5 x6 hw
    exact hw.elim
  | succ n ih =>
    intro x3 x5 x6 hw
    unfold PX7_hashPeopleAndCouples_73 at hw
    refine g_iload X 3 dX7_hashPeopleAndCouples_73 rfl ?_
    refine g_iconst (v := 5) X rfl dX7_hashPeopleAndCouples_75 ?_
    refine g_icmp_gt X 101 dX7_hashPeopleAndCouples_76 (by decide) (fun c7 => ?_) (fun c7 => ?_)
    · replace hw := hw.1 c7
      refine g_iinc X [(5, .int (x5 + 1)), (0, .ref (g 0 0)), (3, .long x3), (6, .int x6)] 2 dX7_hashPeopleAndCouples_101 rfl rfl (by decide) rfl ?_
      refine g_goto X 58 dX7_hashPeopleAndCouples_104 (by decide) ?_
      refine g_sub [(0, .ref (g 0 0)), (3, .long x3), (5, .int (x5 + 1))] [1, 2, 0] rfl ?_
      exact hK58 _ _ hw
    · replace hw := hw.2 c7
      refine g_ldc2 (v := (31)) X (List.mem_of_getElem? (i := 2) rfl) dX7_hashPeopleAndCouples_79 ?_
      refine g_lload_n X 1 dX7_hashPeopleAndCouples_82 rfl rfl ?_
      refine g_lmul X dX7_hashPeopleAndCouples_83 ?_
      refine g_aload_n X 0 dX7_hashPeopleAndCouples_84 rfl rfl ?_
      refine g_iload X 2 dX7_hashPeopleAndCouples_85 rfl ?_
      refine g_iload X 3 dX7_hashPeopleAndCouples_87 rfl ?_
      refine g_ciV X [wC ct g kc, wS ct (g 1) v] (fun (_ : Unit) => [wC ct g kc, wS ct (g 1) v]) (fun _ => fl [wC ct g kc, wS ct (g 1) v]) 2 [0, 1] [] 0 (kX7_coupleOf_nt l D ct g kc v x5 x6 _ hw) (cwV 2 X.1.2.2.2.2 gX7_hashPeopleAndCouples_X7_coupleOf rfl rfl rfl (by decide +kernel) ⟨Nat.le_of_ble_eq_true rfl, Nat.le_of_ble_eq_true rfl⟩) dX7_hashPeopleAndCouples_89 rfl rfl (Nat.le_of_ble_eq_true rfl) ⟨Nat.le_of_ble_eq_true rfl, Nat.le_of_ble_eq_true rfl⟩ rfl rfl rfl (by decide) (fun _ => rfl) (fun _ => rfl) (fun _ => rfl) (fun _ => rfl) rfl rfl rfl (fun r8 _ hw => ?_)
      refine g_i2l X dX7_hashPeopleAndCouples_92 ?_
      refine g_ladd X dX7_hashPeopleAndCouples_93 ?_
      refine g_topl (fun q10 hq10 => ?_)
      replace hw := hw q10 hq10
      refine g_lstore_n X [(3, .long q10), (0, .ref (g 0 0)), (5, .int x5), (6, .int x6)] dX7_hashPeopleAndCouples_94 rfl (by decide) rfl ?_
      refine g_iinc X [(6, .int (x6 + 1)), (3, .long q10), (0, .ref (g 0 0)), (5, .int x5)] 3 dX7_hashPeopleAndCouples_95 rfl rfl (by decide) rfl ?_
      refine g_goto X 73 dX7_hashPeopleAndCouples_98 (by decide) ?_
      refine g_sub [(0, .ref (g 0 0)), (3, .long q10), (5, .int x5), (6, .int (x6 + 1))] [2, 1, 3, 0] rfl ?_
      exact ih _ _ _ hw

set_option maxHeartbeats 4000000 in
set_option maxRecDepth 20000 in
theorem kX7_hashPeopleAndCouples_58 (l : Launch) (D : va_G) (ct : Nat → ClassId) (g : Nat → Nat → Nat) (kc : Mem) (v : Mem) (post : Int64 → Prop) {p : Program} {e : Env} {s : State} {m : MethodId} {args : Array Value} {below : List Frame} {meth : Method} {c : Code} {A : Nat → Prop} (X : Cx p s m args meth c cX7_hashPeopleAndCouples 7 RX7 wsX7_hashPeopleAndCouples D (tyz ct) A s.heap (some .long))  :
    ∀ (n : Nat) (x3 : Int64) (x5 : Int32), PX7_hashPeopleAndCouples_58 kc v post n x3 x5 → GX7_hashPeopleAndCouples l D ct g kc v post p e s m args below meth c A (fl [wC ct g kc, wS ct (g 1) v]) [(0, .ref (g 0 0)), (3, .long x3), (5, .int x5)] 58 [] := by
  intro n
  induction n with
  | zero =>
    intro x3 x5 hw
    exact hw.elim
  | succ n ih =>
    intro x3 x5 hw
    unfold PX7_hashPeopleAndCouples_58 at hw
    refine g_iload X 2 dX7_hashPeopleAndCouples_58 rfl ?_
    refine g_aload_n X 0 dX7_hashPeopleAndCouples_60 rfl rfl ?_
    refine g_get (T := TX7) (C := RX7) (N := 8) (v := .ref (g 1 0)) X 0 0 (fun _ h => (List.mem_cons_of_mem _ (List.mem_append_left _ (List.mem_append_left _ (List.mem_append_left _ (List.mem_append_right _ h)))))) (List.mem_of_getElem? (i := 1) rfl) dX7_hashPeopleAndCouples_61 rfl rfl (by decide) rfl rfl ?_
    refine g_ciV X [wC ct g kc, wS ct (g 1) v] (fun (_ : Unit) => [wC ct g kc, wS ct (g 1) v]) (fun _ => fl [wC ct g kc, wS ct (g 1) v]) 2 [1] [0] 0 (kX5_couples l D ct (g 1) v _ hw) (cwV 0 X.1.2.2.2.2 gX7_hashPeopleAndCouples_X5_couples rfl rfl rfl (by decide +kernel) ⟨Nat.le_of_ble_eq_true rfl, Nat.le_of_ble_eq_true rfl⟩) dX7_hashPeopleAndCouples_64 rfl rfl (Nat.le_of_ble_eq_true rfl) ⟨Nat.le_of_ble_eq_true rfl, Nat.le_of_ble_eq_true rfl⟩ rfl rfl rfl (by decide) (fun _ => rfl) (fun _ => rfl) (fun _ => rfl) (fun _ => rfl) rfl rfl rfl (fun r4 _ hw => ?_)
    refine g_icmp_ge X 107 dX7_hashPeopleAndCouples_67 (by decide) (fun c6 => ?_) (fun c6 => ?_)
    · replace hw := hw.1 c6
      refine g_lload_n X 1 dX7_hashPeopleAndCouples_107 rfl rfl ?_
      exact g_lret X () hw rfl (Nat.le_of_ble_eq_true rfl) (Nat.le_of_ble_eq_true rfl) dX7_hashPeopleAndCouples_108
    · replace hw := hw.2 c6
      refine g_iconst (v := 0) X rfl dX7_hashPeopleAndCouples_70 ?_
      refine g_istore X [(6, .int 0), (0, .ref (g 0 0)), (3, .long x3), (5, .int x5)] dX7_hashPeopleAndCouples_71 (by decide) rfl ?_
      refine g_sub [(0, .ref (g 0 0)), (3, .long x3), (5, .int x5), (6, .int 0)] [1, 2, 3, 0] rfl ?_
      obtain ⟨n11, hw⟩ := hw
      exact kX7_hashPeopleAndCouples_73 l D ct g kc v post _ X ih n11 _ _ _ hw

set_option maxHeartbeats 4000000 in
set_option maxRecDepth 20000 in
theorem kX7_hashPeopleAndCouples_20 (l : Launch) (D : va_G) (ct : Nat → ClassId) (g : Nat → Nat → Nat) (kc : Mem) (v : Mem) (post : Int64 → Prop) (K5 : Int64 → Int32 → Prop) {p : Program} {e : Env} {s : State} {m : MethodId} {args : Array Value} {below : List Frame} {meth : Method} {c : Code} {A : Nat → Prop} (X : Cx p s m args meth c cX7_hashPeopleAndCouples 7 RX7 wsX7_hashPeopleAndCouples D (tyz ct) A s.heap (some .long)) (hK5 : ∀ (x3 : Int64) (x5 : Int32), K5 x3 x5 → GX7_hashPeopleAndCouples l D ct g kc v post p e s m args below meth c A (fl [wC ct g kc, wS ct (g 1) v]) [(0, .ref (g 0 0)), (3, .long x3), (5, .int x5)] 5 []) :
    ∀ (n : Nat) (x3 : Int64) (x5 : Int32) (x6 : Int32), PX7_hashPeopleAndCouples_20 kc v post K5 n x3 x5 x6 → GX7_hashPeopleAndCouples l D ct g kc v post p e s m args below meth c A (fl [wC ct g kc, wS ct (g 1) v]) [(0, .ref (g 0 0)), (3, .long x3), (5, .int x5), (6, .int x6)] 20 [] := by
  intro n
  induction n with
  | zero =>
    intro x3 x5 x6 hw
    exact hw.elim
  | succ n ih =>
    intro x3 x5 x6 hw
    unfold PX7_hashPeopleAndCouples_20 at hw
    refine g_iload X 3 dX7_hashPeopleAndCouples_20 rfl ?_
    refine g_bipush (v := 6) X rfl dX7_hashPeopleAndCouples_22 ?_
    refine g_icmp_gt X 49 dX7_hashPeopleAndCouples_24 (by decide) (fun c13 => ?_) (fun c13 => ?_)
    · replace hw := hw.1 c13
      refine g_iinc X [(5, .int (x5 + 1)), (0, .ref (g 0 0)), (3, .long x3), (6, .int x6)] 2 dX7_hashPeopleAndCouples_49 rfl rfl (by decide) rfl ?_
      refine g_goto X 5 dX7_hashPeopleAndCouples_52 (by decide) ?_
      refine g_sub [(0, .ref (g 0 0)), (3, .long x3), (5, .int (x5 + 1))] [1, 2, 0] rfl ?_
      exact hK5 _ _ hw
    · replace hw := hw.2 c13
      refine g_ldc2 (v := (31)) X (List.mem_of_getElem? (i := 2) rfl) dX7_hashPeopleAndCouples_27 ?_
      refine g_lload_n X 1 dX7_hashPeopleAndCouples_30 rfl rfl ?_
      refine g_lmul X dX7_hashPeopleAndCouples_31 ?_
      refine g_aload_n X 0 dX7_hashPeopleAndCouples_32 rfl rfl ?_
      refine g_iload X 2 dX7_hashPeopleAndCouples_33 rfl ?_
      refine g_iload X 3 dX7_hashPeopleAndCouples_35 rfl ?_
      refine g_ciV X [wC ct g kc, wS ct (g 1) v] (fun (_ : Unit) => [wC ct g kc, wS ct (g 1) v]) (fun _ => fl [wC ct g kc, wS ct (g 1) v]) 2 [0, 1] [] 0 (kX7_personOf_nt l D ct g kc v x5 x6 _ hw) (cwV 2 X.1.2.2.2.2 gX7_hashPeopleAndCouples_X7_personOf rfl rfl rfl (by decide +kernel) ⟨Nat.le_of_ble_eq_true rfl, Nat.le_of_ble_eq_true rfl⟩) dX7_hashPeopleAndCouples_37 rfl rfl (Nat.le_of_ble_eq_true rfl) ⟨Nat.le_of_ble_eq_true rfl, Nat.le_of_ble_eq_true rfl⟩ rfl rfl rfl (by decide) (fun _ => rfl) (fun _ => rfl) (fun _ => rfl) (fun _ => rfl) rfl rfl rfl (fun r14 _ hw => ?_)
      refine g_i2l X dX7_hashPeopleAndCouples_40 ?_
      refine g_ladd X dX7_hashPeopleAndCouples_41 ?_
      refine g_topl (fun q16 hq16 => ?_)
      replace hw := hw q16 hq16
      refine g_lstore_n X [(3, .long q16), (0, .ref (g 0 0)), (5, .int x5), (6, .int x6)] dX7_hashPeopleAndCouples_42 rfl (by decide) rfl ?_
      refine g_iinc X [(6, .int (x6 + 1)), (3, .long q16), (0, .ref (g 0 0)), (5, .int x5)] 3 dX7_hashPeopleAndCouples_43 rfl rfl (by decide) rfl ?_
      refine g_goto X 20 dX7_hashPeopleAndCouples_46 (by decide) ?_
      refine g_sub [(0, .ref (g 0 0)), (3, .long q16), (5, .int x5), (6, .int (x6 + 1))] [2, 1, 3, 0] rfl ?_
      exact ih _ _ _ hw

set_option maxHeartbeats 4000000 in
set_option maxRecDepth 20000 in
theorem kX7_hashPeopleAndCouples_5 (l : Launch) (D : va_G) (ct : Nat → ClassId) (g : Nat → Nat → Nat) (kc : Mem) (v : Mem) (post : Int64 → Prop) {p : Program} {e : Env} {s : State} {m : MethodId} {args : Array Value} {below : List Frame} {meth : Method} {c : Code} {A : Nat → Prop} (X : Cx p s m args meth c cX7_hashPeopleAndCouples 7 RX7 wsX7_hashPeopleAndCouples D (tyz ct) A s.heap (some .long))  :
    ∀ (n : Nat) (x3 : Int64) (x5 : Int32), PX7_hashPeopleAndCouples_5 kc v post n x3 x5 → GX7_hashPeopleAndCouples l D ct g kc v post p e s m args below meth c A (fl [wC ct g kc, wS ct (g 1) v]) [(0, .ref (g 0 0)), (3, .long x3), (5, .int x5)] 5 [] := by
  intro n
  induction n with
  | zero =>
    intro x3 x5 hw
    exact hw.elim
  | succ n ih =>
    intro x3 x5 hw
    unfold PX7_hashPeopleAndCouples_5 at hw
    refine g_iload X 2 dX7_hashPeopleAndCouples_5 rfl ?_
    refine g_aload_n X 0 dX7_hashPeopleAndCouples_7 rfl rfl ?_
    refine g_get (T := TX7) (C := RX7) (N := 8) (v := .ref (g 1 0)) X 0 0 (fun _ h => (List.mem_cons_of_mem _ (List.mem_append_left _ (List.mem_append_left _ (List.mem_append_left _ (List.mem_append_right _ h)))))) (List.mem_of_getElem? (i := 1) rfl) dX7_hashPeopleAndCouples_8 rfl rfl (by decide) rfl rfl ?_
    refine g_ciV X [wC ct g kc, wS ct (g 1) v] (fun (_ : Unit) => [wC ct g kc, wS ct (g 1) v]) (fun _ => fl [wC ct g kc, wS ct (g 1) v]) 2 [1] [0] 0 (kX5_people l D ct (g 1) v _ hw) (cwV 0 X.1.2.2.2.2 gX7_hashPeopleAndCouples_X5_people rfl rfl rfl (by decide +kernel) ⟨Nat.le_of_ble_eq_true rfl, Nat.le_of_ble_eq_true rfl⟩) dX7_hashPeopleAndCouples_11 rfl rfl (Nat.le_of_ble_eq_true rfl) ⟨Nat.le_of_ble_eq_true rfl, Nat.le_of_ble_eq_true rfl⟩ rfl rfl rfl (by decide) (fun _ => rfl) (fun _ => rfl) (fun _ => rfl) (fun _ => rfl) rfl rfl rfl (fun r1 _ hw => ?_)
    refine g_icmp_ge X 55 dX7_hashPeopleAndCouples_14 (by decide) (fun c3 => ?_) (fun c3 => ?_)
    · replace hw := hw.1 c3
      refine g_iconst (v := 0) X rfl dX7_hashPeopleAndCouples_55 ?_
      refine g_istore X [(5, .int 0), (0, .ref (g 0 0)), (3, .long x3)] dX7_hashPeopleAndCouples_56 (by decide) rfl ?_
      refine g_sub [(0, .ref (g 0 0)), (3, .long x3), (5, .int 0)] [1, 2, 0] rfl ?_
      obtain ⟨n12, hw⟩ := hw
      exact kX7_hashPeopleAndCouples_58 l D ct g kc v post X n12 _ _ hw
    · replace hw := hw.2 c3
      refine g_iconst (v := 0) X rfl dX7_hashPeopleAndCouples_17 ?_
      refine g_istore X [(6, .int 0), (0, .ref (g 0 0)), (3, .long x3), (5, .int x5)] dX7_hashPeopleAndCouples_18 (by decide) rfl ?_
      refine g_sub [(0, .ref (g 0 0)), (3, .long x3), (5, .int x5), (6, .int 0)] [1, 2, 3, 0] rfl ?_
      obtain ⟨n17, hw⟩ := hw
      exact kX7_hashPeopleAndCouples_20 l D ct g kc v post _ X ih n17 _ _ _ hw

set_option maxHeartbeats 4000000 in
set_option maxRecDepth 20000 in
theorem kX7_hashPeopleAndCouples (l : Launch) (D : va_G) (ct : Nat → ClassId) (g : Nat → Nat → Nat) (kc : Mem) (v : Mem) (p1 : Int64) (post : Int64 → Prop) (hw : PX7_hashPeopleAndCouples kc v p1 post) : Cl (S := Unit) l yX7_hashPeopleAndCouples wsX7_hashPeopleAndCouples rmX7_hashPeopleAndCouples D (tyz ct) [.ref (g 0 0), .long p1] (fl [wC ct g kc, wS ct (g 1) v]) (fun r (_ : Unit) => post r) (fun _ => fl [wC ct g kc, wS ct (g 1) v]) 0 0 := by
  intro sz
  refine g_of (own := RX7) (by decide) rfl rfl (Nat.le_of_ble_eq_true rfl) [(0, .ref (g 0 0)), (1, .long p1)] rfl (fun p e s m args below meth c hsz X => ?_)
  subst hsz
  unfold PX7_hashPeopleAndCouples at hw
  refine g_lload_n X 1 dX7_hashPeopleAndCouples_0 rfl rfl ?_
  refine g_lstore_n X [(3, .long p1), (0, .ref (g 0 0)), (1, .long p1)] dX7_hashPeopleAndCouples_1 rfl (by decide) rfl ?_
  refine g_iconst (v := 0) X rfl dX7_hashPeopleAndCouples_2 ?_
  refine g_istore X [(5, .int 0), (3, .long p1), (0, .ref (g 0 0)), (1, .long p1)] dX7_hashPeopleAndCouples_3 (by decide) rfl ?_
  refine g_sub [(0, .ref (g 0 0)), (3, .long p1), (5, .int 0)] [2, 1, 0] rfl ?_
  obtain ⟨n18, hw⟩ := hw
  exact kX7_hashPeopleAndCouples_5 l D ct g kc v post X n18 _ _ hw

abbrev rmX7_hashRows : Room := { frames := 6, cells := 0, slots := 0, locals := 130 }

abbrev GX7_hashRows (l : Launch) (D : va_G) (ct : Nat → ClassId) (g : Nat → Nat → Nat) (kc : Mem) (v : Mem) (post : Int64 → Mem → Prop) (p : Program) (e : Env) (s : State) (m : MethodId) (args : Array Value) (below : List Frame) (meth : Method) (c : Code) (A : Nat → Prop) (w9 : va_W) (lv : List (Nat × Value)) (pc : Nat) (st : List Value) : Prop :=
  GG p l e rmX7_hashRows s m args below meth c D A s.heap 7 (MQ below (va_Ql (fun r (u9 : Mem) => post r u9) (fun u9 t9 => Af D (tyz ct) A ((fun u9 => fl [wC ct g kc, wS ct (g 1) v, wL ct (g 12) u9]) u9) t9) A)  args s 0 0 A) w9 0 0 lv pc st

set_option maxHeartbeats 4000000 in
set_option maxRecDepth 20000 in
theorem kX7_hashRows_14 (l : Launch) (D : va_G) (ct : Nat → ClassId) (g : Nat → Nat → Nat) (kc : Mem) (v : Mem) (post : Int64 → Mem → Prop) (K5 : Mem → Int64 → Int32 → Prop) {p : Program} {e : Env} {s : State} {m : MethodId} {args : Array Value} {below : List Frame} {meth : Method} {c : Code} {A : Nat → Prop} (X : Cx p s m args meth c cX7_hashRows 7 RX7 wsX7_hashRows D (tyz ct) A s.heap (some .long)) (hK5 : ∀ (y : Mem) (x3 : Int64) (x5 : Int32), K5 y x3 x5 → GX7_hashRows l D ct g kc v post p e s m args below meth c A (fl [wC ct g kc, wS ct (g 1) v, wL ct (g 12) y]) [(0, .ref (g 0 0)), (3, .long x3), (5, .int x5)] 5 []) :
    ∀ (n : Nat) (y : Mem) (x3 : Int64) (x5 : Int32) (x6 : Int32), PX7_hashRows_14 kc v post K5 n y x3 x5 x6 → GX7_hashRows l D ct g kc v post p e s m args below meth c A (fl [wC ct g kc, wS ct (g 1) v, wL ct (g 12) y]) [(0, .ref (g 0 0)), (3, .long x3), (5, .int x5), (6, .int x6)] 14 [] := by
  intro n
  induction n with
  | zero =>
    intro y x3 x5 x6 hw
    exact hw.elim
  | succ n ih =>
    intro y x3 x5 x6 hw
    unfold PX7_hashRows_14 at hw
    refine g_iload X 3 dX7_hashRows_14 rfl ?_
    refine g_bipush (v := 6) X rfl dX7_hashRows_16 ?_
    refine g_icmp_ge X 43 dX7_hashRows_18 (by decide) (fun c2 => ?_) (fun c2 => ?_)
    · replace hw := hw.1 c2
      refine g_ldc2 (v := (31)) X (List.mem_of_getElem? (i := 1) rfl) dX7_hashRows_43 ?_
      refine g_lload_n X 1 dX7_hashRows_46 rfl rfl ?_
      refine g_lmul X dX7_hashRows_47 ?_
      refine g_aload_n X 0 dX7_hashRows_48 rfl rfl ?_
      refine g_iload X 2 dX7_hashRows_49 rfl ?_
      refine g_iconst (v := 0) X rfl dX7_hashRows_51 ?_
      refine g_ciV X [wC ct g kc, wS ct (g 1) v, wL ct (g 12) y] (fun (u4 : Mem) => [wC ct g kc, wS ct (g 1) v, wL ct (g 12) u4]) (fun (u4 : Mem) => fl [wC ct g kc, wS ct (g 1) v, wL ct (g 12) u4]) 3 [0, 1, 2] [] 0 (kX7_crossings_nt l D ct g kc v y x5 0 _ hw) (cwV 2 X.1.2.2.2.2 gX7_hashRows_X7_crossings rfl rfl rfl (by decide +kernel) ⟨Nat.le_of_ble_eq_true rfl, Nat.le_of_ble_eq_true rfl⟩) dX7_hashRows_52 rfl rfl (Nat.le_of_ble_eq_true rfl) ⟨Nat.le_of_ble_eq_true rfl, Nat.le_of_ble_eq_true rfl⟩ rfl rfl rfl (by decide) (fun _ => rfl) (fun _ => rfl) (fun _ => rfl) (fun _ => rfl) rfl rfl rfl (fun r3 u4 hw => ?_)
      obtain ⟨y5, hy5⟩ : ∃ z : Mem, z = u4 := ⟨_, rfl⟩
      rw [← hy5] at hw
      rw [← hy5]
      refine g_i2l X dX7_hashRows_55 ?_
      refine g_ladd X dX7_hashRows_56 ?_
      refine g_topl (fun q6 hq6 => ?_)
      replace hw := hw q6 hq6
      refine g_lstore_n X [(3, .long q6), (0, .ref (g 0 0)), (5, .int x5), (6, .int x6)] dX7_hashRows_57 rfl (by decide) rfl ?_
      refine g_ldc2 (v := (31)) X (List.mem_of_getElem? (i := 1) rfl) dX7_hashRows_58 ?_
      refine g_lload_n X 0 dX7_hashRows_61 rfl rfl ?_
      refine g_lmul X dX7_hashRows_62 ?_
      refine g_aload_n X 1 dX7_hashRows_63 rfl rfl ?_
      refine g_iload X 2 dX7_hashRows_64 rfl ?_
      refine g_iconst (v := 1) X rfl dX7_hashRows_66 ?_
      refine g_ciV X [wC ct g kc, wS ct (g 1) v, wL ct (g 12) y5] (fun (u8 : Mem) => [wC ct g kc, wS ct (g 1) v, wL ct (g 12) u8]) (fun (u8 : Mem) => fl [wC ct g kc, wS ct (g 1) v, wL ct (g 12) u8]) 3 [0, 1, 2] [] 0 (kX7_crossings_nt l D ct g kc v y5 x5 1 _ hw) (cwV 2 X.1.2.2.2.2 gX7_hashRows_X7_crossings rfl rfl rfl (by decide +kernel) ⟨Nat.le_of_ble_eq_true rfl, Nat.le_of_ble_eq_true rfl⟩) dX7_hashRows_67 rfl rfl (Nat.le_of_ble_eq_true rfl) ⟨Nat.le_of_ble_eq_true rfl, Nat.le_of_ble_eq_true rfl⟩ rfl rfl rfl (by decide) (fun _ => rfl) (fun _ => rfl) (fun _ => rfl) (fun _ => rfl) rfl rfl rfl (fun r7 u8 hw => ?_)
      obtain ⟨y9, hy9⟩ : ∃ z : Mem, z = u8 := ⟨_, rfl⟩
      rw [← hy9] at hw
      rw [← hy9]
      refine g_i2l X dX7_hashRows_70 ?_
      refine g_ladd X dX7_hashRows_71 ?_
      refine g_topl (fun q10 hq10 => ?_)
      replace hw := hw q10 hq10
      refine g_lstore_n X [(3, .long q10), (0, .ref (g 0 0)), (5, .int x5), (6, .int x6)] dX7_hashRows_72 rfl (by decide) rfl ?_
      refine g_iinc X [(5, .int (x5 + 1)), (3, .long q10), (0, .ref (g 0 0)), (6, .int x6)] 2 dX7_hashRows_73 rfl rfl (by decide) rfl ?_
      refine g_goto X 5 dX7_hashRows_76 (by decide) ?_
      refine g_sub [(0, .ref (g 0 0)), (3, .long q10), (5, .int (x5 + 1))] [2, 1, 0] rfl ?_
      exact hK5 _ _ _ hw
    · replace hw := hw.2 c2
      refine g_ldc2 (v := (31)) X (List.mem_of_getElem? (i := 1) rfl) dX7_hashRows_21 ?_
      refine g_lload_n X 1 dX7_hashRows_24 rfl rfl ?_
      refine g_lmul X dX7_hashRows_25 ?_
      refine g_aload_n X 0 dX7_hashRows_26 rfl rfl ?_
      refine g_iload X 2 dX7_hashRows_27 rfl ?_
      refine g_iload X 3 dX7_hashRows_29 rfl ?_
      refine g_ciV X [wC ct g kc, wS ct (g 1) v, wL ct (g 12) y] (fun (_ : Unit) => [wC ct g kc, wS ct (g 1) v, wL ct (g 12) y]) (fun _ => fl [wC ct g kc, wS ct (g 1) v, wL ct (g 12) y]) 3 [0, 1] [2] 0 (kX7_at_nt l D ct g kc v x5 x6 _ hw) (cwV 2 X.1.2.2.2.2 gX7_hashRows_X7_at rfl rfl rfl (by decide +kernel) ⟨Nat.le_of_ble_eq_true rfl, Nat.le_of_ble_eq_true rfl⟩) dX7_hashRows_31 rfl rfl (Nat.le_of_ble_eq_true rfl) ⟨Nat.le_of_ble_eq_true rfl, Nat.le_of_ble_eq_true rfl⟩ rfl rfl rfl (by decide) (fun _ => rfl) (fun _ => rfl) (fun _ => rfl) (fun _ => rfl) rfl rfl rfl (fun r11 _ hw => ?_)
      refine g_i2l X dX7_hashRows_34 ?_
      refine g_ladd X dX7_hashRows_35 ?_
      refine g_topl (fun q13 hq13 => ?_)
      replace hw := hw q13 hq13
      refine g_lstore_n X [(3, .long q13), (0, .ref (g 0 0)), (5, .int x5), (6, .int x6)] dX7_hashRows_36 rfl (by decide) rfl ?_
      refine g_iinc X [(6, .int (x6 + 1)), (3, .long q13), (0, .ref (g 0 0)), (5, .int x5)] 3 dX7_hashRows_37 rfl rfl (by decide) rfl ?_
      refine g_goto X 14 dX7_hashRows_40 (by decide) ?_
      refine g_sub [(0, .ref (g 0 0)), (3, .long q13), (5, .int x5), (6, .int (x6 + 1))] [2, 1, 3, 0] rfl ?_
      exact ih _ _ _ _ hw

set_option maxHeartbeats 4000000 in
set_option maxRecDepth 20000 in
theorem kX7_hashRows_5 (l : Launch) (D : va_G) (ct : Nat → ClassId) (g : Nat → Nat → Nat) (kc : Mem) (v : Mem) (post : Int64 → Mem → Prop) {p : Program} {e : Env} {s : State} {m : MethodId} {args : Array Value} {below : List Frame} {meth : Method} {c : Code} {A : Nat → Prop} (X : Cx p s m args meth c cX7_hashRows 7 RX7 wsX7_hashRows D (tyz ct) A s.heap (some .long))  :
    ∀ (n : Nat) (y : Mem) (x3 : Int64) (x5 : Int32), PX7_hashRows_5 kc v post n y x3 x5 → GX7_hashRows l D ct g kc v post p e s m args below meth c A (fl [wC ct g kc, wS ct (g 1) v, wL ct (g 12) y]) [(0, .ref (g 0 0)), (3, .long x3), (5, .int x5)] 5 [] := by
  intro n
  induction n with
  | zero =>
    intro y x3 x5 hw
    exact hw.elim
  | succ n ih =>
    intro y x3 x5 hw
    unfold PX7_hashRows_5 at hw
    refine g_iload X 2 dX7_hashRows_5 rfl ?_
    refine g_iconst (v := 4) X rfl dX7_hashRows_7 ?_
    refine g_icmp_ge X 79 dX7_hashRows_8 (by decide) (fun c1 => ?_) (fun c1 => ?_)
    · replace hw := hw.1 c1
      refine g_lload_n X 1 dX7_hashRows_79 rfl rfl ?_
      exact g_lret X y hw rfl (Nat.le_of_ble_eq_true rfl) (Nat.le_of_ble_eq_true rfl) dX7_hashRows_80
    · replace hw := hw.2 c1
      refine g_iconst (v := 0) X rfl dX7_hashRows_11 ?_
      refine g_istore X [(6, .int 0), (0, .ref (g 0 0)), (3, .long x3), (5, .int x5)] dX7_hashRows_12 (by decide) rfl ?_
      refine g_sub [(0, .ref (g 0 0)), (3, .long x3), (5, .int x5), (6, .int 0)] [1, 2, 3, 0] rfl ?_
      obtain ⟨n14, hw⟩ := hw
      exact kX7_hashRows_14 l D ct g kc v post _ X ih n14 _ _ _ _ hw

set_option maxHeartbeats 4000000 in
set_option maxRecDepth 20000 in
theorem kX7_hashRows (l : Launch) (D : va_G) (ct : Nat → ClassId) (g : Nat → Nat → Nat) (kc : Mem) (v : Mem) (y : Mem) (p1 : Int64) (post : Int64 → Mem → Prop) (hw : PX7_hashRows kc v y p1 post) : Cl (S := Mem) l yX7_hashRows wsX7_hashRows rmX7_hashRows D (tyz ct) [.ref (g 0 0), .long p1] (fl [wC ct g kc, wS ct (g 1) v, wL ct (g 12) y]) (fun r (u9 : Mem) => post r u9) (fun u9 => fl [wC ct g kc, wS ct (g 1) v, wL ct (g 12) u9]) 0 0 := by
  intro sz
  refine g_of (own := RX7) (by decide) rfl rfl (Nat.le_of_ble_eq_true rfl) [(0, .ref (g 0 0)), (1, .long p1)] rfl (fun p e s m args below meth c hsz X => ?_)
  subst hsz
  unfold PX7_hashRows at hw
  refine g_lload_n X 1 dX7_hashRows_0 rfl rfl ?_
  refine g_lstore_n X [(3, .long p1), (0, .ref (g 0 0)), (1, .long p1)] dX7_hashRows_1 rfl (by decide) rfl ?_
  refine g_iconst (v := 0) X rfl dX7_hashRows_2 ?_
  refine g_istore X [(5, .int 0), (3, .long p1), (0, .ref (g 0 0)), (1, .long p1)] dX7_hashRows_3 (by decide) rfl ?_
  refine g_sub [(0, .ref (g 0 0)), (3, .long p1), (5, .int 0)] [2, 1, 0] rfl ?_
  obtain ⟨n15, hw⟩ := hw
  exact kX7_hashRows_5 l D ct g kc v post X n15 _ _ _ hw

abbrev rmX7_bitsOfShare : Room := { frames := 0, cells := 0, slots := 0, locals := 0 }

abbrev GX7_bitsOfShare (l : Launch) (D : va_G) (ct : Nat → ClassId) (post : Int64 → Prop) (p : Program) (e : Env) (s : State) (m : MethodId) (args : Array Value) (below : List Frame) (meth : Method) (c : Code) (A : Nat → Prop) (w9 : va_W) (lv : List (Nat × Value)) (pc : Nat) (st : List Value) : Prop :=
  GG p l e rmX7_bitsOfShare s m args below meth c D A s.heap 7 (MQ below (va_Ql (fun r (_ : Unit) => post r) (fun u9 t9 => Af D (tyz ct) A ((fun _ => ([] : va_W)) u9) t9) A)  args s 0 0 A) w9 0 0 lv pc st

set_option maxHeartbeats 4000000 in
set_option maxRecDepth 20000 in
theorem kX7_bitsOfShare_39 (l : Launch) (D : va_G) (ct : Nat → ClassId) (post : Int64 → Prop) {p : Program} {e : Env} {s : State} {m : MethodId} {args : Array Value} {below : List Frame} {meth : Method} {c : Code} {A : Nat → Prop} (X : Cx p s m args meth c cX7_bitsOfShare 7 RX7 wsX7_bitsOfShare D (tyz ct) A s.heap (some .long))  :
    ∀ (x2 : UInt64) (x4 : Int32), PX7_bitsOfShare_39 post x2 x4 → GX7_bitsOfShare l D ct   post p e s m args below meth c A (([] : va_W)) [(2, .double x2), (4, .int x4)] 39 [] := by
  intro x2 x4 hw
  unfold PX7_bitsOfShare_39 at hw
  refine g_dload_n X 0 dX7_bitsOfShare_39 rfl rfl ?_
  refine g_dconst1 X dX7_bitsOfShare_40 ?_
  obtain ⟨h3, hw⟩ := hw
  refine g_dsub X h3 dX7_bitsOfShare_41 ?_
  refine g_ldc2d (v := (4841369599423283200)) X (List.mem_of_getElem? (i := 2) rfl) dX7_bitsOfShare_42 ?_
  obtain ⟨h4, hw⟩ := hw
  refine g_dmul X h4 dX7_bitsOfShare_45 ?_
  refine g_d2l X dX7_bitsOfShare_46 ?_
  refine g_topl (fun q5 hq5 => ?_)
  replace hw := hw q5 hq5
  refine g_lstore X [(5, .long q5), (2, .double x2), (4, .int x4)] dX7_bitsOfShare_47 (by decide) rfl ?_
  refine g_iload X 2 dX7_bitsOfShare_49 rfl ?_
  refine g_i2l X dX7_bitsOfShare_51 ?_
  refine g_bipush (v := 52) X rfl dX7_bitsOfShare_52 ?_
  refine g_lshl X dX7_bitsOfShare_54 ?_
  refine g_lload X 0 dX7_bitsOfShare_55 rfl ?_
  refine g_lor X dX7_bitsOfShare_57 ?_
  exact g_lret X () hw rfl (Nat.le_of_ble_eq_true rfl) (Nat.le_of_ble_eq_true rfl) dX7_bitsOfShare_58

set_option maxHeartbeats 4000000 in
set_option maxRecDepth 20000 in
theorem kX7_bitsOfShare_15 (l : Launch) (D : va_G) (ct : Nat → ClassId) (post : Int64 → Prop) {p : Program} {e : Env} {s : State} {m : MethodId} {args : Array Value} {below : List Frame} {meth : Method} {c : Code} {A : Nat → Prop} (X : Cx p s m args meth c cX7_bitsOfShare 7 RX7 wsX7_bitsOfShare D (tyz ct) A s.heap (some .long))  :
    ∀ (n : Nat) (x2 : UInt64) (x4 : Int32), PX7_bitsOfShare_15 post n x2 x4 → GX7_bitsOfShare l D ct   post p e s m args below meth c A (([] : va_W)) [(2, .double x2), (4, .int x4)] 15 [] := by
  intro n
  induction n with
  | zero =>
    intro x2 x4 hw
    exact hw.elim
  | succ n ih =>
    intro x2 x4 hw
    unfold PX7_bitsOfShare_15 at hw
    refine g_dload_n X 0 dX7_bitsOfShare_15 rfl rfl ?_
    refine g_dconst1 X dX7_bitsOfShare_16 ?_
    refine g_dcmp X dX7_bitsOfShare_17 ?_
    refine g_if_ge X 39 dX7_bitsOfShare_18 (by decide) (fun c2 => ?_) (fun c2 => ?_)
    · replace hw := hw.1 c2
      refine g_sub [(2, .double x2), (4, .int x4)] [0, 1] rfl ?_
      exact kX7_bitsOfShare_39 l D ct post X _ _ hw
    · replace hw := hw.2 c2
      refine g_iload X 1 dX7_bitsOfShare_21 rfl ?_
      refine g_iconst (v := 1) X rfl dX7_bitsOfShare_23 ?_
      refine g_icmp_le X 39 dX7_bitsOfShare_24 (by decide) (fun c6 => ?_) (fun c6 => ?_)
      · replace hw := hw.1 c6
        refine g_sub [(2, .double x2), (4, .int x4)] [0, 1] rfl ?_
        exact kX7_bitsOfShare_39 l D ct post X _ _ hw
      · replace hw := hw.2 c6
        refine g_dload_n X 0 dX7_bitsOfShare_27 rfl rfl ?_
        refine g_ldc2d (v := (4611686018427387904)) X (List.mem_of_getElem? (i := 1) rfl) dX7_bitsOfShare_28 ?_
        obtain ⟨h7, hw⟩ := hw
        refine g_dmul X h7 dX7_bitsOfShare_31 ?_
        refine g_topd (fun q8 hq8 => ?_)
        replace hw := hw q8 hq8
        refine g_dstore_n X [(2, .double q8), (4, .int x4)] dX7_bitsOfShare_32 rfl (by decide) rfl ?_
        refine g_iinc X [(4, .int (x4 + (-1))), (2, .double q8)] 1 dX7_bitsOfShare_33 rfl rfl (by decide) rfl ?_
        refine g_goto X 15 dX7_bitsOfShare_36 (by decide) ?_
        refine g_sub [(2, .double q8), (4, .int (x4 + (-1)))] [1, 0] rfl ?_
        exact ih _ _ hw

set_option maxHeartbeats 4000000 in
set_option maxRecDepth 20000 in
theorem kX7_bitsOfShare (l : Launch) (D : va_G) (ct : Nat → ClassId) (p1 : UInt64) (post : Int64 → Prop) (hw : PX7_bitsOfShare p1 post) : Cl (S := Unit) l yX7_bitsOfShare wsX7_bitsOfShare rmX7_bitsOfShare D (tyz ct) [.double p1] (([] : va_W)) (fun r (_ : Unit) => post r) (fun _ => ([] : va_W)) 0 0 := by
  intro sz
  refine g_of (own := RX7) (by decide) rfl rfl (Nat.le_of_ble_eq_true rfl) [(0, .double p1)] rfl (fun p e s m args below meth c hsz X => ?_)
  subst hsz
  unfold PX7_bitsOfShare at hw
  refine g_dload_n X 0 dX7_bitsOfShare_0 rfl rfl ?_
  refine g_dconst0 X dX7_bitsOfShare_1 ?_
  refine g_dcmp X dX7_bitsOfShare_2 ?_
  refine g_if_gt X 8 dX7_bitsOfShare_3 (by decide) (fun c1 => ?_) (fun c1 => ?_)
  · replace hw := hw.1 c1
    refine g_dload_n X 0 dX7_bitsOfShare_8 rfl rfl ?_
    refine g_dstore_n X [(2, .double p1), (0, .double p1)] dX7_bitsOfShare_9 rfl (by decide) rfl ?_
    refine g_sipush (v := 1023) X rfl dX7_bitsOfShare_10 ?_
    refine g_istore X [(4, .int 1023), (2, .double p1), (0, .double p1)] dX7_bitsOfShare_13 (by decide) rfl ?_
    refine g_sub [(2, .double p1), (4, .int 1023)] [1, 0] rfl ?_
    obtain ⟨n9, hw⟩ := hw
    exact kX7_bitsOfShare_15 l D ct post X n9 _ _ hw
  · replace hw := hw.2 c1
    refine g_lconst (v := 0) X rfl dX7_bitsOfShare_6 ?_
    exact g_lret X () hw rfl (Nat.le_of_ble_eq_true rfl) (Nat.le_of_ble_eq_true rfl) dX7_bitsOfShare_7

abbrev rmX7_digest : Room := { frames := 13, cells := 0, slots := 0, locals := 299 }

abbrev GX7_digest (l : Launch) (D : va_G) (ct : Nat → ClassId) (g : Nat → Nat → Nat) (kc : Mem) (b : Mem) (tx : Mem) (post : Int64 → Mem → Mem → Mem → Prop) (p : Program) (e : Env) (s : State) (m : MethodId) (args : Array Value) (below : List Frame) (meth : Method) (c : Code) (A : Nat → Prop) (w9 : va_W) (lv : List (Nat × Value)) (pc : Nat) (st : List Value) : Prop :=
  GG p l e rmX7_digest s m args below meth c D A s.heap 4 (MQ below (va_Ql (fun r (u9 : Mem × Mem × Mem) => post r u9.1 u9.2.1 u9.2.2) (fun u9 t9 => Af D (tyz ct) A ((fun u9 => fl [wC ct g kc, wS ct (g 1) u9.1, wV ct g b, wT ct (g 11) tx, wL ct (g 12) u9.2.1, wR ct (g 14) u9.2.2]) u9) t9) A)  args s 0 0 A) w9 0 0 lv pc st

set_option maxHeartbeats 4000000 in
set_option maxRecDepth 20000 in
theorem kX7_digest_195 (l : Launch) (D : va_G) (ct : Nat → ClassId) (g : Nat → Nat → Nat) (kc : Mem) (b : Mem) (tx : Mem) (post : Int64 → Mem → Mem → Mem → Prop) {p : Program} {e : Env} {s : State} {m : MethodId} {args : Array Value} {below : List Frame} {meth : Method} {c : Code} {A : Nat → Prop} (X : Cx p s m args meth c cX7_digest 4 RX7 wsX7_digest D (tyz ct) A s.heap (some .long))  :
    ∀ (n : Nat) (v : Mem) (y : Mem) (x : Mem) (x1 : Int64) (x3 : Int32), PX7_digest_195 kc b tx post n v y x x1 x3 → GX7_digest l D ct g kc b tx post p e s m args below meth c A (fl [wC ct g kc, wS ct (g 1) v, wV ct g b, wT ct (g 11) tx, wL ct (g 12) y, wR ct (g 14) x]) [(0, .ref (g 0 0)), (1, .long x1), (3, .int x3)] 195 [] := by
  intro n
  induction n with
  | zero =>
    intro v y x x1 x3 hw
    exact hw.elim
  | succ n ih =>
    intro v y x x1 x3 hw
    unfold PX7_digest_195 at hw
    refine g_iload_n X 2 dX7_digest_195 rfl rfl ?_
    refine g_aload_n X 0 dX7_digest_196 rfl rfl ?_
    refine g_get (T := TX7) (C := RX7) (N := 8) (v := .ref (g 11 0)) X 0 4 (fun _ h => (List.mem_cons_of_mem _ (List.mem_append_left _ (List.mem_append_left _ (List.mem_append_left _ (List.mem_append_left _ (List.mem_append_left _ (List.mem_append_left _ (List.mem_append_left _ (List.mem_append_right _ h)))))))))) (List.mem_of_getElem? (i := 5) rfl) dX7_digest_197 rfl rfl (by decide) rfl rfl ?_
    refine g_ciV X [wC ct g kc, wS ct (g 1) v, wV ct g b, wT ct (g 11) tx, wL ct (g 12) y, wR ct (g 14) x] (fun (_ : Unit) => [wC ct g kc, wS ct (g 1) v, wV ct g b, wT ct (g 11) tx, wL ct (g 12) y, wR ct (g 14) x]) (fun _ => fl [wC ct g kc, wS ct (g 1) v, wV ct g b, wT ct (g 11) tx, wL ct (g 12) y, wR ct (g 14) x]) 6 [3] [0, 1, 2, 4, 5] 0 (kX6_length l D ct (g 11) tx _ hw) (cwV 0 X.1.2.2.2.2 gX7_digest_X6_length rfl rfl rfl (by decide +kernel) ⟨Nat.le_of_ble_eq_true rfl, Nat.le_of_ble_eq_true rfl⟩) dX7_digest_200 rfl rfl (Nat.le_of_ble_eq_true rfl) ⟨Nat.le_of_ble_eq_true rfl, Nat.le_of_ble_eq_true rfl⟩ rfl rfl rfl (by decide) (fun _ => rfl) (fun _ => rfl) (fun _ => rfl) (fun _ => rfl) rfl rfl rfl (fun r25 _ hw => ?_)
    refine g_icmp_ge X 228 dX7_digest_203 (by decide) (fun c27 => ?_) (fun c27 => ?_)
    · replace hw := hw.1 c27
      refine g_lload_n X 1 dX7_digest_228 rfl rfl ?_
      exact g_lret X (v, y, x) hw rfl (Nat.le_of_ble_eq_true rfl) (Nat.le_of_ble_eq_true rfl) dX7_digest_229
    · replace hw := hw.2 c27
      refine g_ldc2 (v := (31)) X (List.mem_of_getElem? (i := 2) rfl) dX7_digest_206 ?_
      refine g_lload_n X 1 dX7_digest_209 rfl rfl ?_
      refine g_lmul X dX7_digest_210 ?_
      refine g_aload_n X 0 dX7_digest_211 rfl rfl ?_
      refine g_get (T := TX7) (C := RX7) (N := 8) (v := .ref (g 11 0)) X 0 4 (fun _ h => (List.mem_cons_of_mem _ (List.mem_append_left _ (List.mem_append_left _ (List.mem_append_left _ (List.mem_append_left _ (List.mem_append_left _ (List.mem_append_left _ (List.mem_append_left _ (List.mem_append_right _ h)))))))))) (List.mem_of_getElem? (i := 5) rfl) dX7_digest_212 rfl rfl (by decide) rfl rfl ?_
      refine g_iload_n X 2 dX7_digest_215 rfl rfl ?_
      refine g_ciV X [wC ct g kc, wS ct (g 1) v, wV ct g b, wT ct (g 11) tx, wL ct (g 12) y, wR ct (g 14) x] (fun (_ : Unit) => [wC ct g kc, wS ct (g 1) v, wV ct g b, wT ct (g 11) tx, wL ct (g 12) y, wR ct (g 14) x]) (fun _ => fl [wC ct g kc, wS ct (g 1) v, wV ct g b, wT ct (g 11) tx, wL ct (g 12) y, wR ct (g 14) x]) 6 [3] [0, 1, 2, 4, 5] 0 (kX6_codeAt l D ct (g 11) tx x3 _ hw) (cwV 1 X.1.2.2.2.2 gX7_digest_X6_codeAt rfl rfl rfl (by decide +kernel) ⟨Nat.le_of_ble_eq_true rfl, Nat.le_of_ble_eq_true rfl⟩) dX7_digest_216 rfl rfl (Nat.le_of_ble_eq_true rfl) ⟨Nat.le_of_ble_eq_true rfl, Nat.le_of_ble_eq_true rfl⟩ rfl rfl rfl (by decide) (fun _ => rfl) (fun _ => rfl) (fun _ => rfl) (fun _ => rfl) rfl rfl rfl (fun r28 _ hw => ?_)
      refine g_i2l X dX7_digest_219 ?_
      refine g_ladd X dX7_digest_220 ?_
      refine g_topl (fun q30 hq30 => ?_)
      replace hw := hw q30 hq30
      refine g_lstore_n X [(1, .long q30), (0, .ref (g 0 0)), (3, .int x3)] dX7_digest_221 rfl (by decide) rfl ?_
      refine g_iinc X [(3, .int (x3 + 1)), (1, .long q30), (0, .ref (g 0 0))] 2 dX7_digest_222 rfl rfl (by decide) rfl ?_
      refine g_goto X 195 dX7_digest_225 (by decide) ?_
      refine g_sub [(0, .ref (g 0 0)), (1, .long q30), (3, .int (x3 + 1))] [2, 1, 0] rfl ?_
      exact ih _ _ _ _ _ hw

set_option maxHeartbeats 4000000 in
set_option maxRecDepth 20000 in
theorem kX7_digest_145 (l : Launch) (D : va_G) (ct : Nat → ClassId) (g : Nat → Nat → Nat) (kc : Mem) (b : Mem) (tx : Mem) (post : Int64 → Mem → Mem → Mem → Prop) {p : Program} {e : Env} {s : State} {m : MethodId} {args : Array Value} {below : List Frame} {meth : Method} {c : Code} {A : Nat → Prop} (X : Cx p s m args meth c cX7_digest 4 RX7 wsX7_digest D (tyz ct) A s.heap (some .long))  :
    ∀ (n : Nat) (v : Mem) (y : Mem) (x : Mem) (x1 : Int64) (x3 : Int32), PX7_digest_145 kc b tx post n v y x x1 x3 → GX7_digest l D ct g kc b tx post p e s m args below meth c A (fl [wC ct g kc, wS ct (g 1) v, wV ct g b, wT ct (g 11) tx, wL ct (g 12) y, wR ct (g 14) x]) [(0, .ref (g 0 0)), (1, .long x1), (3, .int x3)] 145 [] := by
  intro n
  induction n with
  | zero =>
    intro v y x x1 x3 hw
    exact hw.elim
  | succ n ih =>
    intro v y x x1 x3 hw
    unfold PX7_digest_145 at hw
    refine g_iload_n X 2 dX7_digest_145 rfl rfl ?_
    refine g_iconst (v := 2) X rfl dX7_digest_146 ?_
    refine g_icmp_ge X 178 dX7_digest_147 (by decide) (fun c21 => ?_) (fun c21 => ?_)
    · replace hw := hw.1 c21
      refine g_ldc2 (v := (31)) X (List.mem_of_getElem? (i := 2) rfl) dX7_digest_178 ?_
      refine g_lload_n X 1 dX7_digest_181 rfl rfl ?_
      refine g_lmul X dX7_digest_182 ?_
      refine g_aload_n X 0 dX7_digest_183 rfl rfl ?_
      refine g_get (T := TX7) (C := RX7) (N := 8) (v := .ref (g 11 0)) X 0 4 (fun _ h => (List.mem_cons_of_mem _ (List.mem_append_left _ (List.mem_append_left _ (List.mem_append_left _ (List.mem_append_left _ (List.mem_append_left _ (List.mem_append_left _ (List.mem_append_left _ (List.mem_append_right _ h)))))))))) (List.mem_of_getElem? (i := 5) rfl) dX7_digest_184 rfl rfl (by decide) rfl rfl ?_
      refine g_ciV X [wC ct g kc, wS ct (g 1) v, wV ct g b, wT ct (g 11) tx, wL ct (g 12) y, wR ct (g 14) x] (fun (_ : Unit) => [wC ct g kc, wS ct (g 1) v, wV ct g b, wT ct (g 11) tx, wL ct (g 12) y, wR ct (g 14) x]) (fun _ => fl [wC ct g kc, wS ct (g 1) v, wV ct g b, wT ct (g 11) tx, wL ct (g 12) y, wR ct (g 14) x]) 6 [3] [0, 1, 2, 4, 5] 0 (kX6_length l D ct (g 11) tx _ hw) (cwV 0 X.1.2.2.2.2 gX7_digest_X6_length rfl rfl rfl (by decide +kernel) ⟨Nat.le_of_ble_eq_true rfl, Nat.le_of_ble_eq_true rfl⟩) dX7_digest_187 rfl rfl (Nat.le_of_ble_eq_true rfl) ⟨Nat.le_of_ble_eq_true rfl, Nat.le_of_ble_eq_true rfl⟩ rfl rfl rfl (by decide) (fun _ => rfl) (fun _ => rfl) (fun _ => rfl) (fun _ => rfl) rfl rfl rfl (fun r22 _ hw => ?_)
      refine g_i2l X dX7_digest_190 ?_
      refine g_ladd X dX7_digest_191 ?_
      refine g_topl (fun q24 hq24 => ?_)
      replace hw := hw q24 hq24
      refine g_lstore_n X [(1, .long q24), (0, .ref (g 0 0)), (3, .int x3)] dX7_digest_192 rfl (by decide) rfl ?_
      refine g_iconst (v := 0) X rfl dX7_digest_193 ?_
      refine g_istore_n X [(3, .int 0), (1, .long q24), (0, .ref (g 0 0))] dX7_digest_194 rfl (by decide) rfl ?_
      refine g_sub [(0, .ref (g 0 0)), (1, .long q24), (3, .int 0)] [2, 1, 0] rfl ?_
      obtain ⟨n31, hw⟩ := hw
      exact kX7_digest_195 l D ct g kc b tx post X n31 _ _ _ _ _ hw
    · replace hw := hw.2 c21
      refine g_ldc2 (v := (31)) X (List.mem_of_getElem? (i := 2) rfl) dX7_digest_150 ?_
      refine g_lload_n X 1 dX7_digest_153 rfl rfl ?_
      refine g_lmul X dX7_digest_154 ?_
      refine g_aload_n X 0 dX7_digest_155 rfl rfl ?_
      refine g_get (T := TX7) (C := RX7) (N := 8) (v := .ref (g 0 2)) X 0 2 (fun _ h => (List.mem_cons_of_mem _ (List.mem_append_left _ (List.mem_append_left _ (List.mem_append_left _ (List.mem_append_left _ (List.mem_append_left _ (List.mem_append_left _ (List.mem_append_left _ (List.mem_append_right _ h)))))))))) (List.mem_of_getElem? (i := 4) rfl) dX7_digest_156 rfl rfl (by decide) rfl rfl ?_
      refine g_iload_n X 2 dX7_digest_159 rfl rfl ?_
      obtain ⟨h32, hw⟩ := hw
      refine g_zald X 2 2 dX7_digest_160 rfl rfl h32 ?_
      refine g_if_eq X 168 dX7_digest_161 (by decide) (fun c33 => ?_) (fun c33 => ?_)
      · replace hw := hw.1 c33
        refine g_iconst (v := 0) X rfl dX7_digest_168 ?_
        refine g_i2l X dX7_digest_169 ?_
        refine g_ladd X dX7_digest_170 ?_
        refine g_topl (fun q34 hq34 => ?_)
        replace hw := hw q34 hq34
        refine g_lstore_n X [(1, .long q34), (0, .ref (g 0 0)), (3, .int x3)] dX7_digest_171 rfl (by decide) rfl ?_
        refine g_iinc X [(3, .int (x3 + 1)), (1, .long q34), (0, .ref (g 0 0))] 2 dX7_digest_172 rfl rfl (by decide) rfl ?_
        refine g_goto X 145 dX7_digest_175 (by decide) ?_
        refine g_sub [(0, .ref (g 0 0)), (1, .long q34), (3, .int (x3 + 1))] [2, 1, 0] rfl ?_
        exact ih _ _ _ _ _ hw
      · replace hw := hw.2 c33
        refine g_iconst (v := 1) X rfl dX7_digest_164 ?_
        refine g_goto X 169 dX7_digest_165 (by decide) ?_
        refine g_i2l X dX7_digest_169 ?_
        refine g_ladd X dX7_digest_170 ?_
        refine g_topl (fun q35 hq35 => ?_)
        replace hw := hw q35 hq35
        refine g_lstore_n X [(1, .long q35), (0, .ref (g 0 0)), (3, .int x3)] dX7_digest_171 rfl (by decide) rfl ?_
        refine g_iinc X [(3, .int (x3 + 1)), (1, .long q35), (0, .ref (g 0 0))] 2 dX7_digest_172 rfl rfl (by decide) rfl ?_
        refine g_goto X 145 dX7_digest_175 (by decide) ?_
        refine g_sub [(0, .ref (g 0 0)), (1, .long q35), (3, .int (x3 + 1))] [2, 1, 0] rfl ?_
        exact ih _ _ _ _ _ hw

set_option maxHeartbeats 4000000 in
set_option maxRecDepth 20000 in
theorem kX7_digest_98 (l : Launch) (D : va_G) (ct : Nat → ClassId) (g : Nat → Nat → Nat) (kc : Mem) (b : Mem) (tx : Mem) (post : Int64 → Mem → Mem → Mem → Prop) {p : Program} {e : Env} {s : State} {m : MethodId} {args : Array Value} {below : List Frame} {meth : Method} {c : Code} {A : Nat → Prop} (X : Cx p s m args meth c cX7_digest 4 RX7 wsX7_digest D (tyz ct) A s.heap (some .long))  :
    ∀ (n : Nat) (v : Mem) (y : Mem) (x : Mem) (x1 : Int64) (x3 : Int32), PX7_digest_98 kc b tx post n v y x x1 x3 → GX7_digest l D ct g kc b tx post p e s m args below meth c A (fl [wC ct g kc, wS ct (g 1) v, wV ct g b, wT ct (g 11) tx, wL ct (g 12) y, wR ct (g 14) x]) [(0, .ref (g 0 0)), (1, .long x1), (3, .int x3)] 98 [] := by
  intro n
  induction n with
  | zero =>
    intro v y x x1 x3 hw
    exact hw.elim
  | succ n ih =>
    intro v y x x1 x3 hw
    unfold PX7_digest_98 at hw
    refine g_iload_n X 2 dX7_digest_98 rfl rfl ?_
    refine g_aload_n X 0 dX7_digest_99 rfl rfl ?_
    refine g_get (T := TX7) (C := RX7) (N := 8) (v := .ref (g 1 0)) X 0 0 (fun _ h => (List.mem_cons_of_mem _ (List.mem_append_left _ (List.mem_append_left _ (List.mem_append_left _ (List.mem_append_left _ (List.mem_append_left _ (List.mem_append_left _ (List.mem_append_left _ (List.mem_append_right _ h)))))))))) (List.mem_of_getElem? (i := 3) rfl) dX7_digest_100 rfl rfl (by decide) rfl rfl ?_
    refine g_ciV X [wC ct g kc, wS ct (g 1) v, wV ct g b, wT ct (g 11) tx, wL ct (g 12) y, wR ct (g 14) x] (fun (_ : Unit) => [wC ct g kc, wS ct (g 1) v, wV ct g b, wT ct (g 11) tx, wL ct (g 12) y, wR ct (g 14) x]) (fun _ => fl [wC ct g kc, wS ct (g 1) v, wV ct g b, wT ct (g 11) tx, wL ct (g 12) y, wR ct (g 14) x]) 6 [1] [0, 2, 3, 4, 5] 0 (kX5_people l D ct (g 1) v _ hw) (cwV 0 X.1.2.2.2.2 gX7_digest_X5_people rfl rfl rfl (by decide +kernel) ⟨Nat.le_of_ble_eq_true rfl, Nat.le_of_ble_eq_true rfl⟩) dX7_digest_103 rfl rfl (Nat.le_of_ble_eq_true rfl) ⟨Nat.le_of_ble_eq_true rfl, Nat.le_of_ble_eq_true rfl⟩ rfl rfl rfl (by decide) (fun _ => rfl) (fun _ => rfl) (fun _ => rfl) (fun _ => rfl) rfl rfl rfl (fun r13 _ hw => ?_)
    refine g_icmp_ge X 129 dX7_digest_106 (by decide) (fun c15 => ?_) (fun c15 => ?_)
    · replace hw := hw.1 c15
      refine g_ldc2 (v := (31)) X (List.mem_of_getElem? (i := 2) rfl) dX7_digest_129 ?_
      refine g_lload_n X 1 dX7_digest_132 rfl rfl ?_
      refine g_lmul X dX7_digest_133 ?_
      refine g_aload_n X 0 dX7_digest_134 rfl rfl ?_
      refine g_cdV X [wC ct g kc, wS ct (g 1) v, wV ct g b, wT ct (g 11) tx, wL ct (g 12) y, wR ct (g 14) x] (fun (_ : Unit) => [wC ct g kc, wS ct (g 1) v, wV ct g b, wT ct (g 11) tx, wL ct (g 12) y, wR ct (g 14) x]) (fun _ => fl [wC ct g kc, wS ct (g 1) v, wV ct g b, wT ct (g 11) tx, wL ct (g 12) y, wR ct (g 14) x]) 6 [0, 1] [2, 3, 4, 5] 0 (kX7_straightShare l D ct g kc v _ hw) (cwV 0 X.1.2.2.2.2 gX7_digest_X7_straightShare rfl rfl rfl (by decide +kernel) ⟨Nat.le_of_ble_eq_true rfl, Nat.le_of_ble_eq_true rfl⟩) dX7_digest_135 rfl rfl (Nat.le_of_ble_eq_true rfl) ⟨Nat.le_of_ble_eq_true rfl, Nat.le_of_ble_eq_true rfl⟩ rfl rfl rfl (by decide) (fun _ => rfl) (fun _ => rfl) (fun _ => rfl) (fun _ => rfl) rfl rfl rfl (fun r16 _ hw => ?_)
      refine g_clS X [wC ct g kc, wS ct (g 1) v, wV ct g b, wT ct (g 11) tx, wL ct (g 12) y, wR ct (g 14) x] (fun (_ : Unit) => [wC ct g kc, wS ct (g 1) v, wV ct g b, wT ct (g 11) tx, wL ct (g 12) y, wR ct (g 14) x]) (fun _ => fl [wC ct g kc, wS ct (g 1) v, wV ct g b, wT ct (g 11) tx, wL ct (g 12) y, wR ct (g 14) x]) 6 [] [0, 1, 2, 3, 4, 5] (kX7_bitsOfShare l D ct  r16 _ hw) (va_cwS 1 X.1.2.2.2.2 gX7_digest_X7_bitsOfShare rfl rfl rfl (by decide +kernel) ⟨Nat.le_of_ble_eq_true rfl, Nat.le_of_ble_eq_true rfl⟩) dX7_digest_138 rfl rfl (Nat.le_of_ble_eq_true rfl) ⟨Nat.le_of_ble_eq_true rfl, Nat.le_of_ble_eq_true rfl⟩ rfl rfl rfl (by decide) (fun _ => rfl) (fun _ => rfl) (fun _ => rfl) (fun _ => rfl) (fun r18 _ hw => ?_)
      refine g_ladd X dX7_digest_141 ?_
      refine g_topl (fun q20 hq20 => ?_)
      replace hw := hw q20 hq20
      refine g_lstore_n X [(1, .long q20), (0, .ref (g 0 0)), (3, .int x3)] dX7_digest_142 rfl (by decide) rfl ?_
      refine g_iconst (v := 0) X rfl dX7_digest_143 ?_
      refine g_istore_n X [(3, .int 0), (1, .long q20), (0, .ref (g 0 0))] dX7_digest_144 rfl (by decide) rfl ?_
      refine g_sub [(0, .ref (g 0 0)), (1, .long q20), (3, .int 0)] [2, 1, 0] rfl ?_
      obtain ⟨n36, hw⟩ := hw
      exact kX7_digest_145 l D ct g kc b tx post X n36 _ _ _ _ _ hw
    · replace hw := hw.2 c15
      refine g_ldc2 (v := (31)) X (List.mem_of_getElem? (i := 2) rfl) dX7_digest_109 ?_
      refine g_lload_n X 1 dX7_digest_112 rfl rfl ?_
      refine g_lmul X dX7_digest_113 ?_
      refine g_aload_n X 0 dX7_digest_114 rfl rfl ?_
      refine g_iconst (v := 0) X rfl dX7_digest_115 ?_
      refine g_iload_n X 2 dX7_digest_116 rfl rfl ?_
      refine g_ciV X [wC ct g kc, wS ct (g 1) v, wV ct g b, wT ct (g 11) tx, wL ct (g 12) y, wR ct (g 14) x] (fun (_ : Unit) => [wC ct g kc, wS ct (g 1) v, wV ct g b, wT ct (g 11) tx, wL ct (g 12) y, wR ct (g 14) x]) (fun _ => fl [wC ct g kc, wS ct (g 1) v, wV ct g b, wT ct (g 11) tx, wL ct (g 12) y, wR ct (g 14) x]) 6 [0, 1] [2, 3, 4, 5] 0 (kX7_nearness_nt l D ct g kc v 0 x3 _ hw) (cwV 2 X.1.2.2.2.2 gX7_digest_X7_nearness rfl rfl rfl (by decide +kernel) ⟨Nat.le_of_ble_eq_true rfl, Nat.le_of_ble_eq_true rfl⟩) dX7_digest_117 rfl rfl (Nat.le_of_ble_eq_true rfl) ⟨Nat.le_of_ble_eq_true rfl, Nat.le_of_ble_eq_true rfl⟩ rfl rfl rfl (by decide) (fun _ => rfl) (fun _ => rfl) (fun _ => rfl) (fun _ => rfl) rfl rfl rfl (fun r37 _ hw => ?_)
      refine g_i2l X dX7_digest_120 ?_
      refine g_ladd X dX7_digest_121 ?_
      refine g_topl (fun q39 hq39 => ?_)
      replace hw := hw q39 hq39
      refine g_lstore_n X [(1, .long q39), (0, .ref (g 0 0)), (3, .int x3)] dX7_digest_122 rfl (by decide) rfl ?_
      refine g_iinc X [(3, .int (x3 + 1)), (1, .long q39), (0, .ref (g 0 0))] 2 dX7_digest_123 rfl rfl (by decide) rfl ?_
      refine g_goto X 98 dX7_digest_126 (by decide) ?_
      refine g_sub [(0, .ref (g 0 0)), (1, .long q39), (3, .int (x3 + 1))] [2, 1, 0] rfl ?_
      exact ih _ _ _ _ _ hw

set_option maxHeartbeats 4000000 in
set_option maxRecDepth 20000 in
theorem kX7_digest_45 (l : Launch) (D : va_G) (ct : Nat → ClassId) (g : Nat → Nat → Nat) (kc : Mem) (b : Mem) (tx : Mem) (post : Int64 → Mem → Mem → Mem → Prop) {p : Program} {e : Env} {s : State} {m : MethodId} {args : Array Value} {below : List Frame} {meth : Method} {c : Code} {A : Nat → Prop} (X : Cx p s m args meth c cX7_digest 4 RX7 wsX7_digest D (tyz ct) A s.heap (some .long))  :
    ∀ (n : Nat) (v : Mem) (y : Mem) (x : Mem) (x1 : Int64) (x3 : Int32), PX7_digest_45 kc b tx post n v y x x1 x3 → GX7_digest l D ct g kc b tx post p e s m args below meth c A (fl [wC ct g kc, wS ct (g 1) v, wV ct g b, wT ct (g 11) tx, wL ct (g 12) y, wR ct (g 14) x]) [(0, .ref (g 0 0)), (1, .long x1), (3, .int x3)] 45 [] := by
  intro n
  induction n with
  | zero =>
    intro v y x x1 x3 hw
    exact hw.elim
  | succ n ih =>
    intro v y x x1 x3 hw
    unfold PX7_digest_45 at hw
    refine g_iload_n X 2 dX7_digest_45 rfl rfl ?_
    refine g_iconst (v := 4) X rfl dX7_digest_46 ?_
    refine g_icmp_ge X 84 dX7_digest_47 (by decide) (fun c7 => ?_) (fun c7 => ?_)
    · replace hw := hw.1 c7
      refine g_ldc2 (v := (31)) X (List.mem_of_getElem? (i := 2) rfl) dX7_digest_84 ?_
      refine g_lload_n X 1 dX7_digest_87 rfl rfl ?_
      refine g_lmul X dX7_digest_88 ?_
      refine g_aload_n X 0 dX7_digest_89 rfl rfl ?_
      refine g_ciV X [wC ct g kc, wS ct (g 1) v, wV ct g b, wT ct (g 11) tx, wL ct (g 12) y, wR ct (g 14) x] (fun (u9 : Mem × Mem) => [wC ct g kc, wS ct (g 1) u9.1, wV ct g b, wT ct (g 11) tx, wL ct (g 12) u9.2, wR ct (g 14) x]) (fun (u9 : Mem × Mem) => fl [wC ct g kc, wS ct (g 1) u9.1, wV ct g b, wT ct (g 11) tx, wL ct (g 12) u9.2, wR ct (g 14) x]) 6 [0, 1, 4] [2, 3, 5] 0 (kX7_bestSwap l D ct g kc v y _ hw) (cwV 0 X.1.2.2.2.2 gX7_digest_X7_bestSwap rfl rfl rfl (by decide +kernel) ⟨Nat.le_of_ble_eq_true rfl, Nat.le_of_ble_eq_true rfl⟩) dX7_digest_90 rfl rfl (Nat.le_of_ble_eq_true rfl) ⟨Nat.le_of_ble_eq_true rfl, Nat.le_of_ble_eq_true rfl⟩ rfl rfl rfl (by decide) (fun _ => rfl) (fun _ => rfl) (fun _ => rfl) (fun _ => rfl) rfl rfl rfl (fun r8 u9 hw => ?_)
      obtain ⟨v10, hv10⟩ : ∃ z : Mem, z = u9.1 := ⟨_, rfl⟩
      rw [← hv10] at hw
      rw [← hv10]
      obtain ⟨y11, hy11⟩ : ∃ z : Mem, z = u9.2 := ⟨_, rfl⟩
      rw [← hy11] at hw
      rw [← hy11]
      refine g_i2l X dX7_digest_93 ?_
      refine g_ladd X dX7_digest_94 ?_
      refine g_topl (fun q12 hq12 => ?_)
      replace hw := hw q12 hq12
      refine g_lstore_n X [(1, .long q12), (0, .ref (g 0 0)), (3, .int x3)] dX7_digest_95 rfl (by decide) rfl ?_
      refine g_iconst (v := 0) X rfl dX7_digest_96 ?_
      refine g_istore_n X [(3, .int 0), (1, .long q12), (0, .ref (g 0 0))] dX7_digest_97 rfl (by decide) rfl ?_
      refine g_sub [(0, .ref (g 0 0)), (1, .long q12), (3, .int 0)] [2, 1, 0] rfl ?_
      obtain ⟨n40, hw⟩ := hw
      exact kX7_digest_98 l D ct g kc b tx post X n40 _ _ _ _ _ hw
    · replace hw := hw.2 c7
      refine g_ldc2 (v := (31)) X (List.mem_of_getElem? (i := 2) rfl) dX7_digest_50 ?_
      refine g_lload_n X 1 dX7_digest_53 rfl rfl ?_
      refine g_lmul X dX7_digest_54 ?_
      refine g_aload_n X 0 dX7_digest_55 rfl rfl ?_
      refine g_iload_n X 2 dX7_digest_56 rfl rfl ?_
      refine g_iconst (v := 0) X rfl dX7_digest_57 ?_
      refine g_ciV X [wC ct g kc, wS ct (g 1) v, wV ct g b, wT ct (g 11) tx, wL ct (g 12) y, wR ct (g 14) x] (fun (u42 : Mem) => [wC ct g kc, wS ct (g 1) v, wV ct g b, wT ct (g 11) tx, wL ct (g 12) y, wR ct (g 14) u42]) (fun (u42 : Mem) => fl [wC ct g kc, wS ct (g 1) v, wV ct g b, wT ct (g 11) tx, wL ct (g 12) y, wR ct (g 14) u42]) 6 [0, 1, 5] [2, 3, 4] 0 (kX7_least_nt l D ct g kc v x x3 0 _ hw) (cwV 2 X.1.2.2.2.2 gX7_digest_X7_least rfl rfl rfl (by decide +kernel) ⟨Nat.le_of_ble_eq_true rfl, Nat.le_of_ble_eq_true rfl⟩) dX7_digest_58 rfl rfl (Nat.le_of_ble_eq_true rfl) ⟨Nat.le_of_ble_eq_true rfl, Nat.le_of_ble_eq_true rfl⟩ rfl rfl rfl (by decide) (fun _ => rfl) (fun _ => rfl) (fun _ => rfl) (fun _ => rfl) rfl rfl rfl (fun r41 u42 hw => ?_)
      obtain ⟨x43, hx43⟩ : ∃ z : Mem, z = u42 := ⟨_, rfl⟩
      rw [← hx43] at hw
      rw [← hx43]
      refine g_i2l X dX7_digest_61 ?_
      refine g_ladd X dX7_digest_62 ?_
      refine g_topl (fun q44 hq44 => ?_)
      replace hw := hw q44 hq44
      refine g_lstore_n X [(1, .long q44), (0, .ref (g 0 0)), (3, .int x3)] dX7_digest_63 rfl (by decide) rfl ?_
      refine g_ldc2 (v := (31)) X (List.mem_of_getElem? (i := 2) rfl) dX7_digest_64 ?_
      refine g_lload_n X 0 dX7_digest_67 rfl rfl ?_
      refine g_lmul X dX7_digest_68 ?_
      refine g_aload_n X 1 dX7_digest_69 rfl rfl ?_
      refine g_iload_n X 2 dX7_digest_70 rfl rfl ?_
      refine g_iconst (v := 1) X rfl dX7_digest_71 ?_
      refine g_ciV X [wC ct g kc, wS ct (g 1) v, wV ct g b, wT ct (g 11) tx, wL ct (g 12) y, wR ct (g 14) x43] (fun (u46 : Mem) => [wC ct g kc, wS ct (g 1) v, wV ct g b, wT ct (g 11) tx, wL ct (g 12) y, wR ct (g 14) u46]) (fun (u46 : Mem) => fl [wC ct g kc, wS ct (g 1) v, wV ct g b, wT ct (g 11) tx, wL ct (g 12) y, wR ct (g 14) u46]) 6 [0, 1, 5] [2, 3, 4] 0 (kX7_least_nt l D ct g kc v x43 x3 1 _ hw) (cwV 2 X.1.2.2.2.2 gX7_digest_X7_least rfl rfl rfl (by decide +kernel) ⟨Nat.le_of_ble_eq_true rfl, Nat.le_of_ble_eq_true rfl⟩) dX7_digest_72 rfl rfl (Nat.le_of_ble_eq_true rfl) ⟨Nat.le_of_ble_eq_true rfl, Nat.le_of_ble_eq_true rfl⟩ rfl rfl rfl (by decide) (fun _ => rfl) (fun _ => rfl) (fun _ => rfl) (fun _ => rfl) rfl rfl rfl (fun r45 u46 hw => ?_)
      obtain ⟨x47, hx47⟩ : ∃ z : Mem, z = u46 := ⟨_, rfl⟩
      rw [← hx47] at hw
      rw [← hx47]
      refine g_i2l X dX7_digest_75 ?_
      refine g_ladd X dX7_digest_76 ?_
      refine g_topl (fun q48 hq48 => ?_)
      replace hw := hw q48 hq48
      refine g_lstore_n X [(1, .long q48), (0, .ref (g 0 0)), (3, .int x3)] dX7_digest_77 rfl (by decide) rfl ?_
      refine g_iinc X [(3, .int (x3 + 1)), (1, .long q48), (0, .ref (g 0 0))] 2 dX7_digest_78 rfl rfl (by decide) rfl ?_
      refine g_goto X 45 dX7_digest_81 (by decide) ?_
      refine g_sub [(0, .ref (g 0 0)), (1, .long q48), (3, .int (x3 + 1))] [2, 1, 0] rfl ?_
      exact ih _ _ _ _ _ hw

set_option maxHeartbeats 4000000 in
set_option maxRecDepth 20000 in
theorem kX7_digest_6 (l : Launch) (D : va_G) (ct : Nat → ClassId) (g : Nat → Nat → Nat) (kc : Mem) (b : Mem) (tx : Mem) (post : Int64 → Mem → Mem → Mem → Prop) {p : Program} {e : Env} {s : State} {m : MethodId} {args : Array Value} {below : List Frame} {meth : Method} {c : Code} {A : Nat → Prop} (X : Cx p s m args meth c cX7_digest 4 RX7 wsX7_digest D (tyz ct) A s.heap (some .long))  :
    ∀ (n : Nat) (v : Mem) (y : Mem) (x : Mem) (x1 : Int64) (x3 : Int32), PX7_digest_6 kc b tx post n v y x x1 x3 → GX7_digest l D ct g kc b tx post p e s m args below meth c A (fl [wC ct g kc, wS ct (g 1) v, wV ct g b, wT ct (g 11) tx, wL ct (g 12) y, wR ct (g 14) x]) [(0, .ref (g 0 0)), (1, .long x1), (3, .int x3)] 6 [] := by
  intro n
  induction n with
  | zero =>
    intro v y x x1 x3 hw
    exact hw.elim
  | succ n ih =>
    intro v y x x1 x3 hw
    unfold PX7_digest_6 at hw
    refine g_iload_n X 2 dX7_digest_6 rfl rfl ?_
    refine g_bipush (v := 8) X rfl dX7_digest_7 ?_
    refine g_icmp_gt X 31 dX7_digest_9 (by decide) (fun c1 => ?_) (fun c1 => ?_)
    · replace hw := hw.1 c1
      refine g_aload_n X 0 dX7_digest_31 rfl rfl ?_
      refine g_lload_n X 1 dX7_digest_32 rfl rfl ?_
      refine g_clV X [wC ct g kc, wS ct (g 1) v, wV ct g b, wT ct (g 11) tx, wL ct (g 12) y, wR ct (g 14) x] (fun (_ : Unit) => [wC ct g kc, wS ct (g 1) v, wV ct g b, wT ct (g 11) tx, wL ct (g 12) y, wR ct (g 14) x]) (fun _ => fl [wC ct g kc, wS ct (g 1) v, wV ct g b, wT ct (g 11) tx, wL ct (g 12) y, wR ct (g 14) x]) 6 [0, 1] [2, 3, 4, 5] 0 (kX7_hashPeopleAndCouples l D ct g kc v x1 _ hw) (cwV 1 X.1.2.2.2.2 gX7_digest_X7_hashPeopleAndCouples rfl rfl rfl (by decide +kernel) ⟨Nat.le_of_ble_eq_true rfl, Nat.le_of_ble_eq_true rfl⟩) dX7_digest_33 rfl rfl (Nat.le_of_ble_eq_true rfl) ⟨Nat.le_of_ble_eq_true rfl, Nat.le_of_ble_eq_true rfl⟩ rfl rfl rfl (by decide) (fun _ => rfl) (fun _ => rfl) (fun _ => rfl) (fun _ => rfl) rfl rfl rfl (fun r2 _ hw => ?_)
      refine g_lstore_n X [(1, .long r2), (0, .ref (g 0 0)), (3, .int x3)] dX7_digest_36 rfl (by decide) rfl ?_
      refine g_aload_n X 1 dX7_digest_37 rfl rfl ?_
      refine g_lload_n X 0 dX7_digest_38 rfl rfl ?_
      refine g_clV X [wC ct g kc, wS ct (g 1) v, wV ct g b, wT ct (g 11) tx, wL ct (g 12) y, wR ct (g 14) x] (fun (u5 : Mem) => [wC ct g kc, wS ct (g 1) v, wV ct g b, wT ct (g 11) tx, wL ct (g 12) u5, wR ct (g 14) x]) (fun (u5 : Mem) => fl [wC ct g kc, wS ct (g 1) v, wV ct g b, wT ct (g 11) tx, wL ct (g 12) u5, wR ct (g 14) x]) 6 [0, 1, 4] [2, 3, 5] 0 (kX7_hashRows l D ct g kc v y r2 _ hw) (cwV 1 X.1.2.2.2.2 gX7_digest_X7_hashRows rfl rfl rfl (by decide +kernel) ⟨Nat.le_of_ble_eq_true rfl, Nat.le_of_ble_eq_true rfl⟩) dX7_digest_39 rfl rfl (Nat.le_of_ble_eq_true rfl) ⟨Nat.le_of_ble_eq_true rfl, Nat.le_of_ble_eq_true rfl⟩ rfl rfl rfl (by decide) (fun _ => rfl) (fun _ => rfl) (fun _ => rfl) (fun _ => rfl) rfl rfl rfl (fun r4 u5 hw => ?_)
      obtain ⟨y6, hy6⟩ : ∃ z : Mem, z = u5 := ⟨_, rfl⟩
      rw [← hy6] at hw
      rw [← hy6]
      refine g_lstore_n X [(1, .long r4), (0, .ref (g 0 0)), (3, .int x3)] dX7_digest_42 rfl (by decide) rfl ?_
      refine g_iconst (v := 0) X rfl dX7_digest_43 ?_
      refine g_istore_n X [(3, .int 0), (1, .long r4), (0, .ref (g 0 0))] dX7_digest_44 rfl (by decide) rfl ?_
      refine g_sub [(0, .ref (g 0 0)), (1, .long r4), (3, .int 0)] [2, 1, 0] rfl ?_
      obtain ⟨n49, hw⟩ := hw
      exact kX7_digest_45 l D ct g kc b tx post X n49 _ _ _ _ _ hw
    · replace hw := hw.2 c1
      refine g_ldc2 (v := (31)) X (List.mem_of_getElem? (i := 2) rfl) dX7_digest_12 ?_
      refine g_lload_n X 1 dX7_digest_15 rfl rfl ?_
      refine g_lmul X dX7_digest_16 ?_
      refine g_aload_n X 0 dX7_digest_17 rfl rfl ?_
      refine g_iload_n X 2 dX7_digest_18 rfl rfl ?_
      refine g_ciV X [wC ct g kc, wS ct (g 1) v, wV ct g b, wT ct (g 11) tx, wL ct (g 12) y, wR ct (g 14) x] (fun (u51 : Mem) => [wC ct g kc, wS ct (g 1) v, wV ct g b, wT ct (g 11) tx, wL ct (g 12) u51, wR ct (g 14) x]) (fun (u51 : Mem) => fl [wC ct g kc, wS ct (g 1) v, wV ct g b, wT ct (g 11) tx, wL ct (g 12) u51, wR ct (g 14) x]) 6 [0, 1, 2, 4] [3, 5] 0 (kX7_count_nt l D ct g kc v b y x3 _ hw) (cwV 1 X.1.2.2.2.2 gX7_digest_X7_count rfl rfl rfl (by decide +kernel) ⟨Nat.le_of_ble_eq_true rfl, Nat.le_of_ble_eq_true rfl⟩) dX7_digest_19 rfl rfl (Nat.le_of_ble_eq_true rfl) ⟨Nat.le_of_ble_eq_true rfl, Nat.le_of_ble_eq_true rfl⟩ rfl rfl rfl (by decide) (fun _ => rfl) (fun _ => rfl) (fun _ => rfl) (fun _ => rfl) rfl rfl rfl (fun r50 u51 hw => ?_)
      obtain ⟨y52, hy52⟩ : ∃ z : Mem, z = u51 := ⟨_, rfl⟩
      rw [← hy52] at hw
      rw [← hy52]
      refine g_i2l X dX7_digest_22 ?_
      refine g_ladd X dX7_digest_23 ?_
      refine g_topl (fun q53 hq53 => ?_)
      replace hw := hw q53 hq53
      refine g_lstore_n X [(1, .long q53), (0, .ref (g 0 0)), (3, .int x3)] dX7_digest_24 rfl (by decide) rfl ?_
      refine g_iinc X [(3, .int (x3 + 1)), (1, .long q53), (0, .ref (g 0 0))] 2 dX7_digest_25 rfl rfl (by decide) rfl ?_
      refine g_goto X 6 dX7_digest_28 (by decide) ?_
      refine g_sub [(0, .ref (g 0 0)), (1, .long q53), (3, .int (x3 + 1))] [2, 1, 0] rfl ?_
      exact ih _ _ _ _ _ hw

set_option maxHeartbeats 4000000 in
set_option maxRecDepth 20000 in
theorem kX7_digest (l : Launch) (D : va_G) (ct : Nat → ClassId) (g : Nat → Nat → Nat) (kc : Mem) (v : Mem) (b : Mem) (tx : Mem) (y : Mem) (x : Mem) (post : Int64 → Mem → Mem → Mem → Prop) (hw : PX7_digest kc v b tx y x post) : Cl (S := Mem × Mem × Mem) l yX7_digest wsX7_digest rmX7_digest D (tyz ct) [.ref (g 0 0)] (fl [wC ct g kc, wS ct (g 1) v, wV ct g b, wT ct (g 11) tx, wL ct (g 12) y, wR ct (g 14) x]) (fun r (u9 : Mem × Mem × Mem) => post r u9.1 u9.2.1 u9.2.2) (fun u9 => fl [wC ct g kc, wS ct (g 1) u9.1, wV ct g b, wT ct (g 11) tx, wL ct (g 12) u9.2.1, wR ct (g 14) u9.2.2]) 0 0 := by
  intro sz
  refine g_of (own := RX7) (by decide) rfl rfl (Nat.le_of_ble_eq_true rfl) [(0, .ref (g 0 0))] rfl (fun p e s m args below meth c hsz X => ?_)
  subst hsz
  unfold PX7_digest at hw
  refine g_ldc2 (v := (3727)) X (List.mem_of_getElem? (i := 1) rfl) dX7_digest_0 ?_
  refine g_lstore_n X [(1, .long 3727), (0, .ref (g 0 0))] dX7_digest_3 rfl (by decide) rfl ?_
  refine g_iconst (v := 0) X rfl dX7_digest_4 ?_
  refine g_istore_n X [(3, .int 0), (1, .long 3727), (0, .ref (g 0 0))] dX7_digest_5 rfl (by decide) rfl ?_
  refine g_sub [(0, .ref (g 0 0)), (1, .long 3727), (3, .int 0)] [2, 1, 0] rfl ?_
  obtain ⟨n54, hw⟩ := hw
  exact kX7_digest_6 l D ct g kc b tx post X n54 _ _ _ _ _ hw
