abbrev rmX7_isRow : Room := { frames := 0, cells := 0, slots := 0, locals := 0 }

abbrev GX7_isRow (l : Launch) (D : va_G) (ct : Nat → ClassId) (post : Int32 → Prop) (p : Program) (e : Env) (s : State) (m : MethodId) (args : Array Value) (below : List Frame) (meth : Method) (c : Code) (A : Nat → Prop) (w9 : va_W) (lv : List (Nat × Value)) (pc : Nat) (st : List Value) : Prop :=
  GG p l e rmX7_isRow s m args below meth c D A s.heap 1 (MQ below (va_Qi (fun r (_ : Unit) => post r) (fun u9 t9 => Af D (tyz ct) A ((fun _ => ([] : va_W)) u9) t9) A) args s 0 0 A) w9 0 0 lv pc st

set_option maxHeartbeats 4000000 in
set_option maxRecDepth 20000 in
theorem kX7_isRow (l : Launch) (D : va_G) (ct : Nat → ClassId) (p1 : Int32) (post : Int32 → Prop) (hw : PX7_isRow p1 post) : Ci (S := Unit) l yX7_isRow wsX7_isRow rmX7_isRow D (tyz ct) [.int p1] (([] : va_W)) (fun r (_ : Unit) => post r) (fun _ => ([] : va_W)) 0 0 := by
  intro sz
  refine g_of (own := RX7) (by decide) rfl rfl (Nat.le_of_ble_eq_true rfl) [(0, .int p1)] rfl (fun p e s m args below meth c hsz X => ?_)
  subst hsz
  unfold PX7_isRow at hw
  refine g_iload_n X 0 dX7_isRow_0 rfl rfl ?_
  refine g_if_lt X 13 dX7_isRow_1 (by decide) (fun c1 => ?_) (fun c1 => ?_)
  · replace hw := hw.1 c1
    refine g_iconst (v := 0) X rfl dX7_isRow_13 ?_
    exact g_zret X () isB_0 hw rfl (Nat.le_of_ble_eq_true rfl) (Nat.le_of_ble_eq_true rfl) dX7_isRow_14
  · replace hw := hw.2 c1
    refine g_iload_n X 0 dX7_isRow_4 rfl rfl ?_
    refine g_iconst (v := 4) X rfl dX7_isRow_5 ?_
    refine g_icmp_ge X 13 dX7_isRow_6 (by decide) (fun c2 => ?_) (fun c2 => ?_)
    · replace hw := hw.1 c2
      refine g_iconst (v := 0) X rfl dX7_isRow_13 ?_
      exact g_zret X () isB_0 hw rfl (Nat.le_of_ble_eq_true rfl) (Nat.le_of_ble_eq_true rfl) dX7_isRow_14
    · replace hw := hw.2 c2
      refine g_iconst (v := 1) X rfl dX7_isRow_9 ?_
      refine g_goto X 14 dX7_isRow_10 (by decide) ?_
      exact g_zret X () isB_1 hw rfl (Nat.le_of_ble_eq_true rfl) (Nat.le_of_ble_eq_true rfl) dX7_isRow_14

abbrev rmX7_allCrossings : Room := { frames := 5, cells := 0, slots := 0, locals := 108 }

abbrev GX7_allCrossings (l : Launch) (D : va_G) (ct : Nat → ClassId) (g : Nat → Nat → Nat) (kc : Mem) (v : Mem) (post : Int32 → Mem → Prop) (p : Program) (e : Env) (s : State) (m : MethodId) (args : Array Value) (below : List Frame) (meth : Method) (c : Code) (A : Nat → Prop) (w9 : va_W) (lv : List (Nat × Value)) (pc : Nat) (st : List Value) : Prop :=
  GG p l e rmX7_allCrossings s m args below meth c D A s.heap 3 (MQ below (va_Qi (fun r (u9 : Mem) => post r u9) (fun u9 t9 => Af D (tyz ct) A ((fun u9 => fl [wC ct g kc, wS ct (g 1) v, wL ct (g 12) u9]) u9) t9) A) args s 0 0 A) w9 0 0 lv pc st

set_option maxHeartbeats 4000000 in
set_option maxRecDepth 20000 in
theorem kX7_allCrossings_4 (l : Launch) (D : va_G) (ct : Nat → ClassId) (g : Nat → Nat → Nat) (kc : Mem) (v : Mem) (post : Int32 → Mem → Prop) {p : Program} {e : Env} {s : State} {m : MethodId} {args : Array Value} {below : List Frame} {meth : Method} {c : Code} {A : Nat → Prop} (X : Cx p s m args meth c cX7_allCrossings 3 RX7 wsX7_allCrossings D (tyz ct) A s.heap (some .int))  :
    ∀ (n : Nat) (y : Mem) (x1 : Int32) (x2 : Int32), PX7_allCrossings_4 kc v post n y x1 x2 → GX7_allCrossings l D ct g kc v post p e s m args below meth c A (fl [wC ct g kc, wS ct (g 1) v, wL ct (g 12) y]) [(0, .ref (g 0 0)), (1, .int x1), (2, .int x2)] 4 [] := by
  intro n
  induction n with
  | zero =>
    intro y x1 x2 hw
    exact hw.elim
  | succ n ih =>
    intro y x1 x2 hw
    unfold PX7_allCrossings_4 at hw
    refine g_iload_n X 2 dX7_allCrossings_4 rfl rfl ?_
    refine g_iconst (v := 4) X rfl dX7_allCrossings_5 ?_
    refine g_icmp_ge X 37 dX7_allCrossings_6 (by decide) (fun c1 => ?_) (fun c1 => ?_)
    · replace hw := hw.1 c1
      refine g_iload_n X 1 dX7_allCrossings_37 rfl rfl ?_
      exact g_iret X y hw rfl (Nat.le_of_ble_eq_true rfl) (Nat.le_of_ble_eq_true rfl) dX7_allCrossings_38
    · replace hw := hw.2 c1
      refine g_aload_n X 0 dX7_allCrossings_9 rfl rfl ?_
      refine g_get (T := TX7) (C := RX7) (N := 8) (v := .ref (g 12 0)) X 0 5 (fun _ h => (List.mem_cons_of_mem _ (List.mem_append_left _ (List.mem_append_left _ (List.mem_append_right _ h))))) (List.mem_of_getElem? (i := 1) rfl) dX7_allCrossings_10 rfl rfl (by decide) rfl rfl ?_
      refine g_aload_n X 0 dX7_allCrossings_13 rfl rfl ?_
      refine g_get (T := TX7) (C := RX7) (N := 8) (v := .ref (g 1 0)) X 0 0 (fun _ h => (List.mem_cons_of_mem _ (List.mem_append_left _ (List.mem_append_left _ (List.mem_append_right _ h))))) (List.mem_of_getElem? (i := 2) rfl) dX7_allCrossings_14 rfl rfl (by decide) rfl rfl ?_
      refine g_iload_n X 2 dX7_allCrossings_17 rfl rfl ?_
      refine g_cvV X [wC ct g kc, wS ct (g 1) v, wL ct (g 12) y] (fun (u2 : Mem) => [wC ct g kc, wS ct (g 1) v, wL ct (g 12) u2]) (fun (u2 : Mem) => fl [wC ct g kc, wS ct (g 1) v, wL ct (g 12) u2]) 3 [2, 1] [0] 0 (kX2_collect l D ct (g 12) (g 1) y v x2 _ hw) (cwV 2 X.1.2.2.2.2 gX7_allCrossings_X2_collect rfl rfl rfl (by decide +kernel) ⟨Nat.le_of_ble_eq_true rfl, Nat.le_of_ble_eq_true rfl⟩) dX7_allCrossings_18 rfl rfl (Nat.le_of_ble_eq_true rfl) ⟨Nat.le_of_ble_eq_true rfl, Nat.le_of_ble_eq_true rfl⟩ rfl rfl rfl (by decide) (fun _ => rfl) (fun _ => rfl) (fun _ => rfl) (fun _ => rfl) rfl rfl rfl (fun u2 hw => ?_)
      obtain ⟨y3, hy3⟩ : ∃ z : Mem, z = u2 := ⟨_, rfl⟩
      rw [← hy3] at hw
      rw [← hy3]
      refine g_iload_n X 1 dX7_allCrossings_21 rfl rfl ?_
      refine g_aload_n X 0 dX7_allCrossings_22 rfl rfl ?_
      refine g_get (T := TX7) (C := RX7) (N := 8) (v := .ref (g 12 0)) X 0 5 (fun _ h => (List.mem_cons_of_mem _ (List.mem_append_left _ (List.mem_append_left _ (List.mem_append_right _ h))))) (List.mem_of_getElem? (i := 1) rfl) dX7_allCrossings_23 rfl rfl (by decide) rfl rfl ?_
      refine g_ciV X [wC ct g kc, wS ct (g 1) v, wL ct (g 12) y3] (fun (_ : Unit) => [wC ct g kc, wS ct (g 1) v, wL ct (g 12) y3]) (fun _ => fl [wC ct g kc, wS ct (g 1) v, wL ct (g 12) y3]) 3 [2] [0, 1] 0 (kX2_crossedPairs l D ct (g 12) y3 _ hw) (cwV 0 X.1.2.2.2.2 gX7_allCrossings_X2_crossedPairs rfl rfl rfl (by decide +kernel) ⟨Nat.le_of_ble_eq_true rfl, Nat.le_of_ble_eq_true rfl⟩) dX7_allCrossings_26 rfl rfl (Nat.le_of_ble_eq_true rfl) ⟨Nat.le_of_ble_eq_true rfl, Nat.le_of_ble_eq_true rfl⟩ rfl rfl rfl (by decide) (fun _ => rfl) (fun _ => rfl) (fun _ => rfl) (fun _ => rfl) rfl rfl rfl (fun r4 _ hw => ?_)
      refine g_iadd X dX7_allCrossings_29 ?_
      refine g_topi (fun q6 hq6 => ?_)
      replace hw := hw q6 hq6
      refine g_istore_n X [(1, .int q6), (0, .ref (g 0 0)), (2, .int x2)] dX7_allCrossings_30 rfl (by decide) rfl ?_
      refine g_iinc X [(2, .int (x2 + 1)), (1, .int q6), (0, .ref (g 0 0))] 2 dX7_allCrossings_31 rfl rfl (by decide) rfl ?_
      refine g_goto X 4 dX7_allCrossings_34 (by decide) ?_
      refine g_sub [(0, .ref (g 0 0)), (1, .int q6), (2, .int (x2 + 1))] [2, 1, 0] rfl ?_
      exact ih _ _ _ hw

set_option maxHeartbeats 4000000 in
set_option maxRecDepth 20000 in
theorem kX7_allCrossings (l : Launch) (D : va_G) (ct : Nat → ClassId) (g : Nat → Nat → Nat) (kc : Mem) (v : Mem) (y : Mem) (post : Int32 → Mem → Prop) (hw : PX7_allCrossings kc v y post) : Ci (S := Mem) l yX7_allCrossings wsX7_allCrossings rmX7_allCrossings D (tyz ct) [.ref (g 0 0)] (fl [wC ct g kc, wS ct (g 1) v, wL ct (g 12) y]) (fun r (u9 : Mem) => post r u9) (fun u9 => fl [wC ct g kc, wS ct (g 1) v, wL ct (g 12) u9]) 0 0 := by
  intro sz
  refine g_of (own := RX7) (by decide) rfl rfl (Nat.le_of_ble_eq_true rfl) [(0, .ref (g 0 0))] rfl (fun p e s m args below meth c hsz X => ?_)
  subst hsz
  unfold PX7_allCrossings at hw
  refine g_iconst (v := 0) X rfl dX7_allCrossings_0 ?_
  refine g_istore_n X [(1, .int 0), (0, .ref (g 0 0))] dX7_allCrossings_1 rfl (by decide) rfl ?_
  refine g_iconst (v := 0) X rfl dX7_allCrossings_2 ?_
  refine g_istore_n X [(2, .int 0), (1, .int 0), (0, .ref (g 0 0))] dX7_allCrossings_3 rfl (by decide) rfl ?_
  refine g_sub [(0, .ref (g 0 0)), (1, .int 0), (2, .int 0)] [2, 1, 0] rfl ?_
  obtain ⟨n7, hw⟩ := hw
  exact kX7_allCrossings_4 l D ct g kc v post X n7 _ _ _ hw

abbrev rmX7_clearBuffer : Room := { frames := 1, cells := 0, slots := 0, locals := 21 }

abbrev GX7_clearBuffer (l : Launch) (D : va_G) (ct : Nat → ClassId) (g : Nat → Nat → Nat) (kc : Mem) (post : Int32 → Mem → Prop) (p : Program) (e : Env) (s : State) (m : MethodId) (args : Array Value) (below : List Frame) (meth : Method) (c : Code) (A : Nat → Prop) (w9 : va_W) (lv : List (Nat × Value)) (pc : Nat) (st : List Value) : Prop :=
  GG p l e rmX7_clearBuffer s m args below meth c D A s.heap 1 (MQ below (va_Qi (fun r (u9 : Mem) => post r u9) (fun u9 t9 => Af D (tyz ct) A ((fun u9 => fl [wC ct g kc, wT ct (g 11) u9]) u9) t9) A) args s 0 0 A) w9 0 0 lv pc st

set_option maxHeartbeats 4000000 in
set_option maxRecDepth 20000 in
theorem kX7_clearBuffer (l : Launch) (D : va_G) (ct : Nat → ClassId) (g : Nat → Nat → Nat) (kc : Mem) (tx : Mem) (post : Int32 → Mem → Prop) (hw : PX7_clearBuffer kc tx post) : Ci (S := Mem) l yX7_clearBuffer wsX7_clearBuffer rmX7_clearBuffer D (tyz ct) [.ref (g 0 0)] (fl [wC ct g kc, wT ct (g 11) tx]) (fun r (u9 : Mem) => post r u9) (fun u9 => fl [wC ct g kc, wT ct (g 11) u9]) 0 0 := by
  intro sz
  refine g_of (own := RX7) (by decide) rfl rfl (Nat.le_of_ble_eq_true rfl) [(0, .ref (g 0 0))] rfl (fun p e s m args below meth c hsz X => ?_)
  subst hsz
  unfold PX7_clearBuffer at hw
  refine g_aload_n X 0 dX7_clearBuffer_0 rfl rfl ?_
  refine g_get (T := TX7) (C := RX7) (N := 8) (v := .ref (g 11 0)) X 0 4 (fun _ h => (List.mem_cons_of_mem _ (List.mem_append_left _ (List.mem_append_right _ h)))) (List.mem_of_getElem? (i := 1) rfl) dX7_clearBuffer_1 rfl rfl (by decide) rfl rfl ?_
  refine g_ciV X [wC ct g kc, wT ct (g 11) tx] (fun (u2 : Mem) => [wC ct g kc, wT ct (g 11) u2]) (fun (u2 : Mem) => fl [wC ct g kc, wT ct (g 11) u2]) 2 [1] [0] 0 (kX6_empty l D ct (g 11) tx _ hw) (cwV 0 X.1.2.2.2.2 gX7_clearBuffer_X6_empty rfl rfl rfl (by decide +kernel) ⟨Nat.le_of_ble_eq_true rfl, Nat.le_of_ble_eq_true rfl⟩) dX7_clearBuffer_4 rfl rfl (Nat.le_of_ble_eq_true rfl) ⟨Nat.le_of_ble_eq_true rfl, Nat.le_of_ble_eq_true rfl⟩ rfl rfl rfl (by decide) (fun _ => rfl) (fun _ => rfl) (fun _ => rfl) (fun _ => rfl) rfl rfl rfl (fun r1 u2 hw => ?_)
  obtain ⟨tx3, htx3⟩ : ∃ z : Mem, z = u2 := ⟨_, rfl⟩
  rw [← htx3] at hw
  rw [← htx3]
  exact g_iret X tx3 hw rfl (Nat.le_of_ble_eq_true rfl) (Nat.le_of_ble_eq_true rfl) dX7_clearBuffer_7

abbrev rmX7_firstError : Room := { frames := 4, cells := 0, slots := 0, locals := 85 }

abbrev GX7_firstError (l : Launch) (D : va_G) (ct : Nat → ClassId) (g : Nat → Nat → Nat) (kc : Mem) (tx : Mem) (post : Int32 → Prop) (p : Program) (e : Env) (s : State) (m : MethodId) (args : Array Value) (below : List Frame) (meth : Method) (c : Code) (A : Nat → Prop) (w9 : va_W) (lv : List (Nat × Value)) (pc : Nat) (st : List Value) : Prop :=
  GG p l e rmX7_firstError s m args below meth c D A s.heap 1 (MQ below (va_Qi (fun r (_ : Unit) => post r) (fun u9 t9 => Af D (tyz ct) A ((fun _ => fl [wC ct g kc, wT ct (g 11) tx]) u9) t9) A) args s 0 0 A) w9 0 0 lv pc st

set_option maxHeartbeats 4000000 in
set_option maxRecDepth 20000 in
theorem kX7_firstError (l : Launch) (D : va_G) (ct : Nat → ClassId) (g : Nat → Nat → Nat) (kc : Mem) (tx : Mem) (post : Int32 → Prop) (hw : PX7_firstError kc tx post) : Ci (S := Unit) l yX7_firstError wsX7_firstError rmX7_firstError D (tyz ct) [.ref (g 0 0)] (fl [wC ct g kc, wT ct (g 11) tx]) (fun r (_ : Unit) => post r) (fun _ => fl [wC ct g kc, wT ct (g 11) tx]) 0 0 := by
  intro sz
  refine g_of (own := RX7) (by decide) rfl rfl (Nat.le_of_ble_eq_true rfl) [(0, .ref (g 0 0))] rfl (fun p e s m args below meth c hsz X => ?_)
  subst hsz
  unfold PX7_firstError at hw
  refine g_aload_n X 0 dX7_firstError_0 rfl rfl ?_
  refine g_get (T := TX7) (C := RX7) (N := 8) (v := .ref (g 11 0)) X 0 4 (fun _ h => (List.mem_cons_of_mem _ (List.mem_append_left _ (List.mem_append_right _ h)))) (List.mem_of_getElem? (i := 1) rfl) dX7_firstError_1 rfl rfl (by decide) rfl rfl ?_
  refine g_ciV X [wC ct g kc, wT ct (g 11) tx] (fun (_ : Unit) => [wC ct g kc, wT ct (g 11) tx]) (fun _ => fl [wC ct g kc, wT ct (g 11) tx]) 2 [1] [0] 0 (kX6_firstBad l D ct (g 11) tx _ hw) (cwV 0 X.1.2.2.2.2 gX7_firstError_X6_firstBad rfl rfl rfl (by decide +kernel) ⟨Nat.le_of_ble_eq_true rfl, Nat.le_of_ble_eq_true rfl⟩) dX7_firstError_4 rfl rfl (Nat.le_of_ble_eq_true rfl) ⟨Nat.le_of_ble_eq_true rfl, Nat.le_of_ble_eq_true rfl⟩ rfl rfl rfl (by decide) (fun _ => rfl) (fun _ => rfl) (fun _ => rfl) (fun _ => rfl) rfl rfl rfl (fun r1 _ hw => ?_)
  exact g_iret X () hw rfl (Nat.le_of_ble_eq_true rfl) (Nat.le_of_ble_eq_true rfl) dX7_firstError_7

abbrev rmX7_doItem : Room := { frames := 4, cells := 0, slots := 0, locals := 90 }

abbrev GX7_doItem (l : Launch) (D : va_G) (ct : Nat → ClassId) (g : Nat → Nat → Nat) (kc : Mem) (tx : Mem) (post : Int32 → Mem → Prop) (p : Program) (e : Env) (s : State) (m : MethodId) (args : Array Value) (below : List Frame) (meth : Method) (c : Code) (A : Nat → Prop) (w9 : va_W) (lv : List (Nat × Value)) (pc : Nat) (st : List Value) : Prop :=
  GG p l e rmX7_doItem s m args below meth c D A s.heap 3 (MQ below (va_Qi (fun r (u9 : Mem) => post r u9) (fun u9 t9 => Af D (tyz ct) A ((fun u9 => fl [wC ct g kc, wS ct (g 1) u9, wT ct (g 11) tx]) u9) t9) A) args s 0 0 A) w9 0 0 lv pc st

set_option maxHeartbeats 4000000 in
set_option maxRecDepth 20000 in
theorem kX7_doItem (l : Launch) (D : va_G) (ct : Nat → ClassId) (g : Nat → Nat → Nat) (kc : Mem) (v : Mem) (tx : Mem) (post : Int32 → Mem → Prop) (hw : PX7_doItem kc v tx post) : Ci (S := Mem) l yX7_doItem wsX7_doItem rmX7_doItem D (tyz ct) [.ref (g 0 0)] (fl [wC ct g kc, wS ct (g 1) v, wT ct (g 11) tx]) (fun r (u9 : Mem) => post r u9) (fun u9 => fl [wC ct g kc, wS ct (g 1) u9, wT ct (g 11) tx]) 0 0 := by
  intro sz
  refine g_of (own := RX7) (by decide) rfl rfl (Nat.le_of_ble_eq_true rfl) [(0, .ref (g 0 0))] rfl (fun p e s m args below meth c hsz X => ?_)
  subst hsz
  unfold PX7_doItem at hw
  refine g_aload_n X 0 dX7_doItem_0 rfl rfl ?_
  refine g_get (T := TX7) (C := RX7) (N := 8) (v := .ref (g 11 0)) X 0 4 (fun _ h => (List.mem_cons_of_mem _ (List.mem_append_left _ (List.mem_append_left _ (List.mem_append_right _ h))))) (List.mem_of_getElem? (i := 1) rfl) dX7_doItem_1 rfl rfl (by decide) rfl rfl ?_
  refine g_ciV X [wC ct g kc, wS ct (g 1) v, wT ct (g 11) tx] (fun (_ : Unit) => [wC ct g kc, wS ct (g 1) v, wT ct (g 11) tx]) (fun _ => fl [wC ct g kc, wS ct (g 1) v, wT ct (g 11) tx]) 3 [2] [0, 1] 0 (kX6_firstNumber l D ct (g 11) tx _ hw) (cwV 0 X.1.2.2.2.2 gX7_doItem_X6_firstNumber rfl rfl rfl (by decide +kernel) ⟨Nat.le_of_ble_eq_true rfl, Nat.le_of_ble_eq_true rfl⟩) dX7_doItem_4 rfl rfl (Nat.le_of_ble_eq_true rfl) ⟨Nat.le_of_ble_eq_true rfl, Nat.le_of_ble_eq_true rfl⟩ rfl rfl rfl (by decide) (fun _ => rfl) (fun _ => rfl) (fun _ => rfl) (fun _ => rfl) rfl rfl rfl (fun r1 _ hw => ?_)
  refine g_istore_n X [(1, .int r1), (0, .ref (g 0 0))] dX7_doItem_7 rfl (by decide) rfl ?_
  refine g_aload_n X 1 dX7_doItem_8 rfl rfl ?_
  refine g_get (T := TX7) (C := RX7) (N := 8) (v := .ref (g 11 0)) X 0 4 (fun _ h => (List.mem_cons_of_mem _ (List.mem_append_left _ (List.mem_append_left _ (List.mem_append_right _ h))))) (List.mem_of_getElem? (i := 1) rfl) dX7_doItem_9 rfl rfl (by decide) rfl rfl ?_
  refine g_ciV X [wC ct g kc, wS ct (g 1) v, wT ct (g 11) tx] (fun (_ : Unit) => [wC ct g kc, wS ct (g 1) v, wT ct (g 11) tx]) (fun _ => fl [wC ct g kc, wS ct (g 1) v, wT ct (g 11) tx]) 3 [2] [0, 1] 0 (kX6_secondNumber l D ct (g 11) tx _ hw) (cwV 0 X.1.2.2.2.2 gX7_doItem_X6_secondNumber rfl rfl rfl (by decide +kernel) ⟨Nat.le_of_ble_eq_true rfl, Nat.le_of_ble_eq_true rfl⟩) dX7_doItem_12 rfl rfl (Nat.le_of_ble_eq_true rfl) ⟨Nat.le_of_ble_eq_true rfl, Nat.le_of_ble_eq_true rfl⟩ rfl rfl rfl (by decide) (fun _ => rfl) (fun _ => rfl) (fun _ => rfl) (fun _ => rfl) rfl rfl rfl (fun r3 _ hw => ?_)
  refine g_istore_n X [(2, .int r3), (1, .int r1), (0, .ref (g 0 0))] dX7_doItem_15 rfl (by decide) rfl ?_
  refine g_aload_n X 2 dX7_doItem_16 rfl rfl ?_
  refine g_get (T := TX7) (C := RX7) (N := 8) (v := .ref (g 11 0)) X 0 4 (fun _ h => (List.mem_cons_of_mem _ (List.mem_append_left _ (List.mem_append_left _ (List.mem_append_right _ h))))) (List.mem_of_getElem? (i := 1) rfl) dX7_doItem_17 rfl rfl (by decide) rfl rfl ?_
  refine g_ciV X [wC ct g kc, wS ct (g 1) v, wT ct (g 11) tx] (fun (_ : Unit) => [wC ct g kc, wS ct (g 1) v, wT ct (g 11) tx]) (fun _ => fl [wC ct g kc, wS ct (g 1) v, wT ct (g 11) tx]) 3 [2] [0, 1] 0 (kX6_itemKind l D ct (g 11) tx _ hw) (cwV 0 X.1.2.2.2.2 gX7_doItem_X6_itemKind rfl rfl rfl (by decide +kernel) ⟨Nat.le_of_ble_eq_true rfl, Nat.le_of_ble_eq_true rfl⟩) dX7_doItem_20 rfl rfl (Nat.le_of_ble_eq_true rfl) ⟨Nat.le_of_ble_eq_true rfl, Nat.le_of_ble_eq_true rfl⟩ rfl rfl rfl (by decide) (fun _ => rfl) (fun _ => rfl) (fun _ => rfl) (fun _ => rfl) rfl rfl rfl (fun r5 _ hw => ?_)
  by_cases c7 : r5 = 1
  · replace hw := hw.1 c7
    refine g_lookup X 48 (off := 25) dX7_doItem_23 (by decide) (by first | (rw [c7]; done) | (rw [c7]; rfl)) (by decide) ?_
    refine g_aload_n X 2 dX7_doItem_48 rfl rfl ?_
    refine g_get (T := TX7) (C := RX7) (N := 8) (v := .ref (g 1 0)) X 0 0 (fun _ h => (List.mem_cons_of_mem _ (List.mem_append_left _ (List.mem_append_left _ (List.mem_append_right _ h))))) (List.mem_of_getElem? (i := 2) rfl) dX7_doItem_49 rfl rfl (by decide) rfl rfl ?_
    refine g_iload_n X 1 dX7_doItem_52 rfl rfl ?_
    refine g_ciV X [wC ct g kc, wS ct (g 1) v, wT ct (g 11) tx] (fun (_ : Unit) => [wC ct g kc, wS ct (g 1) v, wT ct (g 11) tx]) (fun _ => fl [wC ct g kc, wS ct (g 1) v, wT ct (g 11) tx]) 3 [1] [0, 2] 0 (kX5_isPerson l D ct (g 1) v r1 _ hw) (cwV 1 X.1.2.2.2.2 gX7_doItem_X5_isPerson rfl rfl rfl (by decide +kernel) ⟨Nat.le_of_ble_eq_true rfl, Nat.le_of_ble_eq_true rfl⟩) dX7_doItem_53 rfl rfl (Nat.le_of_ble_eq_true rfl) ⟨Nat.le_of_ble_eq_true rfl, Nat.le_of_ble_eq_true rfl⟩ rfl rfl rfl (by decide) (fun _ => rfl) (fun _ => rfl) (fun _ => rfl) (fun _ => rfl) rfl rfl rfl (fun r8 _ hw => ?_)
    refine g_if_eq X 93 dX7_doItem_56 (by decide) (fun c10 => ?_) (fun c10 => ?_)
    · replace hw := hw.1 c10
      refine g_iconst (v := 0) X rfl dX7_doItem_93 ?_
      exact g_zret X v isB_0 hw rfl (Nat.le_of_ble_eq_true rfl) (Nat.le_of_ble_eq_true rfl) dX7_doItem_94
    · replace hw := hw.2 c10
      refine g_aload_n X 2 dX7_doItem_59 rfl rfl ?_
      refine g_get (T := TX7) (C := RX7) (N := 8) (v := .ref (g 1 0)) X 0 0 (fun _ h => (List.mem_cons_of_mem _ (List.mem_append_left _ (List.mem_append_left _ (List.mem_append_right _ h))))) (List.mem_of_getElem? (i := 2) rfl) dX7_doItem_60 rfl rfl (by decide) rfl rfl ?_
      refine g_iload_n X 0 dX7_doItem_63 rfl rfl ?_
      refine g_ciV X [wC ct g kc, wS ct (g 1) v, wT ct (g 11) tx] (fun (_ : Unit) => [wC ct g kc, wS ct (g 1) v, wT ct (g 11) tx]) (fun _ => fl [wC ct g kc, wS ct (g 1) v, wT ct (g 11) tx]) 3 [1] [0, 2] 0 (kX5_isPerson l D ct (g 1) v r3 _ hw) (cwV 1 X.1.2.2.2.2 gX7_doItem_X5_isPerson rfl rfl rfl (by decide +kernel) ⟨Nat.le_of_ble_eq_true rfl, Nat.le_of_ble_eq_true rfl⟩) dX7_doItem_64 rfl rfl (Nat.le_of_ble_eq_true rfl) ⟨Nat.le_of_ble_eq_true rfl, Nat.le_of_ble_eq_true rfl⟩ rfl rfl rfl (by decide) (fun _ => rfl) (fun _ => rfl) (fun _ => rfl) (fun _ => rfl) rfl rfl rfl (fun r11 _ hw => ?_)
      refine g_if_eq X 93 dX7_doItem_67 (by decide) (fun c13 => ?_) (fun c13 => ?_)
      · replace hw := hw.1 c13
        refine g_iconst (v := 0) X rfl dX7_doItem_93 ?_
        exact g_zret X v isB_0 hw rfl (Nat.le_of_ble_eq_true rfl) (Nat.le_of_ble_eq_true rfl) dX7_doItem_94
      · replace hw := hw.2 c13
        refine g_iload_n X 1 dX7_doItem_70 rfl rfl ?_
        refine g_iload_n X 0 dX7_doItem_71 rfl rfl ?_
        refine g_icmp_eq X 93 dX7_doItem_72 (by decide) (fun c14 => ?_) (fun c14 => ?_)
        · replace hw := hw.1 c14
          refine g_iconst (v := 0) X rfl dX7_doItem_93 ?_
          exact g_zret X v isB_0 hw rfl (Nat.le_of_ble_eq_true rfl) (Nat.le_of_ble_eq_true rfl) dX7_doItem_94
        · replace hw := hw.2 c14
          refine g_aload_n X 2 dX7_doItem_75 rfl rfl ?_
          refine g_get (T := TX7) (C := RX7) (N := 8) (v := .ref (g 1 0)) X 0 0 (fun _ h => (List.mem_cons_of_mem _ (List.mem_append_left _ (List.mem_append_left _ (List.mem_append_right _ h))))) (List.mem_of_getElem? (i := 2) rfl) dX7_doItem_76 rfl rfl (by decide) rfl rfl ?_
          refine g_iload_n X 1 dX7_doItem_79 rfl rfl ?_
          refine g_iload_n X 0 dX7_doItem_80 rfl rfl ?_
          refine g_ciV X [wC ct g kc, wS ct (g 1) v, wT ct (g 11) tx] (fun (u16 : Mem) => [wC ct g kc, wS ct (g 1) u16, wT ct (g 11) tx]) (fun (u16 : Mem) => fl [wC ct g kc, wS ct (g 1) u16, wT ct (g 11) tx]) 3 [1] [0, 2] 0 (kX5_addCouple l D ct (g 1) v r1 r3 _ hw) (cwV 2 X.1.2.2.2.2 gX7_doItem_X5_addCouple rfl rfl rfl (by decide +kernel) ⟨Nat.le_of_ble_eq_true rfl, Nat.le_of_ble_eq_true rfl⟩) dX7_doItem_81 rfl rfl (Nat.le_of_ble_eq_true rfl) ⟨Nat.le_of_ble_eq_true rfl, Nat.le_of_ble_eq_true rfl⟩ rfl rfl rfl (by decide) (fun _ => rfl) (fun _ => rfl) (fun _ => rfl) (fun _ => rfl) rfl rfl rfl (fun r15 u16 hw => ?_)
          obtain ⟨v17, hv17⟩ : ∃ z : Mem, z = u16 := ⟨_, rfl⟩
          rw [← hv17] at hw
          rw [← hv17]
          refine g_bipush (v := 10) X rfl dX7_doItem_84 ?_
          refine g_icmp_lt X 93 dX7_doItem_86 (by decide) (fun c18 => ?_) (fun c18 => ?_)
          · replace hw := hw.1 c18
            refine g_iconst (v := 0) X rfl dX7_doItem_93 ?_
            exact g_zret X v17 isB_0 hw rfl (Nat.le_of_ble_eq_true rfl) (Nat.le_of_ble_eq_true rfl) dX7_doItem_94
          · replace hw := hw.2 c18
            refine g_iconst (v := 1) X rfl dX7_doItem_89 ?_
            refine g_goto X 94 dX7_doItem_90 (by decide) ?_
            exact g_zret X v17 isB_1 hw rfl (Nat.le_of_ble_eq_true rfl) (Nat.le_of_ble_eq_true rfl) dX7_doItem_94
  · replace hw := hw.2 c7
    by_cases c19 : r5 = 2
    · replace hw := hw.1 c19
      refine g_lookup X 95 (off := 72) dX7_doItem_23 (by decide) (by first | (rw [c19]; done) | (rw [c19]; rfl)) (by decide) ?_
      refine g_aload_n X 2 dX7_doItem_95 rfl rfl ?_
      refine g_get (T := TX7) (C := RX7) (N := 8) (v := .ref (g 1 0)) X 0 0 (fun _ h => (List.mem_cons_of_mem _ (List.mem_append_left _ (List.mem_append_left _ (List.mem_append_right _ h))))) (List.mem_of_getElem? (i := 2) rfl) dX7_doItem_96 rfl rfl (by decide) rfl rfl ?_
      refine g_iload_n X 1 dX7_doItem_99 rfl rfl ?_
      refine g_ciV X [wC ct g kc, wS ct (g 1) v, wT ct (g 11) tx] (fun (_ : Unit) => [wC ct g kc, wS ct (g 1) v, wT ct (g 11) tx]) (fun _ => fl [wC ct g kc, wS ct (g 1) v, wT ct (g 11) tx]) 3 [1] [0, 2] 0 (kX5_isCouple l D ct (g 1) v r1 _ hw) (cwV 1 X.1.2.2.2.2 gX7_doItem_X5_isCouple rfl rfl rfl (by decide +kernel) ⟨Nat.le_of_ble_eq_true rfl, Nat.le_of_ble_eq_true rfl⟩) dX7_doItem_100 rfl rfl (Nat.le_of_ble_eq_true rfl) ⟨Nat.le_of_ble_eq_true rfl, Nat.le_of_ble_eq_true rfl⟩ rfl rfl rfl (by decide) (fun _ => rfl) (fun _ => rfl) (fun _ => rfl) (fun _ => rfl) rfl rfl rfl (fun r20 _ hw => ?_)
      refine g_if_eq X 122 dX7_doItem_103 (by decide) (fun c22 => ?_) (fun c22 => ?_)
      · replace hw := hw.1 c22
        refine g_iconst (v := 0) X rfl dX7_doItem_122 ?_
        exact g_zret X v isB_0 hw rfl (Nat.le_of_ble_eq_true rfl) (Nat.le_of_ble_eq_true rfl) dX7_doItem_123
      · replace hw := hw.2 c22
        refine g_aload_n X 2 dX7_doItem_106 rfl rfl ?_
        refine g_get (T := TX7) (C := RX7) (N := 8) (v := .ref (g 1 0)) X 0 0 (fun _ h => (List.mem_cons_of_mem _ (List.mem_append_left _ (List.mem_append_left _ (List.mem_append_right _ h))))) (List.mem_of_getElem? (i := 2) rfl) dX7_doItem_107 rfl rfl (by decide) rfl rfl ?_
        refine g_iload_n X 1 dX7_doItem_110 rfl rfl ?_
        refine g_ciV X [wC ct g kc, wS ct (g 1) v, wT ct (g 11) tx] (fun (u24 : Mem) => [wC ct g kc, wS ct (g 1) u24, wT ct (g 11) tx]) (fun (u24 : Mem) => fl [wC ct g kc, wS ct (g 1) u24, wT ct (g 11) tx]) 3 [1] [0, 2] 0 (kX5_addChild l D ct (g 1) v r1 _ hw) (cwV 1 X.1.2.2.2.2 gX7_doItem_X5_addChild rfl rfl rfl (by decide +kernel) ⟨Nat.le_of_ble_eq_true rfl, Nat.le_of_ble_eq_true rfl⟩) dX7_doItem_111 rfl rfl (Nat.le_of_ble_eq_true rfl) ⟨Nat.le_of_ble_eq_true rfl, Nat.le_of_ble_eq_true rfl⟩ rfl rfl rfl (by decide) (fun _ => rfl) (fun _ => rfl) (fun _ => rfl) (fun _ => rfl) rfl rfl rfl (fun r23 u24 hw => ?_)
        obtain ⟨v25, hv25⟩ : ∃ z : Mem, z = u24 := ⟨_, rfl⟩
        rw [← hv25] at hw
        rw [← hv25]
        refine g_iconst (v := (-1)) X rfl dX7_doItem_114 ?_
        refine g_icmp_eq X 122 dX7_doItem_115 (by decide) (fun c26 => ?_) (fun c26 => ?_)
        · replace hw := hw.1 c26
          refine g_iconst (v := 0) X rfl dX7_doItem_122 ?_
          exact g_zret X v25 isB_0 hw rfl (Nat.le_of_ble_eq_true rfl) (Nat.le_of_ble_eq_true rfl) dX7_doItem_123
        · replace hw := hw.2 c26
          refine g_iconst (v := 1) X rfl dX7_doItem_118 ?_
          refine g_goto X 123 dX7_doItem_119 (by decide) ?_
          exact g_zret X v25 isB_1 hw rfl (Nat.le_of_ble_eq_true rfl) (Nat.le_of_ble_eq_true rfl) dX7_doItem_123
    · replace hw := hw.2 c19
      refine g_lookup X 124 (off := 101) dX7_doItem_23 (by decide) ((lv_osw c7 rfl).trans ((lv_osw c19 rfl).trans (rfl))) (by decide) ?_
      refine g_iload_n X 1 dX7_doItem_124 rfl rfl ?_
      refine g_ciS X [wC ct g kc, wS ct (g 1) v, wT ct (g 11) tx] (fun (_ : Unit) => [wC ct g kc, wS ct (g 1) v, wT ct (g 11) tx]) (fun _ => fl [wC ct g kc, wS ct (g 1) v, wT ct (g 11) tx]) 3 [] [0, 1, 2] (kX7_isRow l D ct  r1 _ hw) (va_cwS 1 X.1.2.2.2.2 gX7_doItem_X7_isRow rfl rfl rfl (by decide +kernel) ⟨Nat.le_of_ble_eq_true rfl, Nat.le_of_ble_eq_true rfl⟩) dX7_doItem_125 rfl rfl (Nat.le_of_ble_eq_true rfl) ⟨Nat.le_of_ble_eq_true rfl, Nat.le_of_ble_eq_true rfl⟩ rfl rfl rfl (by decide) (fun _ => rfl) (fun _ => rfl) (fun _ => rfl) (fun _ => rfl) (fun r27 _ hw => ?_)
      refine g_if_eq X 148 dX7_doItem_128 (by decide) (fun c29 => ?_) (fun c29 => ?_)
      · replace hw := hw.1 c29
        refine g_iconst (v := 0) X rfl dX7_doItem_148 ?_
        exact g_zret X v isB_0 hw rfl (Nat.le_of_ble_eq_true rfl) (Nat.le_of_ble_eq_true rfl) dX7_doItem_149
      · replace hw := hw.2 c29
        refine g_aload_n X 2 dX7_doItem_131 rfl rfl ?_
        refine g_get (T := TX7) (C := RX7) (N := 8) (v := .ref (g 1 0)) X 0 0 (fun _ h => (List.mem_cons_of_mem _ (List.mem_append_left _ (List.mem_append_left _ (List.mem_append_right _ h))))) (List.mem_of_getElem? (i := 2) rfl) dX7_doItem_132 rfl rfl (by decide) rfl rfl ?_
        refine g_iload_n X 1 dX7_doItem_135 rfl rfl ?_
        refine g_iconst (v := (-1)) X rfl dX7_doItem_136 ?_
        refine g_ciV X [wC ct g kc, wS ct (g 1) v, wT ct (g 11) tx] (fun (u31 : Mem) => [wC ct g kc, wS ct (g 1) u31, wT ct (g 11) tx]) (fun (u31 : Mem) => fl [wC ct g kc, wS ct (g 1) u31, wT ct (g 11) tx]) 3 [1] [0, 2] 0 (kX5_addPerson l D ct (g 1) v r1 ((-1)) _ hw) (cwV 2 X.1.2.2.2.2 gX7_doItem_X5_addPerson rfl rfl rfl (by decide +kernel) ⟨Nat.le_of_ble_eq_true rfl, Nat.le_of_ble_eq_true rfl⟩) dX7_doItem_137 rfl rfl (Nat.le_of_ble_eq_true rfl) ⟨Nat.le_of_ble_eq_true rfl, Nat.le_of_ble_eq_true rfl⟩ rfl rfl rfl (by decide) (fun _ => rfl) (fun _ => rfl) (fun _ => rfl) (fun _ => rfl) rfl rfl rfl (fun r30 u31 hw => ?_)
        obtain ⟨v32, hv32⟩ : ∃ z : Mem, z = u31 := ⟨_, rfl⟩
        rw [← hv32] at hw
        rw [← hv32]
        refine g_iconst (v := (-1)) X rfl dX7_doItem_140 ?_
        refine g_icmp_eq X 148 dX7_doItem_141 (by decide) (fun c33 => ?_) (fun c33 => ?_)
        · replace hw := hw.1 c33
          refine g_iconst (v := 0) X rfl dX7_doItem_148 ?_
          exact g_zret X v32 isB_0 hw rfl (Nat.le_of_ble_eq_true rfl) (Nat.le_of_ble_eq_true rfl) dX7_doItem_149
        · replace hw := hw.2 c33
          refine g_iconst (v := 1) X rfl dX7_doItem_144 ?_
          refine g_goto X 149 dX7_doItem_145 (by decide) ?_
          exact g_zret X v32 isB_1 hw rfl (Nat.le_of_ble_eq_true rfl) (Nat.le_of_ble_eq_true rfl) dX7_doItem_149

abbrev rmX7_isSlot : Room := { frames := 0, cells := 0, slots := 0, locals := 0 }

abbrev GX7_isSlot (l : Launch) (D : va_G) (ct : Nat → ClassId) (post : Int32 → Prop) (p : Program) (e : Env) (s : State) (m : MethodId) (args : Array Value) (below : List Frame) (meth : Method) (c : Code) (A : Nat → Prop) (w9 : va_W) (lv : List (Nat × Value)) (pc : Nat) (st : List Value) : Prop :=
  GG p l e rmX7_isSlot s m args below meth c D A s.heap 1 (MQ below (va_Qi (fun r (_ : Unit) => post r) (fun u9 t9 => Af D (tyz ct) A ((fun _ => ([] : va_W)) u9) t9) A) args s 0 0 A) w9 0 0 lv pc st

set_option maxHeartbeats 4000000 in
set_option maxRecDepth 20000 in
theorem kX7_isSlot (l : Launch) (D : va_G) (ct : Nat → ClassId) (p1 : Int32) (post : Int32 → Prop) (hw : PX7_isSlot p1 post) : Ci (S := Unit) l yX7_isSlot wsX7_isSlot rmX7_isSlot D (tyz ct) [.int p1] (([] : va_W)) (fun r (_ : Unit) => post r) (fun _ => ([] : va_W)) 0 0 := by
  intro sz
  refine g_of (own := RX7) (by decide) rfl rfl (Nat.le_of_ble_eq_true rfl) [(0, .int p1)] rfl (fun p e s m args below meth c hsz X => ?_)
  subst hsz
  unfold PX7_isSlot at hw
  refine g_iload_n X 0 dX7_isSlot_0 rfl rfl ?_
  refine g_if_lt X 13 dX7_isSlot_1 (by decide) (fun c1 => ?_) (fun c1 => ?_)
  · replace hw := hw.1 c1
    refine g_iconst (v := 0) X rfl dX7_isSlot_13 ?_
    exact g_zret X () isB_0 hw rfl (Nat.le_of_ble_eq_true rfl) (Nat.le_of_ble_eq_true rfl) dX7_isSlot_14
  · replace hw := hw.2 c1
    refine g_iload_n X 0 dX7_isSlot_4 rfl rfl ?_
    refine g_iconst (v := 2) X rfl dX7_isSlot_5 ?_
    refine g_icmp_ge X 13 dX7_isSlot_6 (by decide) (fun c2 => ?_) (fun c2 => ?_)
    · replace hw := hw.1 c2
      refine g_iconst (v := 0) X rfl dX7_isSlot_13 ?_
      exact g_zret X () isB_0 hw rfl (Nat.le_of_ble_eq_true rfl) (Nat.le_of_ble_eq_true rfl) dX7_isSlot_14
    · replace hw := hw.2 c2
      refine g_iconst (v := 1) X rfl dX7_isSlot_9 ?_
      refine g_goto X 14 dX7_isSlot_10 (by decide) ?_
      exact g_zret X () isB_1 hw rfl (Nat.le_of_ble_eq_true rfl) (Nat.le_of_ble_eq_true rfl) dX7_isSlot_14

abbrev rmX7_bestSwap : Room := { frames := 6, cells := 0, slots := 0, locals := 130 }

abbrev GX7_bestSwap (l : Launch) (D : va_G) (ct : Nat → ClassId) (g : Nat → Nat → Nat) (kc : Mem) (post : Int32 → Mem → Mem → Prop) (p : Program) (e : Env) (s : State) (m : MethodId) (args : Array Value) (below : List Frame) (meth : Method) (c : Code) (A : Nat → Prop) (w9 : va_W) (lv : List (Nat × Value)) (pc : Nat) (st : List Value) : Prop :=
  GG p l e rmX7_bestSwap s m args below meth c D A s.heap 6 (MQ below (va_Qi (fun r (u9 : Mem × Mem) => post r u9.1 u9.2) (fun u9 t9 => Af D (tyz ct) A ((fun u9 => fl [wC ct g kc, wS ct (g 1) u9.1, wL ct (g 12) u9.2]) u9) t9) A) args s 0 0 A) w9 0 0 lv pc st

set_option maxHeartbeats 4000000 in
set_option maxRecDepth 20000 in
theorem kX7_bestSwap_17 (l : Launch) (D : va_G) (ct : Nat → ClassId) (g : Nat → Nat → Nat) (kc : Mem) (post : Int32 → Mem → Mem → Prop) (K9 : Mem → Mem → Int32 → Int32 → Int32 → Prop) {p : Program} {e : Env} {s : State} {m : MethodId} {args : Array Value} {below : List Frame} {meth : Method} {c : Code} {A : Nat → Prop} (X : Cx p s m args meth c cX7_bestSwap 6 RX7 wsX7_bestSwap D (tyz ct) A s.heap (some .int)) (hK9 : ∀ (v : Mem) (y : Mem) (x1 : Int32) (x2 : Int32) (x3 : Int32), K9 v y x1 x2 x3 → GX7_bestSwap l D ct g kc post p e s m args below meth c A (fl [wC ct g kc, wS ct (g 1) v, wL ct (g 12) y]) [(0, .ref (g 0 0)), (1, .int x1), (2, .int x2), (3, .int x3)] 9 []) :
    ∀ (n : Nat) (v : Mem) (y : Mem) (x1 : Int32) (x2 : Int32) (x3 : Int32) (x4 : Int32), PX7_bestSwap_17 kc post K9 n v y x1 x2 x3 x4 → GX7_bestSwap l D ct g kc post p e s m args below meth c A (fl [wC ct g kc, wS ct (g 1) v, wL ct (g 12) y]) [(0, .ref (g 0 0)), (1, .int x1), (2, .int x2), (3, .int x3), (4, .int x4)] 17 [] := by
  intro n
  induction n with
  | zero =>
    intro v y x1 x2 x3 x4 hw
    exact hw.elim
  | succ n ih =>
    intro v y x1 x2 x3 x4 hw
    unfold PX7_bestSwap_17 at hw
    refine g_iload X 4 dX7_bestSwap_17 rfl ?_
    refine g_aload_n X 0 dX7_bestSwap_19 rfl rfl ?_
    refine g_get (T := TX7) (C := RX7) (N := 8) (v := .ref (g 1 0)) X 0 0 (fun _ h => (List.mem_cons_of_mem _ (List.mem_append_left _ (List.mem_append_left _ (List.mem_append_right _ h))))) (List.mem_of_getElem? (i := 1) rfl) dX7_bestSwap_20 rfl rfl (by decide) rfl rfl ?_
    refine g_iload_n X 3 dX7_bestSwap_23 rfl rfl ?_
    refine g_ciV X [wC ct g kc, wS ct (g 1) v, wL ct (g 12) y] (fun (_ : Unit) => [wC ct g kc, wS ct (g 1) v, wL ct (g 12) y]) (fun _ => fl [wC ct g kc, wS ct (g 1) v, wL ct (g 12) y]) 3 [1] [0, 2] 0 (kX5_sizeOf l D ct (g 1) v x3 _ hw) (cwV 1 X.1.2.2.2.2 gX7_bestSwap_X5_sizeOf rfl rfl rfl (by decide +kernel) ⟨Nat.le_of_ble_eq_true rfl, Nat.le_of_ble_eq_true rfl⟩) dX7_bestSwap_24 rfl rfl (Nat.le_of_ble_eq_true rfl) ⟨Nat.le_of_ble_eq_true rfl, Nat.le_of_ble_eq_true rfl⟩ rfl rfl rfl (by decide) (fun _ => rfl) (fun _ => rfl) (fun _ => rfl) (fun _ => rfl) rfl rfl rfl (fun r5 _ hw => ?_)
    refine g_iconst (v := 1) X rfl dX7_bestSwap_27 ?_
    refine g_isub X dX7_bestSwap_28 ?_
    refine g_icmp_ge X 81 dX7_bestSwap_29 (by decide) (fun c7 => ?_) (fun c7 => ?_)
    · replace hw := hw.1 c7
      refine g_iinc X [(3, .int (x3 + 1)), (0, .ref (g 0 0)), (1, .int x1), (2, .int x2), (4, .int x4)] 3 dX7_bestSwap_81 rfl rfl (by decide) rfl ?_
      refine g_goto X 9 dX7_bestSwap_84 (by decide) ?_
      refine g_sub [(0, .ref (g 0 0)), (1, .int x1), (2, .int x2), (3, .int (x3 + 1))] [1, 2, 3, 0] rfl ?_
      exact hK9 _ _ _ _ _ hw
    · replace hw := hw.2 c7
      refine g_aload_n X 0 dX7_bestSwap_32 rfl rfl ?_
      refine g_get (T := TX7) (C := RX7) (N := 8) (v := .ref (g 1 0)) X 0 0 (fun _ h => (List.mem_cons_of_mem _ (List.mem_append_left _ (List.mem_append_left _ (List.mem_append_right _ h))))) (List.mem_of_getElem? (i := 1) rfl) dX7_bestSwap_33 rfl rfl (by decide) rfl rfl ?_
      refine g_iload_n X 3 dX7_bestSwap_36 rfl rfl ?_
      refine g_iload X 4 dX7_bestSwap_37 rfl ?_
      refine g_cvV X [wC ct g kc, wS ct (g 1) v, wL ct (g 12) y] (fun (u8 : Mem) => [wC ct g kc, wS ct (g 1) u8, wL ct (g 12) y]) (fun (u8 : Mem) => fl [wC ct g kc, wS ct (g 1) u8, wL ct (g 12) y]) 3 [1] [0, 2] 0 (kX5_exchange l D ct (g 1) v x3 x4 _ hw) (cwV 2 X.1.2.2.2.2 gX7_bestSwap_X5_exchange rfl rfl rfl (by decide +kernel) ⟨Nat.le_of_ble_eq_true rfl, Nat.le_of_ble_eq_true rfl⟩) dX7_bestSwap_39 rfl rfl (Nat.le_of_ble_eq_true rfl) ⟨Nat.le_of_ble_eq_true rfl, Nat.le_of_ble_eq_true rfl⟩ rfl rfl rfl (by decide) (fun _ => rfl) (fun _ => rfl) (fun _ => rfl) (fun _ => rfl) rfl rfl rfl (fun u8 hw => ?_)
      obtain ⟨v9, hv9⟩ : ∃ z : Mem, z = u8 := ⟨_, rfl⟩
      rw [← hv9] at hw
      rw [← hv9]
      refine g_aload_n X 0 dX7_bestSwap_42 rfl rfl ?_
      refine g_ciV X [wC ct g kc, wS ct (g 1) v9, wL ct (g 12) y] (fun (u11 : Mem) => [wC ct g kc, wS ct (g 1) v9, wL ct (g 12) u11]) (fun (u11 : Mem) => fl [wC ct g kc, wS ct (g 1) v9, wL ct (g 12) u11]) 3 [0, 1, 2] [] 0 (kX7_allCrossings l D ct g kc v9 y _ hw) (cwV 0 X.1.2.2.2.2 gX7_bestSwap_X7_allCrossings rfl rfl rfl (by decide +kernel) ⟨Nat.le_of_ble_eq_true rfl, Nat.le_of_ble_eq_true rfl⟩) dX7_bestSwap_43 rfl rfl (Nat.le_of_ble_eq_true rfl) ⟨Nat.le_of_ble_eq_true rfl, Nat.le_of_ble_eq_true rfl⟩ rfl rfl rfl (by decide) (fun _ => rfl) (fun _ => rfl) (fun _ => rfl) (fun _ => rfl) rfl rfl rfl (fun r10 u11 hw => ?_)
      obtain ⟨y12, hy12⟩ : ∃ z : Mem, z = u11 := ⟨_, rfl⟩
      rw [← hy12] at hw
      rw [← hy12]
      refine g_istore X [(5, .int r10), (0, .ref (g 0 0)), (1, .int x1), (2, .int x2), (3, .int x3), (4, .int x4)] dX7_bestSwap_46 (by decide) rfl ?_
      refine g_aload_n X 1 dX7_bestSwap_48 rfl rfl ?_
      refine g_get (T := TX7) (C := RX7) (N := 8) (v := .ref (g 1 0)) X 0 0 (fun _ h => (List.mem_cons_of_mem _ (List.mem_append_left _ (List.mem_append_left _ (List.mem_append_right _ h))))) (List.mem_of_getElem? (i := 1) rfl) dX7_bestSwap_49 rfl rfl (by decide) rfl rfl ?_
      refine g_iload_n X 4 dX7_bestSwap_52 rfl rfl ?_
      refine g_iload X 5 dX7_bestSwap_53 rfl ?_
      refine g_cvV X [wC ct g kc, wS ct (g 1) v9, wL ct (g 12) y12] (fun (u13 : Mem) => [wC ct g kc, wS ct (g 1) u13, wL ct (g 12) y12]) (fun (u13 : Mem) => fl [wC ct g kc, wS ct (g 1) u13, wL ct (g 12) y12]) 3 [1] [0, 2] 0 (kX5_exchange l D ct (g 1) v9 x3 x4 _ hw) (cwV 2 X.1.2.2.2.2 gX7_bestSwap_X5_exchange rfl rfl rfl (by decide +kernel) ⟨Nat.le_of_ble_eq_true rfl, Nat.le_of_ble_eq_true rfl⟩) dX7_bestSwap_55 rfl rfl (Nat.le_of_ble_eq_true rfl) ⟨Nat.le_of_ble_eq_true rfl, Nat.le_of_ble_eq_true rfl⟩ rfl rfl rfl (by decide) (fun _ => rfl) (fun _ => rfl) (fun _ => rfl) (fun _ => rfl) rfl rfl rfl (fun u13 hw => ?_)
      obtain ⟨v14, hv14⟩ : ∃ z : Mem, z = u13 := ⟨_, rfl⟩
      rw [← hv14] at hw
      rw [← hv14]
      refine g_iload X 0 dX7_bestSwap_58 rfl ?_
      refine g_iload_n X 2 dX7_bestSwap_60 rfl rfl ?_
      refine g_icmp_ge X 75 dX7_bestSwap_61 (by decide) (fun c15 => ?_) (fun c15 => ?_)
      · replace hw := hw.1 c15
        refine g_iinc X [(4, .int (x4 + 1)), (5, .int r10), (0, .ref (g 0 0)), (1, .int x1), (2, .int x2), (3, .int x3)] 5 dX7_bestSwap_75 rfl rfl (by decide) rfl ?_
        refine g_goto X 17 dX7_bestSwap_78 (by decide) ?_
        refine g_sub [(0, .ref (g 0 0)), (1, .int x1), (2, .int x2), (3, .int x3), (4, .int (x4 + 1))] [2, 3, 4, 5, 0] rfl ?_
        exact ih _ _ _ _ _ _ hw
      · replace hw := hw.2 c15
        refine g_iload X 0 dX7_bestSwap_64 rfl ?_
        refine g_istore_n X [(1, .int r10), (5, .int r10), (0, .ref (g 0 0)), (2, .int x2), (3, .int x3), (4, .int x4)] dX7_bestSwap_66 rfl (by decide) rfl ?_
        refine g_bipush (v := 10) X rfl dX7_bestSwap_67 ?_
        refine g_iload_n X 4 dX7_bestSwap_69 rfl rfl ?_
        refine g_imul X dX7_bestSwap_70 ?_
        refine g_iload X 5 dX7_bestSwap_71 rfl ?_
        refine g_iadd X dX7_bestSwap_73 ?_
        refine g_topi (fun q16 hq16 => ?_)
        replace hw := hw q16 hq16
        refine g_istore_n X [(2, .int q16), (1, .int r10), (5, .int r10), (0, .ref (g 0 0)), (3, .int x3), (4, .int x4)] dX7_bestSwap_74 rfl (by decide) rfl ?_
        refine g_iinc X [(4, .int (x4 + 1)), (2, .int q16), (1, .int r10), (5, .int r10), (0, .ref (g 0 0)), (3, .int x3)] 5 dX7_bestSwap_75 rfl rfl (by decide) rfl ?_
        refine g_goto X 17 dX7_bestSwap_78 (by decide) ?_
        refine g_sub [(0, .ref (g 0 0)), (1, .int r10), (2, .int q16), (3, .int x3), (4, .int (x4 + 1))] [4, 2, 1, 5, 0] rfl ?_
        exact ih _ _ _ _ _ _ hw

set_option maxHeartbeats 4000000 in
set_option maxRecDepth 20000 in
theorem kX7_bestSwap_9 (l : Launch) (D : va_G) (ct : Nat → ClassId) (g : Nat → Nat → Nat) (kc : Mem) (post : Int32 → Mem → Mem → Prop) {p : Program} {e : Env} {s : State} {m : MethodId} {args : Array Value} {below : List Frame} {meth : Method} {c : Code} {A : Nat → Prop} (X : Cx p s m args meth c cX7_bestSwap 6 RX7 wsX7_bestSwap D (tyz ct) A s.heap (some .int))  :
    ∀ (n : Nat) (v : Mem) (y : Mem) (x1 : Int32) (x2 : Int32) (x3 : Int32), PX7_bestSwap_9 kc post n v y x1 x2 x3 → GX7_bestSwap l D ct g kc post p e s m args below meth c A (fl [wC ct g kc, wS ct (g 1) v, wL ct (g 12) y]) [(0, .ref (g 0 0)), (1, .int x1), (2, .int x2), (3, .int x3)] 9 [] := by
  intro n
  induction n with
  | zero =>
    intro v y x1 x2 x3 hw
    exact hw.elim
  | succ n ih =>
    intro v y x1 x2 x3 hw
    unfold PX7_bestSwap_9 at hw
    refine g_iload_n X 3 dX7_bestSwap_9 rfl rfl ?_
    refine g_iconst (v := 4) X rfl dX7_bestSwap_10 ?_
    refine g_icmp_ge X 87 dX7_bestSwap_11 (by decide) (fun c4 => ?_) (fun c4 => ?_)
    · replace hw := hw.1 c4
      refine g_iload_n X 2 dX7_bestSwap_87 rfl rfl ?_
      exact g_iret X (v, y) hw rfl (Nat.le_of_ble_eq_true rfl) (Nat.le_of_ble_eq_true rfl) dX7_bestSwap_88
    · replace hw := hw.2 c4
      refine g_iconst (v := 0) X rfl dX7_bestSwap_14 ?_
      refine g_istore X [(4, .int 0), (0, .ref (g 0 0)), (1, .int x1), (2, .int x2), (3, .int x3)] dX7_bestSwap_15 (by decide) rfl ?_
      refine g_sub [(0, .ref (g 0 0)), (1, .int x1), (2, .int x2), (3, .int x3), (4, .int 0)] [1, 2, 3, 4, 0] rfl ?_
      obtain ⟨n17, hw⟩ := hw
      exact kX7_bestSwap_17 l D ct g kc post _ X ih n17 _ _ _ _ _ _ hw

set_option maxHeartbeats 4000000 in
set_option maxRecDepth 20000 in
theorem kX7_bestSwap (l : Launch) (D : va_G) (ct : Nat → ClassId) (g : Nat → Nat → Nat) (kc : Mem) (v : Mem) (y : Mem) (post : Int32 → Mem → Mem → Prop) (hw : PX7_bestSwap kc v y post) : Ci (S := Mem × Mem) l yX7_bestSwap wsX7_bestSwap rmX7_bestSwap D (tyz ct) [.ref (g 0 0)] (fl [wC ct g kc, wS ct (g 1) v, wL ct (g 12) y]) (fun r (u9 : Mem × Mem) => post r u9.1 u9.2) (fun u9 => fl [wC ct g kc, wS ct (g 1) u9.1, wL ct (g 12) u9.2]) 0 0 := by
  intro sz
  refine g_of (own := RX7) (by decide) rfl rfl (Nat.le_of_ble_eq_true rfl) [(0, .ref (g 0 0))] rfl (fun p e s m args below meth c hsz X => ?_)
  subst hsz
  unfold PX7_bestSwap at hw
  refine g_aload_n X 0 dX7_bestSwap_0 rfl rfl ?_
  refine g_ciV X [wC ct g kc, wS ct (g 1) v, wL ct (g 12) y] (fun (u2 : Mem) => [wC ct g kc, wS ct (g 1) v, wL ct (g 12) u2]) (fun (u2 : Mem) => fl [wC ct g kc, wS ct (g 1) v, wL ct (g 12) u2]) 3 [0, 1, 2] [] 0 (kX7_allCrossings l D ct g kc v y _ hw) (cwV 0 X.1.2.2.2.2 gX7_bestSwap_X7_allCrossings rfl rfl rfl (by decide +kernel) ⟨Nat.le_of_ble_eq_true rfl, Nat.le_of_ble_eq_true rfl⟩) dX7_bestSwap_1 rfl rfl (Nat.le_of_ble_eq_true rfl) ⟨Nat.le_of_ble_eq_true rfl, Nat.le_of_ble_eq_true rfl⟩ rfl rfl rfl (by decide) (fun _ => rfl) (fun _ => rfl) (fun _ => rfl) (fun _ => rfl) rfl rfl rfl (fun r1 u2 hw => ?_)
  obtain ⟨y3, hy3⟩ : ∃ z : Mem, z = u2 := ⟨_, rfl⟩
  rw [← hy3] at hw
  rw [← hy3]
  refine g_istore_n X [(1, .int r1), (0, .ref (g 0 0))] dX7_bestSwap_4 rfl (by decide) rfl ?_
  refine g_iconst (v := (-1)) X rfl dX7_bestSwap_5 ?_
  refine g_istore_n X [(2, .int ((-1))), (1, .int r1), (0, .ref (g 0 0))] dX7_bestSwap_6 rfl (by decide) rfl ?_
  refine g_iconst (v := 0) X rfl dX7_bestSwap_7 ?_
  refine g_istore_n X [(3, .int 0), (2, .int ((-1))), (1, .int r1), (0, .ref (g 0 0))] dX7_bestSwap_8 rfl (by decide) rfl ?_
  refine g_sub [(0, .ref (g 0 0)), (1, .int r1), (2, .int ((-1))), (3, .int 0)] [3, 2, 1, 0] rfl ?_
  obtain ⟨n18, hw⟩ := hw
  exact kX7_bestSwap_9 l D ct g kc post X n18 _ _ _ _ _ hw

abbrev rmX7_straightShare : Room := { frames := 5, cells := 0, slots := 0, locals := 106 }

abbrev GX7_straightShare (l : Launch) (D : va_G) (ct : Nat → ClassId) (g : Nat → Nat → Nat) (kc : Mem) (v : Mem) (post : UInt64 → Prop) (p : Program) (e : Env) (s : State) (m : MethodId) (args : Array Value) (below : List Frame) (meth : Method) (c : Code) (A : Nat → Prop) (w9 : va_W) (lv : List (Nat × Value)) (pc : Nat) (st : List Value) : Prop :=
  GG p l e rmX7_straightShare s m args below meth c D A s.heap 2 (MQ below (va_Qd (fun r (_ : Unit) => post r) (fun u9 t9 => Af D (tyz ct) A ((fun _ => fl [wC ct g kc, wS ct (g 1) v]) u9) t9) A) args s 0 0 A) w9 0 0 lv pc st

set_option maxHeartbeats 4000000 in
set_option maxRecDepth 20000 in
theorem kX7_straightShare (l : Launch) (D : va_G) (ct : Nat → ClassId) (g : Nat → Nat → Nat) (kc : Mem) (v : Mem) (post : UInt64 → Prop) (hw : PX7_straightShare kc v post) : Cd (S := Unit) l yX7_straightShare wsX7_straightShare rmX7_straightShare D (tyz ct) [.ref (g 0 0)] (fl [wC ct g kc, wS ct (g 1) v]) (fun r (_ : Unit) => post r) (fun _ => fl [wC ct g kc, wS ct (g 1) v]) 0 0 := by
  intro sz
  refine g_of (own := RX7) (by decide) rfl rfl (Nat.le_of_ble_eq_true rfl) [(0, .ref (g 0 0))] rfl (fun p e s m args below meth c hsz X => ?_)
  subst hsz
  unfold PX7_straightShare at hw
  refine g_aload_n X 0 dX7_straightShare_0 rfl rfl ?_
  refine g_get (T := TX7) (C := RX7) (N := 8) (v := .ref (g 1 0)) X 0 0 (fun _ h => (List.mem_cons_of_mem _ (List.mem_append_left _ (List.mem_append_right _ h)))) (List.mem_of_getElem? (i := 1) rfl) dX7_straightShare_1 rfl rfl (by decide) rfl rfl ?_
  refine g_ciV X [wC ct g kc, wS ct (g 1) v] (fun (_ : Unit) => [wC ct g kc, wS ct (g 1) v]) (fun _ => fl [wC ct g kc, wS ct (g 1) v]) 2 [1] [0] 0 (kX5_lines l D ct (g 1) v _ hw) (cwV 0 X.1.2.2.2.2 gX7_straightShare_X5_lines rfl rfl rfl (by decide +kernel) ⟨Nat.le_of_ble_eq_true rfl, Nat.le_of_ble_eq_true rfl⟩) dX7_straightShare_4 rfl rfl (Nat.le_of_ble_eq_true rfl) ⟨Nat.le_of_ble_eq_true rfl, Nat.le_of_ble_eq_true rfl⟩ rfl rfl rfl (by decide) (fun _ => rfl) (fun _ => rfl) (fun _ => rfl) (fun _ => rfl) rfl rfl rfl (fun r1 _ hw => ?_)
  refine g_istore_n X [(1, .int r1), (0, .ref (g 0 0))] dX7_straightShare_7 rfl (by decide) rfl ?_
  refine g_iload_n X 0 dX7_straightShare_8 rfl rfl ?_
  refine g_if_ne X 14 dX7_straightShare_9 (by decide) (fun c3 => ?_) (fun c3 => ?_)
  · replace hw := hw.1 c3
    refine g_iload_n X 0 dX7_straightShare_14 rfl rfl ?_
    refine g_aload_n X 1 dX7_straightShare_15 rfl rfl ?_
    refine g_get (T := TX7) (C := RX7) (N := 8) (v := .ref (g 1 0)) X 0 0 (fun _ h => (List.mem_cons_of_mem _ (List.mem_append_left _ (List.mem_append_right _ h)))) (List.mem_of_getElem? (i := 1) rfl) dX7_straightShare_16 rfl rfl (by decide) rfl rfl ?_
    refine g_ciV X [wC ct g kc, wS ct (g 1) v] (fun (_ : Unit) => [wC ct g kc, wS ct (g 1) v]) (fun _ => fl [wC ct g kc, wS ct (g 1) v]) 2 [1] [0] 0 (kX5_bentLines l D ct (g 1) v _ hw) (cwV 0 X.1.2.2.2.2 gX7_straightShare_X5_bentLines rfl rfl rfl (by decide +kernel) ⟨Nat.le_of_ble_eq_true rfl, Nat.le_of_ble_eq_true rfl⟩) dX7_straightShare_19 rfl rfl (Nat.le_of_ble_eq_true rfl) ⟨Nat.le_of_ble_eq_true rfl, Nat.le_of_ble_eq_true rfl⟩ rfl rfl rfl (by decide) (fun _ => rfl) (fun _ => rfl) (fun _ => rfl) (fun _ => rfl) rfl rfl rfl (fun r4 _ hw => ?_)
    refine g_isub X dX7_straightShare_22 ?_
    refine g_i2d X dX7_straightShare_23 ?_
    refine g_iload_n X 0 dX7_straightShare_24 rfl rfl ?_
    refine g_i2d X dX7_straightShare_25 ?_
    obtain ⟨h6, hw⟩ := hw
    refine g_ddiv X h6 dX7_straightShare_26 ?_
    exact g_dret X () hw rfl (Nat.le_of_ble_eq_true rfl) (Nat.le_of_ble_eq_true rfl) dX7_straightShare_27
  · replace hw := hw.2 c3
    refine g_dconst1 X dX7_straightShare_12 ?_
    exact g_dret X () hw rfl (Nat.le_of_ble_eq_true rfl) (Nat.le_of_ble_eq_true rfl) dX7_straightShare_13

abbrev rmX7_bitsOfShare : Room := { frames := 0, cells := 0, slots := 0, locals := 0 }

abbrev GX7_bitsOfShare (l : Launch) (D : va_G) (ct : Nat → ClassId) (post : Int64 → Prop) (p : Program) (e : Env) (s : State) (m : MethodId) (args : Array Value) (below : List Frame) (meth : Method) (c : Code) (A : Nat → Prop) (w9 : va_W) (lv : List (Nat × Value)) (pc : Nat) (st : List Value) : Prop :=
  GG p l e rmX7_bitsOfShare s m args below meth c D A s.heap 7 (MQ below (va_Ql (fun r (_ : Unit) => post r) (fun u9 t9 => Af D (tyz ct) A ((fun _ => ([] : va_W)) u9) t9) A) args s 0 0 A) w9 0 0 lv pc st

set_option maxHeartbeats 4000000 in
set_option maxRecDepth 20000 in
theorem kX7_bitsOfShare_39 (l : Launch) (D : va_G) (ct : Nat → ClassId) (post : Int64 → Prop) {p : Program} {e : Env} {s : State} {m : MethodId} {args : Array Value} {below : List Frame} {meth : Method} {c : Code} {A : Nat → Prop} (X : Cx p s m args meth c cX7_bitsOfShare 7 RX7 wsX7_bitsOfShare D (tyz ct) A s.heap (some .long))  :
    ∀ (x2 : UInt64) (x4 : Int32), PX7_bitsOfShare_39 post x2 x4 → GX7_bitsOfShare l D ct   post p e s m args below meth c A (([] : va_W)) [(2, .double x2), (4, .int x4)] 39 [] := by
  intro x2 x4 hw
  unfold PX7_bitsOfShare_39 at hw
  refine g_dload_n X 0 dX7_bitsOfShare_39 rfl rfl ?_
  refine g_dconst1 X dX7_bitsOfShare_40 ?_
  obtain ⟨h3, hw⟩ := hw
  refine g_dsub X h3 dX7_bitsOfShare_41 ?_
  refine g_ldc2d (v := (4841369599423283200)) X (List.mem_of_getElem? (i := 2) rfl) dX7_bitsOfShare_42 ?_
  obtain ⟨h4, hw⟩ := hw
  refine g_dmul X h4 dX7_bitsOfShare_45 ?_
  refine g_d2l X dX7_bitsOfShare_46 ?_
  refine g_topl (fun q5 hq5 => ?_)
  replace hw := hw q5 hq5
  refine g_lstore X [(5, .long q5), (2, .double x2), (4, .int x4)] dX7_bitsOfShare_47 (by decide) rfl ?_
  refine g_iload X 2 dX7_bitsOfShare_49 rfl ?_
  refine g_i2l X dX7_bitsOfShare_51 ?_
  refine g_bipush (v := 52) X rfl dX7_bitsOfShare_52 ?_
  refine g_lshl X dX7_bitsOfShare_54 ?_
  refine g_lload X 0 dX7_bitsOfShare_55 rfl ?_
  refine g_lor X dX7_bitsOfShare_57 ?_
  exact g_lret X () hw rfl (Nat.le_of_ble_eq_true rfl) (Nat.le_of_ble_eq_true rfl) dX7_bitsOfShare_58

set_option maxHeartbeats 4000000 in
set_option maxRecDepth 20000 in
theorem kX7_bitsOfShare_15 (l : Launch) (D : va_G) (ct : Nat → ClassId) (post : Int64 → Prop) {p : Program} {e : Env} {s : State} {m : MethodId} {args : Array Value} {below : List Frame} {meth : Method} {c : Code} {A : Nat → Prop} (X : Cx p s m args meth c cX7_bitsOfShare 7 RX7 wsX7_bitsOfShare D (tyz ct) A s.heap (some .long))  :
    ∀ (n : Nat) (x2 : UInt64) (x4 : Int32), PX7_bitsOfShare_15 post n x2 x4 → GX7_bitsOfShare l D ct   post p e s m args below meth c A (([] : va_W)) [(2, .double x2), (4, .int x4)] 15 [] := by
  intro n
  induction n with
  | zero =>
    intro x2 x4 hw
    exact hw.elim
  | succ n ih =>
    intro x2 x4 hw
    unfold PX7_bitsOfShare_15 at hw
    refine g_dload_n X 0 dX7_bitsOfShare_15 rfl rfl ?_
    refine g_dconst1 X dX7_bitsOfShare_16 ?_
    refine g_dcmp X dX7_bitsOfShare_17 ?_
    refine g_if_ge X 39 dX7_bitsOfShare_18 (by decide) (fun c2 => ?_) (fun c2 => ?_)
    · replace hw := hw.1 c2
      refine g_sub [(2, .double x2), (4, .int x4)] [0, 1] rfl ?_
      exact kX7_bitsOfShare_39 l D ct post X _ _ hw
    · replace hw := hw.2 c2
      refine g_iload X 1 dX7_bitsOfShare_21 rfl ?_
      refine g_iconst (v := 1) X rfl dX7_bitsOfShare_23 ?_
      refine g_icmp_le X 39 dX7_bitsOfShare_24 (by decide) (fun c6 => ?_) (fun c6 => ?_)
      · replace hw := hw.1 c6
        refine g_sub [(2, .double x2), (4, .int x4)] [0, 1] rfl ?_
        exact kX7_bitsOfShare_39 l D ct post X _ _ hw
      · replace hw := hw.2 c6
        refine g_dload_n X 0 dX7_bitsOfShare_27 rfl rfl ?_
        refine g_ldc2d (v := (4611686018427387904)) X (List.mem_of_getElem? (i := 1) rfl) dX7_bitsOfShare_28 ?_
        obtain ⟨h7, hw⟩ := hw
        refine g_dmul X h7 dX7_bitsOfShare_31 ?_
        refine g_topd (fun q8 hq8 => ?_)
        replace hw := hw q8 hq8
        refine g_dstore_n X [(2, .double q8), (4, .int x4)] dX7_bitsOfShare_32 rfl (by decide) rfl ?_
        refine g_iinc X [(4, .int (x4 + (-1))), (2, .double q8)] 1 dX7_bitsOfShare_33 rfl rfl (by decide) rfl ?_
        refine g_goto X 15 dX7_bitsOfShare_36 (by decide) ?_
        refine g_sub [(2, .double q8), (4, .int (x4 + (-1)))] [1, 0] rfl ?_
        exact ih _ _ hw

set_option maxHeartbeats 4000000 in
set_option maxRecDepth 20000 in
theorem kX7_bitsOfShare (l : Launch) (D : va_G) (ct : Nat → ClassId) (p1 : UInt64) (post : Int64 → Prop) (hw : PX7_bitsOfShare p1 post) : Cl (S := Unit) l yX7_bitsOfShare wsX7_bitsOfShare rmX7_bitsOfShare D (tyz ct) [.double p1] (([] : va_W)) (fun r (_ : Unit) => post r) (fun _ => ([] : va_W)) 0 0 := by
  intro sz
  refine g_of (own := RX7) (by decide) rfl rfl (Nat.le_of_ble_eq_true rfl) [(0, .double p1)] rfl (fun p e s m args below meth c hsz X => ?_)
  subst hsz
  unfold PX7_bitsOfShare at hw
  refine g_dload_n X 0 dX7_bitsOfShare_0 rfl rfl ?_
  refine g_dconst0 X dX7_bitsOfShare_1 ?_
  refine g_dcmp X dX7_bitsOfShare_2 ?_
  refine g_if_gt X 8 dX7_bitsOfShare_3 (by decide) (fun c1 => ?_) (fun c1 => ?_)
  · replace hw := hw.1 c1
    refine g_dload_n X 0 dX7_bitsOfShare_8 rfl rfl ?_
    refine g_dstore_n X [(2, .double p1), (0, .double p1)] dX7_bitsOfShare_9 rfl (by decide) rfl ?_
    refine g_sipush (v := 1023) X rfl dX7_bitsOfShare_10 ?_
    refine g_istore X [(4, .int 1023), (2, .double p1), (0, .double p1)] dX7_bitsOfShare_13 (by decide) rfl ?_
    refine g_sub [(2, .double p1), (4, .int 1023)] [1, 0] rfl ?_
    obtain ⟨n9, hw⟩ := hw
    exact kX7_bitsOfShare_15 l D ct post X n9 _ _ hw
  · replace hw := hw.2 c1
    refine g_lconst (v := 0) X rfl dX7_bitsOfShare_6 ?_
    exact g_lret X () hw rfl (Nat.le_of_ble_eq_true rfl) (Nat.le_of_ble_eq_true rfl) dX7_bitsOfShare_7
