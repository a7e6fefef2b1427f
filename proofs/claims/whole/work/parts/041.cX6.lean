abbrev rmX6_length : Room := { frames := 0, cells := 0, slots := 0, locals := 0 }

abbrev GX6_length (l : Launch) (D : va_G) (ct : Nat → ClassId) (a : Nat → Nat) (tx : Mem) (post : Int32 → Prop) (p : Program) (e : Env) (s : State) (m : MethodId) (args : Array Value) (below : List Frame) (meth : Method) (c : Code) (A : Nat → Prop) (w9 : va_W) (lv : List (Nat × Value)) (pc : Nat) (st : List Value) : Prop :=
  GG p l e rmX6_length s m args below meth c D A s.heap 1 (MQ below (va_Qi (fun r (_ : Unit) => post r) (fun u9 t9 => Af D (tyz ct) A ((fun _ => wT ct a tx) u9) t9) A)  args s 0 0 A) w9 0 0 lv pc st

set_option maxHeartbeats 4000000 in
set_option maxRecDepth 20000 in
theorem kX6_length (l : Launch) (D : va_G) (ct : Nat → ClassId) (a : Nat → Nat) (tx : Mem) (post : Int32 → Prop) (hw : PX6_length tx post) : Ci (S := Unit) l yX6_length wsX6_length rmX6_length D (tyz ct) [.ref (a 0)] (wT ct a tx) (fun r (_ : Unit) => post r) (fun _ => wT ct a tx) 0 0 := by
  intro sz
  refine g_of (own := RX6) (by decide) rfl rfl (Nat.le_of_ble_eq_true rfl) [(0, .ref (a 0))] rfl (fun p e s m args below meth c hsz X => ?_)
  subst hsz
  unfold PX6_length at hw
  refine g_aload_n X 0 dX6_length_0 rfl rfl ?_
  refine g_get (T := TX6) (C := RX6) (N := 6) (v := .int (tx 1 0)) X 0 1 (fun _ h => (List.mem_cons_of_mem _ (List.mem_append_right _ h))) (List.mem_of_getElem? (i := 1) rfl) dX6_length_1 rfl rfl (by decide) rfl rfl ?_
  exact g_iret X () hw rfl (Nat.le_of_ble_eq_true rfl) (Nat.le_of_ble_eq_true rfl) dX6_length_4

abbrev rmX6_isFull : Room := { frames := 0, cells := 0, slots := 0, locals := 0 }

abbrev GX6_isFull (l : Launch) (D : va_G) (ct : Nat → ClassId) (a : Nat → Nat) (tx : Mem) (post : Int32 → Prop) (p : Program) (e : Env) (s : State) (m : MethodId) (args : Array Value) (below : List Frame) (meth : Method) (c : Code) (A : Nat → Prop) (w9 : va_W) (lv : List (Nat × Value)) (pc : Nat) (st : List Value) : Prop :=
  GG p l e rmX6_isFull s m args below meth c D A s.heap 1 (MQ below (va_Qi (fun r (_ : Unit) => post r) (fun u9 t9 => Af D (tyz ct) A ((fun _ => wT ct a tx) u9) t9) A)  args s 0 0 A) w9 0 0 lv pc st

set_option maxHeartbeats 4000000 in
set_option maxRecDepth 20000 in
theorem kX6_isFull (l : Launch) (D : va_G) (ct : Nat → ClassId) (a : Nat → Nat) (tx : Mem) (post : Int32 → Prop) (hw : PX6_isFull tx post) : Ci (S := Unit) l yX6_isFull wsX6_isFull rmX6_isFull D (tyz ct) [.ref (a 0)] (wT ct a tx) (fun r (_ : Unit) => post r) (fun _ => wT ct a tx) 0 0 := by
  intro sz
  refine g_of (own := RX6) (by decide) rfl rfl (Nat.le_of_ble_eq_true rfl) [(0, .ref (a 0))] rfl (fun p e s m args below meth c hsz X => ?_)
  subst hsz
  unfold PX6_isFull at hw
  refine g_aload_n X 0 dX6_isFull_0 rfl rfl ?_
  refine g_get (T := TX6) (C := RX6) (N := 6) (v := .int (tx 1 0)) X 0 1 (fun _ h => (List.mem_cons_of_mem _ (List.mem_append_right _ h))) (List.mem_of_getElem? (i := 1) rfl) dX6_isFull_1 rfl rfl (by decide) rfl rfl ?_
  refine g_bipush (v := 60) X rfl dX6_isFull_4 ?_
  refine g_icmp_lt X 13 dX6_isFull_6 (by decide) (fun c1 => ?_) (fun c1 => ?_)
  · replace hw := hw.1 c1
    refine g_iconst (v := 0) X rfl dX6_isFull_13 ?_
    exact g_zret X () isB_0 hw rfl (Nat.le_of_ble_eq_true rfl) (Nat.le_of_ble_eq_true rfl) dX6_isFull_14
  · replace hw := hw.2 c1
    refine g_iconst (v := 1) X rfl dX6_isFull_9 ?_
    refine g_goto X 14 dX6_isFull_10 (by decide) ?_
    exact g_zret X () isB_1 hw rfl (Nat.le_of_ble_eq_true rfl) (Nat.le_of_ble_eq_true rfl) dX6_isFull_14

abbrev rmX6_codeAt : Room := { frames := 0, cells := 0, slots := 0, locals := 0 }

abbrev GX6_codeAt (l : Launch) (D : va_G) (ct : Nat → ClassId) (a : Nat → Nat) (tx : Mem) (post : Int32 → Prop) (p : Program) (e : Env) (s : State) (m : MethodId) (args : Array Value) (below : List Frame) (meth : Method) (c : Code) (A : Nat → Prop) (w9 : va_W) (lv : List (Nat × Value)) (pc : Nat) (st : List Value) : Prop :=
  GG p l e rmX6_codeAt s m args below meth c D A s.heap 2 (MQ below (va_Qi (fun r (_ : Unit) => post r) (fun u9 t9 => Af D (tyz ct) A ((fun _ => wT ct a tx) u9) t9) A)  args s 0 0 A) w9 0 0 lv pc st

set_option maxHeartbeats 4000000 in
set_option maxRecDepth 20000 in
theorem kX6_codeAt (l : Launch) (D : va_G) (ct : Nat → ClassId) (a : Nat → Nat) (tx : Mem) (p1 : Int32) (post : Int32 → Prop) (hw : PX6_codeAt tx p1 post) : Ci (S := Unit) l yX6_codeAt wsX6_codeAt rmX6_codeAt D (tyz ct) [.ref (a 0), .int p1] (wT ct a tx) (fun r (_ : Unit) => post r) (fun _ => wT ct a tx) 0 0 := by
  intro sz
  refine g_of (own := RX6) (by decide) rfl rfl (Nat.le_of_ble_eq_true rfl) [(0, .ref (a 0)), (1, .int p1)] rfl (fun p e s m args below meth c hsz X => ?_)
  subst hsz
  unfold PX6_codeAt at hw
  refine g_iload_n X 1 dX6_codeAt_0 rfl rfl ?_
  refine g_if_lt X 21 dX6_codeAt_1 (by decide) (fun c1 => ?_) (fun c1 => ?_)
  · replace hw := hw.1 c1
    refine g_iconst (v := (-1)) X rfl dX6_codeAt_21 ?_
    exact g_iret X () hw rfl (Nat.le_of_ble_eq_true rfl) (Nat.le_of_ble_eq_true rfl) dX6_codeAt_22
  · replace hw := hw.2 c1
    refine g_iload_n X 1 dX6_codeAt_4 rfl rfl ?_
    refine g_aload_n X 0 dX6_codeAt_5 rfl rfl ?_
    refine g_get (T := TX6) (C := RX6) (N := 6) (v := .int (tx 1 0)) X 0 1 (fun _ h => (List.mem_cons_of_mem _ (List.mem_append_right _ h))) (List.mem_of_getElem? (i := 1) rfl) dX6_codeAt_6 rfl rfl (by decide) rfl rfl ?_
    refine g_icmp_ge X 21 dX6_codeAt_9 (by decide) (fun c2 => ?_) (fun c2 => ?_)
    · replace hw := hw.1 c2
      refine g_iconst (v := (-1)) X rfl dX6_codeAt_21 ?_
      exact g_iret X () hw rfl (Nat.le_of_ble_eq_true rfl) (Nat.le_of_ble_eq_true rfl) dX6_codeAt_22
    · replace hw := hw.2 c2
      refine g_aload_n X 0 dX6_codeAt_12 rfl rfl ?_
      refine g_get (T := TX6) (C := RX6) (N := 6) (v := .ref (a 1)) X 0 0 (fun _ h => (List.mem_cons_of_mem _ (List.mem_append_right _ h))) (List.mem_of_getElem? (i := 2) rfl) dX6_codeAt_13 rfl rfl (by decide) rfl rfl ?_
      refine g_iload_n X 1 dX6_codeAt_16 rfl rfl ?_
      obtain ⟨h3, hw⟩ := hw
      refine g_iald X 1 0 dX6_codeAt_17 rfl rfl h3 ?_
      refine g_goto X 22 dX6_codeAt_18 (by decide) ?_
      exact g_iret X () hw rfl (Nat.le_of_ble_eq_true rfl) (Nat.le_of_ble_eq_true rfl) dX6_codeAt_22

abbrev rmX6_add : Room := { frames := 0, cells := 0, slots := 0, locals := 0 }

abbrev GX6_add (l : Launch) (D : va_G) (ct : Nat → ClassId) (a : Nat → Nat) (post : Int32 → Mem → Prop) (p : Program) (e : Env) (s : State) (m : MethodId) (args : Array Value) (below : List Frame) (meth : Method) (c : Code) (A : Nat → Prop) (w9 : va_W) (lv : List (Nat × Value)) (pc : Nat) (st : List Value) : Prop :=
  GG p l e rmX6_add s m args below meth c D A s.heap 2 (MQ below (va_Qi (fun r (u9 : Mem) => post r u9) (fun u9 t9 => Af D (tyz ct) A ((fun u9 => wT ct a u9) u9) t9) A)  args s 0 0 A) w9 0 0 lv pc st

set_option maxHeartbeats 4000000 in
set_option maxRecDepth 20000 in
theorem kX6_add (l : Launch) (D : va_G) (ct : Nat → ClassId) (a : Nat → Nat) (tx : Mem) (p1 : Int32) (post : Int32 → Mem → Prop) (hw : PX6_add tx p1 post) : Ci (S := Mem) l yX6_add wsX6_add rmX6_add D (tyz ct) [.ref (a 0), .int p1] (wT ct a tx) (fun r (u9 : Mem) => post r u9) (fun u9 => wT ct a u9) 0 0 := by
  intro sz
  refine g_of (own := RX6) (by decide) rfl rfl (Nat.le_of_ble_eq_true rfl) [(0, .ref (a 0)), (1, .int p1)] rfl (fun p e s m args below meth c hsz X => ?_)
  subst hsz
  unfold PX6_add at hw
  refine g_aload_n X 0 dX6_add_0 rfl rfl ?_
  refine g_get (T := TX6) (C := RX6) (N := 6) (v := .int (tx 1 0)) X 0 1 (fun _ h => (List.mem_cons_of_mem _ (List.mem_append_right _ h))) (List.mem_of_getElem? (i := 1) rfl) dX6_add_1 rfl rfl (by decide) rfl rfl ?_
  refine g_bipush (v := 60) X rfl dX6_add_4 ?_
  refine g_icmp_ge X 29 dX6_add_6 (by decide) (fun c1 => ?_) (fun c1 => ?_)
  · replace hw := hw.1 c1
    refine g_aload_n X 0 dX6_add_29 rfl rfl ?_
    refine g_get (T := TX6) (C := RX6) (N := 6) (v := .int (tx 1 0)) X 0 1 (fun _ h => (List.mem_cons_of_mem _ (List.mem_append_right _ h))) (List.mem_of_getElem? (i := 1) rfl) dX6_add_30 rfl rfl (by decide) rfl rfl ?_
    exact g_iret X tx hw rfl (Nat.le_of_ble_eq_true rfl) (Nat.le_of_ble_eq_true rfl) dX6_add_33
  · replace hw := hw.2 c1
    refine g_aload_n X 0 dX6_add_9 rfl rfl ?_
    refine g_get (T := TX6) (C := RX6) (N := 6) (v := .ref (a 1)) X 0 0 (fun _ h => (List.mem_cons_of_mem _ (List.mem_append_right _ h))) (List.mem_of_getElem? (i := 2) rfl) dX6_add_10 rfl rfl (by decide) rfl rfl ?_
    refine g_aload_n X 0 dX6_add_13 rfl rfl ?_
    refine g_get (T := TX6) (C := RX6) (N := 6) (v := .int (tx 1 0)) X 0 1 (fun _ h => (List.mem_cons_of_mem _ (List.mem_append_right _ h))) (List.mem_of_getElem? (i := 1) rfl) dX6_add_14 rfl rfl (by decide) rfl rfl ?_
    refine g_iload_n X 1 dX6_add_17 rfl rfl ?_
    obtain ⟨h2, hw⟩ := hw
    refine g_iast X (fun z => wT ct a z) tx 0 1 0 dX6_add_18 rfl rfl h2 rfl (fun tx3 htx3 => ?_)
    replace hw := hw tx3 htx3
    refine g_aload_n X 0 dX6_add_19 rfl rfl ?_
    refine g_dup X dX6_add_20 rfl ?_
    refine g_get (T := TX6) (C := RX6) (N := 6) (v := .int (tx3 1 0)) X 0 1 (fun _ h => (List.mem_cons_of_mem _ (List.mem_append_right _ h))) (List.mem_of_getElem? (i := 1) rfl) dX6_add_21 rfl rfl (by decide) rfl rfl ?_
    refine g_iconst (v := 1) X rfl dX6_add_24 ?_
    refine g_iadd X dX6_add_25 ?_
    refine g_put (T := TX6) (C := RX6) (N := 6) X (fun z => wT ct a z) tx3 0 1 tyX6 tyX6_ok nmX6 (fun _ h => (List.mem_cons_of_mem _ (List.mem_append_right _ h))) (List.mem_of_getElem? (i := 1) rfl) dX6_add_26 rfl rfl (by decide) rfl rfl (by decide +kernel) (Nat.le_of_ble_eq_true rfl) rfl (fun tx4 htx4 => ?_)
    replace hw := hw tx4 htx4
    refine g_aload_n X 0 dX6_add_29 rfl rfl ?_
    refine g_get (T := TX6) (C := RX6) (N := 6) (v := .int (tx4 1 0)) X 0 1 (fun _ h => (List.mem_cons_of_mem _ (List.mem_append_right _ h))) (List.mem_of_getElem? (i := 1) rfl) dX6_add_30 rfl rfl (by decide) rfl rfl ?_
    exact g_iret X tx4 hw rfl (Nat.le_of_ble_eq_true rfl) (Nat.le_of_ble_eq_true rfl) dX6_add_33

abbrev rmX6_empty : Room := { frames := 0, cells := 0, slots := 0, locals := 0 }

abbrev GX6_empty (l : Launch) (D : va_G) (ct : Nat → ClassId) (a : Nat → Nat) (post : Int32 → Mem → Prop) (p : Program) (e : Env) (s : State) (m : MethodId) (args : Array Value) (below : List Frame) (meth : Method) (c : Code) (A : Nat → Prop) (w9 : va_W) (lv : List (Nat × Value)) (pc : Nat) (st : List Value) : Prop :=
  GG p l e rmX6_empty s m args below meth c D A s.heap 2 (MQ below (va_Qi (fun r (u9 : Mem) => post r u9) (fun u9 t9 => Af D (tyz ct) A ((fun u9 => wT ct a u9) u9) t9) A)  args s 0 0 A) w9 0 0 lv pc st

set_option maxHeartbeats 4000000 in
set_option maxRecDepth 20000 in
theorem kX6_empty (l : Launch) (D : va_G) (ct : Nat → ClassId) (a : Nat → Nat) (tx : Mem) (post : Int32 → Mem → Prop) (hw : PX6_empty tx post) : Ci (S := Mem) l yX6_empty wsX6_empty rmX6_empty D (tyz ct) [.ref (a 0)] (wT ct a tx) (fun r (u9 : Mem) => post r u9) (fun u9 => wT ct a u9) 0 0 := by
  intro sz
  refine g_of (own := RX6) (by decide) rfl rfl (Nat.le_of_ble_eq_true rfl) [(0, .ref (a 0))] rfl (fun p e s m args below meth c hsz X => ?_)
  subst hsz
  unfold PX6_empty at hw
  refine g_aload_n X 0 dX6_empty_0 rfl rfl ?_
  refine g_get (T := TX6) (C := RX6) (N := 6) (v := .int (tx 1 0)) X 0 1 (fun _ h => (List.mem_cons_of_mem _ (List.mem_append_right _ h))) (List.mem_of_getElem? (i := 1) rfl) dX6_empty_1 rfl rfl (by decide) rfl rfl ?_
  refine g_topi (fun q1 hq1 => ?_)
  replace hw := hw q1 hq1
  refine g_istore_n X [(1, .int q1), (0, .ref (a 0))] dX6_empty_4 rfl (by decide) rfl ?_
  refine g_aload_n X 1 dX6_empty_5 rfl rfl ?_
  refine g_iconst (v := 0) X rfl dX6_empty_6 ?_
  refine g_put (T := TX6) (C := RX6) (N := 6) X (fun z => wT ct a z) tx 0 1 tyX6 tyX6_ok nmX6 (fun _ h => (List.mem_cons_of_mem _ (List.mem_append_right _ h))) (List.mem_of_getElem? (i := 1) rfl) dX6_empty_7 rfl rfl (by decide) rfl rfl (by decide +kernel) (Nat.le_of_ble_eq_true rfl) rfl (fun tx2 htx2 => ?_)
  replace hw := hw tx2 htx2
  refine g_iload_n X 0 dX6_empty_10 rfl rfl ?_
  exact g_iret X tx2 hw rfl (Nat.le_of_ble_eq_true rfl) (Nat.le_of_ble_eq_true rfl) dX6_empty_11

abbrev rmX6_stateBehindStart : Room := { frames := 0, cells := 0, slots := 0, locals := 0 }

abbrev GX6_stateBehindStart (l : Launch) (D : va_G) (ct : Nat → ClassId) (post : Int32 → Prop) (p : Program) (e : Env) (s : State) (m : MethodId) (args : Array Value) (below : List Frame) (meth : Method) (c : Code) (A : Nat → Prop) (w9 : va_W) (lv : List (Nat × Value)) (pc : Nat) (st : List Value) : Prop :=
  GG p l e rmX6_stateBehindStart s m args below meth c D A s.heap 1 (MQ below (va_Qi (fun r (_ : Unit) => post r) (fun u9 t9 => Af D (tyz ct) A ((fun _ => ([] : va_W)) u9) t9) A)  args s 0 0 A) w9 0 0 lv pc st

set_option maxHeartbeats 4000000 in
set_option maxRecDepth 20000 in
theorem kX6_stateBehindStart_14 (l : Launch) (D : va_G) (ct : Nat → ClassId) (post : Int32 → Prop) {p : Program} {e : Env} {s : State} {m : MethodId} {args : Array Value} {below : List Frame} {meth : Method} {c : Code} {A : Nat → Prop} (X : Cx p s m args meth c cX6_stateBehindStart 1 RX6 wsX6_stateBehindStart D (tyz ct) A s.heap (some .int))  :
    ∀ (x0 : Int32), PX6_stateBehindStart_14 post x0 → GX6_stateBehindStart l D ct   post p e s m args below meth c A (([] : va_W)) [(0, .int x0)] 14 [] := by
  intro x0 hw
  unfold PX6_stateBehindStart_14 at hw
  refine g_iload_n X 0 dX6_stateBehindStart_14 rfl rfl ?_
  refine g_bipush (v := 43) X rfl dX6_stateBehindStart_15 ?_
  refine g_icmp_ne X 22 dX6_stateBehindStart_17 (by decide) (fun c2 => ?_) (fun c2 => ?_)
  · replace hw := hw.1 c2
    refine g_iload_n X 0 dX6_stateBehindStart_22 rfl rfl ?_
    refine g_bipush (v := 94) X rfl dX6_stateBehindStart_23 ?_
    refine g_icmp_ne X 33 dX6_stateBehindStart_25 (by decide) (fun c3 => ?_) (fun c3 => ?_)
    · replace hw := hw.1 c3
      refine g_bipush (v := 8) X rfl dX6_stateBehindStart_33 ?_
      exact g_iret X () hw rfl (Nat.le_of_ble_eq_true rfl) (Nat.le_of_ble_eq_true rfl) dX6_stateBehindStart_35
    · replace hw := hw.2 c3
      refine g_bipush (v := 7) X rfl dX6_stateBehindStart_28 ?_
      refine g_goto X 35 dX6_stateBehindStart_30 (by decide) ?_
      exact g_iret X () hw rfl (Nat.le_of_ble_eq_true rfl) (Nat.le_of_ble_eq_true rfl) dX6_stateBehindStart_35
  · replace hw := hw.2 c2
    refine g_iconst (v := 2) X rfl dX6_stateBehindStart_20 ?_
    exact g_iret X () hw rfl (Nat.le_of_ble_eq_true rfl) (Nat.le_of_ble_eq_true rfl) dX6_stateBehindStart_21

set_option maxHeartbeats 4000000 in
set_option maxRecDepth 20000 in
theorem kX6_stateBehindStart (l : Launch) (D : va_G) (ct : Nat → ClassId) (p1 : Int32) (post : Int32 → Prop) (hw : PX6_stateBehindStart p1 post) : Ci (S := Unit) l yX6_stateBehindStart wsX6_stateBehindStart rmX6_stateBehindStart D (tyz ct) [.int p1] (([] : va_W)) (fun r (_ : Unit) => post r) (fun _ => ([] : va_W)) 0 0 := by
  intro sz
  refine g_of (own := RX6) (by decide) rfl rfl (Nat.le_of_ble_eq_true rfl) [(0, .int p1)] rfl (fun p e s m args below meth c hsz X => ?_)
  subst hsz
  unfold PX6_stateBehindStart at hw
  refine g_iload_n X 0 dX6_stateBehindStart_0 rfl rfl ?_
  refine g_bipush (v := 48) X rfl dX6_stateBehindStart_1 ?_
  refine g_icmp_lt X 14 dX6_stateBehindStart_3 (by decide) (fun c1 => ?_) (fun c1 => ?_)
  · replace hw := hw.1 c1
    refine g_sub [(0, .int p1)] [0] rfl ?_
    exact kX6_stateBehindStart_14 l D ct post X _ hw
  · replace hw := hw.2 c1
    refine g_iload_n X 0 dX6_stateBehindStart_6 rfl rfl ?_
    refine g_bipush (v := 52) X rfl dX6_stateBehindStart_7 ?_
    refine g_icmp_ge X 14 dX6_stateBehindStart_9 (by decide) (fun c4 => ?_) (fun c4 => ?_)
    · replace hw := hw.1 c4
      refine g_sub [(0, .int p1)] [0] rfl ?_
      exact kX6_stateBehindStart_14 l D ct post X _ hw
    · replace hw := hw.2 c4
      refine g_iconst (v := 1) X rfl dX6_stateBehindStart_12 ?_
      exact g_iret X () hw rfl (Nat.le_of_ble_eq_true rfl) (Nat.le_of_ble_eq_true rfl) dX6_stateBehindStart_13

abbrev rmX6_isDigit : Room := { frames := 0, cells := 0, slots := 0, locals := 0 }

abbrev GX6_isDigit (l : Launch) (D : va_G) (ct : Nat → ClassId) (post : Int32 → Prop) (p : Program) (e : Env) (s : State) (m : MethodId) (args : Array Value) (below : List Frame) (meth : Method) (c : Code) (A : Nat → Prop) (w9 : va_W) (lv : List (Nat × Value)) (pc : Nat) (st : List Value) : Prop :=
  GG p l e rmX6_isDigit s m args below meth c D A s.heap 1 (MQ below (va_Qi (fun r (_ : Unit) => post r) (fun u9 t9 => Af D (tyz ct) A ((fun _ => ([] : va_W)) u9) t9) A)  args s 0 0 A) w9 0 0 lv pc st

set_option maxHeartbeats 4000000 in
set_option maxRecDepth 20000 in
theorem kX6_isDigit (l : Launch) (D : va_G) (ct : Nat → ClassId) (p1 : Int32) (post : Int32 → Prop) (hw : PX6_isDigit p1 post) : Ci (S := Unit) l yX6_isDigit wsX6_isDigit rmX6_isDigit D (tyz ct) [.int p1] (([] : va_W)) (fun r (_ : Unit) => post r) (fun _ => ([] : va_W)) 0 0 := by
  intro sz
  refine g_of (own := RX6) (by decide) rfl rfl (Nat.le_of_ble_eq_true rfl) [(0, .int p1)] rfl (fun p e s m args below meth c hsz X => ?_)
  subst hsz
  unfold PX6_isDigit at hw
  refine g_iload_n X 0 dX6_isDigit_0 rfl rfl ?_
  refine g_bipush (v := 48) X rfl dX6_isDigit_1 ?_
  refine g_icmp_lt X 16 dX6_isDigit_3 (by decide) (fun c1 => ?_) (fun c1 => ?_)
  · replace hw := hw.1 c1
    refine g_iconst (v := 0) X rfl dX6_isDigit_16 ?_
    exact g_zret X () isB_0 hw rfl (Nat.le_of_ble_eq_true rfl) (Nat.le_of_ble_eq_true rfl) dX6_isDigit_17
  · replace hw := hw.2 c1
    refine g_iload_n X 0 dX6_isDigit_6 rfl rfl ?_
    refine g_bipush (v := 57) X rfl dX6_isDigit_7 ?_
    refine g_icmp_gt X 16 dX6_isDigit_9 (by decide) (fun c2 => ?_) (fun c2 => ?_)
    · replace hw := hw.1 c2
      refine g_iconst (v := 0) X rfl dX6_isDigit_16 ?_
      exact g_zret X () isB_0 hw rfl (Nat.le_of_ble_eq_true rfl) (Nat.le_of_ble_eq_true rfl) dX6_isDigit_17
    · replace hw := hw.2 c2
      refine g_iconst (v := 1) X rfl dX6_isDigit_12 ?_
      refine g_goto X 17 dX6_isDigit_13 (by decide) ?_
      exact g_zret X () isB_1 hw rfl (Nat.le_of_ble_eq_true rfl) (Nat.le_of_ble_eq_true rfl) dX6_isDigit_17

abbrev rmX6_stateBehindDigit : Room := { frames := 1, cells := 0, slots := 0, locals := 20 }

abbrev GX6_stateBehindDigit (l : Launch) (D : va_G) (ct : Nat → ClassId) (post : Int32 → Prop) (p : Program) (e : Env) (s : State) (m : MethodId) (args : Array Value) (below : List Frame) (meth : Method) (c : Code) (A : Nat → Prop) (w9 : va_W) (lv : List (Nat × Value)) (pc : Nat) (st : List Value) : Prop :=
  GG p l e rmX6_stateBehindDigit s m args below meth c D A s.heap 3 (MQ below (va_Qi (fun r (_ : Unit) => post r) (fun u9 t9 => Af D (tyz ct) A ((fun _ => ([] : va_W)) u9) t9) A)  args s 0 0 A) w9 0 0 lv pc st

set_option maxHeartbeats 4000000 in
set_option maxRecDepth 20000 in
theorem kX6_stateBehindDigit (l : Launch) (D : va_G) (ct : Nat → ClassId) (p1 : Int32) (p2 : Int32) (p3 : Int32) (post : Int32 → Prop) (hw : PX6_stateBehindDigit p1 p2 p3 post) : Ci (S := Unit) l yX6_stateBehindDigit wsX6_stateBehindDigit rmX6_stateBehindDigit D (tyz ct) [.int p1, .int p2, .int p3] (([] : va_W)) (fun r (_ : Unit) => post r) (fun _ => ([] : va_W)) 0 0 := by
  intro sz
  refine g_of (own := RX6) (by decide) rfl rfl (Nat.le_of_ble_eq_true rfl) [(0, .int p1), (1, .int p2), (2, .int p3)] rfl (fun p e s m args below meth c hsz X => ?_)
  subst hsz
  unfold PX6_stateBehindDigit at hw
  refine g_iload_n X 0 dX6_stateBehindDigit_0 rfl rfl ?_
  refine g_ciS X [] (fun (_ : Unit) => []) (fun _ => ([] : va_W)) 0 [] [] (kX6_isDigit l D ct  p1 _ hw) (va_cwS 1 X.1.2.2.2.2 gX6_stateBehindDigit_X6_isDigit rfl rfl rfl (by decide +kernel) ⟨Nat.le_of_ble_eq_true rfl, Nat.le_of_ble_eq_true rfl⟩) dX6_stateBehindDigit_1 rfl rfl (Nat.le_of_ble_eq_true rfl) ⟨Nat.le_of_ble_eq_true rfl, Nat.le_of_ble_eq_true rfl⟩ rfl rfl rfl (by decide) (fun _ => rfl) (fun _ => rfl) (fun _ => rfl) (fun _ => rfl) (fun r1 _ hw => ?_)
  refine g_if_ne X 10 dX6_stateBehindDigit_4 (by decide) (fun c3 => ?_) (fun c3 => ?_)
  · replace hw := hw.1 c3
    refine g_iload_n X 0 dX6_stateBehindDigit_10 rfl rfl ?_
    refine g_bipush (v := 49) X rfl dX6_stateBehindDigit_11 ?_
    refine g_icmp_ne X 20 dX6_stateBehindDigit_13 (by decide) (fun c4 => ?_) (fun c4 => ?_)
    · replace hw := hw.1 c4
      refine g_iload_n X 2 dX6_stateBehindDigit_20 rfl rfl ?_
      exact g_iret X () hw rfl (Nat.le_of_ble_eq_true rfl) (Nat.le_of_ble_eq_true rfl) dX6_stateBehindDigit_21
    · replace hw := hw.2 c4
      refine g_iload_n X 1 dX6_stateBehindDigit_16 rfl rfl ?_
      refine g_goto X 21 dX6_stateBehindDigit_17 (by decide) ?_
      exact g_iret X () hw rfl (Nat.le_of_ble_eq_true rfl) (Nat.le_of_ble_eq_true rfl) dX6_stateBehindDigit_21
  · replace hw := hw.2 c3
    refine g_bipush (v := 8) X rfl dX6_stateBehindDigit_7 ?_
    exact g_iret X () hw rfl (Nat.le_of_ble_eq_true rfl) (Nat.le_of_ble_eq_true rfl) dX6_stateBehindDigit_9

abbrev rmX6_stateBehind : Room := { frames := 2, cells := 0, slots := 0, locals := 42 }

abbrev GX6_stateBehind (l : Launch) (D : va_G) (ct : Nat → ClassId) (post : Int32 → Prop) (p : Program) (e : Env) (s : State) (m : MethodId) (args : Array Value) (below : List Frame) (meth : Method) (c : Code) (A : Nat → Prop) (w9 : va_W) (lv : List (Nat × Value)) (pc : Nat) (st : List Value) : Prop :=
  GG p l e rmX6_stateBehind s m args below meth c D A s.heap 2 (MQ below (va_Qi (fun r (_ : Unit) => post r) (fun u9 t9 => Af D (tyz ct) A ((fun _ => ([] : va_W)) u9) t9) A)  args s 0 0 A) w9 0 0 lv pc st

set_option maxHeartbeats 4000000 in
set_option maxRecDepth 20000 in
theorem kX6_stateBehind (l : Launch) (D : va_G) (ct : Nat → ClassId) (p1 : Int32) (p2 : Int32) (post : Int32 → Prop) (hw : PX6_stateBehind p1 p2 post) : Ci (S := Unit) l yX6_stateBehind wsX6_stateBehind rmX6_stateBehind D (tyz ct) [.int p1, .int p2] (([] : va_W)) (fun r (_ : Unit) => post r) (fun _ => ([] : va_W)) 0 0 := by
  intro sz
  refine g_of (own := RX6) (by decide) rfl rfl (Nat.le_of_ble_eq_true rfl) [(0, .int p1), (1, .int p2)] rfl (fun p e s m args below meth c hsz X => ?_)
  subst hsz
  unfold PX6_stateBehind at hw
  refine g_iload_n X 0 dX6_stateBehind_0 rfl rfl ?_
  by_cases c1 : p1 = 0
  · replace hw := hw.1 c1
    refine g_tableIn X 48 dX6_stateBehind_1 (by rw [c1]; decide) (by rw [c1]; decide) (by rw [c1]; rfl) (by decide) ?_
    refine g_iload_n X 1 dX6_stateBehind_48 rfl rfl ?_
    refine g_ciS X [] (fun (_ : Unit) => []) (fun _ => ([] : va_W)) 0 [] [] (kX6_stateBehindStart l D ct  p2 _ hw) (va_cwS 1 X.1.2.2.2.2 gX6_stateBehind_X6_stateBehindStart rfl rfl rfl (by decide +kernel) ⟨Nat.le_of_ble_eq_true rfl, Nat.le_of_ble_eq_true rfl⟩) dX6_stateBehind_49 rfl rfl (Nat.le_of_ble_eq_true rfl) ⟨Nat.le_of_ble_eq_true rfl, Nat.le_of_ble_eq_true rfl⟩ rfl rfl rfl (by decide) (fun _ => rfl) (fun _ => rfl) (fun _ => rfl) (fun _ => rfl) (fun r2 _ hw => ?_)
    exact g_iret X () hw rfl (Nat.le_of_ble_eq_true rfl) (Nat.le_of_ble_eq_true rfl) dX6_stateBehind_52
  · replace hw := hw.2 c1
    by_cases c4 : p1 = 1
    · replace hw := hw.1 c4
      refine g_tableIn X 53 dX6_stateBehind_1 (by rw [c4]; decide) (by rw [c4]; decide) (by rw [c4]; rfl) (by decide) ?_
      refine g_iload_n X 1 dX6_stateBehind_53 rfl rfl ?_
      refine g_bipush (v := 59) X rfl dX6_stateBehind_54 ?_
      refine g_icmp_ne X 63 dX6_stateBehind_56 (by decide) (fun c5 => ?_) (fun c5 => ?_)
      · replace hw := hw.1 c5
        refine g_bipush (v := 8) X rfl dX6_stateBehind_63 ?_
        exact g_iret X () hw rfl (Nat.le_of_ble_eq_true rfl) (Nat.le_of_ble_eq_true rfl) dX6_stateBehind_65
      · replace hw := hw.2 c5
        refine g_iconst (v := 0) X rfl dX6_stateBehind_59 ?_
        refine g_goto X 65 dX6_stateBehind_60 (by decide) ?_
        exact g_iret X () hw rfl (Nat.le_of_ble_eq_true rfl) (Nat.le_of_ble_eq_true rfl) dX6_stateBehind_65
    · replace hw := hw.2 c4
      by_cases c6 : p1 = 2
      · replace hw := hw.1 c6
        refine g_tableIn X 66 dX6_stateBehind_1 (by rw [c6]; decide) (by rw [c6]; decide) (by rw [c6]; rfl) (by decide) ?_
        refine g_iload_n X 1 dX6_stateBehind_66 rfl rfl ?_
        refine g_iconst (v := 3) X rfl dX6_stateBehind_67 ?_
        refine g_iconst (v := 4) X rfl dX6_stateBehind_68 ?_
        refine g_ciS X [] (fun (_ : Unit) => []) (fun _ => ([] : va_W)) 0 [] [] (kX6_stateBehindDigit l D ct  p2 3 4 _ hw) (va_cwS 3 X.1.2.2.2.2 gX6_stateBehind_X6_stateBehindDigit rfl rfl rfl (by decide +kernel) ⟨Nat.le_of_ble_eq_true rfl, Nat.le_of_ble_eq_true rfl⟩) dX6_stateBehind_69 rfl rfl (Nat.le_of_ble_eq_true rfl) ⟨Nat.le_of_ble_eq_true rfl, Nat.le_of_ble_eq_true rfl⟩ rfl rfl rfl (by decide) (fun _ => rfl) (fun _ => rfl) (fun _ => rfl) (fun _ => rfl) (fun r7 _ hw => ?_)
        exact g_iret X () hw rfl (Nat.le_of_ble_eq_true rfl) (Nat.le_of_ble_eq_true rfl) dX6_stateBehind_72
      · replace hw := hw.2 c6
        by_cases c9 : p1 = 3
        · replace hw := hw.1 c9
          refine g_tableIn X 73 dX6_stateBehind_1 (by rw [c9]; decide) (by rw [c9]; decide) (by rw [c9]; rfl) (by decide) ?_
          refine g_iload_n X 1 dX6_stateBehind_73 rfl rfl ?_
          refine g_ciS X [] (fun (_ : Unit) => []) (fun _ => ([] : va_W)) 0 [] [] (kX6_isDigit l D ct  p2 _ hw) (va_cwS 1 X.1.2.2.2.2 gX6_stateBehind_X6_isDigit rfl rfl rfl (by decide +kernel) ⟨Nat.le_of_ble_eq_true rfl, Nat.le_of_ble_eq_true rfl⟩) dX6_stateBehind_74 rfl rfl (Nat.le_of_ble_eq_true rfl) ⟨Nat.le_of_ble_eq_true rfl, Nat.le_of_ble_eq_true rfl⟩ rfl rfl rfl (by decide) (fun _ => rfl) (fun _ => rfl) (fun _ => rfl) (fun _ => rfl) (fun r10 _ hw => ?_)
          refine g_if_eq X 82 dX6_stateBehind_77 (by decide) (fun c12 => ?_) (fun c12 => ?_)
          · replace hw := hw.1 c12
            refine g_iload_n X 1 dX6_stateBehind_82 rfl rfl ?_
            refine g_bipush (v := 38) X rfl dX6_stateBehind_83 ?_
            refine g_icmp_ne X 92 dX6_stateBehind_85 (by decide) (fun c13 => ?_) (fun c13 => ?_)
            · replace hw := hw.1 c13
              refine g_bipush (v := 8) X rfl dX6_stateBehind_92 ?_
              exact g_iret X () hw rfl (Nat.le_of_ble_eq_true rfl) (Nat.le_of_ble_eq_true rfl) dX6_stateBehind_94
            · replace hw := hw.2 c13
              refine g_iconst (v := 5) X rfl dX6_stateBehind_88 ?_
              refine g_goto X 94 dX6_stateBehind_89 (by decide) ?_
              exact g_iret X () hw rfl (Nat.le_of_ble_eq_true rfl) (Nat.le_of_ble_eq_true rfl) dX6_stateBehind_94
          · replace hw := hw.2 c12
            refine g_iconst (v := 4) X rfl dX6_stateBehind_80 ?_
            exact g_iret X () hw rfl (Nat.le_of_ble_eq_true rfl) (Nat.le_of_ble_eq_true rfl) dX6_stateBehind_81
        · replace hw := hw.2 c9
          by_cases c14 : p1 = 4
          · replace hw := hw.1 c14
            refine g_tableIn X 95 dX6_stateBehind_1 (by rw [c14]; decide) (by rw [c14]; decide) (by rw [c14]; rfl) (by decide) ?_
            refine g_iload_n X 1 dX6_stateBehind_95 rfl rfl ?_
            refine g_bipush (v := 38) X rfl dX6_stateBehind_96 ?_
            refine g_icmp_ne X 105 dX6_stateBehind_98 (by decide) (fun c15 => ?_) (fun c15 => ?_)
            · replace hw := hw.1 c15
              refine g_bipush (v := 8) X rfl dX6_stateBehind_105 ?_
              exact g_iret X () hw rfl (Nat.le_of_ble_eq_true rfl) (Nat.le_of_ble_eq_true rfl) dX6_stateBehind_107
            · replace hw := hw.2 c15
              refine g_iconst (v := 5) X rfl dX6_stateBehind_101 ?_
              refine g_goto X 107 dX6_stateBehind_102 (by decide) ?_
              exact g_iret X () hw rfl (Nat.le_of_ble_eq_true rfl) (Nat.le_of_ble_eq_true rfl) dX6_stateBehind_107
          · replace hw := hw.2 c14
            by_cases c16 : p1 = 5
            · replace hw := hw.1 c16
              refine g_tableIn X 108 dX6_stateBehind_1 (by rw [c16]; decide) (by rw [c16]; decide) (by rw [c16]; rfl) (by decide) ?_
              refine g_iload_n X 1 dX6_stateBehind_108 rfl rfl ?_
              refine g_bipush (v := 6) X rfl dX6_stateBehind_109 ?_
              refine g_iconst (v := 1) X rfl dX6_stateBehind_111 ?_
              refine g_ciS X [] (fun (_ : Unit) => []) (fun _ => ([] : va_W)) 0 [] [] (kX6_stateBehindDigit l D ct  p2 6 1 _ hw) (va_cwS 3 X.1.2.2.2.2 gX6_stateBehind_X6_stateBehindDigit rfl rfl rfl (by decide +kernel) ⟨Nat.le_of_ble_eq_true rfl, Nat.le_of_ble_eq_true rfl⟩) dX6_stateBehind_112 rfl rfl (Nat.le_of_ble_eq_true rfl) ⟨Nat.le_of_ble_eq_true rfl, Nat.le_of_ble_eq_true rfl⟩ rfl rfl rfl (by decide) (fun _ => rfl) (fun _ => rfl) (fun _ => rfl) (fun _ => rfl) (fun r17 _ hw => ?_)
              exact g_iret X () hw rfl (Nat.le_of_ble_eq_true rfl) (Nat.le_of_ble_eq_true rfl) dX6_stateBehind_115
            · replace hw := hw.2 c16
              by_cases c19 : p1 = 6
              · replace hw := hw.1 c19
                refine g_tableIn X 116 dX6_stateBehind_1 (by rw [c19]; decide) (by rw [c19]; decide) (by rw [c19]; rfl) (by decide) ?_
                refine g_iload_n X 1 dX6_stateBehind_116 rfl rfl ?_
                refine g_ciS X [] (fun (_ : Unit) => []) (fun _ => ([] : va_W)) 0 [] [] (kX6_isDigit l D ct  p2 _ hw) (va_cwS 1 X.1.2.2.2.2 gX6_stateBehind_X6_isDigit rfl rfl rfl (by decide +kernel) ⟨Nat.le_of_ble_eq_true rfl, Nat.le_of_ble_eq_true rfl⟩) dX6_stateBehind_117 rfl rfl (Nat.le_of_ble_eq_true rfl) ⟨Nat.le_of_ble_eq_true rfl, Nat.le_of_ble_eq_true rfl⟩ rfl rfl rfl (by decide) (fun _ => rfl) (fun _ => rfl) (fun _ => rfl) (fun _ => rfl) (fun r20 _ hw => ?_)
                refine g_if_eq X 125 dX6_stateBehind_120 (by decide) (fun c22 => ?_) (fun c22 => ?_)
                · replace hw := hw.1 c22
                  refine g_iload_n X 1 dX6_stateBehind_125 rfl rfl ?_
                  refine g_bipush (v := 59) X rfl dX6_stateBehind_126 ?_
                  refine g_icmp_ne X 135 dX6_stateBehind_128 (by decide) (fun c23 => ?_) (fun c23 => ?_)
                  · replace hw := hw.1 c23
                    refine g_bipush (v := 8) X rfl dX6_stateBehind_135 ?_
                    exact g_iret X () hw rfl (Nat.le_of_ble_eq_true rfl) (Nat.le_of_ble_eq_true rfl) dX6_stateBehind_137
                  · replace hw := hw.2 c23
                    refine g_iconst (v := 0) X rfl dX6_stateBehind_131 ?_
                    refine g_goto X 137 dX6_stateBehind_132 (by decide) ?_
                    exact g_iret X () hw rfl (Nat.le_of_ble_eq_true rfl) (Nat.le_of_ble_eq_true rfl) dX6_stateBehind_137
                · replace hw := hw.2 c22
                  refine g_iconst (v := 1) X rfl dX6_stateBehind_123 ?_
                  exact g_iret X () hw rfl (Nat.le_of_ble_eq_true rfl) (Nat.le_of_ble_eq_true rfl) dX6_stateBehind_124
              · replace hw := hw.2 c19
                by_cases c24 : p1 = 7
                · replace hw := hw.1 c24
                  refine g_tableIn X 138 dX6_stateBehind_1 (by rw [c24]; decide) (by rw [c24]; decide) (by rw [c24]; rfl) (by decide) ?_
                  refine g_iload_n X 1 dX6_stateBehind_138 rfl rfl ?_
                  refine g_ciS X [] (fun (_ : Unit) => []) (fun _ => ([] : va_W)) 0 [] [] (kX6_isDigit l D ct  p2 _ hw) (va_cwS 1 X.1.2.2.2.2 gX6_stateBehind_X6_isDigit rfl rfl rfl (by decide +kernel) ⟨Nat.le_of_ble_eq_true rfl, Nat.le_of_ble_eq_true rfl⟩) dX6_stateBehind_139 rfl rfl (Nat.le_of_ble_eq_true rfl) ⟨Nat.le_of_ble_eq_true rfl, Nat.le_of_ble_eq_true rfl⟩ rfl rfl rfl (by decide) (fun _ => rfl) (fun _ => rfl) (fun _ => rfl) (fun _ => rfl) (fun r25 _ hw => ?_)
                  refine g_if_eq X 149 dX6_stateBehind_142 (by decide) (fun c27 => ?_) (fun c27 => ?_)
                  · replace hw := hw.1 c27
                    refine g_bipush (v := 8) X rfl dX6_stateBehind_149 ?_
                    exact g_iret X () hw rfl (Nat.le_of_ble_eq_true rfl) (Nat.le_of_ble_eq_true rfl) dX6_stateBehind_151
                  · replace hw := hw.2 c27
                    refine g_iconst (v := 1) X rfl dX6_stateBehind_145 ?_
                    refine g_goto X 151 dX6_stateBehind_146 (by decide) ?_
                    exact g_iret X () hw rfl (Nat.le_of_ble_eq_true rfl) (Nat.le_of_ble_eq_true rfl) dX6_stateBehind_151
                · replace hw := hw.2 c24
                  refine g_tableOut X 152 dX6_stateBehind_1 (by have tc1 := lv_neT c1 (show (0 : Int32).toInt = 0 from rfl); have tc4 := lv_neT c4 (show (1 : Int32).toInt = 1 from rfl); have tc6 := lv_neT c6 (show (2 : Int32).toInt = 2 from rfl); have tc9 := lv_neT c9 (show (3 : Int32).toInt = 3 from rfl); have tc14 := lv_neT c14 (show (4 : Int32).toInt = 4 from rfl); have tc16 := lv_neT c16 (show (5 : Int32).toInt = 5 from rfl); have tc19 := lv_neT c19 (show (6 : Int32).toInt = 6 from rfl); have tc24 := lv_neT c24 (show (7 : Int32).toInt = 7 from rfl); omega) (by decide) ?_
                  refine g_bipush (v := 8) X rfl dX6_stateBehind_152 ?_
                  exact g_iret X () hw rfl (Nat.le_of_ble_eq_true rfl) (Nat.le_of_ble_eq_true rfl) dX6_stateBehind_154

abbrev rmX6_firstBad : Room := { frames := 3, cells := 0, slots := 0, locals := 63 }

abbrev GX6_firstBad (l : Launch) (D : va_G) (ct : Nat → ClassId) (a : Nat → Nat) (tx : Mem) (post : Int32 → Prop) (p : Program) (e : Env) (s : State) (m : MethodId) (args : Array Value) (below : List Frame) (meth : Method) (c : Code) (A : Nat → Prop) (w9 : va_W) (lv : List (Nat × Value)) (pc : Nat) (st : List Value) : Prop :=
  GG p l e rmX6_firstBad s m args below meth c D A s.heap 3 (MQ below (va_Qi (fun r (_ : Unit) => post r) (fun u9 t9 => Af D (tyz ct) A ((fun _ => wT ct a tx) u9) t9) A)  args s 0 0 A) w9 0 0 lv pc st

set_option maxHeartbeats 4000000 in
set_option maxRecDepth 20000 in
theorem kX6_firstBad_4 (l : Launch) (D : va_G) (ct : Nat → ClassId) (a : Nat → Nat) (tx : Mem) (post : Int32 → Prop) {p : Program} {e : Env} {s : State} {m : MethodId} {args : Array Value} {below : List Frame} {meth : Method} {c : Code} {A : Nat → Prop} (X : Cx p s m args meth c cX6_firstBad 3 RX6 wsX6_firstBad D (tyz ct) A s.heap (some .int))  :
    ∀ (n : Nat) (x1 : Int32) (x2 : Int32), PX6_firstBad_4 tx post n x1 x2 → GX6_firstBad l D ct a tx post p e s m args below meth c A (wT ct a tx) [(0, .ref (a 0)), (1, .int x1), (2, .int x2)] 4 [] := by
  intro n
  induction n with
  | zero =>
    intro x1 x2 hw
    exact hw.elim
  | succ n ih =>
    intro x1 x2 hw
    unfold PX6_firstBad_4 at hw
    refine g_iload_n X 2 dX6_firstBad_4 rfl rfl ?_
    refine g_aload_n X 0 dX6_firstBad_5 rfl rfl ?_
    refine g_get (T := TX6) (C := RX6) (N := 6) (v := .int (tx 1 0)) X 0 1 (fun _ h => (List.mem_cons_of_mem _ (List.mem_append_right _ h))) (List.mem_of_getElem? (i := 1) rfl) dX6_firstBad_6 rfl rfl (by decide) rfl rfl ?_
    refine g_icmp_ge X 37 dX6_firstBad_9 (by decide) (fun c1 => ?_) (fun c1 => ?_)
    · replace hw := hw.1 c1
      refine g_aload_n X 0 dX6_firstBad_37 rfl rfl ?_
      refine g_get (T := TX6) (C := RX6) (N := 6) (v := .int (tx 1 0)) X 0 1 (fun _ h => (List.mem_cons_of_mem _ (List.mem_append_right _ h))) (List.mem_of_getElem? (i := 1) rfl) dX6_firstBad_38 rfl rfl (by decide) rfl rfl ?_
      exact g_iret X () hw rfl (Nat.le_of_ble_eq_true rfl) (Nat.le_of_ble_eq_true rfl) dX6_firstBad_41
    · replace hw := hw.2 c1
      refine g_iload_n X 1 dX6_firstBad_12 rfl rfl ?_
      refine g_aload_n X 0 dX6_firstBad_13 rfl rfl ?_
      refine g_get (T := TX6) (C := RX6) (N := 6) (v := .ref (a 1)) X 0 0 (fun _ h => (List.mem_cons_of_mem _ (List.mem_append_right _ h))) (List.mem_of_getElem? (i := 2) rfl) dX6_firstBad_14 rfl rfl (by decide) rfl rfl ?_
      refine g_iload_n X 2 dX6_firstBad_17 rfl rfl ?_
      obtain ⟨h2, hw⟩ := hw
      refine g_iald X 1 0 dX6_firstBad_18 rfl rfl h2 ?_
      refine g_ciS X [wT ct a tx] (fun (_ : Unit) => [wT ct a tx]) (fun _ => wT ct a tx) 1 [] [0] (kX6_stateBehind l D ct  x1 (tx 0 (ix x2)) _ hw) (va_cwS 2 X.1.2.2.2.2 gX6_firstBad_X6_stateBehind rfl rfl rfl (by decide +kernel) ⟨Nat.le_of_ble_eq_true rfl, Nat.le_of_ble_eq_true rfl⟩) dX6_firstBad_19 rfl rfl (Nat.le_of_ble_eq_true rfl) ⟨Nat.le_of_ble_eq_true rfl, Nat.le_of_ble_eq_true rfl⟩ rfl rfl rfl (by decide) (fun _ => rfl) (fun _ => rfl) (fun _ => rfl) (fun _ => rfl) (fun r3 _ hw => ?_)
      refine g_istore_n X [(1, .int r3), (0, .ref (a 0)), (2, .int x2)] dX6_firstBad_22 rfl (by decide) rfl ?_
      refine g_iload_n X 0 dX6_firstBad_23 rfl rfl ?_
      refine g_bipush (v := 8) X rfl dX6_firstBad_24 ?_
      refine g_icmp_ne X 31 dX6_firstBad_26 (by decide) (fun c5 => ?_) (fun c5 => ?_)
      · replace hw := hw.1 c5
        refine g_iinc X [(2, .int (x2 + 1)), (1, .int r3), (0, .ref (a 0))] 2 dX6_firstBad_31 rfl rfl (by decide) rfl ?_
        refine g_goto X 4 dX6_firstBad_34 (by decide) ?_
        refine g_sub [(0, .ref (a 0)), (1, .int r3), (2, .int (x2 + 1))] [2, 1, 0] rfl ?_
        exact ih _ _ hw
      · replace hw := hw.2 c5
        refine g_iload_n X 2 dX6_firstBad_29 rfl rfl ?_
        exact g_iret X () hw rfl (Nat.le_of_ble_eq_true rfl) (Nat.le_of_ble_eq_true rfl) dX6_firstBad_30

set_option maxHeartbeats 4000000 in
set_option maxRecDepth 20000 in
theorem kX6_firstBad (l : Launch) (D : va_G) (ct : Nat → ClassId) (a : Nat → Nat) (tx : Mem) (post : Int32 → Prop) (hw : PX6_firstBad tx post) : Ci (S := Unit) l yX6_firstBad wsX6_firstBad rmX6_firstBad D (tyz ct) [.ref (a 0)] (wT ct a tx) (fun r (_ : Unit) => post r) (fun _ => wT ct a tx) 0 0 := by
  intro sz
  refine g_of (own := RX6) (by decide) rfl rfl (Nat.le_of_ble_eq_true rfl) [(0, .ref (a 0))] rfl (fun p e s m args below meth c hsz X => ?_)
  subst hsz
  unfold PX6_firstBad at hw
  refine g_iconst (v := 0) X rfl dX6_firstBad_0 ?_
  refine g_istore_n X [(1, .int 0), (0, .ref (a 0))] dX6_firstBad_1 rfl (by decide) rfl ?_
  refine g_iconst (v := 0) X rfl dX6_firstBad_2 ?_
  refine g_istore_n X [(2, .int 0), (1, .int 0), (0, .ref (a 0))] dX6_firstBad_3 rfl (by decide) rfl ?_
  refine g_sub [(0, .ref (a 0)), (1, .int 0), (2, .int 0)] [2, 1, 0] rfl ?_
  obtain ⟨n6, hw⟩ := hw
  exact kX6_firstBad_4 l D ct a tx post X n6 _ _ hw

abbrev rmX6_isWhole : Room := { frames := 3, cells := 0, slots := 0, locals := 63 }

abbrev GX6_isWhole (l : Launch) (D : va_G) (ct : Nat → ClassId) (a : Nat → Nat) (tx : Mem) (post : Int32 → Prop) (p : Program) (e : Env) (s : State) (m : MethodId) (args : Array Value) (below : List Frame) (meth : Method) (c : Code) (A : Nat → Prop) (w9 : va_W) (lv : List (Nat × Value)) (pc : Nat) (st : List Value) : Prop :=
  GG p l e rmX6_isWhole s m args below meth c D A s.heap 3 (MQ below (va_Qi (fun r (_ : Unit) => post r) (fun u9 t9 => Af D (tyz ct) A ((fun _ => wT ct a tx) u9) t9) A)  args s 0 0 A) w9 0 0 lv pc st

set_option maxHeartbeats 4000000 in
set_option maxRecDepth 20000 in
theorem kX6_isWhole_4 (l : Launch) (D : va_G) (ct : Nat → ClassId) (a : Nat → Nat) (tx : Mem) (post : Int32 → Prop) {p : Program} {e : Env} {s : State} {m : MethodId} {args : Array Value} {below : List Frame} {meth : Method} {c : Code} {A : Nat → Prop} (X : Cx p s m args meth c cX6_isWhole 3 RX6 wsX6_isWhole D (tyz ct) A s.heap (some .boolean))  :
    ∀ (n : Nat) (x1 : Int32) (x2 : Int32), PX6_isWhole_4 tx post n x1 x2 → GX6_isWhole l D ct a tx post p e s m args below meth c A (wT ct a tx) [(0, .ref (a 0)), (1, .int x1), (2, .int x2)] 4 [] := by
  intro n
  induction n with
  | zero =>
    intro x1 x2 hw
    exact hw.elim
  | succ n ih =>
    intro x1 x2 hw
    unfold PX6_isWhole_4 at hw
    refine g_iload_n X 2 dX6_isWhole_4 rfl rfl ?_
    refine g_aload_n X 0 dX6_isWhole_5 rfl rfl ?_
    refine g_get (T := TX6) (C := RX6) (N := 6) (v := .int (tx 1 0)) X 0 1 (fun _ h => (List.mem_cons_of_mem _ (List.mem_append_right _ h))) (List.mem_of_getElem? (i := 1) rfl) dX6_isWhole_6 rfl rfl (by decide) rfl rfl ?_
    refine g_icmp_ge X 29 dX6_isWhole_9 (by decide) (fun c1 => ?_) (fun c1 => ?_)
    · replace hw := hw.1 c1
      refine g_iload_n X 1 dX6_isWhole_29 rfl rfl ?_
      refine g_iconst (v := 1) X rfl dX6_isWhole_30 ?_
      refine g_icmp_eq X 40 dX6_isWhole_31 (by decide) (fun c2 => ?_) (fun c2 => ?_)
      · replace hw := hw.1 c2
        refine g_iconst (v := 1) X rfl dX6_isWhole_40 ?_
        refine g_goto X 45 dX6_isWhole_41 (by decide) ?_
        exact g_zret X () isB_1 hw rfl (Nat.le_of_ble_eq_true rfl) (Nat.le_of_ble_eq_true rfl) dX6_isWhole_45
      · replace hw := hw.2 c2
        refine g_iload_n X 1 dX6_isWhole_34 rfl rfl ?_
        refine g_bipush (v := 6) X rfl dX6_isWhole_35 ?_
        refine g_icmp_ne X 44 dX6_isWhole_37 (by decide) (fun c3 => ?_) (fun c3 => ?_)
        · replace hw := hw.1 c3
          refine g_iconst (v := 0) X rfl dX6_isWhole_44 ?_
          exact g_zret X () isB_0 hw rfl (Nat.le_of_ble_eq_true rfl) (Nat.le_of_ble_eq_true rfl) dX6_isWhole_45
        · replace hw := hw.2 c3
          refine g_iconst (v := 1) X rfl dX6_isWhole_40 ?_
          refine g_goto X 45 dX6_isWhole_41 (by decide) ?_
          exact g_zret X () isB_1 hw rfl (Nat.le_of_ble_eq_true rfl) (Nat.le_of_ble_eq_true rfl) dX6_isWhole_45
    · replace hw := hw.2 c1
      refine g_iload_n X 1 dX6_isWhole_12 rfl rfl ?_
      refine g_aload_n X 0 dX6_isWhole_13 rfl rfl ?_
      refine g_get (T := TX6) (C := RX6) (N := 6) (v := .ref (a 1)) X 0 0 (fun _ h => (List.mem_cons_of_mem _ (List.mem_append_right _ h))) (List.mem_of_getElem? (i := 2) rfl) dX6_isWhole_14 rfl rfl (by decide) rfl rfl ?_
      refine g_iload_n X 2 dX6_isWhole_17 rfl rfl ?_
      obtain ⟨h4, hw⟩ := hw
      refine g_iald X 1 0 dX6_isWhole_18 rfl rfl h4 ?_
      refine g_ciS X [wT ct a tx] (fun (_ : Unit) => [wT ct a tx]) (fun _ => wT ct a tx) 1 [] [0] (kX6_stateBehind l D ct  x1 (tx 0 (ix x2)) _ hw) (va_cwS 2 X.1.2.2.2.2 gX6_isWhole_X6_stateBehind rfl rfl rfl (by decide +kernel) ⟨Nat.le_of_ble_eq_true rfl, Nat.le_of_ble_eq_true rfl⟩) dX6_isWhole_19 rfl rfl (Nat.le_of_ble_eq_true rfl) ⟨Nat.le_of_ble_eq_true rfl, Nat.le_of_ble_eq_true rfl⟩ rfl rfl rfl (by decide) (fun _ => rfl) (fun _ => rfl) (fun _ => rfl) (fun _ => rfl) (fun r5 _ hw => ?_)
      refine g_istore_n X [(1, .int r5), (0, .ref (a 0)), (2, .int x2)] dX6_isWhole_22 rfl (by decide) rfl ?_
      refine g_iinc X [(2, .int (x2 + 1)), (1, .int r5), (0, .ref (a 0))] 2 dX6_isWhole_23 rfl rfl (by decide) rfl ?_
      refine g_goto X 4 dX6_isWhole_26 (by decide) ?_
      refine g_sub [(0, .ref (a 0)), (1, .int r5), (2, .int (x2 + 1))] [2, 1, 0] rfl ?_
      exact ih _ _ hw

set_option maxHeartbeats 4000000 in
set_option maxRecDepth 20000 in
theorem kX6_isWhole (l : Launch) (D : va_G) (ct : Nat → ClassId) (a : Nat → Nat) (tx : Mem) (post : Int32 → Prop) (hw : PX6_isWhole tx post) : Ci (S := Unit) l yX6_isWhole wsX6_isWhole rmX6_isWhole D (tyz ct) [.ref (a 0)] (wT ct a tx) (fun r (_ : Unit) => post r) (fun _ => wT ct a tx) 0 0 := by
  intro sz
  refine g_of (own := RX6) (by decide) rfl rfl (Nat.le_of_ble_eq_true rfl) [(0, .ref (a 0))] rfl (fun p e s m args below meth c hsz X => ?_)
  subst hsz
  unfold PX6_isWhole at hw
  refine g_iconst (v := 0) X rfl dX6_isWhole_0 ?_
  refine g_istore_n X [(1, .int 0), (0, .ref (a 0))] dX6_isWhole_1 rfl (by decide) rfl ?_
  refine g_iconst (v := 0) X rfl dX6_isWhole_2 ?_
  refine g_istore_n X [(2, .int 0), (1, .int 0), (0, .ref (a 0))] dX6_isWhole_3 rfl (by decide) rfl ?_
  refine g_sub [(0, .ref (a 0)), (1, .int 0), (2, .int 0)] [2, 1, 0] rfl ?_
  obtain ⟨n7, hw⟩ := hw
  exact kX6_isWhole_4 l D ct a tx post X n7 _ _ hw

abbrev rmX6_startReading : Room := { frames := 0, cells := 0, slots := 0, locals := 0 }

abbrev GX6_startReading (l : Launch) (D : va_G) (ct : Nat → ClassId) (a : Nat → Nat) (post : Mem → Prop) (p : Program) (e : Env) (s : State) (m : MethodId) (args : Array Value) (below : List Frame) (meth : Method) (c : Code) (A : Nat → Prop) (w9 : va_W) (lv : List (Nat × Value)) (pc : Nat) (st : List Value) : Prop :=
  GG p l e rmX6_startReading s m args below meth c D A s.heap 1 (MQ below (va_Qv (fun (u9 : Mem) => post u9) (fun u9 t9 => Af D (tyz ct) A ((fun u9 => wT ct a u9) u9) t9) A)  args s 0 0 A) w9 0 0 lv pc st

set_option maxHeartbeats 4000000 in
set_option maxRecDepth 20000 in
theorem kX6_startReading (l : Launch) (D : va_G) (ct : Nat → ClassId) (a : Nat → Nat) (tx : Mem) (post : Mem → Prop) (hw : PX6_startReading tx post) : Cv (S := Mem) l yX6_startReading wsX6_startReading rmX6_startReading D (tyz ct) [.ref (a 0)] (wT ct a tx) (fun (u9 : Mem) => post u9) (fun u9 => wT ct a u9) 0 0 := by
  intro sz
  refine g_of (own := RX6) (by decide) rfl rfl (Nat.le_of_ble_eq_true rfl) [(0, .ref (a 0))] rfl (fun p e s m args below meth c hsz X => ?_)
  subst hsz
  unfold PX6_startReading at hw
  refine g_aload_n X 0 dX6_startReading_0 rfl rfl ?_
  refine g_iconst (v := 0) X rfl dX6_startReading_1 ?_
  refine g_put (T := TX6) (C := RX6) (N := 6) X (fun z => wT ct a z) tx 0 2 tyX6 tyX6_ok nmX6 (fun _ h => (List.mem_cons_of_mem _ (List.mem_append_right _ h))) (List.mem_of_getElem? (i := 1) rfl) dX6_startReading_2 rfl rfl (by decide) rfl rfl (by decide +kernel) (Nat.le_of_ble_eq_true rfl) rfl (fun tx1 htx1 => ?_)
  replace hw := hw tx1 htx1
  exact g_vret X tx1 hw rfl (Nat.le_of_ble_eq_true rfl) (Nat.le_of_ble_eq_true rfl) dX6_startReading_5

abbrev rmX6_readNumber : Room := { frames := 1, cells := 0, slots := 0, locals := 21 }

abbrev GX6_readNumber (l : Launch) (D : va_G) (ct : Nat → ClassId) (a : Nat → Nat) (post : Int32 → Mem → Prop) (p : Program) (e : Env) (s : State) (m : MethodId) (args : Array Value) (below : List Frame) (meth : Method) (c : Code) (A : Nat → Prop) (w9 : va_W) (lv : List (Nat × Value)) (pc : Nat) (st : List Value) : Prop :=
  GG p l e rmX6_readNumber s m args below meth c D A s.heap 2 (MQ below (va_Qi (fun r (u9 : Mem) => post r u9) (fun u9 t9 => Af D (tyz ct) A ((fun u9 => wT ct a u9) u9) t9) A)  args s 0 0 A) w9 0 0 lv pc st

set_option maxHeartbeats 4000000 in
set_option maxRecDepth 20000 in
theorem kX6_readNumber_2 (l : Launch) (D : va_G) (ct : Nat → ClassId) (a : Nat → Nat) (post : Int32 → Mem → Prop) {p : Program} {e : Env} {s : State} {m : MethodId} {args : Array Value} {below : List Frame} {meth : Method} {c : Code} {A : Nat → Prop} (X : Cx p s m args meth c cX6_readNumber 2 RX6 wsX6_readNumber D (tyz ct) A s.heap (some .int))  :
    ∀ (n : Nat) (tx : Mem) (x1 : Int32), PX6_readNumber_2 post n tx x1 → GX6_readNumber l D ct a  post p e s m args below meth c A (wT ct a tx) [(0, .ref (a 0)), (1, .int x1)] 2 [] := by
  intro n
  induction n with
  | zero =>
    intro tx x1 hw
    exact hw.elim
  | succ n ih =>
    intro tx x1 hw
    unfold PX6_readNumber_2 at hw
    refine g_aload_n X 0 dX6_readNumber_2 rfl rfl ?_
    refine g_aload_n X 0 dX6_readNumber_3 rfl rfl ?_
    refine g_get (T := TX6) (C := RX6) (N := 6) (v := .int (tx 2 0)) X 0 2 (fun _ h => (List.mem_cons_of_mem _ (List.mem_append_right _ h))) (List.mem_of_getElem? (i := 1) rfl) dX6_readNumber_4 rfl rfl (by decide) rfl rfl ?_
    refine g_ciV X [wT ct a tx] (fun (_ : Unit) => [wT ct a tx]) (fun _ => wT ct a tx) 1 [0] [] 0 (kX6_codeAt l D ct a tx (tx 2 0) _ hw) (cwV 1 X.1.2.2.2.2 gX6_readNumber_X6_codeAt rfl rfl rfl (by decide +kernel) ⟨Nat.le_of_ble_eq_true rfl, Nat.le_of_ble_eq_true rfl⟩) dX6_readNumber_7 rfl rfl (Nat.le_of_ble_eq_true rfl) ⟨Nat.le_of_ble_eq_true rfl, Nat.le_of_ble_eq_true rfl⟩ rfl rfl rfl (by decide) (fun _ => rfl) (fun _ => rfl) (fun _ => rfl) (fun _ => rfl) rfl rfl rfl (fun r1 _ hw => ?_)
    refine g_ciS X [wT ct a tx] (fun (_ : Unit) => [wT ct a tx]) (fun _ => wT ct a tx) 1 [] [0] (kX6_isDigit l D ct  r1 _ hw) (va_cwS 1 X.1.2.2.2.2 gX6_readNumber_X6_isDigit rfl rfl rfl (by decide +kernel) ⟨Nat.le_of_ble_eq_true rfl, Nat.le_of_ble_eq_true rfl⟩) dX6_readNumber_10 rfl rfl (Nat.le_of_ble_eq_true rfl) ⟨Nat.le_of_ble_eq_true rfl, Nat.le_of_ble_eq_true rfl⟩ rfl rfl rfl (by decide) (fun _ => rfl) (fun _ => rfl) (fun _ => rfl) (fun _ => rfl) (fun r3 _ hw => ?_)
    refine g_if_eq X 57 dX6_readNumber_13 (by decide) (fun c5 => ?_) (fun c5 => ?_)
    · replace hw := hw.1 c5
      refine g_iload_n X 1 dX6_readNumber_57 rfl rfl ?_
      exact g_iret X tx hw rfl (Nat.le_of_ble_eq_true rfl) (Nat.le_of_ble_eq_true rfl) dX6_readNumber_58
    · replace hw := hw.2 c5
      refine g_aload_n X 0 dX6_readNumber_16 rfl rfl ?_
      refine g_get (T := TX6) (C := RX6) (N := 6) (v := .int (tx 2 0)) X 0 2 (fun _ h => (List.mem_cons_of_mem _ (List.mem_append_right _ h))) (List.mem_of_getElem? (i := 1) rfl) dX6_readNumber_17 rfl rfl (by decide) rfl rfl ?_
      refine g_aload_n X 0 dX6_readNumber_20 rfl rfl ?_
      refine g_get (T := TX6) (C := RX6) (N := 6) (v := .int (tx 1 0)) X 0 1 (fun _ h => (List.mem_cons_of_mem _ (List.mem_append_right _ h))) (List.mem_of_getElem? (i := 2) rfl) dX6_readNumber_21 rfl rfl (by decide) rfl rfl ?_
      refine g_icmp_ge X 57 dX6_readNumber_24 (by decide) (fun c6 => ?_) (fun c6 => ?_)
      · replace hw := hw.1 c6
        refine g_iload_n X 1 dX6_readNumber_57 rfl rfl ?_
        exact g_iret X tx hw rfl (Nat.le_of_ble_eq_true rfl) (Nat.le_of_ble_eq_true rfl) dX6_readNumber_58
      · replace hw := hw.2 c6
        refine g_bipush (v := 10) X rfl dX6_readNumber_27 ?_
        refine g_iload_n X 1 dX6_readNumber_29 rfl rfl ?_
        refine g_imul X dX6_readNumber_30 ?_
        refine g_aload_n X 0 dX6_readNumber_31 rfl rfl ?_
        refine g_aload_n X 0 dX6_readNumber_32 rfl rfl ?_
        refine g_get (T := TX6) (C := RX6) (N := 6) (v := .int (tx 2 0)) X 0 2 (fun _ h => (List.mem_cons_of_mem _ (List.mem_append_right _ h))) (List.mem_of_getElem? (i := 1) rfl) dX6_readNumber_33 rfl rfl (by decide) rfl rfl ?_
        refine g_ciV X [wT ct a tx] (fun (_ : Unit) => [wT ct a tx]) (fun _ => wT ct a tx) 1 [0] [] 0 (kX6_codeAt l D ct a tx (tx 2 0) _ hw) (cwV 1 X.1.2.2.2.2 gX6_readNumber_X6_codeAt rfl rfl rfl (by decide +kernel) ⟨Nat.le_of_ble_eq_true rfl, Nat.le_of_ble_eq_true rfl⟩) dX6_readNumber_36 rfl rfl (Nat.le_of_ble_eq_true rfl) ⟨Nat.le_of_ble_eq_true rfl, Nat.le_of_ble_eq_true rfl⟩ rfl rfl rfl (by decide) (fun _ => rfl) (fun _ => rfl) (fun _ => rfl) (fun _ => rfl) rfl rfl rfl (fun r7 _ hw => ?_)
        refine g_iadd X dX6_readNumber_39 ?_
        refine g_bipush (v := 48) X rfl dX6_readNumber_40 ?_
        refine g_isub X dX6_readNumber_42 ?_
        refine g_topi (fun q9 hq9 => ?_)
        replace hw := hw q9 hq9
        refine g_istore_n X [(1, .int q9), (0, .ref (a 0))] dX6_readNumber_43 rfl (by decide) rfl ?_
        refine g_aload_n X 1 dX6_readNumber_44 rfl rfl ?_
        refine g_dup X dX6_readNumber_45 rfl ?_
        refine g_get (T := TX6) (C := RX6) (N := 6) (v := .int (tx 2 0)) X 0 2 (fun _ h => (List.mem_cons_of_mem _ (List.mem_append_right _ h))) (List.mem_of_getElem? (i := 1) rfl) dX6_readNumber_46 rfl rfl (by decide) rfl rfl ?_
        refine g_iconst (v := 1) X rfl dX6_readNumber_49 ?_
        refine g_iadd X dX6_readNumber_50 ?_
        refine g_put (T := TX6) (C := RX6) (N := 6) X (fun z => wT ct a z) tx 0 2 tyX6 tyX6_ok nmX6 (fun _ h => (List.mem_cons_of_mem _ (List.mem_append_right _ h))) (List.mem_of_getElem? (i := 1) rfl) dX6_readNumber_51 rfl rfl (by decide) rfl rfl (by decide +kernel) (Nat.le_of_ble_eq_true rfl) rfl (fun tx10 htx10 => ?_)
        replace hw := hw tx10 htx10
        refine g_goto X 2 dX6_readNumber_54 (by decide) ?_
        refine g_sub [(0, .ref (a 0)), (1, .int q9)] [1, 0] rfl ?_
        exact ih _ _ hw

set_option maxHeartbeats 4000000 in
set_option maxRecDepth 20000 in
theorem kX6_readNumber (l : Launch) (D : va_G) (ct : Nat → ClassId) (a : Nat → Nat) (tx : Mem) (post : Int32 → Mem → Prop) (hw : PX6_readNumber tx post) : Ci (S := Mem) l yX6_readNumber wsX6_readNumber rmX6_readNumber D (tyz ct) [.ref (a 0)] (wT ct a tx) (fun r (u9 : Mem) => post r u9) (fun u9 => wT ct a u9) 0 0 := by
  intro sz
  refine g_of (own := RX6) (by decide) rfl rfl (Nat.le_of_ble_eq_true rfl) [(0, .ref (a 0))] rfl (fun p e s m args below meth c hsz X => ?_)
  subst hsz
  unfold PX6_readNumber at hw
  refine g_iconst (v := 0) X rfl dX6_readNumber_0 ?_
  refine g_istore_n X [(1, .int 0), (0, .ref (a 0))] dX6_readNumber_1 rfl (by decide) rfl ?_
  refine g_sub [(0, .ref (a 0)), (1, .int 0)] [1, 0] rfl ?_
  obtain ⟨n11, hw⟩ := hw
  exact kX6_readNumber_2 l D ct a post X n11 _ _ hw

abbrev rmX6_readItem : Room := { frames := 2, cells := 0, slots := 0, locals := 42 }

abbrev GX6_readItem (l : Launch) (D : va_G) (ct : Nat → ClassId) (a : Nat → Nat) (post : Int32 → Mem → Prop) (p : Program) (e : Env) (s : State) (m : MethodId) (args : Array Value) (below : List Frame) (meth : Method) (c : Code) (A : Nat → Prop) (w9 : va_W) (lv : List (Nat × Value)) (pc : Nat) (st : List Value) : Prop :=
  GG p l e rmX6_readItem s m args below meth c D A s.heap 2 (MQ below (va_Qi (fun r (u9 : Mem) => post r u9) (fun u9 t9 => Af D (tyz ct) A ((fun u9 => wT ct a u9) u9) t9) A)  args s 0 0 A) w9 0 0 lv pc st

set_option maxHeartbeats 4000000 in
set_option maxRecDepth 20000 in
theorem kX6_readItem_111 (l : Launch) (D : va_G) (ct : Nat → ClassId) (a : Nat → Nat) (post : Int32 → Mem → Prop) {p : Program} {e : Env} {s : State} {m : MethodId} {args : Array Value} {below : List Frame} {meth : Method} {c : Code} {A : Nat → Prop} (X : Cx p s m args meth c cX6_readItem 2 RX6 wsX6_readItem D (tyz ct) A s.heap (some .boolean))  :
    ∀ (tx : Mem), PX6_readItem_111 post tx → GX6_readItem l D ct a  post p e s m args below meth c A (wT ct a tx) [(0, .ref (a 0))] 111 [] := by
  intro tx hw
  unfold PX6_readItem_111 at hw
  refine g_aload_n X 0 dX6_readItem_111 rfl rfl ?_
  refine g_dup X dX6_readItem_112 rfl ?_
  refine g_get (T := TX6) (C := RX6) (N := 6) (v := .int (tx 2 0)) X 0 2 (fun _ h => (List.mem_cons_of_mem _ (List.mem_append_right _ h))) (List.mem_of_getElem? (i := 1) rfl) dX6_readItem_113 rfl rfl (by decide) rfl rfl ?_
  refine g_iconst (v := 1) X rfl dX6_readItem_116 ?_
  refine g_iadd X dX6_readItem_117 ?_
  refine g_put (T := TX6) (C := RX6) (N := 6) X (fun z => wT ct a z) tx 0 2 tyX6 tyX6_ok nmX6 (fun _ h => (List.mem_cons_of_mem _ (List.mem_append_right _ h))) (List.mem_of_getElem? (i := 1) rfl) dX6_readItem_118 rfl rfl (by decide) rfl rfl (by decide +kernel) (Nat.le_of_ble_eq_true rfl) rfl (fun tx11 htx11 => ?_)
  replace hw := hw tx11 htx11
  refine g_iconst (v := 1) X rfl dX6_readItem_121 ?_
  exact g_zret X tx11 isB_1 hw rfl (Nat.le_of_ble_eq_true rfl) (Nat.le_of_ble_eq_true rfl) dX6_readItem_122

set_option maxHeartbeats 4000000 in
set_option maxRecDepth 20000 in
theorem kX6_readItem (l : Launch) (D : va_G) (ct : Nat → ClassId) (a : Nat → Nat) (tx : Mem) (post : Int32 → Mem → Prop) (hw : PX6_readItem tx post) : Ci (S := Mem) l yX6_readItem wsX6_readItem rmX6_readItem D (tyz ct) [.ref (a 0)] (wT ct a tx) (fun r (u9 : Mem) => post r u9) (fun u9 => wT ct a u9) 0 0 := by
  intro sz
  refine g_of (own := RX6) (by decide) rfl rfl (Nat.le_of_ble_eq_true rfl) [(0, .ref (a 0))] rfl (fun p e s m args below meth c hsz X => ?_)
  subst hsz
  unfold PX6_readItem at hw
  refine g_aload_n X 0 dX6_readItem_0 rfl rfl ?_
  refine g_aload_n X 0 dX6_readItem_1 rfl rfl ?_
  refine g_get (T := TX6) (C := RX6) (N := 6) (v := .int (tx 2 0)) X 0 2 (fun _ h => (List.mem_cons_of_mem _ (List.mem_append_right _ h))) (List.mem_of_getElem? (i := 1) rfl) dX6_readItem_2 rfl rfl (by decide) rfl rfl ?_
  refine g_ciV X [wT ct a tx] (fun (_ : Unit) => [wT ct a tx]) (fun _ => wT ct a tx) 1 [0] [] 0 (kX6_codeAt l D ct a tx (tx 2 0) _ hw) (cwV 1 X.1.2.2.2.2 gX6_readItem_X6_codeAt rfl rfl rfl (by decide +kernel) ⟨Nat.le_of_ble_eq_true rfl, Nat.le_of_ble_eq_true rfl⟩) dX6_readItem_5 rfl rfl (Nat.le_of_ble_eq_true rfl) ⟨Nat.le_of_ble_eq_true rfl, Nat.le_of_ble_eq_true rfl⟩ rfl rfl rfl (by decide) (fun _ => rfl) (fun _ => rfl) (fun _ => rfl) (fun _ => rfl) rfl rfl rfl (fun r1 _ hw => ?_)
  refine g_istore_n X [(1, .int r1), (0, .ref (a 0))] dX6_readItem_8 rfl (by decide) rfl ?_
  refine g_iload_n X 0 dX6_readItem_9 rfl rfl ?_
  refine g_iconst (v := (-1)) X rfl dX6_readItem_10 ?_
  refine g_icmp_ne X 16 dX6_readItem_11 (by decide) (fun c3 => ?_) (fun c3 => ?_)
  · replace hw := hw.1 c3
    refine g_iload_n X 0 dX6_readItem_16 rfl rfl ?_
    refine g_bipush (v := 43) X rfl dX6_readItem_17 ?_
    refine g_icmp_ne X 66 dX6_readItem_19 (by decide) (fun c4 => ?_) (fun c4 => ?_)
    · replace hw := hw.1 c4
      refine g_iload_n X 0 dX6_readItem_66 rfl rfl ?_
      refine g_bipush (v := 94) X rfl dX6_readItem_67 ?_
      refine g_icmp_ne X 98 dX6_readItem_69 (by decide) (fun c5 => ?_) (fun c5 => ?_)
      · replace hw := hw.1 c5
        refine g_aload_n X 1 dX6_readItem_98 rfl rfl ?_
        refine g_iconst (v := 0) X rfl dX6_readItem_99 ?_
        refine g_put (T := TX6) (C := RX6) (N := 6) X (fun z => wT ct a z) tx 0 3 tyX6 tyX6_ok nmX6 (fun _ h => (List.mem_cons_of_mem _ (List.mem_append_right _ h))) (List.mem_of_getElem? (i := 2) rfl) dX6_readItem_100 rfl rfl (by decide) rfl rfl (by decide +kernel) (Nat.le_of_ble_eq_true rfl) rfl (fun tx6 htx6 => ?_)
        replace hw := hw tx6 htx6
        refine g_aload_n X 1 dX6_readItem_103 rfl rfl ?_
        refine g_aload_n X 1 dX6_readItem_104 rfl rfl ?_
        refine g_ciV X [wT ct a tx6] (fun (u8 : Mem) => [wT ct a u8]) (fun (u8 : Mem) => wT ct a u8) 1 [0] [] 0 (kX6_readNumber l D ct a tx6 _ hw) (cwV 0 X.1.2.2.2.2 gX6_readItem_X6_readNumber rfl rfl rfl (by decide +kernel) ⟨Nat.le_of_ble_eq_true rfl, Nat.le_of_ble_eq_true rfl⟩) dX6_readItem_105 rfl rfl (Nat.le_of_ble_eq_true rfl) ⟨Nat.le_of_ble_eq_true rfl, Nat.le_of_ble_eq_true rfl⟩ rfl rfl rfl (by decide) (fun _ => rfl) (fun _ => rfl) (fun _ => rfl) (fun _ => rfl) rfl rfl rfl (fun r7 u8 hw => ?_)
        obtain ⟨tx9, htx9⟩ : ∃ z : Mem, z = u8 := ⟨_, rfl⟩
        rw [← htx9] at hw
        rw [← htx9]
        refine g_put (T := TX6) (C := RX6) (N := 6) X (fun z => wT ct a z) tx9 0 4 tyX6 tyX6_ok nmX6 (fun _ h => (List.mem_cons_of_mem _ (List.mem_append_right _ h))) (List.mem_of_getElem? (i := 3) rfl) dX6_readItem_108 rfl rfl (by decide) rfl rfl (by decide +kernel) (Nat.le_of_ble_eq_true rfl) rfl (fun tx10 htx10 => ?_)
        replace hw := hw tx10 htx10
        refine g_sub [(0, .ref (a 0))] [1] rfl ?_
        exact kX6_readItem_111 l D ct a post X _ hw
      · replace hw := hw.2 c5
        refine g_aload_n X 1 dX6_readItem_72 rfl rfl ?_
        refine g_iconst (v := 2) X rfl dX6_readItem_73 ?_
        refine g_put (T := TX6) (C := RX6) (N := 6) X (fun z => wT ct a z) tx 0 3 tyX6 tyX6_ok nmX6 (fun _ h => (List.mem_cons_of_mem _ (List.mem_append_right _ h))) (List.mem_of_getElem? (i := 2) rfl) dX6_readItem_74 rfl rfl (by decide) rfl rfl (by decide +kernel) (Nat.le_of_ble_eq_true rfl) rfl (fun tx12 htx12 => ?_)
        replace hw := hw tx12 htx12
        refine g_aload_n X 1 dX6_readItem_77 rfl rfl ?_
        refine g_dup X dX6_readItem_78 rfl ?_
        refine g_get (T := TX6) (C := RX6) (N := 6) (v := .int (tx12 2 0)) X 0 2 (fun _ h => (List.mem_cons_of_mem _ (List.mem_append_right _ h))) (List.mem_of_getElem? (i := 1) rfl) dX6_readItem_79 rfl rfl (by decide) rfl rfl ?_
        refine g_iconst (v := 1) X rfl dX6_readItem_82 ?_
        refine g_iadd X dX6_readItem_83 ?_
        refine g_put (T := TX6) (C := RX6) (N := 6) X (fun z => wT ct a z) tx12 0 2 tyX6 tyX6_ok nmX6 (fun _ h => (List.mem_cons_of_mem _ (List.mem_append_right _ h))) (List.mem_of_getElem? (i := 1) rfl) dX6_readItem_84 rfl rfl (by decide) rfl rfl (by decide +kernel) (Nat.le_of_ble_eq_true rfl) rfl (fun tx13 htx13 => ?_)
        replace hw := hw tx13 htx13
        refine g_aload_n X 1 dX6_readItem_87 rfl rfl ?_
        refine g_aload_n X 1 dX6_readItem_88 rfl rfl ?_
        refine g_ciV X [wT ct a tx13] (fun (u15 : Mem) => [wT ct a u15]) (fun (u15 : Mem) => wT ct a u15) 1 [0] [] 0 (kX6_readNumber l D ct a tx13 _ hw) (cwV 0 X.1.2.2.2.2 gX6_readItem_X6_readNumber rfl rfl rfl (by decide +kernel) ⟨Nat.le_of_ble_eq_true rfl, Nat.le_of_ble_eq_true rfl⟩) dX6_readItem_89 rfl rfl (Nat.le_of_ble_eq_true rfl) ⟨Nat.le_of_ble_eq_true rfl, Nat.le_of_ble_eq_true rfl⟩ rfl rfl rfl (by decide) (fun _ => rfl) (fun _ => rfl) (fun _ => rfl) (fun _ => rfl) rfl rfl rfl (fun r14 u15 hw => ?_)
        obtain ⟨tx16, htx16⟩ : ∃ z : Mem, z = u15 := ⟨_, rfl⟩
        rw [← htx16] at hw
        rw [← htx16]
        refine g_put (T := TX6) (C := RX6) (N := 6) X (fun z => wT ct a z) tx16 0 4 tyX6 tyX6_ok nmX6 (fun _ h => (List.mem_cons_of_mem _ (List.mem_append_right _ h))) (List.mem_of_getElem? (i := 3) rfl) dX6_readItem_92 rfl rfl (by decide) rfl rfl (by decide +kernel) (Nat.le_of_ble_eq_true rfl) rfl (fun tx17 htx17 => ?_)
        replace hw := hw tx17 htx17
        refine g_goto X 111 dX6_readItem_95 (by decide) ?_
        refine g_sub [(0, .ref (a 0))] [1] rfl ?_
        exact kX6_readItem_111 l D ct a post X _ hw
    · replace hw := hw.2 c4
      refine g_aload_n X 1 dX6_readItem_22 rfl rfl ?_
      refine g_iconst (v := 1) X rfl dX6_readItem_23 ?_
      refine g_put (T := TX6) (C := RX6) (N := 6) X (fun z => wT ct a z) tx 0 3 tyX6 tyX6_ok nmX6 (fun _ h => (List.mem_cons_of_mem _ (List.mem_append_right _ h))) (List.mem_of_getElem? (i := 2) rfl) dX6_readItem_24 rfl rfl (by decide) rfl rfl (by decide +kernel) (Nat.le_of_ble_eq_true rfl) rfl (fun tx18 htx18 => ?_)
      replace hw := hw tx18 htx18
      refine g_aload_n X 1 dX6_readItem_27 rfl rfl ?_
      refine g_dup X dX6_readItem_28 rfl ?_
      refine g_get (T := TX6) (C := RX6) (N := 6) (v := .int (tx18 2 0)) X 0 2 (fun _ h => (List.mem_cons_of_mem _ (List.mem_append_right _ h))) (List.mem_of_getElem? (i := 1) rfl) dX6_readItem_29 rfl rfl (by decide) rfl rfl ?_
      refine g_iconst (v := 1) X rfl dX6_readItem_32 ?_
      refine g_iadd X dX6_readItem_33 ?_
      refine g_put (T := TX6) (C := RX6) (N := 6) X (fun z => wT ct a z) tx18 0 2 tyX6 tyX6_ok nmX6 (fun _ h => (List.mem_cons_of_mem _ (List.mem_append_right _ h))) (List.mem_of_getElem? (i := 1) rfl) dX6_readItem_34 rfl rfl (by decide) rfl rfl (by decide +kernel) (Nat.le_of_ble_eq_true rfl) rfl (fun tx19 htx19 => ?_)
      replace hw := hw tx19 htx19
      refine g_aload_n X 1 dX6_readItem_37 rfl rfl ?_
      refine g_aload_n X 1 dX6_readItem_38 rfl rfl ?_
      refine g_ciV X [wT ct a tx19] (fun (u21 : Mem) => [wT ct a u21]) (fun (u21 : Mem) => wT ct a u21) 1 [0] [] 0 (kX6_readNumber l D ct a tx19 _ hw) (cwV 0 X.1.2.2.2.2 gX6_readItem_X6_readNumber rfl rfl rfl (by decide +kernel) ⟨Nat.le_of_ble_eq_true rfl, Nat.le_of_ble_eq_true rfl⟩) dX6_readItem_39 rfl rfl (Nat.le_of_ble_eq_true rfl) ⟨Nat.le_of_ble_eq_true rfl, Nat.le_of_ble_eq_true rfl⟩ rfl rfl rfl (by decide) (fun _ => rfl) (fun _ => rfl) (fun _ => rfl) (fun _ => rfl) rfl rfl rfl (fun r20 u21 hw => ?_)
      obtain ⟨tx22, htx22⟩ : ∃ z : Mem, z = u21 := ⟨_, rfl⟩
      rw [← htx22] at hw
      rw [← htx22]
      refine g_put (T := TX6) (C := RX6) (N := 6) X (fun z => wT ct a z) tx22 0 4 tyX6 tyX6_ok nmX6 (fun _ h => (List.mem_cons_of_mem _ (List.mem_append_right _ h))) (List.mem_of_getElem? (i := 3) rfl) dX6_readItem_42 rfl rfl (by decide) rfl rfl (by decide +kernel) (Nat.le_of_ble_eq_true rfl) rfl (fun tx23 htx23 => ?_)
      replace hw := hw tx23 htx23
      refine g_aload_n X 1 dX6_readItem_45 rfl rfl ?_
      refine g_dup X dX6_readItem_46 rfl ?_
      refine g_get (T := TX6) (C := RX6) (N := 6) (v := .int (tx23 2 0)) X 0 2 (fun _ h => (List.mem_cons_of_mem _ (List.mem_append_right _ h))) (List.mem_of_getElem? (i := 1) rfl) dX6_readItem_47 rfl rfl (by decide) rfl rfl ?_
      refine g_iconst (v := 1) X rfl dX6_readItem_50 ?_
      refine g_iadd X dX6_readItem_51 ?_
      refine g_put (T := TX6) (C := RX6) (N := 6) X (fun z => wT ct a z) tx23 0 2 tyX6 tyX6_ok nmX6 (fun _ h => (List.mem_cons_of_mem _ (List.mem_append_right _ h))) (List.mem_of_getElem? (i := 1) rfl) dX6_readItem_52 rfl rfl (by decide) rfl rfl (by decide +kernel) (Nat.le_of_ble_eq_true rfl) rfl (fun tx24 htx24 => ?_)
      replace hw := hw tx24 htx24
      refine g_aload_n X 1 dX6_readItem_55 rfl rfl ?_
      refine g_aload_n X 1 dX6_readItem_56 rfl rfl ?_
      refine g_ciV X [wT ct a tx24] (fun (u26 : Mem) => [wT ct a u26]) (fun (u26 : Mem) => wT ct a u26) 1 [0] [] 0 (kX6_readNumber l D ct a tx24 _ hw) (cwV 0 X.1.2.2.2.2 gX6_readItem_X6_readNumber rfl rfl rfl (by decide +kernel) ⟨Nat.le_of_ble_eq_true rfl, Nat.le_of_ble_eq_true rfl⟩) dX6_readItem_57 rfl rfl (Nat.le_of_ble_eq_true rfl) ⟨Nat.le_of_ble_eq_true rfl, Nat.le_of_ble_eq_true rfl⟩ rfl rfl rfl (by decide) (fun _ => rfl) (fun _ => rfl) (fun _ => rfl) (fun _ => rfl) rfl rfl rfl (fun r25 u26 hw => ?_)
      obtain ⟨tx27, htx27⟩ : ∃ z : Mem, z = u26 := ⟨_, rfl⟩
      rw [← htx27] at hw
      rw [← htx27]
      refine g_put (T := TX6) (C := RX6) (N := 6) X (fun z => wT ct a z) tx27 0 5 tyX6 tyX6_ok nmX6 (fun _ h => (List.mem_cons_of_mem _ (List.mem_append_right _ h))) (List.mem_of_getElem? (i := 4) rfl) dX6_readItem_60 rfl rfl (by decide) rfl rfl (by decide +kernel) (Nat.le_of_ble_eq_true rfl) rfl (fun tx28 htx28 => ?_)
      replace hw := hw tx28 htx28
      refine g_goto X 111 dX6_readItem_63 (by decide) ?_
      refine g_sub [(0, .ref (a 0))] [1] rfl ?_
      exact kX6_readItem_111 l D ct a post X _ hw
  · replace hw := hw.2 c3
    refine g_iconst (v := 0) X rfl dX6_readItem_14 ?_
    exact g_zret X tx isB_0 hw rfl (Nat.le_of_ble_eq_true rfl) (Nat.le_of_ble_eq_true rfl) dX6_readItem_15

abbrev rmX6_itemKind : Room := { frames := 0, cells := 0, slots := 0, locals := 0 }

abbrev GX6_itemKind (l : Launch) (D : va_G) (ct : Nat → ClassId) (a : Nat → Nat) (tx : Mem) (post : Int32 → Prop) (p : Program) (e : Env) (s : State) (m : MethodId) (args : Array Value) (below : List Frame) (meth : Method) (c : Code) (A : Nat → Prop) (w9 : va_W) (lv : List (Nat × Value)) (pc : Nat) (st : List Value) : Prop :=
  GG p l e rmX6_itemKind s m args below meth c D A s.heap 1 (MQ below (va_Qi (fun r (_ : Unit) => post r) (fun u9 t9 => Af D (tyz ct) A ((fun _ => wT ct a tx) u9) t9) A)  args s 0 0 A) w9 0 0 lv pc st

set_option maxHeartbeats 4000000 in
set_option maxRecDepth 20000 in
theorem kX6_itemKind (l : Launch) (D : va_G) (ct : Nat → ClassId) (a : Nat → Nat) (tx : Mem) (post : Int32 → Prop) (hw : PX6_itemKind tx post) : Ci (S := Unit) l yX6_itemKind wsX6_itemKind rmX6_itemKind D (tyz ct) [.ref (a 0)] (wT ct a tx) (fun r (_ : Unit) => post r) (fun _ => wT ct a tx) 0 0 := by
  intro sz
  refine g_of (own := RX6) (by decide) rfl rfl (Nat.le_of_ble_eq_true rfl) [(0, .ref (a 0))] rfl (fun p e s m args below meth c hsz X => ?_)
  subst hsz
  unfold PX6_itemKind at hw
  refine g_aload_n X 0 dX6_itemKind_0 rfl rfl ?_
  refine g_get (T := TX6) (C := RX6) (N := 6) (v := .int (tx 3 0)) X 0 3 (fun _ h => (List.mem_cons_of_mem _ (List.mem_append_right _ h))) (List.mem_of_getElem? (i := 1) rfl) dX6_itemKind_1 rfl rfl (by decide) rfl rfl ?_
  exact g_iret X () hw rfl (Nat.le_of_ble_eq_true rfl) (Nat.le_of_ble_eq_true rfl) dX6_itemKind_4

abbrev rmX6_firstNumber : Room := { frames := 0, cells := 0, slots := 0, locals := 0 }

abbrev GX6_firstNumber (l : Launch) (D : va_G) (ct : Nat → ClassId) (a : Nat → Nat) (tx : Mem) (post : Int32 → Prop) (p : Program) (e : Env) (s : State) (m : MethodId) (args : Array Value) (below : List Frame) (meth : Method) (c : Code) (A : Nat → Prop) (w9 : va_W) (lv : List (Nat × Value)) (pc : Nat) (st : List Value) : Prop :=
  GG p l e rmX6_firstNumber s m args below meth c D A s.heap 1 (MQ below (va_Qi (fun r (_ : Unit) => post r) (fun u9 t9 => Af D (tyz ct) A ((fun _ => wT ct a tx) u9) t9) A)  args s 0 0 A) w9 0 0 lv pc st

set_option maxHeartbeats 4000000 in
set_option maxRecDepth 20000 in
theorem kX6_firstNumber (l : Launch) (D : va_G) (ct : Nat → ClassId) (a : Nat → Nat) (tx : Mem) (post : Int32 → Prop) (hw : PX6_firstNumber tx post) : Ci (S := Unit) l yX6_firstNumber wsX6_firstNumber rmX6_firstNumber D (tyz ct) [.ref (a 0)] (wT ct a tx) (fun r (_ : Unit) => post r) (fun _ => wT ct a tx) 0 0 := by
  intro sz
  refine g_of (own := RX6) (by decide) rfl rfl (Nat.le_of_ble_eq_true rfl) [(0, .ref (a 0))] rfl (fun p e s m args below meth c hsz X => ?_)
  subst hsz
  unfold PX6_firstNumber at hw
  refine g_aload_n X 0 dX6_firstNumber_0 rfl rfl ?_
  refine g_get (T := TX6) (C := RX6) (N := 6) (v := .int (tx 4 0)) X 0 4 (fun _ h => (List.mem_cons_of_mem _ (List.mem_append_right _ h))) (List.mem_of_getElem? (i := 1) rfl) dX6_firstNumber_1 rfl rfl (by decide) rfl rfl ?_
  exact g_iret X () hw rfl (Nat.le_of_ble_eq_true rfl) (Nat.le_of_ble_eq_true rfl) dX6_firstNumber_4

abbrev rmX6_secondNumber : Room := { frames := 0, cells := 0, slots := 0, locals := 0 }

abbrev GX6_secondNumber (l : Launch) (D : va_G) (ct : Nat → ClassId) (a : Nat → Nat) (tx : Mem) (post : Int32 → Prop) (p : Program) (e : Env) (s : State) (m : MethodId) (args : Array Value) (below : List Frame) (meth : Method) (c : Code) (A : Nat → Prop) (w9 : va_W) (lv : List (Nat × Value)) (pc : Nat) (st : List Value) : Prop :=
  GG p l e rmX6_secondNumber s m args below meth c D A s.heap 1 (MQ below (va_Qi (fun r (_ : Unit) => post r) (fun u9 t9 => Af D (tyz ct) A ((fun _ => wT ct a tx) u9) t9) A)  args s 0 0 A) w9 0 0 lv pc st

set_option maxHeartbeats 4000000 in
set_option maxRecDepth 20000 in
theorem kX6_secondNumber (l : Launch) (D : va_G) (ct : Nat → ClassId) (a : Nat → Nat) (tx : Mem) (post : Int32 → Prop) (hw : PX6_secondNumber tx post) : Ci (S := Unit) l yX6_secondNumber wsX6_secondNumber rmX6_secondNumber D (tyz ct) [.ref (a 0)] (wT ct a tx) (fun r (_ : Unit) => post r) (fun _ => wT ct a tx) 0 0 := by
  intro sz
  refine g_of (own := RX6) (by decide) rfl rfl (Nat.le_of_ble_eq_true rfl) [(0, .ref (a 0))] rfl (fun p e s m args below meth c hsz X => ?_)
  subst hsz
  unfold PX6_secondNumber at hw
  refine g_aload_n X 0 dX6_secondNumber_0 rfl rfl ?_
  refine g_get (T := TX6) (C := RX6) (N := 6) (v := .int (tx 5 0)) X 0 5 (fun _ h => (List.mem_cons_of_mem _ (List.mem_append_right _ h))) (List.mem_of_getElem? (i := 1) rfl) dX6_secondNumber_1 rfl rfl (by decide) rfl rfl ?_
  exact g_iret X () hw rfl (Nat.le_of_ble_eq_true rfl) (Nat.le_of_ble_eq_true rfl) dX6_secondNumber_4
