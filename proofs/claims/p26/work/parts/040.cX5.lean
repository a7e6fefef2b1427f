abbrev rmX5_isPerson : Room := { frames := 0, cells := 0, slots := 0, locals := 0 }

abbrev GX5_isPerson (l : Launch) (D : va_G) (ct : Nat → ClassId) (a : Nat → Nat) (v : Mem) (post : Int32 → Prop) (p : Program) (e : Env) (s : State) (m : MethodId) (args : Array Value) (below : List Frame) (meth : Method) (c : Code) (A : Nat → Prop) (w9 : va_W) (lv : List (Nat × Value)) (pc : Nat) (st : List Value) : Prop :=
  GG p l e rmX5_isPerson s m args below meth c D A s.heap 2 (MQ below (va_Qi (fun r (_ : Unit) => post r) (fun u9 t9 => Af D (tyz ct) A ((fun _ => wS ct a v) u9) t9) A)  args s 0 0 A) w9 0 0 lv pc st

set_option maxHeartbeats 4000000 in
set_option maxRecDepth 20000 in
theorem kX5_isPerson (l : Launch) (D : va_G) (ct : Nat → ClassId) (a : Nat → Nat) (v : Mem) (p1 : Int32) (post : Int32 → Prop) (hw : PX5_isPerson v p1 post) : Ci (S := Unit) l yX5_isPerson wsX5_isPerson rmX5_isPerson D (tyz ct) [.ref (a 0), .int p1] (wS ct a v) (fun r (_ : Unit) => post r) (fun _ => wS ct a v) 0 0 := by
  intro sz
  refine g_of (own := RX5) (by decide) rfl rfl (Nat.le_of_ble_eq_true rfl) [(0, .ref (a 0)), (1, .int p1)] rfl (fun p e s m args below meth c hsz X => ?_)
  subst hsz
  unfold PX5_isPerson at hw
  refine g_iload_n X 1 dX5_isPerson_0 rfl rfl ?_
  refine g_if_lt X 16 dX5_isPerson_1 (by decide) (fun c1 => ?_) (fun c1 => ?_)
  · replace hw := hw.1 c1
    refine g_iconst (v := 0) X rfl dX5_isPerson_16 ?_
    exact g_zret X () isB_0 hw rfl (Nat.le_of_ble_eq_true rfl) (Nat.le_of_ble_eq_true rfl) dX5_isPerson_17
  · replace hw := hw.2 c1
    refine g_iload_n X 1 dX5_isPerson_4 rfl rfl ?_
    refine g_aload_n X 0 dX5_isPerson_5 rfl rfl ?_
    refine g_get (T := TX5) (C := RX5) (N := 10) (v := .int (v 7 0)) X 0 7 (fun _ h => (List.mem_cons_of_mem _ (List.mem_append_right _ h))) (List.mem_of_getElem? (i := 1) rfl) dX5_isPerson_6 rfl rfl (by decide) rfl rfl ?_
    refine g_icmp_ge X 16 dX5_isPerson_9 (by decide) (fun c2 => ?_) (fun c2 => ?_)
    · replace hw := hw.1 c2
      refine g_iconst (v := 0) X rfl dX5_isPerson_16 ?_
      exact g_zret X () isB_0 hw rfl (Nat.le_of_ble_eq_true rfl) (Nat.le_of_ble_eq_true rfl) dX5_isPerson_17
    · replace hw := hw.2 c2
      refine g_iconst (v := 1) X rfl dX5_isPerson_12 ?_
      refine g_goto X 17 dX5_isPerson_13 (by decide) ?_
      exact g_zret X () isB_1 hw rfl (Nat.le_of_ble_eq_true rfl) (Nat.le_of_ble_eq_true rfl) dX5_isPerson_17

abbrev rmX5_parentsOf : Room := { frames := 1, cells := 0, slots := 0, locals := 21 }

abbrev GX5_parentsOf (l : Launch) (D : va_G) (ct : Nat → ClassId) (a : Nat → Nat) (v : Mem) (post : Int32 → Prop) (p : Program) (e : Env) (s : State) (m : MethodId) (args : Array Value) (below : List Frame) (meth : Method) (c : Code) (A : Nat → Prop) (w9 : va_W) (lv : List (Nat × Value)) (pc : Nat) (st : List Value) : Prop :=
  GG p l e rmX5_parentsOf s m args below meth c D A s.heap 2 (MQ below (va_Qi (fun r (_ : Unit) => post r) (fun u9 t9 => Af D (tyz ct) A ((fun _ => wS ct a v) u9) t9) A)  args s 0 0 A) w9 0 0 lv pc st

set_option maxHeartbeats 4000000 in
set_option maxRecDepth 20000 in
theorem kX5_parentsOf (l : Launch) (D : va_G) (ct : Nat → ClassId) (a : Nat → Nat) (v : Mem) (p1 : Int32) (post : Int32 → Prop) (hw : PX5_parentsOf v p1 post) : Ci (S := Unit) l yX5_parentsOf wsX5_parentsOf rmX5_parentsOf D (tyz ct) [.ref (a 0), .int p1] (wS ct a v) (fun r (_ : Unit) => post r) (fun _ => wS ct a v) 0 0 := by
  intro sz
  refine g_of (own := RX5) (by decide) rfl rfl (Nat.le_of_ble_eq_true rfl) [(0, .ref (a 0)), (1, .int p1)] rfl (fun p e s m args below meth c hsz X => ?_)
  subst hsz
  unfold PX5_parentsOf at hw
  refine g_aload_n X 0 dX5_parentsOf_0 rfl rfl ?_
  refine g_iload_n X 1 dX5_parentsOf_1 rfl rfl ?_
  refine g_ciV X [wS ct a v] (fun (_ : Unit) => [wS ct a v]) (fun _ => wS ct a v) 1 [0] [] 0 (kX5_isPerson l D ct a v p1 _ hw) (cwV 1 X.1.2.2.2.2 gX5_parentsOf_X5_isPerson rfl rfl rfl (by decide +kernel) ⟨Nat.le_of_ble_eq_true rfl, Nat.le_of_ble_eq_true rfl⟩) dX5_parentsOf_2 rfl rfl (Nat.le_of_ble_eq_true rfl) ⟨Nat.le_of_ble_eq_true rfl, Nat.le_of_ble_eq_true rfl⟩ rfl rfl rfl (by decide) (fun _ => rfl) (fun _ => rfl) (fun _ => rfl) (fun _ => rfl) rfl rfl rfl (fun r1 _ hw => ?_)
  refine g_if_eq X 17 dX5_parentsOf_5 (by decide) (fun c3 => ?_) (fun c3 => ?_)
  · replace hw := hw.1 c3
    refine g_iconst (v := (-1)) X rfl dX5_parentsOf_17 ?_
    exact g_iret X () hw rfl (Nat.le_of_ble_eq_true rfl) (Nat.le_of_ble_eq_true rfl) dX5_parentsOf_18
  · replace hw := hw.2 c3
    refine g_aload_n X 0 dX5_parentsOf_8 rfl rfl ?_
    refine g_get (T := TX5) (C := RX5) (N := 10) (v := .ref (a 3)) X 0 2 (fun _ h => (List.mem_cons_of_mem _ (List.mem_append_right _ h))) (List.mem_of_getElem? (i := 1) rfl) dX5_parentsOf_9 rfl rfl (by decide) rfl rfl ?_
    refine g_iload_n X 1 dX5_parentsOf_12 rfl rfl ?_
    obtain ⟨h4, hw⟩ := hw
    refine g_iald X 3 0 dX5_parentsOf_13 rfl rfl h4 ?_
    refine g_goto X 18 dX5_parentsOf_14 (by decide) ?_
    exact g_iret X () hw rfl (Nat.le_of_ble_eq_true rfl) (Nat.le_of_ble_eq_true rfl) dX5_parentsOf_18

abbrev rmX5_isCouple : Room := { frames := 0, cells := 0, slots := 0, locals := 0 }

abbrev GX5_isCouple (l : Launch) (D : va_G) (ct : Nat → ClassId) (a : Nat → Nat) (v : Mem) (post : Int32 → Prop) (p : Program) (e : Env) (s : State) (m : MethodId) (args : Array Value) (below : List Frame) (meth : Method) (c : Code) (A : Nat → Prop) (w9 : va_W) (lv : List (Nat × Value)) (pc : Nat) (st : List Value) : Prop :=
  GG p l e rmX5_isCouple s m args below meth c D A s.heap 2 (MQ below (va_Qi (fun r (_ : Unit) => post r) (fun u9 t9 => Af D (tyz ct) A ((fun _ => wS ct a v) u9) t9) A)  args s 0 0 A) w9 0 0 lv pc st

set_option maxHeartbeats 4000000 in
set_option maxRecDepth 20000 in
theorem kX5_isCouple (l : Launch) (D : va_G) (ct : Nat → ClassId) (a : Nat → Nat) (v : Mem) (p1 : Int32) (post : Int32 → Prop) (hw : PX5_isCouple v p1 post) : Ci (S := Unit) l yX5_isCouple wsX5_isCouple rmX5_isCouple D (tyz ct) [.ref (a 0), .int p1] (wS ct a v) (fun r (_ : Unit) => post r) (fun _ => wS ct a v) 0 0 := by
  intro sz
  refine g_of (own := RX5) (by decide) rfl rfl (Nat.le_of_ble_eq_true rfl) [(0, .ref (a 0)), (1, .int p1)] rfl (fun p e s m args below meth c hsz X => ?_)
  subst hsz
  unfold PX5_isCouple at hw
  refine g_iload_n X 1 dX5_isCouple_0 rfl rfl ?_
  refine g_if_lt X 16 dX5_isCouple_1 (by decide) (fun c1 => ?_) (fun c1 => ?_)
  · replace hw := hw.1 c1
    refine g_iconst (v := 0) X rfl dX5_isCouple_16 ?_
    exact g_zret X () isB_0 hw rfl (Nat.le_of_ble_eq_true rfl) (Nat.le_of_ble_eq_true rfl) dX5_isCouple_17
  · replace hw := hw.2 c1
    refine g_iload_n X 1 dX5_isCouple_4 rfl rfl ?_
    refine g_aload_n X 0 dX5_isCouple_5 rfl rfl ?_
    refine g_get (T := TX5) (C := RX5) (N := 10) (v := .int (v 8 0)) X 0 8 (fun _ h => (List.mem_cons_of_mem _ (List.mem_append_right _ h))) (List.mem_of_getElem? (i := 1) rfl) dX5_isCouple_6 rfl rfl (by decide) rfl rfl ?_
    refine g_icmp_ge X 16 dX5_isCouple_9 (by decide) (fun c2 => ?_) (fun c2 => ?_)
    · replace hw := hw.1 c2
      refine g_iconst (v := 0) X rfl dX5_isCouple_16 ?_
      exact g_zret X () isB_0 hw rfl (Nat.le_of_ble_eq_true rfl) (Nat.le_of_ble_eq_true rfl) dX5_isCouple_17
    · replace hw := hw.2 c2
      refine g_iconst (v := 1) X rfl dX5_isCouple_12 ?_
      refine g_goto X 17 dX5_isCouple_13 (by decide) ?_
      exact g_zret X () isB_1 hw rfl (Nat.le_of_ble_eq_true rfl) (Nat.le_of_ble_eq_true rfl) dX5_isCouple_17

abbrev rmX5_lesserOf : Room := { frames := 1, cells := 0, slots := 0, locals := 21 }

abbrev GX5_lesserOf (l : Launch) (D : va_G) (ct : Nat → ClassId) (a : Nat → Nat) (v : Mem) (post : Int32 → Prop) (p : Program) (e : Env) (s : State) (m : MethodId) (args : Array Value) (below : List Frame) (meth : Method) (c : Code) (A : Nat → Prop) (w9 : va_W) (lv : List (Nat × Value)) (pc : Nat) (st : List Value) : Prop :=
  GG p l e rmX5_lesserOf s m args below meth c D A s.heap 2 (MQ below (va_Qi (fun r (_ : Unit) => post r) (fun u9 t9 => Af D (tyz ct) A ((fun _ => wS ct a v) u9) t9) A)  args s 0 0 A) w9 0 0 lv pc st

set_option maxHeartbeats 4000000 in
set_option maxRecDepth 20000 in
theorem kX5_lesserOf (l : Launch) (D : va_G) (ct : Nat → ClassId) (a : Nat → Nat) (v : Mem) (p1 : Int32) (post : Int32 → Prop) (hw : PX5_lesserOf v p1 post) : Ci (S := Unit) l yX5_lesserOf wsX5_lesserOf rmX5_lesserOf D (tyz ct) [.ref (a 0), .int p1] (wS ct a v) (fun r (_ : Unit) => post r) (fun _ => wS ct a v) 0 0 := by
  intro sz
  refine g_of (own := RX5) (by decide) rfl rfl (Nat.le_of_ble_eq_true rfl) [(0, .ref (a 0)), (1, .int p1)] rfl (fun p e s m args below meth c hsz X => ?_)
  subst hsz
  unfold PX5_lesserOf at hw
  refine g_aload_n X 0 dX5_lesserOf_0 rfl rfl ?_
  refine g_iload_n X 1 dX5_lesserOf_1 rfl rfl ?_
  refine g_ciV X [wS ct a v] (fun (_ : Unit) => [wS ct a v]) (fun _ => wS ct a v) 1 [0] [] 0 (kX5_isCouple l D ct a v p1 _ hw) (cwV 1 X.1.2.2.2.2 gX5_lesserOf_X5_isCouple rfl rfl rfl (by decide +kernel) ⟨Nat.le_of_ble_eq_true rfl, Nat.le_of_ble_eq_true rfl⟩) dX5_lesserOf_2 rfl rfl (Nat.le_of_ble_eq_true rfl) ⟨Nat.le_of_ble_eq_true rfl, Nat.le_of_ble_eq_true rfl⟩ rfl rfl rfl (by decide) (fun _ => rfl) (fun _ => rfl) (fun _ => rfl) (fun _ => rfl) rfl rfl rfl (fun r1 _ hw => ?_)
  refine g_if_eq X 17 dX5_lesserOf_5 (by decide) (fun c3 => ?_) (fun c3 => ?_)
  · replace hw := hw.1 c3
    refine g_iconst (v := (-1)) X rfl dX5_lesserOf_17 ?_
    exact g_iret X () hw rfl (Nat.le_of_ble_eq_true rfl) (Nat.le_of_ble_eq_true rfl) dX5_lesserOf_18
  · replace hw := hw.2 c3
    refine g_aload_n X 0 dX5_lesserOf_8 rfl rfl ?_
    refine g_get (T := TX5) (C := RX5) (N := 10) (v := .ref (a 4)) X 0 3 (fun _ h => (List.mem_cons_of_mem _ (List.mem_append_right _ h))) (List.mem_of_getElem? (i := 1) rfl) dX5_lesserOf_9 rfl rfl (by decide) rfl rfl ?_
    refine g_iload_n X 1 dX5_lesserOf_12 rfl rfl ?_
    obtain ⟨h4, hw⟩ := hw
    refine g_iald X 4 0 dX5_lesserOf_13 rfl rfl h4 ?_
    refine g_goto X 18 dX5_lesserOf_14 (by decide) ?_
    exact g_iret X () hw rfl (Nat.le_of_ble_eq_true rfl) (Nat.le_of_ble_eq_true rfl) dX5_lesserOf_18

abbrev rmX5_greaterOf : Room := { frames := 1, cells := 0, slots := 0, locals := 21 }

abbrev GX5_greaterOf (l : Launch) (D : va_G) (ct : Nat → ClassId) (a : Nat → Nat) (v : Mem) (post : Int32 → Prop) (p : Program) (e : Env) (s : State) (m : MethodId) (args : Array Value) (below : List Frame) (meth : Method) (c : Code) (A : Nat → Prop) (w9 : va_W) (lv : List (Nat × Value)) (pc : Nat) (st : List Value) : Prop :=
  GG p l e rmX5_greaterOf s m args below meth c D A s.heap 2 (MQ below (va_Qi (fun r (_ : Unit) => post r) (fun u9 t9 => Af D (tyz ct) A ((fun _ => wS ct a v) u9) t9) A)  args s 0 0 A) w9 0 0 lv pc st

set_option maxHeartbeats 4000000 in
set_option maxRecDepth 20000 in
theorem kX5_greaterOf (l : Launch) (D : va_G) (ct : Nat → ClassId) (a : Nat → Nat) (v : Mem) (p1 : Int32) (post : Int32 → Prop) (hw : PX5_greaterOf v p1 post) : Ci (S := Unit) l yX5_greaterOf wsX5_greaterOf rmX5_greaterOf D (tyz ct) [.ref (a 0), .int p1] (wS ct a v) (fun r (_ : Unit) => post r) (fun _ => wS ct a v) 0 0 := by
  intro sz
  refine g_of (own := RX5) (by decide) rfl rfl (Nat.le_of_ble_eq_true rfl) [(0, .ref (a 0)), (1, .int p1)] rfl (fun p e s m args below meth c hsz X => ?_)
  subst hsz
  unfold PX5_greaterOf at hw
  refine g_aload_n X 0 dX5_greaterOf_0 rfl rfl ?_
  refine g_iload_n X 1 dX5_greaterOf_1 rfl rfl ?_
  refine g_ciV X [wS ct a v] (fun (_ : Unit) => [wS ct a v]) (fun _ => wS ct a v) 1 [0] [] 0 (kX5_isCouple l D ct a v p1 _ hw) (cwV 1 X.1.2.2.2.2 gX5_greaterOf_X5_isCouple rfl rfl rfl (by decide +kernel) ⟨Nat.le_of_ble_eq_true rfl, Nat.le_of_ble_eq_true rfl⟩) dX5_greaterOf_2 rfl rfl (Nat.le_of_ble_eq_true rfl) ⟨Nat.le_of_ble_eq_true rfl, Nat.le_of_ble_eq_true rfl⟩ rfl rfl rfl (by decide) (fun _ => rfl) (fun _ => rfl) (fun _ => rfl) (fun _ => rfl) rfl rfl rfl (fun r1 _ hw => ?_)
  refine g_if_eq X 17 dX5_greaterOf_5 (by decide) (fun c3 => ?_) (fun c3 => ?_)
  · replace hw := hw.1 c3
    refine g_iconst (v := (-1)) X rfl dX5_greaterOf_17 ?_
    exact g_iret X () hw rfl (Nat.le_of_ble_eq_true rfl) (Nat.le_of_ble_eq_true rfl) dX5_greaterOf_18
  · replace hw := hw.2 c3
    refine g_aload_n X 0 dX5_greaterOf_8 rfl rfl ?_
    refine g_get (T := TX5) (C := RX5) (N := 10) (v := .ref (a 5)) X 0 4 (fun _ h => (List.mem_cons_of_mem _ (List.mem_append_right _ h))) (List.mem_of_getElem? (i := 1) rfl) dX5_greaterOf_9 rfl rfl (by decide) rfl rfl ?_
    refine g_iload_n X 1 dX5_greaterOf_12 rfl rfl ?_
    obtain ⟨h4, hw⟩ := hw
    refine g_iald X 5 0 dX5_greaterOf_13 rfl rfl h4 ?_
    refine g_goto X 18 dX5_greaterOf_14 (by decide) ?_
    exact g_iret X () hw rfl (Nat.le_of_ble_eq_true rfl) (Nat.le_of_ble_eq_true rfl) dX5_greaterOf_18

abbrev rmX5_people : Room := { frames := 0, cells := 0, slots := 0, locals := 0 }

abbrev GX5_people (l : Launch) (D : va_G) (ct : Nat → ClassId) (a : Nat → Nat) (v : Mem) (post : Int32 → Prop) (p : Program) (e : Env) (s : State) (m : MethodId) (args : Array Value) (below : List Frame) (meth : Method) (c : Code) (A : Nat → Prop) (w9 : va_W) (lv : List (Nat × Value)) (pc : Nat) (st : List Value) : Prop :=
  GG p l e rmX5_people s m args below meth c D A s.heap 1 (MQ below (va_Qi (fun r (_ : Unit) => post r) (fun u9 t9 => Af D (tyz ct) A ((fun _ => wS ct a v) u9) t9) A)  args s 0 0 A) w9 0 0 lv pc st

set_option maxHeartbeats 4000000 in
set_option maxRecDepth 20000 in
theorem kX5_people (l : Launch) (D : va_G) (ct : Nat → ClassId) (a : Nat → Nat) (v : Mem) (post : Int32 → Prop) (hw : PX5_people v post) : Ci (S := Unit) l yX5_people wsX5_people rmX5_people D (tyz ct) [.ref (a 0)] (wS ct a v) (fun r (_ : Unit) => post r) (fun _ => wS ct a v) 0 0 := by
  intro sz
  refine g_of (own := RX5) (by decide) rfl rfl (Nat.le_of_ble_eq_true rfl) [(0, .ref (a 0))] rfl (fun p e s m args below meth c hsz X => ?_)
  subst hsz
  unfold PX5_people at hw
  refine g_aload_n X 0 dX5_people_0 rfl rfl ?_
  refine g_get (T := TX5) (C := RX5) (N := 10) (v := .int (v 7 0)) X 0 7 (fun _ h => (List.mem_cons_of_mem _ (List.mem_append_right _ h))) (List.mem_of_getElem? (i := 1) rfl) dX5_people_1 rfl rfl (by decide) rfl rfl ?_
  exact g_iret X () hw rfl (Nat.le_of_ble_eq_true rfl) (Nat.le_of_ble_eq_true rfl) dX5_people_4

abbrev rmX5_couples : Room := { frames := 0, cells := 0, slots := 0, locals := 0 }

abbrev GX5_couples (l : Launch) (D : va_G) (ct : Nat → ClassId) (a : Nat → Nat) (v : Mem) (post : Int32 → Prop) (p : Program) (e : Env) (s : State) (m : MethodId) (args : Array Value) (below : List Frame) (meth : Method) (c : Code) (A : Nat → Prop) (w9 : va_W) (lv : List (Nat × Value)) (pc : Nat) (st : List Value) : Prop :=
  GG p l e rmX5_couples s m args below meth c D A s.heap 1 (MQ below (va_Qi (fun r (_ : Unit) => post r) (fun u9 t9 => Af D (tyz ct) A ((fun _ => wS ct a v) u9) t9) A)  args s 0 0 A) w9 0 0 lv pc st

set_option maxHeartbeats 4000000 in
set_option maxRecDepth 20000 in
theorem kX5_couples (l : Launch) (D : va_G) (ct : Nat → ClassId) (a : Nat → Nat) (v : Mem) (post : Int32 → Prop) (hw : PX5_couples v post) : Ci (S := Unit) l yX5_couples wsX5_couples rmX5_couples D (tyz ct) [.ref (a 0)] (wS ct a v) (fun r (_ : Unit) => post r) (fun _ => wS ct a v) 0 0 := by
  intro sz
  refine g_of (own := RX5) (by decide) rfl rfl (Nat.le_of_ble_eq_true rfl) [(0, .ref (a 0))] rfl (fun p e s m args below meth c hsz X => ?_)
  subst hsz
  unfold PX5_couples at hw
  refine g_aload_n X 0 dX5_couples_0 rfl rfl ?_
  refine g_get (T := TX5) (C := RX5) (N := 10) (v := .int (v 8 0)) X 0 8 (fun _ h => (List.mem_cons_of_mem _ (List.mem_append_right _ h))) (List.mem_of_getElem? (i := 1) rfl) dX5_couples_1 rfl rfl (by decide) rfl rfl ?_
  exact g_iret X () hw rfl (Nat.le_of_ble_eq_true rfl) (Nat.le_of_ble_eq_true rfl) dX5_couples_4

abbrev rmX5_rowOf : Room := { frames := 1, cells := 0, slots := 0, locals := 21 }

abbrev GX5_rowOf (l : Launch) (D : va_G) (ct : Nat → ClassId) (a : Nat → Nat) (v : Mem) (post : Int32 → Prop) (p : Program) (e : Env) (s : State) (m : MethodId) (args : Array Value) (below : List Frame) (meth : Method) (c : Code) (A : Nat → Prop) (w9 : va_W) (lv : List (Nat × Value)) (pc : Nat) (st : List Value) : Prop :=
  GG p l e rmX5_rowOf s m args below meth c D A s.heap 2 (MQ below (va_Qi (fun r (_ : Unit) => post r) (fun u9 t9 => Af D (tyz ct) A ((fun _ => wS ct a v) u9) t9) A)  args s 0 0 A) w9 0 0 lv pc st

set_option maxHeartbeats 4000000 in
set_option maxRecDepth 20000 in
theorem kX5_rowOf (l : Launch) (D : va_G) (ct : Nat → ClassId) (a : Nat → Nat) (v : Mem) (p1 : Int32) (post : Int32 → Prop) (hw : PX5_rowOf v p1 post) : Ci (S := Unit) l yX5_rowOf wsX5_rowOf rmX5_rowOf D (tyz ct) [.ref (a 0), .int p1] (wS ct a v) (fun r (_ : Unit) => post r) (fun _ => wS ct a v) 0 0 := by
  intro sz
  refine g_of (own := RX5) (by decide) rfl rfl (Nat.le_of_ble_eq_true rfl) [(0, .ref (a 0)), (1, .int p1)] rfl (fun p e s m args below meth c hsz X => ?_)
  subst hsz
  unfold PX5_rowOf at hw
  refine g_aload_n X 0 dX5_rowOf_0 rfl rfl ?_
  refine g_iload_n X 1 dX5_rowOf_1 rfl rfl ?_
  refine g_ciV X [wS ct a v] (fun (_ : Unit) => [wS ct a v]) (fun _ => wS ct a v) 1 [0] [] 0 (kX5_isPerson l D ct a v p1 _ hw) (cwV 1 X.1.2.2.2.2 gX5_rowOf_X5_isPerson rfl rfl rfl (by decide +kernel) ⟨Nat.le_of_ble_eq_true rfl, Nat.le_of_ble_eq_true rfl⟩) dX5_rowOf_2 rfl rfl (Nat.le_of_ble_eq_true rfl) ⟨Nat.le_of_ble_eq_true rfl, Nat.le_of_ble_eq_true rfl⟩ rfl rfl rfl (by decide) (fun _ => rfl) (fun _ => rfl) (fun _ => rfl) (fun _ => rfl) rfl rfl rfl (fun r1 _ hw => ?_)
  refine g_if_eq X 17 dX5_rowOf_5 (by decide) (fun c3 => ?_) (fun c3 => ?_)
  · replace hw := hw.1 c3
    refine g_iconst (v := (-1)) X rfl dX5_rowOf_17 ?_
    exact g_iret X () hw rfl (Nat.le_of_ble_eq_true rfl) (Nat.le_of_ble_eq_true rfl) dX5_rowOf_18
  · replace hw := hw.2 c3
    refine g_aload_n X 0 dX5_rowOf_8 rfl rfl ?_
    refine g_get (T := TX5) (C := RX5) (N := 10) (v := .ref (a 1)) X 0 0 (fun _ h => (List.mem_cons_of_mem _ (List.mem_append_right _ h))) (List.mem_of_getElem? (i := 1) rfl) dX5_rowOf_9 rfl rfl (by decide) rfl rfl ?_
    refine g_iload_n X 1 dX5_rowOf_12 rfl rfl ?_
    obtain ⟨h4, hw⟩ := hw
    refine g_iald X 1 0 dX5_rowOf_13 rfl rfl h4 ?_
    refine g_goto X 18 dX5_rowOf_14 (by decide) ?_
    exact g_iret X () hw rfl (Nat.le_of_ble_eq_true rfl) (Nat.le_of_ble_eq_true rfl) dX5_rowOf_18

abbrev rmX5_sizeOf : Room := { frames := 0, cells := 0, slots := 0, locals := 0 }

abbrev GX5_sizeOf (l : Launch) (D : va_G) (ct : Nat → ClassId) (a : Nat → Nat) (v : Mem) (post : Int32 → Prop) (p : Program) (e : Env) (s : State) (m : MethodId) (args : Array Value) (below : List Frame) (meth : Method) (c : Code) (A : Nat → Prop) (w9 : va_W) (lv : List (Nat × Value)) (pc : Nat) (st : List Value) : Prop :=
  GG p l e rmX5_sizeOf s m args below meth c D A s.heap 2 (MQ below (va_Qi (fun r (_ : Unit) => post r) (fun u9 t9 => Af D (tyz ct) A ((fun _ => wS ct a v) u9) t9) A)  args s 0 0 A) w9 0 0 lv pc st

set_option maxHeartbeats 4000000 in
set_option maxRecDepth 20000 in
theorem kX5_sizeOf (l : Launch) (D : va_G) (ct : Nat → ClassId) (a : Nat → Nat) (v : Mem) (p1 : Int32) (post : Int32 → Prop) (hw : PX5_sizeOf v p1 post) : Ci (S := Unit) l yX5_sizeOf wsX5_sizeOf rmX5_sizeOf D (tyz ct) [.ref (a 0), .int p1] (wS ct a v) (fun r (_ : Unit) => post r) (fun _ => wS ct a v) 0 0 := by
  intro sz
  refine g_of (own := RX5) (by decide) rfl rfl (Nat.le_of_ble_eq_true rfl) [(0, .ref (a 0)), (1, .int p1)] rfl (fun p e s m args below meth c hsz X => ?_)
  subst hsz
  unfold PX5_sizeOf at hw
  refine g_iload_n X 1 dX5_sizeOf_0 rfl rfl ?_
  refine g_if_lt X 18 dX5_sizeOf_1 (by decide) (fun c1 => ?_) (fun c1 => ?_)
  · replace hw := hw.1 c1
    refine g_iconst (v := 0) X rfl dX5_sizeOf_18 ?_
    exact g_iret X () hw rfl (Nat.le_of_ble_eq_true rfl) (Nat.le_of_ble_eq_true rfl) dX5_sizeOf_19
  · replace hw := hw.2 c1
    refine g_iload_n X 1 dX5_sizeOf_4 rfl rfl ?_
    refine g_iconst (v := 4) X rfl dX5_sizeOf_5 ?_
    refine g_icmp_ge X 18 dX5_sizeOf_6 (by decide) (fun c2 => ?_) (fun c2 => ?_)
    · replace hw := hw.1 c2
      refine g_iconst (v := 0) X rfl dX5_sizeOf_18 ?_
      exact g_iret X () hw rfl (Nat.le_of_ble_eq_true rfl) (Nat.le_of_ble_eq_true rfl) dX5_sizeOf_19
    · replace hw := hw.2 c2
      refine g_aload_n X 0 dX5_sizeOf_9 rfl rfl ?_
      refine g_get (T := TX5) (C := RX5) (N := 10) (v := .ref (a 7)) X 0 6 (fun _ h => (List.mem_cons_of_mem _ (List.mem_append_right _ h))) (List.mem_of_getElem? (i := 1) rfl) dX5_sizeOf_10 rfl rfl (by decide) rfl rfl ?_
      refine g_iload_n X 1 dX5_sizeOf_13 rfl rfl ?_
      obtain ⟨h3, hw⟩ := hw
      refine g_iald X 7 0 dX5_sizeOf_14 rfl rfl h3 ?_
      refine g_goto X 19 dX5_sizeOf_15 (by decide) ?_
      exact g_iret X () hw rfl (Nat.le_of_ble_eq_true rfl) (Nat.le_of_ble_eq_true rfl) dX5_sizeOf_19

abbrev rmX5_personAt : Room := { frames := 1, cells := 0, slots := 0, locals := 21 }

abbrev GX5_personAt (l : Launch) (D : va_G) (ct : Nat → ClassId) (a : Nat → Nat) (v : Mem) (post : Int32 → Prop) (p : Program) (e : Env) (s : State) (m : MethodId) (args : Array Value) (below : List Frame) (meth : Method) (c : Code) (A : Nat → Prop) (w9 : va_W) (lv : List (Nat × Value)) (pc : Nat) (st : List Value) : Prop :=
  GG p l e rmX5_personAt s m args below meth c D A s.heap 3 (MQ below (va_Qi (fun r (_ : Unit) => post r) (fun u9 t9 => Af D (tyz ct) A ((fun _ => wS ct a v) u9) t9) A)  args s 0 0 A) w9 0 0 lv pc st

set_option maxHeartbeats 4000000 in
set_option maxRecDepth 20000 in
theorem kX5_personAt (l : Launch) (D : va_G) (ct : Nat → ClassId) (a : Nat → Nat) (v : Mem) (p1 : Int32) (p2 : Int32) (post : Int32 → Prop) (hw : PX5_personAt v p1 p2 post) : Ci (S := Unit) l yX5_personAt wsX5_personAt rmX5_personAt D (tyz ct) [.ref (a 0), .int p1, .int p2] (wS ct a v) (fun r (_ : Unit) => post r) (fun _ => wS ct a v) 0 0 := by
  intro sz
  refine g_of (own := RX5) (by decide) rfl rfl (Nat.le_of_ble_eq_true rfl) [(0, .ref (a 0)), (1, .int p1), (2, .int p2)] rfl (fun p e s m args below meth c hsz X => ?_)
  subst hsz
  unfold PX5_personAt at hw
  refine g_iload_n X 2 dX5_personAt_0 rfl rfl ?_
  refine g_if_lt X 27 dX5_personAt_1 (by decide) (fun c1 => ?_) (fun c1 => ?_)
  · replace hw := hw.1 c1
    refine g_iconst (v := (-1)) X rfl dX5_personAt_27 ?_
    exact g_iret X () hw rfl (Nat.le_of_ble_eq_true rfl) (Nat.le_of_ble_eq_true rfl) dX5_personAt_28
  · replace hw := hw.2 c1
    refine g_iload_n X 2 dX5_personAt_4 rfl rfl ?_
    refine g_aload_n X 0 dX5_personAt_5 rfl rfl ?_
    refine g_iload_n X 1 dX5_personAt_6 rfl rfl ?_
    refine g_ciV X [wS ct a v] (fun (_ : Unit) => [wS ct a v]) (fun _ => wS ct a v) 1 [0] [] 0 (kX5_sizeOf l D ct a v p1 _ hw) (cwV 1 X.1.2.2.2.2 gX5_personAt_X5_sizeOf rfl rfl rfl (by decide +kernel) ⟨Nat.le_of_ble_eq_true rfl, Nat.le_of_ble_eq_true rfl⟩) dX5_personAt_7 rfl rfl (Nat.le_of_ble_eq_true rfl) ⟨Nat.le_of_ble_eq_true rfl, Nat.le_of_ble_eq_true rfl⟩ rfl rfl rfl (by decide) (fun _ => rfl) (fun _ => rfl) (fun _ => rfl) (fun _ => rfl) rfl rfl rfl (fun r2 _ hw => ?_)
    refine g_icmp_ge X 27 dX5_personAt_10 (by decide) (fun c4 => ?_) (fun c4 => ?_)
    · replace hw := hw.1 c4
      refine g_iconst (v := (-1)) X rfl dX5_personAt_27 ?_
      exact g_iret X () hw rfl (Nat.le_of_ble_eq_true rfl) (Nat.le_of_ble_eq_true rfl) dX5_personAt_28
    · replace hw := hw.2 c4
      refine g_aload_n X 0 dX5_personAt_13 rfl rfl ?_
      refine g_get (T := TX5) (C := RX5) (N := 10) (v := .ref (a 6)) X 0 5 (fun _ h => (List.mem_cons_of_mem _ (List.mem_append_right _ h))) (List.mem_of_getElem? (i := 1) rfl) dX5_personAt_14 rfl rfl (by decide) rfl rfl ?_
      refine g_iload_n X 1 dX5_personAt_17 rfl rfl ?_
      refine g_bipush (v := 6) X rfl dX5_personAt_18 ?_
      refine g_imul X dX5_personAt_20 ?_
      refine g_iload_n X 2 dX5_personAt_21 rfl rfl ?_
      refine g_iadd X dX5_personAt_22 ?_
      obtain ⟨h5, hw⟩ := hw
      refine g_iald X 6 0 dX5_personAt_23 rfl rfl h5 ?_
      refine g_goto X 28 dX5_personAt_24 (by decide) ?_
      exact g_iret X () hw rfl (Nat.le_of_ble_eq_true rfl) (Nat.le_of_ble_eq_true rfl) dX5_personAt_28

abbrev rmX5_placeOf : Room := { frames := 1, cells := 0, slots := 0, locals := 21 }

abbrev GX5_placeOf (l : Launch) (D : va_G) (ct : Nat → ClassId) (a : Nat → Nat) (v : Mem) (post : Int32 → Prop) (p : Program) (e : Env) (s : State) (m : MethodId) (args : Array Value) (below : List Frame) (meth : Method) (c : Code) (A : Nat → Prop) (w9 : va_W) (lv : List (Nat × Value)) (pc : Nat) (st : List Value) : Prop :=
  GG p l e rmX5_placeOf s m args below meth c D A s.heap 2 (MQ below (va_Qi (fun r (_ : Unit) => post r) (fun u9 t9 => Af D (tyz ct) A ((fun _ => wS ct a v) u9) t9) A)  args s 0 0 A) w9 0 0 lv pc st

set_option maxHeartbeats 4000000 in
set_option maxRecDepth 20000 in
theorem kX5_placeOf (l : Launch) (D : va_G) (ct : Nat → ClassId) (a : Nat → Nat) (v : Mem) (p1 : Int32) (post : Int32 → Prop) (hw : PX5_placeOf v p1 post) : Ci (S := Unit) l yX5_placeOf wsX5_placeOf rmX5_placeOf D (tyz ct) [.ref (a 0), .int p1] (wS ct a v) (fun r (_ : Unit) => post r) (fun _ => wS ct a v) 0 0 := by
  intro sz
  refine g_of (own := RX5) (by decide) rfl rfl (Nat.le_of_ble_eq_true rfl) [(0, .ref (a 0)), (1, .int p1)] rfl (fun p e s m args below meth c hsz X => ?_)
  subst hsz
  unfold PX5_placeOf at hw
  refine g_aload_n X 0 dX5_placeOf_0 rfl rfl ?_
  refine g_iload_n X 1 dX5_placeOf_1 rfl rfl ?_
  refine g_ciV X [wS ct a v] (fun (_ : Unit) => [wS ct a v]) (fun _ => wS ct a v) 1 [0] [] 0 (kX5_isPerson l D ct a v p1 _ hw) (cwV 1 X.1.2.2.2.2 gX5_placeOf_X5_isPerson rfl rfl rfl (by decide +kernel) ⟨Nat.le_of_ble_eq_true rfl, Nat.le_of_ble_eq_true rfl⟩) dX5_placeOf_2 rfl rfl (Nat.le_of_ble_eq_true rfl) ⟨Nat.le_of_ble_eq_true rfl, Nat.le_of_ble_eq_true rfl⟩ rfl rfl rfl (by decide) (fun _ => rfl) (fun _ => rfl) (fun _ => rfl) (fun _ => rfl) rfl rfl rfl (fun r1 _ hw => ?_)
  refine g_if_eq X 17 dX5_placeOf_5 (by decide) (fun c3 => ?_) (fun c3 => ?_)
  · replace hw := hw.1 c3
    refine g_iconst (v := (-1)) X rfl dX5_placeOf_17 ?_
    exact g_iret X () hw rfl (Nat.le_of_ble_eq_true rfl) (Nat.le_of_ble_eq_true rfl) dX5_placeOf_18
  · replace hw := hw.2 c3
    refine g_aload_n X 0 dX5_placeOf_8 rfl rfl ?_
    refine g_get (T := TX5) (C := RX5) (N := 10) (v := .ref (a 2)) X 0 1 (fun _ h => (List.mem_cons_of_mem _ (List.mem_append_right _ h))) (List.mem_of_getElem? (i := 1) rfl) dX5_placeOf_9 rfl rfl (by decide) rfl rfl ?_
    refine g_iload_n X 1 dX5_placeOf_12 rfl rfl ?_
    obtain ⟨h4, hw⟩ := hw
    refine g_iald X 2 0 dX5_placeOf_13 rfl rfl h4 ?_
    refine g_goto X 18 dX5_placeOf_14 (by decide) ?_
    exact g_iret X () hw rfl (Nat.le_of_ble_eq_true rfl) (Nat.le_of_ble_eq_true rfl) dX5_placeOf_18

abbrev rmX5_middleOf : Room := { frames := 2, cells := 0, slots := 0, locals := 42 }

abbrev GX5_middleOf (l : Launch) (D : va_G) (ct : Nat → ClassId) (a : Nat → Nat) (v : Mem) (post : Int32 → Prop) (p : Program) (e : Env) (s : State) (m : MethodId) (args : Array Value) (below : List Frame) (meth : Method) (c : Code) (A : Nat → Prop) (w9 : va_W) (lv : List (Nat × Value)) (pc : Nat) (st : List Value) : Prop :=
  GG p l e rmX5_middleOf s m args below meth c D A s.heap 2 (MQ below (va_Qi (fun r (_ : Unit) => post r) (fun u9 t9 => Af D (tyz ct) A ((fun _ => wS ct a v) u9) t9) A)  args s 0 0 A) w9 0 0 lv pc st

set_option maxHeartbeats 4000000 in
set_option maxRecDepth 20000 in
theorem kX5_middleOf (l : Launch) (D : va_G) (ct : Nat → ClassId) (a : Nat → Nat) (v : Mem) (p1 : Int32) (post : Int32 → Prop) (hw : PX5_middleOf v p1 post) : Ci (S := Unit) l yX5_middleOf wsX5_middleOf rmX5_middleOf D (tyz ct) [.ref (a 0), .int p1] (wS ct a v) (fun r (_ : Unit) => post r) (fun _ => wS ct a v) 0 0 := by
  intro sz
  refine g_of (own := RX5) (by decide) rfl rfl (Nat.le_of_ble_eq_true rfl) [(0, .ref (a 0)), (1, .int p1)] rfl (fun p e s m args below meth c hsz X => ?_)
  subst hsz
  unfold PX5_middleOf at hw
  refine g_aload_n X 0 dX5_middleOf_0 rfl rfl ?_
  refine g_iload_n X 1 dX5_middleOf_1 rfl rfl ?_
  refine g_ciV X [wS ct a v] (fun (_ : Unit) => [wS ct a v]) (fun _ => wS ct a v) 1 [0] [] 0 (kX5_isCouple l D ct a v p1 _ hw) (cwV 1 X.1.2.2.2.2 gX5_middleOf_X5_isCouple rfl rfl rfl (by decide +kernel) ⟨Nat.le_of_ble_eq_true rfl, Nat.le_of_ble_eq_true rfl⟩) dX5_middleOf_2 rfl rfl (Nat.le_of_ble_eq_true rfl) ⟨Nat.le_of_ble_eq_true rfl, Nat.le_of_ble_eq_true rfl⟩ rfl rfl rfl (by decide) (fun _ => rfl) (fun _ => rfl) (fun _ => rfl) (fun _ => rfl) rfl rfl rfl (fun r1 _ hw => ?_)
  refine g_if_eq X 32 dX5_middleOf_5 (by decide) (fun c3 => ?_) (fun c3 => ?_)
  · replace hw := hw.1 c3
    refine g_iconst (v := (-1)) X rfl dX5_middleOf_32 ?_
    exact g_iret X () hw rfl (Nat.le_of_ble_eq_true rfl) (Nat.le_of_ble_eq_true rfl) dX5_middleOf_33
  · replace hw := hw.2 c3
    refine g_aload_n X 0 dX5_middleOf_8 rfl rfl ?_
    refine g_aload_n X 0 dX5_middleOf_9 rfl rfl ?_
    refine g_get (T := TX5) (C := RX5) (N := 10) (v := .ref (a 4)) X 0 3 (fun _ h => (List.mem_cons_of_mem _ (List.mem_append_right _ h))) (List.mem_of_getElem? (i := 1) rfl) dX5_middleOf_10 rfl rfl (by decide) rfl rfl ?_
    refine g_iload_n X 1 dX5_middleOf_13 rfl rfl ?_
    obtain ⟨h4, hw⟩ := hw
    refine g_iald X 4 0 dX5_middleOf_14 rfl rfl h4 ?_
    refine g_ciV X [wS ct a v] (fun (_ : Unit) => [wS ct a v]) (fun _ => wS ct a v) 1 [0] [] 0 (kX5_placeOf l D ct a v (v 3 (ix p1)) _ hw) (cwV 1 X.1.2.2.2.2 gX5_middleOf_X5_placeOf rfl rfl rfl (by decide +kernel) ⟨Nat.le_of_ble_eq_true rfl, Nat.le_of_ble_eq_true rfl⟩) dX5_middleOf_15 rfl rfl (Nat.le_of_ble_eq_true rfl) ⟨Nat.le_of_ble_eq_true rfl, Nat.le_of_ble_eq_true rfl⟩ rfl rfl rfl (by decide) (fun _ => rfl) (fun _ => rfl) (fun _ => rfl) (fun _ => rfl) rfl rfl rfl (fun r5 _ hw => ?_)
    refine g_aload_n X 0 dX5_middleOf_18 rfl rfl ?_
    refine g_aload_n X 0 dX5_middleOf_19 rfl rfl ?_
    refine g_get (T := TX5) (C := RX5) (N := 10) (v := .ref (a 5)) X 0 4 (fun _ h => (List.mem_cons_of_mem _ (List.mem_append_right _ h))) (List.mem_of_getElem? (i := 2) rfl) dX5_middleOf_20 rfl rfl (by decide) rfl rfl ?_
    refine g_iload_n X 1 dX5_middleOf_23 rfl rfl ?_
    obtain ⟨h7, hw⟩ := hw
    refine g_iald X 5 0 dX5_middleOf_24 rfl rfl h7 ?_
    refine g_ciV X [wS ct a v] (fun (_ : Unit) => [wS ct a v]) (fun _ => wS ct a v) 1 [0] [] 0 (kX5_placeOf l D ct a v (v 4 (ix p1)) _ hw) (cwV 1 X.1.2.2.2.2 gX5_middleOf_X5_placeOf rfl rfl rfl (by decide +kernel) ⟨Nat.le_of_ble_eq_true rfl, Nat.le_of_ble_eq_true rfl⟩) dX5_middleOf_25 rfl rfl (Nat.le_of_ble_eq_true rfl) ⟨Nat.le_of_ble_eq_true rfl, Nat.le_of_ble_eq_true rfl⟩ rfl rfl rfl (by decide) (fun _ => rfl) (fun _ => rfl) (fun _ => rfl) (fun _ => rfl) rfl rfl rfl (fun r8 _ hw => ?_)
    refine g_iadd X dX5_middleOf_28 ?_
    refine g_goto X 33 dX5_middleOf_29 (by decide) ?_
    exact g_iret X () hw rfl (Nat.le_of_ble_eq_true rfl) (Nat.le_of_ble_eq_true rfl) dX5_middleOf_33

abbrev rmX5_middleAbove : Room := { frames := 3, cells := 0, slots := 0, locals := 63 }

abbrev GX5_middleAbove (l : Launch) (D : va_G) (ct : Nat → ClassId) (a : Nat → Nat) (v : Mem) (post : Int32 → Prop) (p : Program) (e : Env) (s : State) (m : MethodId) (args : Array Value) (below : List Frame) (meth : Method) (c : Code) (A : Nat → Prop) (w9 : va_W) (lv : List (Nat × Value)) (pc : Nat) (st : List Value) : Prop :=
  GG p l e rmX5_middleAbove s m args below meth c D A s.heap 2 (MQ below (va_Qi (fun r (_ : Unit) => post r) (fun u9 t9 => Af D (tyz ct) A ((fun _ => wS ct a v) u9) t9) A)  args s 0 0 A) w9 0 0 lv pc st

set_option maxHeartbeats 4000000 in
set_option maxRecDepth 20000 in
theorem kX5_middleAbove (l : Launch) (D : va_G) (ct : Nat → ClassId) (a : Nat → Nat) (v : Mem) (p1 : Int32) (post : Int32 → Prop) (hw : PX5_middleAbove v p1 post) : Ci (S := Unit) l yX5_middleAbove wsX5_middleAbove rmX5_middleAbove D (tyz ct) [.ref (a 0), .int p1] (wS ct a v) (fun r (_ : Unit) => post r) (fun _ => wS ct a v) 0 0 := by
  intro sz
  refine g_of (own := RX5) (by decide) rfl rfl (Nat.le_of_ble_eq_true rfl) [(0, .ref (a 0)), (1, .int p1)] rfl (fun p e s m args below meth c hsz X => ?_)
  subst hsz
  unfold PX5_middleAbove at hw
  refine g_aload_n X 0 dX5_middleAbove_0 rfl rfl ?_
  refine g_aload_n X 0 dX5_middleAbove_1 rfl rfl ?_
  refine g_iload_n X 1 dX5_middleAbove_2 rfl rfl ?_
  refine g_ciV X [wS ct a v] (fun (_ : Unit) => [wS ct a v]) (fun _ => wS ct a v) 1 [0] [] 0 (kX5_parentsOf l D ct a v p1 _ hw) (cwV 1 X.1.2.2.2.2 gX5_middleAbove_X5_parentsOf rfl rfl rfl (by decide +kernel) ⟨Nat.le_of_ble_eq_true rfl, Nat.le_of_ble_eq_true rfl⟩) dX5_middleAbove_3 rfl rfl (Nat.le_of_ble_eq_true rfl) ⟨Nat.le_of_ble_eq_true rfl, Nat.le_of_ble_eq_true rfl⟩ rfl rfl rfl (by decide) (fun _ => rfl) (fun _ => rfl) (fun _ => rfl) (fun _ => rfl) rfl rfl rfl (fun r1 _ hw => ?_)
  refine g_ciV X [wS ct a v] (fun (_ : Unit) => [wS ct a v]) (fun _ => wS ct a v) 1 [0] [] 0 (kX5_middleOf l D ct a v r1 _ hw) (cwV 1 X.1.2.2.2.2 gX5_middleAbove_X5_middleOf rfl rfl rfl (by decide +kernel) ⟨Nat.le_of_ble_eq_true rfl, Nat.le_of_ble_eq_true rfl⟩) dX5_middleAbove_6 rfl rfl (Nat.le_of_ble_eq_true rfl) ⟨Nat.le_of_ble_eq_true rfl, Nat.le_of_ble_eq_true rfl⟩ rfl rfl rfl (by decide) (fun _ => rfl) (fun _ => rfl) (fun _ => rfl) (fun _ => rfl) rfl rfl rfl (fun r3 _ hw => ?_)
  exact g_iret X () hw rfl (Nat.le_of_ble_eq_true rfl) (Nat.le_of_ble_eq_true rfl) dX5_middleAbove_9

abbrev rmX5_lay : Room := { frames := 1, cells := 0, slots := 0, locals := 21 }

abbrev GX5_lay (l : Launch) (D : va_G) (ct : Nat → ClassId) (a : Nat → Nat) (post : Mem → Prop) (p : Program) (e : Env) (s : State) (m : MethodId) (args : Array Value) (below : List Frame) (meth : Method) (c : Code) (A : Nat → Prop) (w9 : va_W) (lv : List (Nat × Value)) (pc : Nat) (st : List Value) : Prop :=
  GG p l e rmX5_lay s m args below meth c D A s.heap 4 (MQ below (va_Qv (fun (u9 : Mem) => post u9) (fun u9 t9 => Af D (tyz ct) A ((fun u9 => wS ct a u9) u9) t9) A)  args s 0 0 A) w9 0 0 lv pc st

set_option maxHeartbeats 4000000 in
set_option maxRecDepth 20000 in
theorem kX5_lay (l : Launch) (D : va_G) (ct : Nat → ClassId) (a : Nat → Nat) (v : Mem) (p1 : Int32) (p2 : Int32) (p3 : Int32) (post : Mem → Prop) (hw : PX5_lay v p1 p2 p3 post) : Cv (S := Mem) l yX5_lay wsX5_lay rmX5_lay D (tyz ct) [.ref (a 0), .int p1, .int p2, .int p3] (wS ct a v) (fun (u9 : Mem) => post u9) (fun u9 => wS ct a u9) 0 0 := by
  intro sz
  refine g_of (own := RX5) (by decide) rfl rfl (Nat.le_of_ble_eq_true rfl) [(0, .ref (a 0)), (1, .int p1), (2, .int p2), (3, .int p3)] rfl (fun p e s m args below meth c hsz X => ?_)
  subst hsz
  unfold PX5_lay at hw
  refine g_aload_n X 0 dX5_lay_0 rfl rfl ?_
  refine g_iload_n X 3 dX5_lay_1 rfl rfl ?_
  refine g_ciV X [wS ct a v] (fun (_ : Unit) => [wS ct a v]) (fun _ => wS ct a v) 1 [0] [] 0 (kX5_isPerson l D ct a v p3 _ hw) (cwV 1 X.1.2.2.2.2 gX5_lay_X5_isPerson rfl rfl rfl (by decide +kernel) ⟨Nat.le_of_ble_eq_true rfl, Nat.le_of_ble_eq_true rfl⟩) dX5_lay_2 rfl rfl (Nat.le_of_ble_eq_true rfl) ⟨Nat.le_of_ble_eq_true rfl, Nat.le_of_ble_eq_true rfl⟩ rfl rfl rfl (by decide) (fun _ => rfl) (fun _ => rfl) (fun _ => rfl) (fun _ => rfl) rfl rfl rfl (fun r1 _ hw => ?_)
  refine g_if_eq X 40 dX5_lay_5 (by decide) (fun c3 => ?_) (fun c3 => ?_)
  · replace hw := hw.1 c3
    exact g_vret X v hw rfl (Nat.le_of_ble_eq_true rfl) (Nat.le_of_ble_eq_true rfl) dX5_lay_40
  · replace hw := hw.2 c3
    refine g_iload_n X 2 dX5_lay_8 rfl rfl ?_
    refine g_if_lt X 40 dX5_lay_9 (by decide) (fun c4 => ?_) (fun c4 => ?_)
    · replace hw := hw.1 c4
      exact g_vret X v hw rfl (Nat.le_of_ble_eq_true rfl) (Nat.le_of_ble_eq_true rfl) dX5_lay_40
    · replace hw := hw.2 c4
      refine g_iload_n X 2 dX5_lay_12 rfl rfl ?_
      refine g_aload_n X 0 dX5_lay_13 rfl rfl ?_
      refine g_iload_n X 1 dX5_lay_14 rfl rfl ?_
      refine g_ciV X [wS ct a v] (fun (_ : Unit) => [wS ct a v]) (fun _ => wS ct a v) 1 [0] [] 0 (kX5_sizeOf l D ct a v p1 _ hw) (cwV 1 X.1.2.2.2.2 gX5_lay_X5_sizeOf rfl rfl rfl (by decide +kernel) ⟨Nat.le_of_ble_eq_true rfl, Nat.le_of_ble_eq_true rfl⟩) dX5_lay_15 rfl rfl (Nat.le_of_ble_eq_true rfl) ⟨Nat.le_of_ble_eq_true rfl, Nat.le_of_ble_eq_true rfl⟩ rfl rfl rfl (by decide) (fun _ => rfl) (fun _ => rfl) (fun _ => rfl) (fun _ => rfl) rfl rfl rfl (fun r5 _ hw => ?_)
      refine g_icmp_ge X 40 dX5_lay_18 (by decide) (fun c7 => ?_) (fun c7 => ?_)
      · replace hw := hw.1 c7
        exact g_vret X v hw rfl (Nat.le_of_ble_eq_true rfl) (Nat.le_of_ble_eq_true rfl) dX5_lay_40
      · replace hw := hw.2 c7
        refine g_aload_n X 0 dX5_lay_21 rfl rfl ?_
        refine g_get (T := TX5) (C := RX5) (N := 10) (v := .ref (a 6)) X 0 5 (fun _ h => (List.mem_cons_of_mem _ (List.mem_append_right _ h))) (List.mem_of_getElem? (i := 1) rfl) dX5_lay_22 rfl rfl (by decide) rfl rfl ?_
        refine g_iload_n X 1 dX5_lay_25 rfl rfl ?_
        refine g_bipush (v := 6) X rfl dX5_lay_26 ?_
        refine g_imul X dX5_lay_28 ?_
        refine g_iload_n X 2 dX5_lay_29 rfl rfl ?_
        refine g_iadd X dX5_lay_30 ?_
        refine g_iload_n X 3 dX5_lay_31 rfl rfl ?_
        obtain ⟨h8, hw⟩ := hw
        refine g_iast X (fun z => wS ct a z) v 5 6 0 dX5_lay_32 rfl rfl h8 rfl (fun v9 hv9 => ?_)
        replace hw := hw v9 hv9
        refine g_aload_n X 0 dX5_lay_33 rfl rfl ?_
        refine g_get (T := TX5) (C := RX5) (N := 10) (v := .ref (a 2)) X 0 1 (fun _ h => (List.mem_cons_of_mem _ (List.mem_append_right _ h))) (List.mem_of_getElem? (i := 2) rfl) dX5_lay_34 rfl rfl (by decide) rfl rfl ?_
        refine g_iload_n X 3 dX5_lay_37 rfl rfl ?_
        refine g_iload_n X 2 dX5_lay_38 rfl rfl ?_
        obtain ⟨h10, hw⟩ := hw
        refine g_iast X (fun z => wS ct a z) v9 1 2 0 dX5_lay_39 rfl rfl h10 rfl (fun v11 hv11 => ?_)
        replace hw := hw v11 hv11
        exact g_vret X v11 hw rfl (Nat.le_of_ble_eq_true rfl) (Nat.le_of_ble_eq_true rfl) dX5_lay_40

abbrev rmX5_copyFrom : Room := { frames := 1, cells := 0, slots := 0, locals := 60 }

abbrev GX5_copyFrom (l : Launch) (D : va_G) (ct : Nat → ClassId) (a : Nat → Nat) (b : Nat → Nat) (vo : Mem) (post : Mem → Prop) (p : Program) (e : Env) (s : State) (m : MethodId) (args : Array Value) (below : List Frame) (meth : Method) (c : Code) (A : Nat → Prop) (w9 : va_W) (lv : List (Nat × Value)) (pc : Nat) (st : List Value) : Prop :=
  GG p l e rmX5_copyFrom s m args below meth c D A s.heap 2 (MQ below (va_Qv (fun (u9 : Mem) => post u9) (fun u9 t9 => Af D (tyz ct) A ((fun u9 => fl [wS ct a u9, wS ct b vo]) u9) t9) A)  args s 0 0 A) w9 0 0 lv pc st

set_option maxHeartbeats 4000000 in
set_option maxRecDepth 20000 in
theorem kX5_copyFrom (l : Launch) (D : va_G) (ct : Nat → ClassId) (a : Nat → Nat) (b : Nat → Nat) (v : Mem) (vo : Mem) (post : Mem → Prop) (hw : PX5_copyFrom v vo post) : Cv (S := Mem) l yX5_copyFrom wsX5_copyFrom rmX5_copyFrom D (tyz ct) [.ref (a 0), .ref (b 0)] (fl [wS ct a v, wS ct b vo]) (fun (u9 : Mem) => post u9) (fun u9 => fl [wS ct a u9, wS ct b vo]) 0 0 := by
  intro sz
  refine g_of (own := RX5) (by decide) rfl rfl (Nat.le_of_ble_eq_true rfl) [(0, .ref (a 0)), (1, .ref (b 0))] rfl (fun p e s m args below meth c hsz X => ?_)
  subst hsz
  unfold PX5_copyFrom at hw
  refine g_aload_n X 1 dX5_copyFrom_0 rfl rfl ?_
  refine g_get (T := TX5) (C := RX5) (N := 10) (v := .ref (b 1)) X 8 0 (fun _ h => (List.mem_cons_of_mem _ (List.mem_append_right _ h))) (List.mem_of_getElem? (i := 1) rfl) dX5_copyFrom_1 rfl rfl (by decide) rfl rfl ?_
  refine g_iconst (v := 0) X rfl dX5_copyFrom_4 ?_
  refine g_aload_n X 0 dX5_copyFrom_5 rfl rfl ?_
  refine g_get (T := TX5) (C := RX5) (N := 10) (v := .ref (a 1)) X 0 0 (fun _ h => (List.mem_cons_of_mem _ (List.mem_append_right _ h))) (List.mem_of_getElem? (i := 1) rfl) dX5_copyFrom_6 rfl rfl (by decide) rfl rfl ?_
  refine g_iconst (v := 0) X rfl dX5_copyFrom_9 ?_
  refine g_bipush (v := 20) X rfl dX5_copyFrom_10 ?_
  refine g_copy X (fun z => fl [wS ct a z, wS ct b vo]) v 0 (sp0 := 0) (dp0 := 0) (n0v := 20) 9 1 0 0 (List.mem_of_getElem? (i := 2) rfl) (List.mem_of_getElem? (i := 3) rfl) (List.mem_of_getElem? (i := 4) rfl) (List.mem_of_getElem? (i := 5) rfl) dX5_copyFrom_12 rfl rfl rfl rfl (by decide) (by decide) (by decide) rfl rfl rfl (by decide) (by decide) (Nat.le_of_ble_eq_true rfl) (Nat.le_of_ble_eq_true rfl) rfl (fun v1 hv1 => ?_)
  replace hw := hw v1 hv1
  refine g_aload_n X 1 dX5_copyFrom_15 rfl rfl ?_
  refine g_get (T := TX5) (C := RX5) (N := 10) (v := .ref (b 2)) X 8 1 (fun _ h => (List.mem_cons_of_mem _ (List.mem_append_right _ h))) (List.mem_of_getElem? (i := 6) rfl) dX5_copyFrom_16 rfl rfl (by decide) rfl rfl ?_
  refine g_iconst (v := 0) X rfl dX5_copyFrom_19 ?_
  refine g_aload_n X 0 dX5_copyFrom_20 rfl rfl ?_
  refine g_get (T := TX5) (C := RX5) (N := 10) (v := .ref (a 2)) X 0 1 (fun _ h => (List.mem_cons_of_mem _ (List.mem_append_right _ h))) (List.mem_of_getElem? (i := 6) rfl) dX5_copyFrom_21 rfl rfl (by decide) rfl rfl ?_
  refine g_iconst (v := 0) X rfl dX5_copyFrom_24 ?_
  refine g_bipush (v := 20) X rfl dX5_copyFrom_25 ?_
  refine g_copy X (fun z => fl [wS ct a z, wS ct b vo]) v1 1 (sp0 := 0) (dp0 := 0) (n0v := 20) 10 2 0 0 (List.mem_of_getElem? (i := 2) rfl) (List.mem_of_getElem? (i := 3) rfl) (List.mem_of_getElem? (i := 4) rfl) (List.mem_of_getElem? (i := 5) rfl) dX5_copyFrom_27 rfl rfl rfl rfl (by decide) (by decide) (by decide) rfl rfl rfl (by decide) (by decide) (Nat.le_of_ble_eq_true rfl) (Nat.le_of_ble_eq_true rfl) rfl (fun v2 hv2 => ?_)
  replace hw := hw v2 hv2
  refine g_aload_n X 1 dX5_copyFrom_30 rfl rfl ?_
  refine g_get (T := TX5) (C := RX5) (N := 10) (v := .ref (b 3)) X 8 2 (fun _ h => (List.mem_cons_of_mem _ (List.mem_append_right _ h))) (List.mem_of_getElem? (i := 7) rfl) dX5_copyFrom_31 rfl rfl (by decide) rfl rfl ?_
  refine g_iconst (v := 0) X rfl dX5_copyFrom_34 ?_
  refine g_aload_n X 0 dX5_copyFrom_35 rfl rfl ?_
  refine g_get (T := TX5) (C := RX5) (N := 10) (v := .ref (a 3)) X 0 2 (fun _ h => (List.mem_cons_of_mem _ (List.mem_append_right _ h))) (List.mem_of_getElem? (i := 7) rfl) dX5_copyFrom_36 rfl rfl (by decide) rfl rfl ?_
  refine g_iconst (v := 0) X rfl dX5_copyFrom_39 ?_
  refine g_bipush (v := 20) X rfl dX5_copyFrom_40 ?_
  refine g_copy X (fun z => fl [wS ct a z, wS ct b vo]) v2 2 (sp0 := 0) (dp0 := 0) (n0v := 20) 11 3 0 0 (List.mem_of_getElem? (i := 2) rfl) (List.mem_of_getElem? (i := 3) rfl) (List.mem_of_getElem? (i := 4) rfl) (List.mem_of_getElem? (i := 5) rfl) dX5_copyFrom_42 rfl rfl rfl rfl (by decide) (by decide) (by decide) rfl rfl rfl (by decide) (by decide) (Nat.le_of_ble_eq_true rfl) (Nat.le_of_ble_eq_true rfl) rfl (fun v3 hv3 => ?_)
  replace hw := hw v3 hv3
  refine g_aload_n X 1 dX5_copyFrom_45 rfl rfl ?_
  refine g_get (T := TX5) (C := RX5) (N := 10) (v := .ref (b 4)) X 8 3 (fun _ h => (List.mem_cons_of_mem _ (List.mem_append_right _ h))) (List.mem_of_getElem? (i := 8) rfl) dX5_copyFrom_46 rfl rfl (by decide) rfl rfl ?_
  refine g_iconst (v := 0) X rfl dX5_copyFrom_49 ?_
  refine g_aload_n X 0 dX5_copyFrom_50 rfl rfl ?_
  refine g_get (T := TX5) (C := RX5) (N := 10) (v := .ref (a 4)) X 0 3 (fun _ h => (List.mem_cons_of_mem _ (List.mem_append_right _ h))) (List.mem_of_getElem? (i := 8) rfl) dX5_copyFrom_51 rfl rfl (by decide) rfl rfl ?_
  refine g_iconst (v := 0) X rfl dX5_copyFrom_54 ?_
  refine g_bipush (v := 10) X rfl dX5_copyFrom_55 ?_
  refine g_copy X (fun z => fl [wS ct a z, wS ct b vo]) v3 3 (sp0 := 0) (dp0 := 0) (n0v := 10) 12 4 0 0 (List.mem_of_getElem? (i := 2) rfl) (List.mem_of_getElem? (i := 3) rfl) (List.mem_of_getElem? (i := 4) rfl) (List.mem_of_getElem? (i := 5) rfl) dX5_copyFrom_57 rfl rfl rfl rfl (by decide) (by decide) (by decide) rfl rfl rfl (by decide) (by decide) (Nat.le_of_ble_eq_true rfl) (Nat.le_of_ble_eq_true rfl) rfl (fun v4 hv4 => ?_)
  replace hw := hw v4 hv4
  refine g_aload_n X 1 dX5_copyFrom_60 rfl rfl ?_
  refine g_get (T := TX5) (C := RX5) (N := 10) (v := .ref (b 5)) X 8 4 (fun _ h => (List.mem_cons_of_mem _ (List.mem_append_right _ h))) (List.mem_of_getElem? (i := 9) rfl) dX5_copyFrom_61 rfl rfl (by decide) rfl rfl ?_
  refine g_iconst (v := 0) X rfl dX5_copyFrom_64 ?_
  refine g_aload_n X 0 dX5_copyFrom_65 rfl rfl ?_
  refine g_get (T := TX5) (C := RX5) (N := 10) (v := .ref (a 5)) X 0 4 (fun _ h => (List.mem_cons_of_mem _ (List.mem_append_right _ h))) (List.mem_of_getElem? (i := 9) rfl) dX5_copyFrom_66 rfl rfl (by decide) rfl rfl ?_
  refine g_iconst (v := 0) X rfl dX5_copyFrom_69 ?_
  refine g_bipush (v := 10) X rfl dX5_copyFrom_70 ?_
  refine g_copy X (fun z => fl [wS ct a z, wS ct b vo]) v4 4 (sp0 := 0) (dp0 := 0) (n0v := 10) 13 5 0 0 (List.mem_of_getElem? (i := 2) rfl) (List.mem_of_getElem? (i := 3) rfl) (List.mem_of_getElem? (i := 4) rfl) (List.mem_of_getElem? (i := 5) rfl) dX5_copyFrom_72 rfl rfl rfl rfl (by decide) (by decide) (by decide) rfl rfl rfl (by decide) (by decide) (Nat.le_of_ble_eq_true rfl) (Nat.le_of_ble_eq_true rfl) rfl (fun v5 hv5 => ?_)
  replace hw := hw v5 hv5
  refine g_aload_n X 1 dX5_copyFrom_75 rfl rfl ?_
  refine g_get (T := TX5) (C := RX5) (N := 10) (v := .ref (b 6)) X 8 5 (fun _ h => (List.mem_cons_of_mem _ (List.mem_append_right _ h))) (List.mem_of_getElem? (i := 10) rfl) dX5_copyFrom_76 rfl rfl (by decide) rfl rfl ?_
  refine g_iconst (v := 0) X rfl dX5_copyFrom_79 ?_
  refine g_aload_n X 0 dX5_copyFrom_80 rfl rfl ?_
  refine g_get (T := TX5) (C := RX5) (N := 10) (v := .ref (a 6)) X 0 5 (fun _ h => (List.mem_cons_of_mem _ (List.mem_append_right _ h))) (List.mem_of_getElem? (i := 10) rfl) dX5_copyFrom_81 rfl rfl (by decide) rfl rfl ?_
  refine g_iconst (v := 0) X rfl dX5_copyFrom_84 ?_
  refine g_bipush (v := 24) X rfl dX5_copyFrom_85 ?_
  refine g_copy X (fun z => fl [wS ct a z, wS ct b vo]) v5 5 (sp0 := 0) (dp0 := 0) (n0v := 24) 14 6 0 0 (List.mem_of_getElem? (i := 2) rfl) (List.mem_of_getElem? (i := 3) rfl) (List.mem_of_getElem? (i := 4) rfl) (List.mem_of_getElem? (i := 5) rfl) dX5_copyFrom_87 rfl rfl rfl rfl (by decide) (by decide) (by decide) rfl rfl rfl (by decide) (by decide) (Nat.le_of_ble_eq_true rfl) (Nat.le_of_ble_eq_true rfl) rfl (fun v6 hv6 => ?_)
  replace hw := hw v6 hv6
  refine g_aload_n X 1 dX5_copyFrom_90 rfl rfl ?_
  refine g_get (T := TX5) (C := RX5) (N := 10) (v := .ref (b 7)) X 8 6 (fun _ h => (List.mem_cons_of_mem _ (List.mem_append_right _ h))) (List.mem_of_getElem? (i := 11) rfl) dX5_copyFrom_91 rfl rfl (by decide) rfl rfl ?_
  refine g_iconst (v := 0) X rfl dX5_copyFrom_94 ?_
  refine g_aload_n X 0 dX5_copyFrom_95 rfl rfl ?_
  refine g_get (T := TX5) (C := RX5) (N := 10) (v := .ref (a 7)) X 0 6 (fun _ h => (List.mem_cons_of_mem _ (List.mem_append_right _ h))) (List.mem_of_getElem? (i := 11) rfl) dX5_copyFrom_96 rfl rfl (by decide) rfl rfl ?_
  refine g_iconst (v := 0) X rfl dX5_copyFrom_99 ?_
  refine g_iconst (v := 4) X rfl dX5_copyFrom_100 ?_
  refine g_copy X (fun z => fl [wS ct a z, wS ct b vo]) v6 6 (sp0 := 0) (dp0 := 0) (n0v := 4) 15 7 0 0 (List.mem_of_getElem? (i := 2) rfl) (List.mem_of_getElem? (i := 3) rfl) (List.mem_of_getElem? (i := 4) rfl) (List.mem_of_getElem? (i := 5) rfl) dX5_copyFrom_101 rfl rfl rfl rfl (by decide) (by decide) (by decide) rfl rfl rfl (by decide) (by decide) (Nat.le_of_ble_eq_true rfl) (Nat.le_of_ble_eq_true rfl) rfl (fun v7 hv7 => ?_)
  replace hw := hw v7 hv7
  refine g_aload_n X 0 dX5_copyFrom_104 rfl rfl ?_
  refine g_aload_n X 1 dX5_copyFrom_105 rfl rfl ?_
  refine g_get (T := TX5) (C := RX5) (N := 10) (v := .int (vo 7 0)) X 8 7 (fun _ h => (List.mem_cons_of_mem _ (List.mem_append_right _ h))) (List.mem_of_getElem? (i := 12) rfl) dX5_copyFrom_106 rfl rfl (by decide) rfl rfl ?_
  refine g_put (T := TX5) (C := RX5) (N := 10) X (fun z => fl [wS ct a z, wS ct b vo]) v7 0 7 tyX5 tyX5_ok nmX5 (fun _ h => (List.mem_cons_of_mem _ (List.mem_append_right _ h))) (List.mem_of_getElem? (i := 12) rfl) dX5_copyFrom_109 rfl rfl (by decide) rfl rfl (by decide +kernel) (Nat.le_of_ble_eq_true rfl) rfl (fun v8 hv8 => ?_)
  replace hw := hw v8 hv8
  refine g_aload_n X 0 dX5_copyFrom_112 rfl rfl ?_
  refine g_aload_n X 1 dX5_copyFrom_113 rfl rfl ?_
  refine g_get (T := TX5) (C := RX5) (N := 10) (v := .int (vo 8 0)) X 8 8 (fun _ h => (List.mem_cons_of_mem _ (List.mem_append_right _ h))) (List.mem_of_getElem? (i := 13) rfl) dX5_copyFrom_114 rfl rfl (by decide) rfl rfl ?_
  refine g_put (T := TX5) (C := RX5) (N := 10) X (fun z => fl [wS ct a z, wS ct b vo]) v8 0 8 tyX5 tyX5_ok nmX5 (fun _ h => (List.mem_cons_of_mem _ (List.mem_append_right _ h))) (List.mem_of_getElem? (i := 13) rfl) dX5_copyFrom_117 rfl rfl (by decide) rfl rfl (by decide +kernel) (Nat.le_of_ble_eq_true rfl) rfl (fun v9 hv9 => ?_)
  replace hw := hw v9 hv9
  refine g_aload_n X 0 dX5_copyFrom_120 rfl rfl ?_
  refine g_aload_n X 1 dX5_copyFrom_121 rfl rfl ?_
  refine g_get (T := TX5) (C := RX5) (N := 10) (v := .int (vo 9 0)) X 8 9 (fun _ h => (List.mem_cons_of_mem _ (List.mem_append_right _ h))) (List.mem_of_getElem? (i := 14) rfl) dX5_copyFrom_122 rfl rfl (by decide) rfl rfl ?_
  refine g_put (T := TX5) (C := RX5) (N := 10) X (fun z => fl [wS ct a z, wS ct b vo]) v9 0 9 tyX5 tyX5_ok nmX5 (fun _ h => (List.mem_cons_of_mem _ (List.mem_append_right _ h))) (List.mem_of_getElem? (i := 14) rfl) dX5_copyFrom_125 rfl rfl (by decide) rfl rfl (by decide +kernel) (Nat.le_of_ble_eq_true rfl) rfl (fun v10 hv10 => ?_)
  replace hw := hw v10 hv10
  exact g_vret X v10 hw rfl (Nat.le_of_ble_eq_true rfl) (Nat.le_of_ble_eq_true rfl) dX5_copyFrom_128

abbrev rmX5_refused : Room := { frames := 0, cells := 0, slots := 0, locals := 0 }

abbrev GX5_refused (l : Launch) (D : va_G) (ct : Nat → ClassId) (a : Nat → Nat) (v : Mem) (post : Int32 → Prop) (p : Program) (e : Env) (s : State) (m : MethodId) (args : Array Value) (below : List Frame) (meth : Method) (c : Code) (A : Nat → Prop) (w9 : va_W) (lv : List (Nat × Value)) (pc : Nat) (st : List Value) : Prop :=
  GG p l e rmX5_refused s m args below meth c D A s.heap 1 (MQ below (va_Qi (fun r (_ : Unit) => post r) (fun u9 t9 => Af D (tyz ct) A ((fun _ => wS ct a v) u9) t9) A)  args s 0 0 A) w9 0 0 lv pc st

set_option maxHeartbeats 4000000 in
set_option maxRecDepth 20000 in
theorem kX5_refused (l : Launch) (D : va_G) (ct : Nat → ClassId) (a : Nat → Nat) (v : Mem) (post : Int32 → Prop) (hw : PX5_refused v post) : Ci (S := Unit) l yX5_refused wsX5_refused rmX5_refused D (tyz ct) [.ref (a 0)] (wS ct a v) (fun r (_ : Unit) => post r) (fun _ => wS ct a v) 0 0 := by
  intro sz
  refine g_of (own := RX5) (by decide) rfl rfl (Nat.le_of_ble_eq_true rfl) [(0, .ref (a 0))] rfl (fun p e s m args below meth c hsz X => ?_)
  subst hsz
  unfold PX5_refused at hw
  refine g_aload_n X 0 dX5_refused_0 rfl rfl ?_
  refine g_get (T := TX5) (C := RX5) (N := 10) (v := .int (v 9 0)) X 0 9 (fun _ h => (List.mem_cons_of_mem _ (List.mem_append_right _ h))) (List.mem_of_getElem? (i := 1) rfl) dX5_refused_1 rfl rfl (by decide) rfl rfl ?_
  exact g_iret X () hw rfl (Nat.le_of_ble_eq_true rfl) (Nat.le_of_ble_eq_true rfl) dX5_refused_4

abbrev rmX5_addPerson : Room := { frames := 2, cells := 0, slots := 0, locals := 44 }

abbrev GX5_addPerson (l : Launch) (D : va_G) (ct : Nat → ClassId) (a : Nat → Nat) (post : Int32 → Mem → Prop) (p : Program) (e : Env) (s : State) (m : MethodId) (args : Array Value) (below : List Frame) (meth : Method) (c : Code) (A : Nat → Prop) (w9 : va_W) (lv : List (Nat × Value)) (pc : Nat) (st : List Value) : Prop :=
  GG p l e rmX5_addPerson s m args below meth c D A s.heap 5 (MQ below (va_Qi (fun r (u9 : Mem) => post r u9) (fun u9 t9 => Af D (tyz ct) A ((fun u9 => wS ct a u9) u9) t9) A)  args s 0 0 A) w9 0 0 lv pc st

set_option maxHeartbeats 4000000 in
set_option maxRecDepth 20000 in
theorem kX5_addPerson_30 (l : Launch) (D : va_G) (ct : Nat → ClassId) (a : Nat → Nat) (post : Int32 → Mem → Prop) {p : Program} {e : Env} {s : State} {m : MethodId} {args : Array Value} {below : List Frame} {meth : Method} {c : Code} {A : Nat → Prop} (X : Cx p s m args meth c cX5_addPerson 5 RX5 wsX5_addPerson D (tyz ct) A s.heap (some .int))  :
    ∀ (v : Mem), PX5_addPerson_30 post v → GX5_addPerson l D ct a  post p e s m args below meth c A (wS ct a v) [(0, .ref (a 0))] 30 [] := by
  intro v hw
  unfold PX5_addPerson_30 at hw
  refine g_aload_n X 0 dX5_addPerson_30 rfl rfl ?_
  refine g_dup X dX5_addPerson_31 rfl ?_
  refine g_get (T := TX5) (C := RX5) (N := 10) (v := .int (v 9 0)) X 0 9 (fun _ h => (List.mem_cons_of_mem _ (List.mem_append_right _ h))) (List.mem_of_getElem? (i := 2) rfl) dX5_addPerson_32 rfl rfl (by decide) rfl rfl ?_
  refine g_iconst (v := 1) X rfl dX5_addPerson_35 ?_
  refine g_iadd X dX5_addPerson_36 ?_
  refine g_put (T := TX5) (C := RX5) (N := 10) X (fun z => wS ct a z) v 0 9 tyX5 tyX5_ok nmX5 (fun _ h => (List.mem_cons_of_mem _ (List.mem_append_right _ h))) (List.mem_of_getElem? (i := 2) rfl) dX5_addPerson_37 rfl rfl (by decide) rfl rfl (by decide +kernel) (Nat.le_of_ble_eq_true rfl) rfl (fun v4 hv4 => ?_)
  replace hw := hw v4 hv4
  refine g_iconst (v := (-1)) X rfl dX5_addPerson_40 ?_
  exact g_iret X v4 hw rfl (Nat.le_of_ble_eq_true rfl) (Nat.le_of_ble_eq_true rfl) dX5_addPerson_41

set_option maxHeartbeats 4000000 in
set_option maxRecDepth 20000 in
theorem kX5_addPerson (l : Launch) (D : va_G) (ct : Nat → ClassId) (a : Nat → Nat) (v : Mem) (p1 : Int32) (p2 : Int32) (post : Int32 → Mem → Prop) (hw : PX5_addPerson v p1 p2 post) : Ci (S := Mem) l yX5_addPerson wsX5_addPerson rmX5_addPerson D (tyz ct) [.ref (a 0), .int p1, .int p2] (wS ct a v) (fun r (u9 : Mem) => post r u9) (fun u9 => wS ct a u9) 0 0 := by
  intro sz
  refine g_of (own := RX5) (by decide) rfl rfl (Nat.le_of_ble_eq_true rfl) [(0, .ref (a 0)), (1, .int p1), (2, .int p2)] rfl (fun p e s m args below meth c hsz X => ?_)
  subst hsz
  unfold PX5_addPerson at hw
  refine g_aload_n X 0 dX5_addPerson_0 rfl rfl ?_
  refine g_iload_n X 1 dX5_addPerson_1 rfl rfl ?_
  refine g_ciV X [wS ct a v] (fun (_ : Unit) => [wS ct a v]) (fun _ => wS ct a v) 1 [0] [] 0 (kX5_sizeOf l D ct a v p1 _ hw) (cwV 1 X.1.2.2.2.2 gX5_addPerson_X5_sizeOf rfl rfl rfl (by decide +kernel) ⟨Nat.le_of_ble_eq_true rfl, Nat.le_of_ble_eq_true rfl⟩) dX5_addPerson_2 rfl rfl (Nat.le_of_ble_eq_true rfl) ⟨Nat.le_of_ble_eq_true rfl, Nat.le_of_ble_eq_true rfl⟩ rfl rfl rfl (by decide) (fun _ => rfl) (fun _ => rfl) (fun _ => rfl) (fun _ => rfl) rfl rfl rfl (fun r1 _ hw => ?_)
  refine g_istore_n X [(3, .int r1), (0, .ref (a 0)), (1, .int p1), (2, .int p2)] dX5_addPerson_5 rfl (by decide) rfl ?_
  refine g_iload_n X 2 dX5_addPerson_6 rfl rfl ?_
  refine g_if_lt X 30 dX5_addPerson_7 (by decide) (fun c3 => ?_) (fun c3 => ?_)
  · replace hw := hw.1 c3
    refine g_sub [(0, .ref (a 0))] [1] rfl ?_
    exact kX5_addPerson_30 l D ct a post X _ hw
  · replace hw := hw.2 c3
    refine g_iload_n X 2 dX5_addPerson_10 rfl rfl ?_
    refine g_iconst (v := 4) X rfl dX5_addPerson_11 ?_
    refine g_icmp_ge X 30 dX5_addPerson_12 (by decide) (fun c5 => ?_) (fun c5 => ?_)
    · replace hw := hw.1 c5
      refine g_sub [(0, .ref (a 0))] [1] rfl ?_
      exact kX5_addPerson_30 l D ct a post X _ hw
    · replace hw := hw.2 c5
      refine g_iload_n X 0 dX5_addPerson_15 rfl rfl ?_
      refine g_bipush (v := 6) X rfl dX5_addPerson_16 ?_
      refine g_icmp_ge X 30 dX5_addPerson_18 (by decide) (fun c6 => ?_) (fun c6 => ?_)
      · replace hw := hw.1 c6
        refine g_sub [(0, .ref (a 0))] [1] rfl ?_
        exact kX5_addPerson_30 l D ct a post X _ hw
      · replace hw := hw.2 c6
        refine g_aload_n X 1 dX5_addPerson_21 rfl rfl ?_
        refine g_get (T := TX5) (C := RX5) (N := 10) (v := .int (v 7 0)) X 0 7 (fun _ h => (List.mem_cons_of_mem _ (List.mem_append_right _ h))) (List.mem_of_getElem? (i := 1) rfl) dX5_addPerson_22 rfl rfl (by decide) rfl rfl ?_
        refine g_bipush (v := 20) X rfl dX5_addPerson_25 ?_
        refine g_icmp_lt X 42 dX5_addPerson_27 (by decide) (fun c7 => ?_) (fun c7 => ?_)
        · replace hw := hw.1 c7
          refine g_aload_n X 1 dX5_addPerson_42 rfl rfl ?_
          refine g_get (T := TX5) (C := RX5) (N := 10) (v := .int (v 7 0)) X 0 7 (fun _ h => (List.mem_cons_of_mem _ (List.mem_append_right _ h))) (List.mem_of_getElem? (i := 1) rfl) dX5_addPerson_43 rfl rfl (by decide) rfl rfl ?_
          refine g_topi (fun q8 hq8 => ?_)
          replace hw := hw q8 hq8
          refine g_istore X [(4, .int q8), (3, .int r1), (0, .ref (a 0)), (1, .int p1), (2, .int p2)] dX5_addPerson_46 (by decide) rfl ?_
          refine g_aload_n X 2 dX5_addPerson_48 rfl rfl ?_
          refine g_dup X dX5_addPerson_49 rfl ?_
          refine g_get (T := TX5) (C := RX5) (N := 10) (v := .int (v 7 0)) X 0 7 (fun _ h => (List.mem_cons_of_mem _ (List.mem_append_right _ h))) (List.mem_of_getElem? (i := 1) rfl) dX5_addPerson_50 rfl rfl (by decide) rfl rfl ?_
          refine g_iconst (v := 1) X rfl dX5_addPerson_53 ?_
          refine g_iadd X dX5_addPerson_54 ?_
          refine g_put (T := TX5) (C := RX5) (N := 10) X (fun z => wS ct a z) v 0 7 tyX5 tyX5_ok nmX5 (fun _ h => (List.mem_cons_of_mem _ (List.mem_append_right _ h))) (List.mem_of_getElem? (i := 1) rfl) dX5_addPerson_55 rfl rfl (by decide) rfl rfl (by decide +kernel) (Nat.le_of_ble_eq_true rfl) rfl (fun v9 hv9 => ?_)
          replace hw := hw v9 hv9
          refine g_aload_n X 2 dX5_addPerson_58 rfl rfl ?_
          refine g_get (T := TX5) (C := RX5) (N := 10) (v := .ref (a 7)) X 0 6 (fun _ h => (List.mem_cons_of_mem _ (List.mem_append_right _ h))) (List.mem_of_getElem? (i := 3) rfl) dX5_addPerson_59 rfl rfl (by decide) rfl rfl ?_
          refine g_iload_n X 3 dX5_addPerson_62 rfl rfl ?_
          refine g_dup2 X dX5_addPerson_63 rfl rfl ?_
          obtain ⟨h10, hw⟩ := hw
          refine g_iald X 7 0 dX5_addPerson_64 rfl rfl h10 ?_
          refine g_iconst (v := 1) X rfl dX5_addPerson_65 ?_
          refine g_iadd X dX5_addPerson_66 ?_
          obtain ⟨h11, hw⟩ := hw
          refine g_iast X (fun z => wS ct a z) v9 6 7 0 dX5_addPerson_67 rfl rfl h11 rfl (fun v12 hv12 => ?_)
          replace hw := hw v12 hv12
          refine g_aload_n X 2 dX5_addPerson_68 rfl rfl ?_
          refine g_get (T := TX5) (C := RX5) (N := 10) (v := .ref (a 1)) X 0 0 (fun _ h => (List.mem_cons_of_mem _ (List.mem_append_right _ h))) (List.mem_of_getElem? (i := 4) rfl) dX5_addPerson_69 rfl rfl (by decide) rfl rfl ?_
          refine g_iload X 0 dX5_addPerson_72 rfl ?_
          refine g_iload_n X 3 dX5_addPerson_74 rfl rfl ?_
          obtain ⟨h13, hw⟩ := hw
          refine g_iast X (fun z => wS ct a z) v12 0 1 0 dX5_addPerson_75 rfl rfl h13 rfl (fun v14 hv14 => ?_)
          replace hw := hw v14 hv14
          refine g_aload_n X 2 dX5_addPerson_76 rfl rfl ?_
          refine g_get (T := TX5) (C := RX5) (N := 10) (v := .ref (a 3)) X 0 2 (fun _ h => (List.mem_cons_of_mem _ (List.mem_append_right _ h))) (List.mem_of_getElem? (i := 5) rfl) dX5_addPerson_77 rfl rfl (by decide) rfl rfl ?_
          refine g_iload X 0 dX5_addPerson_80 rfl ?_
          refine g_iload_n X 4 dX5_addPerson_82 rfl rfl ?_
          obtain ⟨h15, hw⟩ := hw
          refine g_iast X (fun z => wS ct a z) v14 2 3 0 dX5_addPerson_83 rfl rfl h15 rfl (fun v16 hv16 => ?_)
          replace hw := hw v16 hv16
          refine g_aload_n X 2 dX5_addPerson_84 rfl rfl ?_
          refine g_iload_n X 3 dX5_addPerson_85 rfl rfl ?_
          refine g_iload_n X 1 dX5_addPerson_86 rfl rfl ?_
          refine g_iload X 0 dX5_addPerson_87 rfl ?_
          refine g_cvV X [wS ct a v16] (fun (u17 : Mem) => [wS ct a u17]) (fun (u17 : Mem) => wS ct a u17) 1 [0] [] 0 (kX5_lay l D ct a v16 p1 r1 q8 _ hw) (cwV 3 X.1.2.2.2.2 gX5_addPerson_X5_lay rfl rfl rfl (by decide +kernel) ⟨Nat.le_of_ble_eq_true rfl, Nat.le_of_ble_eq_true rfl⟩) dX5_addPerson_89 rfl rfl (Nat.le_of_ble_eq_true rfl) ⟨Nat.le_of_ble_eq_true rfl, Nat.le_of_ble_eq_true rfl⟩ rfl rfl rfl (by decide) (fun _ => rfl) (fun _ => rfl) (fun _ => rfl) (fun _ => rfl) rfl rfl rfl (fun u17 hw => ?_)
          obtain ⟨v18, hv18⟩ : ∃ z : Mem, z = u17 := ⟨_, rfl⟩
          rw [← hv18] at hw
          rw [← hv18]
          refine g_iload X 0 dX5_addPerson_92 rfl ?_
          exact g_iret X v18 hw rfl (Nat.le_of_ble_eq_true rfl) (Nat.le_of_ble_eq_true rfl) dX5_addPerson_94
        · replace hw := hw.2 c7
          refine g_sub [(0, .ref (a 0))] [1] rfl ?_
          exact kX5_addPerson_30 l D ct a post X _ hw

abbrev rmX5_addChild : Room := { frames := 3, cells := 0, slots := 0, locals := 68 }

abbrev GX5_addChild (l : Launch) (D : va_G) (ct : Nat → ClassId) (a : Nat → Nat) (post : Int32 → Mem → Prop) (p : Program) (e : Env) (s : State) (m : MethodId) (args : Array Value) (below : List Frame) (meth : Method) (c : Code) (A : Nat → Prop) (w9 : va_W) (lv : List (Nat × Value)) (pc : Nat) (st : List Value) : Prop :=
  GG p l e rmX5_addChild s m args below meth c D A s.heap 2 (MQ below (va_Qi (fun r (u9 : Mem) => post r u9) (fun u9 t9 => Af D (tyz ct) A ((fun u9 => wS ct a u9) u9) t9) A)  args s 0 0 A) w9 0 0 lv pc st

set_option maxHeartbeats 4000000 in
set_option maxRecDepth 20000 in
theorem kX5_addChild (l : Launch) (D : va_G) (ct : Nat → ClassId) (a : Nat → Nat) (v : Mem) (p1 : Int32) (post : Int32 → Mem → Prop) (hw : PX5_addChild v p1 post) : Ci (S := Mem) l yX5_addChild wsX5_addChild rmX5_addChild D (tyz ct) [.ref (a 0), .int p1] (wS ct a v) (fun r (u9 : Mem) => post r u9) (fun u9 => wS ct a u9) 0 0 := by
  intro sz
  refine g_of (own := RX5) (by decide) rfl rfl (Nat.le_of_ble_eq_true rfl) [(0, .ref (a 0)), (1, .int p1)] rfl (fun p e s m args below meth c hsz X => ?_)
  subst hsz
  unfold PX5_addChild at hw
  refine g_aload_n X 0 dX5_addChild_0 rfl rfl ?_
  refine g_aload_n X 0 dX5_addChild_1 rfl rfl ?_
  refine g_aload_n X 0 dX5_addChild_2 rfl rfl ?_
  refine g_iload_n X 1 dX5_addChild_3 rfl rfl ?_
  refine g_ciV X [wS ct a v] (fun (_ : Unit) => [wS ct a v]) (fun _ => wS ct a v) 1 [0] [] 0 (kX5_lesserOf l D ct a v p1 _ hw) (cwV 1 X.1.2.2.2.2 gX5_addChild_X5_lesserOf rfl rfl rfl (by decide +kernel) ⟨Nat.le_of_ble_eq_true rfl, Nat.le_of_ble_eq_true rfl⟩) dX5_addChild_4 rfl rfl (Nat.le_of_ble_eq_true rfl) ⟨Nat.le_of_ble_eq_true rfl, Nat.le_of_ble_eq_true rfl⟩ rfl rfl rfl (by decide) (fun _ => rfl) (fun _ => rfl) (fun _ => rfl) (fun _ => rfl) rfl rfl rfl (fun r1 _ hw => ?_)
  refine g_ciV X [wS ct a v] (fun (_ : Unit) => [wS ct a v]) (fun _ => wS ct a v) 1 [0] [] 0 (kX5_rowOf l D ct a v r1 _ hw) (cwV 1 X.1.2.2.2.2 gX5_addChild_X5_rowOf rfl rfl rfl (by decide +kernel) ⟨Nat.le_of_ble_eq_true rfl, Nat.le_of_ble_eq_true rfl⟩) dX5_addChild_7 rfl rfl (Nat.le_of_ble_eq_true rfl) ⟨Nat.le_of_ble_eq_true rfl, Nat.le_of_ble_eq_true rfl⟩ rfl rfl rfl (by decide) (fun _ => rfl) (fun _ => rfl) (fun _ => rfl) (fun _ => rfl) rfl rfl rfl (fun r3 _ hw => ?_)
  refine g_iconst (v := 1) X rfl dX5_addChild_10 ?_
  refine g_iadd X dX5_addChild_11 ?_
  refine g_iload_n X 1 dX5_addChild_12 rfl rfl ?_
  refine g_ciV X [wS ct a v] (fun (u6 : Mem) => [wS ct a u6]) (fun (u6 : Mem) => wS ct a u6) 1 [0] [] 0 (kX5_addPerson l D ct a v (r3 + 1) p1 _ hw) (cwV 2 X.1.2.2.2.2 gX5_addChild_X5_addPerson rfl rfl rfl (by decide +kernel) ⟨Nat.le_of_ble_eq_true rfl, Nat.le_of_ble_eq_true rfl⟩) dX5_addChild_13 rfl rfl (Nat.le_of_ble_eq_true rfl) ⟨Nat.le_of_ble_eq_true rfl, Nat.le_of_ble_eq_true rfl⟩ rfl rfl rfl (by decide) (fun _ => rfl) (fun _ => rfl) (fun _ => rfl) (fun _ => rfl) rfl rfl rfl (fun r5 u6 hw => ?_)
  obtain ⟨v7, hv7⟩ : ∃ z : Mem, z = u6 := ⟨_, rfl⟩
  rw [← hv7] at hw
  rw [← hv7]
  exact g_iret X v7 hw rfl (Nat.le_of_ble_eq_true rfl) (Nat.le_of_ble_eq_true rfl) dX5_addChild_16

abbrev rmX5_areCouple : Room := { frames := 0, cells := 0, slots := 0, locals := 0 }

abbrev GX5_areCouple (l : Launch) (D : va_G) (ct : Nat → ClassId) (a : Nat → Nat) (v : Mem) (post : Int32 → Prop) (p : Program) (e : Env) (s : State) (m : MethodId) (args : Array Value) (below : List Frame) (meth : Method) (c : Code) (A : Nat → Prop) (w9 : va_W) (lv : List (Nat × Value)) (pc : Nat) (st : List Value) : Prop :=
  GG p l e rmX5_areCouple s m args below meth c D A s.heap 4 (MQ below (va_Qi (fun r (_ : Unit) => post r) (fun u9 t9 => Af D (tyz ct) A ((fun _ => wS ct a v) u9) t9) A)  args s 0 0 A) w9 0 0 lv pc st

set_option maxHeartbeats 4000000 in
set_option maxRecDepth 20000 in
theorem kX5_areCouple_2 (l : Launch) (D : va_G) (ct : Nat → ClassId) (a : Nat → Nat) (v : Mem) (post : Int32 → Prop) {p : Program} {e : Env} {s : State} {m : MethodId} {args : Array Value} {below : List Frame} {meth : Method} {c : Code} {A : Nat → Prop} (X : Cx p s m args meth c cX5_areCouple 4 RX5 wsX5_areCouple D (tyz ct) A s.heap (some .boolean))  :
    ∀ (n : Nat) (x1 : Int32) (x2 : Int32) (x3 : Int32), PX5_areCouple_2 v post n x1 x2 x3 → GX5_areCouple l D ct a v post p e s m args below meth c A (wS ct a v) [(0, .ref (a 0)), (1, .int x1), (2, .int x2), (3, .int x3)] 2 [] := by
  intro n
  induction n with
  | zero =>
    intro x1 x2 x3 hw
    exact hw.elim
  | succ n ih =>
    intro x1 x2 x3 hw
    unfold PX5_areCouple_2 at hw
    refine g_iload_n X 3 dX5_areCouple_2 rfl rfl ?_
    refine g_aload_n X 0 dX5_areCouple_3 rfl rfl ?_
    refine g_get (T := TX5) (C := RX5) (N := 10) (v := .int (v 8 0)) X 0 8 (fun _ h => (List.mem_cons_of_mem _ (List.mem_append_right _ h))) (List.mem_of_getElem? (i := 1) rfl) dX5_areCouple_4 rfl rfl (by decide) rfl rfl ?_
    refine g_icmp_ge X 38 dX5_areCouple_7 (by decide) (fun c1 => ?_) (fun c1 => ?_)
    · replace hw := hw.1 c1
      refine g_iconst (v := 0) X rfl dX5_areCouple_38 ?_
      exact g_zret X () isB_0 hw rfl (Nat.le_of_ble_eq_true rfl) (Nat.le_of_ble_eq_true rfl) dX5_areCouple_39
    · replace hw := hw.2 c1
      refine g_aload_n X 0 dX5_areCouple_10 rfl rfl ?_
      refine g_get (T := TX5) (C := RX5) (N := 10) (v := .ref (a 4)) X 0 3 (fun _ h => (List.mem_cons_of_mem _ (List.mem_append_right _ h))) (List.mem_of_getElem? (i := 2) rfl) dX5_areCouple_11 rfl rfl (by decide) rfl rfl ?_
      refine g_iload_n X 3 dX5_areCouple_14 rfl rfl ?_
      obtain ⟨h2, hw⟩ := hw
      refine g_iald X 4 0 dX5_areCouple_15 rfl rfl h2 ?_
      refine g_iload_n X 1 dX5_areCouple_16 rfl rfl ?_
      refine g_icmp_ne X 32 dX5_areCouple_17 (by decide) (fun c3 => ?_) (fun c3 => ?_)
      · replace hw := hw.1 c3
        refine g_iinc X [(3, .int (x3 + 1)), (0, .ref (a 0)), (1, .int x1), (2, .int x2)] 3 dX5_areCouple_32 rfl rfl (by decide) rfl ?_
        refine g_goto X 2 dX5_areCouple_35 (by decide) ?_
        refine g_sub [(0, .ref (a 0)), (1, .int x1), (2, .int x2), (3, .int (x3 + 1))] [1, 2, 3, 0] rfl ?_
        exact ih _ _ _ hw
      · replace hw := hw.2 c3
        refine g_aload_n X 0 dX5_areCouple_20 rfl rfl ?_
        refine g_get (T := TX5) (C := RX5) (N := 10) (v := .ref (a 5)) X 0 4 (fun _ h => (List.mem_cons_of_mem _ (List.mem_append_right _ h))) (List.mem_of_getElem? (i := 3) rfl) dX5_areCouple_21 rfl rfl (by decide) rfl rfl ?_
        refine g_iload_n X 3 dX5_areCouple_24 rfl rfl ?_
        obtain ⟨h4, hw⟩ := hw
        refine g_iald X 5 0 dX5_areCouple_25 rfl rfl h4 ?_
        refine g_iload_n X 2 dX5_areCouple_26 rfl rfl ?_
        refine g_icmp_ne X 32 dX5_areCouple_27 (by decide) (fun c5 => ?_) (fun c5 => ?_)
        · replace hw := hw.1 c5
          refine g_iinc X [(3, .int (x3 + 1)), (0, .ref (a 0)), (1, .int x1), (2, .int x2)] 3 dX5_areCouple_32 rfl rfl (by decide) rfl ?_
          refine g_goto X 2 dX5_areCouple_35 (by decide) ?_
          refine g_sub [(0, .ref (a 0)), (1, .int x1), (2, .int x2), (3, .int (x3 + 1))] [1, 2, 3, 0] rfl ?_
          exact ih _ _ _ hw
        · replace hw := hw.2 c5
          refine g_iconst (v := 1) X rfl dX5_areCouple_30 ?_
          exact g_zret X () isB_1 hw rfl (Nat.le_of_ble_eq_true rfl) (Nat.le_of_ble_eq_true rfl) dX5_areCouple_31

set_option maxHeartbeats 4000000 in
set_option maxRecDepth 20000 in
theorem kX5_areCouple (l : Launch) (D : va_G) (ct : Nat → ClassId) (a : Nat → Nat) (v : Mem) (p1 : Int32) (p2 : Int32) (post : Int32 → Prop) (hw : PX5_areCouple v p1 p2 post) : Ci (S := Unit) l yX5_areCouple wsX5_areCouple rmX5_areCouple D (tyz ct) [.ref (a 0), .int p1, .int p2] (wS ct a v) (fun r (_ : Unit) => post r) (fun _ => wS ct a v) 0 0 := by
  intro sz
  refine g_of (own := RX5) (by decide) rfl rfl (Nat.le_of_ble_eq_true rfl) [(0, .ref (a 0)), (1, .int p1), (2, .int p2)] rfl (fun p e s m args below meth c hsz X => ?_)
  subst hsz
  unfold PX5_areCouple at hw
  refine g_iconst (v := 0) X rfl dX5_areCouple_0 ?_
  refine g_istore_n X [(3, .int 0), (0, .ref (a 0)), (1, .int p1), (2, .int p2)] dX5_areCouple_1 rfl (by decide) rfl ?_
  refine g_sub [(0, .ref (a 0)), (1, .int p1), (2, .int p2), (3, .int 0)] [1, 2, 3, 0] rfl ?_
  obtain ⟨n6, hw⟩ := hw
  exact kX5_areCouple_2 l D ct a v post X n6 _ _ _ hw

abbrev rmX5_couplesWith : Room := { frames := 0, cells := 0, slots := 0, locals := 0 }

abbrev GX5_couplesWith (l : Launch) (D : va_G) (ct : Nat → ClassId) (a : Nat → Nat) (v : Mem) (post : Int32 → Prop) (p : Program) (e : Env) (s : State) (m : MethodId) (args : Array Value) (below : List Frame) (meth : Method) (c : Code) (A : Nat → Prop) (w9 : va_W) (lv : List (Nat × Value)) (pc : Nat) (st : List Value) : Prop :=
  GG p l e rmX5_couplesWith s m args below meth c D A s.heap 4 (MQ below (va_Qi (fun r (_ : Unit) => post r) (fun u9 t9 => Af D (tyz ct) A ((fun _ => wS ct a v) u9) t9) A)  args s 0 0 A) w9 0 0 lv pc st

set_option maxHeartbeats 4000000 in
set_option maxRecDepth 20000 in
theorem kX5_couplesWith_4 (l : Launch) (D : va_G) (ct : Nat → ClassId) (a : Nat → Nat) (v : Mem) (post : Int32 → Prop) {p : Program} {e : Env} {s : State} {m : MethodId} {args : Array Value} {below : List Frame} {meth : Method} {c : Code} {A : Nat → Prop} (X : Cx p s m args meth c cX5_couplesWith 4 RX5 wsX5_couplesWith D (tyz ct) A s.heap (some .int))  :
    ∀ (n : Nat) (x1 : Int32) (x2 : Int32) (x3 : Int32), PX5_couplesWith_4 v post n x1 x2 x3 → GX5_couplesWith l D ct a v post p e s m args below meth c A (wS ct a v) [(0, .ref (a 0)), (1, .int x1), (2, .int x2), (3, .int x3)] 4 [] := by
  intro n
  induction n with
  | zero =>
    intro x1 x2 x3 hw
    exact hw.elim
  | succ n ih =>
    intro x1 x2 x3 hw
    unfold PX5_couplesWith_4 at hw
    refine g_iload_n X 3 dX5_couplesWith_4 rfl rfl ?_
    refine g_aload_n X 0 dX5_couplesWith_5 rfl rfl ?_
    refine g_get (T := TX5) (C := RX5) (N := 10) (v := .int (v 8 0)) X 0 8 (fun _ h => (List.mem_cons_of_mem _ (List.mem_append_right _ h))) (List.mem_of_getElem? (i := 1) rfl) dX5_couplesWith_6 rfl rfl (by decide) rfl rfl ?_
    refine g_icmp_ge X 41 dX5_couplesWith_9 (by decide) (fun c1 => ?_) (fun c1 => ?_)
    · replace hw := hw.1 c1
      refine g_iload_n X 2 dX5_couplesWith_41 rfl rfl ?_
      exact g_iret X () hw rfl (Nat.le_of_ble_eq_true rfl) (Nat.le_of_ble_eq_true rfl) dX5_couplesWith_42
    · replace hw := hw.2 c1
      refine g_aload_n X 0 dX5_couplesWith_12 rfl rfl ?_
      refine g_get (T := TX5) (C := RX5) (N := 10) (v := .ref (a 4)) X 0 3 (fun _ h => (List.mem_cons_of_mem _ (List.mem_append_right _ h))) (List.mem_of_getElem? (i := 2) rfl) dX5_couplesWith_13 rfl rfl (by decide) rfl rfl ?_
      refine g_iload_n X 3 dX5_couplesWith_16 rfl rfl ?_
      obtain ⟨h2, hw⟩ := hw
      refine g_iald X 4 0 dX5_couplesWith_17 rfl rfl h2 ?_
      refine g_iload_n X 1 dX5_couplesWith_18 rfl rfl ?_
      refine g_icmp_eq X 32 dX5_couplesWith_19 (by decide) (fun c3 => ?_) (fun c3 => ?_)
      · replace hw := hw.1 c3
        refine g_iinc X [(2, .int (x2 + 1)), (0, .ref (a 0)), (1, .int x1), (3, .int x3)] 2 dX5_couplesWith_32 rfl rfl (by decide) rfl ?_
        refine g_iinc X [(3, .int (x3 + 1)), (2, .int (x2 + 1)), (0, .ref (a 0)), (1, .int x1)] 3 dX5_couplesWith_35 rfl rfl (by decide) rfl ?_
        refine g_goto X 4 dX5_couplesWith_38 (by decide) ?_
        refine g_sub [(0, .ref (a 0)), (1, .int x1), (2, .int (x2 + 1)), (3, .int (x3 + 1))] [2, 3, 1, 0] rfl ?_
        exact ih _ _ _ hw
      · replace hw := hw.2 c3
        refine g_aload_n X 0 dX5_couplesWith_22 rfl rfl ?_
        refine g_get (T := TX5) (C := RX5) (N := 10) (v := .ref (a 5)) X 0 4 (fun _ h => (List.mem_cons_of_mem _ (List.mem_append_right _ h))) (List.mem_of_getElem? (i := 3) rfl) dX5_couplesWith_23 rfl rfl (by decide) rfl rfl ?_
        refine g_iload_n X 3 dX5_couplesWith_26 rfl rfl ?_
        obtain ⟨h4, hw⟩ := hw
        refine g_iald X 5 0 dX5_couplesWith_27 rfl rfl h4 ?_
        refine g_iload_n X 1 dX5_couplesWith_28 rfl rfl ?_
        refine g_icmp_ne X 35 dX5_couplesWith_29 (by decide) (fun c5 => ?_) (fun c5 => ?_)
        · replace hw := hw.1 c5
          refine g_iinc X [(3, .int (x3 + 1)), (0, .ref (a 0)), (1, .int x1), (2, .int x2)] 3 dX5_couplesWith_35 rfl rfl (by decide) rfl ?_
          refine g_goto X 4 dX5_couplesWith_38 (by decide) ?_
          refine g_sub [(0, .ref (a 0)), (1, .int x1), (2, .int x2), (3, .int (x3 + 1))] [1, 2, 3, 0] rfl ?_
          exact ih _ _ _ hw
        · replace hw := hw.2 c5
          refine g_iinc X [(2, .int (x2 + 1)), (0, .ref (a 0)), (1, .int x1), (3, .int x3)] 2 dX5_couplesWith_32 rfl rfl (by decide) rfl ?_
          refine g_iinc X [(3, .int (x3 + 1)), (2, .int (x2 + 1)), (0, .ref (a 0)), (1, .int x1)] 3 dX5_couplesWith_35 rfl rfl (by decide) rfl ?_
          refine g_goto X 4 dX5_couplesWith_38 (by decide) ?_
          refine g_sub [(0, .ref (a 0)), (1, .int x1), (2, .int (x2 + 1)), (3, .int (x3 + 1))] [2, 3, 1, 0] rfl ?_
          exact ih _ _ _ hw

set_option maxHeartbeats 4000000 in
set_option maxRecDepth 20000 in
theorem kX5_couplesWith (l : Launch) (D : va_G) (ct : Nat → ClassId) (a : Nat → Nat) (v : Mem) (p1 : Int32) (post : Int32 → Prop) (hw : PX5_couplesWith v p1 post) : Ci (S := Unit) l yX5_couplesWith wsX5_couplesWith rmX5_couplesWith D (tyz ct) [.ref (a 0), .int p1] (wS ct a v) (fun r (_ : Unit) => post r) (fun _ => wS ct a v) 0 0 := by
  intro sz
  refine g_of (own := RX5) (by decide) rfl rfl (Nat.le_of_ble_eq_true rfl) [(0, .ref (a 0)), (1, .int p1)] rfl (fun p e s m args below meth c hsz X => ?_)
  subst hsz
  unfold PX5_couplesWith at hw
  refine g_iconst (v := 0) X rfl dX5_couplesWith_0 ?_
  refine g_istore_n X [(2, .int 0), (0, .ref (a 0)), (1, .int p1)] dX5_couplesWith_1 rfl (by decide) rfl ?_
  refine g_iconst (v := 0) X rfl dX5_couplesWith_2 ?_
  refine g_istore_n X [(3, .int 0), (2, .int 0), (0, .ref (a 0)), (1, .int p1)] dX5_couplesWith_3 rfl (by decide) rfl ?_
  refine g_sub [(0, .ref (a 0)), (1, .int p1), (2, .int 0), (3, .int 0)] [2, 3, 1, 0] rfl ?_
  obtain ⟨n6, hw⟩ := hw
  exact kX5_couplesWith_4 l D ct a v post X n6 _ _ _ hw

abbrev rmX5_isDouble : Room := { frames := 1, cells := 0, slots := 0, locals := 23 }

abbrev GX5_isDouble (l : Launch) (D : va_G) (ct : Nat → ClassId) (a : Nat → Nat) (v : Mem) (post : Int32 → Prop) (p : Program) (e : Env) (s : State) (m : MethodId) (args : Array Value) (below : List Frame) (meth : Method) (c : Code) (A : Nat → Prop) (w9 : va_W) (lv : List (Nat × Value)) (pc : Nat) (st : List Value) : Prop :=
  GG p l e rmX5_isDouble s m args below meth c D A s.heap 2 (MQ below (va_Qi (fun r (_ : Unit) => post r) (fun u9 t9 => Af D (tyz ct) A ((fun _ => wS ct a v) u9) t9) A)  args s 0 0 A) w9 0 0 lv pc st

set_option maxHeartbeats 4000000 in
set_option maxRecDepth 20000 in
theorem kX5_isDouble (l : Launch) (D : va_G) (ct : Nat → ClassId) (a : Nat → Nat) (v : Mem) (p1 : Int32) (post : Int32 → Prop) (hw : PX5_isDouble v p1 post) : Ci (S := Unit) l yX5_isDouble wsX5_isDouble rmX5_isDouble D (tyz ct) [.ref (a 0), .int p1] (wS ct a v) (fun r (_ : Unit) => post r) (fun _ => wS ct a v) 0 0 := by
  intro sz
  refine g_of (own := RX5) (by decide) rfl rfl (Nat.le_of_ble_eq_true rfl) [(0, .ref (a 0)), (1, .int p1)] rfl (fun p e s m args below meth c hsz X => ?_)
  subst hsz
  unfold PX5_isDouble at hw
  refine g_aload_n X 0 dX5_isDouble_0 rfl rfl ?_
  refine g_iload_n X 1 dX5_isDouble_1 rfl rfl ?_
  refine g_ciV X [wS ct a v] (fun (_ : Unit) => [wS ct a v]) (fun _ => wS ct a v) 1 [0] [] 0 (kX5_couplesWith l D ct a v p1 _ hw) (cwV 1 X.1.2.2.2.2 gX5_isDouble_X5_couplesWith rfl rfl rfl (by decide +kernel) ⟨Nat.le_of_ble_eq_true rfl, Nat.le_of_ble_eq_true rfl⟩) dX5_isDouble_2 rfl rfl (Nat.le_of_ble_eq_true rfl) ⟨Nat.le_of_ble_eq_true rfl, Nat.le_of_ble_eq_true rfl⟩ rfl rfl rfl (by decide) (fun _ => rfl) (fun _ => rfl) (fun _ => rfl) (fun _ => rfl) rfl rfl rfl (fun r1 _ hw => ?_)
  refine g_iconst (v := 2) X rfl dX5_isDouble_5 ?_
  refine g_icmp_lt X 13 dX5_isDouble_6 (by decide) (fun c3 => ?_) (fun c3 => ?_)
  · replace hw := hw.1 c3
    refine g_iconst (v := 0) X rfl dX5_isDouble_13 ?_
    exact g_zret X () isB_0 hw rfl (Nat.le_of_ble_eq_true rfl) (Nat.le_of_ble_eq_true rfl) dX5_isDouble_14
  · replace hw := hw.2 c3
    refine g_iconst (v := 1) X rfl dX5_isDouble_9 ?_
    refine g_goto X 14 dX5_isDouble_10 (by decide) ?_
    exact g_zret X () isB_1 hw rfl (Nat.le_of_ble_eq_true rfl) (Nat.le_of_ble_eq_true rfl) dX5_isDouble_14

abbrev rmX5_reasonAgainst : Room := { frames := 2, cells := 0, slots := 0, locals := 44 }

abbrev GX5_reasonAgainst (l : Launch) (D : va_G) (ct : Nat → ClassId) (a : Nat → Nat) (v : Mem) (post : Int32 → Prop) (p : Program) (e : Env) (s : State) (m : MethodId) (args : Array Value) (below : List Frame) (meth : Method) (c : Code) (A : Nat → Prop) (w9 : va_W) (lv : List (Nat × Value)) (pc : Nat) (st : List Value) : Prop :=
  GG p l e rmX5_reasonAgainst s m args below meth c D A s.heap 3 (MQ below (va_Qi (fun r (_ : Unit) => post r) (fun u9 t9 => Af D (tyz ct) A ((fun _ => wS ct a v) u9) t9) A)  args s 0 0 A) w9 0 0 lv pc st

set_option maxHeartbeats 4000000 in
set_option maxRecDepth 20000 in
theorem kX5_reasonAgainst (l : Launch) (D : va_G) (ct : Nat → ClassId) (a : Nat → Nat) (v : Mem) (p1 : Int32) (p2 : Int32) (post : Int32 → Prop) (hw : PX5_reasonAgainst v p1 p2 post) : Ci (S := Unit) l yX5_reasonAgainst wsX5_reasonAgainst rmX5_reasonAgainst D (tyz ct) [.ref (a 0), .int p1, .int p2] (wS ct a v) (fun r (_ : Unit) => post r) (fun _ => wS ct a v) 0 0 := by
  intro sz
  refine g_of (own := RX5) (by decide) rfl rfl (Nat.le_of_ble_eq_true rfl) [(0, .ref (a 0)), (1, .int p1), (2, .int p2)] rfl (fun p e s m args below meth c hsz X => ?_)
  subst hsz
  unfold PX5_reasonAgainst at hw
  refine g_aload_n X 0 dX5_reasonAgainst_0 rfl rfl ?_
  refine g_get (T := TX5) (C := RX5) (N := 10) (v := .int (v 8 0)) X 0 8 (fun _ h => (List.mem_cons_of_mem _ (List.mem_append_right _ h))) (List.mem_of_getElem? (i := 1) rfl) dX5_reasonAgainst_1 rfl rfl (by decide) rfl rfl ?_
  refine g_bipush (v := 10) X rfl dX5_reasonAgainst_4 ?_
  refine g_icmp_lt X 11 dX5_reasonAgainst_6 (by decide) (fun c1 => ?_) (fun c1 => ?_)
  · replace hw := hw.1 c1
    refine g_aload_n X 0 dX5_reasonAgainst_11 rfl rfl ?_
    refine g_iload_n X 1 dX5_reasonAgainst_12 rfl rfl ?_
    refine g_ciV X [wS ct a v] (fun (_ : Unit) => [wS ct a v]) (fun _ => wS ct a v) 1 [0] [] 0 (kX5_rowOf l D ct a v p1 _ hw) (cwV 1 X.1.2.2.2.2 gX5_reasonAgainst_X5_rowOf rfl rfl rfl (by decide +kernel) ⟨Nat.le_of_ble_eq_true rfl, Nat.le_of_ble_eq_true rfl⟩) dX5_reasonAgainst_13 rfl rfl (Nat.le_of_ble_eq_true rfl) ⟨Nat.le_of_ble_eq_true rfl, Nat.le_of_ble_eq_true rfl⟩ rfl rfl rfl (by decide) (fun _ => rfl) (fun _ => rfl) (fun _ => rfl) (fun _ => rfl) rfl rfl rfl (fun r2 _ hw => ?_)
    refine g_aload_n X 0 dX5_reasonAgainst_16 rfl rfl ?_
    refine g_iload_n X 2 dX5_reasonAgainst_17 rfl rfl ?_
    refine g_ciV X [wS ct a v] (fun (_ : Unit) => [wS ct a v]) (fun _ => wS ct a v) 1 [0] [] 0 (kX5_rowOf l D ct a v p2 _ hw) (cwV 1 X.1.2.2.2.2 gX5_reasonAgainst_X5_rowOf rfl rfl rfl (by decide +kernel) ⟨Nat.le_of_ble_eq_true rfl, Nat.le_of_ble_eq_true rfl⟩) dX5_reasonAgainst_18 rfl rfl (Nat.le_of_ble_eq_true rfl) ⟨Nat.le_of_ble_eq_true rfl, Nat.le_of_ble_eq_true rfl⟩ rfl rfl rfl (by decide) (fun _ => rfl) (fun _ => rfl) (fun _ => rfl) (fun _ => rfl) rfl rfl rfl (fun r4 _ hw => ?_)
    refine g_icmp_ne X 33 dX5_reasonAgainst_21 (by decide) (fun c6 => ?_) (fun c6 => ?_)
    · replace hw := hw.1 c6
      refine g_iconst (v := 2) X rfl dX5_reasonAgainst_33 ?_
      exact g_iret X () hw rfl (Nat.le_of_ble_eq_true rfl) (Nat.le_of_ble_eq_true rfl) dX5_reasonAgainst_34
    · replace hw := hw.2 c6
      refine g_aload_n X 0 dX5_reasonAgainst_24 rfl rfl ?_
      refine g_iload_n X 1 dX5_reasonAgainst_25 rfl rfl ?_
      refine g_ciV X [wS ct a v] (fun (_ : Unit) => [wS ct a v]) (fun _ => wS ct a v) 1 [0] [] 0 (kX5_rowOf l D ct a v p1 _ hw) (cwV 1 X.1.2.2.2.2 gX5_reasonAgainst_X5_rowOf rfl rfl rfl (by decide +kernel) ⟨Nat.le_of_ble_eq_true rfl, Nat.le_of_ble_eq_true rfl⟩) dX5_reasonAgainst_26 rfl rfl (Nat.le_of_ble_eq_true rfl) ⟨Nat.le_of_ble_eq_true rfl, Nat.le_of_ble_eq_true rfl⟩ rfl rfl rfl (by decide) (fun _ => rfl) (fun _ => rfl) (fun _ => rfl) (fun _ => rfl) rfl rfl rfl (fun r7 _ hw => ?_)
      refine g_iconst (v := 3) X rfl dX5_reasonAgainst_29 ?_
      refine g_icmp_ne X 35 dX5_reasonAgainst_30 (by decide) (fun c9 => ?_) (fun c9 => ?_)
      · replace hw := hw.1 c9
        refine g_aload_n X 0 dX5_reasonAgainst_35 rfl rfl ?_
        refine g_iload_n X 1 dX5_reasonAgainst_36 rfl rfl ?_
        refine g_iload_n X 2 dX5_reasonAgainst_37 rfl rfl ?_
        refine g_mmin X (List.mem_of_getElem? (i := 2) rfl) (List.mem_of_getElem? (i := 3) rfl) (List.mem_of_getElem? (i := 4) rfl) (List.mem_of_getElem? (i := 5) rfl) dX5_reasonAgainst_38 (Nat.le_of_ble_eq_true rfl) (Nat.le_of_ble_eq_true rfl) (Nat.le_of_ble_eq_true rfl) (Nat.le_of_ble_eq_true rfl) ?_
        refine g_iload_n X 1 dX5_reasonAgainst_41 rfl rfl ?_
        refine g_iload_n X 2 dX5_reasonAgainst_42 rfl rfl ?_
        refine g_mmax X (List.mem_of_getElem? (i := 6) rfl) (List.mem_of_getElem? (i := 7) rfl) (List.mem_of_getElem? (i := 4) rfl) (List.mem_of_getElem? (i := 8) rfl) dX5_reasonAgainst_43 (Nat.le_of_ble_eq_true rfl) (Nat.le_of_ble_eq_true rfl) (Nat.le_of_ble_eq_true rfl) (Nat.le_of_ble_eq_true rfl) ?_
        refine g_ciV X [wS ct a v] (fun (_ : Unit) => [wS ct a v]) (fun _ => wS ct a v) 1 [0] [] 0 (kX5_areCouple l D ct a v (if p2 < p1 then p2 else p1) (if p1 < p2 then p2 else p1) _ hw) (cwV 2 X.1.2.2.2.2 gX5_reasonAgainst_X5_areCouple rfl rfl rfl (by decide +kernel) ⟨Nat.le_of_ble_eq_true rfl, Nat.le_of_ble_eq_true rfl⟩) dX5_reasonAgainst_46 rfl rfl (Nat.le_of_ble_eq_true rfl) ⟨Nat.le_of_ble_eq_true rfl, Nat.le_of_ble_eq_true rfl⟩ rfl rfl rfl (by decide) (fun _ => rfl) (fun _ => rfl) (fun _ => rfl) (fun _ => rfl) rfl rfl rfl (fun r10 _ hw => ?_)
        refine g_if_eq X 54 dX5_reasonAgainst_49 (by decide) (fun c12 => ?_) (fun c12 => ?_)
        · replace hw := hw.1 c12
          refine g_aload_n X 0 dX5_reasonAgainst_54 rfl rfl ?_
          refine g_iload_n X 1 dX5_reasonAgainst_55 rfl rfl ?_
          refine g_ciV X [wS ct a v] (fun (_ : Unit) => [wS ct a v]) (fun _ => wS ct a v) 1 [0] [] 0 (kX5_isDouble l D ct a v p1 _ hw) (cwV 1 X.1.2.2.2.2 gX5_reasonAgainst_X5_isDouble rfl rfl rfl (by decide +kernel) ⟨Nat.le_of_ble_eq_true rfl, Nat.le_of_ble_eq_true rfl⟩) dX5_reasonAgainst_56 rfl rfl (Nat.le_of_ble_eq_true rfl) ⟨Nat.le_of_ble_eq_true rfl, Nat.le_of_ble_eq_true rfl⟩ rfl rfl rfl (by decide) (fun _ => rfl) (fun _ => rfl) (fun _ => rfl) (fun _ => rfl) rfl rfl rfl (fun r13 _ hw => ?_)
          refine g_if_ne X 70 dX5_reasonAgainst_59 (by decide) (fun c15 => ?_) (fun c15 => ?_)
          · replace hw := hw.1 c15
            refine g_iconst (v := 4) X rfl dX5_reasonAgainst_70 ?_
            exact g_iret X () hw rfl (Nat.le_of_ble_eq_true rfl) (Nat.le_of_ble_eq_true rfl) dX5_reasonAgainst_71
          · replace hw := hw.2 c15
            refine g_aload_n X 0 dX5_reasonAgainst_62 rfl rfl ?_
            refine g_iload_n X 2 dX5_reasonAgainst_63 rfl rfl ?_
            refine g_ciV X [wS ct a v] (fun (_ : Unit) => [wS ct a v]) (fun _ => wS ct a v) 1 [0] [] 0 (kX5_isDouble l D ct a v p2 _ hw) (cwV 1 X.1.2.2.2.2 gX5_reasonAgainst_X5_isDouble rfl rfl rfl (by decide +kernel) ⟨Nat.le_of_ble_eq_true rfl, Nat.le_of_ble_eq_true rfl⟩) dX5_reasonAgainst_64 rfl rfl (Nat.le_of_ble_eq_true rfl) ⟨Nat.le_of_ble_eq_true rfl, Nat.le_of_ble_eq_true rfl⟩ rfl rfl rfl (by decide) (fun _ => rfl) (fun _ => rfl) (fun _ => rfl) (fun _ => rfl) rfl rfl rfl (fun r16 _ hw => ?_)
            refine g_if_eq X 72 dX5_reasonAgainst_67 (by decide) (fun c18 => ?_) (fun c18 => ?_)
            · replace hw := hw.1 c18
              refine g_iconst (v := 0) X rfl dX5_reasonAgainst_72 ?_
              exact g_iret X () hw rfl (Nat.le_of_ble_eq_true rfl) (Nat.le_of_ble_eq_true rfl) dX5_reasonAgainst_73
            · replace hw := hw.2 c18
              refine g_iconst (v := 4) X rfl dX5_reasonAgainst_70 ?_
              exact g_iret X () hw rfl (Nat.le_of_ble_eq_true rfl) (Nat.le_of_ble_eq_true rfl) dX5_reasonAgainst_71
        · replace hw := hw.2 c12
          refine g_iconst (v := 3) X rfl dX5_reasonAgainst_52 ?_
          exact g_iret X () hw rfl (Nat.le_of_ble_eq_true rfl) (Nat.le_of_ble_eq_true rfl) dX5_reasonAgainst_53
      · replace hw := hw.2 c9
        refine g_iconst (v := 2) X rfl dX5_reasonAgainst_33 ?_
        exact g_iret X () hw rfl (Nat.le_of_ble_eq_true rfl) (Nat.le_of_ble_eq_true rfl) dX5_reasonAgainst_34
  · replace hw := hw.2 c1
    refine g_iconst (v := 1) X rfl dX5_reasonAgainst_9 ?_
    exact g_iret X () hw rfl (Nat.le_of_ble_eq_true rfl) (Nat.le_of_ble_eq_true rfl) dX5_reasonAgainst_10

abbrev rmX5_addCouple : Room := { frames := 3, cells := 0, slots := 0, locals := 66 }

abbrev GX5_addCouple (l : Launch) (D : va_G) (ct : Nat → ClassId) (a : Nat → Nat) (post : Int32 → Mem → Prop) (p : Program) (e : Env) (s : State) (m : MethodId) (args : Array Value) (below : List Frame) (meth : Method) (c : Code) (A : Nat → Prop) (w9 : va_W) (lv : List (Nat × Value)) (pc : Nat) (st : List Value) : Prop :=
  GG p l e rmX5_addCouple s m args below meth c D A s.heap 5 (MQ below (va_Qi (fun r (u9 : Mem) => post r u9) (fun u9 t9 => Af D (tyz ct) A ((fun u9 => wS ct a u9) u9) t9) A)  args s 0 0 A) w9 0 0 lv pc st

set_option maxHeartbeats 4000000 in
set_option maxRecDepth 20000 in
theorem kX5_addCouple (l : Launch) (D : va_G) (ct : Nat → ClassId) (a : Nat → Nat) (v : Mem) (p1 : Int32) (p2 : Int32) (post : Int32 → Mem → Prop) (hw : PX5_addCouple v p1 p2 post) : Ci (S := Mem) l yX5_addCouple wsX5_addCouple rmX5_addCouple D (tyz ct) [.ref (a 0), .int p1, .int p2] (wS ct a v) (fun r (u9 : Mem) => post r u9) (fun u9 => wS ct a u9) 0 0 := by
  intro sz
  refine g_of (own := RX5) (by decide) rfl rfl (Nat.le_of_ble_eq_true rfl) [(0, .ref (a 0)), (1, .int p1), (2, .int p2)] rfl (fun p e s m args below meth c hsz X => ?_)
  subst hsz
  unfold PX5_addCouple at hw
  refine g_aload_n X 0 dX5_addCouple_0 rfl rfl ?_
  refine g_iload_n X 1 dX5_addCouple_1 rfl rfl ?_
  refine g_iload_n X 2 dX5_addCouple_2 rfl rfl ?_
  refine g_ciV X [wS ct a v] (fun (_ : Unit) => [wS ct a v]) (fun _ => wS ct a v) 1 [0] [] 0 (kX5_reasonAgainst l D ct a v p1 p2 _ hw) (cwV 2 X.1.2.2.2.2 gX5_addCouple_X5_reasonAgainst rfl rfl rfl (by decide +kernel) ⟨Nat.le_of_ble_eq_true rfl, Nat.le_of_ble_eq_true rfl⟩) dX5_addCouple_3 rfl rfl (Nat.le_of_ble_eq_true rfl) ⟨Nat.le_of_ble_eq_true rfl, Nat.le_of_ble_eq_true rfl⟩ rfl rfl rfl (by decide) (fun _ => rfl) (fun _ => rfl) (fun _ => rfl) (fun _ => rfl) rfl rfl rfl (fun r1 _ hw => ?_)
  refine g_istore_n X [(3, .int r1), (0, .ref (a 0)), (1, .int p1), (2, .int p2)] dX5_addCouple_6 rfl (by decide) rfl ?_
  refine g_iload_n X 0 dX5_addCouple_7 rfl rfl ?_
  refine g_if_eq X 23 dX5_addCouple_8 (by decide) (fun c3 => ?_) (fun c3 => ?_)
  · replace hw := hw.1 c3
    refine g_aload_n X 1 dX5_addCouple_23 rfl rfl ?_
    refine g_get (T := TX5) (C := RX5) (N := 10) (v := .int (v 8 0)) X 0 8 (fun _ h => (List.mem_cons_of_mem _ (List.mem_append_right _ h))) (List.mem_of_getElem? (i := 2) rfl) dX5_addCouple_24 rfl rfl (by decide) rfl rfl ?_
    refine g_topi (fun q4 hq4 => ?_)
    replace hw := hw q4 hq4
    refine g_istore X [(4, .int q4), (3, .int r1), (0, .ref (a 0)), (1, .int p1), (2, .int p2)] dX5_addCouple_27 (by decide) rfl ?_
    refine g_aload_n X 2 dX5_addCouple_29 rfl rfl ?_
    refine g_dup X dX5_addCouple_30 rfl ?_
    refine g_get (T := TX5) (C := RX5) (N := 10) (v := .int (v 8 0)) X 0 8 (fun _ h => (List.mem_cons_of_mem _ (List.mem_append_right _ h))) (List.mem_of_getElem? (i := 2) rfl) dX5_addCouple_31 rfl rfl (by decide) rfl rfl ?_
    refine g_iconst (v := 1) X rfl dX5_addCouple_34 ?_
    refine g_iadd X dX5_addCouple_35 ?_
    refine g_put (T := TX5) (C := RX5) (N := 10) X (fun z => wS ct a z) v 0 8 tyX5 tyX5_ok nmX5 (fun _ h => (List.mem_cons_of_mem _ (List.mem_append_right _ h))) (List.mem_of_getElem? (i := 2) rfl) dX5_addCouple_36 rfl rfl (by decide) rfl rfl (by decide +kernel) (Nat.le_of_ble_eq_true rfl) rfl (fun v5 hv5 => ?_)
    replace hw := hw v5 hv5
    refine g_aload_n X 2 dX5_addCouple_39 rfl rfl ?_
    refine g_get (T := TX5) (C := RX5) (N := 10) (v := .ref (a 4)) X 0 3 (fun _ h => (List.mem_cons_of_mem _ (List.mem_append_right _ h))) (List.mem_of_getElem? (i := 3) rfl) dX5_addCouple_40 rfl rfl (by decide) rfl rfl ?_
    refine g_iload X 0 dX5_addCouple_43 rfl ?_
    refine g_iload_n X 3 dX5_addCouple_45 rfl rfl ?_
    refine g_iload_n X 4 dX5_addCouple_46 rfl rfl ?_
    refine g_mmin X (List.mem_of_getElem? (i := 4) rfl) (List.mem_of_getElem? (i := 5) rfl) (List.mem_of_getElem? (i := 6) rfl) (List.mem_of_getElem? (i := 7) rfl) dX5_addCouple_47 (Nat.le_of_ble_eq_true rfl) (Nat.le_of_ble_eq_true rfl) (Nat.le_of_ble_eq_true rfl) (Nat.le_of_ble_eq_true rfl) ?_
    obtain ⟨h6, hw⟩ := hw
    refine g_iast X (fun z => wS ct a z) v5 3 4 0 dX5_addCouple_50 rfl rfl h6 rfl (fun v7 hv7 => ?_)
    replace hw := hw v7 hv7
    refine g_aload_n X 2 dX5_addCouple_51 rfl rfl ?_
    refine g_get (T := TX5) (C := RX5) (N := 10) (v := .ref (a 5)) X 0 4 (fun _ h => (List.mem_cons_of_mem _ (List.mem_append_right _ h))) (List.mem_of_getElem? (i := 8) rfl) dX5_addCouple_52 rfl rfl (by decide) rfl rfl ?_
    refine g_iload X 0 dX5_addCouple_55 rfl ?_
    refine g_iload_n X 3 dX5_addCouple_57 rfl rfl ?_
    refine g_iload_n X 4 dX5_addCouple_58 rfl rfl ?_
    refine g_mmax X (List.mem_of_getElem? (i := 9) rfl) (List.mem_of_getElem? (i := 10) rfl) (List.mem_of_getElem? (i := 6) rfl) (List.mem_of_getElem? (i := 11) rfl) dX5_addCouple_59 (Nat.le_of_ble_eq_true rfl) (Nat.le_of_ble_eq_true rfl) (Nat.le_of_ble_eq_true rfl) (Nat.le_of_ble_eq_true rfl) ?_
    obtain ⟨h8, hw⟩ := hw
    refine g_iast X (fun z => wS ct a z) v7 4 5 0 dX5_addCouple_62 rfl rfl h8 rfl (fun v9 hv9 => ?_)
    replace hw := hw v9 hv9
    refine g_iload X 0 dX5_addCouple_63 rfl ?_
    refine g_bipush (v := 10) X rfl dX5_addCouple_65 ?_
    refine g_iadd X dX5_addCouple_67 ?_
    exact g_iret X v9 hw rfl (Nat.le_of_ble_eq_true rfl) (Nat.le_of_ble_eq_true rfl) dX5_addCouple_68
  · replace hw := hw.2 c3
    refine g_aload_n X 1 dX5_addCouple_11 rfl rfl ?_
    refine g_dup X dX5_addCouple_12 rfl ?_
    refine g_get (T := TX5) (C := RX5) (N := 10) (v := .int (v 9 0)) X 0 9 (fun _ h => (List.mem_cons_of_mem _ (List.mem_append_right _ h))) (List.mem_of_getElem? (i := 1) rfl) dX5_addCouple_13 rfl rfl (by decide) rfl rfl ?_
    refine g_iconst (v := 1) X rfl dX5_addCouple_16 ?_
    refine g_iadd X dX5_addCouple_17 ?_
    refine g_put (T := TX5) (C := RX5) (N := 10) X (fun z => wS ct a z) v 0 9 tyX5 tyX5_ok nmX5 (fun _ h => (List.mem_cons_of_mem _ (List.mem_append_right _ h))) (List.mem_of_getElem? (i := 1) rfl) dX5_addCouple_18 rfl rfl (by decide) rfl rfl (by decide +kernel) (Nat.le_of_ble_eq_true rfl) rfl (fun v10 hv10 => ?_)
    replace hw := hw v10 hv10
    refine g_iload_n X 0 dX5_addCouple_21 rfl rfl ?_
    exact g_iret X v10 hw rfl (Nat.le_of_ble_eq_true rfl) (Nat.le_of_ble_eq_true rfl) dX5_addCouple_22

abbrev rmX5_exchange : Room := { frames := 2, cells := 0, slots := 0, locals := 44 }

abbrev GX5_exchange (l : Launch) (D : va_G) (ct : Nat → ClassId) (a : Nat → Nat) (post : Mem → Prop) (p : Program) (e : Env) (s : State) (m : MethodId) (args : Array Value) (below : List Frame) (meth : Method) (c : Code) (A : Nat → Prop) (w9 : va_W) (lv : List (Nat × Value)) (pc : Nat) (st : List Value) : Prop :=
  GG p l e rmX5_exchange s m args below meth c D A s.heap 5 (MQ below (va_Qv (fun (u9 : Mem) => post u9) (fun u9 t9 => Af D (tyz ct) A ((fun u9 => wS ct a u9) u9) t9) A)  args s 0 0 A) w9 0 0 lv pc st

set_option maxHeartbeats 4000000 in
set_option maxRecDepth 20000 in
theorem kX5_exchange (l : Launch) (D : va_G) (ct : Nat → ClassId) (a : Nat → Nat) (v : Mem) (p1 : Int32) (p2 : Int32) (post : Mem → Prop) (hw : PX5_exchange v p1 p2 post) : Cv (S := Mem) l yX5_exchange wsX5_exchange rmX5_exchange D (tyz ct) [.ref (a 0), .int p1, .int p2] (wS ct a v) (fun (u9 : Mem) => post u9) (fun u9 => wS ct a u9) 0 0 := by
  intro sz
  refine g_of (own := RX5) (by decide) rfl rfl (Nat.le_of_ble_eq_true rfl) [(0, .ref (a 0)), (1, .int p1), (2, .int p2)] rfl (fun p e s m args below meth c hsz X => ?_)
  subst hsz
  unfold PX5_exchange at hw
  refine g_aload_n X 0 dX5_exchange_0 rfl rfl ?_
  refine g_iload_n X 1 dX5_exchange_1 rfl rfl ?_
  refine g_iload_n X 2 dX5_exchange_2 rfl rfl ?_
  refine g_ciV X [wS ct a v] (fun (_ : Unit) => [wS ct a v]) (fun _ => wS ct a v) 1 [0] [] 0 (kX5_personAt l D ct a v p1 p2 _ hw) (cwV 2 X.1.2.2.2.2 gX5_exchange_X5_personAt rfl rfl rfl (by decide +kernel) ⟨Nat.le_of_ble_eq_true rfl, Nat.le_of_ble_eq_true rfl⟩) dX5_exchange_3 rfl rfl (Nat.le_of_ble_eq_true rfl) ⟨Nat.le_of_ble_eq_true rfl, Nat.le_of_ble_eq_true rfl⟩ rfl rfl rfl (by decide) (fun _ => rfl) (fun _ => rfl) (fun _ => rfl) (fun _ => rfl) rfl rfl rfl (fun r1 _ hw => ?_)
  refine g_istore_n X [(3, .int r1), (0, .ref (a 0)), (1, .int p1), (2, .int p2)] dX5_exchange_6 rfl (by decide) rfl ?_
  refine g_aload_n X 1 dX5_exchange_7 rfl rfl ?_
  refine g_iload_n X 2 dX5_exchange_8 rfl rfl ?_
  refine g_iload_n X 3 dX5_exchange_9 rfl rfl ?_
  refine g_iconst (v := 1) X rfl dX5_exchange_10 ?_
  refine g_iadd X dX5_exchange_11 ?_
  refine g_ciV X [wS ct a v] (fun (_ : Unit) => [wS ct a v]) (fun _ => wS ct a v) 1 [0] [] 0 (kX5_personAt l D ct a v p1 (p2 + 1) _ hw) (cwV 2 X.1.2.2.2.2 gX5_exchange_X5_personAt rfl rfl rfl (by decide +kernel) ⟨Nat.le_of_ble_eq_true rfl, Nat.le_of_ble_eq_true rfl⟩) dX5_exchange_12 rfl rfl (Nat.le_of_ble_eq_true rfl) ⟨Nat.le_of_ble_eq_true rfl, Nat.le_of_ble_eq_true rfl⟩ rfl rfl rfl (by decide) (fun _ => rfl) (fun _ => rfl) (fun _ => rfl) (fun _ => rfl) rfl rfl rfl (fun r3 _ hw => ?_)
  refine g_istore X [(4, .int r3), (3, .int r1), (0, .ref (a 0)), (1, .int p1), (2, .int p2)] dX5_exchange_15 (by decide) rfl ?_
  refine g_iload_n X 1 dX5_exchange_17 rfl rfl ?_
  refine g_iconst (v := (-1)) X rfl dX5_exchange_18 ?_
  refine g_icmp_eq X 45 dX5_exchange_19 (by decide) (fun c5 => ?_) (fun c5 => ?_)
  · replace hw := hw.1 c5
    exact g_vret X v hw rfl (Nat.le_of_ble_eq_true rfl) (Nat.le_of_ble_eq_true rfl) dX5_exchange_45
  · replace hw := hw.2 c5
    refine g_iload X 0 dX5_exchange_22 rfl ?_
    refine g_iconst (v := (-1)) X rfl dX5_exchange_24 ?_
    refine g_icmp_eq X 45 dX5_exchange_25 (by decide) (fun c6 => ?_) (fun c6 => ?_)
    · replace hw := hw.1 c6
      exact g_vret X v hw rfl (Nat.le_of_ble_eq_true rfl) (Nat.le_of_ble_eq_true rfl) dX5_exchange_45
    · replace hw := hw.2 c6
      refine g_aload_n X 2 dX5_exchange_28 rfl rfl ?_
      refine g_iload_n X 3 dX5_exchange_29 rfl rfl ?_
      refine g_iload_n X 4 dX5_exchange_30 rfl rfl ?_
      refine g_iload X 0 dX5_exchange_31 rfl ?_
      refine g_cvV X [wS ct a v] (fun (u7 : Mem) => [wS ct a u7]) (fun (u7 : Mem) => wS ct a u7) 1 [0] [] 0 (kX5_lay l D ct a v p1 p2 r3 _ hw) (cwV 3 X.1.2.2.2.2 gX5_exchange_X5_lay rfl rfl rfl (by decide +kernel) ⟨Nat.le_of_ble_eq_true rfl, Nat.le_of_ble_eq_true rfl⟩) dX5_exchange_33 rfl rfl (Nat.le_of_ble_eq_true rfl) ⟨Nat.le_of_ble_eq_true rfl, Nat.le_of_ble_eq_true rfl⟩ rfl rfl rfl (by decide) (fun _ => rfl) (fun _ => rfl) (fun _ => rfl) (fun _ => rfl) rfl rfl rfl (fun u7 hw => ?_)
      obtain ⟨v8, hv8⟩ : ∃ z : Mem, z = u7 := ⟨_, rfl⟩
      rw [← hv8] at hw
      rw [← hv8]
      refine g_aload_n X 2 dX5_exchange_36 rfl rfl ?_
      refine g_iload_n X 3 dX5_exchange_37 rfl rfl ?_
      refine g_iload_n X 4 dX5_exchange_38 rfl rfl ?_
      refine g_iconst (v := 1) X rfl dX5_exchange_39 ?_
      refine g_iadd X dX5_exchange_40 ?_
      refine g_iload_n X 1 dX5_exchange_41 rfl rfl ?_
      refine g_cvV X [wS ct a v8] (fun (u9 : Mem) => [wS ct a u9]) (fun (u9 : Mem) => wS ct a u9) 1 [0] [] 0 (kX5_lay l D ct a v8 p1 (p2 + 1) r1 _ hw) (cwV 3 X.1.2.2.2.2 gX5_exchange_X5_lay rfl rfl rfl (by decide +kernel) ⟨Nat.le_of_ble_eq_true rfl, Nat.le_of_ble_eq_true rfl⟩) dX5_exchange_42 rfl rfl (Nat.le_of_ble_eq_true rfl) ⟨Nat.le_of_ble_eq_true rfl, Nat.le_of_ble_eq_true rfl⟩ rfl rfl rfl (by decide) (fun _ => rfl) (fun _ => rfl) (fun _ => rfl) (fun _ => rfl) rfl rfl rfl (fun u9 hw => ?_)
      obtain ⟨v10, hv10⟩ : ∃ z : Mem, z = u9 := ⟨_, rfl⟩
      rw [← hv10] at hw
      rw [← hv10]
      exact g_vret X v10 hw rfl (Nat.le_of_ble_eq_true rfl) (Nat.le_of_ble_eq_true rfl) dX5_exchange_45

abbrev rmX5_childrenOf : Room := { frames := 0, cells := 0, slots := 0, locals := 0 }

abbrev GX5_childrenOf (l : Launch) (D : va_G) (ct : Nat → ClassId) (a : Nat → Nat) (v : Mem) (post : Int32 → Prop) (p : Program) (e : Env) (s : State) (m : MethodId) (args : Array Value) (below : List Frame) (meth : Method) (c : Code) (A : Nat → Prop) (w9 : va_W) (lv : List (Nat × Value)) (pc : Nat) (st : List Value) : Prop :=
  GG p l e rmX5_childrenOf s m args below meth c D A s.heap 4 (MQ below (va_Qi (fun r (_ : Unit) => post r) (fun u9 t9 => Af D (tyz ct) A ((fun _ => wS ct a v) u9) t9) A)  args s 0 0 A) w9 0 0 lv pc st

set_option maxHeartbeats 4000000 in
set_option maxRecDepth 20000 in
theorem kX5_childrenOf_4 (l : Launch) (D : va_G) (ct : Nat → ClassId) (a : Nat → Nat) (v : Mem) (post : Int32 → Prop) {p : Program} {e : Env} {s : State} {m : MethodId} {args : Array Value} {below : List Frame} {meth : Method} {c : Code} {A : Nat → Prop} (X : Cx p s m args meth c cX5_childrenOf 4 RX5 wsX5_childrenOf D (tyz ct) A s.heap (some .int))  :
    ∀ (n : Nat) (x1 : Int32) (x2 : Int32) (x3 : Int32), PX5_childrenOf_4 v post n x1 x2 x3 → GX5_childrenOf l D ct a v post p e s m args below meth c A (wS ct a v) [(0, .ref (a 0)), (1, .int x1), (2, .int x2), (3, .int x3)] 4 [] := by
  intro n
  induction n with
  | zero =>
    intro x1 x2 x3 hw
    exact hw.elim
  | succ n ih =>
    intro x1 x2 x3 hw
    unfold PX5_childrenOf_4 at hw
    refine g_iload_n X 3 dX5_childrenOf_4 rfl rfl ?_
    refine g_aload_n X 0 dX5_childrenOf_5 rfl rfl ?_
    refine g_get (T := TX5) (C := RX5) (N := 10) (v := .int (v 7 0)) X 0 7 (fun _ h => (List.mem_cons_of_mem _ (List.mem_append_right _ h))) (List.mem_of_getElem? (i := 1) rfl) dX5_childrenOf_6 rfl rfl (by decide) rfl rfl ?_
    refine g_icmp_ge X 31 dX5_childrenOf_9 (by decide) (fun c1 => ?_) (fun c1 => ?_)
    · replace hw := hw.1 c1
      refine g_iload_n X 2 dX5_childrenOf_31 rfl rfl ?_
      exact g_iret X () hw rfl (Nat.le_of_ble_eq_true rfl) (Nat.le_of_ble_eq_true rfl) dX5_childrenOf_32
    · replace hw := hw.2 c1
      refine g_aload_n X 0 dX5_childrenOf_12 rfl rfl ?_
      refine g_get (T := TX5) (C := RX5) (N := 10) (v := .ref (a 3)) X 0 2 (fun _ h => (List.mem_cons_of_mem _ (List.mem_append_right _ h))) (List.mem_of_getElem? (i := 2) rfl) dX5_childrenOf_13 rfl rfl (by decide) rfl rfl ?_
      refine g_iload_n X 3 dX5_childrenOf_16 rfl rfl ?_
      obtain ⟨h2, hw⟩ := hw
      refine g_iald X 3 0 dX5_childrenOf_17 rfl rfl h2 ?_
      refine g_iload_n X 1 dX5_childrenOf_18 rfl rfl ?_
      refine g_icmp_ne X 25 dX5_childrenOf_19 (by decide) (fun c3 => ?_) (fun c3 => ?_)
      · replace hw := hw.1 c3
        refine g_iinc X [(3, .int (x3 + 1)), (0, .ref (a 0)), (1, .int x1), (2, .int x2)] 3 dX5_childrenOf_25 rfl rfl (by decide) rfl ?_
        refine g_goto X 4 dX5_childrenOf_28 (by decide) ?_
        refine g_sub [(0, .ref (a 0)), (1, .int x1), (2, .int x2), (3, .int (x3 + 1))] [1, 2, 3, 0] rfl ?_
        exact ih _ _ _ hw
      · replace hw := hw.2 c3
        refine g_iinc X [(2, .int (x2 + 1)), (0, .ref (a 0)), (1, .int x1), (3, .int x3)] 2 dX5_childrenOf_22 rfl rfl (by decide) rfl ?_
        refine g_iinc X [(3, .int (x3 + 1)), (2, .int (x2 + 1)), (0, .ref (a 0)), (1, .int x1)] 3 dX5_childrenOf_25 rfl rfl (by decide) rfl ?_
        refine g_goto X 4 dX5_childrenOf_28 (by decide) ?_
        refine g_sub [(0, .ref (a 0)), (1, .int x1), (2, .int (x2 + 1)), (3, .int (x3 + 1))] [2, 3, 1, 0] rfl ?_
        exact ih _ _ _ hw

set_option maxHeartbeats 4000000 in
set_option maxRecDepth 20000 in
theorem kX5_childrenOf (l : Launch) (D : va_G) (ct : Nat → ClassId) (a : Nat → Nat) (v : Mem) (p1 : Int32) (post : Int32 → Prop) (hw : PX5_childrenOf v p1 post) : Ci (S := Unit) l yX5_childrenOf wsX5_childrenOf rmX5_childrenOf D (tyz ct) [.ref (a 0), .int p1] (wS ct a v) (fun r (_ : Unit) => post r) (fun _ => wS ct a v) 0 0 := by
  intro sz
  refine g_of (own := RX5) (by decide) rfl rfl (Nat.le_of_ble_eq_true rfl) [(0, .ref (a 0)), (1, .int p1)] rfl (fun p e s m args below meth c hsz X => ?_)
  subst hsz
  unfold PX5_childrenOf at hw
  refine g_iconst (v := 0) X rfl dX5_childrenOf_0 ?_
  refine g_istore_n X [(2, .int 0), (0, .ref (a 0)), (1, .int p1)] dX5_childrenOf_1 rfl (by decide) rfl ?_
  refine g_iconst (v := 0) X rfl dX5_childrenOf_2 ?_
  refine g_istore_n X [(3, .int 0), (2, .int 0), (0, .ref (a 0)), (1, .int p1)] dX5_childrenOf_3 rfl (by decide) rfl ?_
  refine g_sub [(0, .ref (a 0)), (1, .int p1), (2, .int 0), (3, .int 0)] [2, 3, 1, 0] rfl ?_
  obtain ⟨n4, hw⟩ := hw
  exact kX5_childrenOf_4 l D ct a v post X n4 _ _ _ hw

abbrev rmX5_childrenWith : Room := { frames := 1, cells := 0, slots := 0, locals := 23 }

abbrev GX5_childrenWith (l : Launch) (D : va_G) (ct : Nat → ClassId) (a : Nat → Nat) (v : Mem) (post : Int32 → Prop) (p : Program) (e : Env) (s : State) (m : MethodId) (args : Array Value) (below : List Frame) (meth : Method) (c : Code) (A : Nat → Prop) (w9 : va_W) (lv : List (Nat × Value)) (pc : Nat) (st : List Value) : Prop :=
  GG p l e rmX5_childrenWith s m args below meth c D A s.heap 4 (MQ below (va_Qi (fun r (_ : Unit) => post r) (fun u9 t9 => Af D (tyz ct) A ((fun _ => wS ct a v) u9) t9) A)  args s 0 0 A) w9 0 0 lv pc st

set_option maxHeartbeats 4000000 in
set_option maxRecDepth 20000 in
theorem kX5_childrenWith_32 (l : Launch) (D : va_G) (ct : Nat → ClassId) (a : Nat → Nat) (v : Mem) (post : Int32 → Prop) (K4 : Int32 → Int32 → Int32 → Prop) {p : Program} {e : Env} {s : State} {m : MethodId} {args : Array Value} {below : List Frame} {meth : Method} {c : Code} {A : Nat → Prop} (X : Cx p s m args meth c cX5_childrenWith 4 RX5 wsX5_childrenWith D (tyz ct) A s.heap (some .int)) (hK4 : ∀ (x1 : Int32) (x2 : Int32) (x3 : Int32), K4 x1 x2 x3 → GX5_childrenWith l D ct a v post p e s m args below meth c A (wS ct a v) [(0, .ref (a 0)), (1, .int x1), (2, .int x2), (3, .int x3)] 4 []) :
    ∀ (x1 : Int32) (x2 : Int32) (x3 : Int32), PX5_childrenWith_32 v post K4 x1 x2 x3 → GX5_childrenWith l D ct a v post p e s m args below meth c A (wS ct a v) [(0, .ref (a 0)), (1, .int x1), (2, .int x2), (3, .int x3)] 32 [] := by
  intro x1 x2 x3 hw
  unfold PX5_childrenWith_32 at hw
  refine g_iload_n X 2 dX5_childrenWith_32 rfl rfl ?_
  refine g_aload_n X 0 dX5_childrenWith_33 rfl rfl ?_
  refine g_iload_n X 3 dX5_childrenWith_34 rfl rfl ?_
  refine g_ciV X [wS ct a v] (fun (_ : Unit) => [wS ct a v]) (fun _ => wS ct a v) 1 [0] [] 0 (kX5_childrenOf l D ct a v x3 _ hw) (cwV 1 X.1.2.2.2.2 gX5_childrenWith_X5_childrenOf rfl rfl rfl (by decide +kernel) ⟨Nat.le_of_ble_eq_true rfl, Nat.le_of_ble_eq_true rfl⟩) dX5_childrenWith_35 rfl rfl (Nat.le_of_ble_eq_true rfl) ⟨Nat.le_of_ble_eq_true rfl, Nat.le_of_ble_eq_true rfl⟩ rfl rfl rfl (by decide) (fun _ => rfl) (fun _ => rfl) (fun _ => rfl) (fun _ => rfl) rfl rfl rfl (fun r4 _ hw => ?_)
  refine g_iadd X dX5_childrenWith_38 ?_
  refine g_topi (fun q6 hq6 => ?_)
  replace hw := hw q6 hq6
  refine g_istore_n X [(2, .int q6), (0, .ref (a 0)), (1, .int x1), (3, .int x3)] dX5_childrenWith_39 rfl (by decide) rfl ?_
  refine g_iinc X [(3, .int (x3 + 1)), (2, .int q6), (0, .ref (a 0)), (1, .int x1)] 3 dX5_childrenWith_40 rfl rfl (by decide) rfl ?_
  refine g_goto X 4 dX5_childrenWith_43 (by decide) ?_
  refine g_sub [(0, .ref (a 0)), (1, .int x1), (2, .int q6), (3, .int (x3 + 1))] [2, 3, 1, 0] rfl ?_
  exact hK4 _ _ _ hw

set_option maxHeartbeats 4000000 in
set_option maxRecDepth 20000 in
theorem kX5_childrenWith_4 (l : Launch) (D : va_G) (ct : Nat → ClassId) (a : Nat → Nat) (v : Mem) (post : Int32 → Prop) {p : Program} {e : Env} {s : State} {m : MethodId} {args : Array Value} {below : List Frame} {meth : Method} {c : Code} {A : Nat → Prop} (X : Cx p s m args meth c cX5_childrenWith 4 RX5 wsX5_childrenWith D (tyz ct) A s.heap (some .int))  :
    ∀ (n : Nat) (x1 : Int32) (x2 : Int32) (x3 : Int32), PX5_childrenWith_4 v post n x1 x2 x3 → GX5_childrenWith l D ct a v post p e s m args below meth c A (wS ct a v) [(0, .ref (a 0)), (1, .int x1), (2, .int x2), (3, .int x3)] 4 [] := by
  intro n
  induction n with
  | zero =>
    intro x1 x2 x3 hw
    exact hw.elim
  | succ n ih =>
    intro x1 x2 x3 hw
    unfold PX5_childrenWith_4 at hw
    refine g_iload_n X 3 dX5_childrenWith_4 rfl rfl ?_
    refine g_aload_n X 0 dX5_childrenWith_5 rfl rfl ?_
    refine g_get (T := TX5) (C := RX5) (N := 10) (v := .int (v 8 0)) X 0 8 (fun _ h => (List.mem_cons_of_mem _ (List.mem_append_right _ h))) (List.mem_of_getElem? (i := 1) rfl) dX5_childrenWith_6 rfl rfl (by decide) rfl rfl ?_
    refine g_icmp_ge X 46 dX5_childrenWith_9 (by decide) (fun c1 => ?_) (fun c1 => ?_)
    · replace hw := hw.1 c1
      refine g_iload_n X 2 dX5_childrenWith_46 rfl rfl ?_
      exact g_iret X () hw rfl (Nat.le_of_ble_eq_true rfl) (Nat.le_of_ble_eq_true rfl) dX5_childrenWith_47
    · replace hw := hw.2 c1
      refine g_aload_n X 0 dX5_childrenWith_12 rfl rfl ?_
      refine g_get (T := TX5) (C := RX5) (N := 10) (v := .ref (a 4)) X 0 3 (fun _ h => (List.mem_cons_of_mem _ (List.mem_append_right _ h))) (List.mem_of_getElem? (i := 2) rfl) dX5_childrenWith_13 rfl rfl (by decide) rfl rfl ?_
      refine g_iload_n X 3 dX5_childrenWith_16 rfl rfl ?_
      obtain ⟨h2, hw⟩ := hw
      refine g_iald X 4 0 dX5_childrenWith_17 rfl rfl h2 ?_
      refine g_iload_n X 1 dX5_childrenWith_18 rfl rfl ?_
      refine g_icmp_eq X 32 dX5_childrenWith_19 (by decide) (fun c3 => ?_) (fun c3 => ?_)
      · replace hw := hw.1 c3
        refine g_sub [(0, .ref (a 0)), (1, .int x1), (2, .int x2), (3, .int x3)] [0, 1, 2, 3] rfl ?_
        exact kX5_childrenWith_32 l D ct a v post _ X ih _ _ _ hw
      · replace hw := hw.2 c3
        refine g_aload_n X 0 dX5_childrenWith_22 rfl rfl ?_
        refine g_get (T := TX5) (C := RX5) (N := 10) (v := .ref (a 5)) X 0 4 (fun _ h => (List.mem_cons_of_mem _ (List.mem_append_right _ h))) (List.mem_of_getElem? (i := 3) rfl) dX5_childrenWith_23 rfl rfl (by decide) rfl rfl ?_
        refine g_iload_n X 3 dX5_childrenWith_26 rfl rfl ?_
        obtain ⟨h7, hw⟩ := hw
        refine g_iald X 5 0 dX5_childrenWith_27 rfl rfl h7 ?_
        refine g_iload_n X 1 dX5_childrenWith_28 rfl rfl ?_
        refine g_icmp_ne X 40 dX5_childrenWith_29 (by decide) (fun c8 => ?_) (fun c8 => ?_)
        · replace hw := hw.1 c8
          refine g_iinc X [(3, .int (x3 + 1)), (0, .ref (a 0)), (1, .int x1), (2, .int x2)] 3 dX5_childrenWith_40 rfl rfl (by decide) rfl ?_
          refine g_goto X 4 dX5_childrenWith_43 (by decide) ?_
          refine g_sub [(0, .ref (a 0)), (1, .int x1), (2, .int x2), (3, .int (x3 + 1))] [1, 2, 3, 0] rfl ?_
          exact ih _ _ _ hw
        · replace hw := hw.2 c8
          refine g_sub [(0, .ref (a 0)), (1, .int x1), (2, .int x2), (3, .int x3)] [0, 1, 2, 3] rfl ?_
          exact kX5_childrenWith_32 l D ct a v post _ X ih _ _ _ hw

set_option maxHeartbeats 4000000 in
set_option maxRecDepth 20000 in
theorem kX5_childrenWith (l : Launch) (D : va_G) (ct : Nat → ClassId) (a : Nat → Nat) (v : Mem) (p1 : Int32) (post : Int32 → Prop) (hw : PX5_childrenWith v p1 post) : Ci (S := Unit) l yX5_childrenWith wsX5_childrenWith rmX5_childrenWith D (tyz ct) [.ref (a 0), .int p1] (wS ct a v) (fun r (_ : Unit) => post r) (fun _ => wS ct a v) 0 0 := by
  intro sz
  refine g_of (own := RX5) (by decide) rfl rfl (Nat.le_of_ble_eq_true rfl) [(0, .ref (a 0)), (1, .int p1)] rfl (fun p e s m args below meth c hsz X => ?_)
  subst hsz
  unfold PX5_childrenWith at hw
  refine g_iconst (v := 0) X rfl dX5_childrenWith_0 ?_
  refine g_istore_n X [(2, .int 0), (0, .ref (a 0)), (1, .int p1)] dX5_childrenWith_1 rfl (by decide) rfl ?_
  refine g_iconst (v := 0) X rfl dX5_childrenWith_2 ?_
  refine g_istore_n X [(3, .int 0), (2, .int 0), (0, .ref (a 0)), (1, .int p1)] dX5_childrenWith_3 rfl (by decide) rfl ?_
  refine g_sub [(0, .ref (a 0)), (1, .int p1), (2, .int 0), (3, .int 0)] [2, 3, 1, 0] rfl ?_
  obtain ⟨n9, hw⟩ := hw
  exact kX5_childrenWith_4 l D ct a v post X n9 _ _ _ hw

abbrev rmX5_lines : Room := { frames := 1, cells := 0, slots := 0, locals := 23 }

abbrev GX5_lines (l : Launch) (D : va_G) (ct : Nat → ClassId) (a : Nat → Nat) (v : Mem) (post : Int32 → Prop) (p : Program) (e : Env) (s : State) (m : MethodId) (args : Array Value) (below : List Frame) (meth : Method) (c : Code) (A : Nat → Prop) (w9 : va_W) (lv : List (Nat × Value)) (pc : Nat) (st : List Value) : Prop :=
  GG p l e rmX5_lines s m args below meth c D A s.heap 1 (MQ below (va_Qi (fun r (_ : Unit) => post r) (fun u9 t9 => Af D (tyz ct) A ((fun _ => wS ct a v) u9) t9) A)  args s 0 0 A) w9 0 0 lv pc st

set_option maxHeartbeats 4000000 in
set_option maxRecDepth 20000 in
theorem kX5_lines (l : Launch) (D : va_G) (ct : Nat → ClassId) (a : Nat → Nat) (v : Mem) (post : Int32 → Prop) (hw : PX5_lines v post) : Ci (S := Unit) l yX5_lines wsX5_lines rmX5_lines D (tyz ct) [.ref (a 0)] (wS ct a v) (fun r (_ : Unit) => post r) (fun _ => wS ct a v) 0 0 := by
  intro sz
  refine g_of (own := RX5) (by decide) rfl rfl (Nat.le_of_ble_eq_true rfl) [(0, .ref (a 0))] rfl (fun p e s m args below meth c hsz X => ?_)
  subst hsz
  unfold PX5_lines at hw
  refine g_aload_n X 0 dX5_lines_0 rfl rfl ?_
  refine g_get (T := TX5) (C := RX5) (N := 10) (v := .int (v 7 0)) X 0 7 (fun _ h => (List.mem_cons_of_mem _ (List.mem_append_right _ h))) (List.mem_of_getElem? (i := 1) rfl) dX5_lines_1 rfl rfl (by decide) rfl rfl ?_
  refine g_aload_n X 0 dX5_lines_4 rfl rfl ?_
  refine g_iconst (v := (-1)) X rfl dX5_lines_5 ?_
  refine g_ciV X [wS ct a v] (fun (_ : Unit) => [wS ct a v]) (fun _ => wS ct a v) 1 [0] [] 0 (kX5_childrenOf l D ct a v ((-1)) _ hw) (cwV 1 X.1.2.2.2.2 gX5_lines_X5_childrenOf rfl rfl rfl (by decide +kernel) ⟨Nat.le_of_ble_eq_true rfl, Nat.le_of_ble_eq_true rfl⟩) dX5_lines_6 rfl rfl (Nat.le_of_ble_eq_true rfl) ⟨Nat.le_of_ble_eq_true rfl, Nat.le_of_ble_eq_true rfl⟩ rfl rfl rfl (by decide) (fun _ => rfl) (fun _ => rfl) (fun _ => rfl) (fun _ => rfl) rfl rfl rfl (fun r1 _ hw => ?_)
  refine g_isub X dX5_lines_9 ?_
  exact g_iret X () hw rfl (Nat.le_of_ble_eq_true rfl) (Nat.le_of_ble_eq_true rfl) dX5_lines_10

abbrev rmX5_bentLines : Room := { frames := 4, cells := 0, slots := 0, locals := 84 }

abbrev GX5_bentLines (l : Launch) (D : va_G) (ct : Nat → ClassId) (a : Nat → Nat) (v : Mem) (post : Int32 → Prop) (p : Program) (e : Env) (s : State) (m : MethodId) (args : Array Value) (below : List Frame) (meth : Method) (c : Code) (A : Nat → Prop) (w9 : va_W) (lv : List (Nat × Value)) (pc : Nat) (st : List Value) : Prop :=
  GG p l e rmX5_bentLines s m args below meth c D A s.heap 3 (MQ below (va_Qi (fun r (_ : Unit) => post r) (fun u9 t9 => Af D (tyz ct) A ((fun _ => wS ct a v) u9) t9) A)  args s 0 0 A) w9 0 0 lv pc st

set_option maxHeartbeats 4000000 in
set_option maxRecDepth 20000 in
theorem kX5_bentLines_4 (l : Launch) (D : va_G) (ct : Nat → ClassId) (a : Nat → Nat) (v : Mem) (post : Int32 → Prop) {p : Program} {e : Env} {s : State} {m : MethodId} {args : Array Value} {below : List Frame} {meth : Method} {c : Code} {A : Nat → Prop} (X : Cx p s m args meth c cX5_bentLines 3 RX5 wsX5_bentLines D (tyz ct) A s.heap (some .int))  :
    ∀ (n : Nat) (x1 : Int32) (x2 : Int32), PX5_bentLines_4 v post n x1 x2 → GX5_bentLines l D ct a v post p e s m args below meth c A (wS ct a v) [(0, .ref (a 0)), (1, .int x1), (2, .int x2)] 4 [] := by
  intro n
  induction n with
  | zero =>
    intro x1 x2 hw
    exact hw.elim
  | succ n ih =>
    intro x1 x2 hw
    unfold PX5_bentLines_4 at hw
    refine g_iload_n X 2 dX5_bentLines_4 rfl rfl ?_
    refine g_aload_n X 0 dX5_bentLines_5 rfl rfl ?_
    refine g_get (T := TX5) (C := RX5) (N := 10) (v := .int (v 7 0)) X 0 7 (fun _ h => (List.mem_cons_of_mem _ (List.mem_append_right _ h))) (List.mem_of_getElem? (i := 1) rfl) dX5_bentLines_6 rfl rfl (by decide) rfl rfl ?_
    refine g_icmp_ge X 47 dX5_bentLines_9 (by decide) (fun c1 => ?_) (fun c1 => ?_)
    · replace hw := hw.1 c1
      refine g_iload_n X 1 dX5_bentLines_47 rfl rfl ?_
      exact g_iret X () hw rfl (Nat.le_of_ble_eq_true rfl) (Nat.le_of_ble_eq_true rfl) dX5_bentLines_48
    · replace hw := hw.2 c1
      refine g_aload_n X 0 dX5_bentLines_12 rfl rfl ?_
      refine g_get (T := TX5) (C := RX5) (N := 10) (v := .ref (a 3)) X 0 2 (fun _ h => (List.mem_cons_of_mem _ (List.mem_append_right _ h))) (List.mem_of_getElem? (i := 2) rfl) dX5_bentLines_13 rfl rfl (by decide) rfl rfl ?_
      refine g_iload_n X 2 dX5_bentLines_16 rfl rfl ?_
      obtain ⟨h2, hw⟩ := hw
      refine g_iald X 3 0 dX5_bentLines_17 rfl rfl h2 ?_
      refine g_iconst (v := (-1)) X rfl dX5_bentLines_18 ?_
      refine g_icmp_eq X 41 dX5_bentLines_19 (by decide) (fun c3 => ?_) (fun c3 => ?_)
      · replace hw := hw.1 c3
        refine g_iinc X [(2, .int (x2 + 1)), (0, .ref (a 0)), (1, .int x1)] 2 dX5_bentLines_41 rfl rfl (by decide) rfl ?_
        refine g_goto X 4 dX5_bentLines_44 (by decide) ?_
        refine g_sub [(0, .ref (a 0)), (1, .int x1), (2, .int (x2 + 1))] [1, 2, 0] rfl ?_
        exact ih _ _ hw
      · replace hw := hw.2 c3
        refine g_aload_n X 0 dX5_bentLines_22 rfl rfl ?_
        refine g_iload_n X 2 dX5_bentLines_23 rfl rfl ?_
        refine g_ciV X [wS ct a v] (fun (_ : Unit) => [wS ct a v]) (fun _ => wS ct a v) 1 [0] [] 0 (kX5_middleAbove l D ct a v x2 _ hw) (cwV 1 X.1.2.2.2.2 gX5_bentLines_X5_middleAbove rfl rfl rfl (by decide +kernel) ⟨Nat.le_of_ble_eq_true rfl, Nat.le_of_ble_eq_true rfl⟩) dX5_bentLines_24 rfl rfl (Nat.le_of_ble_eq_true rfl) ⟨Nat.le_of_ble_eq_true rfl, Nat.le_of_ble_eq_true rfl⟩ rfl rfl rfl (by decide) (fun _ => rfl) (fun _ => rfl) (fun _ => rfl) (fun _ => rfl) rfl rfl rfl (fun r4 _ hw => ?_)
        refine g_iconst (v := 2) X rfl dX5_bentLines_27 ?_
        refine g_aload_n X 0 dX5_bentLines_28 rfl rfl ?_
        refine g_get (T := TX5) (C := RX5) (N := 10) (v := .ref (a 2)) X 0 1 (fun _ h => (List.mem_cons_of_mem _ (List.mem_append_right _ h))) (List.mem_of_getElem? (i := 3) rfl) dX5_bentLines_29 rfl rfl (by decide) rfl rfl ?_
        refine g_iload_n X 2 dX5_bentLines_32 rfl rfl ?_
        obtain ⟨h6, hw⟩ := hw
        refine g_iald X 2 0 dX5_bentLines_33 rfl rfl h6 ?_
        refine g_imul X dX5_bentLines_34 ?_
        refine g_icmp_eq X 41 dX5_bentLines_35 (by decide) (fun c7 => ?_) (fun c7 => ?_)
        · replace hw := hw.1 c7
          refine g_iinc X [(2, .int (x2 + 1)), (0, .ref (a 0)), (1, .int x1)] 2 dX5_bentLines_41 rfl rfl (by decide) rfl ?_
          refine g_goto X 4 dX5_bentLines_44 (by decide) ?_
          refine g_sub [(0, .ref (a 0)), (1, .int x1), (2, .int (x2 + 1))] [1, 2, 0] rfl ?_
          exact ih _ _ hw
        · replace hw := hw.2 c7
          refine g_iinc X [(1, .int (x1 + 1)), (0, .ref (a 0)), (2, .int x2)] 1 dX5_bentLines_38 rfl rfl (by decide) rfl ?_
          refine g_iinc X [(2, .int (x2 + 1)), (1, .int (x1 + 1)), (0, .ref (a 0))] 2 dX5_bentLines_41 rfl rfl (by decide) rfl ?_
          refine g_goto X 4 dX5_bentLines_44 (by decide) ?_
          refine g_sub [(0, .ref (a 0)), (1, .int (x1 + 1)), (2, .int (x2 + 1))] [2, 1, 0] rfl ?_
          exact ih _ _ hw

set_option maxHeartbeats 4000000 in
set_option maxRecDepth 20000 in
theorem kX5_bentLines (l : Launch) (D : va_G) (ct : Nat → ClassId) (a : Nat → Nat) (v : Mem) (post : Int32 → Prop) (hw : PX5_bentLines v post) : Ci (S := Unit) l yX5_bentLines wsX5_bentLines rmX5_bentLines D (tyz ct) [.ref (a 0)] (wS ct a v) (fun r (_ : Unit) => post r) (fun _ => wS ct a v) 0 0 := by
  intro sz
  refine g_of (own := RX5) (by decide) rfl rfl (Nat.le_of_ble_eq_true rfl) [(0, .ref (a 0))] rfl (fun p e s m args below meth c hsz X => ?_)
  subst hsz
  unfold PX5_bentLines at hw
  refine g_iconst (v := 0) X rfl dX5_bentLines_0 ?_
  refine g_istore_n X [(1, .int 0), (0, .ref (a 0))] dX5_bentLines_1 rfl (by decide) rfl ?_
  refine g_iconst (v := 0) X rfl dX5_bentLines_2 ?_
  refine g_istore_n X [(2, .int 0), (1, .int 0), (0, .ref (a 0))] dX5_bentLines_3 rfl (by decide) rfl ?_
  refine g_sub [(0, .ref (a 0)), (1, .int 0), (2, .int 0)] [2, 1, 0] rfl ?_
  obtain ⟨n8, hw⟩ := hw
  exact kX5_bentLines_4 l D ct a v post X n8 _ _ hw

abbrev rmX5_doubles : Room := { frames := 2, cells := 0, slots := 0, locals := 44 }

abbrev GX5_doubles (l : Launch) (D : va_G) (ct : Nat → ClassId) (a : Nat → Nat) (v : Mem) (post : Int32 → Prop) (p : Program) (e : Env) (s : State) (m : MethodId) (args : Array Value) (below : List Frame) (meth : Method) (c : Code) (A : Nat → Prop) (w9 : va_W) (lv : List (Nat × Value)) (pc : Nat) (st : List Value) : Prop :=
  GG p l e rmX5_doubles s m args below meth c D A s.heap 3 (MQ below (va_Qi (fun r (_ : Unit) => post r) (fun u9 t9 => Af D (tyz ct) A ((fun _ => wS ct a v) u9) t9) A)  args s 0 0 A) w9 0 0 lv pc st

set_option maxHeartbeats 4000000 in
set_option maxRecDepth 20000 in
theorem kX5_doubles_4 (l : Launch) (D : va_G) (ct : Nat → ClassId) (a : Nat → Nat) (v : Mem) (post : Int32 → Prop) {p : Program} {e : Env} {s : State} {m : MethodId} {args : Array Value} {below : List Frame} {meth : Method} {c : Code} {A : Nat → Prop} (X : Cx p s m args meth c cX5_doubles 3 RX5 wsX5_doubles D (tyz ct) A s.heap (some .int))  :
    ∀ (n : Nat) (x1 : Int32) (x2 : Int32), PX5_doubles_4 v post n x1 x2 → GX5_doubles l D ct a v post p e s m args below meth c A (wS ct a v) [(0, .ref (a 0)), (1, .int x1), (2, .int x2)] 4 [] := by
  intro n
  induction n with
  | zero =>
    intro x1 x2 hw
    exact hw.elim
  | succ n ih =>
    intro x1 x2 hw
    unfold PX5_doubles_4 at hw
    refine g_iload_n X 2 dX5_doubles_4 rfl rfl ?_
    refine g_aload_n X 0 dX5_doubles_5 rfl rfl ?_
    refine g_get (T := TX5) (C := RX5) (N := 10) (v := .int (v 7 0)) X 0 7 (fun _ h => (List.mem_cons_of_mem _ (List.mem_append_right _ h))) (List.mem_of_getElem? (i := 1) rfl) dX5_doubles_6 rfl rfl (by decide) rfl rfl ?_
    refine g_icmp_ge X 29 dX5_doubles_9 (by decide) (fun c1 => ?_) (fun c1 => ?_)
    · replace hw := hw.1 c1
      refine g_iload_n X 1 dX5_doubles_29 rfl rfl ?_
      exact g_iret X () hw rfl (Nat.le_of_ble_eq_true rfl) (Nat.le_of_ble_eq_true rfl) dX5_doubles_30
    · replace hw := hw.2 c1
      refine g_aload_n X 0 dX5_doubles_12 rfl rfl ?_
      refine g_iload_n X 2 dX5_doubles_13 rfl rfl ?_
      refine g_ciV X [wS ct a v] (fun (_ : Unit) => [wS ct a v]) (fun _ => wS ct a v) 1 [0] [] 0 (kX5_isDouble l D ct a v x2 _ hw) (cwV 1 X.1.2.2.2.2 gX5_doubles_X5_isDouble rfl rfl rfl (by decide +kernel) ⟨Nat.le_of_ble_eq_true rfl, Nat.le_of_ble_eq_true rfl⟩) dX5_doubles_14 rfl rfl (Nat.le_of_ble_eq_true rfl) ⟨Nat.le_of_ble_eq_true rfl, Nat.le_of_ble_eq_true rfl⟩ rfl rfl rfl (by decide) (fun _ => rfl) (fun _ => rfl) (fun _ => rfl) (fun _ => rfl) rfl rfl rfl (fun r2 _ hw => ?_)
      refine g_if_eq X 23 dX5_doubles_17 (by decide) (fun c4 => ?_) (fun c4 => ?_)
      · replace hw := hw.1 c4
        refine g_iinc X [(2, .int (x2 + 1)), (0, .ref (a 0)), (1, .int x1)] 2 dX5_doubles_23 rfl rfl (by decide) rfl ?_
        refine g_goto X 4 dX5_doubles_26 (by decide) ?_
        refine g_sub [(0, .ref (a 0)), (1, .int x1), (2, .int (x2 + 1))] [1, 2, 0] rfl ?_
        exact ih _ _ hw
      · replace hw := hw.2 c4
        refine g_iinc X [(1, .int (x1 + 1)), (0, .ref (a 0)), (2, .int x2)] 1 dX5_doubles_20 rfl rfl (by decide) rfl ?_
        refine g_iinc X [(2, .int (x2 + 1)), (1, .int (x1 + 1)), (0, .ref (a 0))] 2 dX5_doubles_23 rfl rfl (by decide) rfl ?_
        refine g_goto X 4 dX5_doubles_26 (by decide) ?_
        refine g_sub [(0, .ref (a 0)), (1, .int (x1 + 1)), (2, .int (x2 + 1))] [2, 1, 0] rfl ?_
        exact ih _ _ hw

set_option maxHeartbeats 4000000 in
set_option maxRecDepth 20000 in
theorem kX5_doubles (l : Launch) (D : va_G) (ct : Nat → ClassId) (a : Nat → Nat) (v : Mem) (post : Int32 → Prop) (hw : PX5_doubles v post) : Ci (S := Unit) l yX5_doubles wsX5_doubles rmX5_doubles D (tyz ct) [.ref (a 0)] (wS ct a v) (fun r (_ : Unit) => post r) (fun _ => wS ct a v) 0 0 := by
  intro sz
  refine g_of (own := RX5) (by decide) rfl rfl (Nat.le_of_ble_eq_true rfl) [(0, .ref (a 0))] rfl (fun p e s m args below meth c hsz X => ?_)
  subst hsz
  unfold PX5_doubles at hw
  refine g_iconst (v := 0) X rfl dX5_doubles_0 ?_
  refine g_istore_n X [(1, .int 0), (0, .ref (a 0))] dX5_doubles_1 rfl (by decide) rfl ?_
  refine g_iconst (v := 0) X rfl dX5_doubles_2 ?_
  refine g_istore_n X [(2, .int 0), (1, .int 0), (0, .ref (a 0))] dX5_doubles_3 rfl (by decide) rfl ?_
  refine g_sub [(0, .ref (a 0)), (1, .int 0), (2, .int 0)] [2, 1, 0] rfl ?_
  obtain ⟨n5, hw⟩ := hw
  exact kX5_doubles_4 l D ct a v post X n5 _ _ hw
