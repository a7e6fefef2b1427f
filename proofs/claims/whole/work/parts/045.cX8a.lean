abbrev rmX8_thrown : Room := { frames := 0, cells := 0, slots := 0, locals := 0 }

abbrev GX8_thrown (l : Launch) (D : va_G) (ct : Nat → ClassId) (a : Nat → Nat) (w : Mem) (hs : Int64) (post : Int32 → Prop) (p : Program) (e : Env) (s : State) (m : MethodId) (args : Array Value) (below : List Frame) (meth : Method) (c : Code) (A : Nat → Prop) (w9 : va_W) (lv : List (Nat × Value)) (pc : Nat) (st : List Value) : Prop :=
  GG p l e rmX8_thrown s m args below meth c D A s.heap 1 (MQ below (va_Qi (fun r (_ : Unit) => post r) (fun u9 t9 => Af D (tyz ct) A ((fun _ => wM ct a w hs) u9) t9) A)  args s 0 0 A) w9 0 0 lv pc st

set_option maxHeartbeats 4000000 in
set_option maxRecDepth 20000 in
theorem kX8_thrown (l : Launch) (D : va_G) (ct : Nat → ClassId) (a : Nat → Nat) (w : Mem) (hs : Int64) (post : Int32 → Prop) (hw : PX8_thrown w hs post) : Ci (S := Unit) l yX8_thrown wsX8_thrown rmX8_thrown D (tyz ct) [.ref (a 0)] (wM ct a w hs) (fun r (_ : Unit) => post r) (fun _ => wM ct a w hs) 0 0 := by
  intro sz
  refine g_of (own := RX8) (by decide) rfl rfl (Nat.le_of_ble_eq_true rfl) [(0, .ref (a 0))] rfl (fun p e s m args below meth c hsz X => ?_)
  subst hsz
  unfold PX8_thrown at hw
  refine g_aload_n X 0 dX8_thrown_0 rfl rfl ?_
  refine g_get (T := TX8) (C := RX8) (N := 21) (v := .int (w 5 0)) X 0 5 (fun _ h => (List.mem_cons_of_mem _ (List.mem_append_right _ h))) (List.mem_of_getElem? (i := 1) rfl) dX8_thrown_1 rfl rfl (by decide) rfl rfl ?_
  exact g_iret X () hw rfl (Nat.le_of_ble_eq_true rfl) (Nat.le_of_ble_eq_true rfl) dX8_thrown_4

abbrev rmX8_fails : Room := { frames := 0, cells := 0, slots := 0, locals := 0 }

abbrev GX8_fails (l : Launch) (D : va_G) (ct : Nat → ClassId) (a : Nat → Nat) (hs : Int64) (post : Int32 → Mem → Prop) (p : Program) (e : Env) (s : State) (m : MethodId) (args : Array Value) (below : List Frame) (meth : Method) (c : Code) (A : Nat → Prop) (w9 : va_W) (lv : List (Nat × Value)) (pc : Nat) (st : List Value) : Prop :=
  GG p l e rmX8_fails s m args below meth c D A s.heap 2 (MQ below (va_Qi (fun r (u9 : Mem) => post r u9) (fun u9 t9 => Af D (tyz ct) A ((fun u9 => wM ct a u9 hs) u9) t9) A)  args s 0 0 A) w9 0 0 lv pc st

set_option maxHeartbeats 4000000 in
set_option maxRecDepth 20000 in
theorem kX8_fails (l : Launch) (D : va_G) (ct : Nat → ClassId) (a : Nat → Nat) (w : Mem) (hs : Int64) (p1 : Int32) (post : Int32 → Mem → Prop) (hw : PX8_fails w hs p1 post) : Ci (S := Mem) l yX8_fails wsX8_fails rmX8_fails D (tyz ct) [.ref (a 0), .int p1] (wM ct a w hs) (fun r (u9 : Mem) => post r u9) (fun u9 => wM ct a u9 hs) 0 0 := by
  intro sz
  refine g_of (own := RX8) (by decide) rfl rfl (Nat.le_of_ble_eq_true rfl) [(0, .ref (a 0)), (1, .int p1)] rfl (fun p e s m args below meth c hsz X => ?_)
  subst hsz
  unfold PX8_fails at hw
  refine g_aload_n X 0 dX8_fails_0 rfl rfl ?_
  refine g_iload_n X 1 dX8_fails_1 rfl rfl ?_
  refine g_put (T := TX8) (C := RX8) (N := 21) X (fun z => wM ct a z hs) w 0 5 tyX8 tyX8_ok nmX8 (fun _ h => (List.mem_cons_of_mem _ (List.mem_append_right _ h))) (List.mem_of_getElem? (i := 1) rfl) dX8_fails_2 rfl rfl (by decide) rfl rfl (by decide +kernel) (Nat.le_of_ble_eq_true rfl) rfl (fun w1 hw1 => ?_)
  replace hw := hw w1 hw1
  refine g_iconst (v := 0) X rfl dX8_fails_5 ?_
  exact g_iret X w1 hw rfl (Nat.le_of_ble_eq_true rfl) (Nat.le_of_ble_eq_true rfl) dX8_fails_6

abbrev rmX8_in : Room := { frames := 0, cells := 0, slots := 0, locals := 0 }

abbrev GX8_in (l : Launch) (D : va_G) (ct : Nat → ClassId) (post : Int32 → Prop) (p : Program) (e : Env) (s : State) (m : MethodId) (args : Array Value) (below : List Frame) (meth : Method) (c : Code) (A : Nat → Prop) (w9 : va_W) (lv : List (Nat × Value)) (pc : Nat) (st : List Value) : Prop :=
  GG p l e rmX8_in s m args below meth c D A s.heap 3 (MQ below (va_Qi (fun r (_ : Unit) => post r) (fun u9 t9 => Af D (tyz ct) A ((fun _ => ([] : va_W)) u9) t9) A)  args s 0 0 A) w9 0 0 lv pc st

set_option maxHeartbeats 4000000 in
set_option maxRecDepth 20000 in
theorem kX8_in (l : Launch) (D : va_G) (ct : Nat → ClassId) (p1 : Int32) (p2 : Int32) (p3 : Int32) (post : Int32 → Prop) (hw : PX8_in p1 p2 p3 post) : Ci (S := Unit) l yX8_in wsX8_in rmX8_in D (tyz ct) [.int p1, .int p2, .int p3] (([] : va_W)) (fun r (_ : Unit) => post r) (fun _ => ([] : va_W)) 0 0 := by
  intro sz
  refine g_of (own := RX8) (by decide) rfl rfl (Nat.le_of_ble_eq_true rfl) [(0, .int p1), (1, .int p2), (2, .int p3)] rfl (fun p e s m args below meth c hsz X => ?_)
  subst hsz
  unfold PX8_in at hw
  refine g_iload_n X 0 dX8_in_0 rfl rfl ?_
  refine g_iload_n X 1 dX8_in_1 rfl rfl ?_
  refine g_icmp_lt X 14 dX8_in_2 (by decide) (fun c1 => ?_) (fun c1 => ?_)
  · replace hw := hw.1 c1
    refine g_iconst (v := 0) X rfl dX8_in_14 ?_
    exact g_zret X () isB_0 hw rfl (Nat.le_of_ble_eq_true rfl) (Nat.le_of_ble_eq_true rfl) dX8_in_15
  · replace hw := hw.2 c1
    refine g_iload_n X 0 dX8_in_5 rfl rfl ?_
    refine g_iload_n X 2 dX8_in_6 rfl rfl ?_
    refine g_icmp_gt X 14 dX8_in_7 (by decide) (fun c2 => ?_) (fun c2 => ?_)
    · replace hw := hw.1 c2
      refine g_iconst (v := 0) X rfl dX8_in_14 ?_
      exact g_zret X () isB_0 hw rfl (Nat.le_of_ble_eq_true rfl) (Nat.le_of_ble_eq_true rfl) dX8_in_15
    · replace hw := hw.2 c2
      refine g_iconst (v := 1) X rfl dX8_in_10 ?_
      refine g_goto X 15 dX8_in_11 (by decide) ?_
      exact g_zret X () isB_1 hw rfl (Nat.le_of_ble_eq_true rfl) (Nat.le_of_ble_eq_true rfl) dX8_in_15

abbrev rmX8_isRow : Room := { frames := 1, cells := 0, slots := 0, locals := 22 }

abbrev GX8_isRow (l : Launch) (D : va_G) (ct : Nat → ClassId) (post : Int32 → Prop) (p : Program) (e : Env) (s : State) (m : MethodId) (args : Array Value) (below : List Frame) (meth : Method) (c : Code) (A : Nat → Prop) (w9 : va_W) (lv : List (Nat × Value)) (pc : Nat) (st : List Value) : Prop :=
  GG p l e rmX8_isRow s m args below meth c D A s.heap 1 (MQ below (va_Qi (fun r (_ : Unit) => post r) (fun u9 t9 => Af D (tyz ct) A ((fun _ => ([] : va_W)) u9) t9) A)  args s 0 0 A) w9 0 0 lv pc st

set_option maxHeartbeats 4000000 in
set_option maxRecDepth 20000 in
theorem kX8_isRow (l : Launch) (D : va_G) (ct : Nat → ClassId) (p1 : Int32) (post : Int32 → Prop) (hw : PX8_isRow p1 post) : Ci (S := Unit) l yX8_isRow wsX8_isRow rmX8_isRow D (tyz ct) [.int p1] (([] : va_W)) (fun r (_ : Unit) => post r) (fun _ => ([] : va_W)) 0 0 := by
  intro sz
  refine g_of (own := RX8) (by decide) rfl rfl (Nat.le_of_ble_eq_true rfl) [(0, .int p1)] rfl (fun p e s m args below meth c hsz X => ?_)
  subst hsz
  unfold PX8_isRow at hw
  refine g_iload_n X 0 dX8_isRow_0 rfl rfl ?_
  refine g_iconst (v := 0) X rfl dX8_isRow_1 ?_
  refine g_iconst (v := 3) X rfl dX8_isRow_2 ?_
  refine g_ciS X [] (fun (_ : Unit) => []) (fun _ => ([] : va_W)) 0 [] [] (kX8_in l D ct  p1 0 3 _ hw) (va_cwS 3 X.1.2.2.2.2 gX8_isRow_X8_in rfl rfl rfl (by decide +kernel) ⟨Nat.le_of_ble_eq_true rfl, Nat.le_of_ble_eq_true rfl⟩) dX8_isRow_3 rfl rfl (Nat.le_of_ble_eq_true rfl) ⟨Nat.le_of_ble_eq_true rfl, Nat.le_of_ble_eq_true rfl⟩ rfl rfl rfl (by decide) (fun _ => rfl) (fun _ => rfl) (fun _ => rfl) (fun _ => rfl) (fun r1 _ hw => ?_)
  obtain ⟨h3, hw⟩ := hw
  exact g_zret X () h3 hw rfl (Nat.le_of_ble_eq_true rfl) (Nat.le_of_ble_eq_true rfl) dX8_isRow_6

abbrev rmX8_isPerson : Room := { frames := 1, cells := 0, slots := 0, locals := 22 }

abbrev GX8_isPerson (l : Launch) (D : va_G) (ct : Nat → ClassId) (a : Nat → Nat) (w : Mem) (hs : Int64) (post : Int32 → Prop) (p : Program) (e : Env) (s : State) (m : MethodId) (args : Array Value) (below : List Frame) (meth : Method) (c : Code) (A : Nat → Prop) (w9 : va_W) (lv : List (Nat × Value)) (pc : Nat) (st : List Value) : Prop :=
  GG p l e rmX8_isPerson s m args below meth c D A s.heap 2 (MQ below (va_Qi (fun r (_ : Unit) => post r) (fun u9 t9 => Af D (tyz ct) A ((fun _ => wM ct a w hs) u9) t9) A)  args s 0 0 A) w9 0 0 lv pc st

set_option maxHeartbeats 4000000 in
set_option maxRecDepth 20000 in
theorem kX8_isPerson (l : Launch) (D : va_G) (ct : Nat → ClassId) (a : Nat → Nat) (w : Mem) (hs : Int64) (p1 : Int32) (post : Int32 → Prop) (hw : PX8_isPerson w hs p1 post) : Ci (S := Unit) l yX8_isPerson wsX8_isPerson rmX8_isPerson D (tyz ct) [.ref (a 0), .int p1] (wM ct a w hs) (fun r (_ : Unit) => post r) (fun _ => wM ct a w hs) 0 0 := by
  intro sz
  refine g_of (own := RX8) (by decide) rfl rfl (Nat.le_of_ble_eq_true rfl) [(0, .ref (a 0)), (1, .int p1)] rfl (fun p e s m args below meth c hsz X => ?_)
  subst hsz
  unfold PX8_isPerson at hw
  refine g_iload_n X 1 dX8_isPerson_0 rfl rfl ?_
  refine g_iconst (v := 0) X rfl dX8_isPerson_1 ?_
  refine g_aload_n X 0 dX8_isPerson_2 rfl rfl ?_
  refine g_get (T := TX8) (C := RX8) (N := 21) (v := .ref (a 1)) X 0 0 (fun _ h => (List.mem_cons_of_mem _ (List.mem_append_right _ h))) (List.mem_of_getElem? (i := 1) rfl) dX8_isPerson_3 rfl rfl (by decide) rfl rfl ?_
  refine g_iconst (v := 0) X rfl dX8_isPerson_6 ?_
  obtain ⟨h1, hw⟩ := hw
  refine g_iald X 1 0 dX8_isPerson_7 rfl rfl h1 ?_
  refine g_iconst (v := 1) X rfl dX8_isPerson_8 ?_
  refine g_isub X dX8_isPerson_9 ?_
  refine g_ciS X [wM ct a w hs] (fun (_ : Unit) => [wM ct a w hs]) (fun _ => wM ct a w hs) 1 [] [0] (kX8_in l D ct  p1 0 ((w 0 (ix 0)) - 1) _ hw) (va_cwS 3 X.1.2.2.2.2 gX8_isPerson_X8_in rfl rfl rfl (by decide +kernel) ⟨Nat.le_of_ble_eq_true rfl, Nat.le_of_ble_eq_true rfl⟩) dX8_isPerson_10 rfl rfl (Nat.le_of_ble_eq_true rfl) ⟨Nat.le_of_ble_eq_true rfl, Nat.le_of_ble_eq_true rfl⟩ rfl rfl rfl (by decide) (fun _ => rfl) (fun _ => rfl) (fun _ => rfl) (fun _ => rfl) (fun r2 _ hw => ?_)
  obtain ⟨h4, hw⟩ := hw
  exact g_zret X () h4 hw rfl (Nat.le_of_ble_eq_true rfl) (Nat.le_of_ble_eq_true rfl) dX8_isPerson_13

abbrev rmX8_isCouple : Room := { frames := 1, cells := 0, slots := 0, locals := 22 }

abbrev GX8_isCouple (l : Launch) (D : va_G) (ct : Nat → ClassId) (a : Nat → Nat) (w : Mem) (hs : Int64) (post : Int32 → Prop) (p : Program) (e : Env) (s : State) (m : MethodId) (args : Array Value) (below : List Frame) (meth : Method) (c : Code) (A : Nat → Prop) (w9 : va_W) (lv : List (Nat × Value)) (pc : Nat) (st : List Value) : Prop :=
  GG p l e rmX8_isCouple s m args below meth c D A s.heap 2 (MQ below (va_Qi (fun r (_ : Unit) => post r) (fun u9 t9 => Af D (tyz ct) A ((fun _ => wM ct a w hs) u9) t9) A)  args s 0 0 A) w9 0 0 lv pc st

set_option maxHeartbeats 4000000 in
set_option maxRecDepth 20000 in
theorem kX8_isCouple (l : Launch) (D : va_G) (ct : Nat → ClassId) (a : Nat → Nat) (w : Mem) (hs : Int64) (p1 : Int32) (post : Int32 → Prop) (hw : PX8_isCouple w hs p1 post) : Ci (S := Unit) l yX8_isCouple wsX8_isCouple rmX8_isCouple D (tyz ct) [.ref (a 0), .int p1] (wM ct a w hs) (fun r (_ : Unit) => post r) (fun _ => wM ct a w hs) 0 0 := by
  intro sz
  refine g_of (own := RX8) (by decide) rfl rfl (Nat.le_of_ble_eq_true rfl) [(0, .ref (a 0)), (1, .int p1)] rfl (fun p e s m args below meth c hsz X => ?_)
  subst hsz
  unfold PX8_isCouple at hw
  refine g_iload_n X 1 dX8_isCouple_0 rfl rfl ?_
  refine g_iconst (v := 0) X rfl dX8_isCouple_1 ?_
  refine g_aload_n X 0 dX8_isCouple_2 rfl rfl ?_
  refine g_get (T := TX8) (C := RX8) (N := 21) (v := .ref (a 1)) X 0 0 (fun _ h => (List.mem_cons_of_mem _ (List.mem_append_right _ h))) (List.mem_of_getElem? (i := 1) rfl) dX8_isCouple_3 rfl rfl (by decide) rfl rfl ?_
  refine g_iconst (v := 1) X rfl dX8_isCouple_6 ?_
  obtain ⟨h1, hw⟩ := hw
  refine g_iald X 1 0 dX8_isCouple_7 rfl rfl h1 ?_
  refine g_iconst (v := 1) X rfl dX8_isCouple_8 ?_
  refine g_isub X dX8_isCouple_9 ?_
  refine g_ciS X [wM ct a w hs] (fun (_ : Unit) => [wM ct a w hs]) (fun _ => wM ct a w hs) 1 [] [0] (kX8_in l D ct  p1 0 ((w 0 (ix 1)) - 1) _ hw) (va_cwS 3 X.1.2.2.2.2 gX8_isCouple_X8_in rfl rfl rfl (by decide +kernel) ⟨Nat.le_of_ble_eq_true rfl, Nat.le_of_ble_eq_true rfl⟩) dX8_isCouple_10 rfl rfl (Nat.le_of_ble_eq_true rfl) ⟨Nat.le_of_ble_eq_true rfl, Nat.le_of_ble_eq_true rfl⟩ rfl rfl rfl (by decide) (fun _ => rfl) (fun _ => rfl) (fun _ => rfl) (fun _ => rfl) (fun r2 _ hw => ?_)
  obtain ⟨h4, hw⟩ := hw
  exact g_zret X () h4 hw rfl (Nat.le_of_ble_eq_true rfl) (Nat.le_of_ble_eq_true rfl) dX8_isCouple_13

abbrev rmX8_rowOf : Room := { frames := 0, cells := 0, slots := 0, locals := 0 }

abbrev GX8_rowOf (l : Launch) (D : va_G) (ct : Nat → ClassId) (a : Nat → Nat) (w : Mem) (hs : Int64) (post : Int32 → Prop) (p : Program) (e : Env) (s : State) (m : MethodId) (args : Array Value) (below : List Frame) (meth : Method) (c : Code) (A : Nat → Prop) (w9 : va_W) (lv : List (Nat × Value)) (pc : Nat) (st : List Value) : Prop :=
  GG p l e rmX8_rowOf s m args below meth c D A s.heap 2 (MQ below (va_Qi (fun r (_ : Unit) => post r) (fun u9 t9 => Af D (tyz ct) A ((fun _ => wM ct a w hs) u9) t9) A)  args s 0 0 A) w9 0 0 lv pc st

set_option maxHeartbeats 4000000 in
set_option maxRecDepth 20000 in
theorem kX8_rowOf (l : Launch) (D : va_G) (ct : Nat → ClassId) (a : Nat → Nat) (w : Mem) (hs : Int64) (p1 : Int32) (post : Int32 → Prop) (hw : PX8_rowOf w hs p1 post) : Ci (S := Unit) l yX8_rowOf wsX8_rowOf rmX8_rowOf D (tyz ct) [.ref (a 0), .int p1] (wM ct a w hs) (fun r (_ : Unit) => post r) (fun _ => wM ct a w hs) 0 0 := by
  intro sz
  refine g_of (own := RX8) (by decide) rfl rfl (Nat.le_of_ble_eq_true rfl) [(0, .ref (a 0)), (1, .int p1)] rfl (fun p e s m args below meth c hsz X => ?_)
  subst hsz
  unfold PX8_rowOf at hw
  refine g_aload_n X 0 dX8_rowOf_0 rfl rfl ?_
  refine g_get (T := TX8) (C := RX8) (N := 21) (v := .ref (a 1)) X 0 0 (fun _ h => (List.mem_cons_of_mem _ (List.mem_append_right _ h))) (List.mem_of_getElem? (i := 1) rfl) dX8_rowOf_1 rfl rfl (by decide) rfl rfl ?_
  refine g_iconst (v := 3) X rfl dX8_rowOf_4 ?_
  refine g_iconst (v := 2) X rfl dX8_rowOf_5 ?_
  refine g_iload_n X 1 dX8_rowOf_6 rfl rfl ?_
  refine g_imul X dX8_rowOf_7 ?_
  refine g_iadd X dX8_rowOf_8 ?_
  obtain ⟨h1, hw⟩ := hw
  refine g_iald X 1 0 dX8_rowOf_9 rfl rfl h1 ?_
  exact g_iret X () hw rfl (Nat.le_of_ble_eq_true rfl) (Nat.le_of_ble_eq_true rfl) dX8_rowOf_10

abbrev rmX8_parentsOf : Room := { frames := 0, cells := 0, slots := 0, locals := 0 }

abbrev GX8_parentsOf (l : Launch) (D : va_G) (ct : Nat → ClassId) (a : Nat → Nat) (w : Mem) (hs : Int64) (post : Int32 → Prop) (p : Program) (e : Env) (s : State) (m : MethodId) (args : Array Value) (below : List Frame) (meth : Method) (c : Code) (A : Nat → Prop) (w9 : va_W) (lv : List (Nat × Value)) (pc : Nat) (st : List Value) : Prop :=
  GG p l e rmX8_parentsOf s m args below meth c D A s.heap 2 (MQ below (va_Qi (fun r (_ : Unit) => post r) (fun u9 t9 => Af D (tyz ct) A ((fun _ => wM ct a w hs) u9) t9) A)  args s 0 0 A) w9 0 0 lv pc st

set_option maxHeartbeats 4000000 in
set_option maxRecDepth 20000 in
theorem kX8_parentsOf (l : Launch) (D : va_G) (ct : Nat → ClassId) (a : Nat → Nat) (w : Mem) (hs : Int64) (p1 : Int32) (post : Int32 → Prop) (hw : PX8_parentsOf w hs p1 post) : Ci (S := Unit) l yX8_parentsOf wsX8_parentsOf rmX8_parentsOf D (tyz ct) [.ref (a 0), .int p1] (wM ct a w hs) (fun r (_ : Unit) => post r) (fun _ => wM ct a w hs) 0 0 := by
  intro sz
  refine g_of (own := RX8) (by decide) rfl rfl (Nat.le_of_ble_eq_true rfl) [(0, .ref (a 0)), (1, .int p1)] rfl (fun p e s m args below meth c hsz X => ?_)
  subst hsz
  unfold PX8_parentsOf at hw
  refine g_aload_n X 0 dX8_parentsOf_0 rfl rfl ?_
  refine g_get (T := TX8) (C := RX8) (N := 21) (v := .ref (a 1)) X 0 0 (fun _ h => (List.mem_cons_of_mem _ (List.mem_append_right _ h))) (List.mem_of_getElem? (i := 1) rfl) dX8_parentsOf_1 rfl rfl (by decide) rfl rfl ?_
  refine g_iconst (v := 3) X rfl dX8_parentsOf_4 ?_
  refine g_iconst (v := 2) X rfl dX8_parentsOf_5 ?_
  refine g_iload_n X 1 dX8_parentsOf_6 rfl rfl ?_
  refine g_imul X dX8_parentsOf_7 ?_
  refine g_iadd X dX8_parentsOf_8 ?_
  refine g_iconst (v := 1) X rfl dX8_parentsOf_9 ?_
  refine g_iadd X dX8_parentsOf_10 ?_
  obtain ⟨h1, hw⟩ := hw
  refine g_iald X 1 0 dX8_parentsOf_11 rfl rfl h1 ?_
  exact g_iret X () hw rfl (Nat.le_of_ble_eq_true rfl) (Nat.le_of_ble_eq_true rfl) dX8_parentsOf_12

abbrev rmX8_one : Room := { frames := 0, cells := 0, slots := 0, locals := 0 }

abbrev GX8_one (l : Launch) (D : va_G) (ct : Nat → ClassId) (a : Nat → Nat) (w : Mem) (hs : Int64) (post : Int32 → Prop) (p : Program) (e : Env) (s : State) (m : MethodId) (args : Array Value) (below : List Frame) (meth : Method) (c : Code) (A : Nat → Prop) (w9 : va_W) (lv : List (Nat × Value)) (pc : Nat) (st : List Value) : Prop :=
  GG p l e rmX8_one s m args below meth c D A s.heap 2 (MQ below (va_Qi (fun r (_ : Unit) => post r) (fun u9 t9 => Af D (tyz ct) A ((fun _ => wM ct a w hs) u9) t9) A)  args s 0 0 A) w9 0 0 lv pc st

set_option maxHeartbeats 4000000 in
set_option maxRecDepth 20000 in
theorem kX8_one (l : Launch) (D : va_G) (ct : Nat → ClassId) (a : Nat → Nat) (w : Mem) (hs : Int64) (p1 : Int32) (post : Int32 → Prop) (hw : PX8_one w hs p1 post) : Ci (S := Unit) l yX8_one wsX8_one rmX8_one D (tyz ct) [.ref (a 0), .int p1] (wM ct a w hs) (fun r (_ : Unit) => post r) (fun _ => wM ct a w hs) 0 0 := by
  intro sz
  refine g_of (own := RX8) (by decide) rfl rfl (Nat.le_of_ble_eq_true rfl) [(0, .ref (a 0)), (1, .int p1)] rfl (fun p e s m args below meth c hsz X => ?_)
  subst hsz
  unfold PX8_one at hw
  refine g_aload_n X 0 dX8_one_0 rfl rfl ?_
  refine g_get (T := TX8) (C := RX8) (N := 21) (v := .ref (a 1)) X 0 0 (fun _ h => (List.mem_cons_of_mem _ (List.mem_append_right _ h))) (List.mem_of_getElem? (i := 1) rfl) dX8_one_1 rfl rfl (by decide) rfl rfl ?_
  refine g_bipush (v := 43) X rfl dX8_one_4 ?_
  refine g_iconst (v := 2) X rfl dX8_one_6 ?_
  refine g_iload_n X 1 dX8_one_7 rfl rfl ?_
  refine g_imul X dX8_one_8 ?_
  refine g_iadd X dX8_one_9 ?_
  obtain ⟨h1, hw⟩ := hw
  refine g_iald X 1 0 dX8_one_10 rfl rfl h1 ?_
  exact g_iret X () hw rfl (Nat.le_of_ble_eq_true rfl) (Nat.le_of_ble_eq_true rfl) dX8_one_11

abbrev rmX8_other : Room := { frames := 0, cells := 0, slots := 0, locals := 0 }

abbrev GX8_other (l : Launch) (D : va_G) (ct : Nat → ClassId) (a : Nat → Nat) (w : Mem) (hs : Int64) (post : Int32 → Prop) (p : Program) (e : Env) (s : State) (m : MethodId) (args : Array Value) (below : List Frame) (meth : Method) (c : Code) (A : Nat → Prop) (w9 : va_W) (lv : List (Nat × Value)) (pc : Nat) (st : List Value) : Prop :=
  GG p l e rmX8_other s m args below meth c D A s.heap 2 (MQ below (va_Qi (fun r (_ : Unit) => post r) (fun u9 t9 => Af D (tyz ct) A ((fun _ => wM ct a w hs) u9) t9) A)  args s 0 0 A) w9 0 0 lv pc st

set_option maxHeartbeats 4000000 in
set_option maxRecDepth 20000 in
theorem kX8_other (l : Launch) (D : va_G) (ct : Nat → ClassId) (a : Nat → Nat) (w : Mem) (hs : Int64) (p1 : Int32) (post : Int32 → Prop) (hw : PX8_other w hs p1 post) : Ci (S := Unit) l yX8_other wsX8_other rmX8_other D (tyz ct) [.ref (a 0), .int p1] (wM ct a w hs) (fun r (_ : Unit) => post r) (fun _ => wM ct a w hs) 0 0 := by
  intro sz
  refine g_of (own := RX8) (by decide) rfl rfl (Nat.le_of_ble_eq_true rfl) [(0, .ref (a 0)), (1, .int p1)] rfl (fun p e s m args below meth c hsz X => ?_)
  subst hsz
  unfold PX8_other at hw
  refine g_aload_n X 0 dX8_other_0 rfl rfl ?_
  refine g_get (T := TX8) (C := RX8) (N := 21) (v := .ref (a 1)) X 0 0 (fun _ h => (List.mem_cons_of_mem _ (List.mem_append_right _ h))) (List.mem_of_getElem? (i := 1) rfl) dX8_other_1 rfl rfl (by decide) rfl rfl ?_
  refine g_bipush (v := 43) X rfl dX8_other_4 ?_
  refine g_iconst (v := 2) X rfl dX8_other_6 ?_
  refine g_iload_n X 1 dX8_other_7 rfl rfl ?_
  refine g_imul X dX8_other_8 ?_
  refine g_iadd X dX8_other_9 ?_
  refine g_iconst (v := 1) X rfl dX8_other_10 ?_
  refine g_iadd X dX8_other_11 ?_
  obtain ⟨h1, hw⟩ := hw
  refine g_iald X 1 0 dX8_other_12 rfl rfl h1 ?_
  exact g_iret X () hw rfl (Nat.le_of_ble_eq_true rfl) (Nat.le_of_ble_eq_true rfl) dX8_other_13

abbrev rmX8_whoIs : Room := { frames := 0, cells := 0, slots := 0, locals := 0 }

abbrev GX8_whoIs (l : Launch) (D : va_G) (ct : Nat → ClassId) (a : Nat → Nat) (w : Mem) (hs : Int64) (post : Int32 → Prop) (p : Program) (e : Env) (s : State) (m : MethodId) (args : Array Value) (below : List Frame) (meth : Method) (c : Code) (A : Nat → Prop) (w9 : va_W) (lv : List (Nat × Value)) (pc : Nat) (st : List Value) : Prop :=
  GG p l e rmX8_whoIs s m args below meth c D A s.heap 3 (MQ below (va_Qi (fun r (_ : Unit) => post r) (fun u9 t9 => Af D (tyz ct) A ((fun _ => wM ct a w hs) u9) t9) A)  args s 0 0 A) w9 0 0 lv pc st

set_option maxHeartbeats 4000000 in
set_option maxRecDepth 20000 in
theorem kX8_whoIs (l : Launch) (D : va_G) (ct : Nat → ClassId) (a : Nat → Nat) (w : Mem) (hs : Int64) (p1 : Int32) (p2 : Int32) (post : Int32 → Prop) (hw : PX8_whoIs w hs p1 p2 post) : Ci (S := Unit) l yX8_whoIs wsX8_whoIs rmX8_whoIs D (tyz ct) [.ref (a 0), .int p1, .int p2] (wM ct a w hs) (fun r (_ : Unit) => post r) (fun _ => wM ct a w hs) 0 0 := by
  intro sz
  refine g_of (own := RX8) (by decide) rfl rfl (Nat.le_of_ble_eq_true rfl) [(0, .ref (a 0)), (1, .int p1), (2, .int p2)] rfl (fun p e s m args below meth c hsz X => ?_)
  subst hsz
  unfold PX8_whoIs at hw
  refine g_aload_n X 0 dX8_whoIs_0 rfl rfl ?_
  refine g_get (T := TX8) (C := RX8) (N := 21) (v := .ref (a 1)) X 0 0 (fun _ h => (List.mem_cons_of_mem _ (List.mem_append_right _ h))) (List.mem_of_getElem? (i := 1) rfl) dX8_whoIs_1 rfl rfl (by decide) rfl rfl ?_
  refine g_bipush (v := 67) X rfl dX8_whoIs_4 ?_
  refine g_bipush (v := 6) X rfl dX8_whoIs_6 ?_
  refine g_iload_n X 1 dX8_whoIs_8 rfl rfl ?_
  refine g_imul X dX8_whoIs_9 ?_
  refine g_iadd X dX8_whoIs_10 ?_
  refine g_iload_n X 2 dX8_whoIs_11 rfl rfl ?_
  refine g_iadd X dX8_whoIs_12 ?_
  obtain ⟨h1, hw⟩ := hw
  refine g_iald X 1 0 dX8_whoIs_13 rfl rfl h1 ?_
  exact g_iret X () hw rfl (Nat.le_of_ble_eq_true rfl) (Nat.le_of_ble_eq_true rfl) dX8_whoIs_14

abbrev rmX8_placeOf : Room := { frames := 1, cells := 0, slots := 0, locals := 22 }

abbrev GX8_placeOf (l : Launch) (D : va_G) (ct : Nat → ClassId) (a : Nat → Nat) (w : Mem) (hs : Int64) (post : Int32 → Prop) (p : Program) (e : Env) (s : State) (m : MethodId) (args : Array Value) (below : List Frame) (meth : Method) (c : Code) (A : Nat → Prop) (w9 : va_W) (lv : List (Nat × Value)) (pc : Nat) (st : List Value) : Prop :=
  GG p l e rmX8_placeOf s m args below meth c D A s.heap 4 (MQ below (va_Qi (fun r (_ : Unit) => post r) (fun u9 t9 => Af D (tyz ct) A ((fun _ => wM ct a w hs) u9) t9) A)  args s 0 0 A) w9 0 0 lv pc st

set_option maxHeartbeats 4000000 in
set_option maxRecDepth 20000 in
theorem kX8_placeOf_8 (l : Launch) (D : va_G) (ct : Nat → ClassId) (a : Nat → Nat) (w : Mem) (hs : Int64) (post : Int32 → Prop) {p : Program} {e : Env} {s : State} {m : MethodId} {args : Array Value} {below : List Frame} {meth : Method} {c : Code} {A : Nat → Prop} (X : Cx p s m args meth c cX8_placeOf 4 RX8 wsX8_placeOf D (tyz ct) A s.heap (some .int))  :
    ∀ (n : Nat) (x1 : Int32) (x2 : Int32) (x3 : Int32), PX8_placeOf_8 w hs post n x1 x2 x3 → GX8_placeOf l D ct a w hs post p e s m args below meth c A (wM ct a w hs) [(0, .ref (a 0)), (1, .int x1), (2, .int x2), (3, .int x3)] 8 [] := by
  intro n
  induction n with
  | zero =>
    intro x1 x2 x3 hw
    exact hw.elim
  | succ n ih =>
    intro x1 x2 x3 hw
    unfold PX8_placeOf_8 at hw
    refine g_aload_n X 0 dX8_placeOf_8 rfl rfl ?_
    refine g_iload_n X 2 dX8_placeOf_9 rfl rfl ?_
    refine g_iload_n X 3 dX8_placeOf_10 rfl rfl ?_
    refine g_ciV X [wM ct a w hs] (fun (_ : Unit) => [wM ct a w hs]) (fun _ => wM ct a w hs) 1 [0] [] 0 (kX8_whoIs l D ct a w hs x2 x3 _ hw) (cwV 2 X.1.2.2.2.2 gX8_placeOf_X8_whoIs rfl rfl rfl (by decide +kernel) ⟨Nat.le_of_ble_eq_true rfl, Nat.le_of_ble_eq_true rfl⟩) dX8_placeOf_11 rfl rfl (Nat.le_of_ble_eq_true rfl) ⟨Nat.le_of_ble_eq_true rfl, Nat.le_of_ble_eq_true rfl⟩ rfl rfl rfl (by decide) (fun _ => rfl) (fun _ => rfl) (fun _ => rfl) (fun _ => rfl) rfl rfl rfl (fun r3 _ hw => ?_)
    refine g_iload_n X 1 dX8_placeOf_14 rfl rfl ?_
    refine g_icmp_eq X 24 dX8_placeOf_15 (by decide) (fun c5 => ?_) (fun c5 => ?_)
    · replace hw := hw.1 c5
      refine g_iload_n X 3 dX8_placeOf_24 rfl rfl ?_
      exact g_iret X () hw rfl (Nat.le_of_ble_eq_true rfl) (Nat.le_of_ble_eq_true rfl) dX8_placeOf_25
    · replace hw := hw.2 c5
      refine g_iinc X [(3, .int (x3 + 1)), (0, .ref (a 0)), (1, .int x1), (2, .int x2)] 3 dX8_placeOf_18 rfl rfl (by decide) rfl ?_
      refine g_goto X 8 dX8_placeOf_21 (by decide) ?_
      refine g_sub [(0, .ref (a 0)), (1, .int x1), (2, .int x2), (3, .int (x3 + 1))] [1, 2, 3, 0] rfl ?_
      exact ih _ _ _ hw

set_option maxHeartbeats 4000000 in
set_option maxRecDepth 20000 in
theorem kX8_placeOf (l : Launch) (D : va_G) (ct : Nat → ClassId) (a : Nat → Nat) (w : Mem) (hs : Int64) (p1 : Int32) (post : Int32 → Prop) (hw : PX8_placeOf w hs p1 post) : Ci (S := Unit) l yX8_placeOf wsX8_placeOf rmX8_placeOf D (tyz ct) [.ref (a 0), .int p1] (wM ct a w hs) (fun r (_ : Unit) => post r) (fun _ => wM ct a w hs) 0 0 := by
  intro sz
  refine g_of (own := RX8) (by decide) rfl rfl (Nat.le_of_ble_eq_true rfl) [(0, .ref (a 0)), (1, .int p1)] rfl (fun p e s m args below meth c hsz X => ?_)
  subst hsz
  unfold PX8_placeOf at hw
  refine g_aload_n X 0 dX8_placeOf_0 rfl rfl ?_
  refine g_iload_n X 1 dX8_placeOf_1 rfl rfl ?_
  refine g_ciV X [wM ct a w hs] (fun (_ : Unit) => [wM ct a w hs]) (fun _ => wM ct a w hs) 1 [0] [] 0 (kX8_rowOf l D ct a w hs p1 _ hw) (cwV 1 X.1.2.2.2.2 gX8_placeOf_X8_rowOf rfl rfl rfl (by decide +kernel) ⟨Nat.le_of_ble_eq_true rfl, Nat.le_of_ble_eq_true rfl⟩) dX8_placeOf_2 rfl rfl (Nat.le_of_ble_eq_true rfl) ⟨Nat.le_of_ble_eq_true rfl, Nat.le_of_ble_eq_true rfl⟩ rfl rfl rfl (by decide) (fun _ => rfl) (fun _ => rfl) (fun _ => rfl) (fun _ => rfl) rfl rfl rfl (fun r1 _ hw => ?_)
  refine g_istore_n X [(2, .int r1), (0, .ref (a 0)), (1, .int p1)] dX8_placeOf_5 rfl (by decide) rfl ?_
  refine g_iconst (v := 0) X rfl dX8_placeOf_6 ?_
  refine g_istore_n X [(3, .int 0), (2, .int r1), (0, .ref (a 0)), (1, .int p1)] dX8_placeOf_7 rfl (by decide) rfl ?_
  refine g_sub [(0, .ref (a 0)), (1, .int p1), (2, .int r1), (3, .int 0)] [2, 3, 1, 0] rfl ?_
  obtain ⟨n6, hw⟩ := hw
  exact kX8_placeOf_8 l D ct a w hs post X n6 _ _ _ hw

abbrev rmX8_save : Room := { frames := 0, cells := 0, slots := 0, locals := 0 }

abbrev GX8_save (l : Launch) (D : va_G) (ct : Nat → ClassId) (a : Nat → Nat) (hs : Int64) (post : Mem → Prop) (p : Program) (e : Env) (s : State) (m : MethodId) (args : Array Value) (below : List Frame) (meth : Method) (c : Code) (A : Nat → Prop) (w9 : va_W) (lv : List (Nat × Value)) (pc : Nat) (st : List Value) : Prop :=
  GG p l e rmX8_save s m args below meth c D A s.heap 2 (MQ below (va_Qv (fun (u9 : Mem) => post u9) (fun u9 t9 => Af D (tyz ct) A ((fun u9 => wM ct a u9 hs) u9) t9) A)  args s 0 0 A) w9 0 0 lv pc st

set_option maxHeartbeats 4000000 in
set_option maxRecDepth 20000 in
theorem kX8_save_51 (l : Launch) (D : va_G) (ct : Nat → ClassId) (a : Nat → Nat) (hs : Int64) (post : Mem → Prop) {p : Program} {e : Env} {s : State} {m : MethodId} {args : Array Value} {below : List Frame} {meth : Method} {c : Code} {A : Nat → Prop} (X : Cx p s m args meth c cX8_save 2 RX8 wsX8_save D (tyz ct) A s.heap none)  :
    ∀ (n : Nat) (w : Mem) (x1 : Int32), PX8_save_51 hs post n w x1 → GX8_save l D ct a hs post p e s m args below meth c A (wM ct a w hs) [(0, .ref (a 0)), (1, .int x1)] 51 [] := by
  intro n
  induction n with
  | zero =>
    intro w x1 hw
    exact hw.elim
  | succ n ih =>
    intro w x1 hw
    unfold PX8_save_51 at hw
    refine g_iload_n X 1 dX8_save_51 rfl rfl ?_
    refine g_bipush (v := 91) X rfl dX8_save_52 ?_
    refine g_icmp_ge X 83 dX8_save_54 (by decide) (fun c2 => ?_) (fun c2 => ?_)
    · replace hw := hw.1 c2
      refine g_aload_n X 0 dX8_save_83 rfl rfl ?_
      refine g_dup X dX8_save_84 rfl ?_
      refine g_get (T := TX8) (C := RX8) (N := 21) (v := .int (w 2 0)) X 0 2 (fun _ h => (List.mem_cons_of_mem _ (List.mem_append_right _ h))) (List.mem_of_getElem? (i := 1) rfl) dX8_save_85 rfl rfl (by decide) rfl rfl ?_
      refine g_iconst (v := 1) X rfl dX8_save_88 ?_
      refine g_iadd X dX8_save_89 ?_
      refine g_put (T := TX8) (C := RX8) (N := 21) X (fun z => wM ct a z hs) w 0 2 tyX8 tyX8_ok nmX8 (fun _ h => (List.mem_cons_of_mem _ (List.mem_append_right _ h))) (List.mem_of_getElem? (i := 1) rfl) dX8_save_90 rfl rfl (by decide) rfl rfl (by decide +kernel) (Nat.le_of_ble_eq_true rfl) rfl (fun w3 hw3 => ?_)
      replace hw := hw w3 hw3
      exact g_vret X w3 hw rfl (Nat.le_of_ble_eq_true rfl) (Nat.le_of_ble_eq_true rfl) dX8_save_93
    · replace hw := hw.2 c2
      refine g_aload_n X 0 dX8_save_57 rfl rfl ?_
      refine g_get (T := TX8) (C := RX8) (N := 21) (v := .ref (a 2)) X 0 1 (fun _ h => (List.mem_cons_of_mem _ (List.mem_append_right _ h))) (List.mem_of_getElem? (i := 2) rfl) dX8_save_58 rfl rfl (by decide) rfl rfl ?_
      refine g_bipush (v := 91) X rfl dX8_save_61 ?_
      refine g_aload_n X 0 dX8_save_63 rfl rfl ?_
      refine g_get (T := TX8) (C := RX8) (N := 21) (v := .int (w 2 0)) X 0 2 (fun _ h => (List.mem_cons_of_mem _ (List.mem_append_right _ h))) (List.mem_of_getElem? (i := 1) rfl) dX8_save_64 rfl rfl (by decide) rfl rfl ?_
      refine g_imul X dX8_save_67 ?_
      refine g_iload_n X 1 dX8_save_68 rfl rfl ?_
      refine g_iadd X dX8_save_69 ?_
      refine g_aload_n X 0 dX8_save_70 rfl rfl ?_
      refine g_get (T := TX8) (C := RX8) (N := 21) (v := .ref (a 1)) X 0 0 (fun _ h => (List.mem_cons_of_mem _ (List.mem_append_right _ h))) (List.mem_of_getElem? (i := 3) rfl) dX8_save_71 rfl rfl (by decide) rfl rfl ?_
      refine g_iload_n X 1 dX8_save_74 rfl rfl ?_
      obtain ⟨h4, hw⟩ := hw
      refine g_iald X 1 0 dX8_save_75 rfl rfl h4 ?_
      obtain ⟨h5, hw⟩ := hw
      refine g_iast X (fun z => wM ct a z hs) w 1 2 0 dX8_save_76 rfl rfl h5 rfl (fun w6 hw6 => ?_)
      replace hw := hw w6 hw6
      refine g_iinc X [(1, .int (x1 + 1)), (0, .ref (a 0))] 1 dX8_save_77 rfl rfl (by decide) rfl ?_
      refine g_goto X 51 dX8_save_80 (by decide) ?_
      refine g_sub [(0, .ref (a 0)), (1, .int (x1 + 1))] [1, 0] rfl ?_
      exact ih _ _ hw

set_option maxHeartbeats 4000000 in
set_option maxRecDepth 20000 in
theorem kX8_save_11 (l : Launch) (D : va_G) (ct : Nat → ClassId) (a : Nat → Nat) (hs : Int64) (post : Mem → Prop) {p : Program} {e : Env} {s : State} {m : MethodId} {args : Array Value} {below : List Frame} {meth : Method} {c : Code} {A : Nat → Prop} (X : Cx p s m args meth c cX8_save 2 RX8 wsX8_save D (tyz ct) A s.heap none)  :
    ∀ (n : Nat) (w : Mem) (x1 : Int32), PX8_save_11 hs post n w x1 → GX8_save l D ct a hs post p e s m args below meth c A (wM ct a w hs) [(0, .ref (a 0)), (1, .int x1)] 11 [] := by
  intro n
  induction n with
  | zero =>
    intro w x1 hw
    exact hw.elim
  | succ n ih =>
    intro w x1 hw
    unfold PX8_save_11 at hw
    refine g_iload_n X 1 dX8_save_11 rfl rfl ?_
    refine g_sipush (v := 455) X rfl dX8_save_12 ?_
    refine g_icmp_ge X 39 dX8_save_15 (by decide) (fun c8 => ?_) (fun c8 => ?_)
    · replace hw := hw.1 c8
      refine g_aload_n X 0 dX8_save_39 rfl rfl ?_
      refine g_dup X dX8_save_40 rfl ?_
      refine g_get (T := TX8) (C := RX8) (N := 21) (v := .int (w 2 0)) X 0 2 (fun _ h => (List.mem_cons_of_mem _ (List.mem_append_right _ h))) (List.mem_of_getElem? (i := 1) rfl) dX8_save_41 rfl rfl (by decide) rfl rfl ?_
      refine g_iconst (v := 1) X rfl dX8_save_44 ?_
      refine g_isub X dX8_save_45 ?_
      refine g_put (T := TX8) (C := RX8) (N := 21) X (fun z => wM ct a z hs) w 0 2 tyX8 tyX8_ok nmX8 (fun _ h => (List.mem_cons_of_mem _ (List.mem_append_right _ h))) (List.mem_of_getElem? (i := 1) rfl) dX8_save_46 rfl rfl (by decide) rfl rfl (by decide +kernel) (Nat.le_of_ble_eq_true rfl) rfl (fun w9 hw9 => ?_)
      replace hw := hw w9 hw9
      refine g_iconst (v := 0) X rfl dX8_save_49 ?_
      refine g_istore_n X [(1, .int 0), (0, .ref (a 0))] dX8_save_50 rfl (by decide) rfl ?_
      refine g_sub [(0, .ref (a 0)), (1, .int 0)] [1, 0] rfl ?_
      obtain ⟨n10, hw⟩ := hw
      exact kX8_save_51 l D ct a hs post X n10 _ _ hw
    · replace hw := hw.2 c8
      refine g_aload_n X 0 dX8_save_18 rfl rfl ?_
      refine g_get (T := TX8) (C := RX8) (N := 21) (v := .ref (a 2)) X 0 1 (fun _ h => (List.mem_cons_of_mem _ (List.mem_append_right _ h))) (List.mem_of_getElem? (i := 2) rfl) dX8_save_19 rfl rfl (by decide) rfl rfl ?_
      refine g_iload_n X 1 dX8_save_22 rfl rfl ?_
      refine g_aload_n X 0 dX8_save_23 rfl rfl ?_
      refine g_get (T := TX8) (C := RX8) (N := 21) (v := .ref (a 2)) X 0 1 (fun _ h => (List.mem_cons_of_mem _ (List.mem_append_right _ h))) (List.mem_of_getElem? (i := 2) rfl) dX8_save_24 rfl rfl (by decide) rfl rfl ?_
      refine g_iload_n X 1 dX8_save_27 rfl rfl ?_
      refine g_bipush (v := 91) X rfl dX8_save_28 ?_
      refine g_iadd X dX8_save_30 ?_
      obtain ⟨h11, hw⟩ := hw
      refine g_iald X 2 0 dX8_save_31 rfl rfl h11 ?_
      obtain ⟨h12, hw⟩ := hw
      refine g_iast X (fun z => wM ct a z hs) w 1 2 0 dX8_save_32 rfl rfl h12 rfl (fun w13 hw13 => ?_)
      replace hw := hw w13 hw13
      refine g_iinc X [(1, .int (x1 + 1)), (0, .ref (a 0))] 1 dX8_save_33 rfl rfl (by decide) rfl ?_
      refine g_goto X 11 dX8_save_36 (by decide) ?_
      refine g_sub [(0, .ref (a 0)), (1, .int (x1 + 1))] [1, 0] rfl ?_
      exact ih _ _ hw

set_option maxHeartbeats 4000000 in
set_option maxRecDepth 20000 in
theorem kX8_save (l : Launch) (D : va_G) (ct : Nat → ClassId) (a : Nat → Nat) (w : Mem) (hs : Int64) (post : Mem → Prop) (hw : PX8_save w hs post) : Cv (S := Mem) l yX8_save wsX8_save rmX8_save D (tyz ct) [.ref (a 0)] (wM ct a w hs) (fun (u9 : Mem) => post u9) (fun u9 => wM ct a u9 hs) 0 0 := by
  intro sz
  refine g_of (own := RX8) (by decide) rfl rfl (Nat.le_of_ble_eq_true rfl) [(0, .ref (a 0))] rfl (fun p e s m args below meth c hsz X => ?_)
  subst hsz
  unfold PX8_save at hw
  refine g_aload_n X 0 dX8_save_0 rfl rfl ?_
  refine g_get (T := TX8) (C := RX8) (N := 21) (v := .int (w 2 0)) X 0 2 (fun _ h => (List.mem_cons_of_mem _ (List.mem_append_right _ h))) (List.mem_of_getElem? (i := 1) rfl) dX8_save_1 rfl rfl (by decide) rfl rfl ?_
  refine g_bipush (v := 6) X rfl dX8_save_4 ?_
  refine g_icmp_ne X 49 dX8_save_6 (by decide) (fun c1 => ?_) (fun c1 => ?_)
  · replace hw := hw.1 c1
    refine g_iconst (v := 0) X rfl dX8_save_49 ?_
    refine g_istore_n X [(1, .int 0), (0, .ref (a 0))] dX8_save_50 rfl (by decide) rfl ?_
    refine g_sub [(0, .ref (a 0)), (1, .int 0)] [1, 0] rfl ?_
    obtain ⟨n7, hw⟩ := hw
    exact kX8_save_51 l D ct a hs post X n7 _ _ hw
  · replace hw := hw.2 c1
    refine g_iconst (v := 0) X rfl dX8_save_9 ?_
    refine g_istore_n X [(1, .int 0), (0, .ref (a 0))] dX8_save_10 rfl (by decide) rfl ?_
    refine g_sub [(0, .ref (a 0)), (1, .int 0)] [1, 0] rfl ?_
    obtain ⟨n14, hw⟩ := hw
    exact kX8_save_11 l D ct a hs post X n14 _ _ hw

abbrev rmX8_undo : Room := { frames := 1, cells := 0, slots := 0, locals := 21 }

abbrev GX8_undo (l : Launch) (D : va_G) (ct : Nat → ClassId) (a : Nat → Nat) (hs : Int64) (post : Int32 → Mem → Prop) (p : Program) (e : Env) (s : State) (m : MethodId) (args : Array Value) (below : List Frame) (meth : Method) (c : Code) (A : Nat → Prop) (w9 : va_W) (lv : List (Nat × Value)) (pc : Nat) (st : List Value) : Prop :=
  GG p l e rmX8_undo s m args below meth c D A s.heap 2 (MQ below (va_Qi (fun r (u9 : Mem) => post r u9) (fun u9 t9 => Af D (tyz ct) A ((fun u9 => wM ct a u9 hs) u9) t9) A)  args s 0 0 A) w9 0 0 lv pc st

set_option maxHeartbeats 4000000 in
set_option maxRecDepth 20000 in
theorem kX8_undo_30 (l : Launch) (D : va_G) (ct : Nat → ClassId) (a : Nat → Nat) (hs : Int64) (post : Int32 → Mem → Prop) {p : Program} {e : Env} {s : State} {m : MethodId} {args : Array Value} {below : List Frame} {meth : Method} {c : Code} {A : Nat → Prop} (X : Cx p s m args meth c cX8_undo 2 RX8 wsX8_undo D (tyz ct) A s.heap (some .int))  :
    ∀ (n : Nat) (w : Mem) (x1 : Int32), PX8_undo_30 hs post n w x1 → GX8_undo l D ct a hs post p e s m args below meth c A (wM ct a w hs) [(0, .ref (a 0)), (1, .int x1)] 30 [] := by
  intro n
  induction n with
  | zero =>
    intro w x1 hw
    exact hw.elim
  | succ n ih =>
    intro w x1 hw
    unfold PX8_undo_30 at hw
    refine g_iload_n X 1 dX8_undo_30 rfl rfl ?_
    refine g_bipush (v := 91) X rfl dX8_undo_31 ?_
    refine g_icmp_ge X 62 dX8_undo_33 (by decide) (fun c4 => ?_) (fun c4 => ?_)
    · replace hw := hw.1 c4
      refine g_aload_n X 0 dX8_undo_62 rfl rfl ?_
      refine g_get (T := TX8) (C := RX8) (N := 21) (v := .int (w 2 0)) X 0 2 (fun _ h => (List.mem_cons_of_mem _ (List.mem_append_right _ h))) (List.mem_of_getElem? (i := 2) rfl) dX8_undo_63 rfl rfl (by decide) rfl rfl ?_
      exact g_iret X w hw rfl (Nat.le_of_ble_eq_true rfl) (Nat.le_of_ble_eq_true rfl) dX8_undo_66
    · replace hw := hw.2 c4
      refine g_aload_n X 0 dX8_undo_36 rfl rfl ?_
      refine g_get (T := TX8) (C := RX8) (N := 21) (v := .ref (a 1)) X 0 0 (fun _ h => (List.mem_cons_of_mem _ (List.mem_append_right _ h))) (List.mem_of_getElem? (i := 3) rfl) dX8_undo_37 rfl rfl (by decide) rfl rfl ?_
      refine g_iload_n X 1 dX8_undo_40 rfl rfl ?_
      refine g_aload_n X 0 dX8_undo_41 rfl rfl ?_
      refine g_get (T := TX8) (C := RX8) (N := 21) (v := .ref (a 2)) X 0 1 (fun _ h => (List.mem_cons_of_mem _ (List.mem_append_right _ h))) (List.mem_of_getElem? (i := 4) rfl) dX8_undo_42 rfl rfl (by decide) rfl rfl ?_
      refine g_bipush (v := 91) X rfl dX8_undo_45 ?_
      refine g_aload_n X 0 dX8_undo_47 rfl rfl ?_
      refine g_get (T := TX8) (C := RX8) (N := 21) (v := .int (w 2 0)) X 0 2 (fun _ h => (List.mem_cons_of_mem _ (List.mem_append_right _ h))) (List.mem_of_getElem? (i := 2) rfl) dX8_undo_48 rfl rfl (by decide) rfl rfl ?_
      refine g_imul X dX8_undo_51 ?_
      refine g_iload_n X 1 dX8_undo_52 rfl rfl ?_
      refine g_iadd X dX8_undo_53 ?_
      obtain ⟨h5, hw⟩ := hw
      refine g_iald X 2 0 dX8_undo_54 rfl rfl h5 ?_
      obtain ⟨h6, hw⟩ := hw
      refine g_iast X (fun z => wM ct a z hs) w 0 1 0 dX8_undo_55 rfl rfl h6 rfl (fun w7 hw7 => ?_)
      replace hw := hw w7 hw7
      refine g_iinc X [(1, .int (x1 + 1)), (0, .ref (a 0))] 1 dX8_undo_56 rfl rfl (by decide) rfl ?_
      refine g_goto X 30 dX8_undo_59 (by decide) ?_
      refine g_sub [(0, .ref (a 0)), (1, .int (x1 + 1))] [1, 0] rfl ?_
      exact ih _ _ hw

set_option maxHeartbeats 4000000 in
set_option maxRecDepth 20000 in
theorem kX8_undo (l : Launch) (D : va_G) (ct : Nat → ClassId) (a : Nat → Nat) (w : Mem) (hs : Int64) (post : Int32 → Mem → Prop) (hw : PX8_undo w hs post) : Ci (S := Mem) l yX8_undo wsX8_undo rmX8_undo D (tyz ct) [.ref (a 0)] (wM ct a w hs) (fun r (u9 : Mem) => post r u9) (fun u9 => wM ct a u9 hs) 0 0 := by
  intro sz
  refine g_of (own := RX8) (by decide) rfl rfl (Nat.le_of_ble_eq_true rfl) [(0, .ref (a 0))] rfl (fun p e s m args below meth c hsz X => ?_)
  subst hsz
  unfold PX8_undo at hw
  refine g_aload_n X 0 dX8_undo_0 rfl rfl ?_
  refine g_iconst (v := 0) X rfl dX8_undo_1 ?_
  refine g_put (T := TX8) (C := RX8) (N := 21) X (fun z => wM ct a z hs) w 0 5 tyX8 tyX8_ok nmX8 (fun _ h => (List.mem_cons_of_mem _ (List.mem_append_right _ h))) (List.mem_of_getElem? (i := 1) rfl) dX8_undo_2 rfl rfl (by decide) rfl rfl (by decide +kernel) (Nat.le_of_ble_eq_true rfl) rfl (fun w1 hw1 => ?_)
  replace hw := hw w1 hw1
  refine g_aload_n X 0 dX8_undo_5 rfl rfl ?_
  refine g_get (T := TX8) (C := RX8) (N := 21) (v := .int (w1 2 0)) X 0 2 (fun _ h => (List.mem_cons_of_mem _ (List.mem_append_right _ h))) (List.mem_of_getElem? (i := 2) rfl) dX8_undo_6 rfl rfl (by decide) rfl rfl ?_
  refine g_if_ne X 18 dX8_undo_9 (by decide) (fun c2 => ?_) (fun c2 => ?_)
  · replace hw := hw.1 c2
    refine g_aload_n X 0 dX8_undo_18 rfl rfl ?_
    refine g_dup X dX8_undo_19 rfl ?_
    refine g_get (T := TX8) (C := RX8) (N := 21) (v := .int (w1 2 0)) X 0 2 (fun _ h => (List.mem_cons_of_mem _ (List.mem_append_right _ h))) (List.mem_of_getElem? (i := 2) rfl) dX8_undo_20 rfl rfl (by decide) rfl rfl ?_
    refine g_iconst (v := 1) X rfl dX8_undo_23 ?_
    refine g_isub X dX8_undo_24 ?_
    refine g_put (T := TX8) (C := RX8) (N := 21) X (fun z => wM ct a z hs) w1 0 2 tyX8 tyX8_ok nmX8 (fun _ h => (List.mem_cons_of_mem _ (List.mem_append_right _ h))) (List.mem_of_getElem? (i := 2) rfl) dX8_undo_25 rfl rfl (by decide) rfl rfl (by decide +kernel) (Nat.le_of_ble_eq_true rfl) rfl (fun w3 hw3 => ?_)
    replace hw := hw w3 hw3
    refine g_iconst (v := 0) X rfl dX8_undo_28 ?_
    refine g_istore_n X [(1, .int 0), (0, .ref (a 0))] dX8_undo_29 rfl (by decide) rfl ?_
    refine g_sub [(0, .ref (a 0)), (1, .int 0)] [1, 0] rfl ?_
    obtain ⟨n8, hw⟩ := hw
    exact kX8_undo_30 l D ct a hs post X n8 _ _ hw
  · replace hw := hw.2 c2
    refine g_aload_n X 0 dX8_undo_12 rfl rfl ?_
    refine g_iconst (v := 1) X rfl dX8_undo_13 ?_
    refine g_ciV X [wM ct a w1 hs] (fun (u10 : Mem) => [wM ct a u10 hs]) (fun (u10 : Mem) => wM ct a u10 hs) 1 [0] [] 0 (kX8_fails l D ct a w1 hs 1 _ hw) (cwV 1 X.1.2.2.2.2 gX8_undo_X8_fails rfl rfl rfl (by decide +kernel) ⟨Nat.le_of_ble_eq_true rfl, Nat.le_of_ble_eq_true rfl⟩) dX8_undo_14 rfl rfl (Nat.le_of_ble_eq_true rfl) ⟨Nat.le_of_ble_eq_true rfl, Nat.le_of_ble_eq_true rfl⟩ rfl rfl rfl (by decide) (fun _ => rfl) (fun _ => rfl) (fun _ => rfl) (fun _ => rfl) rfl rfl rfl (fun r9 u10 hw => ?_)
    obtain ⟨w11, hw11⟩ : ∃ z : Mem, z = u10 := ⟨_, rfl⟩
    rw [← hw11] at hw
    rw [← hw11]
    exact g_iret X w11 hw rfl (Nat.le_of_ble_eq_true rfl) (Nat.le_of_ble_eq_true rfl) dX8_undo_17

abbrev rmX8_keep : Room := { frames := 1, cells := 0, slots := 0, locals := 22 }

abbrev GX8_keep (l : Launch) (D : va_G) (ct : Nat → ClassId) (a : Nat → Nat) (hs : Int64) (post : Int32 → Mem → Prop) (p : Program) (e : Env) (s : State) (m : MethodId) (args : Array Value) (below : List Frame) (meth : Method) (c : Code) (A : Nat → Prop) (w9 : va_W) (lv : List (Nat × Value)) (pc : Nat) (st : List Value) : Prop :=
  GG p l e rmX8_keep s m args below meth c D A s.heap 3 (MQ below (va_Qi (fun r (u9 : Mem) => post r u9) (fun u9 t9 => Af D (tyz ct) A ((fun u9 => wM ct a u9 hs) u9) t9) A)  args s 0 0 A) w9 0 0 lv pc st

set_option maxHeartbeats 4000000 in
set_option maxRecDepth 20000 in
theorem kX8_keep_22 (l : Launch) (D : va_G) (ct : Nat → ClassId) (a : Nat → Nat) (hs : Int64) (post : Int32 → Mem → Prop) {p : Program} {e : Env} {s : State} {m : MethodId} {args : Array Value} {below : List Frame} {meth : Method} {c : Code} {A : Nat → Prop} (X : Cx p s m args meth c cX8_keep 3 RX8 wsX8_keep D (tyz ct) A s.heap (some .int))  :
    ∀ (n : Nat) (w : Mem) (x1 : Int32) (x2 : Int32), PX8_keep_22 hs post n w x1 x2 → GX8_keep l D ct a hs post p e s m args below meth c A (wM ct a w hs) [(0, .ref (a 0)), (1, .int x1), (2, .int x2)] 22 [] := by
  intro n
  induction n with
  | zero =>
    intro w x1 x2 hw
    exact hw.elim
  | succ n ih =>
    intro w x1 x2 hw
    unfold PX8_keep_22 at hw
    refine g_iload_n X 2 dX8_keep_22 rfl rfl ?_
    refine g_bipush (v := 91) X rfl dX8_keep_23 ?_
    refine g_icmp_ge X 51 dX8_keep_25 (by decide) (fun c5 => ?_) (fun c5 => ?_)
    · replace hw := hw.1 c5
      refine g_aload_n X 0 dX8_keep_51 rfl rfl ?_
      refine g_get (T := TX8) (C := RX8) (N := 21) (v := .ref (a 5)) X 0 4 (fun _ h => (List.mem_cons_of_mem _ (List.mem_append_right _ h))) (List.mem_of_getElem? (i := 4) rfl) dX8_keep_52 rfl rfl (by decide) rfl rfl ?_
      refine g_iload_n X 1 dX8_keep_55 rfl rfl ?_
      refine g_iconst (v := 1) X rfl dX8_keep_56 ?_
      obtain ⟨h6, hw⟩ := hw
      refine g_zast X (fun z => wM ct a z hs) w 4 4 2 dX8_keep_57 rfl rfl h6 isB_1 rfl (fun w7 hw7 => ?_)
      replace hw := hw w7 hw7
      refine g_aload_n X 0 dX8_keep_58 rfl rfl ?_
      refine g_get (T := TX8) (C := RX8) (N := 21) (v := .ref (a 1)) X 0 0 (fun _ h => (List.mem_cons_of_mem _ (List.mem_append_right _ h))) (List.mem_of_getElem? (i := 3) rfl) dX8_keep_59 rfl rfl (by decide) rfl rfl ?_
      refine g_iconst (v := 0) X rfl dX8_keep_62 ?_
      obtain ⟨h8, hw⟩ := hw
      refine g_iald X 1 0 dX8_keep_63 rfl rfl h8 ?_
      exact g_iret X w7 hw rfl (Nat.le_of_ble_eq_true rfl) (Nat.le_of_ble_eq_true rfl) dX8_keep_64
    · replace hw := hw.2 c5
      refine g_aload_n X 0 dX8_keep_28 rfl rfl ?_
      refine g_get (T := TX8) (C := RX8) (N := 21) (v := .ref (a 4)) X 0 3 (fun _ h => (List.mem_cons_of_mem _ (List.mem_append_right _ h))) (List.mem_of_getElem? (i := 2) rfl) dX8_keep_29 rfl rfl (by decide) rfl rfl ?_
      refine g_bipush (v := 91) X rfl dX8_keep_32 ?_
      refine g_iload_n X 1 dX8_keep_34 rfl rfl ?_
      refine g_imul X dX8_keep_35 ?_
      refine g_iload_n X 2 dX8_keep_36 rfl rfl ?_
      refine g_iadd X dX8_keep_37 ?_
      refine g_aload_n X 0 dX8_keep_38 rfl rfl ?_
      refine g_get (T := TX8) (C := RX8) (N := 21) (v := .ref (a 1)) X 0 0 (fun _ h => (List.mem_cons_of_mem _ (List.mem_append_right _ h))) (List.mem_of_getElem? (i := 3) rfl) dX8_keep_39 rfl rfl (by decide) rfl rfl ?_
      refine g_iload_n X 2 dX8_keep_42 rfl rfl ?_
      obtain ⟨h9, hw⟩ := hw
      refine g_iald X 1 0 dX8_keep_43 rfl rfl h9 ?_
      obtain ⟨h10, hw⟩ := hw
      refine g_iast X (fun z => wM ct a z hs) w 3 3 0 dX8_keep_44 rfl rfl h10 rfl (fun w11 hw11 => ?_)
      replace hw := hw w11 hw11
      refine g_iinc X [(2, .int (x2 + 1)), (0, .ref (a 0)), (1, .int x1)] 2 dX8_keep_45 rfl rfl (by decide) rfl ?_
      refine g_goto X 22 dX8_keep_48 (by decide) ?_
      refine g_sub [(0, .ref (a 0)), (1, .int x1), (2, .int (x2 + 1))] [1, 2, 0] rfl ?_
      exact ih _ _ _ hw

set_option maxHeartbeats 4000000 in
set_option maxRecDepth 20000 in
theorem kX8_keep (l : Launch) (D : va_G) (ct : Nat → ClassId) (a : Nat → Nat) (w : Mem) (hs : Int64) (p1 : Int32) (post : Int32 → Mem → Prop) (hw : PX8_keep w hs p1 post) : Ci (S := Mem) l yX8_keep wsX8_keep rmX8_keep D (tyz ct) [.ref (a 0), .int p1] (wM ct a w hs) (fun r (u9 : Mem) => post r u9) (fun u9 => wM ct a u9 hs) 0 0 := by
  intro sz
  refine g_of (own := RX8) (by decide) rfl rfl (Nat.le_of_ble_eq_true rfl) [(0, .ref (a 0)), (1, .int p1)] rfl (fun p e s m args below meth c hsz X => ?_)
  subst hsz
  unfold PX8_keep at hw
  refine g_aload_n X 0 dX8_keep_0 rfl rfl ?_
  refine g_iconst (v := 0) X rfl dX8_keep_1 ?_
  refine g_put (T := TX8) (C := RX8) (N := 21) X (fun z => wM ct a z hs) w 0 5 tyX8 tyX8_ok nmX8 (fun _ h => (List.mem_cons_of_mem _ (List.mem_append_right _ h))) (List.mem_of_getElem? (i := 1) rfl) dX8_keep_2 rfl rfl (by decide) rfl rfl (by decide +kernel) (Nat.le_of_ble_eq_true rfl) rfl (fun w1 hw1 => ?_)
  replace hw := hw w1 hw1
  refine g_iload_n X 1 dX8_keep_5 rfl rfl ?_
  refine g_iconst (v := 0) X rfl dX8_keep_6 ?_
  refine g_iconst (v := 1) X rfl dX8_keep_7 ?_
  refine g_ciS X [wM ct a w1 hs] (fun (_ : Unit) => [wM ct a w1 hs]) (fun _ => wM ct a w1 hs) 1 [] [0] (kX8_in l D ct  p1 0 1 _ hw) (va_cwS 3 X.1.2.2.2.2 gX8_keep_X8_in rfl rfl rfl (by decide +kernel) ⟨Nat.le_of_ble_eq_true rfl, Nat.le_of_ble_eq_true rfl⟩) dX8_keep_8 rfl rfl (Nat.le_of_ble_eq_true rfl) ⟨Nat.le_of_ble_eq_true rfl, Nat.le_of_ble_eq_true rfl⟩ rfl rfl rfl (by decide) (fun _ => rfl) (fun _ => rfl) (fun _ => rfl) (fun _ => rfl) (fun r2 _ hw => ?_)
  refine g_if_ne X 20 dX8_keep_11 (by decide) (fun c4 => ?_) (fun c4 => ?_)
  · replace hw := hw.1 c4
    refine g_iconst (v := 0) X rfl dX8_keep_20 ?_
    refine g_istore_n X [(2, .int 0), (0, .ref (a 0)), (1, .int p1)] dX8_keep_21 rfl (by decide) rfl ?_
    refine g_sub [(0, .ref (a 0)), (1, .int p1), (2, .int 0)] [1, 2, 0] rfl ?_
    obtain ⟨n12, hw⟩ := hw
    exact kX8_keep_22 l D ct a hs post X n12 _ _ _ hw
  · replace hw := hw.2 c4
    refine g_aload_n X 0 dX8_keep_14 rfl rfl ?_
    refine g_iconst (v := 1) X rfl dX8_keep_15 ?_
    refine g_ciV X [wM ct a w1 hs] (fun (u14 : Mem) => [wM ct a u14 hs]) (fun (u14 : Mem) => wM ct a u14 hs) 1 [0] [] 0 (kX8_fails l D ct a w1 hs 1 _ hw) (cwV 1 X.1.2.2.2.2 gX8_keep_X8_fails rfl rfl rfl (by decide +kernel) ⟨Nat.le_of_ble_eq_true rfl, Nat.le_of_ble_eq_true rfl⟩) dX8_keep_16 rfl rfl (Nat.le_of_ble_eq_true rfl) ⟨Nat.le_of_ble_eq_true rfl, Nat.le_of_ble_eq_true rfl⟩ rfl rfl rfl (by decide) (fun _ => rfl) (fun _ => rfl) (fun _ => rfl) (fun _ => rfl) rfl rfl rfl (fun r13 u14 hw => ?_)
    obtain ⟨w15, hw15⟩ : ∃ z : Mem, z = u14 := ⟨_, rfl⟩
    rw [← hw15] at hw
    rw [← hw15]
    exact g_iret X w15 hw rfl (Nat.le_of_ble_eq_true rfl) (Nat.le_of_ble_eq_true rfl) dX8_keep_19

abbrev rmX8_goBack : Room := { frames := 1, cells := 0, slots := 0, locals := 22 }

abbrev GX8_goBack (l : Launch) (D : va_G) (ct : Nat → ClassId) (a : Nat → Nat) (hs : Int64) (post : Int32 → Mem → Prop) (p : Program) (e : Env) (s : State) (m : MethodId) (args : Array Value) (below : List Frame) (meth : Method) (c : Code) (A : Nat → Prop) (w9 : va_W) (lv : List (Nat × Value)) (pc : Nat) (st : List Value) : Prop :=
  GG p l e rmX8_goBack s m args below meth c D A s.heap 3 (MQ below (va_Qi (fun r (u9 : Mem) => post r u9) (fun u9 t9 => Af D (tyz ct) A ((fun u9 => wM ct a u9 hs) u9) t9) A)  args s 0 0 A) w9 0 0 lv pc st

set_option maxHeartbeats 4000000 in
set_option maxRecDepth 20000 in
theorem kX8_goBack_41 (l : Launch) (D : va_G) (ct : Nat → ClassId) (a : Nat → Nat) (hs : Int64) (post : Int32 → Mem → Prop) {p : Program} {e : Env} {s : State} {m : MethodId} {args : Array Value} {below : List Frame} {meth : Method} {c : Code} {A : Nat → Prop} (X : Cx p s m args meth c cX8_goBack 3 RX8 wsX8_goBack D (tyz ct) A s.heap (some .int))  :
    ∀ (n : Nat) (w : Mem) (x1 : Int32) (x2 : Int32), PX8_goBack_41 hs post n w x1 x2 → GX8_goBack l D ct a hs post p e s m args below meth c A (wM ct a w hs) [(0, .ref (a 0)), (1, .int x1), (2, .int x2)] 41 [] := by
  intro n
  induction n with
  | zero =>
    intro w x1 x2 hw
    exact hw.elim
  | succ n ih =>
    intro w x1 x2 hw
    unfold PX8_goBack_41 at hw
    refine g_iload_n X 2 dX8_goBack_41 rfl rfl ?_
    refine g_bipush (v := 91) X rfl dX8_goBack_42 ?_
    refine g_icmp_ge X 70 dX8_goBack_44 (by decide) (fun c9 => ?_) (fun c9 => ?_)
    · replace hw := hw.1 c9
      refine g_aload_n X 0 dX8_goBack_70 rfl rfl ?_
      refine g_get (T := TX8) (C := RX8) (N := 21) (v := .ref (a 1)) X 0 0 (fun _ h => (List.mem_cons_of_mem _ (List.mem_append_right _ h))) (List.mem_of_getElem? (i := 3) rfl) dX8_goBack_71 rfl rfl (by decide) rfl rfl ?_
      refine g_iconst (v := 0) X rfl dX8_goBack_74 ?_
      obtain ⟨h10, hw⟩ := hw
      refine g_iald X 1 0 dX8_goBack_75 rfl rfl h10 ?_
      exact g_iret X w hw rfl (Nat.le_of_ble_eq_true rfl) (Nat.le_of_ble_eq_true rfl) dX8_goBack_76
    · replace hw := hw.2 c9
      refine g_aload_n X 0 dX8_goBack_47 rfl rfl ?_
      refine g_get (T := TX8) (C := RX8) (N := 21) (v := .ref (a 1)) X 0 0 (fun _ h => (List.mem_cons_of_mem _ (List.mem_append_right _ h))) (List.mem_of_getElem? (i := 3) rfl) dX8_goBack_48 rfl rfl (by decide) rfl rfl ?_
      refine g_iload_n X 2 dX8_goBack_51 rfl rfl ?_
      refine g_aload_n X 0 dX8_goBack_52 rfl rfl ?_
      refine g_get (T := TX8) (C := RX8) (N := 21) (v := .ref (a 4)) X 0 3 (fun _ h => (List.mem_cons_of_mem _ (List.mem_append_right _ h))) (List.mem_of_getElem? (i := 4) rfl) dX8_goBack_53 rfl rfl (by decide) rfl rfl ?_
      refine g_bipush (v := 91) X rfl dX8_goBack_56 ?_
      refine g_iload_n X 1 dX8_goBack_58 rfl rfl ?_
      refine g_imul X dX8_goBack_59 ?_
      refine g_iload_n X 2 dX8_goBack_60 rfl rfl ?_
      refine g_iadd X dX8_goBack_61 ?_
      obtain ⟨h11, hw⟩ := hw
      refine g_iald X 3 0 dX8_goBack_62 rfl rfl h11 ?_
      obtain ⟨h12, hw⟩ := hw
      refine g_iast X (fun z => wM ct a z hs) w 0 1 0 dX8_goBack_63 rfl rfl h12 rfl (fun w13 hw13 => ?_)
      replace hw := hw w13 hw13
      refine g_iinc X [(2, .int (x2 + 1)), (0, .ref (a 0)), (1, .int x1)] 2 dX8_goBack_64 rfl rfl (by decide) rfl ?_
      refine g_goto X 41 dX8_goBack_67 (by decide) ?_
      refine g_sub [(0, .ref (a 0)), (1, .int x1), (2, .int (x2 + 1))] [1, 2, 0] rfl ?_
      exact ih _ _ _ hw

set_option maxHeartbeats 4000000 in
set_option maxRecDepth 20000 in
theorem kX8_goBack (l : Launch) (D : va_G) (ct : Nat → ClassId) (a : Nat → Nat) (w : Mem) (hs : Int64) (p1 : Int32) (post : Int32 → Mem → Prop) (hw : PX8_goBack w hs p1 post) : Ci (S := Mem) l yX8_goBack wsX8_goBack rmX8_goBack D (tyz ct) [.ref (a 0), .int p1] (wM ct a w hs) (fun r (u9 : Mem) => post r u9) (fun u9 => wM ct a u9 hs) 0 0 := by
  intro sz
  refine g_of (own := RX8) (by decide) rfl rfl (Nat.le_of_ble_eq_true rfl) [(0, .ref (a 0)), (1, .int p1)] rfl (fun p e s m args below meth c hsz X => ?_)
  subst hsz
  unfold PX8_goBack at hw
  refine g_aload_n X 0 dX8_goBack_0 rfl rfl ?_
  refine g_iconst (v := 0) X rfl dX8_goBack_1 ?_
  refine g_put (T := TX8) (C := RX8) (N := 21) X (fun z => wM ct a z hs) w 0 5 tyX8 tyX8_ok nmX8 (fun _ h => (List.mem_cons_of_mem _ (List.mem_append_right _ h))) (List.mem_of_getElem? (i := 1) rfl) dX8_goBack_2 rfl rfl (by decide) rfl rfl (by decide +kernel) (Nat.le_of_ble_eq_true rfl) rfl (fun w1 hw1 => ?_)
  replace hw := hw w1 hw1
  refine g_iload_n X 1 dX8_goBack_5 rfl rfl ?_
  refine g_iconst (v := 0) X rfl dX8_goBack_6 ?_
  refine g_iconst (v := 1) X rfl dX8_goBack_7 ?_
  refine g_ciS X [wM ct a w1 hs] (fun (_ : Unit) => [wM ct a w1 hs]) (fun _ => wM ct a w1 hs) 1 [] [0] (kX8_in l D ct  p1 0 1 _ hw) (va_cwS 3 X.1.2.2.2.2 gX8_goBack_X8_in rfl rfl rfl (by decide +kernel) ⟨Nat.le_of_ble_eq_true rfl, Nat.le_of_ble_eq_true rfl⟩) dX8_goBack_8 rfl rfl (Nat.le_of_ble_eq_true rfl) ⟨Nat.le_of_ble_eq_true rfl, Nat.le_of_ble_eq_true rfl⟩ rfl rfl rfl (by decide) (fun _ => rfl) (fun _ => rfl) (fun _ => rfl) (fun _ => rfl) (fun r2 _ hw => ?_)
  refine g_if_ne X 20 dX8_goBack_11 (by decide) (fun c4 => ?_) (fun c4 => ?_)
  · replace hw := hw.1 c4
    refine g_aload_n X 0 dX8_goBack_20 rfl rfl ?_
    refine g_get (T := TX8) (C := RX8) (N := 21) (v := .ref (a 5)) X 0 4 (fun _ h => (List.mem_cons_of_mem _ (List.mem_append_right _ h))) (List.mem_of_getElem? (i := 2) rfl) dX8_goBack_21 rfl rfl (by decide) rfl rfl ?_
    refine g_iload_n X 1 dX8_goBack_24 rfl rfl ?_
    obtain ⟨h5, hw⟩ := hw
    refine g_zald X 4 2 dX8_goBack_25 rfl rfl h5 ?_
    refine g_if_ne X 35 dX8_goBack_26 (by decide) (fun c6 => ?_) (fun c6 => ?_)
    · replace hw := hw.1 c6
      refine g_aload_n X 0 dX8_goBack_35 rfl rfl ?_
      refine g_cvV X [wM ct a w1 hs] (fun (u7 : Mem) => [wM ct a u7 hs]) (fun (u7 : Mem) => wM ct a u7 hs) 1 [0] [] 0 (kX8_save l D ct a w1 hs _ hw) (cwV 0 X.1.2.2.2.2 gX8_goBack_X8_save rfl rfl rfl (by decide +kernel) ⟨Nat.le_of_ble_eq_true rfl, Nat.le_of_ble_eq_true rfl⟩) dX8_goBack_36 rfl rfl (Nat.le_of_ble_eq_true rfl) ⟨Nat.le_of_ble_eq_true rfl, Nat.le_of_ble_eq_true rfl⟩ rfl rfl rfl (by decide) (fun _ => rfl) (fun _ => rfl) (fun _ => rfl) (fun _ => rfl) rfl rfl rfl (fun u7 hw => ?_)
      obtain ⟨w8, hw8⟩ : ∃ z : Mem, z = u7 := ⟨_, rfl⟩
      rw [← hw8] at hw
      rw [← hw8]
      refine g_iconst (v := 0) X rfl dX8_goBack_39 ?_
      refine g_istore_n X [(2, .int 0), (0, .ref (a 0)), (1, .int p1)] dX8_goBack_40 rfl (by decide) rfl ?_
      refine g_sub [(0, .ref (a 0)), (1, .int p1), (2, .int 0)] [1, 2, 0] rfl ?_
      obtain ⟨n14, hw⟩ := hw
      exact kX8_goBack_41 l D ct a hs post X n14 _ _ _ hw
    · replace hw := hw.2 c6
      refine g_aload_n X 0 dX8_goBack_29 rfl rfl ?_
      refine g_iconst (v := 2) X rfl dX8_goBack_30 ?_
      refine g_ciV X [wM ct a w1 hs] (fun (u16 : Mem) => [wM ct a u16 hs]) (fun (u16 : Mem) => wM ct a u16 hs) 1 [0] [] 0 (kX8_fails l D ct a w1 hs 2 _ hw) (cwV 1 X.1.2.2.2.2 gX8_goBack_X8_fails rfl rfl rfl (by decide +kernel) ⟨Nat.le_of_ble_eq_true rfl, Nat.le_of_ble_eq_true rfl⟩) dX8_goBack_31 rfl rfl (Nat.le_of_ble_eq_true rfl) ⟨Nat.le_of_ble_eq_true rfl, Nat.le_of_ble_eq_true rfl⟩ rfl rfl rfl (by decide) (fun _ => rfl) (fun _ => rfl) (fun _ => rfl) (fun _ => rfl) rfl rfl rfl (fun r15 u16 hw => ?_)
      obtain ⟨w17, hw17⟩ : ∃ z : Mem, z = u16 := ⟨_, rfl⟩
      rw [← hw17] at hw
      rw [← hw17]
      exact g_iret X w17 hw rfl (Nat.le_of_ble_eq_true rfl) (Nat.le_of_ble_eq_true rfl) dX8_goBack_34
  · replace hw := hw.2 c4
    refine g_aload_n X 0 dX8_goBack_14 rfl rfl ?_
    refine g_iconst (v := 1) X rfl dX8_goBack_15 ?_
    refine g_ciV X [wM ct a w1 hs] (fun (u19 : Mem) => [wM ct a u19 hs]) (fun (u19 : Mem) => wM ct a u19 hs) 1 [0] [] 0 (kX8_fails l D ct a w1 hs 1 _ hw) (cwV 1 X.1.2.2.2.2 gX8_goBack_X8_fails rfl rfl rfl (by decide +kernel) ⟨Nat.le_of_ble_eq_true rfl, Nat.le_of_ble_eq_true rfl⟩) dX8_goBack_16 rfl rfl (Nat.le_of_ble_eq_true rfl) ⟨Nat.le_of_ble_eq_true rfl, Nat.le_of_ble_eq_true rfl⟩ rfl rfl rfl (by decide) (fun _ => rfl) (fun _ => rfl) (fun _ => rfl) (fun _ => rfl) rfl rfl rfl (fun r18 u19 hw => ?_)
    obtain ⟨w20, hw20⟩ : ∃ z : Mem, z = u19 := ⟨_, rfl⟩
    rw [← hw20] at hw
    rw [← hw20]
    exact g_iret X w20 hw rfl (Nat.le_of_ble_eq_true rfl) (Nat.le_of_ble_eq_true rfl) dX8_goBack_19

abbrev rmX8_personNow : Room := { frames := 0, cells := 0, slots := 0, locals := 0 }

abbrev GX8_personNow (l : Launch) (D : va_G) (ct : Nat → ClassId) (a : Nat → Nat) (hs : Int64) (post : Int32 → Mem → Prop) (p : Program) (e : Env) (s : State) (m : MethodId) (args : Array Value) (below : List Frame) (meth : Method) (c : Code) (A : Nat → Prop) (w9 : va_W) (lv : List (Nat × Value)) (pc : Nat) (st : List Value) : Prop :=
  GG p l e rmX8_personNow s m args below meth c D A s.heap 4 (MQ below (va_Qi (fun r (u9 : Mem) => post r u9) (fun u9 t9 => Af D (tyz ct) A ((fun u9 => wM ct a u9 hs) u9) t9) A)  args s 0 0 A) w9 0 0 lv pc st

set_option maxHeartbeats 4000000 in
set_option maxRecDepth 20000 in
theorem kX8_personNow_25 (l : Launch) (D : va_G) (ct : Nat → ClassId) (a : Nat → Nat) (hs : Int64) (post : Int32 → Mem → Prop) {p : Program} {e : Env} {s : State} {m : MethodId} {args : Array Value} {below : List Frame} {meth : Method} {c : Code} {A : Nat → Prop} (X : Cx p s m args meth c cX8_personNow 4 RX8 wsX8_personNow D (tyz ct) A s.heap (some .int))  :
    ∀ (w : Mem), PX8_personNow_25 hs post w → GX8_personNow l D ct a hs post p e s m args below meth c A (wM ct a w hs) [(0, .ref (a 0))] 25 [] := by
  intro w hw
  unfold PX8_personNow_25 at hw
  refine g_aload_n X 0 dX8_personNow_25 rfl rfl ?_
  refine g_get (T := TX8) (C := RX8) (N := 21) (v := .ref (a 1)) X 0 0 (fun _ h => (List.mem_cons_of_mem _ (List.mem_append_right _ h))) (List.mem_of_getElem? (i := 1) rfl) dX8_personNow_26 rfl rfl (by decide) rfl rfl ?_
  refine g_iconst (v := 2) X rfl dX8_personNow_29 ?_
  refine g_dup2 X dX8_personNow_30 rfl rfl ?_
  obtain ⟨h3, hw⟩ := hw
  refine g_iald X 1 0 dX8_personNow_31 rfl rfl h3 ?_
  refine g_iconst (v := 1) X rfl dX8_personNow_32 ?_
  refine g_iadd X dX8_personNow_33 ?_
  obtain ⟨h4, hw⟩ := hw
  refine g_iast X (fun z => wM ct a z hs) w 0 1 0 dX8_personNow_34 rfl rfl h4 rfl (fun w5 hw5 => ?_)
  replace hw := hw w5 hw5
  refine g_iconst (v := (-1)) X rfl dX8_personNow_35 ?_
  exact g_iret X w5 hw rfl (Nat.le_of_ble_eq_true rfl) (Nat.le_of_ble_eq_true rfl) dX8_personNow_36

set_option maxHeartbeats 4000000 in
set_option maxRecDepth 20000 in
theorem kX8_personNow (l : Launch) (D : va_G) (ct : Nat → ClassId) (a : Nat → Nat) (w : Mem) (hs : Int64) (p1 : Int32) (p2 : Int32) (post : Int32 → Mem → Prop) (hw : PX8_personNow w hs p1 p2 post) : Ci (S := Mem) l yX8_personNow wsX8_personNow rmX8_personNow D (tyz ct) [.ref (a 0), .int p1, .int p2] (wM ct a w hs) (fun r (u9 : Mem) => post r u9) (fun u9 => wM ct a u9 hs) 0 0 := by
  intro sz
  refine g_of (own := RX8) (by decide) rfl rfl (Nat.le_of_ble_eq_true rfl) [(0, .ref (a 0)), (1, .int p1), (2, .int p2)] rfl (fun p e s m args below meth c hsz X => ?_)
  subst hsz
  unfold PX8_personNow at hw
  refine g_aload_n X 0 dX8_personNow_0 rfl rfl ?_
  refine g_get (T := TX8) (C := RX8) (N := 21) (v := .ref (a 1)) X 0 0 (fun _ h => (List.mem_cons_of_mem _ (List.mem_append_right _ h))) (List.mem_of_getElem? (i := 1) rfl) dX8_personNow_1 rfl rfl (by decide) rfl rfl ?_
  refine g_bipush (v := 63) X rfl dX8_personNow_4 ?_
  refine g_iload_n X 1 dX8_personNow_6 rfl rfl ?_
  refine g_iadd X dX8_personNow_7 ?_
  obtain ⟨h1, hw⟩ := hw
  refine g_iald X 1 0 dX8_personNow_8 rfl rfl h1 ?_
  refine g_bipush (v := 6) X rfl dX8_personNow_9 ?_
  refine g_icmp_eq X 25 dX8_personNow_11 (by decide) (fun c2 => ?_) (fun c2 => ?_)
  · replace hw := hw.1 c2
    refine g_sub [(0, .ref (a 0))] [0] rfl ?_
    exact kX8_personNow_25 l D ct a hs post X _ hw
  · replace hw := hw.2 c2
    refine g_aload_n X 0 dX8_personNow_14 rfl rfl ?_
    refine g_get (T := TX8) (C := RX8) (N := 21) (v := .ref (a 1)) X 0 0 (fun _ h => (List.mem_cons_of_mem _ (List.mem_append_right _ h))) (List.mem_of_getElem? (i := 1) rfl) dX8_personNow_15 rfl rfl (by decide) rfl rfl ?_
    refine g_iconst (v := 0) X rfl dX8_personNow_18 ?_
    obtain ⟨h6, hw⟩ := hw
    refine g_iald X 1 0 dX8_personNow_19 rfl rfl h6 ?_
    refine g_bipush (v := 20) X rfl dX8_personNow_20 ?_
    refine g_icmp_ne X 37 dX8_personNow_22 (by decide) (fun c7 => ?_) (fun c7 => ?_)
    · replace hw := hw.1 c7
      refine g_aload_n X 0 dX8_personNow_37 rfl rfl ?_
      refine g_get (T := TX8) (C := RX8) (N := 21) (v := .ref (a 1)) X 0 0 (fun _ h => (List.mem_cons_of_mem _ (List.mem_append_right _ h))) (List.mem_of_getElem? (i := 1) rfl) dX8_personNow_38 rfl rfl (by decide) rfl rfl ?_
      refine g_iconst (v := 0) X rfl dX8_personNow_41 ?_
      obtain ⟨h8, hw⟩ := hw
      refine g_iald X 1 0 dX8_personNow_42 rfl rfl h8 ?_
      refine g_topi (fun q9 hq9 => ?_)
      replace hw := hw q9 hq9
      refine g_istore_n X [(3, .int q9), (0, .ref (a 0)), (1, .int p1), (2, .int p2)] dX8_personNow_43 rfl (by decide) rfl ?_
      refine g_aload_n X 1 dX8_personNow_44 rfl rfl ?_
      refine g_get (T := TX8) (C := RX8) (N := 21) (v := .ref (a 1)) X 0 0 (fun _ h => (List.mem_cons_of_mem _ (List.mem_append_right _ h))) (List.mem_of_getElem? (i := 1) rfl) dX8_personNow_45 rfl rfl (by decide) rfl rfl ?_
      refine g_iconst (v := 3) X rfl dX8_personNow_48 ?_
      refine g_iconst (v := 2) X rfl dX8_personNow_49 ?_
      refine g_iload_n X 0 dX8_personNow_50 rfl rfl ?_
      refine g_imul X dX8_personNow_51 ?_
      refine g_iadd X dX8_personNow_52 ?_
      refine g_iload_n X 2 dX8_personNow_53 rfl rfl ?_
      obtain ⟨h10, hw⟩ := hw
      refine g_iast X (fun z => wM ct a z hs) w 0 1 0 dX8_personNow_54 rfl rfl h10 rfl (fun w11 hw11 => ?_)
      replace hw := hw w11 hw11
      refine g_aload_n X 1 dX8_personNow_55 rfl rfl ?_
      refine g_get (T := TX8) (C := RX8) (N := 21) (v := .ref (a 1)) X 0 0 (fun _ h => (List.mem_cons_of_mem _ (List.mem_append_right _ h))) (List.mem_of_getElem? (i := 1) rfl) dX8_personNow_56 rfl rfl (by decide) rfl rfl ?_
      refine g_iconst (v := 3) X rfl dX8_personNow_59 ?_
      refine g_iconst (v := 2) X rfl dX8_personNow_60 ?_
      refine g_iload_n X 0 dX8_personNow_61 rfl rfl ?_
      refine g_imul X dX8_personNow_62 ?_
      refine g_iadd X dX8_personNow_63 ?_
      refine g_iconst (v := 1) X rfl dX8_personNow_64 ?_
      refine g_iadd X dX8_personNow_65 ?_
      refine g_iload_n X 3 dX8_personNow_66 rfl rfl ?_
      obtain ⟨h12, hw⟩ := hw
      refine g_iast X (fun z => wM ct a z hs) w11 0 1 0 dX8_personNow_67 rfl rfl h12 rfl (fun w13 hw13 => ?_)
      replace hw := hw w13 hw13
      refine g_aload_n X 1 dX8_personNow_68 rfl rfl ?_
      refine g_get (T := TX8) (C := RX8) (N := 21) (v := .ref (a 1)) X 0 0 (fun _ h => (List.mem_cons_of_mem _ (List.mem_append_right _ h))) (List.mem_of_getElem? (i := 1) rfl) dX8_personNow_69 rfl rfl (by decide) rfl rfl ?_
      refine g_bipush (v := 67) X rfl dX8_personNow_72 ?_
      refine g_bipush (v := 6) X rfl dX8_personNow_74 ?_
      refine g_iload_n X 2 dX8_personNow_76 rfl rfl ?_
      refine g_imul X dX8_personNow_77 ?_
      refine g_iadd X dX8_personNow_78 ?_
      refine g_aload_n X 1 dX8_personNow_79 rfl rfl ?_
      refine g_get (T := TX8) (C := RX8) (N := 21) (v := .ref (a 1)) X 0 0 (fun _ h => (List.mem_cons_of_mem _ (List.mem_append_right _ h))) (List.mem_of_getElem? (i := 1) rfl) dX8_personNow_80 rfl rfl (by decide) rfl rfl ?_
      refine g_bipush (v := 63) X rfl dX8_personNow_83 ?_
      refine g_iload_n X 2 dX8_personNow_85 rfl rfl ?_
      refine g_iadd X dX8_personNow_86 ?_
      obtain ⟨h14, hw⟩ := hw
      refine g_iald X 1 0 dX8_personNow_87 rfl rfl h14 ?_
      refine g_iadd X dX8_personNow_88 ?_
      refine g_iload_n X 0 dX8_personNow_89 rfl rfl ?_
      obtain ⟨h15, hw⟩ := hw
      refine g_iast X (fun z => wM ct a z hs) w13 0 1 0 dX8_personNow_90 rfl rfl h15 rfl (fun w16 hw16 => ?_)
      replace hw := hw w16 hw16
      refine g_aload_n X 1 dX8_personNow_91 rfl rfl ?_
      refine g_get (T := TX8) (C := RX8) (N := 21) (v := .ref (a 1)) X 0 0 (fun _ h => (List.mem_cons_of_mem _ (List.mem_append_right _ h))) (List.mem_of_getElem? (i := 1) rfl) dX8_personNow_92 rfl rfl (by decide) rfl rfl ?_
      refine g_bipush (v := 63) X rfl dX8_personNow_95 ?_
      refine g_iload_n X 2 dX8_personNow_97 rfl rfl ?_
      refine g_iadd X dX8_personNow_98 ?_
      refine g_dup2 X dX8_personNow_99 rfl rfl ?_
      obtain ⟨h17, hw⟩ := hw
      refine g_iald X 1 0 dX8_personNow_100 rfl rfl h17 ?_
      refine g_iconst (v := 1) X rfl dX8_personNow_101 ?_
      refine g_iadd X dX8_personNow_102 ?_
      obtain ⟨h18, hw⟩ := hw
      refine g_iast X (fun z => wM ct a z hs) w16 0 1 0 dX8_personNow_103 rfl rfl h18 rfl (fun w19 hw19 => ?_)
      replace hw := hw w19 hw19
      refine g_aload_n X 1 dX8_personNow_104 rfl rfl ?_
      refine g_get (T := TX8) (C := RX8) (N := 21) (v := .ref (a 1)) X 0 0 (fun _ h => (List.mem_cons_of_mem _ (List.mem_append_right _ h))) (List.mem_of_getElem? (i := 1) rfl) dX8_personNow_105 rfl rfl (by decide) rfl rfl ?_
      refine g_iconst (v := 0) X rfl dX8_personNow_108 ?_
      refine g_dup2 X dX8_personNow_109 rfl rfl ?_
      obtain ⟨h20, hw⟩ := hw
      refine g_iald X 1 0 dX8_personNow_110 rfl rfl h20 ?_
      refine g_iconst (v := 1) X rfl dX8_personNow_111 ?_
      refine g_iadd X dX8_personNow_112 ?_
      obtain ⟨h21, hw⟩ := hw
      refine g_iast X (fun z => wM ct a z hs) w19 0 1 0 dX8_personNow_113 rfl rfl h21 rfl (fun w22 hw22 => ?_)
      replace hw := hw w22 hw22
      refine g_iload_n X 0 dX8_personNow_114 rfl rfl ?_
      exact g_iret X w22 hw rfl (Nat.le_of_ble_eq_true rfl) (Nat.le_of_ble_eq_true rfl) dX8_personNow_115
    · replace hw := hw.2 c7
      refine g_sub [(0, .ref (a 0))] [0] rfl ?_
      exact kX8_personNow_25 l D ct a hs post X _ hw

abbrev rmX8_couplesOf : Room := { frames := 1, cells := 0, slots := 0, locals := 21 }

abbrev GX8_couplesOf (l : Launch) (D : va_G) (ct : Nat → ClassId) (a : Nat → Nat) (w : Mem) (hs : Int64) (post : Int32 → Prop) (p : Program) (e : Env) (s : State) (m : MethodId) (args : Array Value) (below : List Frame) (meth : Method) (c : Code) (A : Nat → Prop) (w9 : va_W) (lv : List (Nat × Value)) (pc : Nat) (st : List Value) : Prop :=
  GG p l e rmX8_couplesOf s m args below meth c D A s.heap 4 (MQ below (va_Qi (fun r (_ : Unit) => post r) (fun u9 t9 => Af D (tyz ct) A ((fun _ => wM ct a w hs) u9) t9) A)  args s 0 0 A) w9 0 0 lv pc st

set_option maxHeartbeats 4000000 in
set_option maxRecDepth 20000 in
theorem kX8_couplesOf_4 (l : Launch) (D : va_G) (ct : Nat → ClassId) (a : Nat → Nat) (w : Mem) (hs : Int64) (post : Int32 → Prop) {p : Program} {e : Env} {s : State} {m : MethodId} {args : Array Value} {below : List Frame} {meth : Method} {c : Code} {A : Nat → Prop} (X : Cx p s m args meth c cX8_couplesOf 4 RX8 wsX8_couplesOf D (tyz ct) A s.heap (some .int))  :
    ∀ (n : Nat) (x1 : Int32) (x2 : Int32) (x3 : Int32), PX8_couplesOf_4 w hs post n x1 x2 x3 → GX8_couplesOf l D ct a w hs post p e s m args below meth c A (wM ct a w hs) [(0, .ref (a 0)), (1, .int x1), (2, .int x2), (3, .int x3)] 4 [] := by
  intro n
  induction n with
  | zero =>
    intro x1 x2 x3 hw
    exact hw.elim
  | succ n ih =>
    intro x1 x2 x3 hw
    unfold PX8_couplesOf_4 at hw
    refine g_iload_n X 3 dX8_couplesOf_4 rfl rfl ?_
    refine g_aload_n X 0 dX8_couplesOf_5 rfl rfl ?_
    refine g_get (T := TX8) (C := RX8) (N := 21) (v := .ref (a 1)) X 0 0 (fun _ h => (List.mem_cons_of_mem _ (List.mem_append_right _ h))) (List.mem_of_getElem? (i := 1) rfl) dX8_couplesOf_6 rfl rfl (by decide) rfl rfl ?_
    refine g_iconst (v := 1) X rfl dX8_couplesOf_9 ?_
    obtain ⟨h1, hw⟩ := hw
    refine g_iald X 1 0 dX8_couplesOf_10 rfl rfl h1 ?_
    refine g_icmp_ge X 46 dX8_couplesOf_11 (by decide) (fun c2 => ?_) (fun c2 => ?_)
    · replace hw := hw.1 c2
      refine g_iload_n X 2 dX8_couplesOf_46 rfl rfl ?_
      exact g_iret X () hw rfl (Nat.le_of_ble_eq_true rfl) (Nat.le_of_ble_eq_true rfl) dX8_couplesOf_47
    · replace hw := hw.2 c2
      refine g_iload_n X 2 dX8_couplesOf_14 rfl rfl ?_
      refine g_aload_n X 0 dX8_couplesOf_15 rfl rfl ?_
      refine g_iload_n X 3 dX8_couplesOf_16 rfl rfl ?_
      refine g_ciV X [wM ct a w hs] (fun (_ : Unit) => [wM ct a w hs]) (fun _ => wM ct a w hs) 1 [0] [] 0 (kX8_one l D ct a w hs x3 _ hw) (cwV 1 X.1.2.2.2.2 gX8_couplesOf_X8_one rfl rfl rfl (by decide +kernel) ⟨Nat.le_of_ble_eq_true rfl, Nat.le_of_ble_eq_true rfl⟩) dX8_couplesOf_17 rfl rfl (Nat.le_of_ble_eq_true rfl) ⟨Nat.le_of_ble_eq_true rfl, Nat.le_of_ble_eq_true rfl⟩ rfl rfl rfl (by decide) (fun _ => rfl) (fun _ => rfl) (fun _ => rfl) (fun _ => rfl) rfl rfl rfl (fun r3 _ hw => ?_)
      refine g_iload_n X 1 dX8_couplesOf_20 rfl rfl ?_
      refine g_icmp_eq X 33 dX8_couplesOf_21 (by decide) (fun c5 => ?_) (fun c5 => ?_)
      · replace hw := hw.1 c5
        refine g_iconst (v := 1) X rfl dX8_couplesOf_33 ?_
        refine g_goto X 38 dX8_couplesOf_34 (by decide) ?_
        refine g_iadd X dX8_couplesOf_38 ?_
        refine g_topi (fun q6 hq6 => ?_)
        replace hw := hw q6 hq6
        refine g_istore_n X [(2, .int q6), (0, .ref (a 0)), (1, .int x1), (3, .int x3)] dX8_couplesOf_39 rfl (by decide) rfl ?_
        refine g_iinc X [(3, .int (x3 + 1)), (2, .int q6), (0, .ref (a 0)), (1, .int x1)] 3 dX8_couplesOf_40 rfl rfl (by decide) rfl ?_
        refine g_goto X 4 dX8_couplesOf_43 (by decide) ?_
        refine g_sub [(0, .ref (a 0)), (1, .int x1), (2, .int q6), (3, .int (x3 + 1))] [2, 3, 1, 0] rfl ?_
        exact ih _ _ _ hw
      · replace hw := hw.2 c5
        refine g_aload_n X 0 dX8_couplesOf_24 rfl rfl ?_
        refine g_iload_n X 3 dX8_couplesOf_25 rfl rfl ?_
        refine g_ciV X [wM ct a w hs] (fun (_ : Unit) => [wM ct a w hs]) (fun _ => wM ct a w hs) 1 [0] [] 0 (kX8_other l D ct a w hs x3 _ hw) (cwV 1 X.1.2.2.2.2 gX8_couplesOf_X8_other rfl rfl rfl (by decide +kernel) ⟨Nat.le_of_ble_eq_true rfl, Nat.le_of_ble_eq_true rfl⟩) dX8_couplesOf_26 rfl rfl (Nat.le_of_ble_eq_true rfl) ⟨Nat.le_of_ble_eq_true rfl, Nat.le_of_ble_eq_true rfl⟩ rfl rfl rfl (by decide) (fun _ => rfl) (fun _ => rfl) (fun _ => rfl) (fun _ => rfl) rfl rfl rfl (fun r7 _ hw => ?_)
        refine g_iload_n X 1 dX8_couplesOf_29 rfl rfl ?_
        refine g_icmp_ne X 37 dX8_couplesOf_30 (by decide) (fun c9 => ?_) (fun c9 => ?_)
        · replace hw := hw.1 c9
          refine g_iconst (v := 0) X rfl dX8_couplesOf_37 ?_
          refine g_iadd X dX8_couplesOf_38 ?_
          refine g_topi (fun q10 hq10 => ?_)
          replace hw := hw q10 hq10
          refine g_istore_n X [(2, .int q10), (0, .ref (a 0)), (1, .int x1), (3, .int x3)] dX8_couplesOf_39 rfl (by decide) rfl ?_
          refine g_iinc X [(3, .int (x3 + 1)), (2, .int q10), (0, .ref (a 0)), (1, .int x1)] 3 dX8_couplesOf_40 rfl rfl (by decide) rfl ?_
          refine g_goto X 4 dX8_couplesOf_43 (by decide) ?_
          refine g_sub [(0, .ref (a 0)), (1, .int x1), (2, .int q10), (3, .int (x3 + 1))] [2, 3, 1, 0] rfl ?_
          exact ih _ _ _ hw
        · replace hw := hw.2 c9
          refine g_iconst (v := 1) X rfl dX8_couplesOf_33 ?_
          refine g_goto X 38 dX8_couplesOf_34 (by decide) ?_
          refine g_iadd X dX8_couplesOf_38 ?_
          refine g_topi (fun q11 hq11 => ?_)
          replace hw := hw q11 hq11
          refine g_istore_n X [(2, .int q11), (0, .ref (a 0)), (1, .int x1), (3, .int x3)] dX8_couplesOf_39 rfl (by decide) rfl ?_
          refine g_iinc X [(3, .int (x3 + 1)), (2, .int q11), (0, .ref (a 0)), (1, .int x1)] 3 dX8_couplesOf_40 rfl rfl (by decide) rfl ?_
          refine g_goto X 4 dX8_couplesOf_43 (by decide) ?_
          refine g_sub [(0, .ref (a 0)), (1, .int x1), (2, .int q11), (3, .int (x3 + 1))] [2, 3, 1, 0] rfl ?_
          exact ih _ _ _ hw

set_option maxHeartbeats 4000000 in
set_option maxRecDepth 20000 in
theorem kX8_couplesOf (l : Launch) (D : va_G) (ct : Nat → ClassId) (a : Nat → Nat) (w : Mem) (hs : Int64) (p1 : Int32) (post : Int32 → Prop) (hw : PX8_couplesOf w hs p1 post) : Ci (S := Unit) l yX8_couplesOf wsX8_couplesOf rmX8_couplesOf D (tyz ct) [.ref (a 0), .int p1] (wM ct a w hs) (fun r (_ : Unit) => post r) (fun _ => wM ct a w hs) 0 0 := by
  intro sz
  refine g_of (own := RX8) (by decide) rfl rfl (Nat.le_of_ble_eq_true rfl) [(0, .ref (a 0)), (1, .int p1)] rfl (fun p e s m args below meth c hsz X => ?_)
  subst hsz
  unfold PX8_couplesOf at hw
  refine g_iconst (v := 0) X rfl dX8_couplesOf_0 ?_
  refine g_istore_n X [(2, .int 0), (0, .ref (a 0)), (1, .int p1)] dX8_couplesOf_1 rfl (by decide) rfl ?_
  refine g_iconst (v := 0) X rfl dX8_couplesOf_2 ?_
  refine g_istore_n X [(3, .int 0), (2, .int 0), (0, .ref (a 0)), (1, .int p1)] dX8_couplesOf_3 rfl (by decide) rfl ?_
  refine g_sub [(0, .ref (a 0)), (1, .int p1), (2, .int 0), (3, .int 0)] [2, 3, 1, 0] rfl ?_
  obtain ⟨n12, hw⟩ := hw
  exact kX8_couplesOf_4 l D ct a w hs post X n12 _ _ _ hw

abbrev rmX8_areCouple : Room := { frames := 1, cells := 0, slots := 0, locals := 21 }

abbrev GX8_areCouple (l : Launch) (D : va_G) (ct : Nat → ClassId) (a : Nat → Nat) (w : Mem) (hs : Int64) (post : Int32 → Prop) (p : Program) (e : Env) (s : State) (m : MethodId) (args : Array Value) (below : List Frame) (meth : Method) (c : Code) (A : Nat → Prop) (w9 : va_W) (lv : List (Nat × Value)) (pc : Nat) (st : List Value) : Prop :=
  GG p l e rmX8_areCouple s m args below meth c D A s.heap 5 (MQ below (va_Qi (fun r (_ : Unit) => post r) (fun u9 t9 => Af D (tyz ct) A ((fun _ => wM ct a w hs) u9) t9) A)  args s 0 0 A) w9 0 0 lv pc st

set_option maxHeartbeats 4000000 in
set_option maxRecDepth 20000 in
theorem kX8_areCouple_5 (l : Launch) (D : va_G) (ct : Nat → ClassId) (a : Nat → Nat) (w : Mem) (hs : Int64) (post : Int32 → Prop) {p : Program} {e : Env} {s : State} {m : MethodId} {args : Array Value} {below : List Frame} {meth : Method} {c : Code} {A : Nat → Prop} (X : Cx p s m args meth c cX8_areCouple 5 RX8 wsX8_areCouple D (tyz ct) A s.heap (some .boolean))  :
    ∀ (n : Nat) (x1 : Int32) (x2 : Int32) (x3 : Int32) (x4 : Int32), PX8_areCouple_5 w hs post n x1 x2 x3 x4 → GX8_areCouple l D ct a w hs post p e s m args below meth c A (wM ct a w hs) [(0, .ref (a 0)), (1, .int x1), (2, .int x2), (3, .int x3), (4, .int x4)] 5 [] := by
  intro n
  induction n with
  | zero =>
    intro x1 x2 x3 x4 hw
    exact hw.elim
  | succ n ih =>
    intro x1 x2 x3 x4 hw
    unfold PX8_areCouple_5 at hw
    refine g_iload X 4 dX8_areCouple_5 rfl ?_
    refine g_aload_n X 0 dX8_areCouple_7 rfl rfl ?_
    refine g_get (T := TX8) (C := RX8) (N := 21) (v := .ref (a 1)) X 0 0 (fun _ h => (List.mem_cons_of_mem _ (List.mem_append_right _ h))) (List.mem_of_getElem? (i := 1) rfl) dX8_areCouple_8 rfl rfl (by decide) rfl rfl ?_
    refine g_iconst (v := 1) X rfl dX8_areCouple_11 ?_
    obtain ⟨h1, hw⟩ := hw
    refine g_iald X 1 0 dX8_areCouple_12 rfl rfl h1 ?_
    refine g_icmp_ge X 52 dX8_areCouple_13 (by decide) (fun c2 => ?_) (fun c2 => ?_)
    · replace hw := hw.1 c2
      refine g_iload_n X 3 dX8_areCouple_52 rfl rfl ?_
      obtain ⟨h3, hw⟩ := hw
      exact g_zret X () h3 hw rfl (Nat.le_of_ble_eq_true rfl) (Nat.le_of_ble_eq_true rfl) dX8_areCouple_53
    · replace hw := hw.2 c2
      refine g_iload_n X 3 dX8_areCouple_16 rfl rfl ?_
      refine g_if_ne X 40 dX8_areCouple_17 (by decide) (fun c4 => ?_) (fun c4 => ?_)
      · replace hw := hw.1 c4
        refine g_iconst (v := 1) X rfl dX8_areCouple_40 ?_
        refine g_goto X 45 dX8_areCouple_41 (by decide) ?_
        refine g_istore_n X [(3, .int 1), (0, .ref (a 0)), (1, .int x1), (2, .int x2), (4, .int x4)] dX8_areCouple_45 rfl (by decide) rfl ?_
        refine g_iinc X [(4, .int (x4 + 1)), (3, .int 1), (0, .ref (a 0)), (1, .int x1), (2, .int x2)] 4 dX8_areCouple_46 rfl rfl (by decide) rfl ?_
        refine g_goto X 5 dX8_areCouple_49 (by decide) ?_
        refine g_sub [(0, .ref (a 0)), (1, .int x1), (2, .int x2), (3, .int 1), (4, .int (x4 + 1))] [2, 3, 4, 1, 0] rfl ?_
        exact ih _ _ _ _ hw
      · replace hw := hw.2 c4
        refine g_aload_n X 0 dX8_areCouple_20 rfl rfl ?_
        refine g_iload X 4 dX8_areCouple_21 rfl ?_
        refine g_ciV X [wM ct a w hs] (fun (_ : Unit) => [wM ct a w hs]) (fun _ => wM ct a w hs) 1 [0] [] 0 (kX8_one l D ct a w hs x4 _ hw) (cwV 1 X.1.2.2.2.2 gX8_areCouple_X8_one rfl rfl rfl (by decide +kernel) ⟨Nat.le_of_ble_eq_true rfl, Nat.le_of_ble_eq_true rfl⟩) dX8_areCouple_23 rfl rfl (Nat.le_of_ble_eq_true rfl) ⟨Nat.le_of_ble_eq_true rfl, Nat.le_of_ble_eq_true rfl⟩ rfl rfl rfl (by decide) (fun _ => rfl) (fun _ => rfl) (fun _ => rfl) (fun _ => rfl) rfl rfl rfl (fun r5 _ hw => ?_)
        refine g_iload_n X 1 dX8_areCouple_26 rfl rfl ?_
        refine g_icmp_ne X 44 dX8_areCouple_27 (by decide) (fun c7 => ?_) (fun c7 => ?_)
        · replace hw := hw.1 c7
          refine g_iconst (v := 0) X rfl dX8_areCouple_44 ?_
          refine g_istore_n X [(3, .int 0), (0, .ref (a 0)), (1, .int x1), (2, .int x2), (4, .int x4)] dX8_areCouple_45 rfl (by decide) rfl ?_
          refine g_iinc X [(4, .int (x4 + 1)), (3, .int 0), (0, .ref (a 0)), (1, .int x1), (2, .int x2)] 4 dX8_areCouple_46 rfl rfl (by decide) rfl ?_
          refine g_goto X 5 dX8_areCouple_49 (by decide) ?_
          refine g_sub [(0, .ref (a 0)), (1, .int x1), (2, .int x2), (3, .int 0), (4, .int (x4 + 1))] [2, 3, 4, 1, 0] rfl ?_
          exact ih _ _ _ _ hw
        · replace hw := hw.2 c7
          refine g_aload_n X 0 dX8_areCouple_30 rfl rfl ?_
          refine g_iload X 4 dX8_areCouple_31 rfl ?_
          refine g_ciV X [wM ct a w hs] (fun (_ : Unit) => [wM ct a w hs]) (fun _ => wM ct a w hs) 1 [0] [] 0 (kX8_other l D ct a w hs x4 _ hw) (cwV 1 X.1.2.2.2.2 gX8_areCouple_X8_other rfl rfl rfl (by decide +kernel) ⟨Nat.le_of_ble_eq_true rfl, Nat.le_of_ble_eq_true rfl⟩) dX8_areCouple_33 rfl rfl (Nat.le_of_ble_eq_true rfl) ⟨Nat.le_of_ble_eq_true rfl, Nat.le_of_ble_eq_true rfl⟩ rfl rfl rfl (by decide) (fun _ => rfl) (fun _ => rfl) (fun _ => rfl) (fun _ => rfl) rfl rfl rfl (fun r8 _ hw => ?_)
          refine g_iload_n X 2 dX8_areCouple_36 rfl rfl ?_
          refine g_icmp_ne X 44 dX8_areCouple_37 (by decide) (fun c10 => ?_) (fun c10 => ?_)
          · replace hw := hw.1 c10
            refine g_iconst (v := 0) X rfl dX8_areCouple_44 ?_
            refine g_istore_n X [(3, .int 0), (0, .ref (a 0)), (1, .int x1), (2, .int x2), (4, .int x4)] dX8_areCouple_45 rfl (by decide) rfl ?_
            refine g_iinc X [(4, .int (x4 + 1)), (3, .int 0), (0, .ref (a 0)), (1, .int x1), (2, .int x2)] 4 dX8_areCouple_46 rfl rfl (by decide) rfl ?_
            refine g_goto X 5 dX8_areCouple_49 (by decide) ?_
            refine g_sub [(0, .ref (a 0)), (1, .int x1), (2, .int x2), (3, .int 0), (4, .int (x4 + 1))] [2, 3, 4, 1, 0] rfl ?_
            exact ih _ _ _ _ hw
          · replace hw := hw.2 c10
            refine g_iconst (v := 1) X rfl dX8_areCouple_40 ?_
            refine g_goto X 45 dX8_areCouple_41 (by decide) ?_
            refine g_istore_n X [(3, .int 1), (0, .ref (a 0)), (1, .int x1), (2, .int x2), (4, .int x4)] dX8_areCouple_45 rfl (by decide) rfl ?_
            refine g_iinc X [(4, .int (x4 + 1)), (3, .int 1), (0, .ref (a 0)), (1, .int x1), (2, .int x2)] 4 dX8_areCouple_46 rfl rfl (by decide) rfl ?_
            refine g_goto X 5 dX8_areCouple_49 (by decide) ?_
            refine g_sub [(0, .ref (a 0)), (1, .int x1), (2, .int x2), (3, .int 1), (4, .int (x4 + 1))] [2, 3, 4, 1, 0] rfl ?_
            exact ih _ _ _ _ hw

set_option maxHeartbeats 4000000 in
set_option maxRecDepth 20000 in
theorem kX8_areCouple (l : Launch) (D : va_G) (ct : Nat → ClassId) (a : Nat → Nat) (w : Mem) (hs : Int64) (p1 : Int32) (p2 : Int32) (post : Int32 → Prop) (hw : PX8_areCouple w hs p1 p2 post) : Ci (S := Unit) l yX8_areCouple wsX8_areCouple rmX8_areCouple D (tyz ct) [.ref (a 0), .int p1, .int p2] (wM ct a w hs) (fun r (_ : Unit) => post r) (fun _ => wM ct a w hs) 0 0 := by
  intro sz
  refine g_of (own := RX8) (by decide) rfl rfl (Nat.le_of_ble_eq_true rfl) [(0, .ref (a 0)), (1, .int p1), (2, .int p2)] rfl (fun p e s m args below meth c hsz X => ?_)
  subst hsz
  unfold PX8_areCouple at hw
  refine g_iconst (v := 0) X rfl dX8_areCouple_0 ?_
  refine g_istore_n X [(3, .int 0), (0, .ref (a 0)), (1, .int p1), (2, .int p2)] dX8_areCouple_1 rfl (by decide) rfl ?_
  refine g_iconst (v := 0) X rfl dX8_areCouple_2 ?_
  refine g_istore X [(4, .int 0), (3, .int 0), (0, .ref (a 0)), (1, .int p1), (2, .int p2)] dX8_areCouple_3 (by decide) rfl ?_
  refine g_sub [(0, .ref (a 0)), (1, .int p1), (2, .int p2), (3, .int 0), (4, .int 0)] [2, 3, 4, 1, 0] rfl ?_
  obtain ⟨n11, hw⟩ := hw
  exact kX8_areCouple_5 l D ct a w hs post X n11 _ _ _ _ hw

abbrev rmX8_reason : Room := { frames := 2, cells := 0, slots := 0, locals := 45 }

abbrev GX8_reason (l : Launch) (D : va_G) (ct : Nat → ClassId) (a : Nat → Nat) (w : Mem) (hs : Int64) (post : Int32 → Prop) (p : Program) (e : Env) (s : State) (m : MethodId) (args : Array Value) (below : List Frame) (meth : Method) (c : Code) (A : Nat → Prop) (w9 : va_W) (lv : List (Nat × Value)) (pc : Nat) (st : List Value) : Prop :=
  GG p l e rmX8_reason s m args below meth c D A s.heap 3 (MQ below (va_Qi (fun r (_ : Unit) => post r) (fun u9 t9 => Af D (tyz ct) A ((fun _ => wM ct a w hs) u9) t9) A)  args s 0 0 A) w9 0 0 lv pc st

set_option maxHeartbeats 4000000 in
set_option maxRecDepth 20000 in
theorem kX8_reason (l : Launch) (D : va_G) (ct : Nat → ClassId) (a : Nat → Nat) (w : Mem) (hs : Int64) (p1 : Int32) (p2 : Int32) (post : Int32 → Prop) (hw : PX8_reason w hs p1 p2 post) : Ci (S := Unit) l yX8_reason wsX8_reason rmX8_reason D (tyz ct) [.ref (a 0), .int p1, .int p2] (wM ct a w hs) (fun r (_ : Unit) => post r) (fun _ => wM ct a w hs) 0 0 := by
  intro sz
  refine g_of (own := RX8) (by decide) rfl rfl (Nat.le_of_ble_eq_true rfl) [(0, .ref (a 0)), (1, .int p1), (2, .int p2)] rfl (fun p e s m args below meth c hsz X => ?_)
  subst hsz
  unfold PX8_reason at hw
  refine g_aload_n X 0 dX8_reason_0 rfl rfl ?_
  refine g_get (T := TX8) (C := RX8) (N := 21) (v := .ref (a 1)) X 0 0 (fun _ h => (List.mem_cons_of_mem _ (List.mem_append_right _ h))) (List.mem_of_getElem? (i := 1) rfl) dX8_reason_1 rfl rfl (by decide) rfl rfl ?_
  refine g_iconst (v := 1) X rfl dX8_reason_4 ?_
  obtain ⟨h1, hw⟩ := hw
  refine g_iald X 1 0 dX8_reason_5 rfl rfl h1 ?_
  refine g_bipush (v := 10) X rfl dX8_reason_6 ?_
  refine g_icmp_ne X 13 dX8_reason_8 (by decide) (fun c2 => ?_) (fun c2 => ?_)
  · replace hw := hw.1 c2
    refine g_aload_n X 0 dX8_reason_13 rfl rfl ?_
    refine g_iload_n X 1 dX8_reason_14 rfl rfl ?_
    refine g_ciV X [wM ct a w hs] (fun (_ : Unit) => [wM ct a w hs]) (fun _ => wM ct a w hs) 1 [0] [] 0 (kX8_rowOf l D ct a w hs p1 _ hw) (cwV 1 X.1.2.2.2.2 gX8_reason_X8_rowOf rfl rfl rfl (by decide +kernel) ⟨Nat.le_of_ble_eq_true rfl, Nat.le_of_ble_eq_true rfl⟩) dX8_reason_15 rfl rfl (Nat.le_of_ble_eq_true rfl) ⟨Nat.le_of_ble_eq_true rfl, Nat.le_of_ble_eq_true rfl⟩ rfl rfl rfl (by decide) (fun _ => rfl) (fun _ => rfl) (fun _ => rfl) (fun _ => rfl) rfl rfl rfl (fun r3 _ hw => ?_)
    refine g_aload_n X 0 dX8_reason_18 rfl rfl ?_
    refine g_iload_n X 2 dX8_reason_19 rfl rfl ?_
    refine g_ciV X [wM ct a w hs] (fun (_ : Unit) => [wM ct a w hs]) (fun _ => wM ct a w hs) 1 [0] [] 0 (kX8_rowOf l D ct a w hs p2 _ hw) (cwV 1 X.1.2.2.2.2 gX8_reason_X8_rowOf rfl rfl rfl (by decide +kernel) ⟨Nat.le_of_ble_eq_true rfl, Nat.le_of_ble_eq_true rfl⟩) dX8_reason_20 rfl rfl (Nat.le_of_ble_eq_true rfl) ⟨Nat.le_of_ble_eq_true rfl, Nat.le_of_ble_eq_true rfl⟩ rfl rfl rfl (by decide) (fun _ => rfl) (fun _ => rfl) (fun _ => rfl) (fun _ => rfl) rfl rfl rfl (fun r5 _ hw => ?_)
    refine g_icmp_ne X 35 dX8_reason_23 (by decide) (fun c7 => ?_) (fun c7 => ?_)
    · replace hw := hw.1 c7
      refine g_iconst (v := 2) X rfl dX8_reason_35 ?_
      exact g_iret X () hw rfl (Nat.le_of_ble_eq_true rfl) (Nat.le_of_ble_eq_true rfl) dX8_reason_36
    · replace hw := hw.2 c7
      refine g_aload_n X 0 dX8_reason_26 rfl rfl ?_
      refine g_iload_n X 1 dX8_reason_27 rfl rfl ?_
      refine g_ciV X [wM ct a w hs] (fun (_ : Unit) => [wM ct a w hs]) (fun _ => wM ct a w hs) 1 [0] [] 0 (kX8_rowOf l D ct a w hs p1 _ hw) (cwV 1 X.1.2.2.2.2 gX8_reason_X8_rowOf rfl rfl rfl (by decide +kernel) ⟨Nat.le_of_ble_eq_true rfl, Nat.le_of_ble_eq_true rfl⟩) dX8_reason_28 rfl rfl (Nat.le_of_ble_eq_true rfl) ⟨Nat.le_of_ble_eq_true rfl, Nat.le_of_ble_eq_true rfl⟩ rfl rfl rfl (by decide) (fun _ => rfl) (fun _ => rfl) (fun _ => rfl) (fun _ => rfl) rfl rfl rfl (fun r8 _ hw => ?_)
      refine g_iconst (v := 3) X rfl dX8_reason_31 ?_
      refine g_icmp_ne X 37 dX8_reason_32 (by decide) (fun c10 => ?_) (fun c10 => ?_)
      · replace hw := hw.1 c10
        refine g_aload_n X 0 dX8_reason_37 rfl rfl ?_
        refine g_iload_n X 1 dX8_reason_38 rfl rfl ?_
        refine g_iload_n X 2 dX8_reason_39 rfl rfl ?_
        refine g_ciV X [wM ct a w hs] (fun (_ : Unit) => [wM ct a w hs]) (fun _ => wM ct a w hs) 1 [0] [] 0 (kX8_areCouple l D ct a w hs p1 p2 _ hw) (cwV 2 X.1.2.2.2.2 gX8_reason_X8_areCouple rfl rfl rfl (by decide +kernel) ⟨Nat.le_of_ble_eq_true rfl, Nat.le_of_ble_eq_true rfl⟩) dX8_reason_40 rfl rfl (Nat.le_of_ble_eq_true rfl) ⟨Nat.le_of_ble_eq_true rfl, Nat.le_of_ble_eq_true rfl⟩ rfl rfl rfl (by decide) (fun _ => rfl) (fun _ => rfl) (fun _ => rfl) (fun _ => rfl) rfl rfl rfl (fun r11 _ hw => ?_)
        refine g_if_eq X 50 dX8_reason_43 (by decide) (fun c13 => ?_) (fun c13 => ?_)
        · replace hw := hw.1 c13
          refine g_aload_n X 0 dX8_reason_50 rfl rfl ?_
          refine g_iload_n X 1 dX8_reason_51 rfl rfl ?_
          refine g_ciV X [wM ct a w hs] (fun (_ : Unit) => [wM ct a w hs]) (fun _ => wM ct a w hs) 1 [0] [] 0 (kX8_couplesOf l D ct a w hs p1 _ hw) (cwV 1 X.1.2.2.2.2 gX8_reason_X8_couplesOf rfl rfl rfl (by decide +kernel) ⟨Nat.le_of_ble_eq_true rfl, Nat.le_of_ble_eq_true rfl⟩) dX8_reason_52 rfl rfl (Nat.le_of_ble_eq_true rfl) ⟨Nat.le_of_ble_eq_true rfl, Nat.le_of_ble_eq_true rfl⟩ rfl rfl rfl (by decide) (fun _ => rfl) (fun _ => rfl) (fun _ => rfl) (fun _ => rfl) rfl rfl rfl (fun r14 _ hw => ?_)
          refine g_iconst (v := 2) X rfl dX8_reason_55 ?_
          refine g_icmp_eq X 68 dX8_reason_56 (by decide) (fun c16 => ?_) (fun c16 => ?_)
          · replace hw := hw.1 c16
            refine g_iconst (v := 4) X rfl dX8_reason_68 ?_
            refine g_goto X 73 dX8_reason_69 (by decide) ?_
            exact g_iret X () hw rfl (Nat.le_of_ble_eq_true rfl) (Nat.le_of_ble_eq_true rfl) dX8_reason_73
          · replace hw := hw.2 c16
            refine g_aload_n X 0 dX8_reason_59 rfl rfl ?_
            refine g_iload_n X 2 dX8_reason_60 rfl rfl ?_
            refine g_ciV X [wM ct a w hs] (fun (_ : Unit) => [wM ct a w hs]) (fun _ => wM ct a w hs) 1 [0] [] 0 (kX8_couplesOf l D ct a w hs p2 _ hw) (cwV 1 X.1.2.2.2.2 gX8_reason_X8_couplesOf rfl rfl rfl (by decide +kernel) ⟨Nat.le_of_ble_eq_true rfl, Nat.le_of_ble_eq_true rfl⟩) dX8_reason_61 rfl rfl (Nat.le_of_ble_eq_true rfl) ⟨Nat.le_of_ble_eq_true rfl, Nat.le_of_ble_eq_true rfl⟩ rfl rfl rfl (by decide) (fun _ => rfl) (fun _ => rfl) (fun _ => rfl) (fun _ => rfl) rfl rfl rfl (fun r17 _ hw => ?_)
            refine g_iconst (v := 2) X rfl dX8_reason_64 ?_
            refine g_icmp_ne X 72 dX8_reason_65 (by decide) (fun c19 => ?_) (fun c19 => ?_)
            · replace hw := hw.1 c19
              refine g_iconst (v := 0) X rfl dX8_reason_72 ?_
              exact g_iret X () hw rfl (Nat.le_of_ble_eq_true rfl) (Nat.le_of_ble_eq_true rfl) dX8_reason_73
            · replace hw := hw.2 c19
              refine g_iconst (v := 4) X rfl dX8_reason_68 ?_
              refine g_goto X 73 dX8_reason_69 (by decide) ?_
              exact g_iret X () hw rfl (Nat.le_of_ble_eq_true rfl) (Nat.le_of_ble_eq_true rfl) dX8_reason_73
        · replace hw := hw.2 c13
          refine g_iconst (v := 3) X rfl dX8_reason_46 ?_
          refine g_goto X 73 dX8_reason_47 (by decide) ?_
          exact g_iret X () hw rfl (Nat.le_of_ble_eq_true rfl) (Nat.le_of_ble_eq_true rfl) dX8_reason_73
      · replace hw := hw.2 c10
        refine g_iconst (v := 2) X rfl dX8_reason_35 ?_
        exact g_iret X () hw rfl (Nat.le_of_ble_eq_true rfl) (Nat.le_of_ble_eq_true rfl) dX8_reason_36
  · replace hw := hw.2 c2
    refine g_iconst (v := 1) X rfl dX8_reason_11 ?_
    exact g_iret X () hw rfl (Nat.le_of_ble_eq_true rfl) (Nat.le_of_ble_eq_true rfl) dX8_reason_12

abbrev rmX8_marryNow : Room := { frames := 3, cells := 0, slots := 0, locals := 67 }

abbrev GX8_marryNow (l : Launch) (D : va_G) (ct : Nat → ClassId) (a : Nat → Nat) (hs : Int64) (post : Int32 → Mem → Prop) (p : Program) (e : Env) (s : State) (m : MethodId) (args : Array Value) (below : List Frame) (meth : Method) (c : Code) (A : Nat → Prop) (w9 : va_W) (lv : List (Nat × Value)) (pc : Nat) (st : List Value) : Prop :=
  GG p l e rmX8_marryNow s m args below meth c D A s.heap 6 (MQ below (va_Qi (fun r (u9 : Mem) => post r u9) (fun u9 t9 => Af D (tyz ct) A ((fun u9 => wM ct a u9 hs) u9) t9) A)  args s 0 0 A) w9 0 0 lv pc st

set_option maxHeartbeats 4000000 in
set_option maxRecDepth 20000 in
theorem kX8_marryNow_21 (l : Launch) (D : va_G) (ct : Nat → ClassId) (a : Nat → Nat) (hs : Int64) (post : Int32 → Mem → Prop) {p : Program} {e : Env} {s : State} {m : MethodId} {args : Array Value} {below : List Frame} {meth : Method} {c : Code} {A : Nat → Prop} (X : Cx p s m args meth c cX8_marryNow 6 RX8 wsX8_marryNow D (tyz ct) A s.heap (some .int))  :
    ∀ (w : Mem) (x3 : Int32) (z0 : Int32), PX8_marryNow_21 hs post w x3 z0 → GX8_marryNow l D ct a hs post p e s m args below meth c A (wM ct a w hs) [(0, .ref (a 0)), (3, .int x3)] 21 [.int z0] := by
  intro w x3 z0 hw
  unfold PX8_marryNow_21 at hw
  refine g_istore X [(4, .int z0), (0, .ref (a 0)), (3, .int x3)] dX8_marryNow_21 (by decide) rfl ?_
  refine g_aload_n X 1 dX8_marryNow_23 rfl rfl ?_
  refine g_iload_n X 2 dX8_marryNow_24 rfl rfl ?_
  refine g_iload X 0 dX8_marryNow_25 rfl ?_
  refine g_ciV X [wM ct a w hs] (fun (_ : Unit) => [wM ct a w hs]) (fun _ => wM ct a w hs) 1 [0] [] 0 (kX8_reason l D ct a w hs x3 z0 _ hw) (cwV 2 X.1.2.2.2.2 gX8_marryNow_X8_reason rfl rfl rfl (by decide +kernel) ⟨Nat.le_of_ble_eq_true rfl, Nat.le_of_ble_eq_true rfl⟩) dX8_marryNow_27 rfl rfl (Nat.le_of_ble_eq_true rfl) ⟨Nat.le_of_ble_eq_true rfl, Nat.le_of_ble_eq_true rfl⟩ rfl rfl rfl (by decide) (fun _ => rfl) (fun _ => rfl) (fun _ => rfl) (fun _ => rfl) rfl rfl rfl (fun r3 _ hw => ?_)
  refine g_istore X [(5, .int r3), (4, .int z0), (0, .ref (a 0)), (3, .int x3)] dX8_marryNow_30 (by decide) rfl ?_
  refine g_iload X 0 dX8_marryNow_32 rfl ?_
  refine g_if_le X 50 dX8_marryNow_34 (by decide) (fun c5 => ?_) (fun c5 => ?_)
  · replace hw := hw.1 c5
    refine g_aload_n X 2 dX8_marryNow_50 rfl rfl ?_
    refine g_get (T := TX8) (C := RX8) (N := 21) (v := .ref (a 1)) X 0 0 (fun _ h => (List.mem_cons_of_mem _ (List.mem_append_right _ h))) (List.mem_of_getElem? (i := 1) rfl) dX8_marryNow_51 rfl rfl (by decide) rfl rfl ?_
    refine g_bipush (v := 43) X rfl dX8_marryNow_54 ?_
    refine g_iconst (v := 2) X rfl dX8_marryNow_56 ?_
    refine g_aload_n X 2 dX8_marryNow_57 rfl rfl ?_
    refine g_get (T := TX8) (C := RX8) (N := 21) (v := .ref (a 1)) X 0 0 (fun _ h => (List.mem_cons_of_mem _ (List.mem_append_right _ h))) (List.mem_of_getElem? (i := 1) rfl) dX8_marryNow_58 rfl rfl (by decide) rfl rfl ?_
    refine g_iconst (v := 1) X rfl dX8_marryNow_61 ?_
    obtain ⟨h6, hw⟩ := hw
    refine g_iald X 1 0 dX8_marryNow_62 rfl rfl h6 ?_
    refine g_imul X dX8_marryNow_63 ?_
    refine g_iadd X dX8_marryNow_64 ?_
    refine g_iload_n X 3 dX8_marryNow_65 rfl rfl ?_
    obtain ⟨h7, hw⟩ := hw
    refine g_iast X (fun z => wM ct a z hs) w 0 1 0 dX8_marryNow_66 rfl rfl h7 rfl (fun w8 hw8 => ?_)
    replace hw := hw w8 hw8
    refine g_aload_n X 2 dX8_marryNow_67 rfl rfl ?_
    refine g_get (T := TX8) (C := RX8) (N := 21) (v := .ref (a 1)) X 0 0 (fun _ h => (List.mem_cons_of_mem _ (List.mem_append_right _ h))) (List.mem_of_getElem? (i := 1) rfl) dX8_marryNow_68 rfl rfl (by decide) rfl rfl ?_
    refine g_bipush (v := 43) X rfl dX8_marryNow_71 ?_
    refine g_iconst (v := 2) X rfl dX8_marryNow_73 ?_
    refine g_aload_n X 2 dX8_marryNow_74 rfl rfl ?_
    refine g_get (T := TX8) (C := RX8) (N := 21) (v := .ref (a 1)) X 0 0 (fun _ h => (List.mem_cons_of_mem _ (List.mem_append_right _ h))) (List.mem_of_getElem? (i := 1) rfl) dX8_marryNow_75 rfl rfl (by decide) rfl rfl ?_
    refine g_iconst (v := 1) X rfl dX8_marryNow_78 ?_
    obtain ⟨h9, hw⟩ := hw
    refine g_iald X 1 0 dX8_marryNow_79 rfl rfl h9 ?_
    refine g_imul X dX8_marryNow_80 ?_
    refine g_iadd X dX8_marryNow_81 ?_
    refine g_iconst (v := 1) X rfl dX8_marryNow_82 ?_
    refine g_iadd X dX8_marryNow_83 ?_
    refine g_iload X 1 dX8_marryNow_84 rfl ?_
    obtain ⟨h10, hw⟩ := hw
    refine g_iast X (fun z => wM ct a z hs) w8 0 1 0 dX8_marryNow_86 rfl rfl h10 rfl (fun w11 hw11 => ?_)
    replace hw := hw w11 hw11
    refine g_aload_n X 2 dX8_marryNow_87 rfl rfl ?_
    refine g_get (T := TX8) (C := RX8) (N := 21) (v := .ref (a 1)) X 0 0 (fun _ h => (List.mem_cons_of_mem _ (List.mem_append_right _ h))) (List.mem_of_getElem? (i := 1) rfl) dX8_marryNow_88 rfl rfl (by decide) rfl rfl ?_
    refine g_iconst (v := 1) X rfl dX8_marryNow_91 ?_
    refine g_dup2 X dX8_marryNow_92 rfl rfl ?_
    obtain ⟨h12, hw⟩ := hw
    refine g_iald X 1 0 dX8_marryNow_93 rfl rfl h12 ?_
    refine g_iconst (v := 1) X rfl dX8_marryNow_94 ?_
    refine g_iadd X dX8_marryNow_95 ?_
    obtain ⟨h13, hw⟩ := hw
    refine g_iast X (fun z => wM ct a z hs) w11 0 1 0 dX8_marryNow_96 rfl rfl h13 rfl (fun w14 hw14 => ?_)
    replace hw := hw w14 hw14
    refine g_aload_n X 2 dX8_marryNow_97 rfl rfl ?_
    refine g_get (T := TX8) (C := RX8) (N := 21) (v := .ref (a 1)) X 0 0 (fun _ h => (List.mem_cons_of_mem _ (List.mem_append_right _ h))) (List.mem_of_getElem? (i := 1) rfl) dX8_marryNow_98 rfl rfl (by decide) rfl rfl ?_
    refine g_iconst (v := 1) X rfl dX8_marryNow_101 ?_
    obtain ⟨h15, hw⟩ := hw
    refine g_iald X 1 0 dX8_marryNow_102 rfl rfl h15 ?_
    refine g_bipush (v := 9) X rfl dX8_marryNow_103 ?_
    refine g_iadd X dX8_marryNow_105 ?_
    exact g_iret X w14 hw rfl (Nat.le_of_ble_eq_true rfl) (Nat.le_of_ble_eq_true rfl) dX8_marryNow_106
  · replace hw := hw.2 c5
    refine g_aload_n X 2 dX8_marryNow_37 rfl rfl ?_
    refine g_get (T := TX8) (C := RX8) (N := 21) (v := .ref (a 1)) X 0 0 (fun _ h => (List.mem_cons_of_mem _ (List.mem_append_right _ h))) (List.mem_of_getElem? (i := 1) rfl) dX8_marryNow_38 rfl rfl (by decide) rfl rfl ?_
    refine g_iconst (v := 2) X rfl dX8_marryNow_41 ?_
    refine g_dup2 X dX8_marryNow_42 rfl rfl ?_
    obtain ⟨h16, hw⟩ := hw
    refine g_iald X 1 0 dX8_marryNow_43 rfl rfl h16 ?_
    refine g_iconst (v := 1) X rfl dX8_marryNow_44 ?_
    refine g_iadd X dX8_marryNow_45 ?_
    obtain ⟨h17, hw⟩ := hw
    refine g_iast X (fun z => wM ct a z hs) w 0 1 0 dX8_marryNow_46 rfl rfl h17 rfl (fun w18 hw18 => ?_)
    replace hw := hw w18 hw18
    refine g_iload X 0 dX8_marryNow_47 rfl ?_
    exact g_iret X w18 hw rfl (Nat.le_of_ble_eq_true rfl) (Nat.le_of_ble_eq_true rfl) dX8_marryNow_49

set_option maxHeartbeats 4000000 in
set_option maxRecDepth 20000 in
theorem kX8_marryNow_10 (l : Launch) (D : va_G) (ct : Nat → ClassId) (a : Nat → Nat) (hs : Int64) (post : Int32 → Mem → Prop) {p : Program} {e : Env} {s : State} {m : MethodId} {args : Array Value} {below : List Frame} {meth : Method} {c : Code} {A : Nat → Prop} (X : Cx p s m args meth c cX8_marryNow 6 RX8 wsX8_marryNow D (tyz ct) A s.heap (some .int))  :
    ∀ (w : Mem) (x1 : Int32) (x2 : Int32) (z0 : Int32), PX8_marryNow_10 hs post w x1 x2 z0 → GX8_marryNow l D ct a hs post p e s m args below meth c A (wM ct a w hs) [(0, .ref (a 0)), (1, .int x1), (2, .int x2)] 10 [.int z0] := by
  intro w x1 x2 z0 hw
  unfold PX8_marryNow_10 at hw
  refine g_istore_n X [(3, .int z0), (0, .ref (a 0)), (1, .int x1), (2, .int x2)] dX8_marryNow_10 rfl (by decide) rfl ?_
  refine g_iload_n X 2 dX8_marryNow_11 rfl rfl ?_
  refine g_iload_n X 3 dX8_marryNow_12 rfl rfl ?_
  refine g_icmp_ge X 20 dX8_marryNow_13 (by decide) (fun c2 => ?_) (fun c2 => ?_)
  · replace hw := hw.1 c2
    refine g_iload_n X 2 dX8_marryNow_20 rfl rfl ?_
    refine g_sub [(0, .ref (a 0)), (3, .int z0)] [1, 0] rfl ?_
    exact kX8_marryNow_21 l D ct a hs post X _ _ _ hw
  · replace hw := hw.2 c2
    refine g_iload_n X 3 dX8_marryNow_16 rfl rfl ?_
    refine g_goto X 21 dX8_marryNow_17 (by decide) ?_
    refine g_sub [(0, .ref (a 0)), (3, .int z0)] [1, 0] rfl ?_
    exact kX8_marryNow_21 l D ct a hs post X _ _ _ hw

set_option maxHeartbeats 4000000 in
set_option maxRecDepth 20000 in
theorem kX8_marryNow (l : Launch) (D : va_G) (ct : Nat → ClassId) (a : Nat → Nat) (w : Mem) (hs : Int64) (p1 : Int32) (p2 : Int32) (post : Int32 → Mem → Prop) (hw : PX8_marryNow w hs p1 p2 post) : Ci (S := Mem) l yX8_marryNow wsX8_marryNow rmX8_marryNow D (tyz ct) [.ref (a 0), .int p1, .int p2] (wM ct a w hs) (fun r (u9 : Mem) => post r u9) (fun u9 => wM ct a u9 hs) 0 0 := by
  intro sz
  refine g_of (own := RX8) (by decide) rfl rfl (Nat.le_of_ble_eq_true rfl) [(0, .ref (a 0)), (1, .int p1), (2, .int p2)] rfl (fun p e s m args below meth c hsz X => ?_)
  subst hsz
  unfold PX8_marryNow at hw
  refine g_iload_n X 1 dX8_marryNow_0 rfl rfl ?_
  refine g_iload_n X 2 dX8_marryNow_1 rfl rfl ?_
  refine g_icmp_ge X 9 dX8_marryNow_2 (by decide) (fun c1 => ?_) (fun c1 => ?_)
  · replace hw := hw.1 c1
    refine g_iload_n X 2 dX8_marryNow_9 rfl rfl ?_
    refine g_sub [(0, .ref (a 0)), (1, .int p1), (2, .int p2)] [0, 1, 2] rfl ?_
    exact kX8_marryNow_10 l D ct a hs post X _ _ _ _ hw
  · replace hw := hw.2 c1
    refine g_iload_n X 1 dX8_marryNow_5 rfl rfl ?_
    refine g_goto X 10 dX8_marryNow_6 (by decide) ?_
    refine g_sub [(0, .ref (a 0)), (1, .int p1), (2, .int p2)] [0, 1, 2] rfl ?_
    exact kX8_marryNow_10 l D ct a hs post X _ _ _ _ hw

abbrev rmX8_childNow : Room := { frames := 1, cells := 0, slots := 0, locals := 23 }

abbrev GX8_childNow (l : Launch) (D : va_G) (ct : Nat → ClassId) (a : Nat → Nat) (hs : Int64) (post : Int32 → Mem → Prop) (p : Program) (e : Env) (s : State) (m : MethodId) (args : Array Value) (below : List Frame) (meth : Method) (c : Code) (A : Nat → Prop) (w9 : va_W) (lv : List (Nat × Value)) (pc : Nat) (st : List Value) : Prop :=
  GG p l e rmX8_childNow s m args below meth c D A s.heap 2 (MQ below (va_Qi (fun r (u9 : Mem) => post r u9) (fun u9 t9 => Af D (tyz ct) A ((fun u9 => wM ct a u9 hs) u9) t9) A)  args s 0 0 A) w9 0 0 lv pc st

set_option maxHeartbeats 4000000 in
set_option maxRecDepth 20000 in
theorem kX8_childNow (l : Launch) (D : va_G) (ct : Nat → ClassId) (a : Nat → Nat) (w : Mem) (hs : Int64) (p1 : Int32) (post : Int32 → Mem → Prop) (hw : PX8_childNow w hs p1 post) : Ci (S := Mem) l yX8_childNow wsX8_childNow rmX8_childNow D (tyz ct) [.ref (a 0), .int p1] (wM ct a w hs) (fun r (u9 : Mem) => post r u9) (fun u9 => wM ct a u9 hs) 0 0 := by
  intro sz
  refine g_of (own := RX8) (by decide) rfl rfl (Nat.le_of_ble_eq_true rfl) [(0, .ref (a 0)), (1, .int p1)] rfl (fun p e s m args below meth c hsz X => ?_)
  subst hsz
  unfold PX8_childNow at hw
  refine g_aload_n X 0 dX8_childNow_0 rfl rfl ?_
  refine g_aload_n X 0 dX8_childNow_1 rfl rfl ?_
  refine g_aload_n X 0 dX8_childNow_2 rfl rfl ?_
  refine g_iload_n X 1 dX8_childNow_3 rfl rfl ?_
  refine g_ciV X [wM ct a w hs] (fun (_ : Unit) => [wM ct a w hs]) (fun _ => wM ct a w hs) 1 [0] [] 0 (kX8_one l D ct a w hs p1 _ hw) (cwV 1 X.1.2.2.2.2 gX8_childNow_X8_one rfl rfl rfl (by decide +kernel) ⟨Nat.le_of_ble_eq_true rfl, Nat.le_of_ble_eq_true rfl⟩) dX8_childNow_4 rfl rfl (Nat.le_of_ble_eq_true rfl) ⟨Nat.le_of_ble_eq_true rfl, Nat.le_of_ble_eq_true rfl⟩ rfl rfl rfl (by decide) (fun _ => rfl) (fun _ => rfl) (fun _ => rfl) (fun _ => rfl) rfl rfl rfl (fun r1 _ hw => ?_)
  refine g_ciV X [wM ct a w hs] (fun (_ : Unit) => [wM ct a w hs]) (fun _ => wM ct a w hs) 1 [0] [] 0 (kX8_rowOf l D ct a w hs r1 _ hw) (cwV 1 X.1.2.2.2.2 gX8_childNow_X8_rowOf rfl rfl rfl (by decide +kernel) ⟨Nat.le_of_ble_eq_true rfl, Nat.le_of_ble_eq_true rfl⟩) dX8_childNow_7 rfl rfl (Nat.le_of_ble_eq_true rfl) ⟨Nat.le_of_ble_eq_true rfl, Nat.le_of_ble_eq_true rfl⟩ rfl rfl rfl (by decide) (fun _ => rfl) (fun _ => rfl) (fun _ => rfl) (fun _ => rfl) rfl rfl rfl (fun r3 _ hw => ?_)
  refine g_iconst (v := 1) X rfl dX8_childNow_10 ?_
  refine g_iadd X dX8_childNow_11 ?_
  refine g_iload_n X 1 dX8_childNow_12 rfl rfl ?_
  refine g_ciV X [wM ct a w hs] (fun (u6 : Mem) => [wM ct a u6 hs]) (fun (u6 : Mem) => wM ct a u6 hs) 1 [0] [] 0 (kX8_personNow l D ct a w hs (r3 + 1) p1 _ hw) (cwV 2 X.1.2.2.2.2 gX8_childNow_X8_personNow rfl rfl rfl (by decide +kernel) ⟨Nat.le_of_ble_eq_true rfl, Nat.le_of_ble_eq_true rfl⟩) dX8_childNow_13 rfl rfl (Nat.le_of_ble_eq_true rfl) ⟨Nat.le_of_ble_eq_true rfl, Nat.le_of_ble_eq_true rfl⟩ rfl rfl rfl (by decide) (fun _ => rfl) (fun _ => rfl) (fun _ => rfl) (fun _ => rfl) rfl rfl rfl (fun r5 u6 hw => ?_)
  obtain ⟨w7, hw7⟩ : ∃ z : Mem, z = u6 := ⟨_, rfl⟩
  rw [← hw7] at hw
  rw [← hw7]
  exact g_iret X w7 hw rfl (Nat.le_of_ble_eq_true rfl) (Nat.le_of_ble_eq_true rfl) dX8_childNow_16

abbrev rmX8_person : Room := { frames := 2, cells := 0, slots := 0, locals := 42 }

abbrev GX8_person (l : Launch) (D : va_G) (ct : Nat → ClassId) (a : Nat → Nat) (hs : Int64) (post : Int32 → Mem → Prop) (p : Program) (e : Env) (s : State) (m : MethodId) (args : Array Value) (below : List Frame) (meth : Method) (c : Code) (A : Nat → Prop) (w9 : va_W) (lv : List (Nat × Value)) (pc : Nat) (st : List Value) : Prop :=
  GG p l e rmX8_person s m args below meth c D A s.heap 2 (MQ below (va_Qi (fun r (u9 : Mem) => post r u9) (fun u9 t9 => Af D (tyz ct) A ((fun u9 => wM ct a u9 hs) u9) t9) A)  args s 0 0 A) w9 0 0 lv pc st

set_option maxHeartbeats 4000000 in
set_option maxRecDepth 20000 in
theorem kX8_person (l : Launch) (D : va_G) (ct : Nat → ClassId) (a : Nat → Nat) (w : Mem) (hs : Int64) (p1 : Int32) (post : Int32 → Mem → Prop) (hw : PX8_person w hs p1 post) : Ci (S := Mem) l yX8_person wsX8_person rmX8_person D (tyz ct) [.ref (a 0), .int p1] (wM ct a w hs) (fun r (u9 : Mem) => post r u9) (fun u9 => wM ct a u9 hs) 0 0 := by
  intro sz
  refine g_of (own := RX8) (by decide) rfl rfl (Nat.le_of_ble_eq_true rfl) [(0, .ref (a 0)), (1, .int p1)] rfl (fun p e s m args below meth c hsz X => ?_)
  subst hsz
  unfold PX8_person at hw
  refine g_aload_n X 0 dX8_person_0 rfl rfl ?_
  refine g_iconst (v := 0) X rfl dX8_person_1 ?_
  refine g_put (T := TX8) (C := RX8) (N := 21) X (fun z => wM ct a z hs) w 0 5 tyX8 tyX8_ok nmX8 (fun _ h => (List.mem_cons_of_mem _ (List.mem_append_right _ h))) (List.mem_of_getElem? (i := 1) rfl) dX8_person_2 rfl rfl (by decide) rfl rfl (by decide +kernel) (Nat.le_of_ble_eq_true rfl) rfl (fun w1 hw1 => ?_)
  replace hw := hw w1 hw1
  refine g_iload_n X 1 dX8_person_5 rfl rfl ?_
  refine g_ciS X [wM ct a w1 hs] (fun (_ : Unit) => [wM ct a w1 hs]) (fun _ => wM ct a w1 hs) 1 [] [0] (kX8_isRow l D ct  p1 _ hw) (va_cwS 1 X.1.2.2.2.2 gX8_person_X8_isRow rfl rfl rfl (by decide +kernel) ⟨Nat.le_of_ble_eq_true rfl, Nat.le_of_ble_eq_true rfl⟩) dX8_person_6 rfl rfl (Nat.le_of_ble_eq_true rfl) ⟨Nat.le_of_ble_eq_true rfl, Nat.le_of_ble_eq_true rfl⟩ rfl rfl rfl (by decide) (fun _ => rfl) (fun _ => rfl) (fun _ => rfl) (fun _ => rfl) (fun r2 _ hw => ?_)
  refine g_if_ne X 18 dX8_person_9 (by decide) (fun c4 => ?_) (fun c4 => ?_)
  · replace hw := hw.1 c4
    refine g_aload_n X 0 dX8_person_18 rfl rfl ?_
    refine g_cvV X [wM ct a w1 hs] (fun (u5 : Mem) => [wM ct a u5 hs]) (fun (u5 : Mem) => wM ct a u5 hs) 1 [0] [] 0 (kX8_save l D ct a w1 hs _ hw) (cwV 0 X.1.2.2.2.2 gX8_person_X8_save rfl rfl rfl (by decide +kernel) ⟨Nat.le_of_ble_eq_true rfl, Nat.le_of_ble_eq_true rfl⟩) dX8_person_19 rfl rfl (Nat.le_of_ble_eq_true rfl) ⟨Nat.le_of_ble_eq_true rfl, Nat.le_of_ble_eq_true rfl⟩ rfl rfl rfl (by decide) (fun _ => rfl) (fun _ => rfl) (fun _ => rfl) (fun _ => rfl) rfl rfl rfl (fun u5 hw => ?_)
    obtain ⟨w6, hw6⟩ : ∃ z : Mem, z = u5 := ⟨_, rfl⟩
    rw [← hw6] at hw
    rw [← hw6]
    refine g_aload_n X 0 dX8_person_22 rfl rfl ?_
    refine g_iload_n X 1 dX8_person_23 rfl rfl ?_
    refine g_iconst (v := (-1)) X rfl dX8_person_24 ?_
    refine g_ciV X [wM ct a w6 hs] (fun (u8 : Mem) => [wM ct a u8 hs]) (fun (u8 : Mem) => wM ct a u8 hs) 1 [0] [] 0 (kX8_personNow l D ct a w6 hs p1 ((-1)) _ hw) (cwV 2 X.1.2.2.2.2 gX8_person_X8_personNow rfl rfl rfl (by decide +kernel) ⟨Nat.le_of_ble_eq_true rfl, Nat.le_of_ble_eq_true rfl⟩) dX8_person_25 rfl rfl (Nat.le_of_ble_eq_true rfl) ⟨Nat.le_of_ble_eq_true rfl, Nat.le_of_ble_eq_true rfl⟩ rfl rfl rfl (by decide) (fun _ => rfl) (fun _ => rfl) (fun _ => rfl) (fun _ => rfl) rfl rfl rfl (fun r7 u8 hw => ?_)
    obtain ⟨w9, hw9⟩ : ∃ z : Mem, z = u8 := ⟨_, rfl⟩
    rw [← hw9] at hw
    rw [← hw9]
    exact g_iret X w9 hw rfl (Nat.le_of_ble_eq_true rfl) (Nat.le_of_ble_eq_true rfl) dX8_person_28
  · replace hw := hw.2 c4
    refine g_aload_n X 0 dX8_person_12 rfl rfl ?_
    refine g_iconst (v := 1) X rfl dX8_person_13 ?_
    refine g_ciV X [wM ct a w1 hs] (fun (u11 : Mem) => [wM ct a u11 hs]) (fun (u11 : Mem) => wM ct a u11 hs) 1 [0] [] 0 (kX8_fails l D ct a w1 hs 1 _ hw) (cwV 1 X.1.2.2.2.2 gX8_person_X8_fails rfl rfl rfl (by decide +kernel) ⟨Nat.le_of_ble_eq_true rfl, Nat.le_of_ble_eq_true rfl⟩) dX8_person_14 rfl rfl (Nat.le_of_ble_eq_true rfl) ⟨Nat.le_of_ble_eq_true rfl, Nat.le_of_ble_eq_true rfl⟩ rfl rfl rfl (by decide) (fun _ => rfl) (fun _ => rfl) (fun _ => rfl) (fun _ => rfl) rfl rfl rfl (fun r10 u11 hw => ?_)
    obtain ⟨w12, hw12⟩ : ∃ z : Mem, z = u11 := ⟨_, rfl⟩
    rw [← hw12] at hw
    rw [← hw12]
    exact g_iret X w12 hw rfl (Nat.le_of_ble_eq_true rfl) (Nat.le_of_ble_eq_true rfl) dX8_person_17

abbrev rmX8_marry : Room := { frames := 4, cells := 0, slots := 0, locals := 92 }

abbrev GX8_marry (l : Launch) (D : va_G) (ct : Nat → ClassId) (a : Nat → Nat) (hs : Int64) (post : Int32 → Mem → Prop) (p : Program) (e : Env) (s : State) (m : MethodId) (args : Array Value) (below : List Frame) (meth : Method) (c : Code) (A : Nat → Prop) (w9 : va_W) (lv : List (Nat × Value)) (pc : Nat) (st : List Value) : Prop :=
  GG p l e rmX8_marry s m args below meth c D A s.heap 3 (MQ below (va_Qi (fun r (u9 : Mem) => post r u9) (fun u9 t9 => Af D (tyz ct) A ((fun u9 => wM ct a u9 hs) u9) t9) A)  args s 0 0 A) w9 0 0 lv pc st

set_option maxHeartbeats 4000000 in
set_option maxRecDepth 20000 in
theorem kX8_marry_21 (l : Launch) (D : va_G) (ct : Nat → ClassId) (a : Nat → Nat) (hs : Int64) (post : Int32 → Mem → Prop) {p : Program} {e : Env} {s : State} {m : MethodId} {args : Array Value} {below : List Frame} {meth : Method} {c : Code} {A : Nat → Prop} (X : Cx p s m args meth c cX8_marry 3 RX8 wsX8_marry D (tyz ct) A s.heap (some .int))  :
    ∀ (w : Mem), PX8_marry_21 hs post w → GX8_marry l D ct a hs post p e s m args below meth c A (wM ct a w hs) [(0, .ref (a 0))] 21 [] := by
  intro w hw
  unfold PX8_marry_21 at hw
  refine g_aload_n X 0 dX8_marry_21 rfl rfl ?_
  refine g_iconst (v := 1) X rfl dX8_marry_22 ?_
  refine g_ciV X [wM ct a w hs] (fun (u6 : Mem) => [wM ct a u6 hs]) (fun (u6 : Mem) => wM ct a u6 hs) 1 [0] [] 0 (kX8_fails l D ct a w hs 1 _ hw) (cwV 1 X.1.2.2.2.2 gX8_marry_X8_fails rfl rfl rfl (by decide +kernel) ⟨Nat.le_of_ble_eq_true rfl, Nat.le_of_ble_eq_true rfl⟩) dX8_marry_23 rfl rfl (Nat.le_of_ble_eq_true rfl) ⟨Nat.le_of_ble_eq_true rfl, Nat.le_of_ble_eq_true rfl⟩ rfl rfl rfl (by decide) (fun _ => rfl) (fun _ => rfl) (fun _ => rfl) (fun _ => rfl) rfl rfl rfl (fun r5 u6 hw => ?_)
  obtain ⟨w7, hw7⟩ : ∃ z : Mem, z = u6 := ⟨_, rfl⟩
  rw [← hw7] at hw
  rw [← hw7]
  exact g_iret X w7 hw rfl (Nat.le_of_ble_eq_true rfl) (Nat.le_of_ble_eq_true rfl) dX8_marry_26

set_option maxHeartbeats 4000000 in
set_option maxRecDepth 20000 in
theorem kX8_marry (l : Launch) (D : va_G) (ct : Nat → ClassId) (a : Nat → Nat) (w : Mem) (hs : Int64) (p1 : Int32) (p2 : Int32) (post : Int32 → Mem → Prop) (hw : PX8_marry w hs p1 p2 post) : Ci (S := Mem) l yX8_marry wsX8_marry rmX8_marry D (tyz ct) [.ref (a 0), .int p1, .int p2] (wM ct a w hs) (fun r (u9 : Mem) => post r u9) (fun u9 => wM ct a u9 hs) 0 0 := by
  intro sz
  refine g_of (own := RX8) (by decide) rfl rfl (Nat.le_of_ble_eq_true rfl) [(0, .ref (a 0)), (1, .int p1), (2, .int p2)] rfl (fun p e s m args below meth c hsz X => ?_)
  subst hsz
  unfold PX8_marry at hw
  refine g_aload_n X 0 dX8_marry_0 rfl rfl ?_
  refine g_iconst (v := 0) X rfl dX8_marry_1 ?_
  refine g_put (T := TX8) (C := RX8) (N := 21) X (fun z => wM ct a z hs) w 0 5 tyX8 tyX8_ok nmX8 (fun _ h => (List.mem_cons_of_mem _ (List.mem_append_right _ h))) (List.mem_of_getElem? (i := 1) rfl) dX8_marry_2 rfl rfl (by decide) rfl rfl (by decide +kernel) (Nat.le_of_ble_eq_true rfl) rfl (fun w1 hw1 => ?_)
  replace hw := hw w1 hw1
  refine g_aload_n X 0 dX8_marry_5 rfl rfl ?_
  refine g_iload_n X 1 dX8_marry_6 rfl rfl ?_
  refine g_ciV X [wM ct a w1 hs] (fun (_ : Unit) => [wM ct a w1 hs]) (fun _ => wM ct a w1 hs) 1 [0] [] 0 (kX8_isPerson l D ct a w1 hs p1 _ hw) (cwV 1 X.1.2.2.2.2 gX8_marry_X8_isPerson rfl rfl rfl (by decide +kernel) ⟨Nat.le_of_ble_eq_true rfl, Nat.le_of_ble_eq_true rfl⟩) dX8_marry_7 rfl rfl (Nat.le_of_ble_eq_true rfl) ⟨Nat.le_of_ble_eq_true rfl, Nat.le_of_ble_eq_true rfl⟩ rfl rfl rfl (by decide) (fun _ => rfl) (fun _ => rfl) (fun _ => rfl) (fun _ => rfl) rfl rfl rfl (fun r2 _ hw => ?_)
  refine g_if_eq X 21 dX8_marry_10 (by decide) (fun c4 => ?_) (fun c4 => ?_)
  · replace hw := hw.1 c4
    refine g_sub [(0, .ref (a 0))] [0] rfl ?_
    exact kX8_marry_21 l D ct a hs post X _ hw
  · replace hw := hw.2 c4
    refine g_aload_n X 0 dX8_marry_13 rfl rfl ?_
    refine g_iload_n X 2 dX8_marry_14 rfl rfl ?_
    refine g_ciV X [wM ct a w1 hs] (fun (_ : Unit) => [wM ct a w1 hs]) (fun _ => wM ct a w1 hs) 1 [0] [] 0 (kX8_isPerson l D ct a w1 hs p2 _ hw) (cwV 1 X.1.2.2.2.2 gX8_marry_X8_isPerson rfl rfl rfl (by decide +kernel) ⟨Nat.le_of_ble_eq_true rfl, Nat.le_of_ble_eq_true rfl⟩) dX8_marry_15 rfl rfl (Nat.le_of_ble_eq_true rfl) ⟨Nat.le_of_ble_eq_true rfl, Nat.le_of_ble_eq_true rfl⟩ rfl rfl rfl (by decide) (fun _ => rfl) (fun _ => rfl) (fun _ => rfl) (fun _ => rfl) rfl rfl rfl (fun r8 _ hw => ?_)
    refine g_if_ne X 27 dX8_marry_18 (by decide) (fun c10 => ?_) (fun c10 => ?_)
    · replace hw := hw.1 c10
      refine g_iload_n X 1 dX8_marry_27 rfl rfl ?_
      refine g_iload_n X 2 dX8_marry_28 rfl rfl ?_
      refine g_icmp_ne X 38 dX8_marry_29 (by decide) (fun c11 => ?_) (fun c11 => ?_)
      · replace hw := hw.1 c11
        refine g_aload_n X 0 dX8_marry_38 rfl rfl ?_
        refine g_cvV X [wM ct a w1 hs] (fun (u12 : Mem) => [wM ct a u12 hs]) (fun (u12 : Mem) => wM ct a u12 hs) 1 [0] [] 0 (kX8_save l D ct a w1 hs _ hw) (cwV 0 X.1.2.2.2.2 gX8_marry_X8_save rfl rfl rfl (by decide +kernel) ⟨Nat.le_of_ble_eq_true rfl, Nat.le_of_ble_eq_true rfl⟩) dX8_marry_39 rfl rfl (Nat.le_of_ble_eq_true rfl) ⟨Nat.le_of_ble_eq_true rfl, Nat.le_of_ble_eq_true rfl⟩ rfl rfl rfl (by decide) (fun _ => rfl) (fun _ => rfl) (fun _ => rfl) (fun _ => rfl) rfl rfl rfl (fun u12 hw => ?_)
        obtain ⟨w13, hw13⟩ : ∃ z : Mem, z = u12 := ⟨_, rfl⟩
        rw [← hw13] at hw
        rw [← hw13]
        refine g_aload_n X 0 dX8_marry_42 rfl rfl ?_
        refine g_iload_n X 1 dX8_marry_43 rfl rfl ?_
        refine g_iload_n X 2 dX8_marry_44 rfl rfl ?_
        refine g_ciV X [wM ct a w13 hs] (fun (u15 : Mem) => [wM ct a u15 hs]) (fun (u15 : Mem) => wM ct a u15 hs) 1 [0] [] 0 (kX8_marryNow l D ct a w13 hs p1 p2 _ hw) (cwV 2 X.1.2.2.2.2 gX8_marry_X8_marryNow rfl rfl rfl (by decide +kernel) ⟨Nat.le_of_ble_eq_true rfl, Nat.le_of_ble_eq_true rfl⟩) dX8_marry_45 rfl rfl (Nat.le_of_ble_eq_true rfl) ⟨Nat.le_of_ble_eq_true rfl, Nat.le_of_ble_eq_true rfl⟩ rfl rfl rfl (by decide) (fun _ => rfl) (fun _ => rfl) (fun _ => rfl) (fun _ => rfl) rfl rfl rfl (fun r14 u15 hw => ?_)
        obtain ⟨w16, hw16⟩ : ∃ z : Mem, z = u15 := ⟨_, rfl⟩
        rw [← hw16] at hw
        rw [← hw16]
        exact g_iret X w16 hw rfl (Nat.le_of_ble_eq_true rfl) (Nat.le_of_ble_eq_true rfl) dX8_marry_48
      · replace hw := hw.2 c11
        refine g_aload_n X 0 dX8_marry_32 rfl rfl ?_
        refine g_iconst (v := 2) X rfl dX8_marry_33 ?_
        refine g_ciV X [wM ct a w1 hs] (fun (u18 : Mem) => [wM ct a u18 hs]) (fun (u18 : Mem) => wM ct a u18 hs) 1 [0] [] 0 (kX8_fails l D ct a w1 hs 2 _ hw) (cwV 1 X.1.2.2.2.2 gX8_marry_X8_fails rfl rfl rfl (by decide +kernel) ⟨Nat.le_of_ble_eq_true rfl, Nat.le_of_ble_eq_true rfl⟩) dX8_marry_34 rfl rfl (Nat.le_of_ble_eq_true rfl) ⟨Nat.le_of_ble_eq_true rfl, Nat.le_of_ble_eq_true rfl⟩ rfl rfl rfl (by decide) (fun _ => rfl) (fun _ => rfl) (fun _ => rfl) (fun _ => rfl) rfl rfl rfl (fun r17 u18 hw => ?_)
        obtain ⟨w19, hw19⟩ : ∃ z : Mem, z = u18 := ⟨_, rfl⟩
        rw [← hw19] at hw
        rw [← hw19]
        exact g_iret X w19 hw rfl (Nat.le_of_ble_eq_true rfl) (Nat.le_of_ble_eq_true rfl) dX8_marry_37
    · replace hw := hw.2 c10
      refine g_sub [(0, .ref (a 0))] [0] rfl ?_
      exact kX8_marry_21 l D ct a hs post X _ hw

abbrev rmX8_child : Room := { frames := 2, cells := 0, slots := 0, locals := 44 }

abbrev GX8_child (l : Launch) (D : va_G) (ct : Nat → ClassId) (a : Nat → Nat) (hs : Int64) (post : Int32 → Mem → Prop) (p : Program) (e : Env) (s : State) (m : MethodId) (args : Array Value) (below : List Frame) (meth : Method) (c : Code) (A : Nat → Prop) (w9 : va_W) (lv : List (Nat × Value)) (pc : Nat) (st : List Value) : Prop :=
  GG p l e rmX8_child s m args below meth c D A s.heap 2 (MQ below (va_Qi (fun r (u9 : Mem) => post r u9) (fun u9 t9 => Af D (tyz ct) A ((fun u9 => wM ct a u9 hs) u9) t9) A)  args s 0 0 A) w9 0 0 lv pc st

set_option maxHeartbeats 4000000 in
set_option maxRecDepth 20000 in
theorem kX8_child (l : Launch) (D : va_G) (ct : Nat → ClassId) (a : Nat → Nat) (w : Mem) (hs : Int64) (p1 : Int32) (post : Int32 → Mem → Prop) (hw : PX8_child w hs p1 post) : Ci (S := Mem) l yX8_child wsX8_child rmX8_child D (tyz ct) [.ref (a 0), .int p1] (wM ct a w hs) (fun r (u9 : Mem) => post r u9) (fun u9 => wM ct a u9 hs) 0 0 := by
  intro sz
  refine g_of (own := RX8) (by decide) rfl rfl (Nat.le_of_ble_eq_true rfl) [(0, .ref (a 0)), (1, .int p1)] rfl (fun p e s m args below meth c hsz X => ?_)
  subst hsz
  unfold PX8_child at hw
  refine g_aload_n X 0 dX8_child_0 rfl rfl ?_
  refine g_iconst (v := 0) X rfl dX8_child_1 ?_
  refine g_put (T := TX8) (C := RX8) (N := 21) X (fun z => wM ct a z hs) w 0 5 tyX8 tyX8_ok nmX8 (fun _ h => (List.mem_cons_of_mem _ (List.mem_append_right _ h))) (List.mem_of_getElem? (i := 1) rfl) dX8_child_2 rfl rfl (by decide) rfl rfl (by decide +kernel) (Nat.le_of_ble_eq_true rfl) rfl (fun w1 hw1 => ?_)
  replace hw := hw w1 hw1
  refine g_aload_n X 0 dX8_child_5 rfl rfl ?_
  refine g_iload_n X 1 dX8_child_6 rfl rfl ?_
  refine g_ciV X [wM ct a w1 hs] (fun (_ : Unit) => [wM ct a w1 hs]) (fun _ => wM ct a w1 hs) 1 [0] [] 0 (kX8_isCouple l D ct a w1 hs p1 _ hw) (cwV 1 X.1.2.2.2.2 gX8_child_X8_isCouple rfl rfl rfl (by decide +kernel) ⟨Nat.le_of_ble_eq_true rfl, Nat.le_of_ble_eq_true rfl⟩) dX8_child_7 rfl rfl (Nat.le_of_ble_eq_true rfl) ⟨Nat.le_of_ble_eq_true rfl, Nat.le_of_ble_eq_true rfl⟩ rfl rfl rfl (by decide) (fun _ => rfl) (fun _ => rfl) (fun _ => rfl) (fun _ => rfl) rfl rfl rfl (fun r2 _ hw => ?_)
  refine g_if_ne X 19 dX8_child_10 (by decide) (fun c4 => ?_) (fun c4 => ?_)
  · replace hw := hw.1 c4
    refine g_aload_n X 0 dX8_child_19 rfl rfl ?_
    refine g_cvV X [wM ct a w1 hs] (fun (u5 : Mem) => [wM ct a u5 hs]) (fun (u5 : Mem) => wM ct a u5 hs) 1 [0] [] 0 (kX8_save l D ct a w1 hs _ hw) (cwV 0 X.1.2.2.2.2 gX8_child_X8_save rfl rfl rfl (by decide +kernel) ⟨Nat.le_of_ble_eq_true rfl, Nat.le_of_ble_eq_true rfl⟩) dX8_child_20 rfl rfl (Nat.le_of_ble_eq_true rfl) ⟨Nat.le_of_ble_eq_true rfl, Nat.le_of_ble_eq_true rfl⟩ rfl rfl rfl (by decide) (fun _ => rfl) (fun _ => rfl) (fun _ => rfl) (fun _ => rfl) rfl rfl rfl (fun u5 hw => ?_)
    obtain ⟨w6, hw6⟩ : ∃ z : Mem, z = u5 := ⟨_, rfl⟩
    rw [← hw6] at hw
    rw [← hw6]
    refine g_aload_n X 0 dX8_child_23 rfl rfl ?_
    refine g_iload_n X 1 dX8_child_24 rfl rfl ?_
    refine g_ciV X [wM ct a w6 hs] (fun (u8 : Mem) => [wM ct a u8 hs]) (fun (u8 : Mem) => wM ct a u8 hs) 1 [0] [] 0 (kX8_childNow l D ct a w6 hs p1 _ hw) (cwV 1 X.1.2.2.2.2 gX8_child_X8_childNow rfl rfl rfl (by decide +kernel) ⟨Nat.le_of_ble_eq_true rfl, Nat.le_of_ble_eq_true rfl⟩) dX8_child_25 rfl rfl (Nat.le_of_ble_eq_true rfl) ⟨Nat.le_of_ble_eq_true rfl, Nat.le_of_ble_eq_true rfl⟩ rfl rfl rfl (by decide) (fun _ => rfl) (fun _ => rfl) (fun _ => rfl) (fun _ => rfl) rfl rfl rfl (fun r7 u8 hw => ?_)
    obtain ⟨w9, hw9⟩ : ∃ z : Mem, z = u8 := ⟨_, rfl⟩
    rw [← hw9] at hw
    rw [← hw9]
    exact g_iret X w9 hw rfl (Nat.le_of_ble_eq_true rfl) (Nat.le_of_ble_eq_true rfl) dX8_child_28
  · replace hw := hw.2 c4
    refine g_aload_n X 0 dX8_child_13 rfl rfl ?_
    refine g_iconst (v := 1) X rfl dX8_child_14 ?_
    refine g_ciV X [wM ct a w1 hs] (fun (u11 : Mem) => [wM ct a u11 hs]) (fun (u11 : Mem) => wM ct a u11 hs) 1 [0] [] 0 (kX8_fails l D ct a w1 hs 1 _ hw) (cwV 1 X.1.2.2.2.2 gX8_child_X8_fails rfl rfl rfl (by decide +kernel) ⟨Nat.le_of_ble_eq_true rfl, Nat.le_of_ble_eq_true rfl⟩) dX8_child_15 rfl rfl (Nat.le_of_ble_eq_true rfl) ⟨Nat.le_of_ble_eq_true rfl, Nat.le_of_ble_eq_true rfl⟩ rfl rfl rfl (by decide) (fun _ => rfl) (fun _ => rfl) (fun _ => rfl) (fun _ => rfl) rfl rfl rfl (fun r10 u11 hw => ?_)
    obtain ⟨w12, hw12⟩ : ∃ z : Mem, z = u11 := ⟨_, rfl⟩
    rw [← hw12] at hw
    rw [← hw12]
    exact g_iret X w12 hw rfl (Nat.le_of_ble_eq_true rfl) (Nat.le_of_ble_eq_true rfl) dX8_child_18

abbrev rmX8_middle : Room := { frames := 2, cells := 0, slots := 0, locals := 45 }

abbrev GX8_middle (l : Launch) (D : va_G) (ct : Nat → ClassId) (a : Nat → Nat) (w : Mem) (hs : Int64) (post : Int32 → Prop) (p : Program) (e : Env) (s : State) (m : MethodId) (args : Array Value) (below : List Frame) (meth : Method) (c : Code) (A : Nat → Prop) (w9 : va_W) (lv : List (Nat × Value)) (pc : Nat) (st : List Value) : Prop :=
  GG p l e rmX8_middle s m args below meth c D A s.heap 2 (MQ below (va_Qi (fun r (_ : Unit) => post r) (fun u9 t9 => Af D (tyz ct) A ((fun _ => wM ct a w hs) u9) t9) A)  args s 0 0 A) w9 0 0 lv pc st

set_option maxHeartbeats 4000000 in
set_option maxRecDepth 20000 in
theorem kX8_middle (l : Launch) (D : va_G) (ct : Nat → ClassId) (a : Nat → Nat) (w : Mem) (hs : Int64) (p1 : Int32) (post : Int32 → Prop) (hw : PX8_middle w hs p1 post) : Ci (S := Unit) l yX8_middle wsX8_middle rmX8_middle D (tyz ct) [.ref (a 0), .int p1] (wM ct a w hs) (fun r (_ : Unit) => post r) (fun _ => wM ct a w hs) 0 0 := by
  intro sz
  refine g_of (own := RX8) (by decide) rfl rfl (Nat.le_of_ble_eq_true rfl) [(0, .ref (a 0)), (1, .int p1)] rfl (fun p e s m args below meth c hsz X => ?_)
  subst hsz
  unfold PX8_middle at hw
  refine g_aload_n X 0 dX8_middle_0 rfl rfl ?_
  refine g_aload_n X 0 dX8_middle_1 rfl rfl ?_
  refine g_iload_n X 1 dX8_middle_2 rfl rfl ?_
  refine g_ciV X [wM ct a w hs] (fun (_ : Unit) => [wM ct a w hs]) (fun _ => wM ct a w hs) 1 [0] [] 0 (kX8_one l D ct a w hs p1 _ hw) (cwV 1 X.1.2.2.2.2 gX8_middle_X8_one rfl rfl rfl (by decide +kernel) ⟨Nat.le_of_ble_eq_true rfl, Nat.le_of_ble_eq_true rfl⟩) dX8_middle_3 rfl rfl (Nat.le_of_ble_eq_true rfl) ⟨Nat.le_of_ble_eq_true rfl, Nat.le_of_ble_eq_true rfl⟩ rfl rfl rfl (by decide) (fun _ => rfl) (fun _ => rfl) (fun _ => rfl) (fun _ => rfl) rfl rfl rfl (fun r1 _ hw => ?_)
  refine g_ciV X [wM ct a w hs] (fun (_ : Unit) => [wM ct a w hs]) (fun _ => wM ct a w hs) 1 [0] [] 0 (kX8_placeOf l D ct a w hs r1 _ hw) (cwV 1 X.1.2.2.2.2 gX8_middle_X8_placeOf rfl rfl rfl (by decide +kernel) ⟨Nat.le_of_ble_eq_true rfl, Nat.le_of_ble_eq_true rfl⟩) dX8_middle_6 rfl rfl (Nat.le_of_ble_eq_true rfl) ⟨Nat.le_of_ble_eq_true rfl, Nat.le_of_ble_eq_true rfl⟩ rfl rfl rfl (by decide) (fun _ => rfl) (fun _ => rfl) (fun _ => rfl) (fun _ => rfl) rfl rfl rfl (fun r3 _ hw => ?_)
  refine g_aload_n X 0 dX8_middle_9 rfl rfl ?_
  refine g_aload_n X 0 dX8_middle_10 rfl rfl ?_
  refine g_iload_n X 1 dX8_middle_11 rfl rfl ?_
  refine g_ciV X [wM ct a w hs] (fun (_ : Unit) => [wM ct a w hs]) (fun _ => wM ct a w hs) 1 [0] [] 0 (kX8_other l D ct a w hs p1 _ hw) (cwV 1 X.1.2.2.2.2 gX8_middle_X8_other rfl rfl rfl (by decide +kernel) ⟨Nat.le_of_ble_eq_true rfl, Nat.le_of_ble_eq_true rfl⟩) dX8_middle_12 rfl rfl (Nat.le_of_ble_eq_true rfl) ⟨Nat.le_of_ble_eq_true rfl, Nat.le_of_ble_eq_true rfl⟩ rfl rfl rfl (by decide) (fun _ => rfl) (fun _ => rfl) (fun _ => rfl) (fun _ => rfl) rfl rfl rfl (fun r5 _ hw => ?_)
  refine g_ciV X [wM ct a w hs] (fun (_ : Unit) => [wM ct a w hs]) (fun _ => wM ct a w hs) 1 [0] [] 0 (kX8_placeOf l D ct a w hs r5 _ hw) (cwV 1 X.1.2.2.2.2 gX8_middle_X8_placeOf rfl rfl rfl (by decide +kernel) ⟨Nat.le_of_ble_eq_true rfl, Nat.le_of_ble_eq_true rfl⟩) dX8_middle_15 rfl rfl (Nat.le_of_ble_eq_true rfl) ⟨Nat.le_of_ble_eq_true rfl, Nat.le_of_ble_eq_true rfl⟩ rfl rfl rfl (by decide) (fun _ => rfl) (fun _ => rfl) (fun _ => rfl) (fun _ => rfl) rfl rfl rfl (fun r7 _ hw => ?_)
  refine g_iadd X dX8_middle_18 ?_
  exact g_iret X () hw rfl (Nat.le_of_ble_eq_true rfl) (Nat.le_of_ble_eq_true rfl) dX8_middle_19

abbrev rmX8_draw : Room := { frames := 3, cells := 0, slots := 0, locals := 66 }

abbrev GX8_draw (l : Launch) (D : va_G) (ct : Nat → ClassId) (a : Nat → Nat) (hs : Int64) (post : Mem → Prop) (p : Program) (e : Env) (s : State) (m : MethodId) (args : Array Value) (below : List Frame) (meth : Method) (c : Code) (A : Nat → Prop) (w9 : va_W) (lv : List (Nat × Value)) (pc : Nat) (st : List Value) : Prop :=
  GG p l e rmX8_draw s m args below meth c D A s.heap 4 (MQ below (va_Qv (fun (u9 : Mem) => post u9) (fun u9 t9 => Af D (tyz ct) A ((fun u9 => wM ct a u9 hs) u9) t9) A)  args s 0 0 A) w9 0 0 lv pc st

set_option maxHeartbeats 4000000 in
set_option maxRecDepth 20000 in
theorem kX8_draw_7 (l : Launch) (D : va_G) (ct : Nat → ClassId) (a : Nat → Nat) (hs : Int64) (post : Mem → Prop) {p : Program} {e : Env} {s : State} {m : MethodId} {args : Array Value} {below : List Frame} {meth : Method} {c : Code} {A : Nat → Prop} (X : Cx p s m args meth c cX8_draw 4 RX8 wsX8_draw D (tyz ct) A s.heap none)  :
    ∀ (n : Nat) (w : Mem) (x1 : Int32) (x2 : Int32), PX8_draw_7 hs post n w x1 x2 → GX8_draw l D ct a hs post p e s m args below meth c A (wM ct a w hs) [(0, .ref (a 0)), (1, .int x1), (2, .int x2)] 7 [] := by
  intro n
  induction n with
  | zero =>
    intro w x1 x2 hw
    exact hw.elim
  | succ n ih =>
    intro w x1 x2 hw
    unfold PX8_draw_7 at hw
    refine g_iload_n X 2 dX8_draw_7 rfl rfl ?_
    refine g_aload_n X 0 dX8_draw_8 rfl rfl ?_
    refine g_get (T := TX8) (C := RX8) (N := 21) (v := .ref (a 1)) X 0 0 (fun _ h => (List.mem_cons_of_mem _ (List.mem_append_right _ h))) (List.mem_of_getElem? (i := 2) rfl) dX8_draw_9 rfl rfl (by decide) rfl rfl ?_
    refine g_bipush (v := 63) X rfl dX8_draw_12 ?_
    refine g_iload_n X 1 dX8_draw_14 rfl rfl ?_
    refine g_iadd X dX8_draw_15 ?_
    obtain ⟨h2, hw⟩ := hw
    refine g_iald X 1 0 dX8_draw_16 rfl rfl h2 ?_
    refine g_icmp_ge X 76 dX8_draw_17 (by decide) (fun c3 => ?_) (fun c3 => ?_)
    · replace hw := hw.1 c3
      exact g_vret X w hw rfl (Nat.le_of_ble_eq_true rfl) (Nat.le_of_ble_eq_true rfl) dX8_draw_76
    · replace hw := hw.2 c3
      refine g_aload_n X 0 dX8_draw_20 rfl rfl ?_
      refine g_aload_n X 0 dX8_draw_21 rfl rfl ?_
      refine g_iload_n X 1 dX8_draw_22 rfl rfl ?_
      refine g_iload_n X 2 dX8_draw_23 rfl rfl ?_
      refine g_ciV X [wM ct a w hs] (fun (_ : Unit) => [wM ct a w hs]) (fun _ => wM ct a w hs) 1 [0] [] 0 (kX8_whoIs l D ct a w hs x1 x2 _ hw) (cwV 2 X.1.2.2.2.2 gX8_draw_X8_whoIs rfl rfl rfl (by decide +kernel) ⟨Nat.le_of_ble_eq_true rfl, Nat.le_of_ble_eq_true rfl⟩) dX8_draw_24 rfl rfl (Nat.le_of_ble_eq_true rfl) ⟨Nat.le_of_ble_eq_true rfl, Nat.le_of_ble_eq_true rfl⟩ rfl rfl rfl (by decide) (fun _ => rfl) (fun _ => rfl) (fun _ => rfl) (fun _ => rfl) rfl rfl rfl (fun r4 _ hw => ?_)
      refine g_ciV X [wM ct a w hs] (fun (_ : Unit) => [wM ct a w hs]) (fun _ => wM ct a w hs) 1 [0] [] 0 (kX8_parentsOf l D ct a w hs r4 _ hw) (cwV 1 X.1.2.2.2.2 gX8_draw_X8_parentsOf rfl rfl rfl (by decide +kernel) ⟨Nat.le_of_ble_eq_true rfl, Nat.le_of_ble_eq_true rfl⟩) dX8_draw_27 rfl rfl (Nat.le_of_ble_eq_true rfl) ⟨Nat.le_of_ble_eq_true rfl, Nat.le_of_ble_eq_true rfl⟩ rfl rfl rfl (by decide) (fun _ => rfl) (fun _ => rfl) (fun _ => rfl) (fun _ => rfl) rfl rfl rfl (fun r6 _ hw => ?_)
      refine g_istore_n X [(3, .int r6), (0, .ref (a 0)), (1, .int x1), (2, .int x2)] dX8_draw_30 rfl (by decide) rfl ?_
      refine g_iload_n X 0 dX8_draw_31 rfl rfl ?_
      refine g_iconst (v := (-1)) X rfl dX8_draw_32 ?_
      refine g_icmp_eq X 70 dX8_draw_33 (by decide) (fun c8 => ?_) (fun c8 => ?_)
      · replace hw := hw.1 c8
        refine g_iinc X [(2, .int (x2 + 1)), (3, .int r6), (0, .ref (a 0)), (1, .int x1)] 3 dX8_draw_70 rfl rfl (by decide) rfl ?_
        refine g_goto X 7 dX8_draw_73 (by decide) ?_
        refine g_sub [(0, .ref (a 0)), (1, .int x1), (2, .int (x2 + 1))] [2, 3, 0] rfl ?_
        exact ih _ _ _ hw
      · replace hw := hw.2 c8
        refine g_aload_n X 1 dX8_draw_36 rfl rfl ?_
        refine g_get (T := TX8) (C := RX8) (N := 21) (v := .ref (a 7)) X 0 6 (fun _ h => (List.mem_cons_of_mem _ (List.mem_append_right _ h))) (List.mem_of_getElem? (i := 3) rfl) dX8_draw_37 rfl rfl (by decide) rfl rfl ?_
        refine g_aload_n X 1 dX8_draw_40 rfl rfl ?_
        refine g_get (T := TX8) (C := RX8) (N := 21) (v := .int (w 8 0)) X 0 8 (fun _ h => (List.mem_cons_of_mem _ (List.mem_append_right _ h))) (List.mem_of_getElem? (i := 1) rfl) dX8_draw_41 rfl rfl (by decide) rfl rfl ?_
        refine g_aload_n X 1 dX8_draw_44 rfl rfl ?_
        refine g_iload_n X 0 dX8_draw_45 rfl rfl ?_
        refine g_ciV X [wM ct a w hs] (fun (_ : Unit) => [wM ct a w hs]) (fun _ => wM ct a w hs) 1 [0] [] 0 (kX8_middle l D ct a w hs r6 _ hw) (cwV 1 X.1.2.2.2.2 gX8_draw_X8_middle rfl rfl rfl (by decide +kernel) ⟨Nat.le_of_ble_eq_true rfl, Nat.le_of_ble_eq_true rfl⟩) dX8_draw_46 rfl rfl (Nat.le_of_ble_eq_true rfl) ⟨Nat.le_of_ble_eq_true rfl, Nat.le_of_ble_eq_true rfl⟩ rfl rfl rfl (by decide) (fun _ => rfl) (fun _ => rfl) (fun _ => rfl) (fun _ => rfl) rfl rfl rfl (fun r9 _ hw => ?_)
        obtain ⟨h11, hw⟩ := hw
        refine g_iast X (fun z => wM ct a z hs) w 6 5 0 dX8_draw_49 rfl rfl h11 rfl (fun w12 hw12 => ?_)
        replace hw := hw w12 hw12
        refine g_aload_n X 1 dX8_draw_50 rfl rfl ?_
        refine g_get (T := TX8) (C := RX8) (N := 21) (v := .ref (a 8)) X 0 7 (fun _ h => (List.mem_cons_of_mem _ (List.mem_append_right _ h))) (List.mem_of_getElem? (i := 4) rfl) dX8_draw_51 rfl rfl (by decide) rfl rfl ?_
        refine g_aload_n X 1 dX8_draw_54 rfl rfl ?_
        refine g_get (T := TX8) (C := RX8) (N := 21) (v := .int (w12 8 0)) X 0 8 (fun _ h => (List.mem_cons_of_mem _ (List.mem_append_right _ h))) (List.mem_of_getElem? (i := 1) rfl) dX8_draw_55 rfl rfl (by decide) rfl rfl ?_
        refine g_iload_n X 3 dX8_draw_58 rfl rfl ?_
        obtain ⟨h13, hw⟩ := hw
        refine g_iast X (fun z => wM ct a z hs) w12 7 6 0 dX8_draw_59 rfl rfl h13 rfl (fun w14 hw14 => ?_)
        replace hw := hw w14 hw14
        refine g_aload_n X 1 dX8_draw_60 rfl rfl ?_
        refine g_dup X dX8_draw_61 rfl ?_
        refine g_get (T := TX8) (C := RX8) (N := 21) (v := .int (w14 8 0)) X 0 8 (fun _ h => (List.mem_cons_of_mem _ (List.mem_append_right _ h))) (List.mem_of_getElem? (i := 1) rfl) dX8_draw_62 rfl rfl (by decide) rfl rfl ?_
        refine g_iconst (v := 1) X rfl dX8_draw_65 ?_
        refine g_iadd X dX8_draw_66 ?_
        refine g_put (T := TX8) (C := RX8) (N := 21) X (fun z => wM ct a z hs) w14 0 8 tyX8 tyX8_ok nmX8 (fun _ h => (List.mem_cons_of_mem _ (List.mem_append_right _ h))) (List.mem_of_getElem? (i := 1) rfl) dX8_draw_67 rfl rfl (by decide) rfl rfl (by decide +kernel) (Nat.le_of_ble_eq_true rfl) rfl (fun w15 hw15 => ?_)
        replace hw := hw w15 hw15
        refine g_iinc X [(2, .int (x2 + 1)), (3, .int r6), (0, .ref (a 0)), (1, .int x1)] 3 dX8_draw_70 rfl rfl (by decide) rfl ?_
        refine g_goto X 7 dX8_draw_73 (by decide) ?_
        refine g_sub [(0, .ref (a 0)), (1, .int x1), (2, .int (x2 + 1))] [2, 3, 0] rfl ?_
        exact ih _ _ _ hw

set_option maxHeartbeats 4000000 in
set_option maxRecDepth 20000 in
theorem kX8_draw (l : Launch) (D : va_G) (ct : Nat → ClassId) (a : Nat → Nat) (w : Mem) (hs : Int64) (p1 : Int32) (post : Mem → Prop) (hw : PX8_draw w hs p1 post) : Cv (S := Mem) l yX8_draw wsX8_draw rmX8_draw D (tyz ct) [.ref (a 0), .int p1] (wM ct a w hs) (fun (u9 : Mem) => post u9) (fun u9 => wM ct a u9 hs) 0 0 := by
  intro sz
  refine g_of (own := RX8) (by decide) rfl rfl (Nat.le_of_ble_eq_true rfl) [(0, .ref (a 0)), (1, .int p1)] rfl (fun p e s m args below meth c hsz X => ?_)
  subst hsz
  unfold PX8_draw at hw
  refine g_aload_n X 0 dX8_draw_0 rfl rfl ?_
  refine g_iconst (v := 0) X rfl dX8_draw_1 ?_
  refine g_put (T := TX8) (C := RX8) (N := 21) X (fun z => wM ct a z hs) w 0 8 tyX8 tyX8_ok nmX8 (fun _ h => (List.mem_cons_of_mem _ (List.mem_append_right _ h))) (List.mem_of_getElem? (i := 1) rfl) dX8_draw_2 rfl rfl (by decide) rfl rfl (by decide +kernel) (Nat.le_of_ble_eq_true rfl) rfl (fun w1 hw1 => ?_)
  replace hw := hw w1 hw1
  refine g_iconst (v := 0) X rfl dX8_draw_5 ?_
  refine g_istore_n X [(2, .int 0), (0, .ref (a 0)), (1, .int p1)] dX8_draw_6 rfl (by decide) rfl ?_
  refine g_sub [(0, .ref (a 0)), (1, .int p1), (2, .int 0)] [1, 2, 0] rfl ?_
  obtain ⟨n16, hw⟩ := hw
  exact kX8_draw_7 l D ct a hs post X n16 _ _ _ hw

abbrev rmX8_crossingsTo : Room := { frames := 4, cells := 0, slots := 0, locals := 89 }

abbrev GX8_crossingsTo (l : Launch) (D : va_G) (ct : Nat → ClassId) (a : Nat → Nat) (hs : Int64) (post : Int32 → Mem → Prop) (p : Program) (e : Env) (s : State) (m : MethodId) (args : Array Value) (below : List Frame) (meth : Method) (c : Code) (A : Nat → Prop) (w9 : va_W) (lv : List (Nat × Value)) (pc : Nat) (st : List Value) : Prop :=
  GG p l e rmX8_crossingsTo s m args below meth c D A s.heap 5 (MQ below (va_Qi (fun r (u9 : Mem) => post r u9) (fun u9 t9 => Af D (tyz ct) A ((fun u9 => wM ct a u9 hs) u9) t9) A)  args s 0 0 A) w9 0 0 lv pc st

set_option maxHeartbeats 4000000 in
set_option maxRecDepth 20000 in
theorem kX8_crossingsTo_20 (l : Launch) (D : va_G) (ct : Nat → ClassId) (a : Nat → Nat) (hs : Int64) (post : Int32 → Mem → Prop) (K9 : Mem → Int32 → Int32 → Prop) {p : Program} {e : Env} {s : State} {m : MethodId} {args : Array Value} {below : List Frame} {meth : Method} {c : Code} {A : Nat → Prop} (X : Cx p s m args meth c cX8_crossingsTo 5 RX8 wsX8_crossingsTo D (tyz ct) A s.heap (some .int)) (hK9 : ∀ (w : Mem) (x2 : Int32) (x3 : Int32), K9 w x2 x3 → GX8_crossingsTo l D ct a hs post p e s m args below meth c A (wM ct a w hs) [(0, .ref (a 0)), (2, .int x2), (3, .int x3)] 9 []) :
    ∀ (n : Nat) (w : Mem) (x2 : Int32) (x3 : Int32) (x4 : Int32), PX8_crossingsTo_20 hs post K9 n w x2 x3 x4 → GX8_crossingsTo l D ct a hs post p e s m args below meth c A (wM ct a w hs) [(0, .ref (a 0)), (2, .int x2), (3, .int x3), (4, .int x4)] 20 [] := by
  intro n
  induction n with
  | zero =>
    intro w x2 x3 x4 hw
    exact hw.elim
  | succ n ih =>
    intro w x2 x3 x4 hw
    unfold PX8_crossingsTo_20 at hw
    refine g_iload X 3 dX8_crossingsTo_20 rfl ?_
    refine g_aload_n X 0 dX8_crossingsTo_22 rfl rfl ?_
    refine g_get (T := TX8) (C := RX8) (N := 21) (v := .int (w 8 0)) X 0 8 (fun _ h => (List.mem_cons_of_mem _ (List.mem_append_right _ h))) (List.mem_of_getElem? (i := 1) rfl) dX8_crossingsTo_23 rfl rfl (by decide) rfl rfl ?_
    refine g_icmp_ge X 75 dX8_crossingsTo_26 (by decide) (fun c4 => ?_) (fun c4 => ?_)
    · replace hw := hw.1 c4
      refine g_iinc X [(3, .int (x3 + 1)), (0, .ref (a 0)), (2, .int x2), (4, .int x4)] 2 dX8_crossingsTo_75 rfl rfl (by decide) rfl ?_
      refine g_goto X 9 dX8_crossingsTo_78 (by decide) ?_
      refine g_sub [(0, .ref (a 0)), (2, .int x2), (3, .int (x3 + 1))] [1, 2, 0] rfl ?_
      exact hK9 _ _ _ hw
    · replace hw := hw.2 c4
      refine g_iload_n X 1 dX8_crossingsTo_29 rfl rfl ?_
      refine g_aload_n X 0 dX8_crossingsTo_30 rfl rfl ?_
      refine g_get (T := TX8) (C := RX8) (N := 21) (v := .ref (a 7)) X 0 6 (fun _ h => (List.mem_cons_of_mem _ (List.mem_append_right _ h))) (List.mem_of_getElem? (i := 2) rfl) dX8_crossingsTo_31 rfl rfl (by decide) rfl rfl ?_
      refine g_iload_n X 2 dX8_crossingsTo_34 rfl rfl ?_
      obtain ⟨h5, hw⟩ := hw
      refine g_iald X 5 0 dX8_crossingsTo_35 rfl rfl h5 ?_
      refine g_aload_n X 0 dX8_crossingsTo_36 rfl rfl ?_
      refine g_get (T := TX8) (C := RX8) (N := 21) (v := .ref (a 7)) X 0 6 (fun _ h => (List.mem_cons_of_mem _ (List.mem_append_right _ h))) (List.mem_of_getElem? (i := 2) rfl) dX8_crossingsTo_37 rfl rfl (by decide) rfl rfl ?_
      refine g_iload X 3 dX8_crossingsTo_40 rfl ?_
      obtain ⟨h6, hw⟩ := hw
      refine g_iald X 5 0 dX8_crossingsTo_42 rfl rfl h6 ?_
      refine g_icmp_ge X 66 dX8_crossingsTo_43 (by decide) (fun c7 => ?_) (fun c7 => ?_)
      · replace hw := hw.1 c7
        refine g_iconst (v := 0) X rfl dX8_crossingsTo_66 ?_
        refine g_iadd X dX8_crossingsTo_67 ?_
        refine g_topi (fun q8 hq8 => ?_)
        replace hw := hw q8 hq8
        refine g_istore_n X [(2, .int q8), (0, .ref (a 0)), (3, .int x3), (4, .int x4)] dX8_crossingsTo_68 rfl (by decide) rfl ?_
        refine g_iinc X [(4, .int (x4 + 1)), (2, .int q8), (0, .ref (a 0)), (3, .int x3)] 3 dX8_crossingsTo_69 rfl rfl (by decide) rfl ?_
        refine g_goto X 20 dX8_crossingsTo_72 (by decide) ?_
        refine g_sub [(0, .ref (a 0)), (2, .int q8), (3, .int x3), (4, .int (x4 + 1))] [2, 1, 3, 0] rfl ?_
        exact ih _ _ _ _ hw
      · replace hw := hw.2 c7
        refine g_aload_n X 0 dX8_crossingsTo_46 rfl rfl ?_
        refine g_get (T := TX8) (C := RX8) (N := 21) (v := .ref (a 8)) X 0 7 (fun _ h => (List.mem_cons_of_mem _ (List.mem_append_right _ h))) (List.mem_of_getElem? (i := 3) rfl) dX8_crossingsTo_47 rfl rfl (by decide) rfl rfl ?_
        refine g_iload_n X 2 dX8_crossingsTo_50 rfl rfl ?_
        obtain ⟨h9, hw⟩ := hw
        refine g_iald X 6 0 dX8_crossingsTo_51 rfl rfl h9 ?_
        refine g_aload_n X 0 dX8_crossingsTo_52 rfl rfl ?_
        refine g_get (T := TX8) (C := RX8) (N := 21) (v := .ref (a 8)) X 0 7 (fun _ h => (List.mem_cons_of_mem _ (List.mem_append_right _ h))) (List.mem_of_getElem? (i := 3) rfl) dX8_crossingsTo_53 rfl rfl (by decide) rfl rfl ?_
        refine g_iload X 3 dX8_crossingsTo_56 rfl ?_
        obtain ⟨h10, hw⟩ := hw
        refine g_iald X 6 0 dX8_crossingsTo_58 rfl rfl h10 ?_
        refine g_icmp_le X 66 dX8_crossingsTo_59 (by decide) (fun c11 => ?_) (fun c11 => ?_)
        · replace hw := hw.1 c11
          refine g_iconst (v := 0) X rfl dX8_crossingsTo_66 ?_
          refine g_iadd X dX8_crossingsTo_67 ?_
          refine g_topi (fun q12 hq12 => ?_)
          replace hw := hw q12 hq12
          refine g_istore_n X [(2, .int q12), (0, .ref (a 0)), (3, .int x3), (4, .int x4)] dX8_crossingsTo_68 rfl (by decide) rfl ?_
          refine g_iinc X [(4, .int (x4 + 1)), (2, .int q12), (0, .ref (a 0)), (3, .int x3)] 3 dX8_crossingsTo_69 rfl rfl (by decide) rfl ?_
          refine g_goto X 20 dX8_crossingsTo_72 (by decide) ?_
          refine g_sub [(0, .ref (a 0)), (2, .int q12), (3, .int x3), (4, .int (x4 + 1))] [2, 1, 3, 0] rfl ?_
          exact ih _ _ _ _ hw
        · replace hw := hw.2 c11
          refine g_iconst (v := 1) X rfl dX8_crossingsTo_62 ?_
          refine g_goto X 67 dX8_crossingsTo_63 (by decide) ?_
          refine g_iadd X dX8_crossingsTo_67 ?_
          refine g_topi (fun q13 hq13 => ?_)
          replace hw := hw q13 hq13
          refine g_istore_n X [(2, .int q13), (0, .ref (a 0)), (3, .int x3), (4, .int x4)] dX8_crossingsTo_68 rfl (by decide) rfl ?_
          refine g_iinc X [(4, .int (x4 + 1)), (2, .int q13), (0, .ref (a 0)), (3, .int x3)] 3 dX8_crossingsTo_69 rfl rfl (by decide) rfl ?_
          refine g_goto X 20 dX8_crossingsTo_72 (by decide) ?_
          refine g_sub [(0, .ref (a 0)), (2, .int q13), (3, .int x3), (4, .int (x4 + 1))] [2, 1, 3, 0] rfl ?_
          exact ih _ _ _ _ hw

set_option maxHeartbeats 4000000 in
set_option maxRecDepth 20000 in
theorem kX8_crossingsTo_9 (l : Launch) (D : va_G) (ct : Nat → ClassId) (a : Nat → Nat) (hs : Int64) (post : Int32 → Mem → Prop) {p : Program} {e : Env} {s : State} {m : MethodId} {args : Array Value} {below : List Frame} {meth : Method} {c : Code} {A : Nat → Prop} (X : Cx p s m args meth c cX8_crossingsTo 5 RX8 wsX8_crossingsTo D (tyz ct) A s.heap (some .int))  :
    ∀ (n : Nat) (w : Mem) (x2 : Int32) (x3 : Int32), PX8_crossingsTo_9 hs post n w x2 x3 → GX8_crossingsTo l D ct a hs post p e s m args below meth c A (wM ct a w hs) [(0, .ref (a 0)), (2, .int x2), (3, .int x3)] 9 [] := by
  intro n
  induction n with
  | zero =>
    intro w x2 x3 hw
    exact hw.elim
  | succ n ih =>
    intro w x2 x3 hw
    unfold PX8_crossingsTo_9 at hw
    refine g_iload_n X 2 dX8_crossingsTo_9 rfl rfl ?_
    refine g_aload_n X 0 dX8_crossingsTo_10 rfl rfl ?_
    refine g_get (T := TX8) (C := RX8) (N := 21) (v := .int (w 8 0)) X 0 8 (fun _ h => (List.mem_cons_of_mem _ (List.mem_append_right _ h))) (List.mem_of_getElem? (i := 1) rfl) dX8_crossingsTo_11 rfl rfl (by decide) rfl rfl ?_
    refine g_icmp_ge X 81 dX8_crossingsTo_14 (by decide) (fun c3 => ?_) (fun c3 => ?_)
    · replace hw := hw.1 c3
      refine g_iload_n X 1 dX8_crossingsTo_81 rfl rfl ?_
      exact g_iret X w hw rfl (Nat.le_of_ble_eq_true rfl) (Nat.le_of_ble_eq_true rfl) dX8_crossingsTo_82
    · replace hw := hw.2 c3
      refine g_iconst (v := 0) X rfl dX8_crossingsTo_17 ?_
      refine g_istore X [(4, .int 0), (0, .ref (a 0)), (2, .int x2), (3, .int x3)] dX8_crossingsTo_18 (by decide) rfl ?_
      refine g_sub [(0, .ref (a 0)), (2, .int x2), (3, .int x3), (4, .int 0)] [1, 2, 3, 0] rfl ?_
      obtain ⟨n14, hw⟩ := hw
      exact kX8_crossingsTo_20 l D ct a hs post _ X ih n14 _ _ _ _ hw

set_option maxHeartbeats 4000000 in
set_option maxRecDepth 20000 in
theorem kX8_crossingsTo (l : Launch) (D : va_G) (ct : Nat → ClassId) (a : Nat → Nat) (w : Mem) (hs : Int64) (p1 : Int32) (post : Int32 → Mem → Prop) (hw : PX8_crossingsTo w hs p1 post) : Ci (S := Mem) l yX8_crossingsTo wsX8_crossingsTo rmX8_crossingsTo D (tyz ct) [.ref (a 0), .int p1] (wM ct a w hs) (fun r (u9 : Mem) => post r u9) (fun u9 => wM ct a u9 hs) 0 0 := by
  intro sz
  refine g_of (own := RX8) (by decide) rfl rfl (Nat.le_of_ble_eq_true rfl) [(0, .ref (a 0)), (1, .int p1)] rfl (fun p e s m args below meth c hsz X => ?_)
  subst hsz
  unfold PX8_crossingsTo at hw
  refine g_aload_n X 0 dX8_crossingsTo_0 rfl rfl ?_
  refine g_iload_n X 1 dX8_crossingsTo_1 rfl rfl ?_
  refine g_cvV X [wM ct a w hs] (fun (u1 : Mem) => [wM ct a u1 hs]) (fun (u1 : Mem) => wM ct a u1 hs) 1 [0] [] 0 (kX8_draw l D ct a w hs p1 _ hw) (cwV 1 X.1.2.2.2.2 gX8_crossingsTo_X8_draw rfl rfl rfl (by decide +kernel) ⟨Nat.le_of_ble_eq_true rfl, Nat.le_of_ble_eq_true rfl⟩) dX8_crossingsTo_2 rfl rfl (Nat.le_of_ble_eq_true rfl) ⟨Nat.le_of_ble_eq_true rfl, Nat.le_of_ble_eq_true rfl⟩ rfl rfl rfl (by decide) (fun _ => rfl) (fun _ => rfl) (fun _ => rfl) (fun _ => rfl) rfl rfl rfl (fun u1 hw => ?_)
  obtain ⟨w2, hw2⟩ : ∃ z : Mem, z = u1 := ⟨_, rfl⟩
  rw [← hw2] at hw
  rw [← hw2]
  refine g_iconst (v := 0) X rfl dX8_crossingsTo_5 ?_
  refine g_istore_n X [(2, .int 0), (0, .ref (a 0)), (1, .int p1)] dX8_crossingsTo_6 rfl (by decide) rfl ?_
  refine g_iconst (v := 0) X rfl dX8_crossingsTo_7 ?_
  refine g_istore_n X [(3, .int 0), (2, .int 0), (0, .ref (a 0)), (1, .int p1)] dX8_crossingsTo_8 rfl (by decide) rfl ?_
  refine g_sub [(0, .ref (a 0)), (2, .int 0), (3, .int 0)] [2, 1, 0] rfl ?_
  obtain ⟨n15, hw⟩ := hw
  exact kX8_crossingsTo_9 l D ct a hs post X n15 _ _ _ hw

abbrev rmX8_allCrossings : Room := { frames := 5, cells := 0, slots := 0, locals := 113 }

abbrev GX8_allCrossings (l : Launch) (D : va_G) (ct : Nat → ClassId) (a : Nat → Nat) (hs : Int64) (post : Int32 → Mem → Prop) (p : Program) (e : Env) (s : State) (m : MethodId) (args : Array Value) (below : List Frame) (meth : Method) (c : Code) (A : Nat → Prop) (w9 : va_W) (lv : List (Nat × Value)) (pc : Nat) (st : List Value) : Prop :=
  GG p l e rmX8_allCrossings s m args below meth c D A s.heap 1 (MQ below (va_Qi (fun r (u9 : Mem) => post r u9) (fun u9 t9 => Af D (tyz ct) A ((fun u9 => wM ct a u9 hs) u9) t9) A)  args s 0 0 A) w9 0 0 lv pc st

set_option maxHeartbeats 4000000 in
set_option maxRecDepth 20000 in
theorem kX8_allCrossings (l : Launch) (D : va_G) (ct : Nat → ClassId) (a : Nat → Nat) (w : Mem) (hs : Int64) (post : Int32 → Mem → Prop) (hw : PX8_allCrossings w hs post) : Ci (S := Mem) l yX8_allCrossings wsX8_allCrossings rmX8_allCrossings D (tyz ct) [.ref (a 0)] (wM ct a w hs) (fun r (u9 : Mem) => post r u9) (fun u9 => wM ct a u9 hs) 0 0 := by
  intro sz
  refine g_of (own := RX8) (by decide) rfl rfl (Nat.le_of_ble_eq_true rfl) [(0, .ref (a 0))] rfl (fun p e s m args below meth c hsz X => ?_)
  subst hsz
  unfold PX8_allCrossings at hw
  refine g_aload_n X 0 dX8_allCrossings_0 rfl rfl ?_
  refine g_iconst (v := 0) X rfl dX8_allCrossings_1 ?_
  refine g_ciV X [wM ct a w hs] (fun (u2 : Mem) => [wM ct a u2 hs]) (fun (u2 : Mem) => wM ct a u2 hs) 1 [0] [] 0 (kX8_crossingsTo l D ct a w hs 0 _ hw) (cwV 1 X.1.2.2.2.2 gX8_allCrossings_X8_crossingsTo rfl rfl rfl (by decide +kernel) ⟨Nat.le_of_ble_eq_true rfl, Nat.le_of_ble_eq_true rfl⟩) dX8_allCrossings_2 rfl rfl (Nat.le_of_ble_eq_true rfl) ⟨Nat.le_of_ble_eq_true rfl, Nat.le_of_ble_eq_true rfl⟩ rfl rfl rfl (by decide) (fun _ => rfl) (fun _ => rfl) (fun _ => rfl) (fun _ => rfl) rfl rfl rfl (fun r1 u2 hw => ?_)
  obtain ⟨w3, hw3⟩ : ∃ z : Mem, z = u2 := ⟨_, rfl⟩
  rw [← hw3] at hw
  rw [← hw3]
  refine g_aload_n X 0 dX8_allCrossings_5 rfl rfl ?_
  refine g_iconst (v := 1) X rfl dX8_allCrossings_6 ?_
  refine g_ciV X [wM ct a w3 hs] (fun (u5 : Mem) => [wM ct a u5 hs]) (fun (u5 : Mem) => wM ct a u5 hs) 1 [0] [] 0 (kX8_crossingsTo l D ct a w3 hs 1 _ hw) (cwV 1 X.1.2.2.2.2 gX8_allCrossings_X8_crossingsTo rfl rfl rfl (by decide +kernel) ⟨Nat.le_of_ble_eq_true rfl, Nat.le_of_ble_eq_true rfl⟩) dX8_allCrossings_7 rfl rfl (Nat.le_of_ble_eq_true rfl) ⟨Nat.le_of_ble_eq_true rfl, Nat.le_of_ble_eq_true rfl⟩ rfl rfl rfl (by decide) (fun _ => rfl) (fun _ => rfl) (fun _ => rfl) (fun _ => rfl) rfl rfl rfl (fun r4 u5 hw => ?_)
  obtain ⟨w6, hw6⟩ : ∃ z : Mem, z = u5 := ⟨_, rfl⟩
  rw [← hw6] at hw
  rw [← hw6]
  refine g_iadd X dX8_allCrossings_10 ?_
  refine g_aload_n X 0 dX8_allCrossings_11 rfl rfl ?_
  refine g_iconst (v := 2) X rfl dX8_allCrossings_12 ?_
  refine g_ciV X [wM ct a w6 hs] (fun (u8 : Mem) => [wM ct a u8 hs]) (fun (u8 : Mem) => wM ct a u8 hs) 1 [0] [] 0 (kX8_crossingsTo l D ct a w6 hs 2 _ hw) (cwV 1 X.1.2.2.2.2 gX8_allCrossings_X8_crossingsTo rfl rfl rfl (by decide +kernel) ⟨Nat.le_of_ble_eq_true rfl, Nat.le_of_ble_eq_true rfl⟩) dX8_allCrossings_13 rfl rfl (Nat.le_of_ble_eq_true rfl) ⟨Nat.le_of_ble_eq_true rfl, Nat.le_of_ble_eq_true rfl⟩ rfl rfl rfl (by decide) (fun _ => rfl) (fun _ => rfl) (fun _ => rfl) (fun _ => rfl) rfl rfl rfl (fun r7 u8 hw => ?_)
  obtain ⟨w9, hw9⟩ : ∃ z : Mem, z = u8 := ⟨_, rfl⟩
  rw [← hw9] at hw
  rw [← hw9]
  refine g_iadd X dX8_allCrossings_16 ?_
  refine g_aload_n X 0 dX8_allCrossings_17 rfl rfl ?_
  refine g_iconst (v := 3) X rfl dX8_allCrossings_18 ?_
  refine g_ciV X [wM ct a w9 hs] (fun (u11 : Mem) => [wM ct a u11 hs]) (fun (u11 : Mem) => wM ct a u11 hs) 1 [0] [] 0 (kX8_crossingsTo l D ct a w9 hs 3 _ hw) (cwV 1 X.1.2.2.2.2 gX8_allCrossings_X8_crossingsTo rfl rfl rfl (by decide +kernel) ⟨Nat.le_of_ble_eq_true rfl, Nat.le_of_ble_eq_true rfl⟩) dX8_allCrossings_19 rfl rfl (Nat.le_of_ble_eq_true rfl) ⟨Nat.le_of_ble_eq_true rfl, Nat.le_of_ble_eq_true rfl⟩ rfl rfl rfl (by decide) (fun _ => rfl) (fun _ => rfl) (fun _ => rfl) (fun _ => rfl) rfl rfl rfl (fun r10 u11 hw => ?_)
  obtain ⟨w12, hw12⟩ : ∃ z : Mem, z = u11 := ⟨_, rfl⟩
  rw [← hw12] at hw
  rw [← hw12]
  refine g_iadd X dX8_allCrossings_22 ?_
  exact g_iret X w12 hw rfl (Nat.le_of_ble_eq_true rfl) (Nat.le_of_ble_eq_true rfl) dX8_allCrossings_23

abbrev rmX8_crossingsAt : Room := { frames := 5, cells := 0, slots := 0, locals := 113 }

abbrev GX8_crossingsAt (l : Launch) (D : va_G) (ct : Nat → ClassId) (a : Nat → Nat) (hs : Int64) (post : Int32 → Mem → Prop) (p : Program) (e : Env) (s : State) (m : MethodId) (args : Array Value) (below : List Frame) (meth : Method) (c : Code) (A : Nat → Prop) (w9 : va_W) (lv : List (Nat × Value)) (pc : Nat) (st : List Value) : Prop :=
  GG p l e rmX8_crossingsAt s m args below meth c D A s.heap 2 (MQ below (va_Qi (fun r (u9 : Mem) => post r u9) (fun u9 t9 => Af D (tyz ct) A ((fun u9 => wM ct a u9 hs) u9) t9) A)  args s 0 0 A) w9 0 0 lv pc st

set_option maxHeartbeats 4000000 in
set_option maxRecDepth 20000 in
theorem kX8_crossingsAt (l : Launch) (D : va_G) (ct : Nat → ClassId) (a : Nat → Nat) (w : Mem) (hs : Int64) (p1 : Int32) (post : Int32 → Mem → Prop) (hw : PX8_crossingsAt w hs p1 post) : Ci (S := Mem) l yX8_crossingsAt wsX8_crossingsAt rmX8_crossingsAt D (tyz ct) [.ref (a 0), .int p1] (wM ct a w hs) (fun r (u9 : Mem) => post r u9) (fun u9 => wM ct a u9 hs) 0 0 := by
  intro sz
  refine g_of (own := RX8) (by decide) rfl rfl (Nat.le_of_ble_eq_true rfl) [(0, .ref (a 0)), (1, .int p1)] rfl (fun p e s m args below meth c hsz X => ?_)
  subst hsz
  unfold PX8_crossingsAt at hw
  refine g_aload_n X 0 dX8_crossingsAt_0 rfl rfl ?_
  refine g_iload_n X 1 dX8_crossingsAt_1 rfl rfl ?_
  refine g_ciV X [wM ct a w hs] (fun (u2 : Mem) => [wM ct a u2 hs]) (fun (u2 : Mem) => wM ct a u2 hs) 1 [0] [] 0 (kX8_crossingsTo l D ct a w hs p1 _ hw) (cwV 1 X.1.2.2.2.2 gX8_crossingsAt_X8_crossingsTo rfl rfl rfl (by decide +kernel) ⟨Nat.le_of_ble_eq_true rfl, Nat.le_of_ble_eq_true rfl⟩) dX8_crossingsAt_2 rfl rfl (Nat.le_of_ble_eq_true rfl) ⟨Nat.le_of_ble_eq_true rfl, Nat.le_of_ble_eq_true rfl⟩ rfl rfl rfl (by decide) (fun _ => rfl) (fun _ => rfl) (fun _ => rfl) (fun _ => rfl) rfl rfl rfl (fun r1 u2 hw => ?_)
  obtain ⟨w3, hw3⟩ : ∃ z : Mem, z = u2 := ⟨_, rfl⟩
  rw [← hw3] at hw
  rw [← hw3]
  refine g_iload_n X 1 dX8_crossingsAt_5 rfl rfl ?_
  refine g_iconst (v := 3) X rfl dX8_crossingsAt_6 ?_
  refine g_icmp_ge X 20 dX8_crossingsAt_7 (by decide) (fun c4 => ?_) (fun c4 => ?_)
  · replace hw := hw.1 c4
    refine g_iconst (v := 0) X rfl dX8_crossingsAt_20 ?_
    refine g_iadd X dX8_crossingsAt_21 ?_
    exact g_iret X w3 hw rfl (Nat.le_of_ble_eq_true rfl) (Nat.le_of_ble_eq_true rfl) dX8_crossingsAt_22
  · replace hw := hw.2 c4
    refine g_aload_n X 0 dX8_crossingsAt_10 rfl rfl ?_
    refine g_iload_n X 1 dX8_crossingsAt_11 rfl rfl ?_
    refine g_iconst (v := 1) X rfl dX8_crossingsAt_12 ?_
    refine g_iadd X dX8_crossingsAt_13 ?_
    refine g_ciV X [wM ct a w3 hs] (fun (u6 : Mem) => [wM ct a u6 hs]) (fun (u6 : Mem) => wM ct a u6 hs) 1 [0] [] 0 (kX8_crossingsTo l D ct a w3 hs (p1 + 1) _ hw) (cwV 1 X.1.2.2.2.2 gX8_crossingsAt_X8_crossingsTo rfl rfl rfl (by decide +kernel) ⟨Nat.le_of_ble_eq_true rfl, Nat.le_of_ble_eq_true rfl⟩) dX8_crossingsAt_14 rfl rfl (Nat.le_of_ble_eq_true rfl) ⟨Nat.le_of_ble_eq_true rfl, Nat.le_of_ble_eq_true rfl⟩ rfl rfl rfl (by decide) (fun _ => rfl) (fun _ => rfl) (fun _ => rfl) (fun _ => rfl) rfl rfl rfl (fun r5 u6 hw => ?_)
    obtain ⟨w7, hw7⟩ : ∃ z : Mem, z = u6 := ⟨_, rfl⟩
    rw [← hw7] at hw
    rw [← hw7]
    refine g_goto X 21 dX8_crossingsAt_17 (by decide) ?_
    refine g_iadd X dX8_crossingsAt_21 ?_
    exact g_iret X w7 hw rfl (Nat.le_of_ble_eq_true rfl) (Nat.le_of_ble_eq_true rfl) dX8_crossingsAt_22

abbrev rmX8_exchange : Room := { frames := 0, cells := 0, slots := 0, locals := 0 }

abbrev GX8_exchange (l : Launch) (D : va_G) (ct : Nat → ClassId) (a : Nat → Nat) (hs : Int64) (post : Mem → Prop) (p : Program) (e : Env) (s : State) (m : MethodId) (args : Array Value) (below : List Frame) (meth : Method) (c : Code) (A : Nat → Prop) (w9 : va_W) (lv : List (Nat × Value)) (pc : Nat) (st : List Value) : Prop :=
  GG p l e rmX8_exchange s m args below meth c D A s.heap 6 (MQ below (va_Qv (fun (u9 : Mem) => post u9) (fun u9 t9 => Af D (tyz ct) A ((fun u9 => wM ct a u9 hs) u9) t9) A)  args s 0 0 A) w9 0 0 lv pc st

set_option maxHeartbeats 4000000 in
set_option maxRecDepth 20000 in
theorem kX8_exchange (l : Launch) (D : va_G) (ct : Nat → ClassId) (a : Nat → Nat) (w : Mem) (hs : Int64) (p1 : Int32) (p2 : Int32) (p3 : Int32) (post : Mem → Prop) (hw : PX8_exchange w hs p1 p2 p3 post) : Cv (S := Mem) l yX8_exchange wsX8_exchange rmX8_exchange D (tyz ct) [.ref (a 0), .int p1, .int p2, .int p3] (wM ct a w hs) (fun (u9 : Mem) => post u9) (fun u9 => wM ct a u9 hs) 0 0 := by
  intro sz
  refine g_of (own := RX8) (by decide) rfl rfl (Nat.le_of_ble_eq_true rfl) [(0, .ref (a 0)), (1, .int p1), (2, .int p2), (3, .int p3)] rfl (fun p e s m args below meth c hsz X => ?_)
  subst hsz
  unfold PX8_exchange at hw
  refine g_bipush (v := 67) X rfl dX8_exchange_0 ?_
  refine g_bipush (v := 6) X rfl dX8_exchange_2 ?_
  refine g_iload_n X 1 dX8_exchange_4 rfl rfl ?_
  refine g_imul X dX8_exchange_5 ?_
  refine g_iadd X dX8_exchange_6 ?_
  refine g_topi (fun q1 hq1 => ?_)
  replace hw := hw q1 hq1
  refine g_istore X [(4, .int q1), (0, .ref (a 0)), (1, .int p1), (2, .int p2), (3, .int p3)] dX8_exchange_7 (by decide) rfl ?_
  refine g_aload_n X 1 dX8_exchange_9 rfl rfl ?_
  refine g_get (T := TX8) (C := RX8) (N := 21) (v := .ref (a 1)) X 0 0 (fun _ h => (List.mem_cons_of_mem _ (List.mem_append_right _ h))) (List.mem_of_getElem? (i := 1) rfl) dX8_exchange_10 rfl rfl (by decide) rfl rfl ?_
  refine g_iload X 0 dX8_exchange_13 rfl ?_
  refine g_iload_n X 3 dX8_exchange_15 rfl rfl ?_
  refine g_iadd X dX8_exchange_16 ?_
  obtain ⟨h2, hw⟩ := hw
  refine g_iald X 1 0 dX8_exchange_17 rfl rfl h2 ?_
  refine g_topi (fun q3 hq3 => ?_)
  replace hw := hw q3 hq3
  refine g_istore X [(5, .int q3), (4, .int q1), (0, .ref (a 0)), (1, .int p1), (2, .int p2), (3, .int p3)] dX8_exchange_18 (by decide) rfl ?_
  refine g_aload_n X 2 dX8_exchange_20 rfl rfl ?_
  refine g_get (T := TX8) (C := RX8) (N := 21) (v := .ref (a 1)) X 0 0 (fun _ h => (List.mem_cons_of_mem _ (List.mem_append_right _ h))) (List.mem_of_getElem? (i := 1) rfl) dX8_exchange_21 rfl rfl (by decide) rfl rfl ?_
  refine g_iload X 1 dX8_exchange_24 rfl ?_
  refine g_iload_n X 4 dX8_exchange_26 rfl rfl ?_
  refine g_iadd X dX8_exchange_27 ?_
  refine g_aload_n X 2 dX8_exchange_28 rfl rfl ?_
  refine g_get (T := TX8) (C := RX8) (N := 21) (v := .ref (a 1)) X 0 0 (fun _ h => (List.mem_cons_of_mem _ (List.mem_append_right _ h))) (List.mem_of_getElem? (i := 1) rfl) dX8_exchange_29 rfl rfl (by decide) rfl rfl ?_
  refine g_iload X 1 dX8_exchange_32 rfl ?_
  refine g_iload_n X 5 dX8_exchange_34 rfl rfl ?_
  refine g_iadd X dX8_exchange_35 ?_
  obtain ⟨h4, hw⟩ := hw
  refine g_iald X 1 0 dX8_exchange_36 rfl rfl h4 ?_
  obtain ⟨h5, hw⟩ := hw
  refine g_iast X (fun z => wM ct a z hs) w 0 1 0 dX8_exchange_37 rfl rfl h5 rfl (fun w6 hw6 => ?_)
  replace hw := hw w6 hw6
  refine g_aload_n X 2 dX8_exchange_38 rfl rfl ?_
  refine g_get (T := TX8) (C := RX8) (N := 21) (v := .ref (a 1)) X 0 0 (fun _ h => (List.mem_cons_of_mem _ (List.mem_append_right _ h))) (List.mem_of_getElem? (i := 1) rfl) dX8_exchange_39 rfl rfl (by decide) rfl rfl ?_
  refine g_iload X 1 dX8_exchange_42 rfl ?_
  refine g_iload_n X 5 dX8_exchange_44 rfl rfl ?_
  refine g_iadd X dX8_exchange_45 ?_
  refine g_iload X 0 dX8_exchange_46 rfl ?_
  obtain ⟨h7, hw⟩ := hw
  refine g_iast X (fun z => wM ct a z hs) w6 0 1 0 dX8_exchange_48 rfl rfl h7 rfl (fun w8 hw8 => ?_)
  replace hw := hw w8 hw8
  exact g_vret X w8 hw rfl (Nat.le_of_ble_eq_true rfl) (Nat.le_of_ble_eq_true rfl) dX8_exchange_49

abbrev rmX8_swap : Room := { frames := 6, cells := 0, slots := 0, locals := 133 }

abbrev GX8_swap (l : Launch) (D : va_G) (ct : Nat → ClassId) (a : Nat → Nat) (hs : Int64) (post : Int32 → Mem → Prop) (p : Program) (e : Env) (s : State) (m : MethodId) (args : Array Value) (below : List Frame) (meth : Method) (c : Code) (A : Nat → Prop) (w9 : va_W) (lv : List (Nat × Value)) (pc : Nat) (st : List Value) : Prop :=
  GG p l e rmX8_swap s m args below meth c D A s.heap 4 (MQ below (va_Qi (fun r (u9 : Mem) => post r u9) (fun u9 t9 => Af D (tyz ct) A ((fun u9 => wM ct a u9 hs) u9) t9) A)  args s 0 0 A) w9 0 0 lv pc st

set_option maxHeartbeats 4000000 in
set_option maxRecDepth 20000 in
theorem kX8_swap (l : Launch) (D : va_G) (ct : Nat → ClassId) (a : Nat → Nat) (w : Mem) (hs : Int64) (p1 : Int32) (p2 : Int32) (post : Int32 → Mem → Prop) (hw : PX8_swap w hs p1 p2 post) : Ci (S := Mem) l yX8_swap wsX8_swap rmX8_swap D (tyz ct) [.ref (a 0), .int p1, .int p2] (wM ct a w hs) (fun r (u9 : Mem) => post r u9) (fun u9 => wM ct a u9 hs) 0 0 := by
  intro sz
  refine g_of (own := RX8) (by decide) rfl rfl (Nat.le_of_ble_eq_true rfl) [(0, .ref (a 0)), (1, .int p1), (2, .int p2)] rfl (fun p e s m args below meth c hsz X => ?_)
  subst hsz
  unfold PX8_swap at hw
  refine g_aload_n X 0 dX8_swap_0 rfl rfl ?_
  refine g_iconst (v := 0) X rfl dX8_swap_1 ?_
  refine g_put (T := TX8) (C := RX8) (N := 21) X (fun z => wM ct a z hs) w 0 5 tyX8 tyX8_ok nmX8 (fun _ h => (List.mem_cons_of_mem _ (List.mem_append_right _ h))) (List.mem_of_getElem? (i := 1) rfl) dX8_swap_2 rfl rfl (by decide) rfl rfl (by decide +kernel) (Nat.le_of_ble_eq_true rfl) rfl (fun w1 hw1 => ?_)
  replace hw := hw w1 hw1
  refine g_iload_n X 1 dX8_swap_5 rfl rfl ?_
  refine g_ciS X [wM ct a w1 hs] (fun (_ : Unit) => [wM ct a w1 hs]) (fun _ => wM ct a w1 hs) 1 [] [0] (kX8_isRow l D ct  p1 _ hw) (va_cwS 1 X.1.2.2.2.2 gX8_swap_X8_isRow rfl rfl rfl (by decide +kernel) ⟨Nat.le_of_ble_eq_true rfl, Nat.le_of_ble_eq_true rfl⟩) dX8_swap_6 rfl rfl (Nat.le_of_ble_eq_true rfl) ⟨Nat.le_of_ble_eq_true rfl, Nat.le_of_ble_eq_true rfl⟩ rfl rfl rfl (by decide) (fun _ => rfl) (fun _ => rfl) (fun _ => rfl) (fun _ => rfl) (fun r2 _ hw => ?_)
  refine g_if_ne X 18 dX8_swap_9 (by decide) (fun c4 => ?_) (fun c4 => ?_)
  · replace hw := hw.1 c4
    refine g_iload_n X 2 dX8_swap_18 rfl rfl ?_
    refine g_iconst (v := 0) X rfl dX8_swap_19 ?_
    refine g_aload_n X 0 dX8_swap_20 rfl rfl ?_
    refine g_get (T := TX8) (C := RX8) (N := 21) (v := .ref (a 1)) X 0 0 (fun _ h => (List.mem_cons_of_mem _ (List.mem_append_right _ h))) (List.mem_of_getElem? (i := 2) rfl) dX8_swap_21 rfl rfl (by decide) rfl rfl ?_
    refine g_bipush (v := 63) X rfl dX8_swap_24 ?_
    refine g_iload_n X 1 dX8_swap_26 rfl rfl ?_
    refine g_iadd X dX8_swap_27 ?_
    obtain ⟨h5, hw⟩ := hw
    refine g_iald X 1 0 dX8_swap_28 rfl rfl h5 ?_
    refine g_iconst (v := 2) X rfl dX8_swap_29 ?_
    refine g_isub X dX8_swap_30 ?_
    refine g_ciS X [wM ct a w1 hs] (fun (_ : Unit) => [wM ct a w1 hs]) (fun _ => wM ct a w1 hs) 1 [] [0] (kX8_in l D ct  p2 0 ((w1 0 (ix (63 + p1))) - 2) _ hw) (va_cwS 3 X.1.2.2.2.2 gX8_swap_X8_in rfl rfl rfl (by decide +kernel) ⟨Nat.le_of_ble_eq_true rfl, Nat.le_of_ble_eq_true rfl⟩) dX8_swap_31 rfl rfl (Nat.le_of_ble_eq_true rfl) ⟨Nat.le_of_ble_eq_true rfl, Nat.le_of_ble_eq_true rfl⟩ rfl rfl rfl (by decide) (fun _ => rfl) (fun _ => rfl) (fun _ => rfl) (fun _ => rfl) (fun r6 _ hw => ?_)
    refine g_if_ne X 43 dX8_swap_34 (by decide) (fun c8 => ?_) (fun c8 => ?_)
    · replace hw := hw.1 c8
      refine g_aload_n X 0 dX8_swap_43 rfl rfl ?_
      refine g_cvV X [wM ct a w1 hs] (fun (u9 : Mem) => [wM ct a u9 hs]) (fun (u9 : Mem) => wM ct a u9 hs) 1 [0] [] 0 (kX8_save l D ct a w1 hs _ hw) (cwV 0 X.1.2.2.2.2 gX8_swap_X8_save rfl rfl rfl (by decide +kernel) ⟨Nat.le_of_ble_eq_true rfl, Nat.le_of_ble_eq_true rfl⟩) dX8_swap_44 rfl rfl (Nat.le_of_ble_eq_true rfl) ⟨Nat.le_of_ble_eq_true rfl, Nat.le_of_ble_eq_true rfl⟩ rfl rfl rfl (by decide) (fun _ => rfl) (fun _ => rfl) (fun _ => rfl) (fun _ => rfl) rfl rfl rfl (fun u9 hw => ?_)
      obtain ⟨w10, hw10⟩ : ∃ z : Mem, z = u9 := ⟨_, rfl⟩
      rw [← hw10] at hw
      rw [← hw10]
      refine g_aload_n X 0 dX8_swap_47 rfl rfl ?_
      refine g_ciV X [wM ct a w10 hs] (fun (u12 : Mem) => [wM ct a u12 hs]) (fun (u12 : Mem) => wM ct a u12 hs) 1 [0] [] 0 (kX8_allCrossings l D ct a w10 hs _ hw) (cwV 0 X.1.2.2.2.2 gX8_swap_X8_allCrossings rfl rfl rfl (by decide +kernel) ⟨Nat.le_of_ble_eq_true rfl, Nat.le_of_ble_eq_true rfl⟩) dX8_swap_48 rfl rfl (Nat.le_of_ble_eq_true rfl) ⟨Nat.le_of_ble_eq_true rfl, Nat.le_of_ble_eq_true rfl⟩ rfl rfl rfl (by decide) (fun _ => rfl) (fun _ => rfl) (fun _ => rfl) (fun _ => rfl) rfl rfl rfl (fun r11 u12 hw => ?_)
      obtain ⟨w13, hw13⟩ : ∃ z : Mem, z = u12 := ⟨_, rfl⟩
      rw [← hw13] at hw
      rw [← hw13]
      refine g_istore_n X [(3, .int r11), (0, .ref (a 0)), (1, .int p1), (2, .int p2)] dX8_swap_51 rfl (by decide) rfl ?_
      refine g_aload_n X 1 dX8_swap_52 rfl rfl ?_
      refine g_iload_n X 2 dX8_swap_53 rfl rfl ?_
      refine g_iload_n X 3 dX8_swap_54 rfl rfl ?_
      refine g_iload_n X 3 dX8_swap_55 rfl rfl ?_
      refine g_iconst (v := 1) X rfl dX8_swap_56 ?_
      refine g_iadd X dX8_swap_57 ?_
      refine g_cvV X [wM ct a w13 hs] (fun (u14 : Mem) => [wM ct a u14 hs]) (fun (u14 : Mem) => wM ct a u14 hs) 1 [0] [] 0 (kX8_exchange l D ct a w13 hs p1 p2 (p2 + 1) _ hw) (cwV 3 X.1.2.2.2.2 gX8_swap_X8_exchange rfl rfl rfl (by decide +kernel) ⟨Nat.le_of_ble_eq_true rfl, Nat.le_of_ble_eq_true rfl⟩) dX8_swap_58 rfl rfl (Nat.le_of_ble_eq_true rfl) ⟨Nat.le_of_ble_eq_true rfl, Nat.le_of_ble_eq_true rfl⟩ rfl rfl rfl (by decide) (fun _ => rfl) (fun _ => rfl) (fun _ => rfl) (fun _ => rfl) rfl rfl rfl (fun u14 hw => ?_)
      obtain ⟨w15, hw15⟩ : ∃ z : Mem, z = u14 := ⟨_, rfl⟩
      rw [← hw15] at hw
      rw [← hw15]
      refine g_aload_n X 1 dX8_swap_61 rfl rfl ?_
      refine g_ciV X [wM ct a w15 hs] (fun (u17 : Mem) => [wM ct a u17 hs]) (fun (u17 : Mem) => wM ct a u17 hs) 1 [0] [] 0 (kX8_allCrossings l D ct a w15 hs _ hw) (cwV 0 X.1.2.2.2.2 gX8_swap_X8_allCrossings rfl rfl rfl (by decide +kernel) ⟨Nat.le_of_ble_eq_true rfl, Nat.le_of_ble_eq_true rfl⟩) dX8_swap_62 rfl rfl (Nat.le_of_ble_eq_true rfl) ⟨Nat.le_of_ble_eq_true rfl, Nat.le_of_ble_eq_true rfl⟩ rfl rfl rfl (by decide) (fun _ => rfl) (fun _ => rfl) (fun _ => rfl) (fun _ => rfl) rfl rfl rfl (fun r16 u17 hw => ?_)
      obtain ⟨w18, hw18⟩ : ∃ z : Mem, z = u17 := ⟨_, rfl⟩
      rw [← hw18] at hw
      rw [← hw18]
      refine g_iload_n X 0 dX8_swap_65 rfl rfl ?_
      refine g_isub X dX8_swap_66 ?_
      refine g_bipush (v := 100) X rfl dX8_swap_67 ?_
      refine g_iadd X dX8_swap_69 ?_
      exact g_iret X w18 hw rfl (Nat.le_of_ble_eq_true rfl) (Nat.le_of_ble_eq_true rfl) dX8_swap_70
    · replace hw := hw.2 c8
      refine g_aload_n X 0 dX8_swap_37 rfl rfl ?_
      refine g_iconst (v := 2) X rfl dX8_swap_38 ?_
      refine g_ciV X [wM ct a w1 hs] (fun (u20 : Mem) => [wM ct a u20 hs]) (fun (u20 : Mem) => wM ct a u20 hs) 1 [0] [] 0 (kX8_fails l D ct a w1 hs 2 _ hw) (cwV 1 X.1.2.2.2.2 gX8_swap_X8_fails rfl rfl rfl (by decide +kernel) ⟨Nat.le_of_ble_eq_true rfl, Nat.le_of_ble_eq_true rfl⟩) dX8_swap_39 rfl rfl (Nat.le_of_ble_eq_true rfl) ⟨Nat.le_of_ble_eq_true rfl, Nat.le_of_ble_eq_true rfl⟩ rfl rfl rfl (by decide) (fun _ => rfl) (fun _ => rfl) (fun _ => rfl) (fun _ => rfl) rfl rfl rfl (fun r19 u20 hw => ?_)
      obtain ⟨w21, hw21⟩ : ∃ z : Mem, z = u20 := ⟨_, rfl⟩
      rw [← hw21] at hw
      rw [← hw21]
      exact g_iret X w21 hw rfl (Nat.le_of_ble_eq_true rfl) (Nat.le_of_ble_eq_true rfl) dX8_swap_42
  · replace hw := hw.2 c4
    refine g_aload_n X 0 dX8_swap_12 rfl rfl ?_
    refine g_iconst (v := 1) X rfl dX8_swap_13 ?_
    refine g_ciV X [wM ct a w1 hs] (fun (u23 : Mem) => [wM ct a u23 hs]) (fun (u23 : Mem) => wM ct a u23 hs) 1 [0] [] 0 (kX8_fails l D ct a w1 hs 1 _ hw) (cwV 1 X.1.2.2.2.2 gX8_swap_X8_fails rfl rfl rfl (by decide +kernel) ⟨Nat.le_of_ble_eq_true rfl, Nat.le_of_ble_eq_true rfl⟩) dX8_swap_14 rfl rfl (Nat.le_of_ble_eq_true rfl) ⟨Nat.le_of_ble_eq_true rfl, Nat.le_of_ble_eq_true rfl⟩ rfl rfl rfl (by decide) (fun _ => rfl) (fun _ => rfl) (fun _ => rfl) (fun _ => rfl) rfl rfl rfl (fun r22 u23 hw => ?_)
    obtain ⟨w24, hw24⟩ : ∃ z : Mem, z = u23 := ⟨_, rfl⟩
    rw [← hw24] at hw
    rw [← hw24]
    exact g_iret X w24 hw rfl (Nat.le_of_ble_eq_true rfl) (Nat.le_of_ble_eq_true rfl) dX8_swap_17

abbrev rmX8_remember : Room := { frames := 1, cells := 0, slots := 0, locals := 22 }

abbrev GX8_remember (l : Launch) (D : va_G) (ct : Nat → ClassId) (a : Nat → Nat) (hs : Int64) (post : Mem → Prop) (p : Program) (e : Env) (s : State) (m : MethodId) (args : Array Value) (below : List Frame) (meth : Method) (c : Code) (A : Nat → Prop) (w9 : va_W) (lv : List (Nat × Value)) (pc : Nat) (st : List Value) : Prop :=
  GG p l e rmX8_remember s m args below meth c D A s.heap 3 (MQ below (va_Qv (fun (u9 : Mem) => post u9) (fun u9 t9 => Af D (tyz ct) A ((fun u9 => wM ct a u9 hs) u9) t9) A)  args s 0 0 A) w9 0 0 lv pc st

set_option maxHeartbeats 4000000 in
set_option maxRecDepth 20000 in
theorem kX8_remember_2 (l : Launch) (D : va_G) (ct : Nat → ClassId) (a : Nat → Nat) (hs : Int64) (post : Mem → Prop) {p : Program} {e : Env} {s : State} {m : MethodId} {args : Array Value} {below : List Frame} {meth : Method} {c : Code} {A : Nat → Prop} (X : Cx p s m args meth c cX8_remember 3 RX8 wsX8_remember D (tyz ct) A s.heap none)  :
    ∀ (n : Nat) (w : Mem) (x1 : Int32) (x2 : Int32), PX8_remember_2 hs post n w x1 x2 → GX8_remember l D ct a hs post p e s m args below meth c A (wM ct a w hs) [(0, .ref (a 0)), (1, .int x1), (2, .int x2)] 2 [] := by
  intro n
  induction n with
  | zero =>
    intro w x1 x2 hw
    exact hw.elim
  | succ n ih =>
    intro w x1 x2 hw
    unfold PX8_remember_2 at hw
    refine g_iload_n X 2 dX8_remember_2 rfl rfl ?_
    refine g_bipush (v := 6) X rfl dX8_remember_3 ?_
    refine g_icmp_ge X 26 dX8_remember_5 (by decide) (fun c1 => ?_) (fun c1 => ?_)
    · replace hw := hw.1 c1
      exact g_vret X w hw rfl (Nat.le_of_ble_eq_true rfl) (Nat.le_of_ble_eq_true rfl) dX8_remember_26
    · replace hw := hw.2 c1
      refine g_aload_n X 0 dX8_remember_8 rfl rfl ?_
      refine g_get (T := TX8) (C := RX8) (N := 21) (v := .ref (a 11)) X 0 10 (fun _ h => (List.mem_cons_of_mem _ (List.mem_append_right _ h))) (List.mem_of_getElem? (i := 1) rfl) dX8_remember_9 rfl rfl (by decide) rfl rfl ?_
      refine g_iload_n X 2 dX8_remember_12 rfl rfl ?_
      refine g_aload_n X 0 dX8_remember_13 rfl rfl ?_
      refine g_iload_n X 1 dX8_remember_14 rfl rfl ?_
      refine g_iload_n X 2 dX8_remember_15 rfl rfl ?_
      refine g_ciV X [wM ct a w hs] (fun (_ : Unit) => [wM ct a w hs]) (fun _ => wM ct a w hs) 1 [0] [] 0 (kX8_whoIs l D ct a w hs x1 x2 _ hw) (cwV 2 X.1.2.2.2.2 gX8_remember_X8_whoIs rfl rfl rfl (by decide +kernel) ⟨Nat.le_of_ble_eq_true rfl, Nat.le_of_ble_eq_true rfl⟩) dX8_remember_16 rfl rfl (Nat.le_of_ble_eq_true rfl) ⟨Nat.le_of_ble_eq_true rfl, Nat.le_of_ble_eq_true rfl⟩ rfl rfl rfl (by decide) (fun _ => rfl) (fun _ => rfl) (fun _ => rfl) (fun _ => rfl) rfl rfl rfl (fun r2 _ hw => ?_)
      obtain ⟨h4, hw⟩ := hw
      refine g_iast X (fun z => wM ct a z hs) w 10 8 0 dX8_remember_19 rfl rfl h4 rfl (fun w5 hw5 => ?_)
      replace hw := hw w5 hw5
      refine g_iinc X [(2, .int (x2 + 1)), (0, .ref (a 0)), (1, .int x1)] 2 dX8_remember_20 rfl rfl (by decide) rfl ?_
      refine g_goto X 2 dX8_remember_23 (by decide) ?_
      refine g_sub [(0, .ref (a 0)), (1, .int x1), (2, .int (x2 + 1))] [1, 2, 0] rfl ?_
      exact ih _ _ _ hw

set_option maxHeartbeats 4000000 in
set_option maxRecDepth 20000 in
theorem kX8_remember (l : Launch) (D : va_G) (ct : Nat → ClassId) (a : Nat → Nat) (w : Mem) (hs : Int64) (p1 : Int32) (post : Mem → Prop) (hw : PX8_remember w hs p1 post) : Cv (S := Mem) l yX8_remember wsX8_remember rmX8_remember D (tyz ct) [.ref (a 0), .int p1] (wM ct a w hs) (fun (u9 : Mem) => post u9) (fun u9 => wM ct a u9 hs) 0 0 := by
  intro sz
  refine g_of (own := RX8) (by decide) rfl rfl (Nat.le_of_ble_eq_true rfl) [(0, .ref (a 0)), (1, .int p1)] rfl (fun p e s m args below meth c hsz X => ?_)
  subst hsz
  unfold PX8_remember at hw
  refine g_iconst (v := 0) X rfl dX8_remember_0 ?_
  refine g_istore_n X [(2, .int 0), (0, .ref (a 0)), (1, .int p1)] dX8_remember_1 rfl (by decide) rfl ?_
  refine g_sub [(0, .ref (a 0)), (1, .int p1), (2, .int 0)] [1, 2, 0] rfl ?_
  obtain ⟨n6, hw⟩ := hw
  exact kX8_remember_2 l D ct a hs post X n6 _ _ _ hw

abbrev rmX8_layBack : Room := { frames := 0, cells := 0, slots := 0, locals := 0 }

abbrev GX8_layBack (l : Launch) (D : va_G) (ct : Nat → ClassId) (a : Nat → Nat) (hs : Int64) (post : Mem → Prop) (p : Program) (e : Env) (s : State) (m : MethodId) (args : Array Value) (below : List Frame) (meth : Method) (c : Code) (A : Nat → Prop) (w9 : va_W) (lv : List (Nat × Value)) (pc : Nat) (st : List Value) : Prop :=
  GG p l e rmX8_layBack s m args below meth c D A s.heap 3 (MQ below (va_Qv (fun (u9 : Mem) => post u9) (fun u9 t9 => Af D (tyz ct) A ((fun u9 => wM ct a u9 hs) u9) t9) A)  args s 0 0 A) w9 0 0 lv pc st

set_option maxHeartbeats 4000000 in
set_option maxRecDepth 20000 in
theorem kX8_layBack_2 (l : Launch) (D : va_G) (ct : Nat → ClassId) (a : Nat → Nat) (hs : Int64) (post : Mem → Prop) {p : Program} {e : Env} {s : State} {m : MethodId} {args : Array Value} {below : List Frame} {meth : Method} {c : Code} {A : Nat → Prop} (X : Cx p s m args meth c cX8_layBack 3 RX8 wsX8_layBack D (tyz ct) A s.heap none)  :
    ∀ (n : Nat) (w : Mem) (x1 : Int32) (x2 : Int32), PX8_layBack_2 hs post n w x1 x2 → GX8_layBack l D ct a hs post p e s m args below meth c A (wM ct a w hs) [(0, .ref (a 0)), (1, .int x1), (2, .int x2)] 2 [] := by
  intro n
  induction n with
  | zero =>
    intro w x1 x2 hw
    exact hw.elim
  | succ n ih =>
    intro w x1 x2 hw
    unfold PX8_layBack_2 at hw
    refine g_iload_n X 2 dX8_layBack_2 rfl rfl ?_
    refine g_bipush (v := 6) X rfl dX8_layBack_3 ?_
    refine g_icmp_ge X 34 dX8_layBack_5 (by decide) (fun c1 => ?_) (fun c1 => ?_)
    · replace hw := hw.1 c1
      exact g_vret X w hw rfl (Nat.le_of_ble_eq_true rfl) (Nat.le_of_ble_eq_true rfl) dX8_layBack_34
    · replace hw := hw.2 c1
      refine g_aload_n X 0 dX8_layBack_8 rfl rfl ?_
      refine g_get (T := TX8) (C := RX8) (N := 21) (v := .ref (a 1)) X 0 0 (fun _ h => (List.mem_cons_of_mem _ (List.mem_append_right _ h))) (List.mem_of_getElem? (i := 1) rfl) dX8_layBack_9 rfl rfl (by decide) rfl rfl ?_
      refine g_bipush (v := 67) X rfl dX8_layBack_12 ?_
      refine g_bipush (v := 6) X rfl dX8_layBack_14 ?_
      refine g_iload_n X 1 dX8_layBack_16 rfl rfl ?_
      refine g_imul X dX8_layBack_17 ?_
      refine g_iadd X dX8_layBack_18 ?_
      refine g_iload_n X 2 dX8_layBack_19 rfl rfl ?_
      refine g_iadd X dX8_layBack_20 ?_
      refine g_aload_n X 0 dX8_layBack_21 rfl rfl ?_
      refine g_get (T := TX8) (C := RX8) (N := 21) (v := .ref (a 11)) X 0 10 (fun _ h => (List.mem_cons_of_mem _ (List.mem_append_right _ h))) (List.mem_of_getElem? (i := 2) rfl) dX8_layBack_22 rfl rfl (by decide) rfl rfl ?_
      refine g_iload_n X 2 dX8_layBack_25 rfl rfl ?_
      obtain ⟨h2, hw⟩ := hw
      refine g_iald X 8 0 dX8_layBack_26 rfl rfl h2 ?_
      obtain ⟨h3, hw⟩ := hw
      refine g_iast X (fun z => wM ct a z hs) w 0 1 0 dX8_layBack_27 rfl rfl h3 rfl (fun w4 hw4 => ?_)
      replace hw := hw w4 hw4
      refine g_iinc X [(2, .int (x2 + 1)), (0, .ref (a 0)), (1, .int x1)] 2 dX8_layBack_28 rfl rfl (by decide) rfl ?_
      refine g_goto X 2 dX8_layBack_31 (by decide) ?_
      refine g_sub [(0, .ref (a 0)), (1, .int x1), (2, .int (x2 + 1))] [1, 2, 0] rfl ?_
      exact ih _ _ _ hw

set_option maxHeartbeats 4000000 in
set_option maxRecDepth 20000 in
theorem kX8_layBack (l : Launch) (D : va_G) (ct : Nat → ClassId) (a : Nat → Nat) (w : Mem) (hs : Int64) (p1 : Int32) (post : Mem → Prop) (hw : PX8_layBack w hs p1 post) : Cv (S := Mem) l yX8_layBack wsX8_layBack rmX8_layBack D (tyz ct) [.ref (a 0), .int p1] (wM ct a w hs) (fun (u9 : Mem) => post u9) (fun u9 => wM ct a u9 hs) 0 0 := by
  intro sz
  refine g_of (own := RX8) (by decide) rfl rfl (Nat.le_of_ble_eq_true rfl) [(0, .ref (a 0)), (1, .int p1)] rfl (fun p e s m args below meth c hsz X => ?_)
  subst hsz
  unfold PX8_layBack at hw
  refine g_iconst (v := 0) X rfl dX8_layBack_0 ?_
  refine g_istore_n X [(2, .int 0), (0, .ref (a 0)), (1, .int p1)] dX8_layBack_1 rfl (by decide) rfl ?_
  refine g_sub [(0, .ref (a 0)), (1, .int p1), (2, .int 0)] [1, 2, 0] rfl ?_
  obtain ⟨n5, hw⟩ := hw
  exact kX8_layBack_2 l D ct a hs post X n5 _ _ _ hw

abbrev rmX8_keyOf : Room := { frames := 3, cells := 0, slots := 0, locals := 66 }

abbrev GX8_keyOf (l : Launch) (D : va_G) (ct : Nat → ClassId) (a : Nat → Nat) (w : Mem) (hs : Int64) (post : Int32 → Prop) (p : Program) (e : Env) (s : State) (m : MethodId) (args : Array Value) (below : List Frame) (meth : Method) (c : Code) (A : Nat → Prop) (w9 : va_W) (lv : List (Nat × Value)) (pc : Nat) (st : List Value) : Prop :=
  GG p l e rmX8_keyOf s m args below meth c D A s.heap 2 (MQ below (va_Qi (fun r (_ : Unit) => post r) (fun u9 t9 => Af D (tyz ct) A ((fun _ => wM ct a w hs) u9) t9) A)  args s 0 0 A) w9 0 0 lv pc st

set_option maxHeartbeats 4000000 in
set_option maxRecDepth 20000 in
theorem kX8_keyOf (l : Launch) (D : va_G) (ct : Nat → ClassId) (a : Nat → Nat) (w : Mem) (hs : Int64) (p1 : Int32) (post : Int32 → Prop) (hw : PX8_keyOf w hs p1 post) : Ci (S := Unit) l yX8_keyOf wsX8_keyOf rmX8_keyOf D (tyz ct) [.ref (a 0), .int p1] (wM ct a w hs) (fun r (_ : Unit) => post r) (fun _ => wM ct a w hs) 0 0 := by
  intro sz
  refine g_of (own := RX8) (by decide) rfl rfl (Nat.le_of_ble_eq_true rfl) [(0, .ref (a 0)), (1, .int p1)] rfl (fun p e s m args below meth c hsz X => ?_)
  subst hsz
  unfold PX8_keyOf at hw
  refine g_aload_n X 0 dX8_keyOf_0 rfl rfl ?_
  refine g_iload_n X 1 dX8_keyOf_1 rfl rfl ?_
  refine g_ciV X [wM ct a w hs] (fun (_ : Unit) => [wM ct a w hs]) (fun _ => wM ct a w hs) 1 [0] [] 0 (kX8_parentsOf l D ct a w hs p1 _ hw) (cwV 1 X.1.2.2.2.2 gX8_keyOf_X8_parentsOf rfl rfl rfl (by decide +kernel) ⟨Nat.le_of_ble_eq_true rfl, Nat.le_of_ble_eq_true rfl⟩) dX8_keyOf_2 rfl rfl (Nat.le_of_ble_eq_true rfl) ⟨Nat.le_of_ble_eq_true rfl, Nat.le_of_ble_eq_true rfl⟩ rfl rfl rfl (by decide) (fun _ => rfl) (fun _ => rfl) (fun _ => rfl) (fun _ => rfl) rfl rfl rfl (fun r1 _ hw => ?_)
  refine g_iconst (v := (-1)) X rfl dX8_keyOf_5 ?_
  refine g_icmp_ne X 15 dX8_keyOf_6 (by decide) (fun c3 => ?_) (fun c3 => ?_)
  · replace hw := hw.1 c3
    refine g_aload_n X 0 dX8_keyOf_15 rfl rfl ?_
    refine g_aload_n X 0 dX8_keyOf_16 rfl rfl ?_
    refine g_iload_n X 1 dX8_keyOf_17 rfl rfl ?_
    refine g_ciV X [wM ct a w hs] (fun (_ : Unit) => [wM ct a w hs]) (fun _ => wM ct a w hs) 1 [0] [] 0 (kX8_parentsOf l D ct a w hs p1 _ hw) (cwV 1 X.1.2.2.2.2 gX8_keyOf_X8_parentsOf rfl rfl rfl (by decide +kernel) ⟨Nat.le_of_ble_eq_true rfl, Nat.le_of_ble_eq_true rfl⟩) dX8_keyOf_18 rfl rfl (Nat.le_of_ble_eq_true rfl) ⟨Nat.le_of_ble_eq_true rfl, Nat.le_of_ble_eq_true rfl⟩ rfl rfl rfl (by decide) (fun _ => rfl) (fun _ => rfl) (fun _ => rfl) (fun _ => rfl) rfl rfl rfl (fun r4 _ hw => ?_)
    refine g_ciV X [wM ct a w hs] (fun (_ : Unit) => [wM ct a w hs]) (fun _ => wM ct a w hs) 1 [0] [] 0 (kX8_middle l D ct a w hs r4 _ hw) (cwV 1 X.1.2.2.2.2 gX8_keyOf_X8_middle rfl rfl rfl (by decide +kernel) ⟨Nat.le_of_ble_eq_true rfl, Nat.le_of_ble_eq_true rfl⟩) dX8_keyOf_21 rfl rfl (Nat.le_of_ble_eq_true rfl) ⟨Nat.le_of_ble_eq_true rfl, Nat.le_of_ble_eq_true rfl⟩ rfl rfl rfl (by decide) (fun _ => rfl) (fun _ => rfl) (fun _ => rfl) (fun _ => rfl) rfl rfl rfl (fun r6 _ hw => ?_)
    exact g_iret X () hw rfl (Nat.le_of_ble_eq_true rfl) (Nat.le_of_ble_eq_true rfl) dX8_keyOf_24
  · replace hw := hw.2 c3
    refine g_sipush (v := 1000) X rfl dX8_keyOf_9 ?_
    refine g_goto X 24 dX8_keyOf_12 (by decide) ?_
    exact g_iret X () hw rfl (Nat.le_of_ble_eq_true rfl) (Nat.le_of_ble_eq_true rfl) dX8_keyOf_24

abbrev rmX8_ordered : Room := { frames := 4, cells := 0, slots := 0, locals := 87 }

abbrev GX8_ordered (l : Launch) (D : va_G) (ct : Nat → ClassId) (a : Nat → Nat) (hs : Int64) (post : Int32 → Mem → Prop) (p : Program) (e : Env) (s : State) (m : MethodId) (args : Array Value) (below : List Frame) (meth : Method) (c : Code) (A : Nat → Prop) (w9 : va_W) (lv : List (Nat × Value)) (pc : Nat) (st : List Value) : Prop :=
  GG p l e rmX8_ordered s m args below meth c D A s.heap 7 (MQ below (va_Qi (fun r (u9 : Mem) => post r u9) (fun u9 t9 => Af D (tyz ct) A ((fun u9 => wM ct a u9 hs) u9) t9) A)  args s 0 0 A) w9 0 0 lv pc st

set_option maxHeartbeats 4000000 in
set_option maxRecDepth 20000 in
theorem kX8_ordered_155 (l : Launch) (D : va_G) (ct : Nat → ClassId) (a : Nat → Nat) (hs : Int64) (post : Int32 → Mem → Prop) (K126 : Mem → Int32 → Int32 → Int32 → Int32 → Prop) {p : Program} {e : Env} {s : State} {m : MethodId} {args : Array Value} {below : List Frame} {meth : Method} {c : Code} {A : Nat → Prop} (X : Cx p s m args meth c cX8_ordered 7 RX8 wsX8_ordered D (tyz ct) A s.heap (some .int)) (hK126 : ∀ (w : Mem) (x1 : Int32) (x2 : Int32) (x3 : Int32) (x4 : Int32), K126 w x1 x2 x3 x4 → GX8_ordered l D ct a hs post p e s m args below meth c A (wM ct a w hs) [(0, .ref (a 0)), (1, .int x1), (2, .int x2), (3, .int x3), (4, .int x4)] 126 []) :
    ∀ (w : Mem) (x1 : Int32) (x2 : Int32) (x4 : Int32) (z0 : Int32) (z1 : Int32), PX8_ordered_155 hs post K126 w x1 x2 x4 z0 z1 → GX8_ordered l D ct a hs post p e s m args below meth c A (wM ct a w hs) [(0, .ref (a 0)), (1, .int x1), (2, .int x2), (4, .int x4)] 155 [.int z0, .int z1] := by
  intro w x1 x2 x4 z0 z1 hw
  unfold PX8_ordered_155 at hw
  refine g_iadd X dX8_ordered_155 ?_
  refine g_topi (fun q10 hq10 => ?_)
  replace hw := hw q10 hq10
  refine g_istore_n X [(3, .int q10), (0, .ref (a 0)), (1, .int x1), (2, .int x2), (4, .int x4)] dX8_ordered_156 rfl (by decide) rfl ?_
  refine g_aload_n X 1 dX8_ordered_157 rfl rfl ?_
  refine g_get (T := TX8) (C := RX8) (N := 21) (v := .ref (a 1)) X 0 0 (fun _ h => (List.mem_cons_of_mem _ (List.mem_append_right _ h))) (List.mem_of_getElem? (i := 1) rfl) dX8_ordered_158 rfl rfl (by decide) rfl rfl ?_
  refine g_bipush (v := 67) X rfl dX8_ordered_161 ?_
  refine g_bipush (v := 6) X rfl dX8_ordered_163 ?_
  refine g_iload_n X 2 dX8_ordered_165 rfl rfl ?_
  refine g_imul X dX8_ordered_166 ?_
  refine g_iadd X dX8_ordered_167 ?_
  refine g_iload X 4 dX8_ordered_168 rfl ?_
  refine g_iadd X dX8_ordered_170 ?_
  refine g_aload_n X 1 dX8_ordered_171 rfl rfl ?_
  refine g_get (T := TX8) (C := RX8) (N := 21) (v := .ref (a 10)) X 0 9 (fun _ h => (List.mem_cons_of_mem _ (List.mem_append_right _ h))) (List.mem_of_getElem? (i := 3) rfl) dX8_ordered_172 rfl rfl (by decide) rfl rfl ?_
  refine g_iload X 4 dX8_ordered_175 rfl ?_
  obtain ⟨h11, hw⟩ := hw
  refine g_iald X 7 0 dX8_ordered_177 rfl rfl h11 ?_
  obtain ⟨h12, hw⟩ := hw
  refine g_iast X (fun z => wM ct a z hs) w 0 1 0 dX8_ordered_178 rfl rfl h12 rfl (fun w13 hw13 => ?_)
  replace hw := hw w13 hw13
  refine g_iinc X [(4, .int (x4 + 1)), (3, .int q10), (0, .ref (a 0)), (1, .int x1), (2, .int x2)] 4 dX8_ordered_179 rfl rfl (by decide) rfl ?_
  refine g_goto X 126 dX8_ordered_182 (by decide) ?_
  refine g_sub [(0, .ref (a 0)), (1, .int x1), (2, .int x2), (3, .int q10), (4, .int (x4 + 1))] [2, 3, 4, 1, 0] rfl ?_
  exact hK126 _ _ _ _ _ hw

set_option maxHeartbeats 4000000 in
set_option maxRecDepth 20000 in
theorem kX8_ordered_126 (l : Launch) (D : va_G) (ct : Nat → ClassId) (a : Nat → Nat) (hs : Int64) (post : Int32 → Mem → Prop) {p : Program} {e : Env} {s : State} {m : MethodId} {args : Array Value} {below : List Frame} {meth : Method} {c : Code} {A : Nat → Prop} (X : Cx p s m args meth c cX8_ordered 7 RX8 wsX8_ordered D (tyz ct) A s.heap (some .int))  :
    ∀ (n : Nat) (w : Mem) (x1 : Int32) (x2 : Int32) (x3 : Int32) (x4 : Int32), PX8_ordered_126 hs post n w x1 x2 x3 x4 → GX8_ordered l D ct a hs post p e s m args below meth c A (wM ct a w hs) [(0, .ref (a 0)), (1, .int x1), (2, .int x2), (3, .int x3), (4, .int x4)] 126 [] := by
  intro n
  induction n with
  | zero =>
    intro w x1 x2 x3 x4 hw
    exact hw.elim
  | succ n ih =>
    intro w x1 x2 x3 x4 hw
    unfold PX8_ordered_126 at hw
    refine g_iload X 4 dX8_ordered_126 rfl ?_
    refine g_iload_n X 2 dX8_ordered_128 rfl rfl ?_
    refine g_icmp_ge X 185 dX8_ordered_129 (by decide) (fun c6 => ?_) (fun c6 => ?_)
    · replace hw := hw.1 c6
      refine g_iload_n X 3 dX8_ordered_185 rfl rfl ?_
      exact g_iret X w hw rfl (Nat.le_of_ble_eq_true rfl) (Nat.le_of_ble_eq_true rfl) dX8_ordered_186
    · replace hw := hw.2 c6
      refine g_iload_n X 3 dX8_ordered_132 rfl rfl ?_
      refine g_aload_n X 0 dX8_ordered_133 rfl rfl ?_
      refine g_get (T := TX8) (C := RX8) (N := 21) (v := .ref (a 10)) X 0 9 (fun _ h => (List.mem_cons_of_mem _ (List.mem_append_right _ h))) (List.mem_of_getElem? (i := 3) rfl) dX8_ordered_134 rfl rfl (by decide) rfl rfl ?_
      refine g_iload X 4 dX8_ordered_137 rfl ?_
      obtain ⟨h7, hw⟩ := hw
      refine g_iald X 7 0 dX8_ordered_139 rfl rfl h7 ?_
      refine g_aload_n X 0 dX8_ordered_140 rfl rfl ?_
      refine g_get (T := TX8) (C := RX8) (N := 21) (v := .ref (a 11)) X 0 10 (fun _ h => (List.mem_cons_of_mem _ (List.mem_append_right _ h))) (List.mem_of_getElem? (i := 2) rfl) dX8_ordered_141 rfl rfl (by decide) rfl rfl ?_
      refine g_iload X 4 dX8_ordered_144 rfl ?_
      obtain ⟨h8, hw⟩ := hw
      refine g_iald X 8 0 dX8_ordered_146 rfl rfl h8 ?_
      refine g_icmp_eq X 154 dX8_ordered_147 (by decide) (fun c9 => ?_) (fun c9 => ?_)
      · replace hw := hw.1 c9
        refine g_iconst (v := 0) X rfl dX8_ordered_154 ?_
        refine g_sub [(0, .ref (a 0)), (1, .int x1), (2, .int x2), (4, .int x4)] [0, 1, 2, 4] rfl ?_
        exact kX8_ordered_155 l D ct a hs post _ X ih _ _ _ _ _ _ hw
      · replace hw := hw.2 c9
        refine g_iconst (v := 1) X rfl dX8_ordered_150 ?_
        refine g_goto X 155 dX8_ordered_151 (by decide) ?_
        refine g_sub [(0, .ref (a 0)), (1, .int x1), (2, .int x2), (4, .int x4)] [0, 1, 2, 4] rfl ?_
        exact kX8_ordered_155 l D ct a hs post _ X ih _ _ _ _ _ _ hw

set_option maxHeartbeats 4000000 in
set_option maxRecDepth 20000 in
theorem kX8_ordered_102 (l : Launch) (D : va_G) (ct : Nat → ClassId) (a : Nat → Nat) (hs : Int64) (post : Int32 → Mem → Prop) (K17 : Mem → Int32 → Int32 → Int32 → Prop) {p : Program} {e : Env} {s : State} {m : MethodId} {args : Array Value} {below : List Frame} {meth : Method} {c : Code} {A : Nat → Prop} (X : Cx p s m args meth c cX8_ordered 7 RX8 wsX8_ordered D (tyz ct) A s.heap (some .int)) (hK17 : ∀ (w : Mem) (x1 : Int32) (x2 : Int32) (x3 : Int32), K17 w x1 x2 x3 → GX8_ordered l D ct a hs post p e s m args below meth c A (wM ct a w hs) [(0, .ref (a 0)), (1, .int x1), (2, .int x2), (3, .int x3)] 17 []) :
    ∀ (w : Mem) (x1 : Int32) (x2 : Int32) (x3 : Int32) (x6 : Int32), PX8_ordered_102 hs post K17 w x1 x2 x3 x6 → GX8_ordered l D ct a hs post p e s m args below meth c A (wM ct a w hs) [(0, .ref (a 0)), (1, .int x1), (2, .int x2), (3, .int x3), (6, .int x6)] 102 [] := by
  intro w x1 x2 x3 x6 hw
  unfold PX8_ordered_102 at hw
  refine g_aload_n X 0 dX8_ordered_102 rfl rfl ?_
  refine g_get (T := TX8) (C := RX8) (N := 21) (v := .ref (a 10)) X 0 9 (fun _ h => (List.mem_cons_of_mem _ (List.mem_append_right _ h))) (List.mem_of_getElem? (i := 3) rfl) dX8_ordered_103 rfl rfl (by decide) rfl rfl ?_
  refine g_iload X 4 dX8_ordered_106 rfl ?_
  refine g_aload_n X 0 dX8_ordered_108 rfl rfl ?_
  refine g_get (T := TX8) (C := RX8) (N := 21) (v := .ref (a 11)) X 0 10 (fun _ h => (List.mem_cons_of_mem _ (List.mem_append_right _ h))) (List.mem_of_getElem? (i := 2) rfl) dX8_ordered_109 rfl rfl (by decide) rfl rfl ?_
  refine g_iload_n X 3 dX8_ordered_112 rfl rfl ?_
  obtain ⟨h22, hw⟩ := hw
  refine g_iald X 8 0 dX8_ordered_113 rfl rfl h22 ?_
  obtain ⟨h23, hw⟩ := hw
  refine g_iast X (fun z => wM ct a z hs) w 9 7 0 dX8_ordered_114 rfl rfl h23 rfl (fun w24 hw24 => ?_)
  replace hw := hw w24 hw24
  refine g_iinc X [(3, .int (x3 + 1)), (0, .ref (a 0)), (1, .int x1), (2, .int x2), (6, .int x6)] 3 dX8_ordered_115 rfl rfl (by decide) rfl ?_
  refine g_goto X 17 dX8_ordered_118 (by decide) ?_
  refine g_sub [(0, .ref (a 0)), (1, .int x1), (2, .int x2), (3, .int (x3 + 1))] [1, 2, 3, 0] rfl ?_
  exact hK17 _ _ _ _ hw

set_option maxHeartbeats 4000000 in
set_option maxRecDepth 20000 in
theorem kX8_ordered_57 (l : Launch) (D : va_G) (ct : Nat → ClassId) (a : Nat → Nat) (hs : Int64) (post : Int32 → Mem → Prop) (K17 : Mem → Int32 → Int32 → Int32 → Prop) {p : Program} {e : Env} {s : State} {m : MethodId} {args : Array Value} {below : List Frame} {meth : Method} {c : Code} {A : Nat → Prop} (X : Cx p s m args meth c cX8_ordered 7 RX8 wsX8_ordered D (tyz ct) A s.heap (some .int)) (hK17 : ∀ (w : Mem) (x1 : Int32) (x2 : Int32) (x3 : Int32), K17 w x1 x2 x3 → GX8_ordered l D ct a hs post p e s m args below meth c A (wM ct a w hs) [(0, .ref (a 0)), (1, .int x1), (2, .int x2), (3, .int x3)] 17 []) :
    ∀ (n : Nat) (w : Mem) (x1 : Int32) (x2 : Int32) (x3 : Int32) (x5 : Int32) (x6 : Int32), PX8_ordered_57 hs post K17 n w x1 x2 x3 x5 x6 → GX8_ordered l D ct a hs post p e s m args below meth c A (wM ct a w hs) [(0, .ref (a 0)), (1, .int x1), (2, .int x2), (3, .int x3), (5, .int x5), (6, .int x6)] 57 [] := by
  intro n
  induction n with
  | zero =>
    intro w x1 x2 x3 x5 x6 hw
    exact hw.elim
  | succ n ih =>
    intro w x1 x2 x3 x5 x6 hw
    unfold PX8_ordered_57 at hw
    refine g_iload X 5 dX8_ordered_57 rfl ?_
    refine g_if_le X 102 dX8_ordered_59 (by decide) (fun c21 => ?_) (fun c21 => ?_)
    · replace hw := hw.1 c21
      refine g_sub [(0, .ref (a 0)), (1, .int x1), (2, .int x2), (3, .int x3), (6, .int x6)] [0, 1, 2, 3, 5] rfl ?_
      exact kX8_ordered_102 l D ct a hs post _ X hK17 _ _ _ _ _ hw
    · replace hw := hw.2 c21
      refine g_aload_n X 0 dX8_ordered_62 rfl rfl ?_
      refine g_aload_n X 0 dX8_ordered_63 rfl rfl ?_
      refine g_get (T := TX8) (C := RX8) (N := 21) (v := .ref (a 10)) X 0 9 (fun _ h => (List.mem_cons_of_mem _ (List.mem_append_right _ h))) (List.mem_of_getElem? (i := 3) rfl) dX8_ordered_64 rfl rfl (by decide) rfl rfl ?_
      refine g_iload X 5 dX8_ordered_67 rfl ?_
      refine g_iconst (v := 1) X rfl dX8_ordered_69 ?_
      refine g_isub X dX8_ordered_70 ?_
      obtain ⟨h25, hw⟩ := hw
      refine g_iald X 7 0 dX8_ordered_71 rfl rfl h25 ?_
      refine g_ciV X [wM ct a w hs] (fun (_ : Unit) => [wM ct a w hs]) (fun _ => wM ct a w hs) 1 [0] [] 0 (kX8_keyOf l D ct a w hs (w 9 (ix (x6 - 1))) _ hw) (cwV 1 X.1.2.2.2.2 gX8_ordered_X8_keyOf rfl rfl rfl (by decide +kernel) ⟨Nat.le_of_ble_eq_true rfl, Nat.le_of_ble_eq_true rfl⟩) dX8_ordered_72 rfl rfl (Nat.le_of_ble_eq_true rfl) ⟨Nat.le_of_ble_eq_true rfl, Nat.le_of_ble_eq_true rfl⟩ rfl rfl rfl (by decide) (fun _ => rfl) (fun _ => rfl) (fun _ => rfl) (fun _ => rfl) rfl rfl rfl (fun r26 _ hw => ?_)
      refine g_iload X 4 dX8_ordered_75 rfl ?_
      refine g_icmp_le X 102 dX8_ordered_77 (by decide) (fun c28 => ?_) (fun c28 => ?_)
      · replace hw := hw.1 c28
        refine g_sub [(0, .ref (a 0)), (1, .int x1), (2, .int x2), (3, .int x3), (6, .int x6)] [0, 1, 2, 3, 5] rfl ?_
        exact kX8_ordered_102 l D ct a hs post _ X hK17 _ _ _ _ _ hw
      · replace hw := hw.2 c28
        refine g_aload_n X 0 dX8_ordered_80 rfl rfl ?_
        refine g_get (T := TX8) (C := RX8) (N := 21) (v := .ref (a 10)) X 0 9 (fun _ h => (List.mem_cons_of_mem _ (List.mem_append_right _ h))) (List.mem_of_getElem? (i := 3) rfl) dX8_ordered_81 rfl rfl (by decide) rfl rfl ?_
        refine g_iload X 5 dX8_ordered_84 rfl ?_
        refine g_aload_n X 0 dX8_ordered_86 rfl rfl ?_
        refine g_get (T := TX8) (C := RX8) (N := 21) (v := .ref (a 10)) X 0 9 (fun _ h => (List.mem_cons_of_mem _ (List.mem_append_right _ h))) (List.mem_of_getElem? (i := 3) rfl) dX8_ordered_87 rfl rfl (by decide) rfl rfl ?_
        refine g_iload X 5 dX8_ordered_90 rfl ?_
        refine g_iconst (v := 1) X rfl dX8_ordered_92 ?_
        refine g_isub X dX8_ordered_93 ?_
        obtain ⟨h29, hw⟩ := hw
        refine g_iald X 7 0 dX8_ordered_94 rfl rfl h29 ?_
        obtain ⟨h30, hw⟩ := hw
        refine g_iast X (fun z => wM ct a z hs) w 9 7 0 dX8_ordered_95 rfl rfl h30 rfl (fun w31 hw31 => ?_)
        replace hw := hw w31 hw31
        refine g_iinc X [(6, .int (x6 + (-1))), (0, .ref (a 0)), (1, .int x1), (2, .int x2), (3, .int x3), (5, .int x5)] 5 dX8_ordered_96 rfl rfl (by decide) rfl ?_
        refine g_goto X 57 dX8_ordered_99 (by decide) ?_
        refine g_sub [(0, .ref (a 0)), (1, .int x1), (2, .int x2), (3, .int x3), (5, .int x5), (6, .int (x6 + (-1)))] [1, 2, 3, 4, 5, 0] rfl ?_
        exact ih _ _ _ _ _ _ hw

set_option maxHeartbeats 4000000 in
set_option maxRecDepth 20000 in
theorem kX8_ordered_17 (l : Launch) (D : va_G) (ct : Nat → ClassId) (a : Nat → Nat) (hs : Int64) (post : Int32 → Mem → Prop) {p : Program} {e : Env} {s : State} {m : MethodId} {args : Array Value} {below : List Frame} {meth : Method} {c : Code} {A : Nat → Prop} (X : Cx p s m args meth c cX8_ordered 7 RX8 wsX8_ordered D (tyz ct) A s.heap (some .int))  :
    ∀ (n : Nat) (w : Mem) (x1 : Int32) (x2 : Int32) (x3 : Int32), PX8_ordered_17 hs post n w x1 x2 x3 → GX8_ordered l D ct a hs post p e s m args below meth c A (wM ct a w hs) [(0, .ref (a 0)), (1, .int x1), (2, .int x2), (3, .int x3)] 17 [] := by
  intro n
  induction n with
  | zero =>
    intro w x1 x2 x3 hw
    exact hw.elim
  | succ n ih =>
    intro w x1 x2 x3 hw
    unfold PX8_ordered_17 at hw
    refine g_iload_n X 3 dX8_ordered_17 rfl rfl ?_
    refine g_iload_n X 2 dX8_ordered_18 rfl rfl ?_
    refine g_icmp_ge X 121 dX8_ordered_19 (by decide) (fun c5 => ?_) (fun c5 => ?_)
    · replace hw := hw.1 c5
      refine g_iconst (v := 0) X rfl dX8_ordered_121 ?_
      refine g_istore_n X [(3, .int 0), (0, .ref (a 0)), (1, .int x1), (2, .int x2)] dX8_ordered_122 rfl (by decide) rfl ?_
      refine g_iconst (v := 0) X rfl dX8_ordered_123 ?_
      refine g_istore X [(4, .int 0), (3, .int 0), (0, .ref (a 0)), (1, .int x1), (2, .int x2)] dX8_ordered_124 (by decide) rfl ?_
      refine g_sub [(0, .ref (a 0)), (1, .int x1), (2, .int x2), (3, .int 0), (4, .int 0)] [2, 3, 4, 1, 0] rfl ?_
      obtain ⟨n14, hw⟩ := hw
      exact kX8_ordered_126 l D ct a hs post X n14 _ _ _ _ _ hw
    · replace hw := hw.2 c5
      refine g_aload_n X 0 dX8_ordered_22 rfl rfl ?_
      refine g_aload_n X 0 dX8_ordered_23 rfl rfl ?_
      refine g_get (T := TX8) (C := RX8) (N := 21) (v := .ref (a 11)) X 0 10 (fun _ h => (List.mem_cons_of_mem _ (List.mem_append_right _ h))) (List.mem_of_getElem? (i := 2) rfl) dX8_ordered_24 rfl rfl (by decide) rfl rfl ?_
      refine g_iload_n X 3 dX8_ordered_27 rfl rfl ?_
      obtain ⟨h15, hw⟩ := hw
      refine g_iald X 8 0 dX8_ordered_28 rfl rfl h15 ?_
      refine g_ciV X [wM ct a w hs] (fun (_ : Unit) => [wM ct a w hs]) (fun _ => wM ct a w hs) 1 [0] [] 0 (kX8_parentsOf l D ct a w hs (w 10 (ix x3)) _ hw) (cwV 1 X.1.2.2.2.2 gX8_ordered_X8_parentsOf rfl rfl rfl (by decide +kernel) ⟨Nat.le_of_ble_eq_true rfl, Nat.le_of_ble_eq_true rfl⟩) dX8_ordered_29 rfl rfl (Nat.le_of_ble_eq_true rfl) ⟨Nat.le_of_ble_eq_true rfl, Nat.le_of_ble_eq_true rfl⟩ rfl rfl rfl (by decide) (fun _ => rfl) (fun _ => rfl) (fun _ => rfl) (fun _ => rfl) rfl rfl rfl (fun r16 _ hw => ?_)
      refine g_istore X [(4, .int r16), (0, .ref (a 0)), (1, .int x1), (2, .int x2), (3, .int x3)] dX8_ordered_32 (by decide) rfl ?_
      refine g_iload X 0 dX8_ordered_34 rfl ?_
      refine g_iconst (v := (-1)) X rfl dX8_ordered_36 ?_
      refine g_icmp_ne X 46 dX8_ordered_37 (by decide) (fun c18 => ?_) (fun c18 => ?_)
      · replace hw := hw.1 c18
        refine g_aload_n X 1 dX8_ordered_46 rfl rfl ?_
        refine g_iload X 0 dX8_ordered_47 rfl ?_
        refine g_ciV X [wM ct a w hs] (fun (_ : Unit) => [wM ct a w hs]) (fun _ => wM ct a w hs) 1 [0] [] 0 (kX8_middle l D ct a w hs r16 _ hw) (cwV 1 X.1.2.2.2.2 gX8_ordered_X8_middle rfl rfl rfl (by decide +kernel) ⟨Nat.le_of_ble_eq_true rfl, Nat.le_of_ble_eq_true rfl⟩) dX8_ordered_49 rfl rfl (Nat.le_of_ble_eq_true rfl) ⟨Nat.le_of_ble_eq_true rfl, Nat.le_of_ble_eq_true rfl⟩ rfl rfl rfl (by decide) (fun _ => rfl) (fun _ => rfl) (fun _ => rfl) (fun _ => rfl) rfl rfl rfl (fun r19 _ hw => ?_)
        refine g_istore X [(5, .int r19), (4, .int r16), (0, .ref (a 0)), (1, .int x1), (2, .int x2), (3, .int x3)] dX8_ordered_52 (by decide) rfl ?_
        refine g_iload_n X 5 dX8_ordered_54 rfl rfl ?_
        refine g_istore X [(6, .int x3), (5, .int r19), (4, .int r16), (0, .ref (a 0)), (1, .int x1), (2, .int x2), (3, .int x3)] dX8_ordered_55 (by decide) rfl ?_
        refine g_sub [(0, .ref (a 0)), (1, .int x1), (2, .int x2), (3, .int x3), (5, .int r19), (6, .int x3)] [3, 4, 5, 6, 1, 0] rfl ?_
        obtain ⟨n32, hw⟩ := hw
        exact kX8_ordered_57 l D ct a hs post _ X ih n32 _ _ _ _ _ _ hw
      · replace hw := hw.2 c18
        refine g_sipush (v := 1000) X rfl dX8_ordered_40 ?_
        refine g_goto X 52 dX8_ordered_43 (by decide) ?_
        refine g_istore X [(5, .int 1000), (4, .int r16), (0, .ref (a 0)), (1, .int x1), (2, .int x2), (3, .int x3)] dX8_ordered_52 (by decide) rfl ?_
        refine g_iload_n X 5 dX8_ordered_54 rfl rfl ?_
        refine g_istore X [(6, .int x3), (5, .int 1000), (4, .int r16), (0, .ref (a 0)), (1, .int x1), (2, .int x2), (3, .int x3)] dX8_ordered_55 (by decide) rfl ?_
        refine g_sub [(0, .ref (a 0)), (1, .int x1), (2, .int x2), (3, .int x3), (5, .int 1000), (6, .int x3)] [3, 4, 5, 6, 1, 0] rfl ?_
        obtain ⟨n33, hw⟩ := hw
        exact kX8_ordered_57 l D ct a hs post _ X ih n33 _ _ _ _ _ _ hw

set_option maxHeartbeats 4000000 in
set_option maxRecDepth 20000 in
theorem kX8_ordered (l : Launch) (D : va_G) (ct : Nat → ClassId) (a : Nat → Nat) (w : Mem) (hs : Int64) (p1 : Int32) (post : Int32 → Mem → Prop) (hw : PX8_ordered w hs p1 post) : Ci (S := Mem) l yX8_ordered wsX8_ordered rmX8_ordered D (tyz ct) [.ref (a 0), .int p1] (wM ct a w hs) (fun r (u9 : Mem) => post r u9) (fun u9 => wM ct a u9 hs) 0 0 := by
  intro sz
  refine g_of (own := RX8) (by decide) rfl rfl (Nat.le_of_ble_eq_true rfl) [(0, .ref (a 0)), (1, .int p1)] rfl (fun p e s m args below meth c hsz X => ?_)
  subst hsz
  unfold PX8_ordered at hw
  refine g_aload_n X 0 dX8_ordered_0 rfl rfl ?_
  refine g_get (T := TX8) (C := RX8) (N := 21) (v := .ref (a 1)) X 0 0 (fun _ h => (List.mem_cons_of_mem _ (List.mem_append_right _ h))) (List.mem_of_getElem? (i := 1) rfl) dX8_ordered_1 rfl rfl (by decide) rfl rfl ?_
  refine g_bipush (v := 63) X rfl dX8_ordered_4 ?_
  refine g_iload_n X 1 dX8_ordered_6 rfl rfl ?_
  refine g_iadd X dX8_ordered_7 ?_
  obtain ⟨h1, hw⟩ := hw
  refine g_iald X 1 0 dX8_ordered_8 rfl rfl h1 ?_
  refine g_topi (fun q2 hq2 => ?_)
  replace hw := hw q2 hq2
  refine g_istore_n X [(2, .int q2), (0, .ref (a 0)), (1, .int p1)] dX8_ordered_9 rfl (by decide) rfl ?_
  refine g_aload_n X 1 dX8_ordered_10 rfl rfl ?_
  refine g_iload_n X 2 dX8_ordered_11 rfl rfl ?_
  refine g_cvV X [wM ct a w hs] (fun (u3 : Mem) => [wM ct a u3 hs]) (fun (u3 : Mem) => wM ct a u3 hs) 1 [0] [] 0 (kX8_remember l D ct a w hs p1 _ hw) (cwV 1 X.1.2.2.2.2 gX8_ordered_X8_remember rfl rfl rfl (by decide +kernel) ⟨Nat.le_of_ble_eq_true rfl, Nat.le_of_ble_eq_true rfl⟩) dX8_ordered_12 rfl rfl (Nat.le_of_ble_eq_true rfl) ⟨Nat.le_of_ble_eq_true rfl, Nat.le_of_ble_eq_true rfl⟩ rfl rfl rfl (by decide) (fun _ => rfl) (fun _ => rfl) (fun _ => rfl) (fun _ => rfl) rfl rfl rfl (fun u3 hw => ?_)
  obtain ⟨w4, hw4⟩ : ∃ z : Mem, z = u3 := ⟨_, rfl⟩
  rw [← hw4] at hw
  rw [← hw4]
  refine g_iconst (v := 0) X rfl dX8_ordered_15 ?_
  refine g_istore_n X [(3, .int 0), (2, .int q2), (0, .ref (a 0)), (1, .int p1)] dX8_ordered_16 rfl (by decide) rfl ?_
  refine g_sub [(0, .ref (a 0)), (1, .int p1), (2, .int q2), (3, .int 0)] [2, 3, 1, 0] rfl ?_
  obtain ⟨n34, hw⟩ := hw
  exact kX8_ordered_17 l D ct a hs post X n34 _ _ _ _ hw

abbrev rmX8_byParents : Room := { frames := 5, cells := 0, slots := 0, locals := 113 }

abbrev GX8_byParents (l : Launch) (D : va_G) (ct : Nat → ClassId) (a : Nat → Nat) (hs : Int64) (post : Int32 → Mem → Prop) (p : Program) (e : Env) (s : State) (m : MethodId) (args : Array Value) (below : List Frame) (meth : Method) (c : Code) (A : Nat → Prop) (w9 : va_W) (lv : List (Nat × Value)) (pc : Nat) (st : List Value) : Prop :=
  GG p l e rmX8_byParents s m args below meth c D A s.heap 2 (MQ below (va_Qi (fun r (u9 : Mem) => post r u9) (fun u9 t9 => Af D (tyz ct) A ((fun u9 => wM ct a u9 hs) u9) t9) A)  args s 0 0 A) w9 0 0 lv pc st

set_option maxHeartbeats 4000000 in
set_option maxRecDepth 20000 in
theorem kX8_byParents (l : Launch) (D : va_G) (ct : Nat → ClassId) (a : Nat → Nat) (w : Mem) (hs : Int64) (p1 : Int32) (post : Int32 → Mem → Prop) (hw : PX8_byParents w hs p1 post) : Ci (S := Mem) l yX8_byParents wsX8_byParents rmX8_byParents D (tyz ct) [.ref (a 0), .int p1] (wM ct a w hs) (fun r (u9 : Mem) => post r u9) (fun u9 => wM ct a u9 hs) 0 0 := by
  intro sz
  refine g_of (own := RX8) (by decide) rfl rfl (Nat.le_of_ble_eq_true rfl) [(0, .ref (a 0)), (1, .int p1)] rfl (fun p e s m args below meth c hsz X => ?_)
  subst hsz
  unfold PX8_byParents at hw
  refine g_aload_n X 0 dX8_byParents_0 rfl rfl ?_
  refine g_iconst (v := 0) X rfl dX8_byParents_1 ?_
  refine g_put (T := TX8) (C := RX8) (N := 21) X (fun z => wM ct a z hs) w 0 5 tyX8 tyX8_ok nmX8 (fun _ h => (List.mem_cons_of_mem _ (List.mem_append_right _ h))) (List.mem_of_getElem? (i := 1) rfl) dX8_byParents_2 rfl rfl (by decide) rfl rfl (by decide +kernel) (Nat.le_of_ble_eq_true rfl) rfl (fun w1 hw1 => ?_)
  replace hw := hw w1 hw1
  refine g_iload_n X 1 dX8_byParents_5 rfl rfl ?_
  refine g_ciS X [wM ct a w1 hs] (fun (_ : Unit) => [wM ct a w1 hs]) (fun _ => wM ct a w1 hs) 1 [] [0] (kX8_isRow l D ct  p1 _ hw) (va_cwS 1 X.1.2.2.2.2 gX8_byParents_X8_isRow rfl rfl rfl (by decide +kernel) ⟨Nat.le_of_ble_eq_true rfl, Nat.le_of_ble_eq_true rfl⟩) dX8_byParents_6 rfl rfl (Nat.le_of_ble_eq_true rfl) ⟨Nat.le_of_ble_eq_true rfl, Nat.le_of_ble_eq_true rfl⟩ rfl rfl rfl (by decide) (fun _ => rfl) (fun _ => rfl) (fun _ => rfl) (fun _ => rfl) (fun r2 _ hw => ?_)
  refine g_if_ne X 18 dX8_byParents_9 (by decide) (fun c4 => ?_) (fun c4 => ?_)
  · replace hw := hw.1 c4
    refine g_aload_n X 0 dX8_byParents_18 rfl rfl ?_
    refine g_cvV X [wM ct a w1 hs] (fun (u5 : Mem) => [wM ct a u5 hs]) (fun (u5 : Mem) => wM ct a u5 hs) 1 [0] [] 0 (kX8_save l D ct a w1 hs _ hw) (cwV 0 X.1.2.2.2.2 gX8_byParents_X8_save rfl rfl rfl (by decide +kernel) ⟨Nat.le_of_ble_eq_true rfl, Nat.le_of_ble_eq_true rfl⟩) dX8_byParents_19 rfl rfl (Nat.le_of_ble_eq_true rfl) ⟨Nat.le_of_ble_eq_true rfl, Nat.le_of_ble_eq_true rfl⟩ rfl rfl rfl (by decide) (fun _ => rfl) (fun _ => rfl) (fun _ => rfl) (fun _ => rfl) rfl rfl rfl (fun u5 hw => ?_)
    obtain ⟨w6, hw6⟩ : ∃ z : Mem, z = u5 := ⟨_, rfl⟩
    rw [← hw6] at hw
    rw [← hw6]
    refine g_aload_n X 0 dX8_byParents_22 rfl rfl ?_
    refine g_iload_n X 1 dX8_byParents_23 rfl rfl ?_
    refine g_ciV X [wM ct a w6 hs] (fun (u8 : Mem) => [wM ct a u8 hs]) (fun (u8 : Mem) => wM ct a u8 hs) 1 [0] [] 0 (kX8_ordered l D ct a w6 hs p1 _ hw) (cwV 1 X.1.2.2.2.2 gX8_byParents_X8_ordered rfl rfl rfl (by decide +kernel) ⟨Nat.le_of_ble_eq_true rfl, Nat.le_of_ble_eq_true rfl⟩) dX8_byParents_24 rfl rfl (Nat.le_of_ble_eq_true rfl) ⟨Nat.le_of_ble_eq_true rfl, Nat.le_of_ble_eq_true rfl⟩ rfl rfl rfl (by decide) (fun _ => rfl) (fun _ => rfl) (fun _ => rfl) (fun _ => rfl) rfl rfl rfl (fun r7 u8 hw => ?_)
    obtain ⟨w9, hw9⟩ : ∃ z : Mem, z = u8 := ⟨_, rfl⟩
    rw [← hw9] at hw
    rw [← hw9]
    exact g_iret X w9 hw rfl (Nat.le_of_ble_eq_true rfl) (Nat.le_of_ble_eq_true rfl) dX8_byParents_27
  · replace hw := hw.2 c4
    refine g_aload_n X 0 dX8_byParents_12 rfl rfl ?_
    refine g_iconst (v := 1) X rfl dX8_byParents_13 ?_
    refine g_ciV X [wM ct a w1 hs] (fun (u11 : Mem) => [wM ct a u11 hs]) (fun (u11 : Mem) => wM ct a u11 hs) 1 [0] [] 0 (kX8_fails l D ct a w1 hs 1 _ hw) (cwV 1 X.1.2.2.2.2 gX8_byParents_X8_fails rfl rfl rfl (by decide +kernel) ⟨Nat.le_of_ble_eq_true rfl, Nat.le_of_ble_eq_true rfl⟩) dX8_byParents_14 rfl rfl (Nat.le_of_ble_eq_true rfl) ⟨Nat.le_of_ble_eq_true rfl, Nat.le_of_ble_eq_true rfl⟩ rfl rfl rfl (by decide) (fun _ => rfl) (fun _ => rfl) (fun _ => rfl) (fun _ => rfl) rfl rfl rfl (fun r10 u11 hw => ?_)
    obtain ⟨w12, hw12⟩ : ∃ z : Mem, z = u11 := ⟨_, rfl⟩
    rw [← hw12] at hw
    rw [← hw12]
    exact g_iret X w12 hw rfl (Nat.le_of_ble_eq_true rfl) (Nat.le_of_ble_eq_true rfl) dX8_byParents_17

abbrev rmX8_layByNumbers : Room := { frames := 1, cells := 0, slots := 0, locals := 25 }

abbrev GX8_layByNumbers (l : Launch) (D : va_G) (ct : Nat → ClassId) (a : Nat → Nat) (hs : Int64) (post : Mem → Prop) (p : Program) (e : Env) (s : State) (m : MethodId) (args : Array Value) (below : List Frame) (meth : Method) (c : Code) (A : Nat → Prop) (w9 : va_W) (lv : List (Nat × Value)) (pc : Nat) (st : List Value) : Prop :=
  GG p l e rmX8_layByNumbers s m args below meth c D A s.heap 4 (MQ below (va_Qv (fun (u9 : Mem) => post u9) (fun u9 t9 => Af D (tyz ct) A ((fun u9 => wM ct a u9 hs) u9) t9) A)  args s 0 0 A) w9 0 0 lv pc st

set_option maxHeartbeats 4000000 in
set_option maxRecDepth 20000 in
theorem kX8_layByNumbers_19 (l : Launch) (D : va_G) (ct : Nat → ClassId) (a : Nat → Nat) (hs : Int64) (post : Mem → Prop) (K2 : Mem → Int32 → Int32 → Prop) {p : Program} {e : Env} {s : State} {m : MethodId} {args : Array Value} {below : List Frame} {meth : Method} {c : Code} {A : Nat → Prop} (X : Cx p s m args meth c cX8_layByNumbers 4 RX8 wsX8_layByNumbers D (tyz ct) A s.heap none) (hK2 : ∀ (w : Mem) (x1 : Int32) (x2 : Int32), K2 w x1 x2 → GX8_layByNumbers l D ct a hs post p e s m args below meth c A (wM ct a w hs) [(0, .ref (a 0)), (1, .int x1), (2, .int x2)] 2 []) :
    ∀ (n : Nat) (w : Mem) (x1 : Int32) (x2 : Int32) (x3 : Int32), PX8_layByNumbers_19 hs post K2 n w x1 x2 x3 → GX8_layByNumbers l D ct a hs post p e s m args below meth c A (wM ct a w hs) [(0, .ref (a 0)), (1, .int x1), (2, .int x2), (3, .int x3)] 19 [] := by
  intro n
  induction n with
  | zero =>
    intro w x1 x2 x3 hw
    exact hw.elim
  | succ n ih =>
    intro w x1 x2 x3 hw
    unfold PX8_layByNumbers_19 at hw
    refine g_iload_n X 3 dX8_layByNumbers_19 rfl rfl ?_
    refine g_aload_n X 0 dX8_layByNumbers_20 rfl rfl ?_
    refine g_get (T := TX8) (C := RX8) (N := 21) (v := .ref (a 1)) X 0 0 (fun _ h => (List.mem_cons_of_mem _ (List.mem_append_right _ h))) (List.mem_of_getElem? (i := 1) rfl) dX8_layByNumbers_21 rfl rfl (by decide) rfl rfl ?_
    refine g_bipush (v := 63) X rfl dX8_layByNumbers_24 ?_
    refine g_iload_n X 1 dX8_layByNumbers_26 rfl rfl ?_
    refine g_iadd X dX8_layByNumbers_27 ?_
    obtain ⟨h4, hw⟩ := hw
    refine g_iald X 1 0 dX8_layByNumbers_28 rfl rfl h4 ?_
    refine g_icmp_ge X 60 dX8_layByNumbers_29 (by decide) (fun c5 => ?_) (fun c5 => ?_)
    · replace hw := hw.1 c5
      refine g_iinc X [(2, .int (x2 + 1)), (0, .ref (a 0)), (1, .int x1), (3, .int x3)] 2 dX8_layByNumbers_60 rfl rfl (by decide) rfl ?_
      refine g_goto X 2 dX8_layByNumbers_63 (by decide) ?_
      refine g_sub [(0, .ref (a 0)), (1, .int x1), (2, .int (x2 + 1))] [1, 2, 0] rfl ?_
      exact hK2 _ _ _ hw
    · replace hw := hw.2 c5
      refine g_aload_n X 0 dX8_layByNumbers_32 rfl rfl ?_
      refine g_iload_n X 1 dX8_layByNumbers_33 rfl rfl ?_
      refine g_iload_n X 3 dX8_layByNumbers_34 rfl rfl ?_
      refine g_ciV X [wM ct a w hs] (fun (_ : Unit) => [wM ct a w hs]) (fun _ => wM ct a w hs) 1 [0] [] 0 (kX8_whoIs l D ct a w hs x1 x3 _ hw) (cwV 2 X.1.2.2.2.2 gX8_layByNumbers_X8_whoIs rfl rfl rfl (by decide +kernel) ⟨Nat.le_of_ble_eq_true rfl, Nat.le_of_ble_eq_true rfl⟩) dX8_layByNumbers_35 rfl rfl (Nat.le_of_ble_eq_true rfl) ⟨Nat.le_of_ble_eq_true rfl, Nat.le_of_ble_eq_true rfl⟩ rfl rfl rfl (by decide) (fun _ => rfl) (fun _ => rfl) (fun _ => rfl) (fun _ => rfl) rfl rfl rfl (fun r6 _ hw => ?_)
      refine g_aload_n X 0 dX8_layByNumbers_38 rfl rfl ?_
      refine g_iload_n X 1 dX8_layByNumbers_39 rfl rfl ?_
      refine g_iload_n X 2 dX8_layByNumbers_40 rfl rfl ?_
      refine g_ciV X [wM ct a w hs] (fun (_ : Unit) => [wM ct a w hs]) (fun _ => wM ct a w hs) 1 [0] [] 0 (kX8_whoIs l D ct a w hs x1 x2 _ hw) (cwV 2 X.1.2.2.2.2 gX8_layByNumbers_X8_whoIs rfl rfl rfl (by decide +kernel) ⟨Nat.le_of_ble_eq_true rfl, Nat.le_of_ble_eq_true rfl⟩) dX8_layByNumbers_41 rfl rfl (Nat.le_of_ble_eq_true rfl) ⟨Nat.le_of_ble_eq_true rfl, Nat.le_of_ble_eq_true rfl⟩ rfl rfl rfl (by decide) (fun _ => rfl) (fun _ => rfl) (fun _ => rfl) (fun _ => rfl) rfl rfl rfl (fun r8 _ hw => ?_)
      refine g_icmp_ge X 54 dX8_layByNumbers_44 (by decide) (fun c10 => ?_) (fun c10 => ?_)
      · replace hw := hw.1 c10
        refine g_iinc X [(3, .int (x3 + 1)), (0, .ref (a 0)), (1, .int x1), (2, .int x2)] 3 dX8_layByNumbers_54 rfl rfl (by decide) rfl ?_
        refine g_goto X 19 dX8_layByNumbers_57 (by decide) ?_
        refine g_sub [(0, .ref (a 0)), (1, .int x1), (2, .int x2), (3, .int (x3 + 1))] [1, 2, 3, 0] rfl ?_
        exact ih _ _ _ _ hw
      · replace hw := hw.2 c10
        refine g_aload_n X 0 dX8_layByNumbers_47 rfl rfl ?_
        refine g_iload_n X 1 dX8_layByNumbers_48 rfl rfl ?_
        refine g_iload_n X 2 dX8_layByNumbers_49 rfl rfl ?_
        refine g_iload_n X 3 dX8_layByNumbers_50 rfl rfl ?_
        refine g_cvV X [wM ct a w hs] (fun (u11 : Mem) => [wM ct a u11 hs]) (fun (u11 : Mem) => wM ct a u11 hs) 1 [0] [] 0 (kX8_exchange l D ct a w hs x1 x2 x3 _ hw) (cwV 3 X.1.2.2.2.2 gX8_layByNumbers_X8_exchange rfl rfl rfl (by decide +kernel) ⟨Nat.le_of_ble_eq_true rfl, Nat.le_of_ble_eq_true rfl⟩) dX8_layByNumbers_51 rfl rfl (Nat.le_of_ble_eq_true rfl) ⟨Nat.le_of_ble_eq_true rfl, Nat.le_of_ble_eq_true rfl⟩ rfl rfl rfl (by decide) (fun _ => rfl) (fun _ => rfl) (fun _ => rfl) (fun _ => rfl) rfl rfl rfl (fun u11 hw => ?_)
        obtain ⟨w12, hw12⟩ : ∃ z : Mem, z = u11 := ⟨_, rfl⟩
        rw [← hw12] at hw
        rw [← hw12]
        refine g_iinc X [(3, .int (x3 + 1)), (0, .ref (a 0)), (1, .int x1), (2, .int x2)] 3 dX8_layByNumbers_54 rfl rfl (by decide) rfl ?_
        refine g_goto X 19 dX8_layByNumbers_57 (by decide) ?_
        refine g_sub [(0, .ref (a 0)), (1, .int x1), (2, .int x2), (3, .int (x3 + 1))] [1, 2, 3, 0] rfl ?_
        exact ih _ _ _ _ hw

set_option maxHeartbeats 4000000 in
set_option maxRecDepth 20000 in
theorem kX8_layByNumbers_2 (l : Launch) (D : va_G) (ct : Nat → ClassId) (a : Nat → Nat) (hs : Int64) (post : Mem → Prop) {p : Program} {e : Env} {s : State} {m : MethodId} {args : Array Value} {below : List Frame} {meth : Method} {c : Code} {A : Nat → Prop} (X : Cx p s m args meth c cX8_layByNumbers 4 RX8 wsX8_layByNumbers D (tyz ct) A s.heap none)  :
    ∀ (n : Nat) (w : Mem) (x1 : Int32) (x2 : Int32), PX8_layByNumbers_2 hs post n w x1 x2 → GX8_layByNumbers l D ct a hs post p e s m args below meth c A (wM ct a w hs) [(0, .ref (a 0)), (1, .int x1), (2, .int x2)] 2 [] := by
  intro n
  induction n with
  | zero =>
    intro w x1 x2 hw
    exact hw.elim
  | succ n ih =>
    intro w x1 x2 hw
    unfold PX8_layByNumbers_2 at hw
    refine g_iload_n X 2 dX8_layByNumbers_2 rfl rfl ?_
    refine g_aload_n X 0 dX8_layByNumbers_3 rfl rfl ?_
    refine g_get (T := TX8) (C := RX8) (N := 21) (v := .ref (a 1)) X 0 0 (fun _ h => (List.mem_cons_of_mem _ (List.mem_append_right _ h))) (List.mem_of_getElem? (i := 1) rfl) dX8_layByNumbers_4 rfl rfl (by decide) rfl rfl ?_
    refine g_bipush (v := 63) X rfl dX8_layByNumbers_7 ?_
    refine g_iload_n X 1 dX8_layByNumbers_9 rfl rfl ?_
    refine g_iadd X dX8_layByNumbers_10 ?_
    obtain ⟨h1, hw⟩ := hw
    refine g_iald X 1 0 dX8_layByNumbers_11 rfl rfl h1 ?_
    refine g_icmp_ge X 66 dX8_layByNumbers_12 (by decide) (fun c2 => ?_) (fun c2 => ?_)
    · replace hw := hw.1 c2
      exact g_vret X w hw rfl (Nat.le_of_ble_eq_true rfl) (Nat.le_of_ble_eq_true rfl) dX8_layByNumbers_66
    · replace hw := hw.2 c2
      refine g_iload_n X 2 dX8_layByNumbers_15 rfl rfl ?_
      refine g_iconst (v := 1) X rfl dX8_layByNumbers_16 ?_
      refine g_iadd X dX8_layByNumbers_17 ?_
      refine g_topi (fun q3 hq3 => ?_)
      replace hw := hw q3 hq3
      refine g_istore_n X [(3, .int q3), (0, .ref (a 0)), (1, .int x1), (2, .int x2)] dX8_layByNumbers_18 rfl (by decide) rfl ?_
      refine g_sub [(0, .ref (a 0)), (1, .int x1), (2, .int x2), (3, .int q3)] [1, 2, 3, 0] rfl ?_
      obtain ⟨n13, hw⟩ := hw
      exact kX8_layByNumbers_19 l D ct a hs post _ X ih n13 _ _ _ _ hw

set_option maxHeartbeats 4000000 in
set_option maxRecDepth 20000 in
theorem kX8_layByNumbers (l : Launch) (D : va_G) (ct : Nat → ClassId) (a : Nat → Nat) (w : Mem) (hs : Int64) (p1 : Int32) (post : Mem → Prop) (hw : PX8_layByNumbers w hs p1 post) : Cv (S := Mem) l yX8_layByNumbers wsX8_layByNumbers rmX8_layByNumbers D (tyz ct) [.ref (a 0), .int p1] (wM ct a w hs) (fun (u9 : Mem) => post u9) (fun u9 => wM ct a u9 hs) 0 0 := by
  intro sz
  refine g_of (own := RX8) (by decide) rfl rfl (Nat.le_of_ble_eq_true rfl) [(0, .ref (a 0)), (1, .int p1)] rfl (fun p e s m args below meth c hsz X => ?_)
  subst hsz
  unfold PX8_layByNumbers at hw
  refine g_iconst (v := 0) X rfl dX8_layByNumbers_0 ?_
  refine g_istore_n X [(2, .int 0), (0, .ref (a 0)), (1, .int p1)] dX8_layByNumbers_1 rfl (by decide) rfl ?_
  refine g_sub [(0, .ref (a 0)), (1, .int p1), (2, .int 0)] [1, 2, 0] rfl ?_
  obtain ⟨n14, hw⟩ := hw
  exact kX8_layByNumbers_2 l D ct a hs post X n14 _ _ _ hw

abbrev rmX8_layNext : Room := { frames := 1, cells := 0, slots := 0, locals := 25 }

abbrev GX8_layNext (l : Launch) (D : va_G) (ct : Nat → ClassId) (a : Nat → Nat) (hs : Int64) (post : Int32 → Mem → Prop) (p : Program) (e : Env) (s : State) (m : MethodId) (args : Array Value) (below : List Frame) (meth : Method) (c : Code) (A : Nat → Prop) (w9 : va_W) (lv : List (Nat × Value)) (pc : Nat) (st : List Value) : Prop :=
  GG p l e rmX8_layNext s m args below meth c D A s.heap 7 (MQ below (va_Qi (fun r (u9 : Mem) => post r u9) (fun u9 t9 => Af D (tyz ct) A ((fun u9 => wM ct a u9 hs) u9) t9) A)  args s 0 0 A) w9 0 0 lv pc st

set_option maxHeartbeats 4000000 in
set_option maxRecDepth 20000 in
theorem kX8_layNext_92 (l : Launch) (D : va_G) (ct : Nat → ClassId) (a : Nat → Nat) (hs : Int64) (post : Int32 → Mem → Prop) {p : Program} {e : Env} {s : State} {m : MethodId} {args : Array Value} {below : List Frame} {meth : Method} {c : Code} {A : Nat → Prop} (X : Cx p s m args meth c cX8_layNext 7 RX8 wsX8_layNext D (tyz ct) A s.heap (some .boolean))  :
    ∀ (n : Nat) (w : Mem) (x1 : Int32) (x5 : Int32) (x6 : Int32), PX8_layNext_92 hs post n w x1 x5 x6 → GX8_layNext l D ct a hs post p e s m args below meth c A (wM ct a w hs) [(0, .ref (a 0)), (1, .int x1), (5, .int x5), (6, .int x6)] 92 [] := by
  intro n
  induction n with
  | zero =>
    intro w x1 x5 x6 hw
    exact hw.elim
  | succ n ih =>
    intro w x1 x5 x6 hw
    unfold PX8_layNext_92 at hw
    refine g_iload X 2 dX8_layNext_92 rfl ?_
    refine g_iload X 3 dX8_layNext_94 rfl ?_
    refine g_icmp_ge X 117 dX8_layNext_96 (by decide) (fun c16 => ?_) (fun c16 => ?_)
    · replace hw := hw.1 c16
      refine g_iconst (v := 1) X rfl dX8_layNext_117 ?_
      exact g_zret X w isB_1 hw rfl (Nat.le_of_ble_eq_true rfl) (Nat.le_of_ble_eq_true rfl) dX8_layNext_118
    · replace hw := hw.2 c16
      refine g_aload_n X 0 dX8_layNext_99 rfl rfl ?_
      refine g_iload_n X 1 dX8_layNext_100 rfl rfl ?_
      refine g_iload X 2 dX8_layNext_101 rfl ?_
      refine g_iload X 3 dX8_layNext_103 rfl ?_
      refine g_cvV X [wM ct a w hs] (fun (u17 : Mem) => [wM ct a u17 hs]) (fun (u17 : Mem) => wM ct a u17 hs) 1 [0] [] 0 (kX8_exchange l D ct a w hs x1 x5 x6 _ hw) (cwV 3 X.1.2.2.2.2 gX8_layNext_X8_exchange rfl rfl rfl (by decide +kernel) ⟨Nat.le_of_ble_eq_true rfl, Nat.le_of_ble_eq_true rfl⟩) dX8_layNext_105 rfl rfl (Nat.le_of_ble_eq_true rfl) ⟨Nat.le_of_ble_eq_true rfl, Nat.le_of_ble_eq_true rfl⟩ rfl rfl rfl (by decide) (fun _ => rfl) (fun _ => rfl) (fun _ => rfl) (fun _ => rfl) rfl rfl rfl (fun u17 hw => ?_)
      obtain ⟨w18, hw18⟩ : ∃ z : Mem, z = u17 := ⟨_, rfl⟩
      rw [← hw18] at hw
      rw [← hw18]
      refine g_iinc X [(5, .int (x5 + 1)), (0, .ref (a 0)), (1, .int x1), (6, .int x6)] 2 dX8_layNext_108 rfl rfl (by decide) rfl ?_
      refine g_iinc X [(6, .int (x6 + (-1))), (5, .int (x5 + 1)), (0, .ref (a 0)), (1, .int x1)] 3 dX8_layNext_111 rfl rfl (by decide) rfl ?_
      refine g_goto X 92 dX8_layNext_114 (by decide) ?_
      refine g_sub [(0, .ref (a 0)), (1, .int x1), (5, .int (x5 + 1)), (6, .int (x6 + (-1)))] [2, 3, 1, 0] rfl ?_
      exact ih _ _ _ _ hw

set_option maxHeartbeats 4000000 in
set_option maxRecDepth 20000 in
theorem kX8_layNext_52 (l : Launch) (D : va_G) (ct : Nat → ClassId) (a : Nat → Nat) (hs : Int64) (post : Int32 → Mem → Prop) {p : Program} {e : Env} {s : State} {m : MethodId} {args : Array Value} {below : List Frame} {meth : Method} {c : Code} {A : Nat → Prop} (X : Cx p s m args meth c cX8_layNext 7 RX8 wsX8_layNext D (tyz ct) A s.heap (some .boolean))  :
    ∀ (n : Nat) (w : Mem) (x1 : Int32) (x2 : Int32) (x3 : Int32) (x4 : Int32), PX8_layNext_52 hs post n w x1 x2 x3 x4 → GX8_layNext l D ct a hs post p e s m args below meth c A (wM ct a w hs) [(0, .ref (a 0)), (1, .int x1), (2, .int x2), (3, .int x3), (4, .int x4)] 52 [] := by
  intro n
  induction n with
  | zero =>
    intro w x1 x2 x3 x4 hw
    exact hw.elim
  | succ n ih =>
    intro w x1 x2 x3 x4 hw
    unfold PX8_layNext_52 at hw
    refine g_aload_n X 0 dX8_layNext_52 rfl rfl ?_
    refine g_iload_n X 1 dX8_layNext_53 rfl rfl ?_
    refine g_iload X 4 dX8_layNext_54 rfl ?_
    refine g_ciV X [wM ct a w hs] (fun (_ : Unit) => [wM ct a w hs]) (fun _ => wM ct a w hs) 1 [0] [] 0 (kX8_whoIs l D ct a w hs x1 x4 _ hw) (cwV 2 X.1.2.2.2.2 gX8_layNext_X8_whoIs rfl rfl rfl (by decide +kernel) ⟨Nat.le_of_ble_eq_true rfl, Nat.le_of_ble_eq_true rfl⟩) dX8_layNext_56 rfl rfl (Nat.le_of_ble_eq_true rfl) ⟨Nat.le_of_ble_eq_true rfl, Nat.le_of_ble_eq_true rfl⟩ rfl rfl rfl (by decide) (fun _ => rfl) (fun _ => rfl) (fun _ => rfl) (fun _ => rfl) rfl rfl rfl (fun r7 _ hw => ?_)
    refine g_aload_n X 0 dX8_layNext_59 rfl rfl ?_
    refine g_iload_n X 1 dX8_layNext_60 rfl rfl ?_
    refine g_iload_n X 3 dX8_layNext_61 rfl rfl ?_
    refine g_ciV X [wM ct a w hs] (fun (_ : Unit) => [wM ct a w hs]) (fun _ => wM ct a w hs) 1 [0] [] 0 (kX8_whoIs l D ct a w hs x1 x3 _ hw) (cwV 2 X.1.2.2.2.2 gX8_layNext_X8_whoIs rfl rfl rfl (by decide +kernel) ⟨Nat.le_of_ble_eq_true rfl, Nat.le_of_ble_eq_true rfl⟩) dX8_layNext_62 rfl rfl (Nat.le_of_ble_eq_true rfl) ⟨Nat.le_of_ble_eq_true rfl, Nat.le_of_ble_eq_true rfl⟩ rfl rfl rfl (by decide) (fun _ => rfl) (fun _ => rfl) (fun _ => rfl) (fun _ => rfl) rfl rfl rfl (fun r9 _ hw => ?_)
    refine g_icmp_ge X 74 dX8_layNext_65 (by decide) (fun c11 => ?_) (fun c11 => ?_)
    · replace hw := hw.1 c11
      refine g_aload_n X 0 dX8_layNext_74 rfl rfl ?_
      refine g_iload_n X 1 dX8_layNext_75 rfl rfl ?_
      refine g_iload_n X 3 dX8_layNext_76 rfl rfl ?_
      refine g_iload X 4 dX8_layNext_77 rfl ?_
      refine g_cvV X [wM ct a w hs] (fun (u12 : Mem) => [wM ct a u12 hs]) (fun (u12 : Mem) => wM ct a u12 hs) 1 [0] [] 0 (kX8_exchange l D ct a w hs x1 x3 x4 _ hw) (cwV 3 X.1.2.2.2.2 gX8_layNext_X8_exchange rfl rfl rfl (by decide +kernel) ⟨Nat.le_of_ble_eq_true rfl, Nat.le_of_ble_eq_true rfl⟩) dX8_layNext_79 rfl rfl (Nat.le_of_ble_eq_true rfl) ⟨Nat.le_of_ble_eq_true rfl, Nat.le_of_ble_eq_true rfl⟩ rfl rfl rfl (by decide) (fun _ => rfl) (fun _ => rfl) (fun _ => rfl) (fun _ => rfl) rfl rfl rfl (fun u12 hw => ?_)
      obtain ⟨w13, hw13⟩ : ∃ z : Mem, z = u12 := ⟨_, rfl⟩
      rw [← hw13] at hw
      rw [← hw13]
      refine g_iload_n X 3 dX8_layNext_82 rfl rfl ?_
      refine g_iconst (v := 1) X rfl dX8_layNext_83 ?_
      refine g_iadd X dX8_layNext_84 ?_
      refine g_topi (fun q14 hq14 => ?_)
      replace hw := hw q14 hq14
      refine g_istore X [(5, .int q14), (0, .ref (a 0)), (1, .int x1), (2, .int x2), (3, .int x3), (4, .int x4)] dX8_layNext_85 (by decide) rfl ?_
      refine g_iload_n X 3 dX8_layNext_87 rfl rfl ?_
      refine g_iconst (v := 1) X rfl dX8_layNext_88 ?_
      refine g_isub X dX8_layNext_89 ?_
      refine g_topi (fun q15 hq15 => ?_)
      replace hw := hw q15 hq15
      refine g_istore X [(6, .int q15), (5, .int q14), (0, .ref (a 0)), (1, .int x1), (2, .int x2), (3, .int x3), (4, .int x4)] dX8_layNext_90 (by decide) rfl ?_
      refine g_sub [(0, .ref (a 0)), (1, .int x1), (5, .int q14), (6, .int q15)] [2, 3, 1, 0] rfl ?_
      obtain ⟨n19, hw⟩ := hw
      exact kX8_layNext_92 l D ct a hs post X n19 _ _ _ _ hw
    · replace hw := hw.2 c11
      refine g_iinc X [(4, .int (x4 + (-1))), (0, .ref (a 0)), (1, .int x1), (2, .int x2), (3, .int x3)] 4 dX8_layNext_68 rfl rfl (by decide) rfl ?_
      refine g_goto X 52 dX8_layNext_71 (by decide) ?_
      refine g_sub [(0, .ref (a 0)), (1, .int x1), (2, .int x2), (3, .int x3), (4, .int (x4 + (-1)))] [1, 2, 3, 4, 0] rfl ?_
      exact ih _ _ _ _ _ hw

set_option maxHeartbeats 4000000 in
set_option maxRecDepth 20000 in
theorem kX8_layNext_41 (l : Launch) (D : va_G) (ct : Nat → ClassId) (a : Nat → Nat) (hs : Int64) (post : Int32 → Mem → Prop) {p : Program} {e : Env} {s : State} {m : MethodId} {args : Array Value} {below : List Frame} {meth : Method} {c : Code} {A : Nat → Prop} (X : Cx p s m args meth c cX8_layNext 7 RX8 wsX8_layNext D (tyz ct) A s.heap (some .boolean))  :
    ∀ (w : Mem) (x1 : Int32) (x2 : Int32) (x3 : Int32), PX8_layNext_41 hs post w x1 x2 x3 → GX8_layNext l D ct a hs post p e s m args below meth c A (wM ct a w hs) [(0, .ref (a 0)), (1, .int x1), (2, .int x2), (3, .int x3)] 41 [] := by
  intro w x1 x2 x3 hw
  unfold PX8_layNext_41 at hw
  refine g_iload_n X 3 dX8_layNext_41 rfl rfl ?_
  refine g_if_ge X 47 dX8_layNext_42 (by decide) (fun c5 => ?_) (fun c5 => ?_)
  · replace hw := hw.1 c5
    refine g_iload_n X 2 dX8_layNext_47 rfl rfl ?_
    refine g_iconst (v := 1) X rfl dX8_layNext_48 ?_
    refine g_isub X dX8_layNext_49 ?_
    refine g_topi (fun q6 hq6 => ?_)
    replace hw := hw q6 hq6
    refine g_istore X [(4, .int q6), (0, .ref (a 0)), (1, .int x1), (2, .int x2), (3, .int x3)] dX8_layNext_50 (by decide) rfl ?_
    refine g_sub [(0, .ref (a 0)), (1, .int x1), (2, .int x2), (3, .int x3), (4, .int q6)] [1, 2, 3, 4, 0] rfl ?_
    obtain ⟨n20, hw⟩ := hw
    exact kX8_layNext_52 l D ct a hs post X n20 _ _ _ _ _ hw
  · replace hw := hw.2 c5
    refine g_iconst (v := 0) X rfl dX8_layNext_45 ?_
    exact g_zret X w isB_0 hw rfl (Nat.le_of_ble_eq_true rfl) (Nat.le_of_ble_eq_true rfl) dX8_layNext_46

set_option maxHeartbeats 4000000 in
set_option maxRecDepth 20000 in
theorem kX8_layNext_14 (l : Launch) (D : va_G) (ct : Nat → ClassId) (a : Nat → Nat) (hs : Int64) (post : Int32 → Mem → Prop) {p : Program} {e : Env} {s : State} {m : MethodId} {args : Array Value} {below : List Frame} {meth : Method} {c : Code} {A : Nat → Prop} (X : Cx p s m args meth c cX8_layNext 7 RX8 wsX8_layNext D (tyz ct) A s.heap (some .boolean))  :
    ∀ (n : Nat) (w : Mem) (x1 : Int32) (x2 : Int32) (x3 : Int32), PX8_layNext_14 hs post n w x1 x2 x3 → GX8_layNext l D ct a hs post p e s m args below meth c A (wM ct a w hs) [(0, .ref (a 0)), (1, .int x1), (2, .int x2), (3, .int x3)] 14 [] := by
  intro n
  induction n with
  | zero =>
    intro w x1 x2 x3 hw
    exact hw.elim
  | succ n ih =>
    intro w x1 x2 x3 hw
    unfold PX8_layNext_14 at hw
    refine g_iload_n X 3 dX8_layNext_14 rfl rfl ?_
    refine g_if_lt X 41 dX8_layNext_15 (by decide) (fun c4 => ?_) (fun c4 => ?_)
    · replace hw := hw.1 c4
      refine g_sub [(0, .ref (a 0)), (1, .int x1), (2, .int x2), (3, .int x3)] [0, 1, 2, 3] rfl ?_
      exact kX8_layNext_41 l D ct a hs post X _ _ _ _ hw
    · replace hw := hw.2 c4
      refine g_aload_n X 0 dX8_layNext_18 rfl rfl ?_
      refine g_iload_n X 1 dX8_layNext_19 rfl rfl ?_
      refine g_iload_n X 3 dX8_layNext_20 rfl rfl ?_
      refine g_ciV X [wM ct a w hs] (fun (_ : Unit) => [wM ct a w hs]) (fun _ => wM ct a w hs) 1 [0] [] 0 (kX8_whoIs l D ct a w hs x1 x3 _ hw) (cwV 2 X.1.2.2.2.2 gX8_layNext_X8_whoIs rfl rfl rfl (by decide +kernel) ⟨Nat.le_of_ble_eq_true rfl, Nat.le_of_ble_eq_true rfl⟩) dX8_layNext_21 rfl rfl (Nat.le_of_ble_eq_true rfl) ⟨Nat.le_of_ble_eq_true rfl, Nat.le_of_ble_eq_true rfl⟩ rfl rfl rfl (by decide) (fun _ => rfl) (fun _ => rfl) (fun _ => rfl) (fun _ => rfl) rfl rfl rfl (fun r21 _ hw => ?_)
      refine g_aload_n X 0 dX8_layNext_24 rfl rfl ?_
      refine g_iload_n X 1 dX8_layNext_25 rfl rfl ?_
      refine g_iload_n X 3 dX8_layNext_26 rfl rfl ?_
      refine g_iconst (v := 1) X rfl dX8_layNext_27 ?_
      refine g_iadd X dX8_layNext_28 ?_
      refine g_ciV X [wM ct a w hs] (fun (_ : Unit) => [wM ct a w hs]) (fun _ => wM ct a w hs) 1 [0] [] 0 (kX8_whoIs l D ct a w hs x1 (x3 + 1) _ hw) (cwV 2 X.1.2.2.2.2 gX8_layNext_X8_whoIs rfl rfl rfl (by decide +kernel) ⟨Nat.le_of_ble_eq_true rfl, Nat.le_of_ble_eq_true rfl⟩) dX8_layNext_29 rfl rfl (Nat.le_of_ble_eq_true rfl) ⟨Nat.le_of_ble_eq_true rfl, Nat.le_of_ble_eq_true rfl⟩ rfl rfl rfl (by decide) (fun _ => rfl) (fun _ => rfl) (fun _ => rfl) (fun _ => rfl) rfl rfl rfl (fun r23 _ hw => ?_)
      refine g_icmp_le X 41 dX8_layNext_32 (by decide) (fun c25 => ?_) (fun c25 => ?_)
      · replace hw := hw.1 c25
        refine g_sub [(0, .ref (a 0)), (1, .int x1), (2, .int x2), (3, .int x3)] [0, 1, 2, 3] rfl ?_
        exact kX8_layNext_41 l D ct a hs post X _ _ _ _ hw
      · replace hw := hw.2 c25
        refine g_iinc X [(3, .int (x3 + (-1))), (0, .ref (a 0)), (1, .int x1), (2, .int x2)] 3 dX8_layNext_35 rfl rfl (by decide) rfl ?_
        refine g_goto X 14 dX8_layNext_38 (by decide) ?_
        refine g_sub [(0, .ref (a 0)), (1, .int x1), (2, .int x2), (3, .int (x3 + (-1)))] [1, 2, 3, 0] rfl ?_
        exact ih _ _ _ _ hw

set_option maxHeartbeats 4000000 in
set_option maxRecDepth 20000 in
theorem kX8_layNext (l : Launch) (D : va_G) (ct : Nat → ClassId) (a : Nat → Nat) (w : Mem) (hs : Int64) (p1 : Int32) (post : Int32 → Mem → Prop) (hw : PX8_layNext w hs p1 post) : Ci (S := Mem) l yX8_layNext wsX8_layNext rmX8_layNext D (tyz ct) [.ref (a 0), .int p1] (wM ct a w hs) (fun r (u9 : Mem) => post r u9) (fun u9 => wM ct a u9 hs) 0 0 := by
  intro sz
  refine g_of (own := RX8) (by decide) rfl rfl (Nat.le_of_ble_eq_true rfl) [(0, .ref (a 0)), (1, .int p1)] rfl (fun p e s m args below meth c hsz X => ?_)
  subst hsz
  unfold PX8_layNext at hw
  refine g_aload_n X 0 dX8_layNext_0 rfl rfl ?_
  refine g_get (T := TX8) (C := RX8) (N := 21) (v := .ref (a 1)) X 0 0 (fun _ h => (List.mem_cons_of_mem _ (List.mem_append_right _ h))) (List.mem_of_getElem? (i := 1) rfl) dX8_layNext_1 rfl rfl (by decide) rfl rfl ?_
  refine g_bipush (v := 63) X rfl dX8_layNext_4 ?_
  refine g_iload_n X 1 dX8_layNext_6 rfl rfl ?_
  refine g_iadd X dX8_layNext_7 ?_
  obtain ⟨h1, hw⟩ := hw
  refine g_iald X 1 0 dX8_layNext_8 rfl rfl h1 ?_
  refine g_topi (fun q2 hq2 => ?_)
  replace hw := hw q2 hq2
  refine g_istore_n X [(2, .int q2), (0, .ref (a 0)), (1, .int p1)] dX8_layNext_9 rfl (by decide) rfl ?_
  refine g_iload_n X 0 dX8_layNext_10 rfl rfl ?_
  refine g_iconst (v := 2) X rfl dX8_layNext_11 ?_
  refine g_isub X dX8_layNext_12 ?_
  refine g_topi (fun q3 hq3 => ?_)
  replace hw := hw q3 hq3
  refine g_istore_n X [(3, .int q3), (2, .int q2), (0, .ref (a 0)), (1, .int p1)] dX8_layNext_13 rfl (by decide) rfl ?_
  refine g_sub [(0, .ref (a 0)), (1, .int p1), (2, .int q2), (3, .int q3)] [2, 3, 1, 0] rfl ?_
  obtain ⟨n26, hw⟩ := hw
  exact kX8_layNext_14 l D ct a hs post X n26 _ _ _ _ hw

abbrev rmX8_leastOf : Room := { frames := 6, cells := 0, slots := 0, locals := 134 }

abbrev GX8_leastOf (l : Launch) (D : va_G) (ct : Nat → ClassId) (a : Nat → Nat) (hs : Int64) (post : Int32 → Mem → Prop) (p : Program) (e : Env) (s : State) (m : MethodId) (args : Array Value) (below : List Frame) (meth : Method) (c : Code) (A : Nat → Prop) (w9 : va_W) (lv : List (Nat × Value)) (pc : Nat) (st : List Value) : Prop :=
  GG p l e rmX8_leastOf s m args below meth c D A s.heap 6 (MQ below (va_Qi (fun r (u9 : Mem) => post r u9) (fun u9 t9 => Af D (tyz ct) A ((fun u9 => wM ct a u9 hs) u9) t9) A)  args s 0 0 A) w9 0 0 lv pc st

set_option maxHeartbeats 4000000 in
set_option maxRecDepth 20000 in
theorem kX8_leastOf_69 (l : Launch) (D : va_G) (ct : Nat → ClassId) (a : Nat → Nat) (hs : Int64) (post : Int32 → Mem → Prop) (K14 : Mem → Int32 → Int32 → Int32 → Prop) {p : Program} {e : Env} {s : State} {m : MethodId} {args : Array Value} {below : List Frame} {meth : Method} {c : Code} {A : Nat → Prop} (X : Cx p s m args meth c cX8_leastOf 6 RX8 wsX8_leastOf D (tyz ct) A s.heap (some .int)) (hK14 : ∀ (w : Mem) (x1 : Int32) (x2 : Int32) (x3 : Int32), K14 w x1 x2 x3 → GX8_leastOf l D ct a hs post p e s m args below meth c A (wM ct a w hs) [(0, .ref (a 0)), (1, .int x1), (2, .int x2), (3, .int x3)] 14 []) :
    ∀ (w : Mem) (x1 : Int32) (x2 : Int32), PX8_leastOf_69 hs post K14 w x1 x2 → GX8_leastOf l D ct a hs post p e s m args below meth c A (wM ct a w hs) [(0, .ref (a 0)), (1, .int x1), (2, .int x2)] 69 [] := by
  intro w x1 x2 hw
  unfold PX8_leastOf_69 at hw
  refine g_aload_n X 0 dX8_leastOf_69 rfl rfl ?_
  refine g_iload_n X 1 dX8_leastOf_70 rfl rfl ?_
  refine g_ciV X [wM ct a w hs] (fun (u14 : Mem) => [wM ct a u14 hs]) (fun (u14 : Mem) => wM ct a u14 hs) 1 [0] [] 0 (kX8_layNext l D ct a w hs x1 _ hw) (cwV 1 X.1.2.2.2.2 gX8_leastOf_X8_layNext rfl rfl rfl (by decide +kernel) ⟨Nat.le_of_ble_eq_true rfl, Nat.le_of_ble_eq_true rfl⟩) dX8_leastOf_71 rfl rfl (Nat.le_of_ble_eq_true rfl) ⟨Nat.le_of_ble_eq_true rfl, Nat.le_of_ble_eq_true rfl⟩ rfl rfl rfl (by decide) (fun _ => rfl) (fun _ => rfl) (fun _ => rfl) (fun _ => rfl) rfl rfl rfl (fun r13 u14 hw => ?_)
  obtain ⟨w15, hw15⟩ : ∃ z : Mem, z = u14 := ⟨_, rfl⟩
  rw [← hw15] at hw
  rw [← hw15]
  refine g_istore_n X [(3, .int r13), (0, .ref (a 0)), (1, .int x1), (2, .int x2)] dX8_leastOf_74 rfl (by decide) rfl ?_
  refine g_goto X 14 dX8_leastOf_75 (by decide) ?_
  refine g_sub [(0, .ref (a 0)), (1, .int x1), (2, .int x2), (3, .int r13)] [1, 2, 3, 0] rfl ?_
  exact hK14 _ _ _ _ hw

set_option maxHeartbeats 4000000 in
set_option maxRecDepth 20000 in
theorem kX8_leastOf_42 (l : Launch) (D : va_G) (ct : Nat → ClassId) (a : Nat → Nat) (hs : Int64) (post : Int32 → Mem → Prop) (K14 : Mem → Int32 → Int32 → Int32 → Prop) {p : Program} {e : Env} {s : State} {m : MethodId} {args : Array Value} {below : List Frame} {meth : Method} {c : Code} {A : Nat → Prop} (X : Cx p s m args meth c cX8_leastOf 6 RX8 wsX8_leastOf D (tyz ct) A s.heap (some .int)) (hK14 : ∀ (w : Mem) (x1 : Int32) (x2 : Int32) (x3 : Int32), K14 w x1 x2 x3 → GX8_leastOf l D ct a hs post p e s m args below meth c A (wM ct a w hs) [(0, .ref (a 0)), (1, .int x1), (2, .int x2), (3, .int x3)] 14 []) :
    ∀ (n : Nat) (w : Mem) (x1 : Int32) (x2 : Int32) (x5 : Int32), PX8_leastOf_42 hs post K14 n w x1 x2 x5 → GX8_leastOf l D ct a hs post p e s m args below meth c A (wM ct a w hs) [(0, .ref (a 0)), (1, .int x1), (2, .int x2), (5, .int x5)] 42 [] := by
  intro n
  induction n with
  | zero =>
    intro w x1 x2 x5 hw
    exact hw.elim
  | succ n ih =>
    intro w x1 x2 x5 hw
    unfold PX8_leastOf_42 at hw
    refine g_iload X 3 dX8_leastOf_42 rfl ?_
    refine g_bipush (v := 6) X rfl dX8_leastOf_44 ?_
    refine g_icmp_ge X 69 dX8_leastOf_46 (by decide) (fun c12 => ?_) (fun c12 => ?_)
    · replace hw := hw.1 c12
      refine g_sub [(0, .ref (a 0)), (1, .int x1), (2, .int x2)] [0, 1, 2] rfl ?_
      exact kX8_leastOf_69 l D ct a hs post _ X hK14 _ _ _ hw
    · replace hw := hw.2 c12
      refine g_aload_n X 0 dX8_leastOf_49 rfl rfl ?_
      refine g_get (T := TX8) (C := RX8) (N := 21) (v := .ref (a 12)) X 0 11 (fun _ h => (List.mem_cons_of_mem _ (List.mem_append_right _ h))) (List.mem_of_getElem? (i := 1) rfl) dX8_leastOf_50 rfl rfl (by decide) rfl rfl ?_
      refine g_iload X 3 dX8_leastOf_53 rfl ?_
      refine g_aload_n X 0 dX8_leastOf_55 rfl rfl ?_
      refine g_iload_n X 1 dX8_leastOf_56 rfl rfl ?_
      refine g_iload X 3 dX8_leastOf_57 rfl ?_
      refine g_ciV X [wM ct a w hs] (fun (_ : Unit) => [wM ct a w hs]) (fun _ => wM ct a w hs) 1 [0] [] 0 (kX8_whoIs l D ct a w hs x1 x5 _ hw) (cwV 2 X.1.2.2.2.2 gX8_leastOf_X8_whoIs rfl rfl rfl (by decide +kernel) ⟨Nat.le_of_ble_eq_true rfl, Nat.le_of_ble_eq_true rfl⟩) dX8_leastOf_59 rfl rfl (Nat.le_of_ble_eq_true rfl) ⟨Nat.le_of_ble_eq_true rfl, Nat.le_of_ble_eq_true rfl⟩ rfl rfl rfl (by decide) (fun _ => rfl) (fun _ => rfl) (fun _ => rfl) (fun _ => rfl) rfl rfl rfl (fun r16 _ hw => ?_)
      obtain ⟨h18, hw⟩ := hw
      refine g_iast X (fun z => wM ct a z hs) w 11 9 0 dX8_leastOf_62 rfl rfl h18 rfl (fun w19 hw19 => ?_)
      replace hw := hw w19 hw19
      refine g_iinc X [(5, .int (x5 + 1)), (0, .ref (a 0)), (1, .int x1), (2, .int x2)] 3 dX8_leastOf_63 rfl rfl (by decide) rfl ?_
      refine g_goto X 42 dX8_leastOf_66 (by decide) ?_
      refine g_sub [(0, .ref (a 0)), (1, .int x1), (2, .int x2), (5, .int (x5 + 1))] [1, 2, 3, 0] rfl ?_
      exact ih _ _ _ _ hw

set_option maxHeartbeats 4000000 in
set_option maxRecDepth 20000 in
theorem kX8_leastOf_14 (l : Launch) (D : va_G) (ct : Nat → ClassId) (a : Nat → Nat) (hs : Int64) (post : Int32 → Mem → Prop) {p : Program} {e : Env} {s : State} {m : MethodId} {args : Array Value} {below : List Frame} {meth : Method} {c : Code} {A : Nat → Prop} (X : Cx p s m args meth c cX8_leastOf 6 RX8 wsX8_leastOf D (tyz ct) A s.heap (some .int))  :
    ∀ (n : Nat) (w : Mem) (x1 : Int32) (x2 : Int32) (x3 : Int32), PX8_leastOf_14 hs post n w x1 x2 x3 → GX8_leastOf l D ct a hs post p e s m args below meth c A (wM ct a w hs) [(0, .ref (a 0)), (1, .int x1), (2, .int x2), (3, .int x3)] 14 [] := by
  intro n
  induction n with
  | zero =>
    intro w x1 x2 x3 hw
    exact hw.elim
  | succ n ih =>
    intro w x1 x2 x3 hw
    unfold PX8_leastOf_14 at hw
    refine g_iload_n X 3 dX8_leastOf_14 rfl rfl ?_
    refine g_if_eq X 78 dX8_leastOf_15 (by decide) (fun c5 => ?_) (fun c5 => ?_)
    · replace hw := hw.1 c5
      refine g_aload_n X 0 dX8_leastOf_78 rfl rfl ?_
      refine g_iload_n X 1 dX8_leastOf_79 rfl rfl ?_
      refine g_cvV X [wM ct a w hs] (fun (u6 : Mem) => [wM ct a u6 hs]) (fun (u6 : Mem) => wM ct a u6 hs) 1 [0] [] 0 (kX8_layBack l D ct a w hs x1 _ hw) (cwV 1 X.1.2.2.2.2 gX8_leastOf_X8_layBack rfl rfl rfl (by decide +kernel) ⟨Nat.le_of_ble_eq_true rfl, Nat.le_of_ble_eq_true rfl⟩) dX8_leastOf_80 rfl rfl (Nat.le_of_ble_eq_true rfl) ⟨Nat.le_of_ble_eq_true rfl, Nat.le_of_ble_eq_true rfl⟩ rfl rfl rfl (by decide) (fun _ => rfl) (fun _ => rfl) (fun _ => rfl) (fun _ => rfl) rfl rfl rfl (fun u6 hw => ?_)
      obtain ⟨w7, hw7⟩ : ∃ z : Mem, z = u6 := ⟨_, rfl⟩
      rw [← hw7] at hw
      rw [← hw7]
      refine g_iload_n X 2 dX8_leastOf_83 rfl rfl ?_
      exact g_iret X w7 hw rfl (Nat.le_of_ble_eq_true rfl) (Nat.le_of_ble_eq_true rfl) dX8_leastOf_84
    · replace hw := hw.2 c5
      refine g_aload_n X 0 dX8_leastOf_18 rfl rfl ?_
      refine g_iload_n X 1 dX8_leastOf_19 rfl rfl ?_
      refine g_ciV X [wM ct a w hs] (fun (u9 : Mem) => [wM ct a u9 hs]) (fun (u9 : Mem) => wM ct a u9 hs) 1 [0] [] 0 (kX8_crossingsAt l D ct a w hs x1 _ hw) (cwV 1 X.1.2.2.2.2 gX8_leastOf_X8_crossingsAt rfl rfl rfl (by decide +kernel) ⟨Nat.le_of_ble_eq_true rfl, Nat.le_of_ble_eq_true rfl⟩) dX8_leastOf_20 rfl rfl (Nat.le_of_ble_eq_true rfl) ⟨Nat.le_of_ble_eq_true rfl, Nat.le_of_ble_eq_true rfl⟩ rfl rfl rfl (by decide) (fun _ => rfl) (fun _ => rfl) (fun _ => rfl) (fun _ => rfl) rfl rfl rfl (fun r8 u9 hw => ?_)
      obtain ⟨w10, hw10⟩ : ∃ z : Mem, z = u9 := ⟨_, rfl⟩
      rw [← hw10] at hw
      rw [← hw10]
      refine g_istore X [(4, .int r8), (0, .ref (a 0)), (1, .int x1), (2, .int x2), (3, .int x3)] dX8_leastOf_23 (by decide) rfl ?_
      refine g_iload_n X 3 dX8_leastOf_25 rfl rfl ?_
      refine g_iconst (v := (-1)) X rfl dX8_leastOf_26 ?_
      refine g_icmp_eq X 36 dX8_leastOf_27 (by decide) (fun c11 => ?_) (fun c11 => ?_)
      · replace hw := hw.1 c11
        refine g_iload X 0 dX8_leastOf_36 rfl ?_
        refine g_istore_n X [(2, .int r8), (4, .int r8), (0, .ref (a 0)), (1, .int x1), (3, .int x3)] dX8_leastOf_38 rfl (by decide) rfl ?_
        refine g_iconst (v := 0) X rfl dX8_leastOf_39 ?_
        refine g_istore X [(5, .int 0), (2, .int r8), (4, .int r8), (0, .ref (a 0)), (1, .int x1), (3, .int x3)] dX8_leastOf_40 (by decide) rfl ?_
        refine g_sub [(0, .ref (a 0)), (1, .int x1), (2, .int r8), (5, .int 0)] [3, 4, 1, 0] rfl ?_
        obtain ⟨n20, hw⟩ := hw
        exact kX8_leastOf_42 l D ct a hs post _ X ih n20 _ _ _ _ hw
      · replace hw := hw.2 c11
        refine g_iload X 0 dX8_leastOf_30 rfl ?_
        refine g_iload_n X 3 dX8_leastOf_32 rfl rfl ?_
        refine g_icmp_ge X 69 dX8_leastOf_33 (by decide) (fun c21 => ?_) (fun c21 => ?_)
        · replace hw := hw.1 c21
          refine g_sub [(0, .ref (a 0)), (1, .int x1), (2, .int x2)] [1, 2, 3] rfl ?_
          exact kX8_leastOf_69 l D ct a hs post _ X ih _ _ _ hw
        · replace hw := hw.2 c21
          refine g_iload X 0 dX8_leastOf_36 rfl ?_
          refine g_istore_n X [(2, .int r8), (4, .int r8), (0, .ref (a 0)), (1, .int x1), (3, .int x3)] dX8_leastOf_38 rfl (by decide) rfl ?_
          refine g_iconst (v := 0) X rfl dX8_leastOf_39 ?_
          refine g_istore X [(5, .int 0), (2, .int r8), (4, .int r8), (0, .ref (a 0)), (1, .int x1), (3, .int x3)] dX8_leastOf_40 (by decide) rfl ?_
          refine g_sub [(0, .ref (a 0)), (1, .int x1), (2, .int r8), (5, .int 0)] [3, 4, 1, 0] rfl ?_
          obtain ⟨n22, hw⟩ := hw
          exact kX8_leastOf_42 l D ct a hs post _ X ih n22 _ _ _ _ hw

set_option maxHeartbeats 4000000 in
set_option maxRecDepth 20000 in
theorem kX8_leastOf (l : Launch) (D : va_G) (ct : Nat → ClassId) (a : Nat → Nat) (w : Mem) (hs : Int64) (p1 : Int32) (post : Int32 → Mem → Prop) (hw : PX8_leastOf w hs p1 post) : Ci (S := Mem) l yX8_leastOf wsX8_leastOf rmX8_leastOf D (tyz ct) [.ref (a 0), .int p1] (wM ct a w hs) (fun r (u9 : Mem) => post r u9) (fun u9 => wM ct a u9 hs) 0 0 := by
  intro sz
  refine g_of (own := RX8) (by decide) rfl rfl (Nat.le_of_ble_eq_true rfl) [(0, .ref (a 0)), (1, .int p1)] rfl (fun p e s m args below meth c hsz X => ?_)
  subst hsz
  unfold PX8_leastOf at hw
  refine g_aload_n X 0 dX8_leastOf_0 rfl rfl ?_
  refine g_iload_n X 1 dX8_leastOf_1 rfl rfl ?_
  refine g_cvV X [wM ct a w hs] (fun (u1 : Mem) => [wM ct a u1 hs]) (fun (u1 : Mem) => wM ct a u1 hs) 1 [0] [] 0 (kX8_remember l D ct a w hs p1 _ hw) (cwV 1 X.1.2.2.2.2 gX8_leastOf_X8_remember rfl rfl rfl (by decide +kernel) ⟨Nat.le_of_ble_eq_true rfl, Nat.le_of_ble_eq_true rfl⟩) dX8_leastOf_2 rfl rfl (Nat.le_of_ble_eq_true rfl) ⟨Nat.le_of_ble_eq_true rfl, Nat.le_of_ble_eq_true rfl⟩ rfl rfl rfl (by decide) (fun _ => rfl) (fun _ => rfl) (fun _ => rfl) (fun _ => rfl) rfl rfl rfl (fun u1 hw => ?_)
  obtain ⟨w2, hw2⟩ : ∃ z : Mem, z = u1 := ⟨_, rfl⟩
  rw [← hw2] at hw
  rw [← hw2]
  refine g_aload_n X 0 dX8_leastOf_5 rfl rfl ?_
  refine g_iload_n X 1 dX8_leastOf_6 rfl rfl ?_
  refine g_cvV X [wM ct a w2 hs] (fun (u3 : Mem) => [wM ct a u3 hs]) (fun (u3 : Mem) => wM ct a u3 hs) 1 [0] [] 0 (kX8_layByNumbers l D ct a w2 hs p1 _ hw) (cwV 1 X.1.2.2.2.2 gX8_leastOf_X8_layByNumbers rfl rfl rfl (by decide +kernel) ⟨Nat.le_of_ble_eq_true rfl, Nat.le_of_ble_eq_true rfl⟩) dX8_leastOf_7 rfl rfl (Nat.le_of_ble_eq_true rfl) ⟨Nat.le_of_ble_eq_true rfl, Nat.le_of_ble_eq_true rfl⟩ rfl rfl rfl (by decide) (fun _ => rfl) (fun _ => rfl) (fun _ => rfl) (fun _ => rfl) rfl rfl rfl (fun u3 hw => ?_)
  obtain ⟨w4, hw4⟩ : ∃ z : Mem, z = u3 := ⟨_, rfl⟩
  rw [← hw4] at hw
  rw [← hw4]
  refine g_iconst (v := (-1)) X rfl dX8_leastOf_10 ?_
  refine g_istore_n X [(2, .int ((-1))), (0, .ref (a 0)), (1, .int p1)] dX8_leastOf_11 rfl (by decide) rfl ?_
  refine g_iconst (v := 1) X rfl dX8_leastOf_12 ?_
  refine g_istore_n X [(3, .int 1), (2, .int ((-1))), (0, .ref (a 0)), (1, .int p1)] dX8_leastOf_13 rfl (by decide) rfl ?_
  refine g_sub [(0, .ref (a 0)), (1, .int p1), (2, .int ((-1))), (3, .int 1)] [2, 3, 1, 0] rfl ?_
  obtain ⟨n23, hw⟩ := hw
  exact kX8_leastOf_14 l D ct a hs post X n23 _ _ _ _ hw

abbrev rmX8_untangle : Room := { frames := 7, cells := 0, slots := 0, locals := 159 }

abbrev GX8_untangle (l : Launch) (D : va_G) (ct : Nat → ClassId) (a : Nat → Nat) (hs : Int64) (post : Int32 → Mem → Prop) (p : Program) (e : Env) (s : State) (m : MethodId) (args : Array Value) (below : List Frame) (meth : Method) (c : Code) (A : Nat → Prop) (w9 : va_W) (lv : List (Nat × Value)) (pc : Nat) (st : List Value) : Prop :=
  GG p l e rmX8_untangle s m args below meth c D A s.heap 4 (MQ below (va_Qi (fun r (u9 : Mem) => post r u9) (fun u9 t9 => Af D (tyz ct) A ((fun u9 => wM ct a u9 hs) u9) t9) A)  args s 0 0 A) w9 0 0 lv pc st

set_option maxHeartbeats 4000000 in
set_option maxRecDepth 20000 in
theorem kX8_untangle_30 (l : Launch) (D : va_G) (ct : Nat → ClassId) (a : Nat → Nat) (hs : Int64) (post : Int32 → Mem → Prop) {p : Program} {e : Env} {s : State} {m : MethodId} {args : Array Value} {below : List Frame} {meth : Method} {c : Code} {A : Nat → Prop} (X : Cx p s m args meth c cX8_untangle 4 RX8 wsX8_untangle D (tyz ct) A s.heap (some .int))  :
    ∀ (n : Nat) (w : Mem) (x1 : Int32) (x2 : Int32) (x3 : Int32), PX8_untangle_30 hs post n w x1 x2 x3 → GX8_untangle l D ct a hs post p e s m args below meth c A (wM ct a w hs) [(0, .ref (a 0)), (1, .int x1), (2, .int x2), (3, .int x3)] 30 [] := by
  intro n
  induction n with
  | zero =>
    intro w x1 x2 x3 hw
    exact hw.elim
  | succ n ih =>
    intro w x1 x2 x3 hw
    unfold PX8_untangle_30 at hw
    refine g_iload_n X 3 dX8_untangle_30 rfl rfl ?_
    refine g_bipush (v := 6) X rfl dX8_untangle_31 ?_
    refine g_icmp_ge X 62 dX8_untangle_33 (by decide) (fun c10 => ?_) (fun c10 => ?_)
    · replace hw := hw.1 c10
      refine g_iload_n X 2 dX8_untangle_62 rfl rfl ?_
      exact g_iret X w hw rfl (Nat.le_of_ble_eq_true rfl) (Nat.le_of_ble_eq_true rfl) dX8_untangle_63
    · replace hw := hw.2 c10
      refine g_aload_n X 0 dX8_untangle_36 rfl rfl ?_
      refine g_get (T := TX8) (C := RX8) (N := 21) (v := .ref (a 1)) X 0 0 (fun _ h => (List.mem_cons_of_mem _ (List.mem_append_right _ h))) (List.mem_of_getElem? (i := 2) rfl) dX8_untangle_37 rfl rfl (by decide) rfl rfl ?_
      refine g_bipush (v := 67) X rfl dX8_untangle_40 ?_
      refine g_bipush (v := 6) X rfl dX8_untangle_42 ?_
      refine g_iload_n X 1 dX8_untangle_44 rfl rfl ?_
      refine g_imul X dX8_untangle_45 ?_
      refine g_iadd X dX8_untangle_46 ?_
      refine g_iload_n X 3 dX8_untangle_47 rfl rfl ?_
      refine g_iadd X dX8_untangle_48 ?_
      refine g_aload_n X 0 dX8_untangle_49 rfl rfl ?_
      refine g_get (T := TX8) (C := RX8) (N := 21) (v := .ref (a 12)) X 0 11 (fun _ h => (List.mem_cons_of_mem _ (List.mem_append_right _ h))) (List.mem_of_getElem? (i := 3) rfl) dX8_untangle_50 rfl rfl (by decide) rfl rfl ?_
      refine g_iload_n X 3 dX8_untangle_53 rfl rfl ?_
      obtain ⟨h11, hw⟩ := hw
      refine g_iald X 9 0 dX8_untangle_54 rfl rfl h11 ?_
      obtain ⟨h12, hw⟩ := hw
      refine g_iast X (fun z => wM ct a z hs) w 0 1 0 dX8_untangle_55 rfl rfl h12 rfl (fun w13 hw13 => ?_)
      replace hw := hw w13 hw13
      refine g_iinc X [(3, .int (x3 + 1)), (0, .ref (a 0)), (1, .int x1), (2, .int x2)] 3 dX8_untangle_56 rfl rfl (by decide) rfl ?_
      refine g_goto X 30 dX8_untangle_59 (by decide) ?_
      refine g_sub [(0, .ref (a 0)), (1, .int x1), (2, .int x2), (3, .int (x3 + 1))] [1, 2, 3, 0] rfl ?_
      exact ih _ _ _ _ hw

set_option maxHeartbeats 4000000 in
set_option maxRecDepth 20000 in
theorem kX8_untangle (l : Launch) (D : va_G) (ct : Nat → ClassId) (a : Nat → Nat) (w : Mem) (hs : Int64) (p1 : Int32) (post : Int32 → Mem → Prop) (hw : PX8_untangle w hs p1 post) : Ci (S := Mem) l yX8_untangle wsX8_untangle rmX8_untangle D (tyz ct) [.ref (a 0), .int p1] (wM ct a w hs) (fun r (u9 : Mem) => post r u9) (fun u9 => wM ct a u9 hs) 0 0 := by
  intro sz
  refine g_of (own := RX8) (by decide) rfl rfl (Nat.le_of_ble_eq_true rfl) [(0, .ref (a 0)), (1, .int p1)] rfl (fun p e s m args below meth c hsz X => ?_)
  subst hsz
  unfold PX8_untangle at hw
  refine g_aload_n X 0 dX8_untangle_0 rfl rfl ?_
  refine g_iconst (v := 0) X rfl dX8_untangle_1 ?_
  refine g_put (T := TX8) (C := RX8) (N := 21) X (fun z => wM ct a z hs) w 0 5 tyX8 tyX8_ok nmX8 (fun _ h => (List.mem_cons_of_mem _ (List.mem_append_right _ h))) (List.mem_of_getElem? (i := 1) rfl) dX8_untangle_2 rfl rfl (by decide) rfl rfl (by decide +kernel) (Nat.le_of_ble_eq_true rfl) rfl (fun w1 hw1 => ?_)
  replace hw := hw w1 hw1
  refine g_iload_n X 1 dX8_untangle_5 rfl rfl ?_
  refine g_ciS X [wM ct a w1 hs] (fun (_ : Unit) => [wM ct a w1 hs]) (fun _ => wM ct a w1 hs) 1 [] [0] (kX8_isRow l D ct  p1 _ hw) (va_cwS 1 X.1.2.2.2.2 gX8_untangle_X8_isRow rfl rfl rfl (by decide +kernel) ⟨Nat.le_of_ble_eq_true rfl, Nat.le_of_ble_eq_true rfl⟩) dX8_untangle_6 rfl rfl (Nat.le_of_ble_eq_true rfl) ⟨Nat.le_of_ble_eq_true rfl, Nat.le_of_ble_eq_true rfl⟩ rfl rfl rfl (by decide) (fun _ => rfl) (fun _ => rfl) (fun _ => rfl) (fun _ => rfl) (fun r2 _ hw => ?_)
  refine g_if_ne X 18 dX8_untangle_9 (by decide) (fun c4 => ?_) (fun c4 => ?_)
  · replace hw := hw.1 c4
    refine g_aload_n X 0 dX8_untangle_18 rfl rfl ?_
    refine g_cvV X [wM ct a w1 hs] (fun (u5 : Mem) => [wM ct a u5 hs]) (fun (u5 : Mem) => wM ct a u5 hs) 1 [0] [] 0 (kX8_save l D ct a w1 hs _ hw) (cwV 0 X.1.2.2.2.2 gX8_untangle_X8_save rfl rfl rfl (by decide +kernel) ⟨Nat.le_of_ble_eq_true rfl, Nat.le_of_ble_eq_true rfl⟩) dX8_untangle_19 rfl rfl (Nat.le_of_ble_eq_true rfl) ⟨Nat.le_of_ble_eq_true rfl, Nat.le_of_ble_eq_true rfl⟩ rfl rfl rfl (by decide) (fun _ => rfl) (fun _ => rfl) (fun _ => rfl) (fun _ => rfl) rfl rfl rfl (fun u5 hw => ?_)
    obtain ⟨w6, hw6⟩ : ∃ z : Mem, z = u5 := ⟨_, rfl⟩
    rw [← hw6] at hw
    rw [← hw6]
    refine g_aload_n X 0 dX8_untangle_22 rfl rfl ?_
    refine g_iload_n X 1 dX8_untangle_23 rfl rfl ?_
    refine g_ciV X [wM ct a w6 hs] (fun (u8 : Mem) => [wM ct a u8 hs]) (fun (u8 : Mem) => wM ct a u8 hs) 1 [0] [] 0 (kX8_leastOf l D ct a w6 hs p1 _ hw) (cwV 1 X.1.2.2.2.2 gX8_untangle_X8_leastOf rfl rfl rfl (by decide +kernel) ⟨Nat.le_of_ble_eq_true rfl, Nat.le_of_ble_eq_true rfl⟩) dX8_untangle_24 rfl rfl (Nat.le_of_ble_eq_true rfl) ⟨Nat.le_of_ble_eq_true rfl, Nat.le_of_ble_eq_true rfl⟩ rfl rfl rfl (by decide) (fun _ => rfl) (fun _ => rfl) (fun _ => rfl) (fun _ => rfl) rfl rfl rfl (fun r7 u8 hw => ?_)
    obtain ⟨w9, hw9⟩ : ∃ z : Mem, z = u8 := ⟨_, rfl⟩
    rw [← hw9] at hw
    rw [← hw9]
    refine g_istore_n X [(2, .int r7), (0, .ref (a 0)), (1, .int p1)] dX8_untangle_27 rfl (by decide) rfl ?_
    refine g_iconst (v := 0) X rfl dX8_untangle_28 ?_
    refine g_istore_n X [(3, .int 0), (2, .int r7), (0, .ref (a 0)), (1, .int p1)] dX8_untangle_29 rfl (by decide) rfl ?_
    refine g_sub [(0, .ref (a 0)), (1, .int p1), (2, .int r7), (3, .int 0)] [2, 3, 1, 0] rfl ?_
    obtain ⟨n14, hw⟩ := hw
    exact kX8_untangle_30 l D ct a hs post X n14 _ _ _ _ hw
  · replace hw := hw.2 c4
    refine g_aload_n X 0 dX8_untangle_12 rfl rfl ?_
    refine g_iconst (v := 1) X rfl dX8_untangle_13 ?_
    refine g_ciV X [wM ct a w1 hs] (fun (u16 : Mem) => [wM ct a u16 hs]) (fun (u16 : Mem) => wM ct a u16 hs) 1 [0] [] 0 (kX8_fails l D ct a w1 hs 1 _ hw) (cwV 1 X.1.2.2.2.2 gX8_untangle_X8_fails rfl rfl rfl (by decide +kernel) ⟨Nat.le_of_ble_eq_true rfl, Nat.le_of_ble_eq_true rfl⟩) dX8_untangle_14 rfl rfl (Nat.le_of_ble_eq_true rfl) ⟨Nat.le_of_ble_eq_true rfl, Nat.le_of_ble_eq_true rfl⟩ rfl rfl rfl (by decide) (fun _ => rfl) (fun _ => rfl) (fun _ => rfl) (fun _ => rfl) rfl rfl rfl (fun r15 u16 hw => ?_)
    obtain ⟨w17, hw17⟩ : ∃ z : Mem, z = u16 := ⟨_, rfl⟩
    rw [← hw17] at hw
    rw [← hw17]
    exact g_iret X w17 hw rfl (Nat.le_of_ble_eq_true rfl) (Nat.le_of_ble_eq_true rfl) dX8_untangle_17
