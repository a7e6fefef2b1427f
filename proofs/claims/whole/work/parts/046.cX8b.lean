abbrev rmX8_append : Room := { frames := 1, cells := 0, slots := 0, locals := 22 }

abbrev GX8_append (l : Launch) (D : va_G) (ct : Nat → ClassId) (a : Nat → Nat) (hs : Int64) (post : Int32 → Mem → Prop) (p : Program) (e : Env) (s : State) (m : MethodId) (args : Array Value) (below : List Frame) (meth : Method) (c : Code) (A : Nat → Prop) (w9 : va_W) (lv : List (Nat × Value)) (pc : Nat) (st : List Value) : Prop :=
  GG p l e rmX8_append s m args below meth c D A s.heap 2 (MQ below (va_Qi (fun r (u9 : Mem) => post r u9) (fun u9 t9 => Af D (tyz ct) A ((fun u9 => wM ct a u9 hs) u9) t9) A)  args s 0 0 A) w9 0 0 lv pc st

set_option maxHeartbeats 4000000 in
set_option maxRecDepth 20000 in
theorem kX8_append (l : Launch) (D : va_G) (ct : Nat → ClassId) (a : Nat → Nat) (w : Mem) (hs : Int64) (p1 : Int32) (post : Int32 → Mem → Prop) (hw : PX8_append w hs p1 post) : Ci (S := Mem) l yX8_append wsX8_append rmX8_append D (tyz ct) [.ref (a 0), .int p1] (wM ct a w hs) (fun r (u9 : Mem) => post r u9) (fun u9 => wM ct a u9 hs) 0 0 := by
  intro sz
  refine g_of (own := RX8) (by decide) rfl rfl (Nat.le_of_ble_eq_true rfl) [(0, .ref (a 0)), (1, .int p1)] rfl (fun p e s m args below meth c hsz X => ?_)
  subst hsz
  unfold PX8_append at hw
  refine g_aload_n X 0 dX8_append_0 rfl rfl ?_
  refine g_iconst (v := 0) X rfl dX8_append_1 ?_
  refine g_put (T := TX8) (C := RX8) (N := 21) X (fun z => wM ct a z hs) w 0 5 tyX8 tyX8_ok nmX8 (fun _ h => (List.mem_cons_of_mem _ (List.mem_append_right _ h))) (List.mem_of_getElem? (i := 1) rfl) dX8_append_2 rfl rfl (by decide) rfl rfl (by decide +kernel) (Nat.le_of_ble_eq_true rfl) rfl (fun w1 hw1 => ?_)
  replace hw := hw w1 hw1
  refine g_iload_n X 1 dX8_append_5 rfl rfl ?_
  refine g_bipush (v := 33) X rfl dX8_append_6 ?_
  refine g_bipush (v := 126) X rfl dX8_append_8 ?_
  refine g_ciS X [wM ct a w1 hs] (fun (_ : Unit) => [wM ct a w1 hs]) (fun _ => wM ct a w1 hs) 1 [] [0] (kX8_in l D ct  p1 33 126 _ hw) (va_cwS 3 X.1.2.2.2.2 gX8_append_X8_in rfl rfl rfl (by decide +kernel) ⟨Nat.le_of_ble_eq_true rfl, Nat.le_of_ble_eq_true rfl⟩) dX8_append_10 rfl rfl (Nat.le_of_ble_eq_true rfl) ⟨Nat.le_of_ble_eq_true rfl, Nat.le_of_ble_eq_true rfl⟩ rfl rfl rfl (by decide) (fun _ => rfl) (fun _ => rfl) (fun _ => rfl) (fun _ => rfl) (fun r2 _ hw => ?_)
  refine g_if_ne X 22 dX8_append_13 (by decide) (fun c4 => ?_) (fun c4 => ?_)
  · replace hw := hw.1 c4
    refine g_aload_n X 0 dX8_append_22 rfl rfl ?_
    refine g_get (T := TX8) (C := RX8) (N := 21) (v := .int (w1 13 0)) X 0 13 (fun _ h => (List.mem_cons_of_mem _ (List.mem_append_right _ h))) (List.mem_of_getElem? (i := 2) rfl) dX8_append_23 rfl rfl (by decide) rfl rfl ?_
    refine g_bipush (v := 60) X rfl dX8_append_26 ?_
    refine g_icmp_ne X 37 dX8_append_28 (by decide) (fun c5 => ?_) (fun c5 => ?_)
    · replace hw := hw.1 c5
      refine g_aload_n X 0 dX8_append_37 rfl rfl ?_
      refine g_get (T := TX8) (C := RX8) (N := 21) (v := .ref (a 13)) X 0 12 (fun _ h => (List.mem_cons_of_mem _ (List.mem_append_right _ h))) (List.mem_of_getElem? (i := 3) rfl) dX8_append_38 rfl rfl (by decide) rfl rfl ?_
      refine g_aload_n X 0 dX8_append_41 rfl rfl ?_
      refine g_get (T := TX8) (C := RX8) (N := 21) (v := .int (w1 13 0)) X 0 13 (fun _ h => (List.mem_cons_of_mem _ (List.mem_append_right _ h))) (List.mem_of_getElem? (i := 2) rfl) dX8_append_42 rfl rfl (by decide) rfl rfl ?_
      refine g_iload_n X 1 dX8_append_45 rfl rfl ?_
      obtain ⟨h6, hw⟩ := hw
      refine g_iast X (fun z => wM ct a z hs) w1 12 10 0 dX8_append_46 rfl rfl h6 rfl (fun w7 hw7 => ?_)
      replace hw := hw w7 hw7
      refine g_aload_n X 0 dX8_append_47 rfl rfl ?_
      refine g_dup X dX8_append_48 rfl ?_
      refine g_get (T := TX8) (C := RX8) (N := 21) (v := .int (w7 13 0)) X 0 13 (fun _ h => (List.mem_cons_of_mem _ (List.mem_append_right _ h))) (List.mem_of_getElem? (i := 2) rfl) dX8_append_49 rfl rfl (by decide) rfl rfl ?_
      refine g_iconst (v := 1) X rfl dX8_append_52 ?_
      refine g_iadd X dX8_append_53 ?_
      refine g_put (T := TX8) (C := RX8) (N := 21) X (fun z => wM ct a z hs) w7 0 13 tyX8 tyX8_ok nmX8 (fun _ h => (List.mem_cons_of_mem _ (List.mem_append_right _ h))) (List.mem_of_getElem? (i := 2) rfl) dX8_append_54 rfl rfl (by decide) rfl rfl (by decide +kernel) (Nat.le_of_ble_eq_true rfl) rfl (fun w8 hw8 => ?_)
      replace hw := hw w8 hw8
      refine g_aload_n X 0 dX8_append_57 rfl rfl ?_
      refine g_get (T := TX8) (C := RX8) (N := 21) (v := .int (w8 13 0)) X 0 13 (fun _ h => (List.mem_cons_of_mem _ (List.mem_append_right _ h))) (List.mem_of_getElem? (i := 2) rfl) dX8_append_58 rfl rfl (by decide) rfl rfl ?_
      exact g_iret X w8 hw rfl (Nat.le_of_ble_eq_true rfl) (Nat.le_of_ble_eq_true rfl) dX8_append_61
    · replace hw := hw.2 c5
      refine g_aload_n X 0 dX8_append_31 rfl rfl ?_
      refine g_iconst (v := 2) X rfl dX8_append_32 ?_
      refine g_ciV X [wM ct a w1 hs] (fun (u10 : Mem) => [wM ct a u10 hs]) (fun (u10 : Mem) => wM ct a u10 hs) 1 [0] [] 0 (kX8_fails l D ct a w1 hs 2 _ hw) (cwV 1 X.1.2.2.2.2 gX8_append_X8_fails rfl rfl rfl (by decide +kernel) ⟨Nat.le_of_ble_eq_true rfl, Nat.le_of_ble_eq_true rfl⟩) dX8_append_33 rfl rfl (Nat.le_of_ble_eq_true rfl) ⟨Nat.le_of_ble_eq_true rfl, Nat.le_of_ble_eq_true rfl⟩ rfl rfl rfl (by decide) (fun _ => rfl) (fun _ => rfl) (fun _ => rfl) (fun _ => rfl) rfl rfl rfl (fun r9 u10 hw => ?_)
      obtain ⟨w11, hw11⟩ : ∃ z : Mem, z = u10 := ⟨_, rfl⟩
      rw [← hw11] at hw
      rw [← hw11]
      exact g_iret X w11 hw rfl (Nat.le_of_ble_eq_true rfl) (Nat.le_of_ble_eq_true rfl) dX8_append_36
  · replace hw := hw.2 c4
    refine g_aload_n X 0 dX8_append_16 rfl rfl ?_
    refine g_iconst (v := 1) X rfl dX8_append_17 ?_
    refine g_ciV X [wM ct a w1 hs] (fun (u13 : Mem) => [wM ct a u13 hs]) (fun (u13 : Mem) => wM ct a u13 hs) 1 [0] [] 0 (kX8_fails l D ct a w1 hs 1 _ hw) (cwV 1 X.1.2.2.2.2 gX8_append_X8_fails rfl rfl rfl (by decide +kernel) ⟨Nat.le_of_ble_eq_true rfl, Nat.le_of_ble_eq_true rfl⟩) dX8_append_18 rfl rfl (Nat.le_of_ble_eq_true rfl) ⟨Nat.le_of_ble_eq_true rfl, Nat.le_of_ble_eq_true rfl⟩ rfl rfl rfl (by decide) (fun _ => rfl) (fun _ => rfl) (fun _ => rfl) (fun _ => rfl) rfl rfl rfl (fun r12 u13 hw => ?_)
    obtain ⟨w14, hw14⟩ : ∃ z : Mem, z = u13 := ⟨_, rfl⟩
    rw [← hw14] at hw
    rw [← hw14]
    exact g_iret X w14 hw rfl (Nat.le_of_ble_eq_true rfl) (Nat.le_of_ble_eq_true rfl) dX8_append_21

abbrev rmX8_clearBuffer : Room := { frames := 0, cells := 0, slots := 0, locals := 0 }

abbrev GX8_clearBuffer (l : Launch) (D : va_G) (ct : Nat → ClassId) (a : Nat → Nat) (hs : Int64) (post : Int32 → Mem → Prop) (p : Program) (e : Env) (s : State) (m : MethodId) (args : Array Value) (below : List Frame) (meth : Method) (c : Code) (A : Nat → Prop) (w9 : va_W) (lv : List (Nat × Value)) (pc : Nat) (st : List Value) : Prop :=
  GG p l e rmX8_clearBuffer s m args below meth c D A s.heap 2 (MQ below (va_Qi (fun r (u9 : Mem) => post r u9) (fun u9 t9 => Af D (tyz ct) A ((fun u9 => wM ct a u9 hs) u9) t9) A)  args s 0 0 A) w9 0 0 lv pc st

set_option maxHeartbeats 4000000 in
set_option maxRecDepth 20000 in
theorem kX8_clearBuffer (l : Launch) (D : va_G) (ct : Nat → ClassId) (a : Nat → Nat) (w : Mem) (hs : Int64) (post : Int32 → Mem → Prop) (hw : PX8_clearBuffer w hs post) : Ci (S := Mem) l yX8_clearBuffer wsX8_clearBuffer rmX8_clearBuffer D (tyz ct) [.ref (a 0)] (wM ct a w hs) (fun r (u9 : Mem) => post r u9) (fun u9 => wM ct a u9 hs) 0 0 := by
  intro sz
  refine g_of (own := RX8) (by decide) rfl rfl (Nat.le_of_ble_eq_true rfl) [(0, .ref (a 0))] rfl (fun p e s m args below meth c hsz X => ?_)
  subst hsz
  unfold PX8_clearBuffer at hw
  refine g_aload_n X 0 dX8_clearBuffer_0 rfl rfl ?_
  refine g_iconst (v := 0) X rfl dX8_clearBuffer_1 ?_
  refine g_put (T := TX8) (C := RX8) (N := 21) X (fun z => wM ct a z hs) w 0 5 tyX8 tyX8_ok nmX8 (fun _ h => (List.mem_cons_of_mem _ (List.mem_append_right _ h))) (List.mem_of_getElem? (i := 1) rfl) dX8_clearBuffer_2 rfl rfl (by decide) rfl rfl (by decide +kernel) (Nat.le_of_ble_eq_true rfl) rfl (fun w1 hw1 => ?_)
  replace hw := hw w1 hw1
  refine g_aload_n X 0 dX8_clearBuffer_5 rfl rfl ?_
  refine g_get (T := TX8) (C := RX8) (N := 21) (v := .int (w1 13 0)) X 0 13 (fun _ h => (List.mem_cons_of_mem _ (List.mem_append_right _ h))) (List.mem_of_getElem? (i := 2) rfl) dX8_clearBuffer_6 rfl rfl (by decide) rfl rfl ?_
  refine g_topi (fun q2 hq2 => ?_)
  replace hw := hw q2 hq2
  refine g_istore_n X [(1, .int q2), (0, .ref (a 0))] dX8_clearBuffer_9 rfl (by decide) rfl ?_
  refine g_aload_n X 1 dX8_clearBuffer_10 rfl rfl ?_
  refine g_iconst (v := 0) X rfl dX8_clearBuffer_11 ?_
  refine g_put (T := TX8) (C := RX8) (N := 21) X (fun z => wM ct a z hs) w1 0 13 tyX8 tyX8_ok nmX8 (fun _ h => (List.mem_cons_of_mem _ (List.mem_append_right _ h))) (List.mem_of_getElem? (i := 2) rfl) dX8_clearBuffer_12 rfl rfl (by decide) rfl rfl (by decide +kernel) (Nat.le_of_ble_eq_true rfl) rfl (fun w3 hw3 => ?_)
  replace hw := hw w3 hw3
  refine g_iload_n X 0 dX8_clearBuffer_15 rfl rfl ?_
  exact g_iret X w3 hw rfl (Nat.le_of_ble_eq_true rfl) (Nat.le_of_ble_eq_true rfl) dX8_clearBuffer_16

abbrev rmX8_code : Room := { frames := 0, cells := 0, slots := 0, locals := 0 }

abbrev GX8_code (l : Launch) (D : va_G) (ct : Nat → ClassId) (a : Nat → Nat) (w : Mem) (hs : Int64) (post : Int32 → Prop) (p : Program) (e : Env) (s : State) (m : MethodId) (args : Array Value) (below : List Frame) (meth : Method) (c : Code) (A : Nat → Prop) (w9 : va_W) (lv : List (Nat × Value)) (pc : Nat) (st : List Value) : Prop :=
  GG p l e rmX8_code s m args below meth c D A s.heap 1 (MQ below (va_Qi (fun r (_ : Unit) => post r) (fun u9 t9 => Af D (tyz ct) A ((fun _ => wM ct a w hs) u9) t9) A)  args s 0 0 A) w9 0 0 lv pc st

set_option maxHeartbeats 4000000 in
set_option maxRecDepth 20000 in
theorem kX8_code (l : Launch) (D : va_G) (ct : Nat → ClassId) (a : Nat → Nat) (w : Mem) (hs : Int64) (post : Int32 → Prop) (hw : PX8_code w hs post) : Ci (S := Unit) l yX8_code wsX8_code rmX8_code D (tyz ct) [.ref (a 0)] (wM ct a w hs) (fun r (_ : Unit) => post r) (fun _ => wM ct a w hs) 0 0 := by
  intro sz
  refine g_of (own := RX8) (by decide) rfl rfl (Nat.le_of_ble_eq_true rfl) [(0, .ref (a 0))] rfl (fun p e s m args below meth c hsz X => ?_)
  subst hsz
  unfold PX8_code at hw
  refine g_aload_n X 0 dX8_code_0 rfl rfl ?_
  refine g_get (T := TX8) (C := RX8) (N := 21) (v := .int (w 14 0)) X 0 14 (fun _ h => (List.mem_cons_of_mem _ (List.mem_append_right _ h))) (List.mem_of_getElem? (i := 1) rfl) dX8_code_1 rfl rfl (by decide) rfl rfl ?_
  refine g_aload_n X 0 dX8_code_4 rfl rfl ?_
  refine g_get (T := TX8) (C := RX8) (N := 21) (v := .int (w 13 0)) X 0 13 (fun _ h => (List.mem_cons_of_mem _ (List.mem_append_right _ h))) (List.mem_of_getElem? (i := 2) rfl) dX8_code_5 rfl rfl (by decide) rfl rfl ?_
  refine g_icmp_ge X 23 dX8_code_8 (by decide) (fun c1 => ?_) (fun c1 => ?_)
  · replace hw := hw.1 c1
    refine g_iconst (v := 0) X rfl dX8_code_23 ?_
    exact g_iret X () hw rfl (Nat.le_of_ble_eq_true rfl) (Nat.le_of_ble_eq_true rfl) dX8_code_24
  · replace hw := hw.2 c1
    refine g_aload_n X 0 dX8_code_11 rfl rfl ?_
    refine g_get (T := TX8) (C := RX8) (N := 21) (v := .ref (a 13)) X 0 12 (fun _ h => (List.mem_cons_of_mem _ (List.mem_append_right _ h))) (List.mem_of_getElem? (i := 3) rfl) dX8_code_12 rfl rfl (by decide) rfl rfl ?_
    refine g_aload_n X 0 dX8_code_15 rfl rfl ?_
    refine g_get (T := TX8) (C := RX8) (N := 21) (v := .int (w 14 0)) X 0 14 (fun _ h => (List.mem_cons_of_mem _ (List.mem_append_right _ h))) (List.mem_of_getElem? (i := 1) rfl) dX8_code_16 rfl rfl (by decide) rfl rfl ?_
    obtain ⟨h2, hw⟩ := hw
    refine g_iald X 10 0 dX8_code_19 rfl rfl h2 ?_
    refine g_goto X 24 dX8_code_20 (by decide) ?_
    exact g_iret X () hw rfl (Nat.le_of_ble_eq_true rfl) (Nat.le_of_ble_eq_true rfl) dX8_code_24

abbrev rmX8_takes : Room := { frames := 1, cells := 0, slots := 0, locals := 20 }

abbrev GX8_takes (l : Launch) (D : va_G) (ct : Nat → ClassId) (a : Nat → Nat) (hs : Int64) (post : Int32 → Mem → Prop) (p : Program) (e : Env) (s : State) (m : MethodId) (args : Array Value) (below : List Frame) (meth : Method) (c : Code) (A : Nat → Prop) (w9 : va_W) (lv : List (Nat × Value)) (pc : Nat) (st : List Value) : Prop :=
  GG p l e rmX8_takes s m args below meth c D A s.heap 3 (MQ below (va_Qi (fun r (u9 : Mem) => post r u9) (fun u9 t9 => Af D (tyz ct) A ((fun u9 => wM ct a u9 hs) u9) t9) A)  args s 0 0 A) w9 0 0 lv pc st

set_option maxHeartbeats 4000000 in
set_option maxRecDepth 20000 in
theorem kX8_takes_28 (l : Launch) (D : va_G) (ct : Nat → ClassId) (a : Nat → Nat) (hs : Int64) (post : Int32 → Mem → Prop) {p : Program} {e : Env} {s : State} {m : MethodId} {args : Array Value} {below : List Frame} {meth : Method} {c : Code} {A : Nat → Prop} (X : Cx p s m args meth c cX8_takes 3 RX8 wsX8_takes D (tyz ct) A s.heap (some .boolean))  :
    ∀ (w : Mem) (x2 : Int32) (z0 : Int32) (z1 : Int32), PX8_takes_28 hs post w x2 z0 z1 → GX8_takes l D ct a hs post p e s m args below meth c A (wM ct a w hs) [(2, .int x2)] 28 [.int z0, .int z1, .ref (a 0)] := by
  intro w x2 z0 z1 hw
  unfold PX8_takes_28 at hw
  refine g_iadd X dX8_takes_28 ?_
  refine g_put (T := TX8) (C := RX8) (N := 21) X (fun z => wM ct a z hs) w 0 14 tyX8 tyX8_ok nmX8 (fun _ h => (List.mem_cons_of_mem _ (List.mem_append_right _ h))) (List.mem_of_getElem? (i := 1) rfl) dX8_takes_29 rfl rfl (by decide) rfl rfl (by decide +kernel) (Nat.le_of_ble_eq_true rfl) rfl (fun w5 hw5 => ?_)
  replace hw := hw w5 hw5
  refine g_iload_n X 0 dX8_takes_32 rfl rfl ?_
  obtain ⟨h6, hw⟩ := hw
  exact g_zret X w5 h6 hw rfl (Nat.le_of_ble_eq_true rfl) (Nat.le_of_ble_eq_true rfl) dX8_takes_33

set_option maxHeartbeats 4000000 in
set_option maxRecDepth 20000 in
theorem kX8_takes_13 (l : Launch) (D : va_G) (ct : Nat → ClassId) (a : Nat → Nat) (hs : Int64) (post : Int32 → Mem → Prop) {p : Program} {e : Env} {s : State} {m : MethodId} {args : Array Value} {below : List Frame} {meth : Method} {c : Code} {A : Nat → Prop} (X : Cx p s m args meth c cX8_takes 3 RX8 wsX8_takes D (tyz ct) A s.heap (some .boolean))  :
    ∀ (w : Mem) (z0 : Int32), PX8_takes_13 hs post w z0 → GX8_takes l D ct a hs post p e s m args below meth c A (wM ct a w hs) [(0, .ref (a 0))] 13 [.int z0] := by
  intro w z0 hw
  unfold PX8_takes_13 at hw
  refine g_istore_n X [(2, .int z0), (0, .ref (a 0))] dX8_takes_13 rfl (by decide) rfl ?_
  refine g_aload_n X 1 dX8_takes_14 rfl rfl ?_
  refine g_dup X dX8_takes_15 rfl ?_
  refine g_get (T := TX8) (C := RX8) (N := 21) (v := .int (w 14 0)) X 0 14 (fun _ h => (List.mem_cons_of_mem _ (List.mem_append_right _ h))) (List.mem_of_getElem? (i := 1) rfl) dX8_takes_16 rfl rfl (by decide) rfl rfl ?_
  refine g_iload_n X 0 dX8_takes_19 rfl rfl ?_
  refine g_if_eq X 27 dX8_takes_20 (by decide) (fun c4 => ?_) (fun c4 => ?_)
  · replace hw := hw.1 c4
    refine g_iconst (v := 0) X rfl dX8_takes_27 ?_
    refine g_sub [(2, .int z0)] [0] rfl ?_
    exact kX8_takes_28 l D ct a hs post X _ _ _ _ hw
  · replace hw := hw.2 c4
    refine g_iconst (v := 1) X rfl dX8_takes_23 ?_
    refine g_goto X 28 dX8_takes_24 (by decide) ?_
    refine g_sub [(2, .int z0)] [0] rfl ?_
    exact kX8_takes_28 l D ct a hs post X _ _ _ _ hw

set_option maxHeartbeats 4000000 in
set_option maxRecDepth 20000 in
theorem kX8_takes (l : Launch) (D : va_G) (ct : Nat → ClassId) (a : Nat → Nat) (w : Mem) (hs : Int64) (p1 : Int32) (post : Int32 → Mem → Prop) (hw : PX8_takes w hs p1 post) : Ci (S := Mem) l yX8_takes wsX8_takes rmX8_takes D (tyz ct) [.ref (a 0), .int p1] (wM ct a w hs) (fun r (u9 : Mem) => post r u9) (fun u9 => wM ct a u9 hs) 0 0 := by
  intro sz
  refine g_of (own := RX8) (by decide) rfl rfl (Nat.le_of_ble_eq_true rfl) [(0, .ref (a 0)), (1, .int p1)] rfl (fun p e s m args below meth c hsz X => ?_)
  subst hsz
  unfold PX8_takes at hw
  refine g_aload_n X 0 dX8_takes_0 rfl rfl ?_
  refine g_ciV X [wM ct a w hs] (fun (_ : Unit) => [wM ct a w hs]) (fun _ => wM ct a w hs) 1 [0] [] 0 (kX8_code l D ct a w hs _ hw) (cwV 0 X.1.2.2.2.2 gX8_takes_X8_code rfl rfl rfl (by decide +kernel) ⟨Nat.le_of_ble_eq_true rfl, Nat.le_of_ble_eq_true rfl⟩) dX8_takes_1 rfl rfl (Nat.le_of_ble_eq_true rfl) ⟨Nat.le_of_ble_eq_true rfl, Nat.le_of_ble_eq_true rfl⟩ rfl rfl rfl (by decide) (fun _ => rfl) (fun _ => rfl) (fun _ => rfl) (fun _ => rfl) rfl rfl rfl (fun r1 _ hw => ?_)
  refine g_iload_n X 1 dX8_takes_4 rfl rfl ?_
  refine g_icmp_ne X 12 dX8_takes_5 (by decide) (fun c3 => ?_) (fun c3 => ?_)
  · replace hw := hw.1 c3
    refine g_iconst (v := 0) X rfl dX8_takes_12 ?_
    refine g_sub [(0, .ref (a 0))] [0] rfl ?_
    exact kX8_takes_13 l D ct a hs post X _ _ hw
  · replace hw := hw.2 c3
    refine g_iconst (v := 1) X rfl dX8_takes_8 ?_
    refine g_goto X 13 dX8_takes_9 (by decide) ?_
    refine g_sub [(0, .ref (a 0))] [0] rfl ?_
    exact kX8_takes_13 l D ct a hs post X _ _ hw

abbrev rmX8_readsPerson : Room := { frames := 1, cells := 0, slots := 0, locals := 22 }

abbrev GX8_readsPerson (l : Launch) (D : va_G) (ct : Nat → ClassId) (a : Nat → Nat) (hs : Int64) (post : Int32 → Mem → Prop) (p : Program) (e : Env) (s : State) (m : MethodId) (args : Array Value) (below : List Frame) (meth : Method) (c : Code) (A : Nat → Prop) (w9 : va_W) (lv : List (Nat × Value)) (pc : Nat) (st : List Value) : Prop :=
  GG p l e rmX8_readsPerson s m args below meth c D A s.heap 1 (MQ below (va_Qi (fun r (u9 : Mem) => post r u9) (fun u9 t9 => Af D (tyz ct) A ((fun u9 => wM ct a u9 hs) u9) t9) A)  args s 0 0 A) w9 0 0 lv pc st

set_option maxHeartbeats 4000000 in
set_option maxRecDepth 20000 in
theorem kX8_readsPerson (l : Launch) (D : va_G) (ct : Nat → ClassId) (a : Nat → Nat) (w : Mem) (hs : Int64) (post : Int32 → Mem → Prop) (hw : PX8_readsPerson w hs post) : Ci (S := Mem) l yX8_readsPerson wsX8_readsPerson rmX8_readsPerson D (tyz ct) [.ref (a 0)] (wM ct a w hs) (fun r (u9 : Mem) => post r u9) (fun u9 => wM ct a u9 hs) 0 0 := by
  intro sz
  refine g_of (own := RX8) (by decide) rfl rfl (Nat.le_of_ble_eq_true rfl) [(0, .ref (a 0))] rfl (fun p e s m args below meth c hsz X => ?_)
  subst hsz
  unfold PX8_readsPerson at hw
  refine g_aload_n X 0 dX8_readsPerson_0 rfl rfl ?_
  refine g_ciV X [wM ct a w hs] (fun (_ : Unit) => [wM ct a w hs]) (fun _ => wM ct a w hs) 1 [0] [] 0 (kX8_code l D ct a w hs _ hw) (cwV 0 X.1.2.2.2.2 gX8_readsPerson_X8_code rfl rfl rfl (by decide +kernel) ⟨Nat.le_of_ble_eq_true rfl, Nat.le_of_ble_eq_true rfl⟩) dX8_readsPerson_1 rfl rfl (Nat.le_of_ble_eq_true rfl) ⟨Nat.le_of_ble_eq_true rfl, Nat.le_of_ble_eq_true rfl⟩ rfl rfl rfl (by decide) (fun _ => rfl) (fun _ => rfl) (fun _ => rfl) (fun _ => rfl) rfl rfl rfl (fun r1 _ hw => ?_)
  refine g_bipush (v := 48) X rfl dX8_readsPerson_4 ?_
  refine g_bipush (v := 57) X rfl dX8_readsPerson_6 ?_
  refine g_ciS X [wM ct a w hs] (fun (_ : Unit) => [wM ct a w hs]) (fun _ => wM ct a w hs) 1 [] [0] (kX8_in l D ct  r1 48 57 _ hw) (va_cwS 3 X.1.2.2.2.2 gX8_readsPerson_X8_in rfl rfl rfl (by decide +kernel) ⟨Nat.le_of_ble_eq_true rfl, Nat.le_of_ble_eq_true rfl⟩) dX8_readsPerson_8 rfl rfl (Nat.le_of_ble_eq_true rfl) ⟨Nat.le_of_ble_eq_true rfl, Nat.le_of_ble_eq_true rfl⟩ rfl rfl rfl (by decide) (fun _ => rfl) (fun _ => rfl) (fun _ => rfl) (fun _ => rfl) (fun r3 _ hw => ?_)
  refine g_if_ne X 16 dX8_readsPerson_11 (by decide) (fun c5 => ?_) (fun c5 => ?_)
  · replace hw := hw.1 c5
    refine g_aload_n X 0 dX8_readsPerson_16 rfl rfl ?_
    refine g_aload_n X 0 dX8_readsPerson_17 rfl rfl ?_
    refine g_ciV X [wM ct a w hs] (fun (_ : Unit) => [wM ct a w hs]) (fun _ => wM ct a w hs) 1 [0] [] 0 (kX8_code l D ct a w hs _ hw) (cwV 0 X.1.2.2.2.2 gX8_readsPerson_X8_code rfl rfl rfl (by decide +kernel) ⟨Nat.le_of_ble_eq_true rfl, Nat.le_of_ble_eq_true rfl⟩) dX8_readsPerson_18 rfl rfl (Nat.le_of_ble_eq_true rfl) ⟨Nat.le_of_ble_eq_true rfl, Nat.le_of_ble_eq_true rfl⟩ rfl rfl rfl (by decide) (fun _ => rfl) (fun _ => rfl) (fun _ => rfl) (fun _ => rfl) rfl rfl rfl (fun r6 _ hw => ?_)
    refine g_bipush (v := 48) X rfl dX8_readsPerson_21 ?_
    refine g_isub X dX8_readsPerson_23 ?_
    refine g_put (T := TX8) (C := RX8) (N := 21) X (fun z => wM ct a z hs) w 0 15 tyX8 tyX8_ok nmX8 (fun _ h => (List.mem_cons_of_mem _ (List.mem_append_right _ h))) (List.mem_of_getElem? (i := 1) rfl) dX8_readsPerson_24 rfl rfl (by decide) rfl rfl (by decide +kernel) (Nat.le_of_ble_eq_true rfl) rfl (fun w8 hw8 => ?_)
    replace hw := hw w8 hw8
    refine g_aload_n X 0 dX8_readsPerson_27 rfl rfl ?_
    refine g_dup X dX8_readsPerson_28 rfl ?_
    refine g_get (T := TX8) (C := RX8) (N := 21) (v := .int (w8 14 0)) X 0 14 (fun _ h => (List.mem_cons_of_mem _ (List.mem_append_right _ h))) (List.mem_of_getElem? (i := 2) rfl) dX8_readsPerson_29 rfl rfl (by decide) rfl rfl ?_
    refine g_iconst (v := 1) X rfl dX8_readsPerson_32 ?_
    refine g_iadd X dX8_readsPerson_33 ?_
    refine g_put (T := TX8) (C := RX8) (N := 21) X (fun z => wM ct a z hs) w8 0 14 tyX8 tyX8_ok nmX8 (fun _ h => (List.mem_cons_of_mem _ (List.mem_append_right _ h))) (List.mem_of_getElem? (i := 2) rfl) dX8_readsPerson_34 rfl rfl (by decide) rfl rfl (by decide +kernel) (Nat.le_of_ble_eq_true rfl) rfl (fun w9 hw9 => ?_)
    replace hw := hw w9 hw9
    refine g_aload_n X 0 dX8_readsPerson_37 rfl rfl ?_
    refine g_get (T := TX8) (C := RX8) (N := 21) (v := .int (w9 15 0)) X 0 15 (fun _ h => (List.mem_cons_of_mem _ (List.mem_append_right _ h))) (List.mem_of_getElem? (i := 1) rfl) dX8_readsPerson_38 rfl rfl (by decide) rfl rfl ?_
    refine g_iconst (v := 1) X rfl dX8_readsPerson_41 ?_
    refine g_icmp_ne X 83 dX8_readsPerson_42 (by decide) (fun c10 => ?_) (fun c10 => ?_)
    · replace hw := hw.1 c10
      refine g_iconst (v := 1) X rfl dX8_readsPerson_83 ?_
      exact g_zret X w9 isB_1 hw rfl (Nat.le_of_ble_eq_true rfl) (Nat.le_of_ble_eq_true rfl) dX8_readsPerson_84
    · replace hw := hw.2 c10
      refine g_aload_n X 0 dX8_readsPerson_45 rfl rfl ?_
      refine g_ciV X [wM ct a w9 hs] (fun (_ : Unit) => [wM ct a w9 hs]) (fun _ => wM ct a w9 hs) 1 [0] [] 0 (kX8_code l D ct a w9 hs _ hw) (cwV 0 X.1.2.2.2.2 gX8_readsPerson_X8_code rfl rfl rfl (by decide +kernel) ⟨Nat.le_of_ble_eq_true rfl, Nat.le_of_ble_eq_true rfl⟩) dX8_readsPerson_46 rfl rfl (Nat.le_of_ble_eq_true rfl) ⟨Nat.le_of_ble_eq_true rfl, Nat.le_of_ble_eq_true rfl⟩ rfl rfl rfl (by decide) (fun _ => rfl) (fun _ => rfl) (fun _ => rfl) (fun _ => rfl) rfl rfl rfl (fun r11 _ hw => ?_)
      refine g_bipush (v := 48) X rfl dX8_readsPerson_49 ?_
      refine g_bipush (v := 57) X rfl dX8_readsPerson_51 ?_
      refine g_ciS X [wM ct a w9 hs] (fun (_ : Unit) => [wM ct a w9 hs]) (fun _ => wM ct a w9 hs) 1 [] [0] (kX8_in l D ct  r11 48 57 _ hw) (va_cwS 3 X.1.2.2.2.2 gX8_readsPerson_X8_in rfl rfl rfl (by decide +kernel) ⟨Nat.le_of_ble_eq_true rfl, Nat.le_of_ble_eq_true rfl⟩) dX8_readsPerson_53 rfl rfl (Nat.le_of_ble_eq_true rfl) ⟨Nat.le_of_ble_eq_true rfl, Nat.le_of_ble_eq_true rfl⟩ rfl rfl rfl (by decide) (fun _ => rfl) (fun _ => rfl) (fun _ => rfl) (fun _ => rfl) (fun r13 _ hw => ?_)
      refine g_if_eq X 83 dX8_readsPerson_56 (by decide) (fun c15 => ?_) (fun c15 => ?_)
      · replace hw := hw.1 c15
        refine g_iconst (v := 1) X rfl dX8_readsPerson_83 ?_
        exact g_zret X w9 isB_1 hw rfl (Nat.le_of_ble_eq_true rfl) (Nat.le_of_ble_eq_true rfl) dX8_readsPerson_84
      · replace hw := hw.2 c15
        refine g_aload_n X 0 dX8_readsPerson_59 rfl rfl ?_
        refine g_bipush (v := 10) X rfl dX8_readsPerson_60 ?_
        refine g_aload_n X 0 dX8_readsPerson_62 rfl rfl ?_
        refine g_ciV X [wM ct a w9 hs] (fun (_ : Unit) => [wM ct a w9 hs]) (fun _ => wM ct a w9 hs) 1 [0] [] 0 (kX8_code l D ct a w9 hs _ hw) (cwV 0 X.1.2.2.2.2 gX8_readsPerson_X8_code rfl rfl rfl (by decide +kernel) ⟨Nat.le_of_ble_eq_true rfl, Nat.le_of_ble_eq_true rfl⟩) dX8_readsPerson_63 rfl rfl (Nat.le_of_ble_eq_true rfl) ⟨Nat.le_of_ble_eq_true rfl, Nat.le_of_ble_eq_true rfl⟩ rfl rfl rfl (by decide) (fun _ => rfl) (fun _ => rfl) (fun _ => rfl) (fun _ => rfl) rfl rfl rfl (fun r16 _ hw => ?_)
        refine g_iadd X dX8_readsPerson_66 ?_
        refine g_bipush (v := 48) X rfl dX8_readsPerson_67 ?_
        refine g_isub X dX8_readsPerson_69 ?_
        refine g_put (T := TX8) (C := RX8) (N := 21) X (fun z => wM ct a z hs) w9 0 15 tyX8 tyX8_ok nmX8 (fun _ h => (List.mem_cons_of_mem _ (List.mem_append_right _ h))) (List.mem_of_getElem? (i := 1) rfl) dX8_readsPerson_70 rfl rfl (by decide) rfl rfl (by decide +kernel) (Nat.le_of_ble_eq_true rfl) rfl (fun w18 hw18 => ?_)
        replace hw := hw w18 hw18
        refine g_aload_n X 0 dX8_readsPerson_73 rfl rfl ?_
        refine g_dup X dX8_readsPerson_74 rfl ?_
        refine g_get (T := TX8) (C := RX8) (N := 21) (v := .int (w18 14 0)) X 0 14 (fun _ h => (List.mem_cons_of_mem _ (List.mem_append_right _ h))) (List.mem_of_getElem? (i := 2) rfl) dX8_readsPerson_75 rfl rfl (by decide) rfl rfl ?_
        refine g_iconst (v := 1) X rfl dX8_readsPerson_78 ?_
        refine g_iadd X dX8_readsPerson_79 ?_
        refine g_put (T := TX8) (C := RX8) (N := 21) X (fun z => wM ct a z hs) w18 0 14 tyX8 tyX8_ok nmX8 (fun _ h => (List.mem_cons_of_mem _ (List.mem_append_right _ h))) (List.mem_of_getElem? (i := 2) rfl) dX8_readsPerson_80 rfl rfl (by decide) rfl rfl (by decide +kernel) (Nat.le_of_ble_eq_true rfl) rfl (fun w19 hw19 => ?_)
        replace hw := hw w19 hw19
        refine g_iconst (v := 1) X rfl dX8_readsPerson_83 ?_
        exact g_zret X w19 isB_1 hw rfl (Nat.le_of_ble_eq_true rfl) (Nat.le_of_ble_eq_true rfl) dX8_readsPerson_84
  · replace hw := hw.2 c5
    refine g_iconst (v := 0) X rfl dX8_readsPerson_14 ?_
    exact g_zret X w isB_0 hw rfl (Nat.le_of_ble_eq_true rfl) (Nat.le_of_ble_eq_true rfl) dX8_readsPerson_15

abbrev rmX8_readsCouple : Room := { frames := 2, cells := 0, slots := 0, locals := 42 }

abbrev GX8_readsCouple (l : Launch) (D : va_G) (ct : Nat → ClassId) (a : Nat → Nat) (hs : Int64) (post : Int32 → Mem → Prop) (p : Program) (e : Env) (s : State) (m : MethodId) (args : Array Value) (below : List Frame) (meth : Method) (c : Code) (A : Nat → Prop) (w9 : va_W) (lv : List (Nat × Value)) (pc : Nat) (st : List Value) : Prop :=
  GG p l e rmX8_readsCouple s m args below meth c D A s.heap 2 (MQ below (va_Qi (fun r (u9 : Mem) => post r u9) (fun u9 t9 => Af D (tyz ct) A ((fun u9 => wM ct a u9 hs) u9) t9) A)  args s 0 0 A) w9 0 0 lv pc st

set_option maxHeartbeats 4000000 in
set_option maxRecDepth 20000 in
theorem kX8_readsCouple_43 (l : Launch) (D : va_G) (ct : Nat → ClassId) (a : Nat → Nat) (hs : Int64) (post : Int32 → Mem → Prop) {p : Program} {e : Env} {s : State} {m : MethodId} {args : Array Value} {below : List Frame} {meth : Method} {c : Code} {A : Nat → Prop} (X : Cx p s m args meth c cX8_readsCouple 2 RX8 wsX8_readsCouple D (tyz ct) A s.heap (some .boolean))  :
    ∀ (w : Mem) (z0 : Int32), PX8_readsCouple_43 hs post w z0 → GX8_readsCouple l D ct a hs post p e s m args below meth c A (wM ct a w hs) [(0, .ref (a 0))] 43 [.int z0] := by
  intro w z0 hw
  unfold PX8_readsCouple_43 at hw
  refine g_istore_n X [(1, .int z0), (0, .ref (a 0))] dX8_readsCouple_43 rfl (by decide) rfl ?_
  refine g_aload_n X 1 dX8_readsCouple_44 rfl rfl ?_
  refine g_get (T := TX8) (C := RX8) (N := 21) (v := .ref (a 20)) X 0 19 (fun _ h => (List.mem_cons_of_mem _ (List.mem_append_right _ h))) (List.mem_of_getElem? (i := 4) rfl) dX8_readsCouple_45 rfl rfl (by decide) rfl rfl ?_
  refine g_aload_n X 1 dX8_readsCouple_48 rfl rfl ?_
  refine g_get (T := TX8) (C := RX8) (N := 21) (v := .int (w 16 0)) X 0 16 (fun _ h => (List.mem_cons_of_mem _ (List.mem_append_right _ h))) (List.mem_of_getElem? (i := 2) rfl) dX8_readsCouple_49 rfl rfl (by decide) rfl rfl ?_
  refine g_aload_n X 1 dX8_readsCouple_52 rfl rfl ?_
  refine g_get (T := TX8) (C := RX8) (N := 21) (v := .int (w 15 0)) X 0 15 (fun _ h => (List.mem_cons_of_mem _ (List.mem_append_right _ h))) (List.mem_of_getElem? (i := 3) rfl) dX8_readsCouple_53 rfl rfl (by decide) rfl rfl ?_
  obtain ⟨h11, hw⟩ := hw
  refine g_iast X (fun z => wM ct a z hs) w 19 13 0 dX8_readsCouple_56 rfl rfl h11 rfl (fun w12 hw12 => ?_)
  replace hw := hw w12 hw12
  refine g_iload_n X 0 dX8_readsCouple_57 rfl rfl ?_
  obtain ⟨h13, hw⟩ := hw
  exact g_zret X w12 h13 hw rfl (Nat.le_of_ble_eq_true rfl) (Nat.le_of_ble_eq_true rfl) dX8_readsCouple_58

set_option maxHeartbeats 4000000 in
set_option maxRecDepth 20000 in
theorem kX8_readsCouple_42 (l : Launch) (D : va_G) (ct : Nat → ClassId) (a : Nat → Nat) (hs : Int64) (post : Int32 → Mem → Prop) {p : Program} {e : Env} {s : State} {m : MethodId} {args : Array Value} {below : List Frame} {meth : Method} {c : Code} {A : Nat → Prop} (X : Cx p s m args meth c cX8_readsCouple 2 RX8 wsX8_readsCouple D (tyz ct) A s.heap (some .boolean))  :
    ∀ (w : Mem), PX8_readsCouple_42 hs post w → GX8_readsCouple l D ct a hs post p e s m args below meth c A (wM ct a w hs) [(0, .ref (a 0))] 42 [] := by
  intro w hw
  unfold PX8_readsCouple_42 at hw
  refine g_iconst (v := 0) X rfl dX8_readsCouple_42 ?_
  refine g_sub [(0, .ref (a 0))] [0] rfl ?_
  exact kX8_readsCouple_43 l D ct a hs post X _ _ hw

set_option maxHeartbeats 4000000 in
set_option maxRecDepth 20000 in
theorem kX8_readsCouple (l : Launch) (D : va_G) (ct : Nat → ClassId) (a : Nat → Nat) (w : Mem) (hs : Int64) (post : Int32 → Mem → Prop) (hw : PX8_readsCouple w hs post) : Ci (S := Mem) l yX8_readsCouple wsX8_readsCouple rmX8_readsCouple D (tyz ct) [.ref (a 0)] (wM ct a w hs) (fun r (u9 : Mem) => post r u9) (fun u9 => wM ct a u9 hs) 0 0 := by
  intro sz
  refine g_of (own := RX8) (by decide) rfl rfl (Nat.le_of_ble_eq_true rfl) [(0, .ref (a 0))] rfl (fun p e s m args below meth c hsz X => ?_)
  subst hsz
  unfold PX8_readsCouple at hw
  refine g_aload_n X 0 dX8_readsCouple_0 rfl rfl ?_
  refine g_ciV X [wM ct a w hs] (fun (u2 : Mem) => [wM ct a u2 hs]) (fun (u2 : Mem) => wM ct a u2 hs) 1 [0] [] 0 (kX8_readsPerson l D ct a w hs _ hw) (cwV 0 X.1.2.2.2.2 gX8_readsCouple_X8_readsPerson rfl rfl rfl (by decide +kernel) ⟨Nat.le_of_ble_eq_true rfl, Nat.le_of_ble_eq_true rfl⟩) dX8_readsCouple_1 rfl rfl (Nat.le_of_ble_eq_true rfl) ⟨Nat.le_of_ble_eq_true rfl, Nat.le_of_ble_eq_true rfl⟩ rfl rfl rfl (by decide) (fun _ => rfl) (fun _ => rfl) (fun _ => rfl) (fun _ => rfl) rfl rfl rfl (fun r1 u2 hw => ?_)
  obtain ⟨w3, hw3⟩ : ∃ z : Mem, z = u2 := ⟨_, rfl⟩
  rw [← hw3] at hw
  rw [← hw3]
  refine g_if_ne X 9 dX8_readsCouple_4 (by decide) (fun c4 => ?_) (fun c4 => ?_)
  · replace hw := hw.1 c4
    refine g_aload_n X 0 dX8_readsCouple_9 rfl rfl ?_
    refine g_get (T := TX8) (C := RX8) (N := 21) (v := .ref (a 19)) X 0 18 (fun _ h => (List.mem_cons_of_mem _ (List.mem_append_right _ h))) (List.mem_of_getElem? (i := 1) rfl) dX8_readsCouple_10 rfl rfl (by decide) rfl rfl ?_
    refine g_aload_n X 0 dX8_readsCouple_13 rfl rfl ?_
    refine g_get (T := TX8) (C := RX8) (N := 21) (v := .int (w3 16 0)) X 0 16 (fun _ h => (List.mem_cons_of_mem _ (List.mem_append_right _ h))) (List.mem_of_getElem? (i := 2) rfl) dX8_readsCouple_14 rfl rfl (by decide) rfl rfl ?_
    refine g_aload_n X 0 dX8_readsCouple_17 rfl rfl ?_
    refine g_get (T := TX8) (C := RX8) (N := 21) (v := .int (w3 15 0)) X 0 15 (fun _ h => (List.mem_cons_of_mem _ (List.mem_append_right _ h))) (List.mem_of_getElem? (i := 3) rfl) dX8_readsCouple_18 rfl rfl (by decide) rfl rfl ?_
    obtain ⟨h5, hw⟩ := hw
    refine g_iast X (fun z => wM ct a z hs) w3 18 12 0 dX8_readsCouple_21 rfl rfl h5 rfl (fun w6 hw6 => ?_)
    replace hw := hw w6 hw6
    refine g_aload_n X 0 dX8_readsCouple_22 rfl rfl ?_
    refine g_bipush (v := 38) X rfl dX8_readsCouple_23 ?_
    refine g_ciV X [wM ct a w6 hs] (fun (u8 : Mem) => [wM ct a u8 hs]) (fun (u8 : Mem) => wM ct a u8 hs) 1 [0] [] 0 (kX8_takes l D ct a w6 hs 38 _ hw) (cwV 1 X.1.2.2.2.2 gX8_readsCouple_X8_takes rfl rfl rfl (by decide +kernel) ⟨Nat.le_of_ble_eq_true rfl, Nat.le_of_ble_eq_true rfl⟩) dX8_readsCouple_25 rfl rfl (Nat.le_of_ble_eq_true rfl) ⟨Nat.le_of_ble_eq_true rfl, Nat.le_of_ble_eq_true rfl⟩ rfl rfl rfl (by decide) (fun _ => rfl) (fun _ => rfl) (fun _ => rfl) (fun _ => rfl) rfl rfl rfl (fun r7 u8 hw => ?_)
    obtain ⟨w9, hw9⟩ : ∃ z : Mem, z = u8 := ⟨_, rfl⟩
    rw [← hw9] at hw
    rw [← hw9]
    refine g_if_eq X 42 dX8_readsCouple_28 (by decide) (fun c10 => ?_) (fun c10 => ?_)
    · replace hw := hw.1 c10
      refine g_sub [(0, .ref (a 0))] [0] rfl ?_
      exact kX8_readsCouple_42 l D ct a hs post X _ hw
    · replace hw := hw.2 c10
      refine g_aload_n X 0 dX8_readsCouple_31 rfl rfl ?_
      refine g_ciV X [wM ct a w9 hs] (fun (u15 : Mem) => [wM ct a u15 hs]) (fun (u15 : Mem) => wM ct a u15 hs) 1 [0] [] 0 (kX8_readsPerson l D ct a w9 hs _ hw) (cwV 0 X.1.2.2.2.2 gX8_readsCouple_X8_readsPerson rfl rfl rfl (by decide +kernel) ⟨Nat.le_of_ble_eq_true rfl, Nat.le_of_ble_eq_true rfl⟩) dX8_readsCouple_32 rfl rfl (Nat.le_of_ble_eq_true rfl) ⟨Nat.le_of_ble_eq_true rfl, Nat.le_of_ble_eq_true rfl⟩ rfl rfl rfl (by decide) (fun _ => rfl) (fun _ => rfl) (fun _ => rfl) (fun _ => rfl) rfl rfl rfl (fun r14 u15 hw => ?_)
      obtain ⟨w16, hw16⟩ : ∃ z : Mem, z = u15 := ⟨_, rfl⟩
      rw [← hw16] at hw
      rw [← hw16]
      refine g_if_eq X 42 dX8_readsCouple_35 (by decide) (fun c17 => ?_) (fun c17 => ?_)
      · replace hw := hw.1 c17
        refine g_sub [(0, .ref (a 0))] [0] rfl ?_
        exact kX8_readsCouple_42 l D ct a hs post X _ hw
      · replace hw := hw.2 c17
        refine g_iconst (v := 1) X rfl dX8_readsCouple_38 ?_
        refine g_goto X 43 dX8_readsCouple_39 (by decide) ?_
        refine g_sub [(0, .ref (a 0))] [0] rfl ?_
        exact kX8_readsCouple_43 l D ct a hs post X _ _ hw
  · replace hw := hw.2 c4
    refine g_iconst (v := 0) X rfl dX8_readsCouple_7 ?_
    exact g_zret X w3 isB_0 hw rfl (Nat.le_of_ble_eq_true rfl) (Nat.le_of_ble_eq_true rfl) dX8_readsCouple_8

abbrev rmX8_readsPart : Room := { frames := 3, cells := 0, slots := 0, locals := 63 }

abbrev GX8_readsPart (l : Launch) (D : va_G) (ct : Nat → ClassId) (a : Nat → Nat) (hs : Int64) (post : Int32 → Mem → Prop) (p : Program) (e : Env) (s : State) (m : MethodId) (args : Array Value) (below : List Frame) (meth : Method) (c : Code) (A : Nat → Prop) (w9 : va_W) (lv : List (Nat × Value)) (pc : Nat) (st : List Value) : Prop :=
  GG p l e rmX8_readsPart s m args below meth c D A s.heap 3 (MQ below (va_Qi (fun r (u9 : Mem) => post r u9) (fun u9 t9 => Af D (tyz ct) A ((fun u9 => wM ct a u9 hs) u9) t9) A)  args s 0 0 A) w9 0 0 lv pc st

set_option maxHeartbeats 4000000 in
set_option maxRecDepth 20000 in
theorem kX8_readsPart_126 (l : Launch) (D : va_G) (ct : Nat → ClassId) (a : Nat → Nat) (hs : Int64) (post : Int32 → Mem → Prop) {p : Program} {e : Env} {s : State} {m : MethodId} {args : Array Value} {below : List Frame} {meth : Method} {c : Code} {A : Nat → Prop} (X : Cx p s m args meth c cX8_readsPart 3 RX8 wsX8_readsPart D (tyz ct) A s.heap (some .boolean))  :
    ∀ (w : Mem) (x1 : Int32) (x2 : Int32), PX8_readsPart_126 hs post w x1 x2 → GX8_readsPart l D ct a hs post p e s m args below meth c A (wM ct a w hs) [(0, .ref (a 0)), (1, .int x1), (2, .int x2)] 126 [] := by
  intro w x1 x2 hw
  unfold PX8_readsPart_126 at hw
  refine g_iload_n X 2 dX8_readsPart_126 rfl rfl ?_
  refine g_if_eq X 150 dX8_readsPart_127 (by decide) (fun c10 => ?_) (fun c10 => ?_)
  · replace hw := hw.1 c10
    refine g_iload_n X 2 dX8_readsPart_150 rfl rfl ?_
    obtain ⟨h11, hw⟩ := hw
    exact g_zret X w h11 hw rfl (Nat.le_of_ble_eq_true rfl) (Nat.le_of_ble_eq_true rfl) dX8_readsPart_151
  · replace hw := hw.2 c10
    refine g_aload_n X 0 dX8_readsPart_130 rfl rfl ?_
    refine g_get (T := TX8) (C := RX8) (N := 21) (v := .ref (a 18)) X 0 17 (fun _ h => (List.mem_cons_of_mem _ (List.mem_append_right _ h))) (List.mem_of_getElem? (i := 4) rfl) dX8_readsPart_131 rfl rfl (by decide) rfl rfl ?_
    refine g_aload_n X 0 dX8_readsPart_134 rfl rfl ?_
    refine g_get (T := TX8) (C := RX8) (N := 21) (v := .int (w 16 0)) X 0 16 (fun _ h => (List.mem_cons_of_mem _ (List.mem_append_right _ h))) (List.mem_of_getElem? (i := 3) rfl) dX8_readsPart_135 rfl rfl (by decide) rfl rfl ?_
    refine g_iload_n X 1 dX8_readsPart_138 rfl rfl ?_
    obtain ⟨h12, hw⟩ := hw
    refine g_iast X (fun z => wM ct a z hs) w 17 11 0 dX8_readsPart_139 rfl rfl h12 rfl (fun w13 hw13 => ?_)
    replace hw := hw w13 hw13
    refine g_aload_n X 0 dX8_readsPart_140 rfl rfl ?_
    refine g_dup X dX8_readsPart_141 rfl ?_
    refine g_get (T := TX8) (C := RX8) (N := 21) (v := .int (w13 16 0)) X 0 16 (fun _ h => (List.mem_cons_of_mem _ (List.mem_append_right _ h))) (List.mem_of_getElem? (i := 3) rfl) dX8_readsPart_142 rfl rfl (by decide) rfl rfl ?_
    refine g_iconst (v := 1) X rfl dX8_readsPart_145 ?_
    refine g_iadd X dX8_readsPart_146 ?_
    refine g_put (T := TX8) (C := RX8) (N := 21) X (fun z => wM ct a z hs) w13 0 16 tyX8 tyX8_ok nmX8 (fun _ h => (List.mem_cons_of_mem _ (List.mem_append_right _ h))) (List.mem_of_getElem? (i := 3) rfl) dX8_readsPart_147 rfl rfl (by decide) rfl rfl (by decide +kernel) (Nat.le_of_ble_eq_true rfl) rfl (fun w14 hw14 => ?_)
    replace hw := hw w14 hw14
    refine g_iload_n X 2 dX8_readsPart_150 rfl rfl ?_
    obtain ⟨h15, hw⟩ := hw
    exact g_zret X w14 h15 hw rfl (Nat.le_of_ble_eq_true rfl) (Nat.le_of_ble_eq_true rfl) dX8_readsPart_151

set_option maxHeartbeats 4000000 in
set_option maxRecDepth 20000 in
theorem kX8_readsPart_122 (l : Launch) (D : va_G) (ct : Nat → ClassId) (a : Nat → Nat) (hs : Int64) (post : Int32 → Mem → Prop) {p : Program} {e : Env} {s : State} {m : MethodId} {args : Array Value} {below : List Frame} {meth : Method} {c : Code} {A : Nat → Prop} (X : Cx p s m args meth c cX8_readsPart 3 RX8 wsX8_readsPart D (tyz ct) A s.heap (some .boolean))  :
    ∀ (w : Mem) (x1 : Int32) (x2 : Int32) (z0 : Int32) (z1 : Int32), PX8_readsPart_122 hs post w x1 x2 z0 z1 → GX8_readsPart l D ct a hs post p e s m args below meth c A (wM ct a w hs) [(0, .ref (a 0)), (1, .int x1), (2, .int x2)] 122 [.int z0, .int z1, .ref (a 0)] := by
  intro w x1 x2 z0 z1 hw
  unfold PX8_readsPart_122 at hw
  refine g_iadd X dX8_readsPart_122 ?_
  refine g_put (T := TX8) (C := RX8) (N := 21) X (fun z => wM ct a z hs) w 0 14 tyX8 tyX8_ok nmX8 (fun _ h => (List.mem_cons_of_mem _ (List.mem_append_right _ h))) (List.mem_of_getElem? (i := 1) rfl) dX8_readsPart_123 rfl rfl (by decide) rfl rfl (by decide +kernel) (Nat.le_of_ble_eq_true rfl) rfl (fun w24 hw24 => ?_)
  replace hw := hw w24 hw24
  refine g_sub [(0, .ref (a 0)), (1, .int x1), (2, .int x2)] [0, 1, 2] rfl ?_
  exact kX8_readsPart_126 l D ct a hs post X _ _ _ hw

set_option maxHeartbeats 4000000 in
set_option maxRecDepth 20000 in
theorem kX8_readsPart_107 (l : Launch) (D : va_G) (ct : Nat → ClassId) (a : Nat → Nat) (hs : Int64) (post : Int32 → Mem → Prop) {p : Program} {e : Env} {s : State} {m : MethodId} {args : Array Value} {below : List Frame} {meth : Method} {c : Code} {A : Nat → Prop} (X : Cx p s m args meth c cX8_readsPart 3 RX8 wsX8_readsPart D (tyz ct) A s.heap (some .boolean))  :
    ∀ (w : Mem) (x1 : Int32) (x2 : Int32) (z0 : Int32) (z1 : Int32), PX8_readsPart_107 hs post w x1 x2 z0 z1 → GX8_readsPart l D ct a hs post p e s m args below meth c A (wM ct a w hs) [(0, .ref (a 0)), (1, .int x1), (2, .int x2)] 107 [.int z0, .int z1, .ref (a 19)] := by
  intro w x1 x2 z0 z1 hw
  unfold PX8_readsPart_107 at hw
  obtain ⟨h21, hw⟩ := hw
  refine g_iast X (fun z => wM ct a z hs) w 18 12 0 dX8_readsPart_107 rfl rfl h21 rfl (fun w22 hw22 => ?_)
  replace hw := hw w22 hw22
  refine g_aload_n X 0 dX8_readsPart_108 rfl rfl ?_
  refine g_dup X dX8_readsPart_109 rfl ?_
  refine g_get (T := TX8) (C := RX8) (N := 21) (v := .int (w22 14 0)) X 0 14 (fun _ h => (List.mem_cons_of_mem _ (List.mem_append_right _ h))) (List.mem_of_getElem? (i := 1) rfl) dX8_readsPart_110 rfl rfl (by decide) rfl rfl ?_
  refine g_iload_n X 2 dX8_readsPart_113 rfl rfl ?_
  refine g_if_eq X 121 dX8_readsPart_114 (by decide) (fun c23 => ?_) (fun c23 => ?_)
  · replace hw := hw.1 c23
    refine g_iconst (v := 0) X rfl dX8_readsPart_121 ?_
    refine g_sub [(0, .ref (a 0)), (1, .int x1), (2, .int x2)] [0, 1, 2] rfl ?_
    exact kX8_readsPart_122 l D ct a hs post X _ _ _ _ _ hw
  · replace hw := hw.2 c23
    refine g_iconst (v := 1) X rfl dX8_readsPart_117 ?_
    refine g_goto X 122 dX8_readsPart_118 (by decide) ?_
    refine g_sub [(0, .ref (a 0)), (1, .int x1), (2, .int x2)] [0, 1, 2] rfl ?_
    exact kX8_readsPart_122 l D ct a hs post X _ _ _ _ _ hw

set_option maxHeartbeats 4000000 in
set_option maxRecDepth 20000 in
theorem kX8_readsPart_48 (l : Launch) (D : va_G) (ct : Nat → ClassId) (a : Nat → Nat) (hs : Int64) (post : Int32 → Mem → Prop) {p : Program} {e : Env} {s : State} {m : MethodId} {args : Array Value} {below : List Frame} {meth : Method} {c : Code} {A : Nat → Prop} (X : Cx p s m args meth c cX8_readsPart 3 RX8 wsX8_readsPart D (tyz ct) A s.heap (some .boolean))  :
    ∀ (w : Mem) (x1 : Int32) (x2 : Int32) (z0 : Int32) (z1 : Int32), PX8_readsPart_48 hs post w x1 x2 z0 z1 → GX8_readsPart l D ct a hs post p e s m args below meth c A (wM ct a w hs) [(0, .ref (a 0)), (1, .int x1), (2, .int x2)] 48 [.int z0, .int z1, .ref (a 0)] := by
  intro w x1 x2 z0 z1 hw
  unfold PX8_readsPart_48 at hw
  refine g_iadd X dX8_readsPart_48 ?_
  refine g_put (T := TX8) (C := RX8) (N := 21) X (fun z => wM ct a z hs) w 0 14 tyX8 tyX8_ok nmX8 (fun _ h => (List.mem_cons_of_mem _ (List.mem_append_right _ h))) (List.mem_of_getElem? (i := 1) rfl) dX8_readsPart_49 rfl rfl (by decide) rfl rfl (by decide +kernel) (Nat.le_of_ble_eq_true rfl) rfl (fun w7 hw7 => ?_)
  replace hw := hw w7 hw7
  refine g_iload_n X 1 dX8_readsPart_52 rfl rfl ?_
  refine g_bipush (v := 43) X rfl dX8_readsPart_53 ?_
  refine g_icmp_ne X 66 dX8_readsPart_55 (by decide) (fun c8 => ?_) (fun c8 => ?_)
  · replace hw := hw.1 c8
    refine g_iload_n X 1 dX8_readsPart_66 rfl rfl ?_
    refine g_bipush (v := 94) X rfl dX8_readsPart_67 ?_
    refine g_icmp_ne X 126 dX8_readsPart_69 (by decide) (fun c9 => ?_) (fun c9 => ?_)
    · replace hw := hw.1 c9
      refine g_sub [(0, .ref (a 0)), (1, .int x1), (2, .int x2)] [0, 1, 2] rfl ?_
      exact kX8_readsPart_126 l D ct a hs post X _ _ _ hw
    · replace hw := hw.2 c9
      refine g_aload_n X 0 dX8_readsPart_72 rfl rfl ?_
      refine g_ciV X [wM ct a w7 hs] (fun (_ : Unit) => [wM ct a w7 hs]) (fun _ => wM ct a w7 hs) 1 [0] [] 0 (kX8_code l D ct a w7 hs _ hw) (cwV 0 X.1.2.2.2.2 gX8_readsPart_X8_code rfl rfl rfl (by decide +kernel) ⟨Nat.le_of_ble_eq_true rfl, Nat.le_of_ble_eq_true rfl⟩) dX8_readsPart_73 rfl rfl (Nat.le_of_ble_eq_true rfl) ⟨Nat.le_of_ble_eq_true rfl, Nat.le_of_ble_eq_true rfl⟩ rfl rfl rfl (by decide) (fun _ => rfl) (fun _ => rfl) (fun _ => rfl) (fun _ => rfl) rfl rfl rfl (fun r16 _ hw => ?_)
      refine g_bipush (v := 48) X rfl dX8_readsPart_76 ?_
      refine g_bipush (v := 57) X rfl dX8_readsPart_78 ?_
      refine g_ciS X [wM ct a w7 hs] (fun (_ : Unit) => [wM ct a w7 hs]) (fun _ => wM ct a w7 hs) 1 [] [0] (kX8_in l D ct  r16 48 57 _ hw) (va_cwS 3 X.1.2.2.2.2 gX8_readsPart_X8_in rfl rfl rfl (by decide +kernel) ⟨Nat.le_of_ble_eq_true rfl, Nat.le_of_ble_eq_true rfl⟩) dX8_readsPart_80 rfl rfl (Nat.le_of_ble_eq_true rfl) ⟨Nat.le_of_ble_eq_true rfl, Nat.le_of_ble_eq_true rfl⟩ rfl rfl rfl (by decide) (fun _ => rfl) (fun _ => rfl) (fun _ => rfl) (fun _ => rfl) (fun r18 _ hw => ?_)
      refine g_istore_n X [(2, .int r18), (0, .ref (a 0)), (1, .int x1)] dX8_readsPart_83 rfl (by decide) rfl ?_
      refine g_aload_n X 1 dX8_readsPart_84 rfl rfl ?_
      refine g_get (T := TX8) (C := RX8) (N := 21) (v := .ref (a 19)) X 0 18 (fun _ h => (List.mem_cons_of_mem _ (List.mem_append_right _ h))) (List.mem_of_getElem? (i := 2) rfl) dX8_readsPart_85 rfl rfl (by decide) rfl rfl ?_
      refine g_aload_n X 1 dX8_readsPart_88 rfl rfl ?_
      refine g_get (T := TX8) (C := RX8) (N := 21) (v := .int (w7 16 0)) X 0 16 (fun _ h => (List.mem_cons_of_mem _ (List.mem_append_right _ h))) (List.mem_of_getElem? (i := 3) rfl) dX8_readsPart_89 rfl rfl (by decide) rfl rfl ?_
      refine g_iload_n X 0 dX8_readsPart_92 rfl rfl ?_
      refine g_if_eq X 106 dX8_readsPart_93 (by decide) (fun c20 => ?_) (fun c20 => ?_)
      · replace hw := hw.1 c20
        refine g_iconst (v := 0) X rfl dX8_readsPart_106 ?_
        refine g_sub [(0, .ref (a 0)), (1, .int x1), (2, .int r18)] [1, 2, 0] rfl ?_
        exact kX8_readsPart_107 l D ct a hs post X _ _ _ _ _ hw
      · replace hw := hw.2 c20
        refine g_aload_n X 1 dX8_readsPart_96 rfl rfl ?_
        refine g_ciV X [wM ct a w7 hs] (fun (_ : Unit) => [wM ct a w7 hs]) (fun _ => wM ct a w7 hs) 1 [0] [] 0 (kX8_code l D ct a w7 hs _ hw) (cwV 0 X.1.2.2.2.2 gX8_readsPart_X8_code rfl rfl rfl (by decide +kernel) ⟨Nat.le_of_ble_eq_true rfl, Nat.le_of_ble_eq_true rfl⟩) dX8_readsPart_97 rfl rfl (Nat.le_of_ble_eq_true rfl) ⟨Nat.le_of_ble_eq_true rfl, Nat.le_of_ble_eq_true rfl⟩ rfl rfl rfl (by decide) (fun _ => rfl) (fun _ => rfl) (fun _ => rfl) (fun _ => rfl) rfl rfl rfl (fun r25 _ hw => ?_)
        refine g_bipush (v := 48) X rfl dX8_readsPart_100 ?_
        refine g_isub X dX8_readsPart_102 ?_
        refine g_goto X 107 dX8_readsPart_103 (by decide) ?_
        refine g_sub [(0, .ref (a 0)), (1, .int x1), (2, .int r18)] [1, 2, 0] rfl ?_
        exact kX8_readsPart_107 l D ct a hs post X _ _ _ _ _ hw
  · replace hw := hw.2 c8
    refine g_aload_n X 0 dX8_readsPart_58 rfl rfl ?_
    refine g_ciV X [wM ct a w7 hs] (fun (u28 : Mem) => [wM ct a u28 hs]) (fun (u28 : Mem) => wM ct a u28 hs) 1 [0] [] 0 (kX8_readsCouple l D ct a w7 hs _ hw) (cwV 0 X.1.2.2.2.2 gX8_readsPart_X8_readsCouple rfl rfl rfl (by decide +kernel) ⟨Nat.le_of_ble_eq_true rfl, Nat.le_of_ble_eq_true rfl⟩) dX8_readsPart_59 rfl rfl (Nat.le_of_ble_eq_true rfl) ⟨Nat.le_of_ble_eq_true rfl, Nat.le_of_ble_eq_true rfl⟩ rfl rfl rfl (by decide) (fun _ => rfl) (fun _ => rfl) (fun _ => rfl) (fun _ => rfl) rfl rfl rfl (fun r27 u28 hw => ?_)
    obtain ⟨w29, hw29⟩ : ∃ z : Mem, z = u28 := ⟨_, rfl⟩
    rw [← hw29] at hw
    rw [← hw29]
    refine g_istore_n X [(2, .int r27), (0, .ref (a 0)), (1, .int x1)] dX8_readsPart_62 rfl (by decide) rfl ?_
    refine g_goto X 126 dX8_readsPart_63 (by decide) ?_
    refine g_sub [(0, .ref (a 0)), (1, .int x1), (2, .int r27)] [1, 2, 0] rfl ?_
    exact kX8_readsPart_126 l D ct a hs post X _ _ _ hw

set_option maxHeartbeats 4000000 in
set_option maxRecDepth 20000 in
theorem kX8_readsPart_33 (l : Launch) (D : va_G) (ct : Nat → ClassId) (a : Nat → Nat) (hs : Int64) (post : Int32 → Mem → Prop) {p : Program} {e : Env} {s : State} {m : MethodId} {args : Array Value} {below : List Frame} {meth : Method} {c : Code} {A : Nat → Prop} (X : Cx p s m args meth c cX8_readsPart 3 RX8 wsX8_readsPart D (tyz ct) A s.heap (some .boolean))  :
    ∀ (w : Mem) (x1 : Int32) (z0 : Int32), PX8_readsPart_33 hs post w x1 z0 → GX8_readsPart l D ct a hs post p e s m args below meth c A (wM ct a w hs) [(0, .ref (a 0)), (1, .int x1)] 33 [.int z0] := by
  intro w x1 z0 hw
  unfold PX8_readsPart_33 at hw
  refine g_istore_n X [(2, .int z0), (0, .ref (a 0)), (1, .int x1)] dX8_readsPart_33 rfl (by decide) rfl ?_
  refine g_aload_n X 1 dX8_readsPart_34 rfl rfl ?_
  refine g_dup X dX8_readsPart_35 rfl ?_
  refine g_get (T := TX8) (C := RX8) (N := 21) (v := .int (w 14 0)) X 0 14 (fun _ h => (List.mem_cons_of_mem _ (List.mem_append_right _ h))) (List.mem_of_getElem? (i := 1) rfl) dX8_readsPart_36 rfl rfl (by decide) rfl rfl ?_
  refine g_iload_n X 0 dX8_readsPart_39 rfl rfl ?_
  refine g_if_eq X 47 dX8_readsPart_40 (by decide) (fun c6 => ?_) (fun c6 => ?_)
  · replace hw := hw.1 c6
    refine g_iconst (v := 0) X rfl dX8_readsPart_47 ?_
    refine g_sub [(0, .ref (a 0)), (1, .int x1), (2, .int z0)] [1, 2, 0] rfl ?_
    exact kX8_readsPart_48 l D ct a hs post X _ _ _ _ _ hw
  · replace hw := hw.2 c6
    refine g_iconst (v := 1) X rfl dX8_readsPart_43 ?_
    refine g_goto X 48 dX8_readsPart_44 (by decide) ?_
    refine g_sub [(0, .ref (a 0)), (1, .int x1), (2, .int z0)] [1, 2, 0] rfl ?_
    exact kX8_readsPart_48 l D ct a hs post X _ _ _ _ _ hw

set_option maxHeartbeats 4000000 in
set_option maxRecDepth 20000 in
theorem kX8_readsPart_28 (l : Launch) (D : va_G) (ct : Nat → ClassId) (a : Nat → Nat) (hs : Int64) (post : Int32 → Mem → Prop) {p : Program} {e : Env} {s : State} {m : MethodId} {args : Array Value} {below : List Frame} {meth : Method} {c : Code} {A : Nat → Prop} (X : Cx p s m args meth c cX8_readsPart 3 RX8 wsX8_readsPart D (tyz ct) A s.heap (some .boolean))  :
    ∀ (w : Mem) (x1 : Int32), PX8_readsPart_28 hs post w x1 → GX8_readsPart l D ct a hs post p e s m args below meth c A (wM ct a w hs) [(0, .ref (a 0)), (1, .int x1)] 28 [] := by
  intro w x1 hw
  unfold PX8_readsPart_28 at hw
  refine g_iconst (v := 1) X rfl dX8_readsPart_28 ?_
  refine g_goto X 33 dX8_readsPart_29 (by decide) ?_
  refine g_sub [(0, .ref (a 0)), (1, .int x1)] [0, 1] rfl ?_
  exact kX8_readsPart_33 l D ct a hs post X _ _ _ hw

set_option maxHeartbeats 4000000 in
set_option maxRecDepth 20000 in
theorem kX8_readsPart (l : Launch) (D : va_G) (ct : Nat → ClassId) (a : Nat → Nat) (w : Mem) (hs : Int64) (post : Int32 → Mem → Prop) (hw : PX8_readsPart w hs post) : Ci (S := Mem) l yX8_readsPart wsX8_readsPart rmX8_readsPart D (tyz ct) [.ref (a 0)] (wM ct a w hs) (fun r (u9 : Mem) => post r u9) (fun u9 => wM ct a u9 hs) 0 0 := by
  intro sz
  refine g_of (own := RX8) (by decide) rfl rfl (Nat.le_of_ble_eq_true rfl) [(0, .ref (a 0))] rfl (fun p e s m args below meth c hsz X => ?_)
  subst hsz
  unfold PX8_readsPart at hw
  refine g_aload_n X 0 dX8_readsPart_0 rfl rfl ?_
  refine g_ciV X [wM ct a w hs] (fun (_ : Unit) => [wM ct a w hs]) (fun _ => wM ct a w hs) 1 [0] [] 0 (kX8_code l D ct a w hs _ hw) (cwV 0 X.1.2.2.2.2 gX8_readsPart_X8_code rfl rfl rfl (by decide +kernel) ⟨Nat.le_of_ble_eq_true rfl, Nat.le_of_ble_eq_true rfl⟩) dX8_readsPart_1 rfl rfl (Nat.le_of_ble_eq_true rfl) ⟨Nat.le_of_ble_eq_true rfl, Nat.le_of_ble_eq_true rfl⟩ rfl rfl rfl (by decide) (fun _ => rfl) (fun _ => rfl) (fun _ => rfl) (fun _ => rfl) rfl rfl rfl (fun r1 _ hw => ?_)
  refine g_istore_n X [(1, .int r1), (0, .ref (a 0))] dX8_readsPart_4 rfl (by decide) rfl ?_
  refine g_iload_n X 0 dX8_readsPart_5 rfl rfl ?_
  refine g_bipush (v := 48) X rfl dX8_readsPart_6 ?_
  refine g_bipush (v := 51) X rfl dX8_readsPart_8 ?_
  refine g_ciS X [wM ct a w hs] (fun (_ : Unit) => [wM ct a w hs]) (fun _ => wM ct a w hs) 1 [] [0] (kX8_in l D ct  r1 48 51 _ hw) (va_cwS 3 X.1.2.2.2.2 gX8_readsPart_X8_in rfl rfl rfl (by decide +kernel) ⟨Nat.le_of_ble_eq_true rfl, Nat.le_of_ble_eq_true rfl⟩) dX8_readsPart_10 rfl rfl (Nat.le_of_ble_eq_true rfl) ⟨Nat.le_of_ble_eq_true rfl, Nat.le_of_ble_eq_true rfl⟩ rfl rfl rfl (by decide) (fun _ => rfl) (fun _ => rfl) (fun _ => rfl) (fun _ => rfl) (fun r3 _ hw => ?_)
  refine g_if_ne X 28 dX8_readsPart_13 (by decide) (fun c5 => ?_) (fun c5 => ?_)
  · replace hw := hw.1 c5
    refine g_sub [(0, .ref (a 0)), (1, .int r1)] [1, 0] rfl ?_
    exact kX8_readsPart_28 l D ct a hs post X _ _ hw
  · replace hw := hw.2 c5
    refine g_iload_n X 0 dX8_readsPart_16 rfl rfl ?_
    refine g_bipush (v := 43) X rfl dX8_readsPart_17 ?_
    refine g_icmp_eq X 28 dX8_readsPart_19 (by decide) (fun c30 => ?_) (fun c30 => ?_)
    · replace hw := hw.1 c30
      refine g_sub [(0, .ref (a 0)), (1, .int r1)] [1, 0] rfl ?_
      exact kX8_readsPart_28 l D ct a hs post X _ _ hw
    · replace hw := hw.2 c30
      refine g_iload_n X 0 dX8_readsPart_22 rfl rfl ?_
      refine g_bipush (v := 94) X rfl dX8_readsPart_23 ?_
      refine g_icmp_ne X 32 dX8_readsPart_25 (by decide) (fun c31 => ?_) (fun c31 => ?_)
      · replace hw := hw.1 c31
        refine g_iconst (v := 0) X rfl dX8_readsPart_32 ?_
        refine g_sub [(0, .ref (a 0)), (1, .int r1)] [1, 0] rfl ?_
        exact kX8_readsPart_33 l D ct a hs post X _ _ _ hw
      · replace hw := hw.2 c31
        refine g_sub [(0, .ref (a 0)), (1, .int r1)] [1, 0] rfl ?_
        exact kX8_readsPart_28 l D ct a hs post X _ _ hw

abbrev rmX8_isChronicle : Room := { frames := 4, cells := 0, slots := 0, locals := 85 }

abbrev GX8_isChronicle (l : Launch) (D : va_G) (ct : Nat → ClassId) (a : Nat → Nat) (hs : Int64) (post : Int32 → Mem → Prop) (p : Program) (e : Env) (s : State) (m : MethodId) (args : Array Value) (below : List Frame) (meth : Method) (c : Code) (A : Nat → Prop) (w9 : va_W) (lv : List (Nat × Value)) (pc : Nat) (st : List Value) : Prop :=
  GG p l e rmX8_isChronicle s m args below meth c D A s.heap 2 (MQ below (va_Qi (fun r (u9 : Mem) => post r u9) (fun u9 t9 => Af D (tyz ct) A ((fun u9 => wM ct a u9 hs) u9) t9) A)  args s 0 0 A) w9 0 0 lv pc st

set_option maxHeartbeats 4000000 in
set_option maxRecDepth 20000 in
theorem kX8_isChronicle_36 (l : Launch) (D : va_G) (ct : Nat → ClassId) (a : Nat → Nat) (hs : Int64) (post : Int32 → Mem → Prop) {p : Program} {e : Env} {s : State} {m : MethodId} {args : Array Value} {below : List Frame} {meth : Method} {c : Code} {A : Nat → Prop} (X : Cx p s m args meth c cX8_isChronicle 2 RX8 wsX8_isChronicle D (tyz ct) A s.heap (some .boolean))  :
    ∀ (w : Mem) (x1 : Int32), PX8_isChronicle_36 hs post w x1 → GX8_isChronicle l D ct a hs post p e s m args below meth c A (wM ct a w hs) [(0, .ref (a 0)), (1, .int x1)] 36 [] := by
  intro w x1 hw
  unfold PX8_isChronicle_36 at hw
  refine g_iload_n X 1 dX8_isChronicle_36 rfl rfl ?_
  refine g_if_eq X 55 dX8_isChronicle_37 (by decide) (fun c7 => ?_) (fun c7 => ?_)
  · replace hw := hw.1 c7
    refine g_iconst (v := 0) X rfl dX8_isChronicle_55 ?_
    exact g_zret X w isB_0 hw rfl (Nat.le_of_ble_eq_true rfl) (Nat.le_of_ble_eq_true rfl) dX8_isChronicle_56
  · replace hw := hw.2 c7
    refine g_aload_n X 0 dX8_isChronicle_40 rfl rfl ?_
    refine g_get (T := TX8) (C := RX8) (N := 21) (v := .int (w 14 0)) X 0 14 (fun _ h => (List.mem_cons_of_mem _ (List.mem_append_right _ h))) (List.mem_of_getElem? (i := 1) rfl) dX8_isChronicle_41 rfl rfl (by decide) rfl rfl ?_
    refine g_aload_n X 0 dX8_isChronicle_44 rfl rfl ?_
    refine g_get (T := TX8) (C := RX8) (N := 21) (v := .int (w 13 0)) X 0 13 (fun _ h => (List.mem_cons_of_mem _ (List.mem_append_right _ h))) (List.mem_of_getElem? (i := 3) rfl) dX8_isChronicle_45 rfl rfl (by decide) rfl rfl ?_
    refine g_icmp_ne X 55 dX8_isChronicle_48 (by decide) (fun c8 => ?_) (fun c8 => ?_)
    · replace hw := hw.1 c8
      refine g_iconst (v := 0) X rfl dX8_isChronicle_55 ?_
      exact g_zret X w isB_0 hw rfl (Nat.le_of_ble_eq_true rfl) (Nat.le_of_ble_eq_true rfl) dX8_isChronicle_56
    · replace hw := hw.2 c8
      refine g_iconst (v := 1) X rfl dX8_isChronicle_51 ?_
      refine g_goto X 56 dX8_isChronicle_52 (by decide) ?_
      exact g_zret X w isB_1 hw rfl (Nat.le_of_ble_eq_true rfl) (Nat.le_of_ble_eq_true rfl) dX8_isChronicle_56

set_option maxHeartbeats 4000000 in
set_option maxRecDepth 20000 in
theorem kX8_isChronicle_15 (l : Launch) (D : va_G) (ct : Nat → ClassId) (a : Nat → Nat) (hs : Int64) (post : Int32 → Mem → Prop) {p : Program} {e : Env} {s : State} {m : MethodId} {args : Array Value} {below : List Frame} {meth : Method} {c : Code} {A : Nat → Prop} (X : Cx p s m args meth c cX8_isChronicle 2 RX8 wsX8_isChronicle D (tyz ct) A s.heap (some .boolean))  :
    ∀ (n : Nat) (w : Mem) (x1 : Int32), PX8_isChronicle_15 hs post n w x1 → GX8_isChronicle l D ct a hs post p e s m args below meth c A (wM ct a w hs) [(0, .ref (a 0)), (1, .int x1)] 15 [] := by
  intro n
  induction n with
  | zero =>
    intro w x1 hw
    exact hw.elim
  | succ n ih =>
    intro w x1 hw
    unfold PX8_isChronicle_15 at hw
    refine g_iload_n X 1 dX8_isChronicle_15 rfl rfl ?_
    refine g_if_eq X 36 dX8_isChronicle_16 (by decide) (fun c6 => ?_) (fun c6 => ?_)
    · replace hw := hw.1 c6
      refine g_sub [(0, .ref (a 0)), (1, .int x1)] [0, 1] rfl ?_
      exact kX8_isChronicle_36 l D ct a hs post X _ _ hw
    · replace hw := hw.2 c6
      refine g_aload_n X 0 dX8_isChronicle_19 rfl rfl ?_
      refine g_bipush (v := 59) X rfl dX8_isChronicle_20 ?_
      refine g_ciV X [wM ct a w hs] (fun (u10 : Mem) => [wM ct a u10 hs]) (fun (u10 : Mem) => wM ct a u10 hs) 1 [0] [] 0 (kX8_takes l D ct a w hs 59 _ hw) (cwV 1 X.1.2.2.2.2 gX8_isChronicle_X8_takes rfl rfl rfl (by decide +kernel) ⟨Nat.le_of_ble_eq_true rfl, Nat.le_of_ble_eq_true rfl⟩) dX8_isChronicle_22 rfl rfl (Nat.le_of_ble_eq_true rfl) ⟨Nat.le_of_ble_eq_true rfl, Nat.le_of_ble_eq_true rfl⟩ rfl rfl rfl (by decide) (fun _ => rfl) (fun _ => rfl) (fun _ => rfl) (fun _ => rfl) rfl rfl rfl (fun r9 u10 hw => ?_)
      obtain ⟨w11, hw11⟩ : ∃ z : Mem, z = u10 := ⟨_, rfl⟩
      rw [← hw11] at hw
      rw [← hw11]
      refine g_if_eq X 36 dX8_isChronicle_25 (by decide) (fun c12 => ?_) (fun c12 => ?_)
      · replace hw := hw.1 c12
        refine g_sub [(0, .ref (a 0)), (1, .int x1)] [0, 1] rfl ?_
        exact kX8_isChronicle_36 l D ct a hs post X _ _ hw
      · replace hw := hw.2 c12
        refine g_aload_n X 0 dX8_isChronicle_28 rfl rfl ?_
        refine g_ciV X [wM ct a w11 hs] (fun (u14 : Mem) => [wM ct a u14 hs]) (fun (u14 : Mem) => wM ct a u14 hs) 1 [0] [] 0 (kX8_readsPart l D ct a w11 hs _ hw) (cwV 0 X.1.2.2.2.2 gX8_isChronicle_X8_readsPart rfl rfl rfl (by decide +kernel) ⟨Nat.le_of_ble_eq_true rfl, Nat.le_of_ble_eq_true rfl⟩) dX8_isChronicle_29 rfl rfl (Nat.le_of_ble_eq_true rfl) ⟨Nat.le_of_ble_eq_true rfl, Nat.le_of_ble_eq_true rfl⟩ rfl rfl rfl (by decide) (fun _ => rfl) (fun _ => rfl) (fun _ => rfl) (fun _ => rfl) rfl rfl rfl (fun r13 u14 hw => ?_)
        obtain ⟨w15, hw15⟩ : ∃ z : Mem, z = u14 := ⟨_, rfl⟩
        rw [← hw15] at hw
        rw [← hw15]
        refine g_istore_n X [(1, .int r13), (0, .ref (a 0))] dX8_isChronicle_32 rfl (by decide) rfl ?_
        refine g_goto X 15 dX8_isChronicle_33 (by decide) ?_
        refine g_sub [(0, .ref (a 0)), (1, .int r13)] [1, 0] rfl ?_
        exact ih _ _ hw

set_option maxHeartbeats 4000000 in
set_option maxRecDepth 20000 in
theorem kX8_isChronicle (l : Launch) (D : va_G) (ct : Nat → ClassId) (a : Nat → Nat) (w : Mem) (hs : Int64) (post : Int32 → Mem → Prop) (hw : PX8_isChronicle w hs post) : Ci (S := Mem) l yX8_isChronicle wsX8_isChronicle rmX8_isChronicle D (tyz ct) [.ref (a 0)] (wM ct a w hs) (fun r (u9 : Mem) => post r u9) (fun u9 => wM ct a u9 hs) 0 0 := by
  intro sz
  refine g_of (own := RX8) (by decide) rfl rfl (Nat.le_of_ble_eq_true rfl) [(0, .ref (a 0))] rfl (fun p e s m args below meth c hsz X => ?_)
  subst hsz
  unfold PX8_isChronicle at hw
  refine g_aload_n X 0 dX8_isChronicle_0 rfl rfl ?_
  refine g_iconst (v := 0) X rfl dX8_isChronicle_1 ?_
  refine g_put (T := TX8) (C := RX8) (N := 21) X (fun z => wM ct a z hs) w 0 14 tyX8 tyX8_ok nmX8 (fun _ h => (List.mem_cons_of_mem _ (List.mem_append_right _ h))) (List.mem_of_getElem? (i := 1) rfl) dX8_isChronicle_2 rfl rfl (by decide) rfl rfl (by decide +kernel) (Nat.le_of_ble_eq_true rfl) rfl (fun w1 hw1 => ?_)
  replace hw := hw w1 hw1
  refine g_aload_n X 0 dX8_isChronicle_5 rfl rfl ?_
  refine g_iconst (v := 0) X rfl dX8_isChronicle_6 ?_
  refine g_put (T := TX8) (C := RX8) (N := 21) X (fun z => wM ct a z hs) w1 0 16 tyX8 tyX8_ok nmX8 (fun _ h => (List.mem_cons_of_mem _ (List.mem_append_right _ h))) (List.mem_of_getElem? (i := 2) rfl) dX8_isChronicle_7 rfl rfl (by decide) rfl rfl (by decide +kernel) (Nat.le_of_ble_eq_true rfl) rfl (fun w2 hw2 => ?_)
  replace hw := hw w2 hw2
  refine g_aload_n X 0 dX8_isChronicle_10 rfl rfl ?_
  refine g_ciV X [wM ct a w2 hs] (fun (u4 : Mem) => [wM ct a u4 hs]) (fun (u4 : Mem) => wM ct a u4 hs) 1 [0] [] 0 (kX8_readsPart l D ct a w2 hs _ hw) (cwV 0 X.1.2.2.2.2 gX8_isChronicle_X8_readsPart rfl rfl rfl (by decide +kernel) ⟨Nat.le_of_ble_eq_true rfl, Nat.le_of_ble_eq_true rfl⟩) dX8_isChronicle_11 rfl rfl (Nat.le_of_ble_eq_true rfl) ⟨Nat.le_of_ble_eq_true rfl, Nat.le_of_ble_eq_true rfl⟩ rfl rfl rfl (by decide) (fun _ => rfl) (fun _ => rfl) (fun _ => rfl) (fun _ => rfl) rfl rfl rfl (fun r3 u4 hw => ?_)
  obtain ⟨w5, hw5⟩ : ∃ z : Mem, z = u4 := ⟨_, rfl⟩
  rw [← hw5] at hw
  rw [← hw5]
  refine g_istore_n X [(1, .int r3), (0, .ref (a 0))] dX8_isChronicle_14 rfl (by decide) rfl ?_
  refine g_sub [(0, .ref (a 0)), (1, .int r3)] [1, 0] rfl ?_
  obtain ⟨n16, hw⟩ := hw
  exact kX8_isChronicle_15 l D ct a hs post X n16 _ _ hw

abbrev rmX8_firstError : Room := { frames := 5, cells := 0, slots := 0, locals := 106 }

abbrev GX8_firstError (l : Launch) (D : va_G) (ct : Nat → ClassId) (a : Nat → Nat) (hs : Int64) (post : Int32 → Mem → Prop) (p : Program) (e : Env) (s : State) (m : MethodId) (args : Array Value) (below : List Frame) (meth : Method) (c : Code) (A : Nat → Prop) (w9 : va_W) (lv : List (Nat × Value)) (pc : Nat) (st : List Value) : Prop :=
  GG p l e rmX8_firstError s m args below meth c D A s.heap 1 (MQ below (va_Qi (fun r (u9 : Mem) => post r u9) (fun u9 t9 => Af D (tyz ct) A ((fun u9 => wM ct a u9 hs) u9) t9) A)  args s 0 0 A) w9 0 0 lv pc st

set_option maxHeartbeats 4000000 in
set_option maxRecDepth 20000 in
theorem kX8_firstError (l : Launch) (D : va_G) (ct : Nat → ClassId) (a : Nat → Nat) (w : Mem) (hs : Int64) (post : Int32 → Mem → Prop) (hw : PX8_firstError w hs post) : Ci (S := Mem) l yX8_firstError wsX8_firstError rmX8_firstError D (tyz ct) [.ref (a 0)] (wM ct a w hs) (fun r (u9 : Mem) => post r u9) (fun u9 => wM ct a u9 hs) 0 0 := by
  intro sz
  refine g_of (own := RX8) (by decide) rfl rfl (Nat.le_of_ble_eq_true rfl) [(0, .ref (a 0))] rfl (fun p e s m args below meth c hsz X => ?_)
  subst hsz
  unfold PX8_firstError at hw
  refine g_aload_n X 0 dX8_firstError_0 rfl rfl ?_
  refine g_iconst (v := 0) X rfl dX8_firstError_1 ?_
  refine g_put (T := TX8) (C := RX8) (N := 21) X (fun z => wM ct a z hs) w 0 5 tyX8 tyX8_ok nmX8 (fun _ h => (List.mem_cons_of_mem _ (List.mem_append_right _ h))) (List.mem_of_getElem? (i := 1) rfl) dX8_firstError_2 rfl rfl (by decide) rfl rfl (by decide +kernel) (Nat.le_of_ble_eq_true rfl) rfl (fun w1 hw1 => ?_)
  replace hw := hw w1 hw1
  refine g_aload_n X 0 dX8_firstError_5 rfl rfl ?_
  refine g_ciV X [wM ct a w1 hs] (fun (u3 : Mem) => [wM ct a u3 hs]) (fun (u3 : Mem) => wM ct a u3 hs) 1 [0] [] 0 (kX8_isChronicle l D ct a w1 hs _ hw) (cwV 0 X.1.2.2.2.2 gX8_firstError_X8_isChronicle rfl rfl rfl (by decide +kernel) ⟨Nat.le_of_ble_eq_true rfl, Nat.le_of_ble_eq_true rfl⟩) dX8_firstError_6 rfl rfl (Nat.le_of_ble_eq_true rfl) ⟨Nat.le_of_ble_eq_true rfl, Nat.le_of_ble_eq_true rfl⟩ rfl rfl rfl (by decide) (fun _ => rfl) (fun _ => rfl) (fun _ => rfl) (fun _ => rfl) rfl rfl rfl (fun r2 u3 hw => ?_)
  obtain ⟨w4, hw4⟩ : ∃ z : Mem, z = u3 := ⟨_, rfl⟩
  rw [← hw4] at hw
  rw [← hw4]
  refine g_if_eq X 19 dX8_firstError_9 (by decide) (fun c5 => ?_) (fun c5 => ?_)
  · replace hw := hw.1 c5
    refine g_aload_n X 0 dX8_firstError_19 rfl rfl ?_
    refine g_get (T := TX8) (C := RX8) (N := 21) (v := .int (w4 14 0)) X 0 14 (fun _ h => (List.mem_cons_of_mem _ (List.mem_append_right _ h))) (List.mem_of_getElem? (i := 3) rfl) dX8_firstError_20 rfl rfl (by decide) rfl rfl ?_
    exact g_iret X w4 hw rfl (Nat.le_of_ble_eq_true rfl) (Nat.le_of_ble_eq_true rfl) dX8_firstError_23
  · replace hw := hw.2 c5
    refine g_aload_n X 0 dX8_firstError_12 rfl rfl ?_
    refine g_get (T := TX8) (C := RX8) (N := 21) (v := .int (w4 13 0)) X 0 13 (fun _ h => (List.mem_cons_of_mem _ (List.mem_append_right _ h))) (List.mem_of_getElem? (i := 2) rfl) dX8_firstError_13 rfl rfl (by decide) rfl rfl ?_
    refine g_goto X 23 dX8_firstError_16 (by decide) ?_
    exact g_iret X w4 hw rfl (Nat.le_of_ble_eq_true rfl) (Nat.le_of_ble_eq_true rfl) dX8_firstError_23

abbrev rmX8_isDone : Room := { frames := 4, cells := 0, slots := 0, locals := 92 }

abbrev GX8_isDone (l : Launch) (D : va_G) (ct : Nat → ClassId) (a : Nat → Nat) (hs : Int64) (post : Int32 → Mem → Prop) (p : Program) (e : Env) (s : State) (m : MethodId) (args : Array Value) (below : List Frame) (meth : Method) (c : Code) (A : Nat → Prop) (w9 : va_W) (lv : List (Nat × Value)) (pc : Nat) (st : List Value) : Prop :=
  GG p l e rmX8_isDone s m args below meth c D A s.heap 2 (MQ below (va_Qi (fun r (u9 : Mem) => post r u9) (fun u9 t9 => Af D (tyz ct) A ((fun u9 => wM ct a u9 hs) u9) t9) A)  args s 0 0 A) w9 0 0 lv pc st

set_option maxHeartbeats 4000000 in
set_option maxRecDepth 20000 in
theorem kX8_isDone (l : Launch) (D : va_G) (ct : Nat → ClassId) (a : Nat → Nat) (w : Mem) (hs : Int64) (p1 : Int32) (post : Int32 → Mem → Prop) (hw : PX8_isDone w hs p1 post) : Ci (S := Mem) l yX8_isDone wsX8_isDone rmX8_isDone D (tyz ct) [.ref (a 0), .int p1] (wM ct a w hs) (fun r (u9 : Mem) => post r u9) (fun u9 => wM ct a u9 hs) 0 0 := by
  intro sz
  refine g_of (own := RX8) (by decide) rfl rfl (Nat.le_of_ble_eq_true rfl) [(0, .ref (a 0)), (1, .int p1)] rfl (fun p e s m args below meth c hsz X => ?_)
  subst hsz
  unfold PX8_isDone at hw
  refine g_aload_n X 0 dX8_isDone_0 rfl rfl ?_
  refine g_get (T := TX8) (C := RX8) (N := 21) (v := .ref (a 18)) X 0 17 (fun _ h => (List.mem_cons_of_mem _ (List.mem_append_right _ h))) (List.mem_of_getElem? (i := 1) rfl) dX8_isDone_1 rfl rfl (by decide) rfl rfl ?_
  refine g_iload_n X 1 dX8_isDone_4 rfl rfl ?_
  obtain ⟨h1, hw⟩ := hw
  refine g_iald X 11 0 dX8_isDone_5 rfl rfl h1 ?_
  refine g_bipush (v := 43) X rfl dX8_isDone_6 ?_
  refine g_icmp_ne X 79 dX8_isDone_8 (by decide) (fun c2 => ?_) (fun c2 => ?_)
  · replace hw := hw.1 c2
    refine g_aload_n X 0 dX8_isDone_79 rfl rfl ?_
    refine g_get (T := TX8) (C := RX8) (N := 21) (v := .ref (a 18)) X 0 17 (fun _ h => (List.mem_cons_of_mem _ (List.mem_append_right _ h))) (List.mem_of_getElem? (i := 1) rfl) dX8_isDone_80 rfl rfl (by decide) rfl rfl ?_
    refine g_iload_n X 1 dX8_isDone_83 rfl rfl ?_
    obtain ⟨h3, hw⟩ := hw
    refine g_iald X 11 0 dX8_isDone_84 rfl rfl h3 ?_
    refine g_bipush (v := 94) X rfl dX8_isDone_85 ?_
    refine g_icmp_ne X 123 dX8_isDone_87 (by decide) (fun c4 => ?_) (fun c4 => ?_)
    · replace hw := hw.1 c4
      refine g_aload_n X 0 dX8_isDone_123 rfl rfl ?_
      refine g_aload_n X 0 dX8_isDone_124 rfl rfl ?_
      refine g_get (T := TX8) (C := RX8) (N := 21) (v := .ref (a 18)) X 0 17 (fun _ h => (List.mem_cons_of_mem _ (List.mem_append_right _ h))) (List.mem_of_getElem? (i := 1) rfl) dX8_isDone_125 rfl rfl (by decide) rfl rfl ?_
      refine g_iload_n X 1 dX8_isDone_128 rfl rfl ?_
      obtain ⟨h5, hw⟩ := hw
      refine g_iald X 11 0 dX8_isDone_129 rfl rfl h5 ?_
      refine g_bipush (v := 48) X rfl dX8_isDone_130 ?_
      refine g_isub X dX8_isDone_132 ?_
      refine g_iconst (v := (-1)) X rfl dX8_isDone_133 ?_
      refine g_ciV X [wM ct a w hs] (fun (u7 : Mem) => [wM ct a u7 hs]) (fun (u7 : Mem) => wM ct a u7 hs) 1 [0] [] 0 (kX8_personNow l D ct a w hs ((w 17 (ix p1)) - 48) ((-1)) _ hw) (cwV 2 X.1.2.2.2.2 gX8_isDone_X8_personNow rfl rfl rfl (by decide +kernel) ⟨Nat.le_of_ble_eq_true rfl, Nat.le_of_ble_eq_true rfl⟩) dX8_isDone_134 rfl rfl (Nat.le_of_ble_eq_true rfl) ⟨Nat.le_of_ble_eq_true rfl, Nat.le_of_ble_eq_true rfl⟩ rfl rfl rfl (by decide) (fun _ => rfl) (fun _ => rfl) (fun _ => rfl) (fun _ => rfl) rfl rfl rfl (fun r6 u7 hw => ?_)
      obtain ⟨w8, hw8⟩ : ∃ z : Mem, z = u7 := ⟨_, rfl⟩
      rw [← hw8] at hw
      rw [← hw8]
      refine g_iconst (v := (-1)) X rfl dX8_isDone_137 ?_
      refine g_icmp_eq X 145 dX8_isDone_138 (by decide) (fun c9 => ?_) (fun c9 => ?_)
      · replace hw := hw.1 c9
        refine g_iconst (v := 0) X rfl dX8_isDone_145 ?_
        exact g_zret X w8 isB_0 hw rfl (Nat.le_of_ble_eq_true rfl) (Nat.le_of_ble_eq_true rfl) dX8_isDone_146
      · replace hw := hw.2 c9
        refine g_iconst (v := 1) X rfl dX8_isDone_141 ?_
        refine g_goto X 146 dX8_isDone_142 (by decide) ?_
        exact g_zret X w8 isB_1 hw rfl (Nat.le_of_ble_eq_true rfl) (Nat.le_of_ble_eq_true rfl) dX8_isDone_146
    · replace hw := hw.2 c4
      refine g_aload_n X 0 dX8_isDone_90 rfl rfl ?_
      refine g_aload_n X 0 dX8_isDone_91 rfl rfl ?_
      refine g_get (T := TX8) (C := RX8) (N := 21) (v := .ref (a 19)) X 0 18 (fun _ h => (List.mem_cons_of_mem _ (List.mem_append_right _ h))) (List.mem_of_getElem? (i := 2) rfl) dX8_isDone_92 rfl rfl (by decide) rfl rfl ?_
      refine g_iload_n X 1 dX8_isDone_95 rfl rfl ?_
      obtain ⟨h10, hw⟩ := hw
      refine g_iald X 12 0 dX8_isDone_96 rfl rfl h10 ?_
      refine g_ciV X [wM ct a w hs] (fun (_ : Unit) => [wM ct a w hs]) (fun _ => wM ct a w hs) 1 [0] [] 0 (kX8_isCouple l D ct a w hs (w 18 (ix p1)) _ hw) (cwV 1 X.1.2.2.2.2 gX8_isDone_X8_isCouple rfl rfl rfl (by decide +kernel) ⟨Nat.le_of_ble_eq_true rfl, Nat.le_of_ble_eq_true rfl⟩) dX8_isDone_97 rfl rfl (Nat.le_of_ble_eq_true rfl) ⟨Nat.le_of_ble_eq_true rfl, Nat.le_of_ble_eq_true rfl⟩ rfl rfl rfl (by decide) (fun _ => rfl) (fun _ => rfl) (fun _ => rfl) (fun _ => rfl) rfl rfl rfl (fun r11 _ hw => ?_)
      refine g_if_eq X 121 dX8_isDone_100 (by decide) (fun c13 => ?_) (fun c13 => ?_)
      · replace hw := hw.1 c13
        refine g_iconst (v := 0) X rfl dX8_isDone_121 ?_
        exact g_zret X w isB_0 hw rfl (Nat.le_of_ble_eq_true rfl) (Nat.le_of_ble_eq_true rfl) dX8_isDone_122
      · replace hw := hw.2 c13
        refine g_aload_n X 0 dX8_isDone_103 rfl rfl ?_
        refine g_aload_n X 0 dX8_isDone_104 rfl rfl ?_
        refine g_get (T := TX8) (C := RX8) (N := 21) (v := .ref (a 19)) X 0 18 (fun _ h => (List.mem_cons_of_mem _ (List.mem_append_right _ h))) (List.mem_of_getElem? (i := 2) rfl) dX8_isDone_105 rfl rfl (by decide) rfl rfl ?_
        refine g_iload_n X 1 dX8_isDone_108 rfl rfl ?_
        obtain ⟨h14, hw⟩ := hw
        refine g_iald X 12 0 dX8_isDone_109 rfl rfl h14 ?_
        refine g_ciV X [wM ct a w hs] (fun (u16 : Mem) => [wM ct a u16 hs]) (fun (u16 : Mem) => wM ct a u16 hs) 1 [0] [] 0 (kX8_childNow l D ct a w hs (w 18 (ix p1)) _ hw) (cwV 1 X.1.2.2.2.2 gX8_isDone_X8_childNow rfl rfl rfl (by decide +kernel) ⟨Nat.le_of_ble_eq_true rfl, Nat.le_of_ble_eq_true rfl⟩) dX8_isDone_110 rfl rfl (Nat.le_of_ble_eq_true rfl) ⟨Nat.le_of_ble_eq_true rfl, Nat.le_of_ble_eq_true rfl⟩ rfl rfl rfl (by decide) (fun _ => rfl) (fun _ => rfl) (fun _ => rfl) (fun _ => rfl) rfl rfl rfl (fun r15 u16 hw => ?_)
        obtain ⟨w17, hw17⟩ : ∃ z : Mem, z = u16 := ⟨_, rfl⟩
        rw [← hw17] at hw
        rw [← hw17]
        refine g_iconst (v := (-1)) X rfl dX8_isDone_113 ?_
        refine g_icmp_eq X 121 dX8_isDone_114 (by decide) (fun c18 => ?_) (fun c18 => ?_)
        · replace hw := hw.1 c18
          refine g_iconst (v := 0) X rfl dX8_isDone_121 ?_
          exact g_zret X w17 isB_0 hw rfl (Nat.le_of_ble_eq_true rfl) (Nat.le_of_ble_eq_true rfl) dX8_isDone_122
        · replace hw := hw.2 c18
          refine g_iconst (v := 1) X rfl dX8_isDone_117 ?_
          refine g_goto X 122 dX8_isDone_118 (by decide) ?_
          exact g_zret X w17 isB_1 hw rfl (Nat.le_of_ble_eq_true rfl) (Nat.le_of_ble_eq_true rfl) dX8_isDone_122
  · replace hw := hw.2 c2
    refine g_aload_n X 0 dX8_isDone_11 rfl rfl ?_
    refine g_aload_n X 0 dX8_isDone_12 rfl rfl ?_
    refine g_get (T := TX8) (C := RX8) (N := 21) (v := .ref (a 19)) X 0 18 (fun _ h => (List.mem_cons_of_mem _ (List.mem_append_right _ h))) (List.mem_of_getElem? (i := 2) rfl) dX8_isDone_13 rfl rfl (by decide) rfl rfl ?_
    refine g_iload_n X 1 dX8_isDone_16 rfl rfl ?_
    obtain ⟨h19, hw⟩ := hw
    refine g_iald X 12 0 dX8_isDone_17 rfl rfl h19 ?_
    refine g_ciV X [wM ct a w hs] (fun (_ : Unit) => [wM ct a w hs]) (fun _ => wM ct a w hs) 1 [0] [] 0 (kX8_isPerson l D ct a w hs (w 18 (ix p1)) _ hw) (cwV 1 X.1.2.2.2.2 gX8_isDone_X8_isPerson rfl rfl rfl (by decide +kernel) ⟨Nat.le_of_ble_eq_true rfl, Nat.le_of_ble_eq_true rfl⟩) dX8_isDone_18 rfl rfl (Nat.le_of_ble_eq_true rfl) ⟨Nat.le_of_ble_eq_true rfl, Nat.le_of_ble_eq_true rfl⟩ rfl rfl rfl (by decide) (fun _ => rfl) (fun _ => rfl) (fun _ => rfl) (fun _ => rfl) rfl rfl rfl (fun r20 _ hw => ?_)
    refine g_if_eq X 77 dX8_isDone_21 (by decide) (fun c22 => ?_) (fun c22 => ?_)
    · replace hw := hw.1 c22
      refine g_iconst (v := 0) X rfl dX8_isDone_77 ?_
      exact g_zret X w isB_0 hw rfl (Nat.le_of_ble_eq_true rfl) (Nat.le_of_ble_eq_true rfl) dX8_isDone_78
    · replace hw := hw.2 c22
      refine g_aload_n X 0 dX8_isDone_24 rfl rfl ?_
      refine g_aload_n X 0 dX8_isDone_25 rfl rfl ?_
      refine g_get (T := TX8) (C := RX8) (N := 21) (v := .ref (a 20)) X 0 19 (fun _ h => (List.mem_cons_of_mem _ (List.mem_append_right _ h))) (List.mem_of_getElem? (i := 3) rfl) dX8_isDone_26 rfl rfl (by decide) rfl rfl ?_
      refine g_iload_n X 1 dX8_isDone_29 rfl rfl ?_
      obtain ⟨h23, hw⟩ := hw
      refine g_iald X 13 0 dX8_isDone_30 rfl rfl h23 ?_
      refine g_ciV X [wM ct a w hs] (fun (_ : Unit) => [wM ct a w hs]) (fun _ => wM ct a w hs) 1 [0] [] 0 (kX8_isPerson l D ct a w hs (w 19 (ix p1)) _ hw) (cwV 1 X.1.2.2.2.2 gX8_isDone_X8_isPerson rfl rfl rfl (by decide +kernel) ⟨Nat.le_of_ble_eq_true rfl, Nat.le_of_ble_eq_true rfl⟩) dX8_isDone_31 rfl rfl (Nat.le_of_ble_eq_true rfl) ⟨Nat.le_of_ble_eq_true rfl, Nat.le_of_ble_eq_true rfl⟩ rfl rfl rfl (by decide) (fun _ => rfl) (fun _ => rfl) (fun _ => rfl) (fun _ => rfl) rfl rfl rfl (fun r24 _ hw => ?_)
      refine g_if_eq X 77 dX8_isDone_34 (by decide) (fun c26 => ?_) (fun c26 => ?_)
      · replace hw := hw.1 c26
        refine g_iconst (v := 0) X rfl dX8_isDone_77 ?_
        exact g_zret X w isB_0 hw rfl (Nat.le_of_ble_eq_true rfl) (Nat.le_of_ble_eq_true rfl) dX8_isDone_78
      · replace hw := hw.2 c26
        refine g_aload_n X 0 dX8_isDone_37 rfl rfl ?_
        refine g_get (T := TX8) (C := RX8) (N := 21) (v := .ref (a 19)) X 0 18 (fun _ h => (List.mem_cons_of_mem _ (List.mem_append_right _ h))) (List.mem_of_getElem? (i := 2) rfl) dX8_isDone_38 rfl rfl (by decide) rfl rfl ?_
        refine g_iload_n X 1 dX8_isDone_41 rfl rfl ?_
        obtain ⟨h27, hw⟩ := hw
        refine g_iald X 12 0 dX8_isDone_42 rfl rfl h27 ?_
        refine g_aload_n X 0 dX8_isDone_43 rfl rfl ?_
        refine g_get (T := TX8) (C := RX8) (N := 21) (v := .ref (a 20)) X 0 19 (fun _ h => (List.mem_cons_of_mem _ (List.mem_append_right _ h))) (List.mem_of_getElem? (i := 3) rfl) dX8_isDone_44 rfl rfl (by decide) rfl rfl ?_
        refine g_iload_n X 1 dX8_isDone_47 rfl rfl ?_
        obtain ⟨h28, hw⟩ := hw
        refine g_iald X 13 0 dX8_isDone_48 rfl rfl h28 ?_
        refine g_icmp_eq X 77 dX8_isDone_49 (by decide) (fun c29 => ?_) (fun c29 => ?_)
        · replace hw := hw.1 c29
          refine g_iconst (v := 0) X rfl dX8_isDone_77 ?_
          exact g_zret X w isB_0 hw rfl (Nat.le_of_ble_eq_true rfl) (Nat.le_of_ble_eq_true rfl) dX8_isDone_78
        · replace hw := hw.2 c29
          refine g_aload_n X 0 dX8_isDone_52 rfl rfl ?_
          refine g_aload_n X 0 dX8_isDone_53 rfl rfl ?_
          refine g_get (T := TX8) (C := RX8) (N := 21) (v := .ref (a 19)) X 0 18 (fun _ h => (List.mem_cons_of_mem _ (List.mem_append_right _ h))) (List.mem_of_getElem? (i := 2) rfl) dX8_isDone_54 rfl rfl (by decide) rfl rfl ?_
          refine g_iload_n X 1 dX8_isDone_57 rfl rfl ?_
          obtain ⟨h30, hw⟩ := hw
          refine g_iald X 12 0 dX8_isDone_58 rfl rfl h30 ?_
          refine g_aload_n X 0 dX8_isDone_59 rfl rfl ?_
          refine g_get (T := TX8) (C := RX8) (N := 21) (v := .ref (a 20)) X 0 19 (fun _ h => (List.mem_cons_of_mem _ (List.mem_append_right _ h))) (List.mem_of_getElem? (i := 3) rfl) dX8_isDone_60 rfl rfl (by decide) rfl rfl ?_
          refine g_iload_n X 1 dX8_isDone_63 rfl rfl ?_
          obtain ⟨h31, hw⟩ := hw
          refine g_iald X 13 0 dX8_isDone_64 rfl rfl h31 ?_
          refine g_ciV X [wM ct a w hs] (fun (u33 : Mem) => [wM ct a u33 hs]) (fun (u33 : Mem) => wM ct a u33 hs) 1 [0] [] 0 (kX8_marryNow l D ct a w hs (w 18 (ix p1)) (w 19 (ix p1)) _ hw) (cwV 2 X.1.2.2.2.2 gX8_isDone_X8_marryNow rfl rfl rfl (by decide +kernel) ⟨Nat.le_of_ble_eq_true rfl, Nat.le_of_ble_eq_true rfl⟩) dX8_isDone_65 rfl rfl (Nat.le_of_ble_eq_true rfl) ⟨Nat.le_of_ble_eq_true rfl, Nat.le_of_ble_eq_true rfl⟩ rfl rfl rfl (by decide) (fun _ => rfl) (fun _ => rfl) (fun _ => rfl) (fun _ => rfl) rfl rfl rfl (fun r32 u33 hw => ?_)
          obtain ⟨w34, hw34⟩ : ∃ z : Mem, z = u33 := ⟨_, rfl⟩
          rw [← hw34] at hw
          rw [← hw34]
          refine g_bipush (v := 9) X rfl dX8_isDone_68 ?_
          refine g_icmp_le X 77 dX8_isDone_70 (by decide) (fun c35 => ?_) (fun c35 => ?_)
          · replace hw := hw.1 c35
            refine g_iconst (v := 0) X rfl dX8_isDone_77 ?_
            exact g_zret X w34 isB_0 hw rfl (Nat.le_of_ble_eq_true rfl) (Nat.le_of_ble_eq_true rfl) dX8_isDone_78
          · replace hw := hw.2 c35
            refine g_iconst (v := 1) X rfl dX8_isDone_73 ?_
            refine g_goto X 78 dX8_isDone_74 (by decide) ?_
            exact g_zret X w34 isB_1 hw rfl (Nat.le_of_ble_eq_true rfl) (Nat.le_of_ble_eq_true rfl) dX8_isDone_78

abbrev rmX8_run : Room := { frames := 5, cells := 0, slots := 0, locals := 113 }

abbrev GX8_run (l : Launch) (D : va_G) (ct : Nat → ClassId) (a : Nat → Nat) (hs : Int64) (post : Int32 → Mem → Prop) (p : Program) (e : Env) (s : State) (m : MethodId) (args : Array Value) (below : List Frame) (meth : Method) (c : Code) (A : Nat → Prop) (w9 : va_W) (lv : List (Nat × Value)) (pc : Nat) (st : List Value) : Prop :=
  GG p l e rmX8_run s m args below meth c D A s.heap 2 (MQ below (va_Qi (fun r (u9 : Mem) => post r u9) (fun u9 t9 => Af D (tyz ct) A ((fun u9 => wM ct a u9 hs) u9) t9) A)  args s 0 0 A) w9 0 0 lv pc st

set_option maxHeartbeats 4000000 in
set_option maxRecDepth 20000 in
theorem kX8_run_46 (l : Launch) (D : va_G) (ct : Nat → ClassId) (a : Nat → Nat) (hs : Int64) (post : Int32 → Mem → Prop) {p : Program} {e : Env} {s : State} {m : MethodId} {args : Array Value} {below : List Frame} {meth : Method} {c : Code} {A : Nat → Prop} (X : Cx p s m args meth c cX8_run 2 RX8 wsX8_run D (tyz ct) A s.heap (some .int))  :
    ∀ (w : Mem) (x1 : Int32), PX8_run_46 hs post w x1 → GX8_run l D ct a hs post p e s m args below meth c A (wM ct a w hs) [(0, .ref (a 0)), (1, .int x1)] 46 [] := by
  intro w x1 hw
  unfold PX8_run_46 at hw
  refine g_aload_n X 0 dX8_run_46 rfl rfl ?_
  refine g_iconst (v := 0) X rfl dX8_run_47 ?_
  refine g_put (T := TX8) (C := RX8) (N := 21) X (fun z => wM ct a z hs) w 0 13 tyX8 tyX8_ok nmX8 (fun _ h => (List.mem_cons_of_mem _ (List.mem_append_right _ h))) (List.mem_of_getElem? (i := 3) rfl) dX8_run_48 rfl rfl (by decide) rfl rfl (by decide +kernel) (Nat.le_of_ble_eq_true rfl) rfl (fun w9 hw9 => ?_)
  replace hw := hw w9 hw9
  refine g_iload_n X 1 dX8_run_51 rfl rfl ?_
  exact g_iret X w9 hw rfl (Nat.le_of_ble_eq_true rfl) (Nat.le_of_ble_eq_true rfl) dX8_run_52

set_option maxHeartbeats 4000000 in
set_option maxRecDepth 20000 in
theorem kX8_run_24 (l : Launch) (D : va_G) (ct : Nat → ClassId) (a : Nat → Nat) (hs : Int64) (post : Int32 → Mem → Prop) {p : Program} {e : Env} {s : State} {m : MethodId} {args : Array Value} {below : List Frame} {meth : Method} {c : Code} {A : Nat → Prop} (X : Cx p s m args meth c cX8_run 2 RX8 wsX8_run D (tyz ct) A s.heap (some .int))  :
    ∀ (n : Nat) (w : Mem) (x1 : Int32), PX8_run_24 hs post n w x1 → GX8_run l D ct a hs post p e s m args below meth c A (wM ct a w hs) [(0, .ref (a 0)), (1, .int x1)] 24 [] := by
  intro n
  induction n with
  | zero =>
    intro w x1 hw
    exact hw.elim
  | succ n ih =>
    intro w x1 hw
    unfold PX8_run_24 at hw
    refine g_iload_n X 1 dX8_run_24 rfl rfl ?_
    refine g_aload_n X 0 dX8_run_25 rfl rfl ?_
    refine g_get (T := TX8) (C := RX8) (N := 21) (v := .int (w 16 0)) X 0 16 (fun _ h => (List.mem_cons_of_mem _ (List.mem_append_right _ h))) (List.mem_of_getElem? (i := 2) rfl) dX8_run_26 rfl rfl (by decide) rfl rfl ?_
    refine g_icmp_ge X 46 dX8_run_29 (by decide) (fun c8 => ?_) (fun c8 => ?_)
    · replace hw := hw.1 c8
      refine g_sub [(0, .ref (a 0)), (1, .int x1)] [0, 1] rfl ?_
      exact kX8_run_46 l D ct a hs post X _ _ hw
    · replace hw := hw.2 c8
      refine g_aload_n X 0 dX8_run_32 rfl rfl ?_
      refine g_iload_n X 1 dX8_run_33 rfl rfl ?_
      refine g_ciV X [wM ct a w hs] (fun (u11 : Mem) => [wM ct a u11 hs]) (fun (u11 : Mem) => wM ct a u11 hs) 1 [0] [] 0 (kX8_isDone l D ct a w hs x1 _ hw) (cwV 1 X.1.2.2.2.2 gX8_run_X8_isDone rfl rfl rfl (by decide +kernel) ⟨Nat.le_of_ble_eq_true rfl, Nat.le_of_ble_eq_true rfl⟩) dX8_run_34 rfl rfl (Nat.le_of_ble_eq_true rfl) ⟨Nat.le_of_ble_eq_true rfl, Nat.le_of_ble_eq_true rfl⟩ rfl rfl rfl (by decide) (fun _ => rfl) (fun _ => rfl) (fun _ => rfl) (fun _ => rfl) rfl rfl rfl (fun r10 u11 hw => ?_)
      obtain ⟨w12, hw12⟩ : ∃ z : Mem, z = u11 := ⟨_, rfl⟩
      rw [← hw12] at hw
      rw [← hw12]
      refine g_if_eq X 46 dX8_run_37 (by decide) (fun c13 => ?_) (fun c13 => ?_)
      · replace hw := hw.1 c13
        refine g_sub [(0, .ref (a 0)), (1, .int x1)] [0, 1] rfl ?_
        exact kX8_run_46 l D ct a hs post X _ _ hw
      · replace hw := hw.2 c13
        refine g_iinc X [(1, .int (x1 + 1)), (0, .ref (a 0))] 1 dX8_run_40 rfl rfl (by decide) rfl ?_
        refine g_goto X 24 dX8_run_43 (by decide) ?_
        refine g_sub [(0, .ref (a 0)), (1, .int (x1 + 1))] [1, 0] rfl ?_
        exact ih _ _ hw

set_option maxHeartbeats 4000000 in
set_option maxRecDepth 20000 in
theorem kX8_run (l : Launch) (D : va_G) (ct : Nat → ClassId) (a : Nat → Nat) (w : Mem) (hs : Int64) (post : Int32 → Mem → Prop) (hw : PX8_run w hs post) : Ci (S := Mem) l yX8_run wsX8_run rmX8_run D (tyz ct) [.ref (a 0)] (wM ct a w hs) (fun r (u9 : Mem) => post r u9) (fun u9 => wM ct a u9 hs) 0 0 := by
  intro sz
  refine g_of (own := RX8) (by decide) rfl rfl (Nat.le_of_ble_eq_true rfl) [(0, .ref (a 0))] rfl (fun p e s m args below meth c hsz X => ?_)
  subst hsz
  unfold PX8_run at hw
  refine g_aload_n X 0 dX8_run_0 rfl rfl ?_
  refine g_iconst (v := 0) X rfl dX8_run_1 ?_
  refine g_put (T := TX8) (C := RX8) (N := 21) X (fun z => wM ct a z hs) w 0 5 tyX8 tyX8_ok nmX8 (fun _ h => (List.mem_cons_of_mem _ (List.mem_append_right _ h))) (List.mem_of_getElem? (i := 1) rfl) dX8_run_2 rfl rfl (by decide) rfl rfl (by decide +kernel) (Nat.le_of_ble_eq_true rfl) rfl (fun w1 hw1 => ?_)
  replace hw := hw w1 hw1
  refine g_aload_n X 0 dX8_run_5 rfl rfl ?_
  refine g_ciV X [wM ct a w1 hs] (fun (u3 : Mem) => [wM ct a u3 hs]) (fun (u3 : Mem) => wM ct a u3 hs) 1 [0] [] 0 (kX8_isChronicle l D ct a w1 hs _ hw) (cwV 0 X.1.2.2.2.2 gX8_run_X8_isChronicle rfl rfl rfl (by decide +kernel) ⟨Nat.le_of_ble_eq_true rfl, Nat.le_of_ble_eq_true rfl⟩) dX8_run_6 rfl rfl (Nat.le_of_ble_eq_true rfl) ⟨Nat.le_of_ble_eq_true rfl, Nat.le_of_ble_eq_true rfl⟩ rfl rfl rfl (by decide) (fun _ => rfl) (fun _ => rfl) (fun _ => rfl) (fun _ => rfl) rfl rfl rfl (fun r2 u3 hw => ?_)
  obtain ⟨w4, hw4⟩ : ∃ z : Mem, z = u3 := ⟨_, rfl⟩
  rw [← hw4] at hw
  rw [← hw4]
  refine g_if_ne X 18 dX8_run_9 (by decide) (fun c5 => ?_) (fun c5 => ?_)
  · replace hw := hw.1 c5
    refine g_aload_n X 0 dX8_run_18 rfl rfl ?_
    refine g_cvV X [wM ct a w4 hs] (fun (u6 : Mem) => [wM ct a u6 hs]) (fun (u6 : Mem) => wM ct a u6 hs) 1 [0] [] 0 (kX8_save l D ct a w4 hs _ hw) (cwV 0 X.1.2.2.2.2 gX8_run_X8_save rfl rfl rfl (by decide +kernel) ⟨Nat.le_of_ble_eq_true rfl, Nat.le_of_ble_eq_true rfl⟩) dX8_run_19 rfl rfl (Nat.le_of_ble_eq_true rfl) ⟨Nat.le_of_ble_eq_true rfl, Nat.le_of_ble_eq_true rfl⟩ rfl rfl rfl (by decide) (fun _ => rfl) (fun _ => rfl) (fun _ => rfl) (fun _ => rfl) rfl rfl rfl (fun u6 hw => ?_)
    obtain ⟨w7, hw7⟩ : ∃ z : Mem, z = u6 := ⟨_, rfl⟩
    rw [← hw7] at hw
    rw [← hw7]
    refine g_iconst (v := 0) X rfl dX8_run_22 ?_
    refine g_istore_n X [(1, .int 0), (0, .ref (a 0))] dX8_run_23 rfl (by decide) rfl ?_
    refine g_sub [(0, .ref (a 0)), (1, .int 0)] [1, 0] rfl ?_
    obtain ⟨n14, hw⟩ := hw
    exact kX8_run_24 l D ct a hs post X n14 _ _ hw
  · replace hw := hw.2 c5
    refine g_aload_n X 0 dX8_run_12 rfl rfl ?_
    refine g_iconst (v := 1) X rfl dX8_run_13 ?_
    refine g_ciV X [wM ct a w4 hs] (fun (u16 : Mem) => [wM ct a u16 hs]) (fun (u16 : Mem) => wM ct a u16 hs) 1 [0] [] 0 (kX8_fails l D ct a w4 hs 1 _ hw) (cwV 1 X.1.2.2.2.2 gX8_run_X8_fails rfl rfl rfl (by decide +kernel) ⟨Nat.le_of_ble_eq_true rfl, Nat.le_of_ble_eq_true rfl⟩) dX8_run_14 rfl rfl (Nat.le_of_ble_eq_true rfl) ⟨Nat.le_of_ble_eq_true rfl, Nat.le_of_ble_eq_true rfl⟩ rfl rfl rfl (by decide) (fun _ => rfl) (fun _ => rfl) (fun _ => rfl) (fun _ => rfl) rfl rfl rfl (fun r15 u16 hw => ?_)
    obtain ⟨w17, hw17⟩ : ∃ z : Mem, z = u16 := ⟨_, rfl⟩
    rw [← hw17] at hw
    rw [← hw17]
    exact g_iret X w17 hw rfl (Nat.le_of_ble_eq_true rfl) (Nat.le_of_ble_eq_true rfl) dX8_run_17

abbrev rmX8_parentSet : Room := { frames := 1, cells := 0, slots := 0, locals := 21 }

abbrev GX8_parentSet (l : Launch) (D : va_G) (ct : Nat → ClassId) (a : Nat → Nat) (w : Mem) (hs : Int64) (post : Int32 → Prop) (p : Program) (e : Env) (s : State) (m : MethodId) (args : Array Value) (below : List Frame) (meth : Method) (c : Code) (A : Nat → Prop) (w9 : va_W) (lv : List (Nat × Value)) (pc : Nat) (st : List Value) : Prop :=
  GG p l e rmX8_parentSet s m args below meth c D A s.heap 5 (MQ below (va_Qi (fun r (_ : Unit) => post r) (fun u9 t9 => Af D (tyz ct) A ((fun _ => wM ct a w hs) u9) t9) A)  args s 0 0 A) w9 0 0 lv pc st

set_option maxHeartbeats 4000000 in
set_option maxRecDepth 20000 in
theorem kX8_parentSet_4 (l : Launch) (D : va_G) (ct : Nat → ClassId) (a : Nat → Nat) (w : Mem) (hs : Int64) (post : Int32 → Prop) {p : Program} {e : Env} {s : State} {m : MethodId} {args : Array Value} {below : List Frame} {meth : Method} {c : Code} {A : Nat → Prop} (X : Cx p s m args meth c cX8_parentSet 5 RX8 wsX8_parentSet D (tyz ct) A s.heap (some .int))  :
    ∀ (n : Nat) (x1 : Int32) (x2 : Int32) (x3 : Int32), PX8_parentSet_4 w hs post n x1 x2 x3 → GX8_parentSet l D ct a w hs post p e s m args below meth c A (wM ct a w hs) [(0, .ref (a 0)), (1, .int x1), (2, .int x2), (3, .int x3)] 4 [] := by
  intro n
  induction n with
  | zero =>
    intro x1 x2 x3 hw
    exact hw.elim
  | succ n ih =>
    intro x1 x2 x3 hw
    unfold PX8_parentSet_4 at hw
    refine g_iload_n X 3 dX8_parentSet_4 rfl rfl ?_
    refine g_aload_n X 0 dX8_parentSet_5 rfl rfl ?_
    refine g_get (T := TX8) (C := RX8) (N := 21) (v := .ref (a 1)) X 0 0 (fun _ h => (List.mem_cons_of_mem _ (List.mem_append_right _ h))) (List.mem_of_getElem? (i := 1) rfl) dX8_parentSet_6 rfl rfl (by decide) rfl rfl ?_
    refine g_iconst (v := 0) X rfl dX8_parentSet_9 ?_
    obtain ⟨h1, hw⟩ := hw
    refine g_iald X 1 0 dX8_parentSet_10 rfl rfl h1 ?_
    refine g_icmp_ge X 66 dX8_parentSet_11 (by decide) (fun c2 => ?_) (fun c2 => ?_)
    · replace hw := hw.1 c2
      refine g_iload_n X 2 dX8_parentSet_66 rfl rfl ?_
      exact g_iret X () hw rfl (Nat.le_of_ble_eq_true rfl) (Nat.le_of_ble_eq_true rfl) dX8_parentSet_67
    · replace hw := hw.2 c2
      refine g_aload_n X 0 dX8_parentSet_14 rfl rfl ?_
      refine g_iload_n X 3 dX8_parentSet_15 rfl rfl ?_
      refine g_ciV X [wM ct a w hs] (fun (_ : Unit) => [wM ct a w hs]) (fun _ => wM ct a w hs) 1 [0] [] 0 (kX8_parentsOf l D ct a w hs x3 _ hw) (cwV 1 X.1.2.2.2.2 gX8_parentSet_X8_parentsOf rfl rfl rfl (by decide +kernel) ⟨Nat.le_of_ble_eq_true rfl, Nat.le_of_ble_eq_true rfl⟩) dX8_parentSet_16 rfl rfl (Nat.le_of_ble_eq_true rfl) ⟨Nat.le_of_ble_eq_true rfl, Nat.le_of_ble_eq_true rfl⟩ rfl rfl rfl (by decide) (fun _ => rfl) (fun _ => rfl) (fun _ => rfl) (fun _ => rfl) rfl rfl rfl (fun r3 _ hw => ?_)
      refine g_istore X [(4, .int r3), (0, .ref (a 0)), (1, .int x1), (2, .int x2), (3, .int x3)] dX8_parentSet_19 (by decide) rfl ?_
      refine g_iload_n X 3 dX8_parentSet_21 rfl rfl ?_
      refine g_iload_n X 2 dX8_parentSet_22 rfl rfl ?_
      refine g_iload_n X 4 dX8_parentSet_23 rfl rfl ?_
      refine g_ishr X dX8_parentSet_24 ?_
      refine g_iconst (v := 1) X rfl dX8_parentSet_25 ?_
      refine g_iand X dX8_parentSet_26 ?_
      refine g_iconst (v := 1) X rfl dX8_parentSet_27 ?_
      refine g_icmp_ne X 57 dX8_parentSet_28 (by decide) (fun c5 => ?_) (fun c5 => ?_)
      · replace hw := hw.1 c5
        refine g_iconst (v := 0) X rfl dX8_parentSet_57 ?_
        refine g_ior X dX8_parentSet_58 ?_
        refine g_topi (fun q6 hq6 => ?_)
        replace hw := hw q6 hq6
        refine g_istore_n X [(2, .int q6), (4, .int r3), (0, .ref (a 0)), (1, .int x1), (3, .int x3)] dX8_parentSet_59 rfl (by decide) rfl ?_
        refine g_iinc X [(3, .int (x3 + 1)), (2, .int q6), (4, .int r3), (0, .ref (a 0)), (1, .int x1)] 4 dX8_parentSet_60 rfl rfl (by decide) rfl ?_
        refine g_goto X 4 dX8_parentSet_63 (by decide) ?_
        refine g_sub [(0, .ref (a 0)), (1, .int x1), (2, .int q6), (3, .int (x3 + 1))] [3, 4, 1, 0] rfl ?_
        exact ih _ _ _ hw
      · replace hw := hw.2 c5
        refine g_iload X 0 dX8_parentSet_31 rfl ?_
        refine g_iconst (v := (-1)) X rfl dX8_parentSet_33 ?_
        refine g_icmp_eq X 57 dX8_parentSet_34 (by decide) (fun c7 => ?_) (fun c7 => ?_)
        · replace hw := hw.1 c7
          refine g_iconst (v := 0) X rfl dX8_parentSet_57 ?_
          refine g_ior X dX8_parentSet_58 ?_
          refine g_topi (fun q8 hq8 => ?_)
          replace hw := hw q8 hq8
          refine g_istore_n X [(2, .int q8), (4, .int r3), (0, .ref (a 0)), (1, .int x1), (3, .int x3)] dX8_parentSet_59 rfl (by decide) rfl ?_
          refine g_iinc X [(3, .int (x3 + 1)), (2, .int q8), (4, .int r3), (0, .ref (a 0)), (1, .int x1)] 4 dX8_parentSet_60 rfl rfl (by decide) rfl ?_
          refine g_goto X 4 dX8_parentSet_63 (by decide) ?_
          refine g_sub [(0, .ref (a 0)), (1, .int x1), (2, .int q8), (3, .int (x3 + 1))] [3, 4, 1, 0] rfl ?_
          exact ih _ _ _ hw
        · replace hw := hw.2 c7
          refine g_iconst (v := 1) X rfl dX8_parentSet_37 ?_
          refine g_aload_n X 1 dX8_parentSet_38 rfl rfl ?_
          refine g_iload X 0 dX8_parentSet_39 rfl ?_
          refine g_ciV X [wM ct a w hs] (fun (_ : Unit) => [wM ct a w hs]) (fun _ => wM ct a w hs) 1 [0] [] 0 (kX8_one l D ct a w hs r3 _ hw) (cwV 1 X.1.2.2.2.2 gX8_parentSet_X8_one rfl rfl rfl (by decide +kernel) ⟨Nat.le_of_ble_eq_true rfl, Nat.le_of_ble_eq_true rfl⟩) dX8_parentSet_41 rfl rfl (Nat.le_of_ble_eq_true rfl) ⟨Nat.le_of_ble_eq_true rfl, Nat.le_of_ble_eq_true rfl⟩ rfl rfl rfl (by decide) (fun _ => rfl) (fun _ => rfl) (fun _ => rfl) (fun _ => rfl) rfl rfl rfl (fun r9 _ hw => ?_)
          refine g_ishl X dX8_parentSet_44 ?_
          refine g_iconst (v := 1) X rfl dX8_parentSet_45 ?_
          refine g_aload_n X 1 dX8_parentSet_46 rfl rfl ?_
          refine g_iload X 0 dX8_parentSet_47 rfl ?_
          refine g_ciV X [wM ct a w hs] (fun (_ : Unit) => [wM ct a w hs]) (fun _ => wM ct a w hs) 1 [0] [] 0 (kX8_other l D ct a w hs r3 _ hw) (cwV 1 X.1.2.2.2.2 gX8_parentSet_X8_other rfl rfl rfl (by decide +kernel) ⟨Nat.le_of_ble_eq_true rfl, Nat.le_of_ble_eq_true rfl⟩) dX8_parentSet_49 rfl rfl (Nat.le_of_ble_eq_true rfl) ⟨Nat.le_of_ble_eq_true rfl, Nat.le_of_ble_eq_true rfl⟩ rfl rfl rfl (by decide) (fun _ => rfl) (fun _ => rfl) (fun _ => rfl) (fun _ => rfl) rfl rfl rfl (fun r11 _ hw => ?_)
          refine g_ishl X dX8_parentSet_52 ?_
          refine g_ior X dX8_parentSet_53 ?_
          refine g_goto X 58 dX8_parentSet_54 (by decide) ?_
          refine g_ior X dX8_parentSet_58 ?_
          refine g_topi (fun q13 hq13 => ?_)
          replace hw := hw q13 hq13
          refine g_istore_n X [(2, .int q13), (4, .int r3), (0, .ref (a 0)), (1, .int x1), (3, .int x3)] dX8_parentSet_59 rfl (by decide) rfl ?_
          refine g_iinc X [(3, .int (x3 + 1)), (2, .int q13), (4, .int r3), (0, .ref (a 0)), (1, .int x1)] 4 dX8_parentSet_60 rfl rfl (by decide) rfl ?_
          refine g_goto X 4 dX8_parentSet_63 (by decide) ?_
          refine g_sub [(0, .ref (a 0)), (1, .int x1), (2, .int q13), (3, .int (x3 + 1))] [3, 4, 1, 0] rfl ?_
          exact ih _ _ _ hw

set_option maxHeartbeats 4000000 in
set_option maxRecDepth 20000 in
theorem kX8_parentSet (l : Launch) (D : va_G) (ct : Nat → ClassId) (a : Nat → Nat) (w : Mem) (hs : Int64) (p1 : Int32) (post : Int32 → Prop) (hw : PX8_parentSet w hs p1 post) : Ci (S := Unit) l yX8_parentSet wsX8_parentSet rmX8_parentSet D (tyz ct) [.ref (a 0), .int p1] (wM ct a w hs) (fun r (_ : Unit) => post r) (fun _ => wM ct a w hs) 0 0 := by
  intro sz
  refine g_of (own := RX8) (by decide) rfl rfl (Nat.le_of_ble_eq_true rfl) [(0, .ref (a 0)), (1, .int p1)] rfl (fun p e s m args below meth c hsz X => ?_)
  subst hsz
  unfold PX8_parentSet at hw
  refine g_iconst (v := 0) X rfl dX8_parentSet_0 ?_
  refine g_istore_n X [(2, .int 0), (0, .ref (a 0)), (1, .int p1)] dX8_parentSet_1 rfl (by decide) rfl ?_
  refine g_iconst (v := 0) X rfl dX8_parentSet_2 ?_
  refine g_istore_n X [(3, .int 0), (2, .int 0), (0, .ref (a 0)), (1, .int p1)] dX8_parentSet_3 rfl (by decide) rfl ?_
  refine g_sub [(0, .ref (a 0)), (1, .int p1), (2, .int 0), (3, .int 0)] [2, 3, 1, 0] rfl ?_
  obtain ⟨n14, hw⟩ := hw
  exact kX8_parentSet_4 l D ct a w hs post X n14 _ _ _ hw

abbrev rmX8_ancestors : Room := { frames := 2, cells := 0, slots := 0, locals := 45 }

abbrev GX8_ancestors (l : Launch) (D : va_G) (ct : Nat → ClassId) (a : Nat → Nat) (w : Mem) (hs : Int64) (post : Int32 → Prop) (p : Program) (e : Env) (s : State) (m : MethodId) (args : Array Value) (below : List Frame) (meth : Method) (c : Code) (A : Nat → Prop) (w9 : va_W) (lv : List (Nat × Value)) (pc : Nat) (st : List Value) : Prop :=
  GG p l e rmX8_ancestors s m args below meth c D A s.heap 4 (MQ below (va_Qi (fun r (_ : Unit) => post r) (fun u9 t9 => Af D (tyz ct) A ((fun _ => wM ct a w hs) u9) t9) A)  args s 0 0 A) w9 0 0 lv pc st

set_option maxHeartbeats 4000000 in
set_option maxRecDepth 20000 in
theorem kX8_ancestors (l : Launch) (D : va_G) (ct : Nat → ClassId) (a : Nat → Nat) (w : Mem) (hs : Int64) (p1 : Int32) (post : Int32 → Prop) (hw : PX8_ancestors w hs p1 post) : Ci (S := Unit) l yX8_ancestors wsX8_ancestors rmX8_ancestors D (tyz ct) [.ref (a 0), .int p1] (wM ct a w hs) (fun r (_ : Unit) => post r) (fun _ => wM ct a w hs) 0 0 := by
  intro sz
  refine g_of (own := RX8) (by decide) rfl rfl (Nat.le_of_ble_eq_true rfl) [(0, .ref (a 0)), (1, .int p1)] rfl (fun p e s m args below meth c hsz X => ?_)
  subst hsz
  unfold PX8_ancestors at hw
  refine g_aload_n X 0 dX8_ancestors_0 rfl rfl ?_
  refine g_iconst (v := 1) X rfl dX8_ancestors_1 ?_
  refine g_iload_n X 1 dX8_ancestors_2 rfl rfl ?_
  refine g_ishl X dX8_ancestors_3 ?_
  refine g_ciV X [wM ct a w hs] (fun (_ : Unit) => [wM ct a w hs]) (fun _ => wM ct a w hs) 1 [0] [] 0 (kX8_parentSet l D ct a w hs (1 <<< (p1 &&& 31)) _ hw) (cwV 1 X.1.2.2.2.2 gX8_ancestors_X8_parentSet rfl rfl rfl (by decide +kernel) ⟨Nat.le_of_ble_eq_true rfl, Nat.le_of_ble_eq_true rfl⟩) dX8_ancestors_4 rfl rfl (Nat.le_of_ble_eq_true rfl) ⟨Nat.le_of_ble_eq_true rfl, Nat.le_of_ble_eq_true rfl⟩ rfl rfl rfl (by decide) (fun _ => rfl) (fun _ => rfl) (fun _ => rfl) (fun _ => rfl) rfl rfl rfl (fun r1 _ hw => ?_)
  refine g_istore_n X [(2, .int r1), (0, .ref (a 0)), (1, .int p1)] dX8_ancestors_7 rfl (by decide) rfl ?_
  refine g_aload_n X 1 dX8_ancestors_8 rfl rfl ?_
  refine g_iload_n X 0 dX8_ancestors_9 rfl rfl ?_
  refine g_ciV X [wM ct a w hs] (fun (_ : Unit) => [wM ct a w hs]) (fun _ => wM ct a w hs) 1 [0] [] 0 (kX8_parentSet l D ct a w hs r1 _ hw) (cwV 1 X.1.2.2.2.2 gX8_ancestors_X8_parentSet rfl rfl rfl (by decide +kernel) ⟨Nat.le_of_ble_eq_true rfl, Nat.le_of_ble_eq_true rfl⟩) dX8_ancestors_10 rfl rfl (Nat.le_of_ble_eq_true rfl) ⟨Nat.le_of_ble_eq_true rfl, Nat.le_of_ble_eq_true rfl⟩ rfl rfl rfl (by decide) (fun _ => rfl) (fun _ => rfl) (fun _ => rfl) (fun _ => rfl) rfl rfl rfl (fun r3 _ hw => ?_)
  refine g_istore_n X [(3, .int r3), (2, .int r1), (0, .ref (a 0)), (1, .int p1)] dX8_ancestors_13 rfl (by decide) rfl ?_
  refine g_iload_n X 1 dX8_ancestors_14 rfl rfl ?_
  refine g_iload_n X 0 dX8_ancestors_15 rfl rfl ?_
  refine g_ior X dX8_ancestors_16 ?_
  refine g_aload_n X 2 dX8_ancestors_17 rfl rfl ?_
  refine g_iload_n X 0 dX8_ancestors_18 rfl rfl ?_
  refine g_ciV X [wM ct a w hs] (fun (_ : Unit) => [wM ct a w hs]) (fun _ => wM ct a w hs) 1 [0] [] 0 (kX8_parentSet l D ct a w hs r3 _ hw) (cwV 1 X.1.2.2.2.2 gX8_ancestors_X8_parentSet rfl rfl rfl (by decide +kernel) ⟨Nat.le_of_ble_eq_true rfl, Nat.le_of_ble_eq_true rfl⟩) dX8_ancestors_19 rfl rfl (Nat.le_of_ble_eq_true rfl) ⟨Nat.le_of_ble_eq_true rfl, Nat.le_of_ble_eq_true rfl⟩ rfl rfl rfl (by decide) (fun _ => rfl) (fun _ => rfl) (fun _ => rfl) (fun _ => rfl) rfl rfl rfl (fun r5 _ hw => ?_)
  refine g_ior X dX8_ancestors_22 ?_
  exact g_iret X () hw rfl (Nat.le_of_ble_eq_true rfl) (Nat.le_of_ble_eq_true rfl) dX8_ancestors_23

abbrev rmX8_ones : Room := { frames := 0, cells := 0, slots := 0, locals := 0 }

abbrev GX8_ones (l : Launch) (D : va_G) (ct : Nat → ClassId) (post : Int32 → Prop) (p : Program) (e : Env) (s : State) (m : MethodId) (args : Array Value) (below : List Frame) (meth : Method) (c : Code) (A : Nat → Prop) (w9 : va_W) (lv : List (Nat × Value)) (pc : Nat) (st : List Value) : Prop :=
  GG p l e rmX8_ones s m args below meth c D A s.heap 3 (MQ below (va_Qi (fun r (_ : Unit) => post r) (fun u9 t9 => Af D (tyz ct) A ((fun _ => ([] : va_W)) u9) t9) A)  args s 0 0 A) w9 0 0 lv pc st

set_option maxHeartbeats 4000000 in
set_option maxRecDepth 20000 in
theorem kX8_ones_4 (l : Launch) (D : va_G) (ct : Nat → ClassId) (post : Int32 → Prop) {p : Program} {e : Env} {s : State} {m : MethodId} {args : Array Value} {below : List Frame} {meth : Method} {c : Code} {A : Nat → Prop} (X : Cx p s m args meth c cX8_ones 3 RX8 wsX8_ones D (tyz ct) A s.heap (some .int))  :
    ∀ (n : Nat) (x0 : Int32) (x1 : Int32) (x2 : Int32), PX8_ones_4 post n x0 x1 x2 → GX8_ones l D ct   post p e s m args below meth c A (([] : va_W)) [(0, .int x0), (1, .int x1), (2, .int x2)] 4 [] := by
  intro n
  induction n with
  | zero =>
    intro x0 x1 x2 hw
    exact hw.elim
  | succ n ih =>
    intro x0 x1 x2 hw
    unfold PX8_ones_4 at hw
    refine g_iload_n X 2 dX8_ones_4 rfl rfl ?_
    refine g_bipush (v := 20) X rfl dX8_ones_5 ?_
    refine g_icmp_ge X 24 dX8_ones_7 (by decide) (fun c1 => ?_) (fun c1 => ?_)
    · replace hw := hw.1 c1
      refine g_iload_n X 1 dX8_ones_24 rfl rfl ?_
      exact g_iret X () hw rfl (Nat.le_of_ble_eq_true rfl) (Nat.le_of_ble_eq_true rfl) dX8_ones_25
    · replace hw := hw.2 c1
      refine g_iload_n X 1 dX8_ones_10 rfl rfl ?_
      refine g_iload_n X 0 dX8_ones_11 rfl rfl ?_
      refine g_iload_n X 2 dX8_ones_12 rfl rfl ?_
      refine g_ishr X dX8_ones_13 ?_
      refine g_iconst (v := 1) X rfl dX8_ones_14 ?_
      refine g_iand X dX8_ones_15 ?_
      refine g_iadd X dX8_ones_16 ?_
      refine g_topi (fun q2 hq2 => ?_)
      replace hw := hw q2 hq2
      refine g_istore_n X [(1, .int q2), (0, .int x0), (2, .int x2)] dX8_ones_17 rfl (by decide) rfl ?_
      refine g_iinc X [(2, .int (x2 + 1)), (1, .int q2), (0, .int x0)] 2 dX8_ones_18 rfl rfl (by decide) rfl ?_
      refine g_goto X 4 dX8_ones_21 (by decide) ?_
      refine g_sub [(0, .int x0), (1, .int q2), (2, .int (x2 + 1))] [2, 1, 0] rfl ?_
      exact ih _ _ _ hw

set_option maxHeartbeats 4000000 in
set_option maxRecDepth 20000 in
theorem kX8_ones (l : Launch) (D : va_G) (ct : Nat → ClassId) (p1 : Int32) (post : Int32 → Prop) (hw : PX8_ones p1 post) : Ci (S := Unit) l yX8_ones wsX8_ones rmX8_ones D (tyz ct) [.int p1] (([] : va_W)) (fun r (_ : Unit) => post r) (fun _ => ([] : va_W)) 0 0 := by
  intro sz
  refine g_of (own := RX8) (by decide) rfl rfl (Nat.le_of_ble_eq_true rfl) [(0, .int p1)] rfl (fun p e s m args below meth c hsz X => ?_)
  subst hsz
  unfold PX8_ones at hw
  refine g_iconst (v := 0) X rfl dX8_ones_0 ?_
  refine g_istore_n X [(1, .int 0), (0, .int p1)] dX8_ones_1 rfl (by decide) rfl ?_
  refine g_iconst (v := 0) X rfl dX8_ones_2 ?_
  refine g_istore_n X [(2, .int 0), (1, .int 0), (0, .int p1)] dX8_ones_3 rfl (by decide) rfl ?_
  refine g_sub [(0, .int p1), (1, .int 0), (2, .int 0)] [2, 1, 0] rfl ?_
  obtain ⟨n3, hw⟩ := hw
  exact kX8_ones_4 l D ct post X n3 _ _ _ hw

abbrev rmX8_descending : Room := { frames := 3, cells := 0, slots := 0, locals := 68 }

abbrev GX8_descending (l : Launch) (D : va_G) (ct : Nat → ClassId) (a : Nat → Nat) (w : Mem) (hs : Int64) (post : Int32 → Prop) (p : Program) (e : Env) (s : State) (m : MethodId) (args : Array Value) (below : List Frame) (meth : Method) (c : Code) (A : Nat → Prop) (w9 : va_W) (lv : List (Nat × Value)) (pc : Nat) (st : List Value) : Prop :=
  GG p l e rmX8_descending s m args below meth c D A s.heap 4 (MQ below (va_Qi (fun r (_ : Unit) => post r) (fun u9 t9 => Af D (tyz ct) A ((fun _ => wM ct a w hs) u9) t9) A)  args s 0 0 A) w9 0 0 lv pc st

set_option maxHeartbeats 4000000 in
set_option maxRecDepth 20000 in
theorem kX8_descending_4 (l : Launch) (D : va_G) (ct : Nat → ClassId) (a : Nat → Nat) (w : Mem) (hs : Int64) (post : Int32 → Prop) {p : Program} {e : Env} {s : State} {m : MethodId} {args : Array Value} {below : List Frame} {meth : Method} {c : Code} {A : Nat → Prop} (X : Cx p s m args meth c cX8_descending 4 RX8 wsX8_descending D (tyz ct) A s.heap (some .int))  :
    ∀ (n : Nat) (x1 : Int32) (x2 : Int32) (x3 : Int32), PX8_descending_4 w hs post n x1 x2 x3 → GX8_descending l D ct a w hs post p e s m args below meth c A (wM ct a w hs) [(0, .ref (a 0)), (1, .int x1), (2, .int x2), (3, .int x3)] 4 [] := by
  intro n
  induction n with
  | zero =>
    intro x1 x2 x3 hw
    exact hw.elim
  | succ n ih =>
    intro x1 x2 x3 hw
    unfold PX8_descending_4 at hw
    refine g_iload_n X 3 dX8_descending_4 rfl rfl ?_
    refine g_aload_n X 0 dX8_descending_5 rfl rfl ?_
    refine g_get (T := TX8) (C := RX8) (N := 21) (v := .ref (a 1)) X 0 0 (fun _ h => (List.mem_cons_of_mem _ (List.mem_append_right _ h))) (List.mem_of_getElem? (i := 1) rfl) dX8_descending_6 rfl rfl (by decide) rfl rfl ?_
    refine g_iconst (v := 0) X rfl dX8_descending_9 ?_
    obtain ⟨h1, hw⟩ := hw
    refine g_iald X 1 0 dX8_descending_10 rfl rfl h1 ?_
    refine g_icmp_ge X 32 dX8_descending_11 (by decide) (fun c2 => ?_) (fun c2 => ?_)
    · replace hw := hw.1 c2
      refine g_iload_n X 2 dX8_descending_32 rfl rfl ?_
      exact g_iret X () hw rfl (Nat.le_of_ble_eq_true rfl) (Nat.le_of_ble_eq_true rfl) dX8_descending_33
    · replace hw := hw.2 c2
      refine g_iload_n X 2 dX8_descending_14 rfl rfl ?_
      refine g_aload_n X 0 dX8_descending_15 rfl rfl ?_
      refine g_iload_n X 3 dX8_descending_16 rfl rfl ?_
      refine g_ciV X [wM ct a w hs] (fun (_ : Unit) => [wM ct a w hs]) (fun _ => wM ct a w hs) 1 [0] [] 0 (kX8_ancestors l D ct a w hs x3 _ hw) (cwV 1 X.1.2.2.2.2 gX8_descending_X8_ancestors rfl rfl rfl (by decide +kernel) ⟨Nat.le_of_ble_eq_true rfl, Nat.le_of_ble_eq_true rfl⟩) dX8_descending_17 rfl rfl (Nat.le_of_ble_eq_true rfl) ⟨Nat.le_of_ble_eq_true rfl, Nat.le_of_ble_eq_true rfl⟩ rfl rfl rfl (by decide) (fun _ => rfl) (fun _ => rfl) (fun _ => rfl) (fun _ => rfl) rfl rfl rfl (fun r3 _ hw => ?_)
      refine g_iload_n X 1 dX8_descending_20 rfl rfl ?_
      refine g_ishr X dX8_descending_21 ?_
      refine g_iconst (v := 1) X rfl dX8_descending_22 ?_
      refine g_iand X dX8_descending_23 ?_
      refine g_iadd X dX8_descending_24 ?_
      refine g_topi (fun q5 hq5 => ?_)
      replace hw := hw q5 hq5
      refine g_istore_n X [(2, .int q5), (0, .ref (a 0)), (1, .int x1), (3, .int x3)] dX8_descending_25 rfl (by decide) rfl ?_
      refine g_iinc X [(3, .int (x3 + 1)), (2, .int q5), (0, .ref (a 0)), (1, .int x1)] 3 dX8_descending_26 rfl rfl (by decide) rfl ?_
      refine g_goto X 4 dX8_descending_29 (by decide) ?_
      refine g_sub [(0, .ref (a 0)), (1, .int x1), (2, .int q5), (3, .int (x3 + 1))] [2, 3, 1, 0] rfl ?_
      exact ih _ _ _ hw

set_option maxHeartbeats 4000000 in
set_option maxRecDepth 20000 in
theorem kX8_descending (l : Launch) (D : va_G) (ct : Nat → ClassId) (a : Nat → Nat) (w : Mem) (hs : Int64) (p1 : Int32) (post : Int32 → Prop) (hw : PX8_descending w hs p1 post) : Ci (S := Unit) l yX8_descending wsX8_descending rmX8_descending D (tyz ct) [.ref (a 0), .int p1] (wM ct a w hs) (fun r (_ : Unit) => post r) (fun _ => wM ct a w hs) 0 0 := by
  intro sz
  refine g_of (own := RX8) (by decide) rfl rfl (Nat.le_of_ble_eq_true rfl) [(0, .ref (a 0)), (1, .int p1)] rfl (fun p e s m args below meth c hsz X => ?_)
  subst hsz
  unfold PX8_descending at hw
  refine g_iconst (v := 0) X rfl dX8_descending_0 ?_
  refine g_istore_n X [(2, .int 0), (0, .ref (a 0)), (1, .int p1)] dX8_descending_1 rfl (by decide) rfl ?_
  refine g_iconst (v := 0) X rfl dX8_descending_2 ?_
  refine g_istore_n X [(3, .int 0), (2, .int 0), (0, .ref (a 0)), (1, .int p1)] dX8_descending_3 rfl (by decide) rfl ?_
  refine g_sub [(0, .ref (a 0)), (1, .int p1), (2, .int 0), (3, .int 0)] [2, 3, 1, 0] rfl ?_
  obtain ⟨n6, hw⟩ := hw
  exact kX8_descending_4 l D ct a w hs post X n6 _ _ _ hw

abbrev rmX8_childrenOf : Room := { frames := 1, cells := 0, slots := 0, locals := 21 }

abbrev GX8_childrenOf (l : Launch) (D : va_G) (ct : Nat → ClassId) (a : Nat → Nat) (w : Mem) (hs : Int64) (post : Int32 → Prop) (p : Program) (e : Env) (s : State) (m : MethodId) (args : Array Value) (below : List Frame) (meth : Method) (c : Code) (A : Nat → Prop) (w9 : va_W) (lv : List (Nat × Value)) (pc : Nat) (st : List Value) : Prop :=
  GG p l e rmX8_childrenOf s m args below meth c D A s.heap 4 (MQ below (va_Qi (fun r (_ : Unit) => post r) (fun u9 t9 => Af D (tyz ct) A ((fun _ => wM ct a w hs) u9) t9) A)  args s 0 0 A) w9 0 0 lv pc st

set_option maxHeartbeats 4000000 in
set_option maxRecDepth 20000 in
theorem kX8_childrenOf_4 (l : Launch) (D : va_G) (ct : Nat → ClassId) (a : Nat → Nat) (w : Mem) (hs : Int64) (post : Int32 → Prop) {p : Program} {e : Env} {s : State} {m : MethodId} {args : Array Value} {below : List Frame} {meth : Method} {c : Code} {A : Nat → Prop} (X : Cx p s m args meth c cX8_childrenOf 4 RX8 wsX8_childrenOf D (tyz ct) A s.heap (some .int))  :
    ∀ (n : Nat) (x1 : Int32) (x2 : Int32) (x3 : Int32), PX8_childrenOf_4 w hs post n x1 x2 x3 → GX8_childrenOf l D ct a w hs post p e s m args below meth c A (wM ct a w hs) [(0, .ref (a 0)), (1, .int x1), (2, .int x2), (3, .int x3)] 4 [] := by
  intro n
  induction n with
  | zero =>
    intro x1 x2 x3 hw
    exact hw.elim
  | succ n ih =>
    intro x1 x2 x3 hw
    unfold PX8_childrenOf_4 at hw
    refine g_iload_n X 3 dX8_childrenOf_4 rfl rfl ?_
    refine g_aload_n X 0 dX8_childrenOf_5 rfl rfl ?_
    refine g_get (T := TX8) (C := RX8) (N := 21) (v := .ref (a 1)) X 0 0 (fun _ h => (List.mem_cons_of_mem _ (List.mem_append_right _ h))) (List.mem_of_getElem? (i := 1) rfl) dX8_childrenOf_6 rfl rfl (by decide) rfl rfl ?_
    refine g_iconst (v := 0) X rfl dX8_childrenOf_9 ?_
    obtain ⟨h1, hw⟩ := hw
    refine g_iald X 1 0 dX8_childrenOf_10 rfl rfl h1 ?_
    refine g_icmp_ge X 37 dX8_childrenOf_11 (by decide) (fun c2 => ?_) (fun c2 => ?_)
    · replace hw := hw.1 c2
      refine g_iload_n X 2 dX8_childrenOf_37 rfl rfl ?_
      exact g_iret X () hw rfl (Nat.le_of_ble_eq_true rfl) (Nat.le_of_ble_eq_true rfl) dX8_childrenOf_38
    · replace hw := hw.2 c2
      refine g_iload_n X 2 dX8_childrenOf_14 rfl rfl ?_
      refine g_aload_n X 0 dX8_childrenOf_15 rfl rfl ?_
      refine g_iload_n X 3 dX8_childrenOf_16 rfl rfl ?_
      refine g_ciV X [wM ct a w hs] (fun (_ : Unit) => [wM ct a w hs]) (fun _ => wM ct a w hs) 1 [0] [] 0 (kX8_parentsOf l D ct a w hs x3 _ hw) (cwV 1 X.1.2.2.2.2 gX8_childrenOf_X8_parentsOf rfl rfl rfl (by decide +kernel) ⟨Nat.le_of_ble_eq_true rfl, Nat.le_of_ble_eq_true rfl⟩) dX8_childrenOf_17 rfl rfl (Nat.le_of_ble_eq_true rfl) ⟨Nat.le_of_ble_eq_true rfl, Nat.le_of_ble_eq_true rfl⟩ rfl rfl rfl (by decide) (fun _ => rfl) (fun _ => rfl) (fun _ => rfl) (fun _ => rfl) rfl rfl rfl (fun r3 _ hw => ?_)
      refine g_iload_n X 1 dX8_childrenOf_20 rfl rfl ?_
      refine g_icmp_ne X 28 dX8_childrenOf_21 (by decide) (fun c5 => ?_) (fun c5 => ?_)
      · replace hw := hw.1 c5
        refine g_iconst (v := 0) X rfl dX8_childrenOf_28 ?_
        refine g_iadd X dX8_childrenOf_29 ?_
        refine g_topi (fun q6 hq6 => ?_)
        replace hw := hw q6 hq6
        refine g_istore_n X [(2, .int q6), (0, .ref (a 0)), (1, .int x1), (3, .int x3)] dX8_childrenOf_30 rfl (by decide) rfl ?_
        refine g_iinc X [(3, .int (x3 + 1)), (2, .int q6), (0, .ref (a 0)), (1, .int x1)] 3 dX8_childrenOf_31 rfl rfl (by decide) rfl ?_
        refine g_goto X 4 dX8_childrenOf_34 (by decide) ?_
        refine g_sub [(0, .ref (a 0)), (1, .int x1), (2, .int q6), (3, .int (x3 + 1))] [2, 3, 1, 0] rfl ?_
        exact ih _ _ _ hw
      · replace hw := hw.2 c5
        refine g_iconst (v := 1) X rfl dX8_childrenOf_24 ?_
        refine g_goto X 29 dX8_childrenOf_25 (by decide) ?_
        refine g_iadd X dX8_childrenOf_29 ?_
        refine g_topi (fun q7 hq7 => ?_)
        replace hw := hw q7 hq7
        refine g_istore_n X [(2, .int q7), (0, .ref (a 0)), (1, .int x1), (3, .int x3)] dX8_childrenOf_30 rfl (by decide) rfl ?_
        refine g_iinc X [(3, .int (x3 + 1)), (2, .int q7), (0, .ref (a 0)), (1, .int x1)] 3 dX8_childrenOf_31 rfl rfl (by decide) rfl ?_
        refine g_goto X 4 dX8_childrenOf_34 (by decide) ?_
        refine g_sub [(0, .ref (a 0)), (1, .int x1), (2, .int q7), (3, .int (x3 + 1))] [2, 3, 1, 0] rfl ?_
        exact ih _ _ _ hw

set_option maxHeartbeats 4000000 in
set_option maxRecDepth 20000 in
theorem kX8_childrenOf (l : Launch) (D : va_G) (ct : Nat → ClassId) (a : Nat → Nat) (w : Mem) (hs : Int64) (p1 : Int32) (post : Int32 → Prop) (hw : PX8_childrenOf w hs p1 post) : Ci (S := Unit) l yX8_childrenOf wsX8_childrenOf rmX8_childrenOf D (tyz ct) [.ref (a 0), .int p1] (wM ct a w hs) (fun r (_ : Unit) => post r) (fun _ => wM ct a w hs) 0 0 := by
  intro sz
  refine g_of (own := RX8) (by decide) rfl rfl (Nat.le_of_ble_eq_true rfl) [(0, .ref (a 0)), (1, .int p1)] rfl (fun p e s m args below meth c hsz X => ?_)
  subst hsz
  unfold PX8_childrenOf at hw
  refine g_iconst (v := 0) X rfl dX8_childrenOf_0 ?_
  refine g_istore_n X [(2, .int 0), (0, .ref (a 0)), (1, .int p1)] dX8_childrenOf_1 rfl (by decide) rfl ?_
  refine g_iconst (v := 0) X rfl dX8_childrenOf_2 ?_
  refine g_istore_n X [(3, .int 0), (2, .int 0), (0, .ref (a 0)), (1, .int p1)] dX8_childrenOf_3 rfl (by decide) rfl ?_
  refine g_sub [(0, .ref (a 0)), (1, .int p1), (2, .int 0), (3, .int 0)] [2, 3, 1, 0] rfl ?_
  obtain ⟨n8, hw⟩ := hw
  exact kX8_childrenOf_4 l D ct a w hs post X n8 _ _ _ hw

abbrev rmX8_allChildren : Room := { frames := 2, cells := 0, slots := 0, locals := 44 }

abbrev GX8_allChildren (l : Launch) (D : va_G) (ct : Nat → ClassId) (a : Nat → Nat) (w : Mem) (hs : Int64) (post : Int32 → Prop) (p : Program) (e : Env) (s : State) (m : MethodId) (args : Array Value) (below : List Frame) (meth : Method) (c : Code) (A : Nat → Prop) (w9 : va_W) (lv : List (Nat × Value)) (pc : Nat) (st : List Value) : Prop :=
  GG p l e rmX8_allChildren s m args below meth c D A s.heap 4 (MQ below (va_Qi (fun r (_ : Unit) => post r) (fun u9 t9 => Af D (tyz ct) A ((fun _ => wM ct a w hs) u9) t9) A)  args s 0 0 A) w9 0 0 lv pc st

set_option maxHeartbeats 4000000 in
set_option maxRecDepth 20000 in
theorem kX8_allChildren_33 (l : Launch) (D : va_G) (ct : Nat → ClassId) (a : Nat → Nat) (w : Mem) (hs : Int64) (post : Int32 → Prop) (K4 : Int32 → Int32 → Int32 → Prop) {p : Program} {e : Env} {s : State} {m : MethodId} {args : Array Value} {below : List Frame} {meth : Method} {c : Code} {A : Nat → Prop} (X : Cx p s m args meth c cX8_allChildren 4 RX8 wsX8_allChildren D (tyz ct) A s.heap (some .int)) (hK4 : ∀ (x1 : Int32) (x2 : Int32) (x3 : Int32), K4 x1 x2 x3 → GX8_allChildren l D ct a w hs post p e s m args below meth c A (wM ct a w hs) [(0, .ref (a 0)), (1, .int x1), (2, .int x2), (3, .int x3)] 4 []) :
    ∀ (x1 : Int32) (x3 : Int32) (z0 : Int32), PX8_allChildren_33 w hs post K4 x1 x3 z0 → GX8_allChildren l D ct a w hs post p e s m args below meth c A (wM ct a w hs) [(0, .ref (a 0)), (1, .int x1), (3, .int x3)] 33 [.int z0] := by
  intro x1 x3 z0 hw
  unfold PX8_allChildren_33 at hw
  refine g_aload_n X 0 dX8_allChildren_33 rfl rfl ?_
  refine g_iload_n X 2 dX8_allChildren_34 rfl rfl ?_
  refine g_ciV X [wM ct a w hs] (fun (_ : Unit) => [wM ct a w hs]) (fun _ => wM ct a w hs) 1 [0] [] 0 (kX8_childrenOf l D ct a w hs x3 _ hw) (cwV 1 X.1.2.2.2.2 gX8_allChildren_X8_childrenOf rfl rfl rfl (by decide +kernel) ⟨Nat.le_of_ble_eq_true rfl, Nat.le_of_ble_eq_true rfl⟩) dX8_allChildren_35 rfl rfl (Nat.le_of_ble_eq_true rfl) ⟨Nat.le_of_ble_eq_true rfl, Nat.le_of_ble_eq_true rfl⟩ rfl rfl rfl (by decide) (fun _ => rfl) (fun _ => rfl) (fun _ => rfl) (fun _ => rfl) rfl rfl rfl (fun r6 _ hw => ?_)
  refine g_goto X 42 dX8_allChildren_38 (by decide) ?_
  refine g_iadd X dX8_allChildren_42 ?_
  refine g_topi (fun q8 hq8 => ?_)
  replace hw := hw q8 hq8
  refine g_istore_n X [(2, .int q8), (0, .ref (a 0)), (1, .int x1), (3, .int x3)] dX8_allChildren_43 rfl (by decide) rfl ?_
  refine g_iinc X [(3, .int (x3 + 1)), (2, .int q8), (0, .ref (a 0)), (1, .int x1)] 3 dX8_allChildren_44 rfl rfl (by decide) rfl ?_
  refine g_goto X 4 dX8_allChildren_47 (by decide) ?_
  refine g_sub [(0, .ref (a 0)), (1, .int x1), (2, .int q8), (3, .int (x3 + 1))] [2, 3, 1, 0] rfl ?_
  exact hK4 _ _ _ hw

set_option maxHeartbeats 4000000 in
set_option maxRecDepth 20000 in
theorem kX8_allChildren_4 (l : Launch) (D : va_G) (ct : Nat → ClassId) (a : Nat → Nat) (w : Mem) (hs : Int64) (post : Int32 → Prop) {p : Program} {e : Env} {s : State} {m : MethodId} {args : Array Value} {below : List Frame} {meth : Method} {c : Code} {A : Nat → Prop} (X : Cx p s m args meth c cX8_allChildren 4 RX8 wsX8_allChildren D (tyz ct) A s.heap (some .int))  :
    ∀ (n : Nat) (x1 : Int32) (x2 : Int32) (x3 : Int32), PX8_allChildren_4 w hs post n x1 x2 x3 → GX8_allChildren l D ct a w hs post p e s m args below meth c A (wM ct a w hs) [(0, .ref (a 0)), (1, .int x1), (2, .int x2), (3, .int x3)] 4 [] := by
  intro n
  induction n with
  | zero =>
    intro x1 x2 x3 hw
    exact hw.elim
  | succ n ih =>
    intro x1 x2 x3 hw
    unfold PX8_allChildren_4 at hw
    refine g_iload_n X 3 dX8_allChildren_4 rfl rfl ?_
    refine g_aload_n X 0 dX8_allChildren_5 rfl rfl ?_
    refine g_get (T := TX8) (C := RX8) (N := 21) (v := .ref (a 1)) X 0 0 (fun _ h => (List.mem_cons_of_mem _ (List.mem_append_right _ h))) (List.mem_of_getElem? (i := 1) rfl) dX8_allChildren_6 rfl rfl (by decide) rfl rfl ?_
    refine g_iconst (v := 1) X rfl dX8_allChildren_9 ?_
    obtain ⟨h1, hw⟩ := hw
    refine g_iald X 1 0 dX8_allChildren_10 rfl rfl h1 ?_
    refine g_icmp_ge X 50 dX8_allChildren_11 (by decide) (fun c2 => ?_) (fun c2 => ?_)
    · replace hw := hw.1 c2
      refine g_iload_n X 2 dX8_allChildren_50 rfl rfl ?_
      exact g_iret X () hw rfl (Nat.le_of_ble_eq_true rfl) (Nat.le_of_ble_eq_true rfl) dX8_allChildren_51
    · replace hw := hw.2 c2
      refine g_iload_n X 2 dX8_allChildren_14 rfl rfl ?_
      refine g_aload_n X 0 dX8_allChildren_15 rfl rfl ?_
      refine g_iload_n X 3 dX8_allChildren_16 rfl rfl ?_
      refine g_ciV X [wM ct a w hs] (fun (_ : Unit) => [wM ct a w hs]) (fun _ => wM ct a w hs) 1 [0] [] 0 (kX8_one l D ct a w hs x3 _ hw) (cwV 1 X.1.2.2.2.2 gX8_allChildren_X8_one rfl rfl rfl (by decide +kernel) ⟨Nat.le_of_ble_eq_true rfl, Nat.le_of_ble_eq_true rfl⟩) dX8_allChildren_17 rfl rfl (Nat.le_of_ble_eq_true rfl) ⟨Nat.le_of_ble_eq_true rfl, Nat.le_of_ble_eq_true rfl⟩ rfl rfl rfl (by decide) (fun _ => rfl) (fun _ => rfl) (fun _ => rfl) (fun _ => rfl) rfl rfl rfl (fun r3 _ hw => ?_)
      refine g_iload_n X 1 dX8_allChildren_20 rfl rfl ?_
      refine g_icmp_eq X 33 dX8_allChildren_21 (by decide) (fun c5 => ?_) (fun c5 => ?_)
      · replace hw := hw.1 c5
        refine g_sub [(0, .ref (a 0)), (1, .int x1), (3, .int x3)] [0, 1, 3] rfl ?_
        exact kX8_allChildren_33 l D ct a w hs post _ X ih _ _ _ hw
      · replace hw := hw.2 c5
        refine g_aload_n X 0 dX8_allChildren_24 rfl rfl ?_
        refine g_iload_n X 3 dX8_allChildren_25 rfl rfl ?_
        refine g_ciV X [wM ct a w hs] (fun (_ : Unit) => [wM ct a w hs]) (fun _ => wM ct a w hs) 1 [0] [] 0 (kX8_other l D ct a w hs x3 _ hw) (cwV 1 X.1.2.2.2.2 gX8_allChildren_X8_other rfl rfl rfl (by decide +kernel) ⟨Nat.le_of_ble_eq_true rfl, Nat.le_of_ble_eq_true rfl⟩) dX8_allChildren_26 rfl rfl (Nat.le_of_ble_eq_true rfl) ⟨Nat.le_of_ble_eq_true rfl, Nat.le_of_ble_eq_true rfl⟩ rfl rfl rfl (by decide) (fun _ => rfl) (fun _ => rfl) (fun _ => rfl) (fun _ => rfl) rfl rfl rfl (fun r9 _ hw => ?_)
        refine g_iload_n X 1 dX8_allChildren_29 rfl rfl ?_
        refine g_icmp_ne X 41 dX8_allChildren_30 (by decide) (fun c11 => ?_) (fun c11 => ?_)
        · replace hw := hw.1 c11
          refine g_iconst (v := 0) X rfl dX8_allChildren_41 ?_
          refine g_iadd X dX8_allChildren_42 ?_
          refine g_topi (fun q12 hq12 => ?_)
          replace hw := hw q12 hq12
          refine g_istore_n X [(2, .int q12), (0, .ref (a 0)), (1, .int x1), (3, .int x3)] dX8_allChildren_43 rfl (by decide) rfl ?_
          refine g_iinc X [(3, .int (x3 + 1)), (2, .int q12), (0, .ref (a 0)), (1, .int x1)] 3 dX8_allChildren_44 rfl rfl (by decide) rfl ?_
          refine g_goto X 4 dX8_allChildren_47 (by decide) ?_
          refine g_sub [(0, .ref (a 0)), (1, .int x1), (2, .int q12), (3, .int (x3 + 1))] [2, 3, 1, 0] rfl ?_
          exact ih _ _ _ hw
        · replace hw := hw.2 c11
          refine g_sub [(0, .ref (a 0)), (1, .int x1), (3, .int x3)] [0, 1, 3] rfl ?_
          exact kX8_allChildren_33 l D ct a w hs post _ X ih _ _ _ hw

set_option maxHeartbeats 4000000 in
set_option maxRecDepth 20000 in
theorem kX8_allChildren (l : Launch) (D : va_G) (ct : Nat → ClassId) (a : Nat → Nat) (w : Mem) (hs : Int64) (p1 : Int32) (post : Int32 → Prop) (hw : PX8_allChildren w hs p1 post) : Ci (S := Unit) l yX8_allChildren wsX8_allChildren rmX8_allChildren D (tyz ct) [.ref (a 0), .int p1] (wM ct a w hs) (fun r (_ : Unit) => post r) (fun _ => wM ct a w hs) 0 0 := by
  intro sz
  refine g_of (own := RX8) (by decide) rfl rfl (Nat.le_of_ble_eq_true rfl) [(0, .ref (a 0)), (1, .int p1)] rfl (fun p e s m args below meth c hsz X => ?_)
  subst hsz
  unfold PX8_allChildren at hw
  refine g_iconst (v := 0) X rfl dX8_allChildren_0 ?_
  refine g_istore_n X [(2, .int 0), (0, .ref (a 0)), (1, .int p1)] dX8_allChildren_1 rfl (by decide) rfl ?_
  refine g_iconst (v := 0) X rfl dX8_allChildren_2 ?_
  refine g_istore_n X [(3, .int 0), (2, .int 0), (0, .ref (a 0)), (1, .int p1)] dX8_allChildren_3 rfl (by decide) rfl ?_
  refine g_sub [(0, .ref (a 0)), (1, .int p1), (2, .int 0), (3, .int 0)] [2, 3, 1, 0] rfl ?_
  obtain ⟨n13, hw⟩ := hw
  exact kX8_allChildren_4 l D ct a w hs post X n13 _ _ _ hw

abbrev rmX8_ofPerson : Room := { frames := 4, cells := 0, slots := 0, locals := 91 }

abbrev GX8_ofPerson (l : Launch) (D : va_G) (ct : Nat → ClassId) (a : Nat → Nat) (w : Mem) (hs : Int64) (post : Int32 → Prop) (p : Program) (e : Env) (s : State) (m : MethodId) (args : Array Value) (below : List Frame) (meth : Method) (c : Code) (A : Nat → Prop) (w9 : va_W) (lv : List (Nat × Value)) (pc : Nat) (st : List Value) : Prop :=
  GG p l e rmX8_ofPerson s m args below meth c D A s.heap 3 (MQ below (va_Qi (fun r (_ : Unit) => post r) (fun u9 t9 => Af D (tyz ct) A ((fun _ => wM ct a w hs) u9) t9) A)  args s 0 0 A) w9 0 0 lv pc st

set_option maxHeartbeats 4000000 in
set_option maxRecDepth 20000 in
theorem kX8_ofPerson (l : Launch) (D : va_G) (ct : Nat → ClassId) (a : Nat → Nat) (w : Mem) (hs : Int64) (p1 : Int32) (p2 : Int32) (post : Int32 → Prop) (hw : PX8_ofPerson w hs p1 p2 post) : Ci (S := Unit) l yX8_ofPerson wsX8_ofPerson rmX8_ofPerson D (tyz ct) [.ref (a 0), .int p1, .int p2] (wM ct a w hs) (fun r (_ : Unit) => post r) (fun _ => wM ct a w hs) 0 0 := by
  intro sz
  refine g_of (own := RX8) (by decide) rfl rfl (Nat.le_of_ble_eq_true rfl) [(0, .ref (a 0)), (1, .int p1), (2, .int p2)] rfl (fun p e s m args below meth c hsz X => ?_)
  subst hsz
  unfold PX8_ofPerson at hw
  refine g_iload_n X 2 dX8_ofPerson_0 rfl rfl ?_
  by_cases c1 : p2 = 0
  · replace hw := hw.1 c1
    refine g_tableIn X 40 dX8_ofPerson_1 (by rw [c1]; decide) (by rw [c1]; decide) (by rw [c1]; rfl) (by decide) ?_
    refine g_aload_n X 0 dX8_ofPerson_40 rfl rfl ?_
    refine g_iload_n X 1 dX8_ofPerson_41 rfl rfl ?_
    refine g_ciV X [wM ct a w hs] (fun (_ : Unit) => [wM ct a w hs]) (fun _ => wM ct a w hs) 1 [0] [] 0 (kX8_rowOf l D ct a w hs p1 _ hw) (cwV 1 X.1.2.2.2.2 gX8_ofPerson_X8_rowOf rfl rfl rfl (by decide +kernel) ⟨Nat.le_of_ble_eq_true rfl, Nat.le_of_ble_eq_true rfl⟩) dX8_ofPerson_42 rfl rfl (Nat.le_of_ble_eq_true rfl) ⟨Nat.le_of_ble_eq_true rfl, Nat.le_of_ble_eq_true rfl⟩ rfl rfl rfl (by decide) (fun _ => rfl) (fun _ => rfl) (fun _ => rfl) (fun _ => rfl) rfl rfl rfl (fun r2 _ hw => ?_)
    exact g_iret X () hw rfl (Nat.le_of_ble_eq_true rfl) (Nat.le_of_ble_eq_true rfl) dX8_ofPerson_45
  · replace hw := hw.2 c1
    by_cases c4 : p2 = 1
    · replace hw := hw.1 c4
      refine g_tableIn X 46 dX8_ofPerson_1 (by rw [c4]; decide) (by rw [c4]; decide) (by rw [c4]; rfl) (by decide) ?_
      refine g_aload_n X 0 dX8_ofPerson_46 rfl rfl ?_
      refine g_iload_n X 1 dX8_ofPerson_47 rfl rfl ?_
      refine g_ciV X [wM ct a w hs] (fun (_ : Unit) => [wM ct a w hs]) (fun _ => wM ct a w hs) 1 [0] [] 0 (kX8_placeOf l D ct a w hs p1 _ hw) (cwV 1 X.1.2.2.2.2 gX8_ofPerson_X8_placeOf rfl rfl rfl (by decide +kernel) ⟨Nat.le_of_ble_eq_true rfl, Nat.le_of_ble_eq_true rfl⟩) dX8_ofPerson_48 rfl rfl (Nat.le_of_ble_eq_true rfl) ⟨Nat.le_of_ble_eq_true rfl, Nat.le_of_ble_eq_true rfl⟩ rfl rfl rfl (by decide) (fun _ => rfl) (fun _ => rfl) (fun _ => rfl) (fun _ => rfl) rfl rfl rfl (fun r5 _ hw => ?_)
      exact g_iret X () hw rfl (Nat.le_of_ble_eq_true rfl) (Nat.le_of_ble_eq_true rfl) dX8_ofPerson_51
    · replace hw := hw.2 c4
      by_cases c7 : p2 = 2
      · replace hw := hw.1 c7
        refine g_tableIn X 52 dX8_ofPerson_1 (by rw [c7]; decide) (by rw [c7]; decide) (by rw [c7]; rfl) (by decide) ?_
        refine g_aload_n X 0 dX8_ofPerson_52 rfl rfl ?_
        refine g_iload_n X 1 dX8_ofPerson_53 rfl rfl ?_
        refine g_ciV X [wM ct a w hs] (fun (_ : Unit) => [wM ct a w hs]) (fun _ => wM ct a w hs) 1 [0] [] 0 (kX8_parentsOf l D ct a w hs p1 _ hw) (cwV 1 X.1.2.2.2.2 gX8_ofPerson_X8_parentsOf rfl rfl rfl (by decide +kernel) ⟨Nat.le_of_ble_eq_true rfl, Nat.le_of_ble_eq_true rfl⟩) dX8_ofPerson_54 rfl rfl (Nat.le_of_ble_eq_true rfl) ⟨Nat.le_of_ble_eq_true rfl, Nat.le_of_ble_eq_true rfl⟩ rfl rfl rfl (by decide) (fun _ => rfl) (fun _ => rfl) (fun _ => rfl) (fun _ => rfl) rfl rfl rfl (fun r8 _ hw => ?_)
        exact g_iret X () hw rfl (Nat.le_of_ble_eq_true rfl) (Nat.le_of_ble_eq_true rfl) dX8_ofPerson_57
      · replace hw := hw.2 c7
        by_cases c10 : p2 = 3
        · replace hw := hw.1 c10
          refine g_tableIn X 58 dX8_ofPerson_1 (by rw [c10]; decide) (by rw [c10]; decide) (by rw [c10]; rfl) (by decide) ?_
          refine g_aload_n X 0 dX8_ofPerson_58 rfl rfl ?_
          refine g_iload_n X 1 dX8_ofPerson_59 rfl rfl ?_
          refine g_ciV X [wM ct a w hs] (fun (_ : Unit) => [wM ct a w hs]) (fun _ => wM ct a w hs) 1 [0] [] 0 (kX8_couplesOf l D ct a w hs p1 _ hw) (cwV 1 X.1.2.2.2.2 gX8_ofPerson_X8_couplesOf rfl rfl rfl (by decide +kernel) ⟨Nat.le_of_ble_eq_true rfl, Nat.le_of_ble_eq_true rfl⟩) dX8_ofPerson_60 rfl rfl (Nat.le_of_ble_eq_true rfl) ⟨Nat.le_of_ble_eq_true rfl, Nat.le_of_ble_eq_true rfl⟩ rfl rfl rfl (by decide) (fun _ => rfl) (fun _ => rfl) (fun _ => rfl) (fun _ => rfl) rfl rfl rfl (fun r11 _ hw => ?_)
          exact g_iret X () hw rfl (Nat.le_of_ble_eq_true rfl) (Nat.le_of_ble_eq_true rfl) dX8_ofPerson_63
        · replace hw := hw.2 c10
          by_cases c13 : p2 = 4
          · replace hw := hw.1 c13
            refine g_tableIn X 64 dX8_ofPerson_1 (by rw [c13]; decide) (by rw [c13]; decide) (by rw [c13]; rfl) (by decide) ?_
            refine g_aload_n X 0 dX8_ofPerson_64 rfl rfl ?_
            refine g_iload_n X 1 dX8_ofPerson_65 rfl rfl ?_
            refine g_ciV X [wM ct a w hs] (fun (_ : Unit) => [wM ct a w hs]) (fun _ => wM ct a w hs) 1 [0] [] 0 (kX8_allChildren l D ct a w hs p1 _ hw) (cwV 1 X.1.2.2.2.2 gX8_ofPerson_X8_allChildren rfl rfl rfl (by decide +kernel) ⟨Nat.le_of_ble_eq_true rfl, Nat.le_of_ble_eq_true rfl⟩) dX8_ofPerson_66 rfl rfl (Nat.le_of_ble_eq_true rfl) ⟨Nat.le_of_ble_eq_true rfl, Nat.le_of_ble_eq_true rfl⟩ rfl rfl rfl (by decide) (fun _ => rfl) (fun _ => rfl) (fun _ => rfl) (fun _ => rfl) rfl rfl rfl (fun r14 _ hw => ?_)
            exact g_iret X () hw rfl (Nat.le_of_ble_eq_true rfl) (Nat.le_of_ble_eq_true rfl) dX8_ofPerson_69
          · replace hw := hw.2 c13
            by_cases c16 : p2 = 5
            · replace hw := hw.1 c16
              refine g_tableIn X 70 dX8_ofPerson_1 (by rw [c16]; decide) (by rw [c16]; decide) (by rw [c16]; rfl) (by decide) ?_
              refine g_aload_n X 0 dX8_ofPerson_70 rfl rfl ?_
              refine g_iload_n X 1 dX8_ofPerson_71 rfl rfl ?_
              refine g_ciV X [wM ct a w hs] (fun (_ : Unit) => [wM ct a w hs]) (fun _ => wM ct a w hs) 1 [0] [] 0 (kX8_descending l D ct a w hs p1 _ hw) (cwV 1 X.1.2.2.2.2 gX8_ofPerson_X8_descending rfl rfl rfl (by decide +kernel) ⟨Nat.le_of_ble_eq_true rfl, Nat.le_of_ble_eq_true rfl⟩) dX8_ofPerson_72 rfl rfl (Nat.le_of_ble_eq_true rfl) ⟨Nat.le_of_ble_eq_true rfl, Nat.le_of_ble_eq_true rfl⟩ rfl rfl rfl (by decide) (fun _ => rfl) (fun _ => rfl) (fun _ => rfl) (fun _ => rfl) rfl rfl rfl (fun r17 _ hw => ?_)
              exact g_iret X () hw rfl (Nat.le_of_ble_eq_true rfl) (Nat.le_of_ble_eq_true rfl) dX8_ofPerson_75
            · replace hw := hw.2 c16
              refine g_tableOut X 76 dX8_ofPerson_1 (by have tc1 := lv_neT c1 (show (0 : Int32).toInt = 0 from rfl); have tc4 := lv_neT c4 (show (1 : Int32).toInt = 1 from rfl); have tc7 := lv_neT c7 (show (2 : Int32).toInt = 2 from rfl); have tc10 := lv_neT c10 (show (3 : Int32).toInt = 3 from rfl); have tc13 := lv_neT c13 (show (4 : Int32).toInt = 4 from rfl); have tc16 := lv_neT c16 (show (5 : Int32).toInt = 5 from rfl); omega) (by decide) ?_
              refine g_aload_n X 0 dX8_ofPerson_76 rfl rfl ?_
              refine g_iload_n X 1 dX8_ofPerson_77 rfl rfl ?_
              refine g_ciV X [wM ct a w hs] (fun (_ : Unit) => [wM ct a w hs]) (fun _ => wM ct a w hs) 1 [0] [] 0 (kX8_ancestors l D ct a w hs p1 _ hw) (cwV 1 X.1.2.2.2.2 gX8_ofPerson_X8_ancestors rfl rfl rfl (by decide +kernel) ⟨Nat.le_of_ble_eq_true rfl, Nat.le_of_ble_eq_true rfl⟩) dX8_ofPerson_78 rfl rfl (Nat.le_of_ble_eq_true rfl) ⟨Nat.le_of_ble_eq_true rfl, Nat.le_of_ble_eq_true rfl⟩ rfl rfl rfl (by decide) (fun _ => rfl) (fun _ => rfl) (fun _ => rfl) (fun _ => rfl) rfl rfl rfl (fun r19 _ hw => ?_)
              refine g_ciS X [wM ct a w hs] (fun (_ : Unit) => [wM ct a w hs]) (fun _ => wM ct a w hs) 1 [] [0] (kX8_ones l D ct  r19 _ hw) (va_cwS 1 X.1.2.2.2.2 gX8_ofPerson_X8_ones rfl rfl rfl (by decide +kernel) ⟨Nat.le_of_ble_eq_true rfl, Nat.le_of_ble_eq_true rfl⟩) dX8_ofPerson_81 rfl rfl (Nat.le_of_ble_eq_true rfl) ⟨Nat.le_of_ble_eq_true rfl, Nat.le_of_ble_eq_true rfl⟩ rfl rfl rfl (by decide) (fun _ => rfl) (fun _ => rfl) (fun _ => rfl) (fun _ => rfl) (fun r21 _ hw => ?_)
              exact g_iret X () hw rfl (Nat.le_of_ble_eq_true rfl) (Nat.le_of_ble_eq_true rfl) dX8_ofPerson_84

abbrev rmX8_personOf : Room := { frames := 5, cells := 0, slots := 0, locals := 113 }

abbrev GX8_personOf (l : Launch) (D : va_G) (ct : Nat → ClassId) (a : Nat → Nat) (hs : Int64) (post : Int32 → Mem → Prop) (p : Program) (e : Env) (s : State) (m : MethodId) (args : Array Value) (below : List Frame) (meth : Method) (c : Code) (A : Nat → Prop) (w9 : va_W) (lv : List (Nat × Value)) (pc : Nat) (st : List Value) : Prop :=
  GG p l e rmX8_personOf s m args below meth c D A s.heap 3 (MQ below (va_Qi (fun r (u9 : Mem) => post r u9) (fun u9 t9 => Af D (tyz ct) A ((fun u9 => wM ct a u9 hs) u9) t9) A)  args s 0 0 A) w9 0 0 lv pc st

set_option maxHeartbeats 4000000 in
set_option maxRecDepth 20000 in
theorem kX8_personOf (l : Launch) (D : va_G) (ct : Nat → ClassId) (a : Nat → Nat) (w : Mem) (hs : Int64) (p1 : Int32) (p2 : Int32) (post : Int32 → Mem → Prop) (hw : PX8_personOf w hs p1 p2 post) : Ci (S := Mem) l yX8_personOf wsX8_personOf rmX8_personOf D (tyz ct) [.ref (a 0), .int p1, .int p2] (wM ct a w hs) (fun r (u9 : Mem) => post r u9) (fun u9 => wM ct a u9 hs) 0 0 := by
  intro sz
  refine g_of (own := RX8) (by decide) rfl rfl (Nat.le_of_ble_eq_true rfl) [(0, .ref (a 0)), (1, .int p1), (2, .int p2)] rfl (fun p e s m args below meth c hsz X => ?_)
  subst hsz
  unfold PX8_personOf at hw
  refine g_aload_n X 0 dX8_personOf_0 rfl rfl ?_
  refine g_iconst (v := 0) X rfl dX8_personOf_1 ?_
  refine g_put (T := TX8) (C := RX8) (N := 21) X (fun z => wM ct a z hs) w 0 5 tyX8 tyX8_ok nmX8 (fun _ h => (List.mem_cons_of_mem _ (List.mem_append_right _ h))) (List.mem_of_getElem? (i := 1) rfl) dX8_personOf_2 rfl rfl (by decide) rfl rfl (by decide +kernel) (Nat.le_of_ble_eq_true rfl) rfl (fun w1 hw1 => ?_)
  replace hw := hw w1 hw1
  refine g_aload_n X 0 dX8_personOf_5 rfl rfl ?_
  refine g_iload_n X 1 dX8_personOf_6 rfl rfl ?_
  refine g_ciV X [wM ct a w1 hs] (fun (_ : Unit) => [wM ct a w1 hs]) (fun _ => wM ct a w1 hs) 1 [0] [] 0 (kX8_isPerson l D ct a w1 hs p1 _ hw) (cwV 1 X.1.2.2.2.2 gX8_personOf_X8_isPerson rfl rfl rfl (by decide +kernel) ⟨Nat.le_of_ble_eq_true rfl, Nat.le_of_ble_eq_true rfl⟩) dX8_personOf_7 rfl rfl (Nat.le_of_ble_eq_true rfl) ⟨Nat.le_of_ble_eq_true rfl, Nat.le_of_ble_eq_true rfl⟩ rfl rfl rfl (by decide) (fun _ => rfl) (fun _ => rfl) (fun _ => rfl) (fun _ => rfl) rfl rfl rfl (fun r2 _ hw => ?_)
  refine g_if_ne X 19 dX8_personOf_10 (by decide) (fun c4 => ?_) (fun c4 => ?_)
  · replace hw := hw.1 c4
    refine g_iload_n X 2 dX8_personOf_19 rfl rfl ?_
    refine g_iconst (v := 0) X rfl dX8_personOf_20 ?_
    refine g_bipush (v := 6) X rfl dX8_personOf_21 ?_
    refine g_ciS X [wM ct a w1 hs] (fun (_ : Unit) => [wM ct a w1 hs]) (fun _ => wM ct a w1 hs) 1 [] [0] (kX8_in l D ct  p2 0 6 _ hw) (va_cwS 3 X.1.2.2.2.2 gX8_personOf_X8_in rfl rfl rfl (by decide +kernel) ⟨Nat.le_of_ble_eq_true rfl, Nat.le_of_ble_eq_true rfl⟩) dX8_personOf_23 rfl rfl (Nat.le_of_ble_eq_true rfl) ⟨Nat.le_of_ble_eq_true rfl, Nat.le_of_ble_eq_true rfl⟩ rfl rfl rfl (by decide) (fun _ => rfl) (fun _ => rfl) (fun _ => rfl) (fun _ => rfl) (fun r5 _ hw => ?_)
    refine g_if_eq X 38 dX8_personOf_26 (by decide) (fun c7 => ?_) (fun c7 => ?_)
    · replace hw := hw.1 c7
      refine g_aload_n X 0 dX8_personOf_38 rfl rfl ?_
      refine g_iconst (v := 2) X rfl dX8_personOf_39 ?_
      refine g_ciV X [wM ct a w1 hs] (fun (u9 : Mem) => [wM ct a u9 hs]) (fun (u9 : Mem) => wM ct a u9 hs) 1 [0] [] 0 (kX8_fails l D ct a w1 hs 2 _ hw) (cwV 1 X.1.2.2.2.2 gX8_personOf_X8_fails rfl rfl rfl (by decide +kernel) ⟨Nat.le_of_ble_eq_true rfl, Nat.le_of_ble_eq_true rfl⟩) dX8_personOf_40 rfl rfl (Nat.le_of_ble_eq_true rfl) ⟨Nat.le_of_ble_eq_true rfl, Nat.le_of_ble_eq_true rfl⟩ rfl rfl rfl (by decide) (fun _ => rfl) (fun _ => rfl) (fun _ => rfl) (fun _ => rfl) rfl rfl rfl (fun r8 u9 hw => ?_)
      obtain ⟨w10, hw10⟩ : ∃ z : Mem, z = u9 := ⟨_, rfl⟩
      rw [← hw10] at hw
      rw [← hw10]
      exact g_iret X w10 hw rfl (Nat.le_of_ble_eq_true rfl) (Nat.le_of_ble_eq_true rfl) dX8_personOf_43
    · replace hw := hw.2 c7
      refine g_aload_n X 0 dX8_personOf_29 rfl rfl ?_
      refine g_iload_n X 1 dX8_personOf_30 rfl rfl ?_
      refine g_iload_n X 2 dX8_personOf_31 rfl rfl ?_
      refine g_ciV X [wM ct a w1 hs] (fun (_ : Unit) => [wM ct a w1 hs]) (fun _ => wM ct a w1 hs) 1 [0] [] 0 (kX8_ofPerson l D ct a w1 hs p1 p2 _ hw) (cwV 2 X.1.2.2.2.2 gX8_personOf_X8_ofPerson rfl rfl rfl (by decide +kernel) ⟨Nat.le_of_ble_eq_true rfl, Nat.le_of_ble_eq_true rfl⟩) dX8_personOf_32 rfl rfl (Nat.le_of_ble_eq_true rfl) ⟨Nat.le_of_ble_eq_true rfl, Nat.le_of_ble_eq_true rfl⟩ rfl rfl rfl (by decide) (fun _ => rfl) (fun _ => rfl) (fun _ => rfl) (fun _ => rfl) rfl rfl rfl (fun r11 _ hw => ?_)
      refine g_goto X 43 dX8_personOf_35 (by decide) ?_
      exact g_iret X w1 hw rfl (Nat.le_of_ble_eq_true rfl) (Nat.le_of_ble_eq_true rfl) dX8_personOf_43
  · replace hw := hw.2 c4
    refine g_aload_n X 0 dX8_personOf_13 rfl rfl ?_
    refine g_iconst (v := 1) X rfl dX8_personOf_14 ?_
    refine g_ciV X [wM ct a w1 hs] (fun (u14 : Mem) => [wM ct a u14 hs]) (fun (u14 : Mem) => wM ct a u14 hs) 1 [0] [] 0 (kX8_fails l D ct a w1 hs 1 _ hw) (cwV 1 X.1.2.2.2.2 gX8_personOf_X8_fails rfl rfl rfl (by decide +kernel) ⟨Nat.le_of_ble_eq_true rfl, Nat.le_of_ble_eq_true rfl⟩) dX8_personOf_15 rfl rfl (Nat.le_of_ble_eq_true rfl) ⟨Nat.le_of_ble_eq_true rfl, Nat.le_of_ble_eq_true rfl⟩ rfl rfl rfl (by decide) (fun _ => rfl) (fun _ => rfl) (fun _ => rfl) (fun _ => rfl) rfl rfl rfl (fun r13 u14 hw => ?_)
    obtain ⟨w15, hw15⟩ : ∃ z : Mem, z = u14 := ⟨_, rfl⟩
    rw [← hw15] at hw
    rw [← hw15]
    exact g_iret X w15 hw rfl (Nat.le_of_ble_eq_true rfl) (Nat.le_of_ble_eq_true rfl) dX8_personOf_18

abbrev rmX8_common : Room := { frames := 3, cells := 0, slots := 0, locals := 68 }

abbrev GX8_common (l : Launch) (D : va_G) (ct : Nat → ClassId) (a : Nat → Nat) (w : Mem) (hs : Int64) (post : Int32 → Prop) (p : Program) (e : Env) (s : State) (m : MethodId) (args : Array Value) (below : List Frame) (meth : Method) (c : Code) (A : Nat → Prop) (w9 : va_W) (lv : List (Nat × Value)) (pc : Nat) (st : List Value) : Prop :=
  GG p l e rmX8_common s m args below meth c D A s.heap 2 (MQ below (va_Qi (fun r (_ : Unit) => post r) (fun u9 t9 => Af D (tyz ct) A ((fun _ => wM ct a w hs) u9) t9) A)  args s 0 0 A) w9 0 0 lv pc st

set_option maxHeartbeats 4000000 in
set_option maxRecDepth 20000 in
theorem kX8_common (l : Launch) (D : va_G) (ct : Nat → ClassId) (a : Nat → Nat) (w : Mem) (hs : Int64) (p1 : Int32) (post : Int32 → Prop) (hw : PX8_common w hs p1 post) : Ci (S := Unit) l yX8_common wsX8_common rmX8_common D (tyz ct) [.ref (a 0), .int p1] (wM ct a w hs) (fun r (_ : Unit) => post r) (fun _ => wM ct a w hs) 0 0 := by
  intro sz
  refine g_of (own := RX8) (by decide) rfl rfl (Nat.le_of_ble_eq_true rfl) [(0, .ref (a 0)), (1, .int p1)] rfl (fun p e s m args below meth c hsz X => ?_)
  subst hsz
  unfold PX8_common at hw
  refine g_aload_n X 0 dX8_common_0 rfl rfl ?_
  refine g_aload_n X 0 dX8_common_1 rfl rfl ?_
  refine g_iload_n X 1 dX8_common_2 rfl rfl ?_
  refine g_ciV X [wM ct a w hs] (fun (_ : Unit) => [wM ct a w hs]) (fun _ => wM ct a w hs) 1 [0] [] 0 (kX8_one l D ct a w hs p1 _ hw) (cwV 1 X.1.2.2.2.2 gX8_common_X8_one rfl rfl rfl (by decide +kernel) ⟨Nat.le_of_ble_eq_true rfl, Nat.le_of_ble_eq_true rfl⟩) dX8_common_3 rfl rfl (Nat.le_of_ble_eq_true rfl) ⟨Nat.le_of_ble_eq_true rfl, Nat.le_of_ble_eq_true rfl⟩ rfl rfl rfl (by decide) (fun _ => rfl) (fun _ => rfl) (fun _ => rfl) (fun _ => rfl) rfl rfl rfl (fun r1 _ hw => ?_)
  refine g_ciV X [wM ct a w hs] (fun (_ : Unit) => [wM ct a w hs]) (fun _ => wM ct a w hs) 1 [0] [] 0 (kX8_ancestors l D ct a w hs r1 _ hw) (cwV 1 X.1.2.2.2.2 gX8_common_X8_ancestors rfl rfl rfl (by decide +kernel) ⟨Nat.le_of_ble_eq_true rfl, Nat.le_of_ble_eq_true rfl⟩) dX8_common_6 rfl rfl (Nat.le_of_ble_eq_true rfl) ⟨Nat.le_of_ble_eq_true rfl, Nat.le_of_ble_eq_true rfl⟩ rfl rfl rfl (by decide) (fun _ => rfl) (fun _ => rfl) (fun _ => rfl) (fun _ => rfl) rfl rfl rfl (fun r3 _ hw => ?_)
  refine g_aload_n X 0 dX8_common_9 rfl rfl ?_
  refine g_aload_n X 0 dX8_common_10 rfl rfl ?_
  refine g_iload_n X 1 dX8_common_11 rfl rfl ?_
  refine g_ciV X [wM ct a w hs] (fun (_ : Unit) => [wM ct a w hs]) (fun _ => wM ct a w hs) 1 [0] [] 0 (kX8_other l D ct a w hs p1 _ hw) (cwV 1 X.1.2.2.2.2 gX8_common_X8_other rfl rfl rfl (by decide +kernel) ⟨Nat.le_of_ble_eq_true rfl, Nat.le_of_ble_eq_true rfl⟩) dX8_common_12 rfl rfl (Nat.le_of_ble_eq_true rfl) ⟨Nat.le_of_ble_eq_true rfl, Nat.le_of_ble_eq_true rfl⟩ rfl rfl rfl (by decide) (fun _ => rfl) (fun _ => rfl) (fun _ => rfl) (fun _ => rfl) rfl rfl rfl (fun r5 _ hw => ?_)
  refine g_ciV X [wM ct a w hs] (fun (_ : Unit) => [wM ct a w hs]) (fun _ => wM ct a w hs) 1 [0] [] 0 (kX8_ancestors l D ct a w hs r5 _ hw) (cwV 1 X.1.2.2.2.2 gX8_common_X8_ancestors rfl rfl rfl (by decide +kernel) ⟨Nat.le_of_ble_eq_true rfl, Nat.le_of_ble_eq_true rfl⟩) dX8_common_15 rfl rfl (Nat.le_of_ble_eq_true rfl) ⟨Nat.le_of_ble_eq_true rfl, Nat.le_of_ble_eq_true rfl⟩ rfl rfl rfl (by decide) (fun _ => rfl) (fun _ => rfl) (fun _ => rfl) (fun _ => rfl) rfl rfl rfl (fun r7 _ hw => ?_)
  refine g_iand X dX8_common_18 ?_
  refine g_ciS X [wM ct a w hs] (fun (_ : Unit) => [wM ct a w hs]) (fun _ => wM ct a w hs) 1 [] [0] (kX8_ones l D ct  (r3 &&& r7) _ hw) (va_cwS 1 X.1.2.2.2.2 gX8_common_X8_ones rfl rfl rfl (by decide +kernel) ⟨Nat.le_of_ble_eq_true rfl, Nat.le_of_ble_eq_true rfl⟩) dX8_common_19 rfl rfl (Nat.le_of_ble_eq_true rfl) ⟨Nat.le_of_ble_eq_true rfl, Nat.le_of_ble_eq_true rfl⟩ rfl rfl rfl (by decide) (fun _ => rfl) (fun _ => rfl) (fun _ => rfl) (fun _ => rfl) (fun r9 _ hw => ?_)
  exact g_iret X () hw rfl (Nat.le_of_ble_eq_true rfl) (Nat.le_of_ble_eq_true rfl) dX8_common_22

abbrev rmX8_ofCouple : Room := { frames := 4, cells := 0, slots := 0, locals := 89 }

abbrev GX8_ofCouple (l : Launch) (D : va_G) (ct : Nat → ClassId) (a : Nat → Nat) (w : Mem) (hs : Int64) (post : Int32 → Prop) (p : Program) (e : Env) (s : State) (m : MethodId) (args : Array Value) (below : List Frame) (meth : Method) (c : Code) (A : Nat → Prop) (w9 : va_W) (lv : List (Nat × Value)) (pc : Nat) (st : List Value) : Prop :=
  GG p l e rmX8_ofCouple s m args below meth c D A s.heap 3 (MQ below (va_Qi (fun r (_ : Unit) => post r) (fun u9 t9 => Af D (tyz ct) A ((fun _ => wM ct a w hs) u9) t9) A)  args s 0 0 A) w9 0 0 lv pc st

set_option maxHeartbeats 4000000 in
set_option maxRecDepth 20000 in
theorem kX8_ofCouple (l : Launch) (D : va_G) (ct : Nat → ClassId) (a : Nat → Nat) (w : Mem) (hs : Int64) (p1 : Int32) (p2 : Int32) (post : Int32 → Prop) (hw : PX8_ofCouple w hs p1 p2 post) : Ci (S := Unit) l yX8_ofCouple wsX8_ofCouple rmX8_ofCouple D (tyz ct) [.ref (a 0), .int p1, .int p2] (wM ct a w hs) (fun r (_ : Unit) => post r) (fun _ => wM ct a w hs) 0 0 := by
  intro sz
  refine g_of (own := RX8) (by decide) rfl rfl (Nat.le_of_ble_eq_true rfl) [(0, .ref (a 0)), (1, .int p1), (2, .int p2)] rfl (fun p e s m args below meth c hsz X => ?_)
  subst hsz
  unfold PX8_ofCouple at hw
  refine g_iload_n X 2 dX8_ofCouple_0 rfl rfl ?_
  by_cases c1 : p2 = 0
  · replace hw := hw.1 c1
    refine g_tableIn X 36 dX8_ofCouple_1 (by rw [c1]; decide) (by rw [c1]; decide) (by rw [c1]; rfl) (by decide) ?_
    refine g_aload_n X 0 dX8_ofCouple_36 rfl rfl ?_
    refine g_iload_n X 1 dX8_ofCouple_37 rfl rfl ?_
    refine g_ciV X [wM ct a w hs] (fun (_ : Unit) => [wM ct a w hs]) (fun _ => wM ct a w hs) 1 [0] [] 0 (kX8_one l D ct a w hs p1 _ hw) (cwV 1 X.1.2.2.2.2 gX8_ofCouple_X8_one rfl rfl rfl (by decide +kernel) ⟨Nat.le_of_ble_eq_true rfl, Nat.le_of_ble_eq_true rfl⟩) dX8_ofCouple_38 rfl rfl (Nat.le_of_ble_eq_true rfl) ⟨Nat.le_of_ble_eq_true rfl, Nat.le_of_ble_eq_true rfl⟩ rfl rfl rfl (by decide) (fun _ => rfl) (fun _ => rfl) (fun _ => rfl) (fun _ => rfl) rfl rfl rfl (fun r2 _ hw => ?_)
    exact g_iret X () hw rfl (Nat.le_of_ble_eq_true rfl) (Nat.le_of_ble_eq_true rfl) dX8_ofCouple_41
  · replace hw := hw.2 c1
    by_cases c4 : p2 = 1
    · replace hw := hw.1 c4
      refine g_tableIn X 42 dX8_ofCouple_1 (by rw [c4]; decide) (by rw [c4]; decide) (by rw [c4]; rfl) (by decide) ?_
      refine g_aload_n X 0 dX8_ofCouple_42 rfl rfl ?_
      refine g_iload_n X 1 dX8_ofCouple_43 rfl rfl ?_
      refine g_ciV X [wM ct a w hs] (fun (_ : Unit) => [wM ct a w hs]) (fun _ => wM ct a w hs) 1 [0] [] 0 (kX8_other l D ct a w hs p1 _ hw) (cwV 1 X.1.2.2.2.2 gX8_ofCouple_X8_other rfl rfl rfl (by decide +kernel) ⟨Nat.le_of_ble_eq_true rfl, Nat.le_of_ble_eq_true rfl⟩) dX8_ofCouple_44 rfl rfl (Nat.le_of_ble_eq_true rfl) ⟨Nat.le_of_ble_eq_true rfl, Nat.le_of_ble_eq_true rfl⟩ rfl rfl rfl (by decide) (fun _ => rfl) (fun _ => rfl) (fun _ => rfl) (fun _ => rfl) rfl rfl rfl (fun r5 _ hw => ?_)
      exact g_iret X () hw rfl (Nat.le_of_ble_eq_true rfl) (Nat.le_of_ble_eq_true rfl) dX8_ofCouple_47
    · replace hw := hw.2 c4
      by_cases c7 : p2 = 2
      · replace hw := hw.1 c7
        refine g_tableIn X 48 dX8_ofCouple_1 (by rw [c7]; decide) (by rw [c7]; decide) (by rw [c7]; rfl) (by decide) ?_
        refine g_aload_n X 0 dX8_ofCouple_48 rfl rfl ?_
        refine g_aload_n X 0 dX8_ofCouple_49 rfl rfl ?_
        refine g_iload_n X 1 dX8_ofCouple_50 rfl rfl ?_
        refine g_ciV X [wM ct a w hs] (fun (_ : Unit) => [wM ct a w hs]) (fun _ => wM ct a w hs) 1 [0] [] 0 (kX8_one l D ct a w hs p1 _ hw) (cwV 1 X.1.2.2.2.2 gX8_ofCouple_X8_one rfl rfl rfl (by decide +kernel) ⟨Nat.le_of_ble_eq_true rfl, Nat.le_of_ble_eq_true rfl⟩) dX8_ofCouple_51 rfl rfl (Nat.le_of_ble_eq_true rfl) ⟨Nat.le_of_ble_eq_true rfl, Nat.le_of_ble_eq_true rfl⟩ rfl rfl rfl (by decide) (fun _ => rfl) (fun _ => rfl) (fun _ => rfl) (fun _ => rfl) rfl rfl rfl (fun r8 _ hw => ?_)
        refine g_ciV X [wM ct a w hs] (fun (_ : Unit) => [wM ct a w hs]) (fun _ => wM ct a w hs) 1 [0] [] 0 (kX8_rowOf l D ct a w hs r8 _ hw) (cwV 1 X.1.2.2.2.2 gX8_ofCouple_X8_rowOf rfl rfl rfl (by decide +kernel) ⟨Nat.le_of_ble_eq_true rfl, Nat.le_of_ble_eq_true rfl⟩) dX8_ofCouple_54 rfl rfl (Nat.le_of_ble_eq_true rfl) ⟨Nat.le_of_ble_eq_true rfl, Nat.le_of_ble_eq_true rfl⟩ rfl rfl rfl (by decide) (fun _ => rfl) (fun _ => rfl) (fun _ => rfl) (fun _ => rfl) rfl rfl rfl (fun r10 _ hw => ?_)
        exact g_iret X () hw rfl (Nat.le_of_ble_eq_true rfl) (Nat.le_of_ble_eq_true rfl) dX8_ofCouple_57
      · replace hw := hw.2 c7
        by_cases c12 : p2 = 3
        · replace hw := hw.1 c12
          refine g_tableIn X 58 dX8_ofCouple_1 (by rw [c12]; decide) (by rw [c12]; decide) (by rw [c12]; rfl) (by decide) ?_
          refine g_aload_n X 0 dX8_ofCouple_58 rfl rfl ?_
          refine g_iload_n X 1 dX8_ofCouple_59 rfl rfl ?_
          refine g_ciV X [wM ct a w hs] (fun (_ : Unit) => [wM ct a w hs]) (fun _ => wM ct a w hs) 1 [0] [] 0 (kX8_middle l D ct a w hs p1 _ hw) (cwV 1 X.1.2.2.2.2 gX8_ofCouple_X8_middle rfl rfl rfl (by decide +kernel) ⟨Nat.le_of_ble_eq_true rfl, Nat.le_of_ble_eq_true rfl⟩) dX8_ofCouple_60 rfl rfl (Nat.le_of_ble_eq_true rfl) ⟨Nat.le_of_ble_eq_true rfl, Nat.le_of_ble_eq_true rfl⟩ rfl rfl rfl (by decide) (fun _ => rfl) (fun _ => rfl) (fun _ => rfl) (fun _ => rfl) rfl rfl rfl (fun r13 _ hw => ?_)
          exact g_iret X () hw rfl (Nat.le_of_ble_eq_true rfl) (Nat.le_of_ble_eq_true rfl) dX8_ofCouple_63
        · replace hw := hw.2 c12
          by_cases c15 : p2 = 4
          · replace hw := hw.1 c15
            refine g_tableIn X 64 dX8_ofCouple_1 (by rw [c15]; decide) (by rw [c15]; decide) (by rw [c15]; rfl) (by decide) ?_
            refine g_aload_n X 0 dX8_ofCouple_64 rfl rfl ?_
            refine g_iload_n X 1 dX8_ofCouple_65 rfl rfl ?_
            refine g_ciV X [wM ct a w hs] (fun (_ : Unit) => [wM ct a w hs]) (fun _ => wM ct a w hs) 1 [0] [] 0 (kX8_childrenOf l D ct a w hs p1 _ hw) (cwV 1 X.1.2.2.2.2 gX8_ofCouple_X8_childrenOf rfl rfl rfl (by decide +kernel) ⟨Nat.le_of_ble_eq_true rfl, Nat.le_of_ble_eq_true rfl⟩) dX8_ofCouple_66 rfl rfl (Nat.le_of_ble_eq_true rfl) ⟨Nat.le_of_ble_eq_true rfl, Nat.le_of_ble_eq_true rfl⟩ rfl rfl rfl (by decide) (fun _ => rfl) (fun _ => rfl) (fun _ => rfl) (fun _ => rfl) rfl rfl rfl (fun r16 _ hw => ?_)
            exact g_iret X () hw rfl (Nat.le_of_ble_eq_true rfl) (Nat.le_of_ble_eq_true rfl) dX8_ofCouple_69
          · replace hw := hw.2 c15
            refine g_tableOut X 70 dX8_ofCouple_1 (by have tc1 := lv_neT c1 (show (0 : Int32).toInt = 0 from rfl); have tc4 := lv_neT c4 (show (1 : Int32).toInt = 1 from rfl); have tc7 := lv_neT c7 (show (2 : Int32).toInt = 2 from rfl); have tc12 := lv_neT c12 (show (3 : Int32).toInt = 3 from rfl); have tc15 := lv_neT c15 (show (4 : Int32).toInt = 4 from rfl); omega) (by decide) ?_
            refine g_aload_n X 0 dX8_ofCouple_70 rfl rfl ?_
            refine g_iload_n X 1 dX8_ofCouple_71 rfl rfl ?_
            refine g_ciV X [wM ct a w hs] (fun (_ : Unit) => [wM ct a w hs]) (fun _ => wM ct a w hs) 1 [0] [] 0 (kX8_common l D ct a w hs p1 _ hw) (cwV 1 X.1.2.2.2.2 gX8_ofCouple_X8_common rfl rfl rfl (by decide +kernel) ⟨Nat.le_of_ble_eq_true rfl, Nat.le_of_ble_eq_true rfl⟩) dX8_ofCouple_72 rfl rfl (Nat.le_of_ble_eq_true rfl) ⟨Nat.le_of_ble_eq_true rfl, Nat.le_of_ble_eq_true rfl⟩ rfl rfl rfl (by decide) (fun _ => rfl) (fun _ => rfl) (fun _ => rfl) (fun _ => rfl) rfl rfl rfl (fun r18 _ hw => ?_)
            exact g_iret X () hw rfl (Nat.le_of_ble_eq_true rfl) (Nat.le_of_ble_eq_true rfl) dX8_ofCouple_75

abbrev rmX8_coupleOf : Room := { frames := 5, cells := 0, slots := 0, locals := 111 }

abbrev GX8_coupleOf (l : Launch) (D : va_G) (ct : Nat → ClassId) (a : Nat → Nat) (hs : Int64) (post : Int32 → Mem → Prop) (p : Program) (e : Env) (s : State) (m : MethodId) (args : Array Value) (below : List Frame) (meth : Method) (c : Code) (A : Nat → Prop) (w9 : va_W) (lv : List (Nat × Value)) (pc : Nat) (st : List Value) : Prop :=
  GG p l e rmX8_coupleOf s m args below meth c D A s.heap 3 (MQ below (va_Qi (fun r (u9 : Mem) => post r u9) (fun u9 t9 => Af D (tyz ct) A ((fun u9 => wM ct a u9 hs) u9) t9) A)  args s 0 0 A) w9 0 0 lv pc st

set_option maxHeartbeats 4000000 in
set_option maxRecDepth 20000 in
theorem kX8_coupleOf (l : Launch) (D : va_G) (ct : Nat → ClassId) (a : Nat → Nat) (w : Mem) (hs : Int64) (p1 : Int32) (p2 : Int32) (post : Int32 → Mem → Prop) (hw : PX8_coupleOf w hs p1 p2 post) : Ci (S := Mem) l yX8_coupleOf wsX8_coupleOf rmX8_coupleOf D (tyz ct) [.ref (a 0), .int p1, .int p2] (wM ct a w hs) (fun r (u9 : Mem) => post r u9) (fun u9 => wM ct a u9 hs) 0 0 := by
  intro sz
  refine g_of (own := RX8) (by decide) rfl rfl (Nat.le_of_ble_eq_true rfl) [(0, .ref (a 0)), (1, .int p1), (2, .int p2)] rfl (fun p e s m args below meth c hsz X => ?_)
  subst hsz
  unfold PX8_coupleOf at hw
  refine g_aload_n X 0 dX8_coupleOf_0 rfl rfl ?_
  refine g_iconst (v := 0) X rfl dX8_coupleOf_1 ?_
  refine g_put (T := TX8) (C := RX8) (N := 21) X (fun z => wM ct a z hs) w 0 5 tyX8 tyX8_ok nmX8 (fun _ h => (List.mem_cons_of_mem _ (List.mem_append_right _ h))) (List.mem_of_getElem? (i := 1) rfl) dX8_coupleOf_2 rfl rfl (by decide) rfl rfl (by decide +kernel) (Nat.le_of_ble_eq_true rfl) rfl (fun w1 hw1 => ?_)
  replace hw := hw w1 hw1
  refine g_aload_n X 0 dX8_coupleOf_5 rfl rfl ?_
  refine g_iload_n X 1 dX8_coupleOf_6 rfl rfl ?_
  refine g_ciV X [wM ct a w1 hs] (fun (_ : Unit) => [wM ct a w1 hs]) (fun _ => wM ct a w1 hs) 1 [0] [] 0 (kX8_isCouple l D ct a w1 hs p1 _ hw) (cwV 1 X.1.2.2.2.2 gX8_coupleOf_X8_isCouple rfl rfl rfl (by decide +kernel) ⟨Nat.le_of_ble_eq_true rfl, Nat.le_of_ble_eq_true rfl⟩) dX8_coupleOf_7 rfl rfl (Nat.le_of_ble_eq_true rfl) ⟨Nat.le_of_ble_eq_true rfl, Nat.le_of_ble_eq_true rfl⟩ rfl rfl rfl (by decide) (fun _ => rfl) (fun _ => rfl) (fun _ => rfl) (fun _ => rfl) rfl rfl rfl (fun r2 _ hw => ?_)
  refine g_if_ne X 19 dX8_coupleOf_10 (by decide) (fun c4 => ?_) (fun c4 => ?_)
  · replace hw := hw.1 c4
    refine g_iload_n X 2 dX8_coupleOf_19 rfl rfl ?_
    refine g_iconst (v := 0) X rfl dX8_coupleOf_20 ?_
    refine g_iconst (v := 5) X rfl dX8_coupleOf_21 ?_
    refine g_ciS X [wM ct a w1 hs] (fun (_ : Unit) => [wM ct a w1 hs]) (fun _ => wM ct a w1 hs) 1 [] [0] (kX8_in l D ct  p2 0 5 _ hw) (va_cwS 3 X.1.2.2.2.2 gX8_coupleOf_X8_in rfl rfl rfl (by decide +kernel) ⟨Nat.le_of_ble_eq_true rfl, Nat.le_of_ble_eq_true rfl⟩) dX8_coupleOf_22 rfl rfl (Nat.le_of_ble_eq_true rfl) ⟨Nat.le_of_ble_eq_true rfl, Nat.le_of_ble_eq_true rfl⟩ rfl rfl rfl (by decide) (fun _ => rfl) (fun _ => rfl) (fun _ => rfl) (fun _ => rfl) (fun r5 _ hw => ?_)
    refine g_if_eq X 37 dX8_coupleOf_25 (by decide) (fun c7 => ?_) (fun c7 => ?_)
    · replace hw := hw.1 c7
      refine g_aload_n X 0 dX8_coupleOf_37 rfl rfl ?_
      refine g_iconst (v := 2) X rfl dX8_coupleOf_38 ?_
      refine g_ciV X [wM ct a w1 hs] (fun (u9 : Mem) => [wM ct a u9 hs]) (fun (u9 : Mem) => wM ct a u9 hs) 1 [0] [] 0 (kX8_fails l D ct a w1 hs 2 _ hw) (cwV 1 X.1.2.2.2.2 gX8_coupleOf_X8_fails rfl rfl rfl (by decide +kernel) ⟨Nat.le_of_ble_eq_true rfl, Nat.le_of_ble_eq_true rfl⟩) dX8_coupleOf_39 rfl rfl (Nat.le_of_ble_eq_true rfl) ⟨Nat.le_of_ble_eq_true rfl, Nat.le_of_ble_eq_true rfl⟩ rfl rfl rfl (by decide) (fun _ => rfl) (fun _ => rfl) (fun _ => rfl) (fun _ => rfl) rfl rfl rfl (fun r8 u9 hw => ?_)
      obtain ⟨w10, hw10⟩ : ∃ z : Mem, z = u9 := ⟨_, rfl⟩
      rw [← hw10] at hw
      rw [← hw10]
      exact g_iret X w10 hw rfl (Nat.le_of_ble_eq_true rfl) (Nat.le_of_ble_eq_true rfl) dX8_coupleOf_42
    · replace hw := hw.2 c7
      refine g_aload_n X 0 dX8_coupleOf_28 rfl rfl ?_
      refine g_iload_n X 1 dX8_coupleOf_29 rfl rfl ?_
      refine g_iload_n X 2 dX8_coupleOf_30 rfl rfl ?_
      refine g_ciV X [wM ct a w1 hs] (fun (_ : Unit) => [wM ct a w1 hs]) (fun _ => wM ct a w1 hs) 1 [0] [] 0 (kX8_ofCouple l D ct a w1 hs p1 p2 _ hw) (cwV 2 X.1.2.2.2.2 gX8_coupleOf_X8_ofCouple rfl rfl rfl (by decide +kernel) ⟨Nat.le_of_ble_eq_true rfl, Nat.le_of_ble_eq_true rfl⟩) dX8_coupleOf_31 rfl rfl (Nat.le_of_ble_eq_true rfl) ⟨Nat.le_of_ble_eq_true rfl, Nat.le_of_ble_eq_true rfl⟩ rfl rfl rfl (by decide) (fun _ => rfl) (fun _ => rfl) (fun _ => rfl) (fun _ => rfl) rfl rfl rfl (fun r11 _ hw => ?_)
      refine g_goto X 42 dX8_coupleOf_34 (by decide) ?_
      exact g_iret X w1 hw rfl (Nat.le_of_ble_eq_true rfl) (Nat.le_of_ble_eq_true rfl) dX8_coupleOf_42
  · replace hw := hw.2 c4
    refine g_aload_n X 0 dX8_coupleOf_13 rfl rfl ?_
    refine g_iconst (v := 1) X rfl dX8_coupleOf_14 ?_
    refine g_ciV X [wM ct a w1 hs] (fun (u14 : Mem) => [wM ct a u14 hs]) (fun (u14 : Mem) => wM ct a u14 hs) 1 [0] [] 0 (kX8_fails l D ct a w1 hs 1 _ hw) (cwV 1 X.1.2.2.2.2 gX8_coupleOf_X8_fails rfl rfl rfl (by decide +kernel) ⟨Nat.le_of_ble_eq_true rfl, Nat.le_of_ble_eq_true rfl⟩) dX8_coupleOf_15 rfl rfl (Nat.le_of_ble_eq_true rfl) ⟨Nat.le_of_ble_eq_true rfl, Nat.le_of_ble_eq_true rfl⟩ rfl rfl rfl (by decide) (fun _ => rfl) (fun _ => rfl) (fun _ => rfl) (fun _ => rfl) rfl rfl rfl (fun r13 u14 hw => ?_)
    obtain ⟨w15, hw15⟩ : ∃ z : Mem, z = u14 := ⟨_, rfl⟩
    rw [← hw15] at hw
    rw [← hw15]
    exact g_iret X w15 hw rfl (Nat.le_of_ble_eq_true rfl) (Nat.le_of_ble_eq_true rfl) dX8_coupleOf_18

abbrev rmX8_personAt : Room := { frames := 1, cells := 0, slots := 0, locals := 22 }

abbrev GX8_personAt (l : Launch) (D : va_G) (ct : Nat → ClassId) (a : Nat → Nat) (w : Mem) (hs : Int64) (post : Int32 → Prop) (p : Program) (e : Env) (s : State) (m : MethodId) (args : Array Value) (below : List Frame) (meth : Method) (c : Code) (A : Nat → Prop) (w9 : va_W) (lv : List (Nat × Value)) (pc : Nat) (st : List Value) : Prop :=
  GG p l e rmX8_personAt s m args below meth c D A s.heap 3 (MQ below (va_Qi (fun r (_ : Unit) => post r) (fun u9 t9 => Af D (tyz ct) A ((fun _ => wM ct a w hs) u9) t9) A)  args s 0 0 A) w9 0 0 lv pc st

set_option maxHeartbeats 4000000 in
set_option maxRecDepth 20000 in
theorem kX8_personAt (l : Launch) (D : va_G) (ct : Nat → ClassId) (a : Nat → Nat) (w : Mem) (hs : Int64) (p1 : Int32) (p2 : Int32) (post : Int32 → Prop) (hw : PX8_personAt w hs p1 p2 post) : Ci (S := Unit) l yX8_personAt wsX8_personAt rmX8_personAt D (tyz ct) [.ref (a 0), .int p1, .int p2] (wM ct a w hs) (fun r (_ : Unit) => post r) (fun _ => wM ct a w hs) 0 0 := by
  intro sz
  refine g_of (own := RX8) (by decide) rfl rfl (Nat.le_of_ble_eq_true rfl) [(0, .ref (a 0)), (1, .int p1), (2, .int p2)] rfl (fun p e s m args below meth c hsz X => ?_)
  subst hsz
  unfold PX8_personAt at hw
  refine g_iload_n X 2 dX8_personAt_0 rfl rfl ?_
  refine g_aload_n X 0 dX8_personAt_1 rfl rfl ?_
  refine g_get (T := TX8) (C := RX8) (N := 21) (v := .ref (a 1)) X 0 0 (fun _ h => (List.mem_cons_of_mem _ (List.mem_append_right _ h))) (List.mem_of_getElem? (i := 1) rfl) dX8_personAt_2 rfl rfl (by decide) rfl rfl ?_
  refine g_bipush (v := 63) X rfl dX8_personAt_5 ?_
  refine g_iload_n X 1 dX8_personAt_7 rfl rfl ?_
  refine g_iadd X dX8_personAt_8 ?_
  obtain ⟨h1, hw⟩ := hw
  refine g_iald X 1 0 dX8_personAt_9 rfl rfl h1 ?_
  refine g_icmp_ge X 22 dX8_personAt_10 (by decide) (fun c2 => ?_) (fun c2 => ?_)
  · replace hw := hw.1 c2
    refine g_iconst (v := (-1)) X rfl dX8_personAt_22 ?_
    exact g_iret X () hw rfl (Nat.le_of_ble_eq_true rfl) (Nat.le_of_ble_eq_true rfl) dX8_personAt_23
  · replace hw := hw.2 c2
    refine g_aload_n X 0 dX8_personAt_13 rfl rfl ?_
    refine g_iload_n X 1 dX8_personAt_14 rfl rfl ?_
    refine g_iload_n X 2 dX8_personAt_15 rfl rfl ?_
    refine g_ciV X [wM ct a w hs] (fun (_ : Unit) => [wM ct a w hs]) (fun _ => wM ct a w hs) 1 [0] [] 0 (kX8_whoIs l D ct a w hs p1 p2 _ hw) (cwV 2 X.1.2.2.2.2 gX8_personAt_X8_whoIs rfl rfl rfl (by decide +kernel) ⟨Nat.le_of_ble_eq_true rfl, Nat.le_of_ble_eq_true rfl⟩) dX8_personAt_16 rfl rfl (Nat.le_of_ble_eq_true rfl) ⟨Nat.le_of_ble_eq_true rfl, Nat.le_of_ble_eq_true rfl⟩ rfl rfl rfl (by decide) (fun _ => rfl) (fun _ => rfl) (fun _ => rfl) (fun _ => rfl) rfl rfl rfl (fun r3 _ hw => ?_)
    refine g_goto X 23 dX8_personAt_19 (by decide) ?_
    exact g_iret X () hw rfl (Nat.le_of_ble_eq_true rfl) (Nat.le_of_ble_eq_true rfl) dX8_personAt_23

abbrev rmX8_at : Room := { frames := 2, cells := 0, slots := 0, locals := 44 }

abbrev GX8_at (l : Launch) (D : va_G) (ct : Nat → ClassId) (a : Nat → Nat) (hs : Int64) (post : Int32 → Mem → Prop) (p : Program) (e : Env) (s : State) (m : MethodId) (args : Array Value) (below : List Frame) (meth : Method) (c : Code) (A : Nat → Prop) (w9 : va_W) (lv : List (Nat × Value)) (pc : Nat) (st : List Value) : Prop :=
  GG p l e rmX8_at s m args below meth c D A s.heap 3 (MQ below (va_Qi (fun r (u9 : Mem) => post r u9) (fun u9 t9 => Af D (tyz ct) A ((fun u9 => wM ct a u9 hs) u9) t9) A)  args s 0 0 A) w9 0 0 lv pc st

set_option maxHeartbeats 4000000 in
set_option maxRecDepth 20000 in
theorem kX8_at (l : Launch) (D : va_G) (ct : Nat → ClassId) (a : Nat → Nat) (w : Mem) (hs : Int64) (p1 : Int32) (p2 : Int32) (post : Int32 → Mem → Prop) (hw : PX8_at w hs p1 p2 post) : Ci (S := Mem) l yX8_at wsX8_at rmX8_at D (tyz ct) [.ref (a 0), .int p1, .int p2] (wM ct a w hs) (fun r (u9 : Mem) => post r u9) (fun u9 => wM ct a u9 hs) 0 0 := by
  intro sz
  refine g_of (own := RX8) (by decide) rfl rfl (Nat.le_of_ble_eq_true rfl) [(0, .ref (a 0)), (1, .int p1), (2, .int p2)] rfl (fun p e s m args below meth c hsz X => ?_)
  subst hsz
  unfold PX8_at at hw
  refine g_aload_n X 0 dX8_at_0 rfl rfl ?_
  refine g_iconst (v := 0) X rfl dX8_at_1 ?_
  refine g_put (T := TX8) (C := RX8) (N := 21) X (fun z => wM ct a z hs) w 0 5 tyX8 tyX8_ok nmX8 (fun _ h => (List.mem_cons_of_mem _ (List.mem_append_right _ h))) (List.mem_of_getElem? (i := 1) rfl) dX8_at_2 rfl rfl (by decide) rfl rfl (by decide +kernel) (Nat.le_of_ble_eq_true rfl) rfl (fun w1 hw1 => ?_)
  replace hw := hw w1 hw1
  refine g_iload_n X 1 dX8_at_5 rfl rfl ?_
  refine g_ciS X [wM ct a w1 hs] (fun (_ : Unit) => [wM ct a w1 hs]) (fun _ => wM ct a w1 hs) 1 [] [0] (kX8_isRow l D ct  p1 _ hw) (va_cwS 1 X.1.2.2.2.2 gX8_at_X8_isRow rfl rfl rfl (by decide +kernel) ⟨Nat.le_of_ble_eq_true rfl, Nat.le_of_ble_eq_true rfl⟩) dX8_at_6 rfl rfl (Nat.le_of_ble_eq_true rfl) ⟨Nat.le_of_ble_eq_true rfl, Nat.le_of_ble_eq_true rfl⟩ rfl rfl rfl (by decide) (fun _ => rfl) (fun _ => rfl) (fun _ => rfl) (fun _ => rfl) (fun r2 _ hw => ?_)
  refine g_if_ne X 18 dX8_at_9 (by decide) (fun c4 => ?_) (fun c4 => ?_)
  · replace hw := hw.1 c4
    refine g_iload_n X 2 dX8_at_18 rfl rfl ?_
    refine g_if_lt X 31 dX8_at_19 (by decide) (fun c5 => ?_) (fun c5 => ?_)
    · replace hw := hw.1 c5
      refine g_aload_n X 0 dX8_at_31 rfl rfl ?_
      refine g_iconst (v := 2) X rfl dX8_at_32 ?_
      refine g_ciV X [wM ct a w1 hs] (fun (u7 : Mem) => [wM ct a u7 hs]) (fun (u7 : Mem) => wM ct a u7 hs) 1 [0] [] 0 (kX8_fails l D ct a w1 hs 2 _ hw) (cwV 1 X.1.2.2.2.2 gX8_at_X8_fails rfl rfl rfl (by decide +kernel) ⟨Nat.le_of_ble_eq_true rfl, Nat.le_of_ble_eq_true rfl⟩) dX8_at_33 rfl rfl (Nat.le_of_ble_eq_true rfl) ⟨Nat.le_of_ble_eq_true rfl, Nat.le_of_ble_eq_true rfl⟩ rfl rfl rfl (by decide) (fun _ => rfl) (fun _ => rfl) (fun _ => rfl) (fun _ => rfl) rfl rfl rfl (fun r6 u7 hw => ?_)
      obtain ⟨w8, hw8⟩ : ∃ z : Mem, z = u7 := ⟨_, rfl⟩
      rw [← hw8] at hw
      rw [← hw8]
      exact g_iret X w8 hw rfl (Nat.le_of_ble_eq_true rfl) (Nat.le_of_ble_eq_true rfl) dX8_at_36
    · replace hw := hw.2 c5
      refine g_aload_n X 0 dX8_at_22 rfl rfl ?_
      refine g_iload_n X 1 dX8_at_23 rfl rfl ?_
      refine g_iload_n X 2 dX8_at_24 rfl rfl ?_
      refine g_ciV X [wM ct a w1 hs] (fun (_ : Unit) => [wM ct a w1 hs]) (fun _ => wM ct a w1 hs) 1 [0] [] 0 (kX8_personAt l D ct a w1 hs p1 p2 _ hw) (cwV 2 X.1.2.2.2.2 gX8_at_X8_personAt rfl rfl rfl (by decide +kernel) ⟨Nat.le_of_ble_eq_true rfl, Nat.le_of_ble_eq_true rfl⟩) dX8_at_25 rfl rfl (Nat.le_of_ble_eq_true rfl) ⟨Nat.le_of_ble_eq_true rfl, Nat.le_of_ble_eq_true rfl⟩ rfl rfl rfl (by decide) (fun _ => rfl) (fun _ => rfl) (fun _ => rfl) (fun _ => rfl) rfl rfl rfl (fun r9 _ hw => ?_)
      refine g_goto X 36 dX8_at_28 (by decide) ?_
      exact g_iret X w1 hw rfl (Nat.le_of_ble_eq_true rfl) (Nat.le_of_ble_eq_true rfl) dX8_at_36
  · replace hw := hw.2 c4
    refine g_aload_n X 0 dX8_at_12 rfl rfl ?_
    refine g_iconst (v := 1) X rfl dX8_at_13 ?_
    refine g_ciV X [wM ct a w1 hs] (fun (u12 : Mem) => [wM ct a u12 hs]) (fun (u12 : Mem) => wM ct a u12 hs) 1 [0] [] 0 (kX8_fails l D ct a w1 hs 1 _ hw) (cwV 1 X.1.2.2.2.2 gX8_at_X8_fails rfl rfl rfl (by decide +kernel) ⟨Nat.le_of_ble_eq_true rfl, Nat.le_of_ble_eq_true rfl⟩) dX8_at_14 rfl rfl (Nat.le_of_ble_eq_true rfl) ⟨Nat.le_of_ble_eq_true rfl, Nat.le_of_ble_eq_true rfl⟩ rfl rfl rfl (by decide) (fun _ => rfl) (fun _ => rfl) (fun _ => rfl) (fun _ => rfl) rfl rfl rfl (fun r11 u12 hw => ?_)
    obtain ⟨w13, hw13⟩ : ∃ z : Mem, z = u12 := ⟨_, rfl⟩
    rw [← hw13] at hw
    rw [← hw13]
    exact g_iret X w13 hw rfl (Nat.le_of_ble_eq_true rfl) (Nat.le_of_ble_eq_true rfl) dX8_at_17

abbrev rmX8_crossings : Room := { frames := 5, cells := 0, slots := 0, locals := 113 }

abbrev GX8_crossings (l : Launch) (D : va_G) (ct : Nat → ClassId) (a : Nat → Nat) (hs : Int64) (post : Int32 → Mem → Prop) (p : Program) (e : Env) (s : State) (m : MethodId) (args : Array Value) (below : List Frame) (meth : Method) (c : Code) (A : Nat → Prop) (w9 : va_W) (lv : List (Nat × Value)) (pc : Nat) (st : List Value) : Prop :=
  GG p l e rmX8_crossings s m args below meth c D A s.heap 3 (MQ below (va_Qi (fun r (u9 : Mem) => post r u9) (fun u9 t9 => Af D (tyz ct) A ((fun u9 => wM ct a u9 hs) u9) t9) A)  args s 0 0 A) w9 0 0 lv pc st

set_option maxHeartbeats 4000000 in
set_option maxRecDepth 20000 in
theorem kX8_crossings (l : Launch) (D : va_G) (ct : Nat → ClassId) (a : Nat → Nat) (w : Mem) (hs : Int64) (p1 : Int32) (p2 : Int32) (post : Int32 → Mem → Prop) (hw : PX8_crossings w hs p1 p2 post) : Ci (S := Mem) l yX8_crossings wsX8_crossings rmX8_crossings D (tyz ct) [.ref (a 0), .int p1, .int p2] (wM ct a w hs) (fun r (u9 : Mem) => post r u9) (fun u9 => wM ct a u9 hs) 0 0 := by
  intro sz
  refine g_of (own := RX8) (by decide) rfl rfl (Nat.le_of_ble_eq_true rfl) [(0, .ref (a 0)), (1, .int p1), (2, .int p2)] rfl (fun p e s m args below meth c hsz X => ?_)
  subst hsz
  unfold PX8_crossings at hw
  refine g_aload_n X 0 dX8_crossings_0 rfl rfl ?_
  refine g_iconst (v := 0) X rfl dX8_crossings_1 ?_
  refine g_put (T := TX8) (C := RX8) (N := 21) X (fun z => wM ct a z hs) w 0 5 tyX8 tyX8_ok nmX8 (fun _ h => (List.mem_cons_of_mem _ (List.mem_append_right _ h))) (List.mem_of_getElem? (i := 1) rfl) dX8_crossings_2 rfl rfl (by decide) rfl rfl (by decide +kernel) (Nat.le_of_ble_eq_true rfl) rfl (fun w1 hw1 => ?_)
  replace hw := hw w1 hw1
  refine g_iload_n X 1 dX8_crossings_5 rfl rfl ?_
  refine g_ciS X [wM ct a w1 hs] (fun (_ : Unit) => [wM ct a w1 hs]) (fun _ => wM ct a w1 hs) 1 [] [0] (kX8_isRow l D ct  p1 _ hw) (va_cwS 1 X.1.2.2.2.2 gX8_crossings_X8_isRow rfl rfl rfl (by decide +kernel) ⟨Nat.le_of_ble_eq_true rfl, Nat.le_of_ble_eq_true rfl⟩) dX8_crossings_6 rfl rfl (Nat.le_of_ble_eq_true rfl) ⟨Nat.le_of_ble_eq_true rfl, Nat.le_of_ble_eq_true rfl⟩ rfl rfl rfl (by decide) (fun _ => rfl) (fun _ => rfl) (fun _ => rfl) (fun _ => rfl) (fun r2 _ hw => ?_)
  refine g_if_ne X 18 dX8_crossings_9 (by decide) (fun c4 => ?_) (fun c4 => ?_)
  · replace hw := hw.1 c4
    refine g_iload_n X 2 dX8_crossings_18 rfl rfl ?_
    refine g_iconst (v := 0) X rfl dX8_crossings_19 ?_
    refine g_iconst (v := 1) X rfl dX8_crossings_20 ?_
    refine g_ciS X [wM ct a w1 hs] (fun (_ : Unit) => [wM ct a w1 hs]) (fun _ => wM ct a w1 hs) 1 [] [0] (kX8_in l D ct  p2 0 1 _ hw) (va_cwS 3 X.1.2.2.2.2 gX8_crossings_X8_in rfl rfl rfl (by decide +kernel) ⟨Nat.le_of_ble_eq_true rfl, Nat.le_of_ble_eq_true rfl⟩) dX8_crossings_21 rfl rfl (Nat.le_of_ble_eq_true rfl) ⟨Nat.le_of_ble_eq_true rfl, Nat.le_of_ble_eq_true rfl⟩ rfl rfl rfl (by decide) (fun _ => rfl) (fun _ => rfl) (fun _ => rfl) (fun _ => rfl) (fun r5 _ hw => ?_)
    refine g_if_eq X 35 dX8_crossings_24 (by decide) (fun c7 => ?_) (fun c7 => ?_)
    · replace hw := hw.1 c7
      refine g_aload_n X 0 dX8_crossings_35 rfl rfl ?_
      refine g_iconst (v := 2) X rfl dX8_crossings_36 ?_
      refine g_ciV X [wM ct a w1 hs] (fun (u9 : Mem) => [wM ct a u9 hs]) (fun (u9 : Mem) => wM ct a u9 hs) 1 [0] [] 0 (kX8_fails l D ct a w1 hs 2 _ hw) (cwV 1 X.1.2.2.2.2 gX8_crossings_X8_fails rfl rfl rfl (by decide +kernel) ⟨Nat.le_of_ble_eq_true rfl, Nat.le_of_ble_eq_true rfl⟩) dX8_crossings_37 rfl rfl (Nat.le_of_ble_eq_true rfl) ⟨Nat.le_of_ble_eq_true rfl, Nat.le_of_ble_eq_true rfl⟩ rfl rfl rfl (by decide) (fun _ => rfl) (fun _ => rfl) (fun _ => rfl) (fun _ => rfl) rfl rfl rfl (fun r8 u9 hw => ?_)
      obtain ⟨w10, hw10⟩ : ∃ z : Mem, z = u9 := ⟨_, rfl⟩
      rw [← hw10] at hw
      rw [← hw10]
      exact g_iret X w10 hw rfl (Nat.le_of_ble_eq_true rfl) (Nat.le_of_ble_eq_true rfl) dX8_crossings_40
    · replace hw := hw.2 c7
      refine g_aload_n X 0 dX8_crossings_27 rfl rfl ?_
      refine g_iload_n X 1 dX8_crossings_28 rfl rfl ?_
      refine g_ciV X [wM ct a w1 hs] (fun (u12 : Mem) => [wM ct a u12 hs]) (fun (u12 : Mem) => wM ct a u12 hs) 1 [0] [] 0 (kX8_crossingsTo l D ct a w1 hs p1 _ hw) (cwV 1 X.1.2.2.2.2 gX8_crossings_X8_crossingsTo rfl rfl rfl (by decide +kernel) ⟨Nat.le_of_ble_eq_true rfl, Nat.le_of_ble_eq_true rfl⟩) dX8_crossings_29 rfl rfl (Nat.le_of_ble_eq_true rfl) ⟨Nat.le_of_ble_eq_true rfl, Nat.le_of_ble_eq_true rfl⟩ rfl rfl rfl (by decide) (fun _ => rfl) (fun _ => rfl) (fun _ => rfl) (fun _ => rfl) rfl rfl rfl (fun r11 u12 hw => ?_)
      obtain ⟨w13, hw13⟩ : ∃ z : Mem, z = u12 := ⟨_, rfl⟩
      rw [← hw13] at hw
      rw [← hw13]
      refine g_goto X 40 dX8_crossings_32 (by decide) ?_
      exact g_iret X w13 hw rfl (Nat.le_of_ble_eq_true rfl) (Nat.le_of_ble_eq_true rfl) dX8_crossings_40
  · replace hw := hw.2 c4
    refine g_aload_n X 0 dX8_crossings_12 rfl rfl ?_
    refine g_iconst (v := 1) X rfl dX8_crossings_13 ?_
    refine g_ciV X [wM ct a w1 hs] (fun (u15 : Mem) => [wM ct a u15 hs]) (fun (u15 : Mem) => wM ct a u15 hs) 1 [0] [] 0 (kX8_fails l D ct a w1 hs 1 _ hw) (cwV 1 X.1.2.2.2.2 gX8_crossings_X8_fails rfl rfl rfl (by decide +kernel) ⟨Nat.le_of_ble_eq_true rfl, Nat.le_of_ble_eq_true rfl⟩) dX8_crossings_14 rfl rfl (Nat.le_of_ble_eq_true rfl) ⟨Nat.le_of_ble_eq_true rfl, Nat.le_of_ble_eq_true rfl⟩ rfl rfl rfl (by decide) (fun _ => rfl) (fun _ => rfl) (fun _ => rfl) (fun _ => rfl) rfl rfl rfl (fun r14 u15 hw => ?_)
    obtain ⟨w16, hw16⟩ : ∃ z : Mem, z = u15 := ⟨_, rfl⟩
    rw [← hw16] at hw
    rw [← hw16]
    exact g_iret X w16 hw rfl (Nat.le_of_ble_eq_true rfl) (Nat.le_of_ble_eq_true rfl) dX8_crossings_17

abbrev rmX8_allLines : Room := { frames := 1, cells := 0, slots := 0, locals := 21 }

abbrev GX8_allLines (l : Launch) (D : va_G) (ct : Nat → ClassId) (a : Nat → Nat) (w : Mem) (hs : Int64) (post : Int32 → Prop) (p : Program) (e : Env) (s : State) (m : MethodId) (args : Array Value) (below : List Frame) (meth : Method) (c : Code) (A : Nat → Prop) (w9 : va_W) (lv : List (Nat × Value)) (pc : Nat) (st : List Value) : Prop :=
  GG p l e rmX8_allLines s m args below meth c D A s.heap 3 (MQ below (va_Qi (fun r (_ : Unit) => post r) (fun u9 t9 => Af D (tyz ct) A ((fun _ => wM ct a w hs) u9) t9) A)  args s 0 0 A) w9 0 0 lv pc st

set_option maxHeartbeats 4000000 in
set_option maxRecDepth 20000 in
theorem kX8_allLines_4 (l : Launch) (D : va_G) (ct : Nat → ClassId) (a : Nat → Nat) (w : Mem) (hs : Int64) (post : Int32 → Prop) {p : Program} {e : Env} {s : State} {m : MethodId} {args : Array Value} {below : List Frame} {meth : Method} {c : Code} {A : Nat → Prop} (X : Cx p s m args meth c cX8_allLines 3 RX8 wsX8_allLines D (tyz ct) A s.heap (some .int))  :
    ∀ (n : Nat) (x1 : Int32) (x2 : Int32), PX8_allLines_4 w hs post n x1 x2 → GX8_allLines l D ct a w hs post p e s m args below meth c A (wM ct a w hs) [(0, .ref (a 0)), (1, .int x1), (2, .int x2)] 4 [] := by
  intro n
  induction n with
  | zero =>
    intro x1 x2 hw
    exact hw.elim
  | succ n ih =>
    intro x1 x2 hw
    unfold PX8_allLines_4 at hw
    refine g_iload_n X 2 dX8_allLines_4 rfl rfl ?_
    refine g_aload_n X 0 dX8_allLines_5 rfl rfl ?_
    refine g_get (T := TX8) (C := RX8) (N := 21) (v := .ref (a 1)) X 0 0 (fun _ h => (List.mem_cons_of_mem _ (List.mem_append_right _ h))) (List.mem_of_getElem? (i := 1) rfl) dX8_allLines_6 rfl rfl (by decide) rfl rfl ?_
    refine g_iconst (v := 0) X rfl dX8_allLines_9 ?_
    obtain ⟨h1, hw⟩ := hw
    refine g_iald X 1 0 dX8_allLines_10 rfl rfl h1 ?_
    refine g_icmp_ge X 37 dX8_allLines_11 (by decide) (fun c2 => ?_) (fun c2 => ?_)
    · replace hw := hw.1 c2
      refine g_iload_n X 1 dX8_allLines_37 rfl rfl ?_
      exact g_iret X () hw rfl (Nat.le_of_ble_eq_true rfl) (Nat.le_of_ble_eq_true rfl) dX8_allLines_38
    · replace hw := hw.2 c2
      refine g_iload_n X 1 dX8_allLines_14 rfl rfl ?_
      refine g_aload_n X 0 dX8_allLines_15 rfl rfl ?_
      refine g_iload_n X 2 dX8_allLines_16 rfl rfl ?_
      refine g_ciV X [wM ct a w hs] (fun (_ : Unit) => [wM ct a w hs]) (fun _ => wM ct a w hs) 1 [0] [] 0 (kX8_parentsOf l D ct a w hs x2 _ hw) (cwV 1 X.1.2.2.2.2 gX8_allLines_X8_parentsOf rfl rfl rfl (by decide +kernel) ⟨Nat.le_of_ble_eq_true rfl, Nat.le_of_ble_eq_true rfl⟩) dX8_allLines_17 rfl rfl (Nat.le_of_ble_eq_true rfl) ⟨Nat.le_of_ble_eq_true rfl, Nat.le_of_ble_eq_true rfl⟩ rfl rfl rfl (by decide) (fun _ => rfl) (fun _ => rfl) (fun _ => rfl) (fun _ => rfl) rfl rfl rfl (fun r3 _ hw => ?_)
      refine g_iconst (v := (-1)) X rfl dX8_allLines_20 ?_
      refine g_icmp_eq X 28 dX8_allLines_21 (by decide) (fun c5 => ?_) (fun c5 => ?_)
      · replace hw := hw.1 c5
        refine g_iconst (v := 0) X rfl dX8_allLines_28 ?_
        refine g_iadd X dX8_allLines_29 ?_
        refine g_topi (fun q6 hq6 => ?_)
        replace hw := hw q6 hq6
        refine g_istore_n X [(1, .int q6), (0, .ref (a 0)), (2, .int x2)] dX8_allLines_30 rfl (by decide) rfl ?_
        refine g_iinc X [(2, .int (x2 + 1)), (1, .int q6), (0, .ref (a 0))] 2 dX8_allLines_31 rfl rfl (by decide) rfl ?_
        refine g_goto X 4 dX8_allLines_34 (by decide) ?_
        refine g_sub [(0, .ref (a 0)), (1, .int q6), (2, .int (x2 + 1))] [2, 1, 0] rfl ?_
        exact ih _ _ hw
      · replace hw := hw.2 c5
        refine g_iconst (v := 1) X rfl dX8_allLines_24 ?_
        refine g_goto X 29 dX8_allLines_25 (by decide) ?_
        refine g_iadd X dX8_allLines_29 ?_
        refine g_topi (fun q7 hq7 => ?_)
        replace hw := hw q7 hq7
        refine g_istore_n X [(1, .int q7), (0, .ref (a 0)), (2, .int x2)] dX8_allLines_30 rfl (by decide) rfl ?_
        refine g_iinc X [(2, .int (x2 + 1)), (1, .int q7), (0, .ref (a 0))] 2 dX8_allLines_31 rfl rfl (by decide) rfl ?_
        refine g_goto X 4 dX8_allLines_34 (by decide) ?_
        refine g_sub [(0, .ref (a 0)), (1, .int q7), (2, .int (x2 + 1))] [2, 1, 0] rfl ?_
        exact ih _ _ hw

set_option maxHeartbeats 4000000 in
set_option maxRecDepth 20000 in
theorem kX8_allLines (l : Launch) (D : va_G) (ct : Nat → ClassId) (a : Nat → Nat) (w : Mem) (hs : Int64) (post : Int32 → Prop) (hw : PX8_allLines w hs post) : Ci (S := Unit) l yX8_allLines wsX8_allLines rmX8_allLines D (tyz ct) [.ref (a 0)] (wM ct a w hs) (fun r (_ : Unit) => post r) (fun _ => wM ct a w hs) 0 0 := by
  intro sz
  refine g_of (own := RX8) (by decide) rfl rfl (Nat.le_of_ble_eq_true rfl) [(0, .ref (a 0))] rfl (fun p e s m args below meth c hsz X => ?_)
  subst hsz
  unfold PX8_allLines at hw
  refine g_iconst (v := 0) X rfl dX8_allLines_0 ?_
  refine g_istore_n X [(1, .int 0), (0, .ref (a 0))] dX8_allLines_1 rfl (by decide) rfl ?_
  refine g_iconst (v := 0) X rfl dX8_allLines_2 ?_
  refine g_istore_n X [(2, .int 0), (1, .int 0), (0, .ref (a 0))] dX8_allLines_3 rfl (by decide) rfl ?_
  refine g_sub [(0, .ref (a 0)), (1, .int 0), (2, .int 0)] [2, 1, 0] rfl ?_
  obtain ⟨n8, hw⟩ := hw
  exact kX8_allLines_4 l D ct a w hs post X n8 _ _ hw

abbrev rmX8_bent : Room := { frames := 4, cells := 0, slots := 0, locals := 89 }

abbrev GX8_bent (l : Launch) (D : va_G) (ct : Nat → ClassId) (a : Nat → Nat) (hs : Int64) (post : Int32 → Mem → Prop) (p : Program) (e : Env) (s : State) (m : MethodId) (args : Array Value) (below : List Frame) (meth : Method) (c : Code) (A : Nat → Prop) (w9 : va_W) (lv : List (Nat × Value)) (pc : Nat) (st : List Value) : Prop :=
  GG p l e rmX8_bent s m args below meth c D A s.heap 4 (MQ below (va_Qi (fun r (u9 : Mem) => post r u9) (fun u9 t9 => Af D (tyz ct) A ((fun u9 => wM ct a u9 hs) u9) t9) A)  args s 0 0 A) w9 0 0 lv pc st

set_option maxHeartbeats 4000000 in
set_option maxRecDepth 20000 in
theorem kX8_bent_16 (l : Launch) (D : va_G) (ct : Nat → ClassId) (a : Nat → Nat) (hs : Int64) (post : Int32 → Mem → Prop) (K4 : Mem → Int32 → Int32 → Prop) {p : Program} {e : Env} {s : State} {m : MethodId} {args : Array Value} {below : List Frame} {meth : Method} {c : Code} {A : Nat → Prop} (X : Cx p s m args meth c cX8_bent 4 RX8 wsX8_bent D (tyz ct) A s.heap (some .int)) (hK4 : ∀ (w : Mem) (x1 : Int32) (x2 : Int32), K4 w x1 x2 → GX8_bent l D ct a hs post p e s m args below meth c A (wM ct a w hs) [(0, .ref (a 0)), (1, .int x1), (2, .int x2)] 4 []) :
    ∀ (n : Nat) (w : Mem) (x1 : Int32) (x2 : Int32) (x3 : Int32), PX8_bent_16 hs post K4 n w x1 x2 x3 → GX8_bent l D ct a hs post p e s m args below meth c A (wM ct a w hs) [(0, .ref (a 0)), (1, .int x1), (2, .int x2), (3, .int x3)] 16 [] := by
  intro n
  induction n with
  | zero =>
    intro w x1 x2 x3 hw
    exact hw.elim
  | succ n ih =>
    intro w x1 x2 x3 hw
    unfold PX8_bent_16 at hw
    refine g_iload_n X 3 dX8_bent_16 rfl rfl ?_
    refine g_aload_n X 0 dX8_bent_17 rfl rfl ?_
    refine g_get (T := TX8) (C := RX8) (N := 21) (v := .int (w 8 0)) X 0 8 (fun _ h => (List.mem_cons_of_mem _ (List.mem_append_right _ h))) (List.mem_of_getElem? (i := 1) rfl) dX8_bent_18 rfl rfl (by decide) rfl rfl ?_
    refine g_icmp_ge X 55 dX8_bent_21 (by decide) (fun c4 => ?_) (fun c4 => ?_)
    · replace hw := hw.1 c4
      refine g_iinc X [(2, .int (x2 + 1)), (0, .ref (a 0)), (1, .int x1), (3, .int x3)] 2 dX8_bent_55 rfl rfl (by decide) rfl ?_
      refine g_goto X 4 dX8_bent_58 (by decide) ?_
      refine g_sub [(0, .ref (a 0)), (1, .int x1), (2, .int (x2 + 1))] [1, 2, 0] rfl ?_
      exact hK4 _ _ _ hw
    · replace hw := hw.2 c4
      refine g_iload_n X 1 dX8_bent_24 rfl rfl ?_
      refine g_aload_n X 0 dX8_bent_25 rfl rfl ?_
      refine g_get (T := TX8) (C := RX8) (N := 21) (v := .ref (a 7)) X 0 6 (fun _ h => (List.mem_cons_of_mem _ (List.mem_append_right _ h))) (List.mem_of_getElem? (i := 2) rfl) dX8_bent_26 rfl rfl (by decide) rfl rfl ?_
      refine g_iload_n X 3 dX8_bent_29 rfl rfl ?_
      obtain ⟨h5, hw⟩ := hw
      refine g_iald X 5 0 dX8_bent_30 rfl rfl h5 ?_
      refine g_iconst (v := 2) X rfl dX8_bent_31 ?_
      refine g_aload_n X 0 dX8_bent_32 rfl rfl ?_
      refine g_get (T := TX8) (C := RX8) (N := 21) (v := .ref (a 8)) X 0 7 (fun _ h => (List.mem_cons_of_mem _ (List.mem_append_right _ h))) (List.mem_of_getElem? (i := 3) rfl) dX8_bent_33 rfl rfl (by decide) rfl rfl ?_
      refine g_iload_n X 3 dX8_bent_36 rfl rfl ?_
      obtain ⟨h6, hw⟩ := hw
      refine g_iald X 6 0 dX8_bent_37 rfl rfl h6 ?_
      refine g_imul X dX8_bent_38 ?_
      refine g_icmp_eq X 46 dX8_bent_39 (by decide) (fun c7 => ?_) (fun c7 => ?_)
      · replace hw := hw.1 c7
        refine g_iconst (v := 0) X rfl dX8_bent_46 ?_
        refine g_iadd X dX8_bent_47 ?_
        refine g_topi (fun q8 hq8 => ?_)
        replace hw := hw q8 hq8
        refine g_istore_n X [(1, .int q8), (0, .ref (a 0)), (2, .int x2), (3, .int x3)] dX8_bent_48 rfl (by decide) rfl ?_
        refine g_iinc X [(3, .int (x3 + 1)), (1, .int q8), (0, .ref (a 0)), (2, .int x2)] 3 dX8_bent_49 rfl rfl (by decide) rfl ?_
        refine g_goto X 16 dX8_bent_52 (by decide) ?_
        refine g_sub [(0, .ref (a 0)), (1, .int q8), (2, .int x2), (3, .int (x3 + 1))] [2, 1, 3, 0] rfl ?_
        exact ih _ _ _ _ hw
      · replace hw := hw.2 c7
        refine g_iconst (v := 1) X rfl dX8_bent_42 ?_
        refine g_goto X 47 dX8_bent_43 (by decide) ?_
        refine g_iadd X dX8_bent_47 ?_
        refine g_topi (fun q9 hq9 => ?_)
        replace hw := hw q9 hq9
        refine g_istore_n X [(1, .int q9), (0, .ref (a 0)), (2, .int x2), (3, .int x3)] dX8_bent_48 rfl (by decide) rfl ?_
        refine g_iinc X [(3, .int (x3 + 1)), (1, .int q9), (0, .ref (a 0)), (2, .int x2)] 3 dX8_bent_49 rfl rfl (by decide) rfl ?_
        refine g_goto X 16 dX8_bent_52 (by decide) ?_
        refine g_sub [(0, .ref (a 0)), (1, .int q9), (2, .int x2), (3, .int (x3 + 1))] [2, 1, 3, 0] rfl ?_
        exact ih _ _ _ _ hw

set_option maxHeartbeats 4000000 in
set_option maxRecDepth 20000 in
theorem kX8_bent_4 (l : Launch) (D : va_G) (ct : Nat → ClassId) (a : Nat → Nat) (hs : Int64) (post : Int32 → Mem → Prop) {p : Program} {e : Env} {s : State} {m : MethodId} {args : Array Value} {below : List Frame} {meth : Method} {c : Code} {A : Nat → Prop} (X : Cx p s m args meth c cX8_bent 4 RX8 wsX8_bent D (tyz ct) A s.heap (some .int))  :
    ∀ (n : Nat) (w : Mem) (x1 : Int32) (x2 : Int32), PX8_bent_4 hs post n w x1 x2 → GX8_bent l D ct a hs post p e s m args below meth c A (wM ct a w hs) [(0, .ref (a 0)), (1, .int x1), (2, .int x2)] 4 [] := by
  intro n
  induction n with
  | zero =>
    intro w x1 x2 hw
    exact hw.elim
  | succ n ih =>
    intro w x1 x2 hw
    unfold PX8_bent_4 at hw
    refine g_iload_n X 2 dX8_bent_4 rfl rfl ?_
    refine g_iconst (v := 4) X rfl dX8_bent_5 ?_
    refine g_icmp_ge X 61 dX8_bent_6 (by decide) (fun c1 => ?_) (fun c1 => ?_)
    · replace hw := hw.1 c1
      refine g_iload_n X 1 dX8_bent_61 rfl rfl ?_
      exact g_iret X w hw rfl (Nat.le_of_ble_eq_true rfl) (Nat.le_of_ble_eq_true rfl) dX8_bent_62
    · replace hw := hw.2 c1
      refine g_aload_n X 0 dX8_bent_9 rfl rfl ?_
      refine g_iload_n X 2 dX8_bent_10 rfl rfl ?_
      refine g_cvV X [wM ct a w hs] (fun (u2 : Mem) => [wM ct a u2 hs]) (fun (u2 : Mem) => wM ct a u2 hs) 1 [0] [] 0 (kX8_draw l D ct a w hs x2 _ hw) (cwV 1 X.1.2.2.2.2 gX8_bent_X8_draw rfl rfl rfl (by decide +kernel) ⟨Nat.le_of_ble_eq_true rfl, Nat.le_of_ble_eq_true rfl⟩) dX8_bent_11 rfl rfl (Nat.le_of_ble_eq_true rfl) ⟨Nat.le_of_ble_eq_true rfl, Nat.le_of_ble_eq_true rfl⟩ rfl rfl rfl (by decide) (fun _ => rfl) (fun _ => rfl) (fun _ => rfl) (fun _ => rfl) rfl rfl rfl (fun u2 hw => ?_)
      obtain ⟨w3, hw3⟩ : ∃ z : Mem, z = u2 := ⟨_, rfl⟩
      rw [← hw3] at hw
      rw [← hw3]
      refine g_iconst (v := 0) X rfl dX8_bent_14 ?_
      refine g_istore_n X [(3, .int 0), (0, .ref (a 0)), (1, .int x1), (2, .int x2)] dX8_bent_15 rfl (by decide) rfl ?_
      refine g_sub [(0, .ref (a 0)), (1, .int x1), (2, .int x2), (3, .int 0)] [1, 2, 3, 0] rfl ?_
      obtain ⟨n10, hw⟩ := hw
      exact kX8_bent_16 l D ct a hs post _ X ih n10 _ _ _ _ hw

set_option maxHeartbeats 4000000 in
set_option maxRecDepth 20000 in
theorem kX8_bent (l : Launch) (D : va_G) (ct : Nat → ClassId) (a : Nat → Nat) (w : Mem) (hs : Int64) (post : Int32 → Mem → Prop) (hw : PX8_bent w hs post) : Ci (S := Mem) l yX8_bent wsX8_bent rmX8_bent D (tyz ct) [.ref (a 0)] (wM ct a w hs) (fun r (u9 : Mem) => post r u9) (fun u9 => wM ct a u9 hs) 0 0 := by
  intro sz
  refine g_of (own := RX8) (by decide) rfl rfl (Nat.le_of_ble_eq_true rfl) [(0, .ref (a 0))] rfl (fun p e s m args below meth c hsz X => ?_)
  subst hsz
  unfold PX8_bent at hw
  refine g_iconst (v := 0) X rfl dX8_bent_0 ?_
  refine g_istore_n X [(1, .int 0), (0, .ref (a 0))] dX8_bent_1 rfl (by decide) rfl ?_
  refine g_iconst (v := 1) X rfl dX8_bent_2 ?_
  refine g_istore_n X [(2, .int 1), (1, .int 0), (0, .ref (a 0))] dX8_bent_3 rfl (by decide) rfl ?_
  refine g_sub [(0, .ref (a 0)), (1, .int 0), (2, .int 1)] [2, 1, 0] rfl ?_
  obtain ⟨n11, hw⟩ := hw
  exact kX8_bent_4 l D ct a hs post X n11 _ _ _ hw

abbrev rmX8_doubles : Room := { frames := 2, cells := 0, slots := 0, locals := 44 }

abbrev GX8_doubles (l : Launch) (D : va_G) (ct : Nat → ClassId) (a : Nat → Nat) (w : Mem) (hs : Int64) (post : Int32 → Prop) (p : Program) (e : Env) (s : State) (m : MethodId) (args : Array Value) (below : List Frame) (meth : Method) (c : Code) (A : Nat → Prop) (w9 : va_W) (lv : List (Nat × Value)) (pc : Nat) (st : List Value) : Prop :=
  GG p l e rmX8_doubles s m args below meth c D A s.heap 3 (MQ below (va_Qi (fun r (_ : Unit) => post r) (fun u9 t9 => Af D (tyz ct) A ((fun _ => wM ct a w hs) u9) t9) A)  args s 0 0 A) w9 0 0 lv pc st

set_option maxHeartbeats 4000000 in
set_option maxRecDepth 20000 in
theorem kX8_doubles_4 (l : Launch) (D : va_G) (ct : Nat → ClassId) (a : Nat → Nat) (w : Mem) (hs : Int64) (post : Int32 → Prop) {p : Program} {e : Env} {s : State} {m : MethodId} {args : Array Value} {below : List Frame} {meth : Method} {c : Code} {A : Nat → Prop} (X : Cx p s m args meth c cX8_doubles 3 RX8 wsX8_doubles D (tyz ct) A s.heap (some .int))  :
    ∀ (n : Nat) (x1 : Int32) (x2 : Int32), PX8_doubles_4 w hs post n x1 x2 → GX8_doubles l D ct a w hs post p e s m args below meth c A (wM ct a w hs) [(0, .ref (a 0)), (1, .int x1), (2, .int x2)] 4 [] := by
  intro n
  induction n with
  | zero =>
    intro x1 x2 hw
    exact hw.elim
  | succ n ih =>
    intro x1 x2 hw
    unfold PX8_doubles_4 at hw
    refine g_iload_n X 2 dX8_doubles_4 rfl rfl ?_
    refine g_aload_n X 0 dX8_doubles_5 rfl rfl ?_
    refine g_get (T := TX8) (C := RX8) (N := 21) (v := .ref (a 1)) X 0 0 (fun _ h => (List.mem_cons_of_mem _ (List.mem_append_right _ h))) (List.mem_of_getElem? (i := 1) rfl) dX8_doubles_6 rfl rfl (by decide) rfl rfl ?_
    refine g_iconst (v := 0) X rfl dX8_doubles_9 ?_
    obtain ⟨h1, hw⟩ := hw
    refine g_iald X 1 0 dX8_doubles_10 rfl rfl h1 ?_
    refine g_icmp_ge X 37 dX8_doubles_11 (by decide) (fun c2 => ?_) (fun c2 => ?_)
    · replace hw := hw.1 c2
      refine g_iload_n X 1 dX8_doubles_37 rfl rfl ?_
      exact g_iret X () hw rfl (Nat.le_of_ble_eq_true rfl) (Nat.le_of_ble_eq_true rfl) dX8_doubles_38
    · replace hw := hw.2 c2
      refine g_iload_n X 1 dX8_doubles_14 rfl rfl ?_
      refine g_aload_n X 0 dX8_doubles_15 rfl rfl ?_
      refine g_iload_n X 2 dX8_doubles_16 rfl rfl ?_
      refine g_ciV X [wM ct a w hs] (fun (_ : Unit) => [wM ct a w hs]) (fun _ => wM ct a w hs) 1 [0] [] 0 (kX8_couplesOf l D ct a w hs x2 _ hw) (cwV 1 X.1.2.2.2.2 gX8_doubles_X8_couplesOf rfl rfl rfl (by decide +kernel) ⟨Nat.le_of_ble_eq_true rfl, Nat.le_of_ble_eq_true rfl⟩) dX8_doubles_17 rfl rfl (Nat.le_of_ble_eq_true rfl) ⟨Nat.le_of_ble_eq_true rfl, Nat.le_of_ble_eq_true rfl⟩ rfl rfl rfl (by decide) (fun _ => rfl) (fun _ => rfl) (fun _ => rfl) (fun _ => rfl) rfl rfl rfl (fun r3 _ hw => ?_)
      refine g_iconst (v := 2) X rfl dX8_doubles_20 ?_
      refine g_icmp_ne X 28 dX8_doubles_21 (by decide) (fun c5 => ?_) (fun c5 => ?_)
      · replace hw := hw.1 c5
        refine g_iconst (v := 0) X rfl dX8_doubles_28 ?_
        refine g_iadd X dX8_doubles_29 ?_
        refine g_topi (fun q6 hq6 => ?_)
        replace hw := hw q6 hq6
        refine g_istore_n X [(1, .int q6), (0, .ref (a 0)), (2, .int x2)] dX8_doubles_30 rfl (by decide) rfl ?_
        refine g_iinc X [(2, .int (x2 + 1)), (1, .int q6), (0, .ref (a 0))] 2 dX8_doubles_31 rfl rfl (by decide) rfl ?_
        refine g_goto X 4 dX8_doubles_34 (by decide) ?_
        refine g_sub [(0, .ref (a 0)), (1, .int q6), (2, .int (x2 + 1))] [2, 1, 0] rfl ?_
        exact ih _ _ hw
      · replace hw := hw.2 c5
        refine g_iconst (v := 1) X rfl dX8_doubles_24 ?_
        refine g_goto X 29 dX8_doubles_25 (by decide) ?_
        refine g_iadd X dX8_doubles_29 ?_
        refine g_topi (fun q7 hq7 => ?_)
        replace hw := hw q7 hq7
        refine g_istore_n X [(1, .int q7), (0, .ref (a 0)), (2, .int x2)] dX8_doubles_30 rfl (by decide) rfl ?_
        refine g_iinc X [(2, .int (x2 + 1)), (1, .int q7), (0, .ref (a 0))] 2 dX8_doubles_31 rfl rfl (by decide) rfl ?_
        refine g_goto X 4 dX8_doubles_34 (by decide) ?_
        refine g_sub [(0, .ref (a 0)), (1, .int q7), (2, .int (x2 + 1))] [2, 1, 0] rfl ?_
        exact ih _ _ hw

set_option maxHeartbeats 4000000 in
set_option maxRecDepth 20000 in
theorem kX8_doubles (l : Launch) (D : va_G) (ct : Nat → ClassId) (a : Nat → Nat) (w : Mem) (hs : Int64) (post : Int32 → Prop) (hw : PX8_doubles w hs post) : Ci (S := Unit) l yX8_doubles wsX8_doubles rmX8_doubles D (tyz ct) [.ref (a 0)] (wM ct a w hs) (fun r (_ : Unit) => post r) (fun _ => wM ct a w hs) 0 0 := by
  intro sz
  refine g_of (own := RX8) (by decide) rfl rfl (Nat.le_of_ble_eq_true rfl) [(0, .ref (a 0))] rfl (fun p e s m args below meth c hsz X => ?_)
  subst hsz
  unfold PX8_doubles at hw
  refine g_iconst (v := 0) X rfl dX8_doubles_0 ?_
  refine g_istore_n X [(1, .int 0), (0, .ref (a 0))] dX8_doubles_1 rfl (by decide) rfl ?_
  refine g_iconst (v := 0) X rfl dX8_doubles_2 ?_
  refine g_istore_n X [(2, .int 0), (1, .int 0), (0, .ref (a 0))] dX8_doubles_3 rfl (by decide) rfl ?_
  refine g_sub [(0, .ref (a 0)), (1, .int 0), (2, .int 0)] [2, 1, 0] rfl ?_
  obtain ⟨n8, hw⟩ := hw
  exact kX8_doubles_4 l D ct a w hs post X n8 _ _ hw

abbrev rmX8_akin : Room := { frames := 4, cells := 0, slots := 0, locals := 89 }

abbrev GX8_akin (l : Launch) (D : va_G) (ct : Nat → ClassId) (a : Nat → Nat) (w : Mem) (hs : Int64) (post : Int32 → Prop) (p : Program) (e : Env) (s : State) (m : MethodId) (args : Array Value) (below : List Frame) (meth : Method) (c : Code) (A : Nat → Prop) (w9 : va_W) (lv : List (Nat × Value)) (pc : Nat) (st : List Value) : Prop :=
  GG p l e rmX8_akin s m args below meth c D A s.heap 3 (MQ below (va_Qi (fun r (_ : Unit) => post r) (fun u9 t9 => Af D (tyz ct) A ((fun _ => wM ct a w hs) u9) t9) A)  args s 0 0 A) w9 0 0 lv pc st

set_option maxHeartbeats 4000000 in
set_option maxRecDepth 20000 in
theorem kX8_akin_4 (l : Launch) (D : va_G) (ct : Nat → ClassId) (a : Nat → Nat) (w : Mem) (hs : Int64) (post : Int32 → Prop) {p : Program} {e : Env} {s : State} {m : MethodId} {args : Array Value} {below : List Frame} {meth : Method} {c : Code} {A : Nat → Prop} (X : Cx p s m args meth c cX8_akin 3 RX8 wsX8_akin D (tyz ct) A s.heap (some .int))  :
    ∀ (n : Nat) (x1 : Int32) (x2 : Int32), PX8_akin_4 w hs post n x1 x2 → GX8_akin l D ct a w hs post p e s m args below meth c A (wM ct a w hs) [(0, .ref (a 0)), (1, .int x1), (2, .int x2)] 4 [] := by
  intro n
  induction n with
  | zero =>
    intro x1 x2 hw
    exact hw.elim
  | succ n ih =>
    intro x1 x2 hw
    unfold PX8_akin_4 at hw
    refine g_iload_n X 2 dX8_akin_4 rfl rfl ?_
    refine g_aload_n X 0 dX8_akin_5 rfl rfl ?_
    refine g_get (T := TX8) (C := RX8) (N := 21) (v := .ref (a 1)) X 0 0 (fun _ h => (List.mem_cons_of_mem _ (List.mem_append_right _ h))) (List.mem_of_getElem? (i := 1) rfl) dX8_akin_6 rfl rfl (by decide) rfl rfl ?_
    refine g_iconst (v := 1) X rfl dX8_akin_9 ?_
    obtain ⟨h1, hw⟩ := hw
    refine g_iald X 1 0 dX8_akin_10 rfl rfl h1 ?_
    refine g_icmp_ge X 36 dX8_akin_11 (by decide) (fun c2 => ?_) (fun c2 => ?_)
    · replace hw := hw.1 c2
      refine g_iload_n X 1 dX8_akin_36 rfl rfl ?_
      exact g_iret X () hw rfl (Nat.le_of_ble_eq_true rfl) (Nat.le_of_ble_eq_true rfl) dX8_akin_37
    · replace hw := hw.2 c2
      refine g_iload_n X 1 dX8_akin_14 rfl rfl ?_
      refine g_aload_n X 0 dX8_akin_15 rfl rfl ?_
      refine g_iload_n X 2 dX8_akin_16 rfl rfl ?_
      refine g_ciV X [wM ct a w hs] (fun (_ : Unit) => [wM ct a w hs]) (fun _ => wM ct a w hs) 1 [0] [] 0 (kX8_common l D ct a w hs x2 _ hw) (cwV 1 X.1.2.2.2.2 gX8_akin_X8_common rfl rfl rfl (by decide +kernel) ⟨Nat.le_of_ble_eq_true rfl, Nat.le_of_ble_eq_true rfl⟩) dX8_akin_17 rfl rfl (Nat.le_of_ble_eq_true rfl) ⟨Nat.le_of_ble_eq_true rfl, Nat.le_of_ble_eq_true rfl⟩ rfl rfl rfl (by decide) (fun _ => rfl) (fun _ => rfl) (fun _ => rfl) (fun _ => rfl) rfl rfl rfl (fun r3 _ hw => ?_)
      refine g_if_le X 27 dX8_akin_20 (by decide) (fun c5 => ?_) (fun c5 => ?_)
      · replace hw := hw.1 c5
        refine g_iconst (v := 0) X rfl dX8_akin_27 ?_
        refine g_iadd X dX8_akin_28 ?_
        refine g_topi (fun q6 hq6 => ?_)
        replace hw := hw q6 hq6
        refine g_istore_n X [(1, .int q6), (0, .ref (a 0)), (2, .int x2)] dX8_akin_29 rfl (by decide) rfl ?_
        refine g_iinc X [(2, .int (x2 + 1)), (1, .int q6), (0, .ref (a 0))] 2 dX8_akin_30 rfl rfl (by decide) rfl ?_
        refine g_goto X 4 dX8_akin_33 (by decide) ?_
        refine g_sub [(0, .ref (a 0)), (1, .int q6), (2, .int (x2 + 1))] [2, 1, 0] rfl ?_
        exact ih _ _ hw
      · replace hw := hw.2 c5
        refine g_iconst (v := 1) X rfl dX8_akin_23 ?_
        refine g_goto X 28 dX8_akin_24 (by decide) ?_
        refine g_iadd X dX8_akin_28 ?_
        refine g_topi (fun q7 hq7 => ?_)
        replace hw := hw q7 hq7
        refine g_istore_n X [(1, .int q7), (0, .ref (a 0)), (2, .int x2)] dX8_akin_29 rfl (by decide) rfl ?_
        refine g_iinc X [(2, .int (x2 + 1)), (1, .int q7), (0, .ref (a 0))] 2 dX8_akin_30 rfl rfl (by decide) rfl ?_
        refine g_goto X 4 dX8_akin_33 (by decide) ?_
        refine g_sub [(0, .ref (a 0)), (1, .int q7), (2, .int (x2 + 1))] [2, 1, 0] rfl ?_
        exact ih _ _ hw

set_option maxHeartbeats 4000000 in
set_option maxRecDepth 20000 in
theorem kX8_akin (l : Launch) (D : va_G) (ct : Nat → ClassId) (a : Nat → Nat) (w : Mem) (hs : Int64) (post : Int32 → Prop) (hw : PX8_akin w hs post) : Ci (S := Unit) l yX8_akin wsX8_akin rmX8_akin D (tyz ct) [.ref (a 0)] (wM ct a w hs) (fun r (_ : Unit) => post r) (fun _ => wM ct a w hs) 0 0 := by
  intro sz
  refine g_of (own := RX8) (by decide) rfl rfl (Nat.le_of_ble_eq_true rfl) [(0, .ref (a 0))] rfl (fun p e s m args below meth c hsz X => ?_)
  subst hsz
  unfold PX8_akin at hw
  refine g_iconst (v := 0) X rfl dX8_akin_0 ?_
  refine g_istore_n X [(1, .int 0), (0, .ref (a 0))] dX8_akin_1 rfl (by decide) rfl ?_
  refine g_iconst (v := 0) X rfl dX8_akin_2 ?_
  refine g_istore_n X [(2, .int 0), (1, .int 0), (0, .ref (a 0))] dX8_akin_3 rfl (by decide) rfl ?_
  refine g_sub [(0, .ref (a 0)), (1, .int 0), (2, .int 0)] [2, 1, 0] rfl ?_
  obtain ⟨n8, hw⟩ := hw
  exact kX8_akin_4 l D ct a w hs post X n8 _ _ hw

abbrev rmX8_count0 : Room := { frames := 6, cells := 0, slots := 0, locals := 133 }

abbrev GX8_count0 (l : Launch) (D : va_G) (ct : Nat → ClassId) (a : Nat → Nat) (hs : Int64) (post : Int32 → Mem → Prop) (p : Program) (e : Env) (s : State) (m : MethodId) (args : Array Value) (below : List Frame) (meth : Method) (c : Code) (A : Nat → Prop) (w9 : va_W) (lv : List (Nat × Value)) (pc : Nat) (st : List Value) : Prop :=
  GG p l e rmX8_count0 s m args below meth c D A s.heap 2 (MQ below (va_Qi (fun r (u9 : Mem) => post r u9) (fun u9 t9 => Af D (tyz ct) A ((fun u9 => wM ct a u9 hs) u9) t9) A)  args s 0 0 A) w9 0 0 lv pc st

set_option maxHeartbeats 4000000 in
set_option maxRecDepth 20000 in
theorem kX8_count0 (l : Launch) (D : va_G) (ct : Nat → ClassId) (a : Nat → Nat) (w : Mem) (hs : Int64) (p1 : Int32) (post : Int32 → Mem → Prop) (hw : PX8_count0 w hs p1 post) : Ci (S := Mem) l yX8_count0 wsX8_count0 rmX8_count0 D (tyz ct) [.ref (a 0), .int p1] (wM ct a w hs) (fun r (u9 : Mem) => post r u9) (fun u9 => wM ct a u9 hs) 0 0 := by
  intro sz
  refine g_of (own := RX8) (by decide) rfl rfl (Nat.le_of_ble_eq_true rfl) [(0, .ref (a 0)), (1, .int p1)] rfl (fun p e s m args below meth c hsz X => ?_)
  subst hsz
  unfold PX8_count0 at hw
  refine g_iload_n X 1 dX8_count0_0 rfl rfl ?_
  by_cases c1 : p1 = 0
  · replace hw := hw.1 c1
    refine g_tableIn X 48 dX8_count0_1 (by rw [c1]; decide) (by rw [c1]; decide) (by rw [c1]; rfl) (by decide) ?_
    refine g_aload_n X 0 dX8_count0_48 rfl rfl ?_
    refine g_get (T := TX8) (C := RX8) (N := 21) (v := .ref (a 1)) X 0 0 (fun _ h => (List.mem_cons_of_mem _ (List.mem_append_right _ h))) (List.mem_of_getElem? (i := 1) rfl) dX8_count0_49 rfl rfl (by decide) rfl rfl ?_
    refine g_iconst (v := 0) X rfl dX8_count0_52 ?_
    obtain ⟨h2, hw⟩ := hw
    refine g_iald X 1 0 dX8_count0_53 rfl rfl h2 ?_
    exact g_iret X w hw rfl (Nat.le_of_ble_eq_true rfl) (Nat.le_of_ble_eq_true rfl) dX8_count0_54
  · replace hw := hw.2 c1
    by_cases c3 : p1 = 1
    · replace hw := hw.1 c3
      refine g_tableIn X 55 dX8_count0_1 (by rw [c3]; decide) (by rw [c3]; decide) (by rw [c3]; rfl) (by decide) ?_
      refine g_aload_n X 0 dX8_count0_55 rfl rfl ?_
      refine g_get (T := TX8) (C := RX8) (N := 21) (v := .ref (a 1)) X 0 0 (fun _ h => (List.mem_cons_of_mem _ (List.mem_append_right _ h))) (List.mem_of_getElem? (i := 1) rfl) dX8_count0_56 rfl rfl (by decide) rfl rfl ?_
      refine g_iconst (v := 1) X rfl dX8_count0_59 ?_
      obtain ⟨h4, hw⟩ := hw
      refine g_iald X 1 0 dX8_count0_60 rfl rfl h4 ?_
      exact g_iret X w hw rfl (Nat.le_of_ble_eq_true rfl) (Nat.le_of_ble_eq_true rfl) dX8_count0_61
    · replace hw := hw.2 c3
      by_cases c5 : p1 = 2
      · replace hw := hw.1 c5
        refine g_tableIn X 62 dX8_count0_1 (by rw [c5]; decide) (by rw [c5]; decide) (by rw [c5]; rfl) (by decide) ?_
        refine g_aload_n X 0 dX8_count0_62 rfl rfl ?_
        refine g_ciV X [wM ct a w hs] (fun (_ : Unit) => [wM ct a w hs]) (fun _ => wM ct a w hs) 1 [0] [] 0 (kX8_allLines l D ct a w hs _ hw) (cwV 0 X.1.2.2.2.2 gX8_count0_X8_allLines rfl rfl rfl (by decide +kernel) ⟨Nat.le_of_ble_eq_true rfl, Nat.le_of_ble_eq_true rfl⟩) dX8_count0_63 rfl rfl (Nat.le_of_ble_eq_true rfl) ⟨Nat.le_of_ble_eq_true rfl, Nat.le_of_ble_eq_true rfl⟩ rfl rfl rfl (by decide) (fun _ => rfl) (fun _ => rfl) (fun _ => rfl) (fun _ => rfl) rfl rfl rfl (fun r6 _ hw => ?_)
        exact g_iret X w hw rfl (Nat.le_of_ble_eq_true rfl) (Nat.le_of_ble_eq_true rfl) dX8_count0_66
      · replace hw := hw.2 c5
        by_cases c8 : p1 = 3
        · replace hw := hw.1 c8
          refine g_tableIn X 67 dX8_count0_1 (by rw [c8]; decide) (by rw [c8]; decide) (by rw [c8]; rfl) (by decide) ?_
          refine g_aload_n X 0 dX8_count0_67 rfl rfl ?_
          refine g_ciV X [wM ct a w hs] (fun (u10 : Mem) => [wM ct a u10 hs]) (fun (u10 : Mem) => wM ct a u10 hs) 1 [0] [] 0 (kX8_allCrossings l D ct a w hs _ hw) (cwV 0 X.1.2.2.2.2 gX8_count0_X8_allCrossings rfl rfl rfl (by decide +kernel) ⟨Nat.le_of_ble_eq_true rfl, Nat.le_of_ble_eq_true rfl⟩) dX8_count0_68 rfl rfl (Nat.le_of_ble_eq_true rfl) ⟨Nat.le_of_ble_eq_true rfl, Nat.le_of_ble_eq_true rfl⟩ rfl rfl rfl (by decide) (fun _ => rfl) (fun _ => rfl) (fun _ => rfl) (fun _ => rfl) rfl rfl rfl (fun r9 u10 hw => ?_)
          obtain ⟨w11, hw11⟩ : ∃ z : Mem, z = u10 := ⟨_, rfl⟩
          rw [← hw11] at hw
          rw [← hw11]
          exact g_iret X w11 hw rfl (Nat.le_of_ble_eq_true rfl) (Nat.le_of_ble_eq_true rfl) dX8_count0_71
        · replace hw := hw.2 c8
          by_cases c12 : p1 = 4
          · replace hw := hw.1 c12
            refine g_tableIn X 72 dX8_count0_1 (by rw [c12]; decide) (by rw [c12]; decide) (by rw [c12]; rfl) (by decide) ?_
            refine g_aload_n X 0 dX8_count0_72 rfl rfl ?_
            refine g_ciV X [wM ct a w hs] (fun (u14 : Mem) => [wM ct a u14 hs]) (fun (u14 : Mem) => wM ct a u14 hs) 1 [0] [] 0 (kX8_bent l D ct a w hs _ hw) (cwV 0 X.1.2.2.2.2 gX8_count0_X8_bent rfl rfl rfl (by decide +kernel) ⟨Nat.le_of_ble_eq_true rfl, Nat.le_of_ble_eq_true rfl⟩) dX8_count0_73 rfl rfl (Nat.le_of_ble_eq_true rfl) ⟨Nat.le_of_ble_eq_true rfl, Nat.le_of_ble_eq_true rfl⟩ rfl rfl rfl (by decide) (fun _ => rfl) (fun _ => rfl) (fun _ => rfl) (fun _ => rfl) rfl rfl rfl (fun r13 u14 hw => ?_)
            obtain ⟨w15, hw15⟩ : ∃ z : Mem, z = u14 := ⟨_, rfl⟩
            rw [← hw15] at hw
            rw [← hw15]
            exact g_iret X w15 hw rfl (Nat.le_of_ble_eq_true rfl) (Nat.le_of_ble_eq_true rfl) dX8_count0_76
          · replace hw := hw.2 c12
            by_cases c16 : p1 = 5
            · replace hw := hw.1 c16
              refine g_tableIn X 77 dX8_count0_1 (by rw [c16]; decide) (by rw [c16]; decide) (by rw [c16]; rfl) (by decide) ?_
              refine g_aload_n X 0 dX8_count0_77 rfl rfl ?_
              refine g_ciV X [wM ct a w hs] (fun (_ : Unit) => [wM ct a w hs]) (fun _ => wM ct a w hs) 1 [0] [] 0 (kX8_doubles l D ct a w hs _ hw) (cwV 0 X.1.2.2.2.2 gX8_count0_X8_doubles rfl rfl rfl (by decide +kernel) ⟨Nat.le_of_ble_eq_true rfl, Nat.le_of_ble_eq_true rfl⟩) dX8_count0_78 rfl rfl (Nat.le_of_ble_eq_true rfl) ⟨Nat.le_of_ble_eq_true rfl, Nat.le_of_ble_eq_true rfl⟩ rfl rfl rfl (by decide) (fun _ => rfl) (fun _ => rfl) (fun _ => rfl) (fun _ => rfl) rfl rfl rfl (fun r17 _ hw => ?_)
              exact g_iret X w hw rfl (Nat.le_of_ble_eq_true rfl) (Nat.le_of_ble_eq_true rfl) dX8_count0_81
            · replace hw := hw.2 c16
              by_cases c19 : p1 = 6
              · replace hw := hw.1 c19
                refine g_tableIn X 82 dX8_count0_1 (by rw [c19]; decide) (by rw [c19]; decide) (by rw [c19]; rfl) (by decide) ?_
                refine g_aload_n X 0 dX8_count0_82 rfl rfl ?_
                refine g_ciV X [wM ct a w hs] (fun (_ : Unit) => [wM ct a w hs]) (fun _ => wM ct a w hs) 1 [0] [] 0 (kX8_akin l D ct a w hs _ hw) (cwV 0 X.1.2.2.2.2 gX8_count0_X8_akin rfl rfl rfl (by decide +kernel) ⟨Nat.le_of_ble_eq_true rfl, Nat.le_of_ble_eq_true rfl⟩) dX8_count0_83 rfl rfl (Nat.le_of_ble_eq_true rfl) ⟨Nat.le_of_ble_eq_true rfl, Nat.le_of_ble_eq_true rfl⟩ rfl rfl rfl (by decide) (fun _ => rfl) (fun _ => rfl) (fun _ => rfl) (fun _ => rfl) rfl rfl rfl (fun r20 _ hw => ?_)
                exact g_iret X w hw rfl (Nat.le_of_ble_eq_true rfl) (Nat.le_of_ble_eq_true rfl) dX8_count0_86
              · replace hw := hw.2 c19
                by_cases c22 : p1 = 7
                · replace hw := hw.1 c22
                  refine g_tableIn X 87 dX8_count0_1 (by rw [c22]; decide) (by rw [c22]; decide) (by rw [c22]; rfl) (by decide) ?_
                  refine g_aload_n X 0 dX8_count0_87 rfl rfl ?_
                  refine g_get (T := TX8) (C := RX8) (N := 21) (v := .ref (a 1)) X 0 0 (fun _ h => (List.mem_cons_of_mem _ (List.mem_append_right _ h))) (List.mem_of_getElem? (i := 1) rfl) dX8_count0_88 rfl rfl (by decide) rfl rfl ?_
                  refine g_iconst (v := 2) X rfl dX8_count0_91 ?_
                  obtain ⟨h23, hw⟩ := hw
                  refine g_iald X 1 0 dX8_count0_92 rfl rfl h23 ?_
                  exact g_iret X w hw rfl (Nat.le_of_ble_eq_true rfl) (Nat.le_of_ble_eq_true rfl) dX8_count0_93
                · replace hw := hw.2 c22
                  refine g_tableOut X 94 dX8_count0_1 (by have tc1 := lv_neT c1 (show (0 : Int32).toInt = 0 from rfl); have tc3 := lv_neT c3 (show (1 : Int32).toInt = 1 from rfl); have tc5 := lv_neT c5 (show (2 : Int32).toInt = 2 from rfl); have tc8 := lv_neT c8 (show (3 : Int32).toInt = 3 from rfl); have tc12 := lv_neT c12 (show (4 : Int32).toInt = 4 from rfl); have tc16 := lv_neT c16 (show (5 : Int32).toInt = 5 from rfl); have tc19 := lv_neT c19 (show (6 : Int32).toInt = 6 from rfl); have tc22 := lv_neT c22 (show (7 : Int32).toInt = 7 from rfl); omega) (by decide) ?_
                  refine g_aload_n X 0 dX8_count0_94 rfl rfl ?_
                  refine g_get (T := TX8) (C := RX8) (N := 21) (v := .int (w 2 0)) X 0 2 (fun _ h => (List.mem_cons_of_mem _ (List.mem_append_right _ h))) (List.mem_of_getElem? (i := 2) rfl) dX8_count0_95 rfl rfl (by decide) rfl rfl ?_
                  exact g_iret X w hw rfl (Nat.le_of_ble_eq_true rfl) (Nat.le_of_ble_eq_true rfl) dX8_count0_98

abbrev rmX8_count : Room := { frames := 7, cells := 0, slots := 0, locals := 154 }

abbrev GX8_count (l : Launch) (D : va_G) (ct : Nat → ClassId) (a : Nat → Nat) (hs : Int64) (post : Int32 → Mem → Prop) (p : Program) (e : Env) (s : State) (m : MethodId) (args : Array Value) (below : List Frame) (meth : Method) (c : Code) (A : Nat → Prop) (w9 : va_W) (lv : List (Nat × Value)) (pc : Nat) (st : List Value) : Prop :=
  GG p l e rmX8_count s m args below meth c D A s.heap 2 (MQ below (va_Qi (fun r (u9 : Mem) => post r u9) (fun u9 t9 => Af D (tyz ct) A ((fun u9 => wM ct a u9 hs) u9) t9) A)  args s 0 0 A) w9 0 0 lv pc st

set_option maxHeartbeats 4000000 in
set_option maxRecDepth 20000 in
theorem kX8_count (l : Launch) (D : va_G) (ct : Nat → ClassId) (a : Nat → Nat) (w : Mem) (hs : Int64) (p1 : Int32) (post : Int32 → Mem → Prop) (hw : PX8_count w hs p1 post) : Ci (S := Mem) l yX8_count wsX8_count rmX8_count D (tyz ct) [.ref (a 0), .int p1] (wM ct a w hs) (fun r (u9 : Mem) => post r u9) (fun u9 => wM ct a u9 hs) 0 0 := by
  intro sz
  refine g_of (own := RX8) (by decide) rfl rfl (Nat.le_of_ble_eq_true rfl) [(0, .ref (a 0)), (1, .int p1)] rfl (fun p e s m args below meth c hsz X => ?_)
  subst hsz
  unfold PX8_count at hw
  refine g_aload_n X 0 dX8_count_0 rfl rfl ?_
  refine g_iconst (v := 0) X rfl dX8_count_1 ?_
  refine g_put (T := TX8) (C := RX8) (N := 21) X (fun z => wM ct a z hs) w 0 5 tyX8 tyX8_ok nmX8 (fun _ h => (List.mem_cons_of_mem _ (List.mem_append_right _ h))) (List.mem_of_getElem? (i := 1) rfl) dX8_count_2 rfl rfl (by decide) rfl rfl (by decide +kernel) (Nat.le_of_ble_eq_true rfl) rfl (fun w1 hw1 => ?_)
  replace hw := hw w1 hw1
  refine g_iload_n X 1 dX8_count_5 rfl rfl ?_
  refine g_iconst (v := 0) X rfl dX8_count_6 ?_
  refine g_bipush (v := 8) X rfl dX8_count_7 ?_
  refine g_ciS X [wM ct a w1 hs] (fun (_ : Unit) => [wM ct a w1 hs]) (fun _ => wM ct a w1 hs) 1 [] [0] (kX8_in l D ct  p1 0 8 _ hw) (va_cwS 3 X.1.2.2.2.2 gX8_count_X8_in rfl rfl rfl (by decide +kernel) ⟨Nat.le_of_ble_eq_true rfl, Nat.le_of_ble_eq_true rfl⟩) dX8_count_9 rfl rfl (Nat.le_of_ble_eq_true rfl) ⟨Nat.le_of_ble_eq_true rfl, Nat.le_of_ble_eq_true rfl⟩ rfl rfl rfl (by decide) (fun _ => rfl) (fun _ => rfl) (fun _ => rfl) (fun _ => rfl) (fun r2 _ hw => ?_)
  refine g_if_eq X 23 dX8_count_12 (by decide) (fun c4 => ?_) (fun c4 => ?_)
  · replace hw := hw.1 c4
    refine g_aload_n X 0 dX8_count_23 rfl rfl ?_
    refine g_iconst (v := 1) X rfl dX8_count_24 ?_
    refine g_ciV X [wM ct a w1 hs] (fun (u6 : Mem) => [wM ct a u6 hs]) (fun (u6 : Mem) => wM ct a u6 hs) 1 [0] [] 0 (kX8_fails l D ct a w1 hs 1 _ hw) (cwV 1 X.1.2.2.2.2 gX8_count_X8_fails rfl rfl rfl (by decide +kernel) ⟨Nat.le_of_ble_eq_true rfl, Nat.le_of_ble_eq_true rfl⟩) dX8_count_25 rfl rfl (Nat.le_of_ble_eq_true rfl) ⟨Nat.le_of_ble_eq_true rfl, Nat.le_of_ble_eq_true rfl⟩ rfl rfl rfl (by decide) (fun _ => rfl) (fun _ => rfl) (fun _ => rfl) (fun _ => rfl) rfl rfl rfl (fun r5 u6 hw => ?_)
    obtain ⟨w7, hw7⟩ : ∃ z : Mem, z = u6 := ⟨_, rfl⟩
    rw [← hw7] at hw
    rw [← hw7]
    exact g_iret X w7 hw rfl (Nat.le_of_ble_eq_true rfl) (Nat.le_of_ble_eq_true rfl) dX8_count_28
  · replace hw := hw.2 c4
    refine g_aload_n X 0 dX8_count_15 rfl rfl ?_
    refine g_iload_n X 1 dX8_count_16 rfl rfl ?_
    refine g_ciV X [wM ct a w1 hs] (fun (u9 : Mem) => [wM ct a u9 hs]) (fun (u9 : Mem) => wM ct a u9 hs) 1 [0] [] 0 (kX8_count0 l D ct a w1 hs p1 _ hw) (cwV 1 X.1.2.2.2.2 gX8_count_X8_count0 rfl rfl rfl (by decide +kernel) ⟨Nat.le_of_ble_eq_true rfl, Nat.le_of_ble_eq_true rfl⟩) dX8_count_17 rfl rfl (Nat.le_of_ble_eq_true rfl) ⟨Nat.le_of_ble_eq_true rfl, Nat.le_of_ble_eq_true rfl⟩ rfl rfl rfl (by decide) (fun _ => rfl) (fun _ => rfl) (fun _ => rfl) (fun _ => rfl) rfl rfl rfl (fun r8 u9 hw => ?_)
    obtain ⟨w10, hw10⟩ : ∃ z : Mem, z = u9 := ⟨_, rfl⟩
    rw [← hw10] at hw
    rw [← hw10]
    refine g_goto X 28 dX8_count_20 (by decide) ?_
    exact g_iret X w10 hw rfl (Nat.le_of_ble_eq_true rfl) (Nat.le_of_ble_eq_true rfl) dX8_count_28

abbrev rmX8_least : Room := { frames := 7, cells := 0, slots := 0, locals := 159 }

abbrev GX8_least (l : Launch) (D : va_G) (ct : Nat → ClassId) (a : Nat → Nat) (hs : Int64) (post : Int32 → Mem → Prop) (p : Program) (e : Env) (s : State) (m : MethodId) (args : Array Value) (below : List Frame) (meth : Method) (c : Code) (A : Nat → Prop) (w9 : va_W) (lv : List (Nat × Value)) (pc : Nat) (st : List Value) : Prop :=
  GG p l e rmX8_least s m args below meth c D A s.heap 3 (MQ below (va_Qi (fun r (u9 : Mem) => post r u9) (fun u9 t9 => Af D (tyz ct) A ((fun u9 => wM ct a u9 hs) u9) t9) A)  args s 0 0 A) w9 0 0 lv pc st

set_option maxHeartbeats 4000000 in
set_option maxRecDepth 20000 in
theorem kX8_least (l : Launch) (D : va_G) (ct : Nat → ClassId) (a : Nat → Nat) (w : Mem) (hs : Int64) (p1 : Int32) (p2 : Int32) (post : Int32 → Mem → Prop) (hw : PX8_least w hs p1 p2 post) : Ci (S := Mem) l yX8_least wsX8_least rmX8_least D (tyz ct) [.ref (a 0), .int p1, .int p2] (wM ct a w hs) (fun r (u9 : Mem) => post r u9) (fun u9 => wM ct a u9 hs) 0 0 := by
  intro sz
  refine g_of (own := RX8) (by decide) rfl rfl (Nat.le_of_ble_eq_true rfl) [(0, .ref (a 0)), (1, .int p1), (2, .int p2)] rfl (fun p e s m args below meth c hsz X => ?_)
  subst hsz
  unfold PX8_least at hw
  refine g_aload_n X 0 dX8_least_0 rfl rfl ?_
  refine g_iconst (v := 0) X rfl dX8_least_1 ?_
  refine g_put (T := TX8) (C := RX8) (N := 21) X (fun z => wM ct a z hs) w 0 5 tyX8 tyX8_ok nmX8 (fun _ h => (List.mem_cons_of_mem _ (List.mem_append_right _ h))) (List.mem_of_getElem? (i := 1) rfl) dX8_least_2 rfl rfl (by decide) rfl rfl (by decide +kernel) (Nat.le_of_ble_eq_true rfl) rfl (fun w1 hw1 => ?_)
  replace hw := hw w1 hw1
  refine g_iload_n X 1 dX8_least_5 rfl rfl ?_
  refine g_ciS X [wM ct a w1 hs] (fun (_ : Unit) => [wM ct a w1 hs]) (fun _ => wM ct a w1 hs) 1 [] [0] (kX8_isRow l D ct  p1 _ hw) (va_cwS 1 X.1.2.2.2.2 gX8_least_X8_isRow rfl rfl rfl (by decide +kernel) ⟨Nat.le_of_ble_eq_true rfl, Nat.le_of_ble_eq_true rfl⟩) dX8_least_6 rfl rfl (Nat.le_of_ble_eq_true rfl) ⟨Nat.le_of_ble_eq_true rfl, Nat.le_of_ble_eq_true rfl⟩ rfl rfl rfl (by decide) (fun _ => rfl) (fun _ => rfl) (fun _ => rfl) (fun _ => rfl) (fun r2 _ hw => ?_)
  refine g_if_ne X 18 dX8_least_9 (by decide) (fun c4 => ?_) (fun c4 => ?_)
  · replace hw := hw.1 c4
    refine g_iload_n X 2 dX8_least_18 rfl rfl ?_
    refine g_iconst (v := 0) X rfl dX8_least_19 ?_
    refine g_iconst (v := 1) X rfl dX8_least_20 ?_
    refine g_ciS X [wM ct a w1 hs] (fun (_ : Unit) => [wM ct a w1 hs]) (fun _ => wM ct a w1 hs) 1 [] [0] (kX8_in l D ct  p2 0 1 _ hw) (va_cwS 3 X.1.2.2.2.2 gX8_least_X8_in rfl rfl rfl (by decide +kernel) ⟨Nat.le_of_ble_eq_true rfl, Nat.le_of_ble_eq_true rfl⟩) dX8_least_21 rfl rfl (Nat.le_of_ble_eq_true rfl) ⟨Nat.le_of_ble_eq_true rfl, Nat.le_of_ble_eq_true rfl⟩ rfl rfl rfl (by decide) (fun _ => rfl) (fun _ => rfl) (fun _ => rfl) (fun _ => rfl) (fun r5 _ hw => ?_)
    refine g_if_eq X 35 dX8_least_24 (by decide) (fun c7 => ?_) (fun c7 => ?_)
    · replace hw := hw.1 c7
      refine g_aload_n X 0 dX8_least_35 rfl rfl ?_
      refine g_iconst (v := 2) X rfl dX8_least_36 ?_
      refine g_ciV X [wM ct a w1 hs] (fun (u9 : Mem) => [wM ct a u9 hs]) (fun (u9 : Mem) => wM ct a u9 hs) 1 [0] [] 0 (kX8_fails l D ct a w1 hs 2 _ hw) (cwV 1 X.1.2.2.2.2 gX8_least_X8_fails rfl rfl rfl (by decide +kernel) ⟨Nat.le_of_ble_eq_true rfl, Nat.le_of_ble_eq_true rfl⟩) dX8_least_37 rfl rfl (Nat.le_of_ble_eq_true rfl) ⟨Nat.le_of_ble_eq_true rfl, Nat.le_of_ble_eq_true rfl⟩ rfl rfl rfl (by decide) (fun _ => rfl) (fun _ => rfl) (fun _ => rfl) (fun _ => rfl) rfl rfl rfl (fun r8 u9 hw => ?_)
      obtain ⟨w10, hw10⟩ : ∃ z : Mem, z = u9 := ⟨_, rfl⟩
      rw [← hw10] at hw
      rw [← hw10]
      exact g_iret X w10 hw rfl (Nat.le_of_ble_eq_true rfl) (Nat.le_of_ble_eq_true rfl) dX8_least_40
    · replace hw := hw.2 c7
      refine g_aload_n X 0 dX8_least_27 rfl rfl ?_
      refine g_iload_n X 1 dX8_least_28 rfl rfl ?_
      refine g_ciV X [wM ct a w1 hs] (fun (u12 : Mem) => [wM ct a u12 hs]) (fun (u12 : Mem) => wM ct a u12 hs) 1 [0] [] 0 (kX8_leastOf l D ct a w1 hs p1 _ hw) (cwV 1 X.1.2.2.2.2 gX8_least_X8_leastOf rfl rfl rfl (by decide +kernel) ⟨Nat.le_of_ble_eq_true rfl, Nat.le_of_ble_eq_true rfl⟩) dX8_least_29 rfl rfl (Nat.le_of_ble_eq_true rfl) ⟨Nat.le_of_ble_eq_true rfl, Nat.le_of_ble_eq_true rfl⟩ rfl rfl rfl (by decide) (fun _ => rfl) (fun _ => rfl) (fun _ => rfl) (fun _ => rfl) rfl rfl rfl (fun r11 u12 hw => ?_)
      obtain ⟨w13, hw13⟩ : ∃ z : Mem, z = u12 := ⟨_, rfl⟩
      rw [← hw13] at hw
      rw [← hw13]
      refine g_goto X 40 dX8_least_32 (by decide) ?_
      exact g_iret X w13 hw rfl (Nat.le_of_ble_eq_true rfl) (Nat.le_of_ble_eq_true rfl) dX8_least_40
  · replace hw := hw.2 c4
    refine g_aload_n X 0 dX8_least_12 rfl rfl ?_
    refine g_iconst (v := 1) X rfl dX8_least_13 ?_
    refine g_ciV X [wM ct a w1 hs] (fun (u15 : Mem) => [wM ct a u15 hs]) (fun (u15 : Mem) => wM ct a u15 hs) 1 [0] [] 0 (kX8_fails l D ct a w1 hs 1 _ hw) (cwV 1 X.1.2.2.2.2 gX8_least_X8_fails rfl rfl rfl (by decide +kernel) ⟨Nat.le_of_ble_eq_true rfl, Nat.le_of_ble_eq_true rfl⟩) dX8_least_14 rfl rfl (Nat.le_of_ble_eq_true rfl) ⟨Nat.le_of_ble_eq_true rfl, Nat.le_of_ble_eq_true rfl⟩ rfl rfl rfl (by decide) (fun _ => rfl) (fun _ => rfl) (fun _ => rfl) (fun _ => rfl) rfl rfl rfl (fun r14 u15 hw => ?_)
    obtain ⟨w16, hw16⟩ : ∃ z : Mem, z = u15 := ⟨_, rfl⟩
    rw [← hw16] at hw
    rw [← hw16]
    exact g_iret X w16 hw rfl (Nat.le_of_ble_eq_true rfl) (Nat.le_of_ble_eq_true rfl) dX8_least_17

abbrev rmX8_bestOfAll : Room := { frames := 6, cells := 0, slots := 0, locals := 133 }

abbrev GX8_bestOfAll (l : Launch) (D : va_G) (ct : Nat → ClassId) (a : Nat → Nat) (hs : Int64) (post : Int32 → Mem → Prop) (p : Program) (e : Env) (s : State) (m : MethodId) (args : Array Value) (below : List Frame) (meth : Method) (c : Code) (A : Nat → Prop) (w9 : va_W) (lv : List (Nat × Value)) (pc : Nat) (st : List Value) : Prop :=
  GG p l e rmX8_bestOfAll s m args below meth c D A s.heap 6 (MQ below (va_Qi (fun r (u9 : Mem) => post r u9) (fun u9 t9 => Af D (tyz ct) A ((fun u9 => wM ct a u9 hs) u9) t9) A)  args s 0 0 A) w9 0 0 lv pc st

set_option maxHeartbeats 4000000 in
set_option maxRecDepth 20000 in
theorem kX8_bestOfAll_78 (l : Launch) (D : va_G) (ct : Nat → ClassId) (a : Nat → Nat) (hs : Int64) (post : Int32 → Mem → Prop) (K9 : Mem → Int32 → Int32 → Int32 → Prop) (K17 : Mem → Int32 → Int32 → Int32 → Int32 → Prop) {p : Program} {e : Env} {s : State} {m : MethodId} {args : Array Value} {below : List Frame} {meth : Method} {c : Code} {A : Nat → Prop} (X : Cx p s m args meth c cX8_bestOfAll 6 RX8 wsX8_bestOfAll D (tyz ct) A s.heap (some .int)) (hK9 : ∀ (w : Mem) (x1 : Int32) (x2 : Int32) (x3 : Int32), K9 w x1 x2 x3 → GX8_bestOfAll l D ct a hs post p e s m args below meth c A (wM ct a w hs) [(0, .ref (a 0)), (1, .int x1), (2, .int x2), (3, .int x3)] 9 []) (hK17 : ∀ (w : Mem) (x1 : Int32) (x2 : Int32) (x3 : Int32) (x4 : Int32), K17 w x1 x2 x3 x4 → GX8_bestOfAll l D ct a hs post p e s m args below meth c A (wM ct a w hs) [(0, .ref (a 0)), (1, .int x1), (2, .int x2), (3, .int x3), (4, .int x4)] 17 []) :
    ∀ (w : Mem) (x1 : Int32) (x3 : Int32) (x4 : Int32) (x5 : Int32) (z0 : Int32), PX8_bestOfAll_78 hs post K9 K17 w x1 x3 x4 x5 z0 → GX8_bestOfAll l D ct a hs post p e s m args below meth c A (wM ct a w hs) [(0, .ref (a 0)), (1, .int x1), (3, .int x3), (4, .int x4), (5, .int x5)] 78 [.int z0] := by
  intro w x1 x3 x4 x5 z0 hw
  unfold PX8_bestOfAll_78 at hw
  refine g_istore_n X [(2, .int z0), (0, .ref (a 0)), (1, .int x1), (3, .int x3), (4, .int x4), (5, .int x5)] dX8_bestOfAll_78 rfl (by decide) rfl ?_
  refine g_iload X 5 dX8_bestOfAll_79 rfl ?_
  refine g_iload_n X 2 dX8_bestOfAll_81 rfl rfl ?_
  refine g_icmp_ge X 90 dX8_bestOfAll_82 (by decide) (fun c15 => ?_) (fun c15 => ?_)
  · replace hw := hw.1 c15
    refine g_iload_n X 2 dX8_bestOfAll_90 rfl rfl ?_
    refine g_istore_n X [(1, .int x1), (2, .int z0), (0, .ref (a 0)), (3, .int x3), (4, .int x4), (5, .int x5)] dX8_bestOfAll_91 rfl (by decide) rfl ?_
    refine g_iinc X [(4, .int (x4 + 1)), (1, .int x1), (2, .int z0), (0, .ref (a 0)), (3, .int x3), (5, .int x5)] 4 dX8_bestOfAll_92 rfl rfl (by decide) rfl ?_
    refine g_goto X 17 dX8_bestOfAll_95 (by decide) ?_
    refine g_sub [(0, .ref (a 0)), (1, .int x1), (2, .int z0), (3, .int x3), (4, .int (x4 + 1))] [3, 1, 2, 4, 0] rfl ?_
    exact hK17 _ _ _ _ _ hw
  · replace hw := hw.2 c15
    refine g_iload X 5 dX8_bestOfAll_85 rfl ?_
    refine g_goto X 91 dX8_bestOfAll_87 (by decide) ?_
    refine g_istore_n X [(1, .int x5), (2, .int z0), (0, .ref (a 0)), (3, .int x3), (4, .int x4), (5, .int x5)] dX8_bestOfAll_91 rfl (by decide) rfl ?_
    refine g_iinc X [(4, .int (x4 + 1)), (1, .int x5), (2, .int z0), (0, .ref (a 0)), (3, .int x3), (5, .int x5)] 4 dX8_bestOfAll_92 rfl rfl (by decide) rfl ?_
    refine g_goto X 17 dX8_bestOfAll_95 (by decide) ?_
    refine g_sub [(0, .ref (a 0)), (1, .int x5), (2, .int z0), (3, .int x3), (4, .int (x4 + 1))] [3, 1, 2, 4, 0] rfl ?_
    exact hK17 _ _ _ _ _ hw

set_option maxHeartbeats 4000000 in
set_option maxRecDepth 20000 in
theorem kX8_bestOfAll_17 (l : Launch) (D : va_G) (ct : Nat → ClassId) (a : Nat → Nat) (hs : Int64) (post : Int32 → Mem → Prop) (K9 : Mem → Int32 → Int32 → Int32 → Prop) {p : Program} {e : Env} {s : State} {m : MethodId} {args : Array Value} {below : List Frame} {meth : Method} {c : Code} {A : Nat → Prop} (X : Cx p s m args meth c cX8_bestOfAll 6 RX8 wsX8_bestOfAll D (tyz ct) A s.heap (some .int)) (hK9 : ∀ (w : Mem) (x1 : Int32) (x2 : Int32) (x3 : Int32), K9 w x1 x2 x3 → GX8_bestOfAll l D ct a hs post p e s m args below meth c A (wM ct a w hs) [(0, .ref (a 0)), (1, .int x1), (2, .int x2), (3, .int x3)] 9 []) :
    ∀ (n : Nat) (w : Mem) (x1 : Int32) (x2 : Int32) (x3 : Int32) (x4 : Int32), PX8_bestOfAll_17 hs post K9 n w x1 x2 x3 x4 → GX8_bestOfAll l D ct a hs post p e s m args below meth c A (wM ct a w hs) [(0, .ref (a 0)), (1, .int x1), (2, .int x2), (3, .int x3), (4, .int x4)] 17 [] := by
  intro n
  induction n with
  | zero =>
    intro w x1 x2 x3 x4 hw
    exact hw.elim
  | succ n ih =>
    intro w x1 x2 x3 x4 hw
    unfold PX8_bestOfAll_17 at hw
    refine g_iload X 4 dX8_bestOfAll_17 rfl ?_
    refine g_aload_n X 0 dX8_bestOfAll_19 rfl rfl ?_
    refine g_get (T := TX8) (C := RX8) (N := 21) (v := .ref (a 1)) X 0 0 (fun _ h => (List.mem_cons_of_mem _ (List.mem_append_right _ h))) (List.mem_of_getElem? (i := 1) rfl) dX8_bestOfAll_20 rfl rfl (by decide) rfl rfl ?_
    refine g_bipush (v := 63) X rfl dX8_bestOfAll_23 ?_
    refine g_iload_n X 3 dX8_bestOfAll_25 rfl rfl ?_
    refine g_iadd X dX8_bestOfAll_26 ?_
    obtain ⟨h5, hw⟩ := hw
    refine g_iald X 1 0 dX8_bestOfAll_27 rfl rfl h5 ?_
    refine g_iconst (v := 1) X rfl dX8_bestOfAll_28 ?_
    refine g_isub X dX8_bestOfAll_29 ?_
    refine g_icmp_ge X 98 dX8_bestOfAll_30 (by decide) (fun c6 => ?_) (fun c6 => ?_)
    · replace hw := hw.1 c6
      refine g_iinc X [(3, .int (x3 + 1)), (0, .ref (a 0)), (1, .int x1), (2, .int x2), (4, .int x4)] 3 dX8_bestOfAll_98 rfl rfl (by decide) rfl ?_
      refine g_goto X 9 dX8_bestOfAll_101 (by decide) ?_
      refine g_sub [(0, .ref (a 0)), (1, .int x1), (2, .int x2), (3, .int (x3 + 1))] [1, 2, 3, 0] rfl ?_
      exact hK9 _ _ _ _ hw
    · replace hw := hw.2 c6
      refine g_aload_n X 0 dX8_bestOfAll_33 rfl rfl ?_
      refine g_iload_n X 3 dX8_bestOfAll_34 rfl rfl ?_
      refine g_iload X 4 dX8_bestOfAll_35 rfl ?_
      refine g_iload X 4 dX8_bestOfAll_37 rfl ?_
      refine g_iconst (v := 1) X rfl dX8_bestOfAll_39 ?_
      refine g_iadd X dX8_bestOfAll_40 ?_
      refine g_cvV X [wM ct a w hs] (fun (u7 : Mem) => [wM ct a u7 hs]) (fun (u7 : Mem) => wM ct a u7 hs) 1 [0] [] 0 (kX8_exchange l D ct a w hs x3 x4 (x4 + 1) _ hw) (cwV 3 X.1.2.2.2.2 gX8_bestOfAll_X8_exchange rfl rfl rfl (by decide +kernel) ⟨Nat.le_of_ble_eq_true rfl, Nat.le_of_ble_eq_true rfl⟩) dX8_bestOfAll_41 rfl rfl (Nat.le_of_ble_eq_true rfl) ⟨Nat.le_of_ble_eq_true rfl, Nat.le_of_ble_eq_true rfl⟩ rfl rfl rfl (by decide) (fun _ => rfl) (fun _ => rfl) (fun _ => rfl) (fun _ => rfl) rfl rfl rfl (fun u7 hw => ?_)
      obtain ⟨w8, hw8⟩ : ∃ z : Mem, z = u7 := ⟨_, rfl⟩
      rw [← hw8] at hw
      rw [← hw8]
      refine g_aload_n X 0 dX8_bestOfAll_44 rfl rfl ?_
      refine g_ciV X [wM ct a w8 hs] (fun (u10 : Mem) => [wM ct a u10 hs]) (fun (u10 : Mem) => wM ct a u10 hs) 1 [0] [] 0 (kX8_allCrossings l D ct a w8 hs _ hw) (cwV 0 X.1.2.2.2.2 gX8_bestOfAll_X8_allCrossings rfl rfl rfl (by decide +kernel) ⟨Nat.le_of_ble_eq_true rfl, Nat.le_of_ble_eq_true rfl⟩) dX8_bestOfAll_45 rfl rfl (Nat.le_of_ble_eq_true rfl) ⟨Nat.le_of_ble_eq_true rfl, Nat.le_of_ble_eq_true rfl⟩ rfl rfl rfl (by decide) (fun _ => rfl) (fun _ => rfl) (fun _ => rfl) (fun _ => rfl) rfl rfl rfl (fun r9 u10 hw => ?_)
      obtain ⟨w11, hw11⟩ : ∃ z : Mem, z = u10 := ⟨_, rfl⟩
      rw [← hw11] at hw
      rw [← hw11]
      refine g_istore X [(5, .int r9), (0, .ref (a 0)), (1, .int x1), (2, .int x2), (3, .int x3), (4, .int x4)] dX8_bestOfAll_48 (by decide) rfl ?_
      refine g_aload_n X 1 dX8_bestOfAll_50 rfl rfl ?_
      refine g_iload_n X 4 dX8_bestOfAll_51 rfl rfl ?_
      refine g_iload X 5 dX8_bestOfAll_52 rfl ?_
      refine g_iload X 5 dX8_bestOfAll_54 rfl ?_
      refine g_iconst (v := 1) X rfl dX8_bestOfAll_56 ?_
      refine g_iadd X dX8_bestOfAll_57 ?_
      refine g_cvV X [wM ct a w11 hs] (fun (u12 : Mem) => [wM ct a u12 hs]) (fun (u12 : Mem) => wM ct a u12 hs) 1 [0] [] 0 (kX8_exchange l D ct a w11 hs x3 x4 (x4 + 1) _ hw) (cwV 3 X.1.2.2.2.2 gX8_bestOfAll_X8_exchange rfl rfl rfl (by decide +kernel) ⟨Nat.le_of_ble_eq_true rfl, Nat.le_of_ble_eq_true rfl⟩) dX8_bestOfAll_58 rfl rfl (Nat.le_of_ble_eq_true rfl) ⟨Nat.le_of_ble_eq_true rfl, Nat.le_of_ble_eq_true rfl⟩ rfl rfl rfl (by decide) (fun _ => rfl) (fun _ => rfl) (fun _ => rfl) (fun _ => rfl) rfl rfl rfl (fun u12 hw => ?_)
      obtain ⟨w13, hw13⟩ : ∃ z : Mem, z = u12 := ⟨_, rfl⟩
      rw [← hw13] at hw
      rw [← hw13]
      refine g_iload X 0 dX8_bestOfAll_61 rfl ?_
      refine g_iload_n X 2 dX8_bestOfAll_63 rfl rfl ?_
      refine g_icmp_ge X 77 dX8_bestOfAll_64 (by decide) (fun c14 => ?_) (fun c14 => ?_)
      · replace hw := hw.1 c14
        refine g_iload_n X 3 dX8_bestOfAll_77 rfl rfl ?_
        refine g_sub [(0, .ref (a 0)), (1, .int x1), (3, .int x3), (4, .int x4), (5, .int r9)] [1, 2, 4, 5, 0] rfl ?_
        exact kX8_bestOfAll_78 l D ct a hs post _ _ X hK9 ih _ _ _ _ _ _ hw
      · replace hw := hw.2 c14
        refine g_bipush (v := 10) X rfl dX8_bestOfAll_67 ?_
        refine g_iload_n X 4 dX8_bestOfAll_69 rfl rfl ?_
        refine g_imul X dX8_bestOfAll_70 ?_
        refine g_iload X 5 dX8_bestOfAll_71 rfl ?_
        refine g_iadd X dX8_bestOfAll_73 ?_
        refine g_goto X 78 dX8_bestOfAll_74 (by decide) ?_
        refine g_sub [(0, .ref (a 0)), (1, .int x1), (3, .int x3), (4, .int x4), (5, .int r9)] [1, 2, 4, 5, 0] rfl ?_
        exact kX8_bestOfAll_78 l D ct a hs post _ _ X hK9 ih _ _ _ _ _ _ hw

set_option maxHeartbeats 4000000 in
set_option maxRecDepth 20000 in
theorem kX8_bestOfAll_9 (l : Launch) (D : va_G) (ct : Nat → ClassId) (a : Nat → Nat) (hs : Int64) (post : Int32 → Mem → Prop) {p : Program} {e : Env} {s : State} {m : MethodId} {args : Array Value} {below : List Frame} {meth : Method} {c : Code} {A : Nat → Prop} (X : Cx p s m args meth c cX8_bestOfAll 6 RX8 wsX8_bestOfAll D (tyz ct) A s.heap (some .int))  :
    ∀ (n : Nat) (w : Mem) (x1 : Int32) (x2 : Int32) (x3 : Int32), PX8_bestOfAll_9 hs post n w x1 x2 x3 → GX8_bestOfAll l D ct a hs post p e s m args below meth c A (wM ct a w hs) [(0, .ref (a 0)), (1, .int x1), (2, .int x2), (3, .int x3)] 9 [] := by
  intro n
  induction n with
  | zero =>
    intro w x1 x2 x3 hw
    exact hw.elim
  | succ n ih =>
    intro w x1 x2 x3 hw
    unfold PX8_bestOfAll_9 at hw
    refine g_iload_n X 3 dX8_bestOfAll_9 rfl rfl ?_
    refine g_iconst (v := 4) X rfl dX8_bestOfAll_10 ?_
    refine g_icmp_ge X 104 dX8_bestOfAll_11 (by decide) (fun c4 => ?_) (fun c4 => ?_)
    · replace hw := hw.1 c4
      refine g_iload_n X 2 dX8_bestOfAll_104 rfl rfl ?_
      exact g_iret X w hw rfl (Nat.le_of_ble_eq_true rfl) (Nat.le_of_ble_eq_true rfl) dX8_bestOfAll_105
    · replace hw := hw.2 c4
      refine g_iconst (v := 0) X rfl dX8_bestOfAll_14 ?_
      refine g_istore X [(4, .int 0), (0, .ref (a 0)), (1, .int x1), (2, .int x2), (3, .int x3)] dX8_bestOfAll_15 (by decide) rfl ?_
      refine g_sub [(0, .ref (a 0)), (1, .int x1), (2, .int x2), (3, .int x3), (4, .int 0)] [1, 2, 3, 4, 0] rfl ?_
      obtain ⟨n16, hw⟩ := hw
      exact kX8_bestOfAll_17 l D ct a hs post _ X ih n16 _ _ _ _ _ hw

set_option maxHeartbeats 4000000 in
set_option maxRecDepth 20000 in
theorem kX8_bestOfAll (l : Launch) (D : va_G) (ct : Nat → ClassId) (a : Nat → Nat) (w : Mem) (hs : Int64) (post : Int32 → Mem → Prop) (hw : PX8_bestOfAll w hs post) : Ci (S := Mem) l yX8_bestOfAll wsX8_bestOfAll rmX8_bestOfAll D (tyz ct) [.ref (a 0)] (wM ct a w hs) (fun r (u9 : Mem) => post r u9) (fun u9 => wM ct a u9 hs) 0 0 := by
  intro sz
  refine g_of (own := RX8) (by decide) rfl rfl (Nat.le_of_ble_eq_true rfl) [(0, .ref (a 0))] rfl (fun p e s m args below meth c hsz X => ?_)
  subst hsz
  unfold PX8_bestOfAll at hw
  refine g_aload_n X 0 dX8_bestOfAll_0 rfl rfl ?_
  refine g_ciV X [wM ct a w hs] (fun (u2 : Mem) => [wM ct a u2 hs]) (fun (u2 : Mem) => wM ct a u2 hs) 1 [0] [] 0 (kX8_allCrossings l D ct a w hs _ hw) (cwV 0 X.1.2.2.2.2 gX8_bestOfAll_X8_allCrossings rfl rfl rfl (by decide +kernel) ⟨Nat.le_of_ble_eq_true rfl, Nat.le_of_ble_eq_true rfl⟩) dX8_bestOfAll_1 rfl rfl (Nat.le_of_ble_eq_true rfl) ⟨Nat.le_of_ble_eq_true rfl, Nat.le_of_ble_eq_true rfl⟩ rfl rfl rfl (by decide) (fun _ => rfl) (fun _ => rfl) (fun _ => rfl) (fun _ => rfl) rfl rfl rfl (fun r1 u2 hw => ?_)
  obtain ⟨w3, hw3⟩ : ∃ z : Mem, z = u2 := ⟨_, rfl⟩
  rw [← hw3] at hw
  rw [← hw3]
  refine g_istore_n X [(1, .int r1), (0, .ref (a 0))] dX8_bestOfAll_4 rfl (by decide) rfl ?_
  refine g_iconst (v := (-1)) X rfl dX8_bestOfAll_5 ?_
  refine g_istore_n X [(2, .int ((-1))), (1, .int r1), (0, .ref (a 0))] dX8_bestOfAll_6 rfl (by decide) rfl ?_
  refine g_iconst (v := 0) X rfl dX8_bestOfAll_7 ?_
  refine g_istore_n X [(3, .int 0), (2, .int ((-1))), (1, .int r1), (0, .ref (a 0))] dX8_bestOfAll_8 rfl (by decide) rfl ?_
  refine g_sub [(0, .ref (a 0)), (1, .int r1), (2, .int ((-1))), (3, .int 0)] [3, 2, 1, 0] rfl ?_
  obtain ⟨n17, hw⟩ := hw
  exact kX8_bestOfAll_9 l D ct a hs post X n17 _ _ _ _ hw

abbrev rmX8_bestSwap : Room := { frames := 7, cells := 0, slots := 0, locals := 158 }

abbrev GX8_bestSwap (l : Launch) (D : va_G) (ct : Nat → ClassId) (a : Nat → Nat) (hs : Int64) (post : Int32 → Mem → Prop) (p : Program) (e : Env) (s : State) (m : MethodId) (args : Array Value) (below : List Frame) (meth : Method) (c : Code) (A : Nat → Prop) (w9 : va_W) (lv : List (Nat × Value)) (pc : Nat) (st : List Value) : Prop :=
  GG p l e rmX8_bestSwap s m args below meth c D A s.heap 1 (MQ below (va_Qi (fun r (u9 : Mem) => post r u9) (fun u9 t9 => Af D (tyz ct) A ((fun u9 => wM ct a u9 hs) u9) t9) A)  args s 0 0 A) w9 0 0 lv pc st

set_option maxHeartbeats 4000000 in
set_option maxRecDepth 20000 in
theorem kX8_bestSwap (l : Launch) (D : va_G) (ct : Nat → ClassId) (a : Nat → Nat) (w : Mem) (hs : Int64) (post : Int32 → Mem → Prop) (hw : PX8_bestSwap w hs post) : Ci (S := Mem) l yX8_bestSwap wsX8_bestSwap rmX8_bestSwap D (tyz ct) [.ref (a 0)] (wM ct a w hs) (fun r (u9 : Mem) => post r u9) (fun u9 => wM ct a u9 hs) 0 0 := by
  intro sz
  refine g_of (own := RX8) (by decide) rfl rfl (Nat.le_of_ble_eq_true rfl) [(0, .ref (a 0))] rfl (fun p e s m args below meth c hsz X => ?_)
  subst hsz
  unfold PX8_bestSwap at hw
  refine g_aload_n X 0 dX8_bestSwap_0 rfl rfl ?_
  refine g_iconst (v := 0) X rfl dX8_bestSwap_1 ?_
  refine g_put (T := TX8) (C := RX8) (N := 21) X (fun z => wM ct a z hs) w 0 5 tyX8 tyX8_ok nmX8 (fun _ h => (List.mem_cons_of_mem _ (List.mem_append_right _ h))) (List.mem_of_getElem? (i := 1) rfl) dX8_bestSwap_2 rfl rfl (by decide) rfl rfl (by decide +kernel) (Nat.le_of_ble_eq_true rfl) rfl (fun w1 hw1 => ?_)
  replace hw := hw w1 hw1
  refine g_aload_n X 0 dX8_bestSwap_5 rfl rfl ?_
  refine g_ciV X [wM ct a w1 hs] (fun (u3 : Mem) => [wM ct a u3 hs]) (fun (u3 : Mem) => wM ct a u3 hs) 1 [0] [] 0 (kX8_bestOfAll l D ct a w1 hs _ hw) (cwV 0 X.1.2.2.2.2 gX8_bestSwap_X8_bestOfAll rfl rfl rfl (by decide +kernel) ⟨Nat.le_of_ble_eq_true rfl, Nat.le_of_ble_eq_true rfl⟩) dX8_bestSwap_6 rfl rfl (Nat.le_of_ble_eq_true rfl) ⟨Nat.le_of_ble_eq_true rfl, Nat.le_of_ble_eq_true rfl⟩ rfl rfl rfl (by decide) (fun _ => rfl) (fun _ => rfl) (fun _ => rfl) (fun _ => rfl) rfl rfl rfl (fun r2 u3 hw => ?_)
  obtain ⟨w4, hw4⟩ : ∃ z : Mem, z = u3 := ⟨_, rfl⟩
  rw [← hw4] at hw
  rw [← hw4]
  exact g_iret X w4 hw rfl (Nat.le_of_ble_eq_true rfl) (Nat.le_of_ble_eq_true rfl) dX8_bestSwap_9

abbrev rmX8_near : Room := { frames := 3, cells := 0, slots := 0, locals := 68 }

abbrev GX8_near (l : Launch) (D : va_G) (ct : Nat → ClassId) (a : Nat → Nat) (w : Mem) (hs : Int64) (post : Int32 → Prop) (p : Program) (e : Env) (s : State) (m : MethodId) (args : Array Value) (below : List Frame) (meth : Method) (c : Code) (A : Nat → Prop) (w9 : va_W) (lv : List (Nat × Value)) (pc : Nat) (st : List Value) : Prop :=
  GG p l e rmX8_near s m args below meth c D A s.heap 7 (MQ below (va_Qi (fun r (_ : Unit) => post r) (fun u9 t9 => Af D (tyz ct) A ((fun _ => wM ct a w hs) u9) t9) A)  args s 0 0 A) w9 0 0 lv pc st

set_option maxHeartbeats 4000000 in
set_option maxRecDepth 20000 in
theorem kX8_near_26 (l : Launch) (D : va_G) (ct : Nat → ClassId) (a : Nat → Nat) (w : Mem) (hs : Int64) (post : Int32 → Prop) {p : Program} {e : Env} {s : State} {m : MethodId} {args : Array Value} {below : List Frame} {meth : Method} {c : Code} {A : Nat → Prop} (X : Cx p s m args meth c cX8_near 7 RX8 wsX8_near D (tyz ct) A s.heap (some .int))  :
    ∀ (n : Nat) (x1 : Int32) (x2 : Int32) (x3 : Int32) (x4 : Int32) (x5 : Int32), PX8_near_26 w hs post n x1 x2 x3 x4 x5 → GX8_near l D ct a w hs post p e s m args below meth c A (wM ct a w hs) [(0, .ref (a 0)), (1, .int x1), (2, .int x2), (3, .int x3), (4, .int x4), (5, .int x5)] 26 [] := by
  intro n
  induction n with
  | zero =>
    intro x1 x2 x3 x4 x5 hw
    exact hw.elim
  | succ n ih =>
    intro x1 x2 x3 x4 x5 hw
    unfold PX8_near_26 at hw
    refine g_iload X 5 dX8_near_26 rfl ?_
    refine g_aload_n X 0 dX8_near_28 rfl rfl ?_
    refine g_get (T := TX8) (C := RX8) (N := 21) (v := .ref (a 1)) X 0 0 (fun _ h => (List.mem_cons_of_mem _ (List.mem_append_right _ h))) (List.mem_of_getElem? (i := 1) rfl) dX8_near_29 rfl rfl (by decide) rfl rfl ?_
    refine g_iconst (v := 0) X rfl dX8_near_32 ?_
    obtain ⟨h6, hw⟩ := hw
    refine g_iald X 1 0 dX8_near_33 rfl rfl h6 ?_
    refine g_icmp_ge X 97 dX8_near_34 (by decide) (fun c7 => ?_) (fun c7 => ?_)
    · replace hw := hw.1 c7
      refine g_iload X 4 dX8_near_97 rfl ?_
      exact g_iret X () hw rfl (Nat.le_of_ble_eq_true rfl) (Nat.le_of_ble_eq_true rfl) dX8_near_99
    · replace hw := hw.2 c7
      refine g_aload_n X 0 dX8_near_37 rfl rfl ?_
      refine g_iload_n X 1 dX8_near_38 rfl rfl ?_
      refine g_ciV X [wM ct a w hs] (fun (_ : Unit) => [wM ct a w hs]) (fun _ => wM ct a w hs) 1 [0] [] 0 (kX8_rowOf l D ct a w hs x1 _ hw) (cwV 1 X.1.2.2.2.2 gX8_near_X8_rowOf rfl rfl rfl (by decide +kernel) ⟨Nat.le_of_ble_eq_true rfl, Nat.le_of_ble_eq_true rfl⟩) dX8_near_39 rfl rfl (Nat.le_of_ble_eq_true rfl) ⟨Nat.le_of_ble_eq_true rfl, Nat.le_of_ble_eq_true rfl⟩ rfl rfl rfl (by decide) (fun _ => rfl) (fun _ => rfl) (fun _ => rfl) (fun _ => rfl) rfl rfl rfl (fun r8 _ hw => ?_)
      refine g_aload_n X 0 dX8_near_42 rfl rfl ?_
      refine g_iload_n X 2 dX8_near_43 rfl rfl ?_
      refine g_ciV X [wM ct a w hs] (fun (_ : Unit) => [wM ct a w hs]) (fun _ => wM ct a w hs) 1 [0] [] 0 (kX8_rowOf l D ct a w hs x2 _ hw) (cwV 1 X.1.2.2.2.2 gX8_near_X8_rowOf rfl rfl rfl (by decide +kernel) ⟨Nat.le_of_ble_eq_true rfl, Nat.le_of_ble_eq_true rfl⟩) dX8_near_44 rfl rfl (Nat.le_of_ble_eq_true rfl) ⟨Nat.le_of_ble_eq_true rfl, Nat.le_of_ble_eq_true rfl⟩ rfl rfl rfl (by decide) (fun _ => rfl) (fun _ => rfl) (fun _ => rfl) (fun _ => rfl) rfl rfl rfl (fun r10 _ hw => ?_)
      refine g_iadd X dX8_near_47 ?_
      refine g_iconst (v := 2) X rfl dX8_near_48 ?_
      refine g_aload_n X 0 dX8_near_49 rfl rfl ?_
      refine g_iload X 5 dX8_near_50 rfl ?_
      refine g_ciV X [wM ct a w hs] (fun (_ : Unit) => [wM ct a w hs]) (fun _ => wM ct a w hs) 1 [0] [] 0 (kX8_rowOf l D ct a w hs x5 _ hw) (cwV 1 X.1.2.2.2.2 gX8_near_X8_rowOf rfl rfl rfl (by decide +kernel) ⟨Nat.le_of_ble_eq_true rfl, Nat.le_of_ble_eq_true rfl⟩) dX8_near_52 rfl rfl (Nat.le_of_ble_eq_true rfl) ⟨Nat.le_of_ble_eq_true rfl, Nat.le_of_ble_eq_true rfl⟩ rfl rfl rfl (by decide) (fun _ => rfl) (fun _ => rfl) (fun _ => rfl) (fun _ => rfl) rfl rfl rfl (fun r12 _ hw => ?_)
      refine g_imul X dX8_near_55 ?_
      refine g_isub X dX8_near_56 ?_
      refine g_topi (fun q14 hq14 => ?_)
      replace hw := hw q14 hq14
      refine g_istore X [(6, .int q14), (0, .ref (a 0)), (1, .int x1), (2, .int x2), (3, .int x3), (4, .int x4), (5, .int x5)] dX8_near_57 (by decide) rfl ?_
      refine g_iload_n X 4 dX8_near_59 rfl rfl ?_
      refine g_iload X 6 dX8_near_60 rfl ?_
      refine g_ishr X dX8_near_62 ?_
      refine g_iconst (v := 1) X rfl dX8_near_63 ?_
      refine g_iand X dX8_near_64 ?_
      refine g_iconst (v := 1) X rfl dX8_near_65 ?_
      refine g_icmp_ne X 87 dX8_near_66 (by decide) (fun c15 => ?_) (fun c15 => ?_)
      · replace hw := hw.1 c15
        refine g_iload X 5 dX8_near_87 rfl ?_
        refine g_istore X [(4, .int x4), (6, .int q14), (0, .ref (a 0)), (1, .int x1), (2, .int x2), (3, .int x3), (5, .int x5)] dX8_near_89 (by decide) rfl ?_
        refine g_iinc X [(5, .int (x5 + 1)), (4, .int x4), (6, .int q14), (0, .ref (a 0)), (1, .int x1), (2, .int x2), (3, .int x3)] 6 dX8_near_91 rfl rfl (by decide) rfl ?_
        refine g_goto X 26 dX8_near_94 (by decide) ?_
        refine g_sub [(0, .ref (a 0)), (1, .int x1), (2, .int x2), (3, .int x3), (4, .int x4), (5, .int (x5 + 1))] [3, 4, 5, 6, 1, 0] rfl ?_
        exact ih _ _ _ _ _ hw
      · replace hw := hw.2 c15
        refine g_iload X 5 dX8_near_69 rfl ?_
        refine g_iconst (v := (-1)) X rfl dX8_near_71 ?_
        refine g_icmp_eq X 82 dX8_near_72 (by decide) (fun c16 => ?_) (fun c16 => ?_)
        · replace hw := hw.1 c16
          refine g_iload X 0 dX8_near_82 rfl ?_
          refine g_goto X 89 dX8_near_84 (by decide) ?_
          refine g_istore X [(4, .int q14), (6, .int q14), (0, .ref (a 0)), (1, .int x1), (2, .int x2), (3, .int x3), (5, .int x5)] dX8_near_89 (by decide) rfl ?_
          refine g_iinc X [(5, .int (x5 + 1)), (4, .int q14), (6, .int q14), (0, .ref (a 0)), (1, .int x1), (2, .int x2), (3, .int x3)] 6 dX8_near_91 rfl rfl (by decide) rfl ?_
          refine g_goto X 26 dX8_near_94 (by decide) ?_
          refine g_sub [(0, .ref (a 0)), (1, .int x1), (2, .int x2), (3, .int x3), (4, .int q14), (5, .int (x5 + 1))] [3, 4, 5, 6, 1, 0] rfl ?_
          exact ih _ _ _ _ _ hw
        · replace hw := hw.2 c16
          refine g_iload X 0 dX8_near_75 rfl ?_
          refine g_iload X 5 dX8_near_77 rfl ?_
          refine g_icmp_ge X 87 dX8_near_79 (by decide) (fun c17 => ?_) (fun c17 => ?_)
          · replace hw := hw.1 c17
            refine g_iload X 5 dX8_near_87 rfl ?_
            refine g_istore X [(4, .int x4), (6, .int q14), (0, .ref (a 0)), (1, .int x1), (2, .int x2), (3, .int x3), (5, .int x5)] dX8_near_89 (by decide) rfl ?_
            refine g_iinc X [(5, .int (x5 + 1)), (4, .int x4), (6, .int q14), (0, .ref (a 0)), (1, .int x1), (2, .int x2), (3, .int x3)] 6 dX8_near_91 rfl rfl (by decide) rfl ?_
            refine g_goto X 26 dX8_near_94 (by decide) ?_
            refine g_sub [(0, .ref (a 0)), (1, .int x1), (2, .int x2), (3, .int x3), (4, .int x4), (5, .int (x5 + 1))] [3, 4, 5, 6, 1, 0] rfl ?_
            exact ih _ _ _ _ _ hw
          · replace hw := hw.2 c17
            refine g_iload X 0 dX8_near_82 rfl ?_
            refine g_goto X 89 dX8_near_84 (by decide) ?_
            refine g_istore X [(4, .int q14), (6, .int q14), (0, .ref (a 0)), (1, .int x1), (2, .int x2), (3, .int x3), (5, .int x5)] dX8_near_89 (by decide) rfl ?_
            refine g_iinc X [(5, .int (x5 + 1)), (4, .int q14), (6, .int q14), (0, .ref (a 0)), (1, .int x1), (2, .int x2), (3, .int x3)] 6 dX8_near_91 rfl rfl (by decide) rfl ?_
            refine g_goto X 26 dX8_near_94 (by decide) ?_
            refine g_sub [(0, .ref (a 0)), (1, .int x1), (2, .int x2), (3, .int x3), (4, .int q14), (5, .int (x5 + 1))] [3, 4, 5, 6, 1, 0] rfl ?_
            exact ih _ _ _ _ _ hw

set_option maxHeartbeats 4000000 in
set_option maxRecDepth 20000 in
theorem kX8_near (l : Launch) (D : va_G) (ct : Nat → ClassId) (a : Nat → Nat) (w : Mem) (hs : Int64) (p1 : Int32) (p2 : Int32) (post : Int32 → Prop) (hw : PX8_near w hs p1 p2 post) : Ci (S := Unit) l yX8_near wsX8_near rmX8_near D (tyz ct) [.ref (a 0), .int p1, .int p2] (wM ct a w hs) (fun r (_ : Unit) => post r) (fun _ => wM ct a w hs) 0 0 := by
  intro sz
  refine g_of (own := RX8) (by decide) rfl rfl (Nat.le_of_ble_eq_true rfl) [(0, .ref (a 0)), (1, .int p1), (2, .int p2)] rfl (fun p e s m args below meth c hsz X => ?_)
  subst hsz
  unfold PX8_near at hw
  refine g_aload_n X 0 dX8_near_0 rfl rfl ?_
  refine g_iload_n X 1 dX8_near_1 rfl rfl ?_
  refine g_ciV X [wM ct a w hs] (fun (_ : Unit) => [wM ct a w hs]) (fun _ => wM ct a w hs) 1 [0] [] 0 (kX8_ancestors l D ct a w hs p1 _ hw) (cwV 1 X.1.2.2.2.2 gX8_near_X8_ancestors rfl rfl rfl (by decide +kernel) ⟨Nat.le_of_ble_eq_true rfl, Nat.le_of_ble_eq_true rfl⟩) dX8_near_2 rfl rfl (Nat.le_of_ble_eq_true rfl) ⟨Nat.le_of_ble_eq_true rfl, Nat.le_of_ble_eq_true rfl⟩ rfl rfl rfl (by decide) (fun _ => rfl) (fun _ => rfl) (fun _ => rfl) (fun _ => rfl) rfl rfl rfl (fun r1 _ hw => ?_)
  refine g_iconst (v := 1) X rfl dX8_near_5 ?_
  refine g_iload_n X 1 dX8_near_6 rfl rfl ?_
  refine g_ishl X dX8_near_7 ?_
  refine g_ior X dX8_near_8 ?_
  refine g_aload_n X 0 dX8_near_9 rfl rfl ?_
  refine g_iload_n X 2 dX8_near_10 rfl rfl ?_
  refine g_ciV X [wM ct a w hs] (fun (_ : Unit) => [wM ct a w hs]) (fun _ => wM ct a w hs) 1 [0] [] 0 (kX8_ancestors l D ct a w hs p2 _ hw) (cwV 1 X.1.2.2.2.2 gX8_near_X8_ancestors rfl rfl rfl (by decide +kernel) ⟨Nat.le_of_ble_eq_true rfl, Nat.le_of_ble_eq_true rfl⟩) dX8_near_11 rfl rfl (Nat.le_of_ble_eq_true rfl) ⟨Nat.le_of_ble_eq_true rfl, Nat.le_of_ble_eq_true rfl⟩ rfl rfl rfl (by decide) (fun _ => rfl) (fun _ => rfl) (fun _ => rfl) (fun _ => rfl) rfl rfl rfl (fun r3 _ hw => ?_)
  refine g_iconst (v := 1) X rfl dX8_near_14 ?_
  refine g_iload_n X 2 dX8_near_15 rfl rfl ?_
  refine g_ishl X dX8_near_16 ?_
  refine g_ior X dX8_near_17 ?_
  refine g_iand X dX8_near_18 ?_
  refine g_topi (fun q5 hq5 => ?_)
  replace hw := hw q5 hq5
  refine g_istore_n X [(3, .int q5), (0, .ref (a 0)), (1, .int p1), (2, .int p2)] dX8_near_19 rfl (by decide) rfl ?_
  refine g_iconst (v := (-1)) X rfl dX8_near_20 ?_
  refine g_istore X [(4, .int ((-1))), (3, .int q5), (0, .ref (a 0)), (1, .int p1), (2, .int p2)] dX8_near_21 (by decide) rfl ?_
  refine g_iconst (v := 0) X rfl dX8_near_23 ?_
  refine g_istore X [(5, .int 0), (4, .int ((-1))), (3, .int q5), (0, .ref (a 0)), (1, .int p1), (2, .int p2)] dX8_near_24 (by decide) rfl ?_
  refine g_sub [(0, .ref (a 0)), (1, .int p1), (2, .int p2), (3, .int q5), (4, .int ((-1))), (5, .int 0)] [3, 4, 5, 2, 1, 0] rfl ?_
  obtain ⟨n18, hw⟩ := hw
  exact kX8_near_26 l D ct a w hs post X n18 _ _ _ _ _ hw

abbrev rmX8_nearness : Room := { frames := 4, cells := 0, slots := 0, locals := 94 }

abbrev GX8_nearness (l : Launch) (D : va_G) (ct : Nat → ClassId) (a : Nat → Nat) (hs : Int64) (post : Int32 → Mem → Prop) (p : Program) (e : Env) (s : State) (m : MethodId) (args : Array Value) (below : List Frame) (meth : Method) (c : Code) (A : Nat → Prop) (w9 : va_W) (lv : List (Nat × Value)) (pc : Nat) (st : List Value) : Prop :=
  GG p l e rmX8_nearness s m args below meth c D A s.heap 3 (MQ below (va_Qi (fun r (u9 : Mem) => post r u9) (fun u9 t9 => Af D (tyz ct) A ((fun u9 => wM ct a u9 hs) u9) t9) A)  args s 0 0 A) w9 0 0 lv pc st

set_option maxHeartbeats 4000000 in
set_option maxRecDepth 20000 in
theorem kX8_nearness_30 (l : Launch) (D : va_G) (ct : Nat → ClassId) (a : Nat → Nat) (hs : Int64) (post : Int32 → Mem → Prop) {p : Program} {e : Env} {s : State} {m : MethodId} {args : Array Value} {below : List Frame} {meth : Method} {c : Code} {A : Nat → Prop} (X : Cx p s m args meth c cX8_nearness 3 RX8 wsX8_nearness D (tyz ct) A s.heap (some .int))  :
    ∀ (w : Mem), PX8_nearness_30 hs post w → GX8_nearness l D ct a hs post p e s m args below meth c A (wM ct a w hs) [(0, .ref (a 0))] 30 [] := by
  intro w hw
  unfold PX8_nearness_30 at hw
  refine g_aload_n X 0 dX8_nearness_30 rfl rfl ?_
  refine g_iconst (v := 1) X rfl dX8_nearness_31 ?_
  refine g_ciV X [wM ct a w hs] (fun (u6 : Mem) => [wM ct a u6 hs]) (fun (u6 : Mem) => wM ct a u6 hs) 1 [0] [] 0 (kX8_fails l D ct a w hs 1 _ hw) (cwV 1 X.1.2.2.2.2 gX8_nearness_X8_fails rfl rfl rfl (by decide +kernel) ⟨Nat.le_of_ble_eq_true rfl, Nat.le_of_ble_eq_true rfl⟩) dX8_nearness_32 rfl rfl (Nat.le_of_ble_eq_true rfl) ⟨Nat.le_of_ble_eq_true rfl, Nat.le_of_ble_eq_true rfl⟩ rfl rfl rfl (by decide) (fun _ => rfl) (fun _ => rfl) (fun _ => rfl) (fun _ => rfl) rfl rfl rfl (fun r5 u6 hw => ?_)
  obtain ⟨w7, hw7⟩ : ∃ z : Mem, z = u6 := ⟨_, rfl⟩
  rw [← hw7] at hw
  rw [← hw7]
  exact g_iret X w7 hw rfl (Nat.le_of_ble_eq_true rfl) (Nat.le_of_ble_eq_true rfl) dX8_nearness_35

set_option maxHeartbeats 4000000 in
set_option maxRecDepth 20000 in
theorem kX8_nearness (l : Launch) (D : va_G) (ct : Nat → ClassId) (a : Nat → Nat) (w : Mem) (hs : Int64) (p1 : Int32) (p2 : Int32) (post : Int32 → Mem → Prop) (hw : PX8_nearness w hs p1 p2 post) : Ci (S := Mem) l yX8_nearness wsX8_nearness rmX8_nearness D (tyz ct) [.ref (a 0), .int p1, .int p2] (wM ct a w hs) (fun r (u9 : Mem) => post r u9) (fun u9 => wM ct a u9 hs) 0 0 := by
  intro sz
  refine g_of (own := RX8) (by decide) rfl rfl (Nat.le_of_ble_eq_true rfl) [(0, .ref (a 0)), (1, .int p1), (2, .int p2)] rfl (fun p e s m args below meth c hsz X => ?_)
  subst hsz
  unfold PX8_nearness at hw
  refine g_aload_n X 0 dX8_nearness_0 rfl rfl ?_
  refine g_iconst (v := 0) X rfl dX8_nearness_1 ?_
  refine g_put (T := TX8) (C := RX8) (N := 21) X (fun z => wM ct a z hs) w 0 5 tyX8 tyX8_ok nmX8 (fun _ h => (List.mem_cons_of_mem _ (List.mem_append_right _ h))) (List.mem_of_getElem? (i := 1) rfl) dX8_nearness_2 rfl rfl (by decide) rfl rfl (by decide +kernel) (Nat.le_of_ble_eq_true rfl) rfl (fun w1 hw1 => ?_)
  replace hw := hw w1 hw1
  refine g_aload_n X 0 dX8_nearness_5 rfl rfl ?_
  refine g_iload_n X 1 dX8_nearness_6 rfl rfl ?_
  refine g_ciV X [wM ct a w1 hs] (fun (_ : Unit) => [wM ct a w1 hs]) (fun _ => wM ct a w1 hs) 1 [0] [] 0 (kX8_isPerson l D ct a w1 hs p1 _ hw) (cwV 1 X.1.2.2.2.2 gX8_nearness_X8_isPerson rfl rfl rfl (by decide +kernel) ⟨Nat.le_of_ble_eq_true rfl, Nat.le_of_ble_eq_true rfl⟩) dX8_nearness_7 rfl rfl (Nat.le_of_ble_eq_true rfl) ⟨Nat.le_of_ble_eq_true rfl, Nat.le_of_ble_eq_true rfl⟩ rfl rfl rfl (by decide) (fun _ => rfl) (fun _ => rfl) (fun _ => rfl) (fun _ => rfl) rfl rfl rfl (fun r2 _ hw => ?_)
  refine g_if_eq X 30 dX8_nearness_10 (by decide) (fun c4 => ?_) (fun c4 => ?_)
  · replace hw := hw.1 c4
    refine g_sub [(0, .ref (a 0))] [0] rfl ?_
    exact kX8_nearness_30 l D ct a hs post X _ hw
  · replace hw := hw.2 c4
    refine g_aload_n X 0 dX8_nearness_13 rfl rfl ?_
    refine g_iload_n X 2 dX8_nearness_14 rfl rfl ?_
    refine g_ciV X [wM ct a w1 hs] (fun (_ : Unit) => [wM ct a w1 hs]) (fun _ => wM ct a w1 hs) 1 [0] [] 0 (kX8_isPerson l D ct a w1 hs p2 _ hw) (cwV 1 X.1.2.2.2.2 gX8_nearness_X8_isPerson rfl rfl rfl (by decide +kernel) ⟨Nat.le_of_ble_eq_true rfl, Nat.le_of_ble_eq_true rfl⟩) dX8_nearness_15 rfl rfl (Nat.le_of_ble_eq_true rfl) ⟨Nat.le_of_ble_eq_true rfl, Nat.le_of_ble_eq_true rfl⟩ rfl rfl rfl (by decide) (fun _ => rfl) (fun _ => rfl) (fun _ => rfl) (fun _ => rfl) rfl rfl rfl (fun r8 _ hw => ?_)
    refine g_if_eq X 30 dX8_nearness_18 (by decide) (fun c10 => ?_) (fun c10 => ?_)
    · replace hw := hw.1 c10
      refine g_sub [(0, .ref (a 0))] [0] rfl ?_
      exact kX8_nearness_30 l D ct a hs post X _ hw
    · replace hw := hw.2 c10
      refine g_aload_n X 0 dX8_nearness_21 rfl rfl ?_
      refine g_iload_n X 1 dX8_nearness_22 rfl rfl ?_
      refine g_iload_n X 2 dX8_nearness_23 rfl rfl ?_
      refine g_ciV X [wM ct a w1 hs] (fun (_ : Unit) => [wM ct a w1 hs]) (fun _ => wM ct a w1 hs) 1 [0] [] 0 (kX8_near l D ct a w1 hs p1 p2 _ hw) (cwV 2 X.1.2.2.2.2 gX8_nearness_X8_near rfl rfl rfl (by decide +kernel) ⟨Nat.le_of_ble_eq_true rfl, Nat.le_of_ble_eq_true rfl⟩) dX8_nearness_24 rfl rfl (Nat.le_of_ble_eq_true rfl) ⟨Nat.le_of_ble_eq_true rfl, Nat.le_of_ble_eq_true rfl⟩ rfl rfl rfl (by decide) (fun _ => rfl) (fun _ => rfl) (fun _ => rfl) (fun _ => rfl) rfl rfl rfl (fun r11 _ hw => ?_)
      refine g_goto X 35 dX8_nearness_27 (by decide) ?_
      exact g_iret X w1 hw rfl (Nat.le_of_ble_eq_true rfl) (Nat.le_of_ble_eq_true rfl) dX8_nearness_35

abbrev rmX8_share : Room := { frames := 5, cells := 0, slots := 0, locals := 112 }

abbrev GX8_share (l : Launch) (D : va_G) (ct : Nat → ClassId) (a : Nat → Nat) (hs : Int64) (post : UInt64 → Mem → Prop) (p : Program) (e : Env) (s : State) (m : MethodId) (args : Array Value) (below : List Frame) (meth : Method) (c : Code) (A : Nat → Prop) (w9 : va_W) (lv : List (Nat × Value)) (pc : Nat) (st : List Value) : Prop :=
  GG p l e rmX8_share s m args below meth c D A s.heap 1 (MQ below (va_Qd (fun r (u9 : Mem) => post r u9) (fun u9 t9 => Af D (tyz ct) A ((fun u9 => wM ct a u9 hs) u9) t9) A)  args s 0 0 A) w9 0 0 lv pc st

set_option maxHeartbeats 4000000 in
set_option maxRecDepth 20000 in
theorem kX8_share (l : Launch) (D : va_G) (ct : Nat → ClassId) (a : Nat → Nat) (w : Mem) (hs : Int64) (post : UInt64 → Mem → Prop) (hw : PX8_share w hs post) : Cd (S := Mem) l yX8_share wsX8_share rmX8_share D (tyz ct) [.ref (a 0)] (wM ct a w hs) (fun r (u9 : Mem) => post r u9) (fun u9 => wM ct a u9 hs) 0 0 := by
  intro sz
  refine g_of (own := RX8) (by decide) rfl rfl (Nat.le_of_ble_eq_true rfl) [(0, .ref (a 0))] rfl (fun p e s m args below meth c hsz X => ?_)
  subst hsz
  unfold PX8_share at hw
  refine g_aload_n X 0 dX8_share_0 rfl rfl ?_
  refine g_ciV X [wM ct a w hs] (fun (_ : Unit) => [wM ct a w hs]) (fun _ => wM ct a w hs) 1 [0] [] 0 (kX8_allLines l D ct a w hs _ hw) (cwV 0 X.1.2.2.2.2 gX8_share_X8_allLines rfl rfl rfl (by decide +kernel) ⟨Nat.le_of_ble_eq_true rfl, Nat.le_of_ble_eq_true rfl⟩) dX8_share_1 rfl rfl (Nat.le_of_ble_eq_true rfl) ⟨Nat.le_of_ble_eq_true rfl, Nat.le_of_ble_eq_true rfl⟩ rfl rfl rfl (by decide) (fun _ => rfl) (fun _ => rfl) (fun _ => rfl) (fun _ => rfl) rfl rfl rfl (fun r1 _ hw => ?_)
  refine g_if_ne X 11 dX8_share_4 (by decide) (fun c3 => ?_) (fun c3 => ?_)
  · replace hw := hw.1 c3
    refine g_aload_n X 0 dX8_share_11 rfl rfl ?_
    refine g_ciV X [wM ct a w hs] (fun (_ : Unit) => [wM ct a w hs]) (fun _ => wM ct a w hs) 1 [0] [] 0 (kX8_allLines l D ct a w hs _ hw) (cwV 0 X.1.2.2.2.2 gX8_share_X8_allLines rfl rfl rfl (by decide +kernel) ⟨Nat.le_of_ble_eq_true rfl, Nat.le_of_ble_eq_true rfl⟩) dX8_share_12 rfl rfl (Nat.le_of_ble_eq_true rfl) ⟨Nat.le_of_ble_eq_true rfl, Nat.le_of_ble_eq_true rfl⟩ rfl rfl rfl (by decide) (fun _ => rfl) (fun _ => rfl) (fun _ => rfl) (fun _ => rfl) rfl rfl rfl (fun r4 _ hw => ?_)
    refine g_aload_n X 0 dX8_share_15 rfl rfl ?_
    refine g_ciV X [wM ct a w hs] (fun (u7 : Mem) => [wM ct a u7 hs]) (fun (u7 : Mem) => wM ct a u7 hs) 1 [0] [] 0 (kX8_bent l D ct a w hs _ hw) (cwV 0 X.1.2.2.2.2 gX8_share_X8_bent rfl rfl rfl (by decide +kernel) ⟨Nat.le_of_ble_eq_true rfl, Nat.le_of_ble_eq_true rfl⟩) dX8_share_16 rfl rfl (Nat.le_of_ble_eq_true rfl) ⟨Nat.le_of_ble_eq_true rfl, Nat.le_of_ble_eq_true rfl⟩ rfl rfl rfl (by decide) (fun _ => rfl) (fun _ => rfl) (fun _ => rfl) (fun _ => rfl) rfl rfl rfl (fun r6 u7 hw => ?_)
    obtain ⟨w8, hw8⟩ : ∃ z : Mem, z = u7 := ⟨_, rfl⟩
    rw [← hw8] at hw
    rw [← hw8]
    refine g_isub X dX8_share_19 ?_
    refine g_i2d X dX8_share_20 ?_
    refine g_aload_n X 0 dX8_share_21 rfl rfl ?_
    refine g_ciV X [wM ct a w8 hs] (fun (_ : Unit) => [wM ct a w8 hs]) (fun _ => wM ct a w8 hs) 1 [0] [] 0 (kX8_allLines l D ct a w8 hs _ hw) (cwV 0 X.1.2.2.2.2 gX8_share_X8_allLines rfl rfl rfl (by decide +kernel) ⟨Nat.le_of_ble_eq_true rfl, Nat.le_of_ble_eq_true rfl⟩) dX8_share_22 rfl rfl (Nat.le_of_ble_eq_true rfl) ⟨Nat.le_of_ble_eq_true rfl, Nat.le_of_ble_eq_true rfl⟩ rfl rfl rfl (by decide) (fun _ => rfl) (fun _ => rfl) (fun _ => rfl) (fun _ => rfl) rfl rfl rfl (fun r9 _ hw => ?_)
    refine g_i2d X dX8_share_25 ?_
    obtain ⟨h11, hw⟩ := hw
    refine g_ddiv X h11 dX8_share_26 ?_
    exact g_dret X w8 hw rfl (Nat.le_of_ble_eq_true rfl) (Nat.le_of_ble_eq_true rfl) dX8_share_27
  · replace hw := hw.2 c3
    refine g_dconst1 X dX8_share_7 ?_
    refine g_goto X 27 dX8_share_8 (by decide) ?_
    exact g_dret X w hw rfl (Nat.le_of_ble_eq_true rfl) (Nat.le_of_ble_eq_true rfl) dX8_share_27

abbrev rmX8_straightShare : Room := { frames := 6, cells := 0, slots := 0, locals := 132 }

abbrev GX8_straightShare (l : Launch) (D : va_G) (ct : Nat → ClassId) (a : Nat → Nat) (hs : Int64) (post : UInt64 → Mem → Prop) (p : Program) (e : Env) (s : State) (m : MethodId) (args : Array Value) (below : List Frame) (meth : Method) (c : Code) (A : Nat → Prop) (w9 : va_W) (lv : List (Nat × Value)) (pc : Nat) (st : List Value) : Prop :=
  GG p l e rmX8_straightShare s m args below meth c D A s.heap 1 (MQ below (va_Qd (fun r (u9 : Mem) => post r u9) (fun u9 t9 => Af D (tyz ct) A ((fun u9 => wM ct a u9 hs) u9) t9) A)  args s 0 0 A) w9 0 0 lv pc st

set_option maxHeartbeats 4000000 in
set_option maxRecDepth 20000 in
theorem kX8_straightShare (l : Launch) (D : va_G) (ct : Nat → ClassId) (a : Nat → Nat) (w : Mem) (hs : Int64) (post : UInt64 → Mem → Prop) (hw : PX8_straightShare w hs post) : Cd (S := Mem) l yX8_straightShare wsX8_straightShare rmX8_straightShare D (tyz ct) [.ref (a 0)] (wM ct a w hs) (fun r (u9 : Mem) => post r u9) (fun u9 => wM ct a u9 hs) 0 0 := by
  intro sz
  refine g_of (own := RX8) (by decide) rfl rfl (Nat.le_of_ble_eq_true rfl) [(0, .ref (a 0))] rfl (fun p e s m args below meth c hsz X => ?_)
  subst hsz
  unfold PX8_straightShare at hw
  refine g_aload_n X 0 dX8_straightShare_0 rfl rfl ?_
  refine g_iconst (v := 0) X rfl dX8_straightShare_1 ?_
  refine g_put (T := TX8) (C := RX8) (N := 21) X (fun z => wM ct a z hs) w 0 5 tyX8 tyX8_ok nmX8 (fun _ h => (List.mem_cons_of_mem _ (List.mem_append_right _ h))) (List.mem_of_getElem? (i := 1) rfl) dX8_straightShare_2 rfl rfl (by decide) rfl rfl (by decide +kernel) (Nat.le_of_ble_eq_true rfl) rfl (fun w1 hw1 => ?_)
  replace hw := hw w1 hw1
  refine g_aload_n X 0 dX8_straightShare_5 rfl rfl ?_
  refine g_cdV X [wM ct a w1 hs] (fun (u3 : Mem) => [wM ct a u3 hs]) (fun (u3 : Mem) => wM ct a u3 hs) 1 [0] [] 0 (kX8_share l D ct a w1 hs _ hw) (cwV 0 X.1.2.2.2.2 gX8_straightShare_X8_share rfl rfl rfl (by decide +kernel) ⟨Nat.le_of_ble_eq_true rfl, Nat.le_of_ble_eq_true rfl⟩) dX8_straightShare_6 rfl rfl (Nat.le_of_ble_eq_true rfl) ⟨Nat.le_of_ble_eq_true rfl, Nat.le_of_ble_eq_true rfl⟩ rfl rfl rfl (by decide) (fun _ => rfl) (fun _ => rfl) (fun _ => rfl) (fun _ => rfl) rfl rfl rfl (fun r2 u3 hw => ?_)
  obtain ⟨w4, hw4⟩ : ∃ z : Mem, z = u3 := ⟨_, rfl⟩
  rw [← hw4] at hw
  rw [← hw4]
  exact g_dret X w4 hw rfl (Nat.le_of_ble_eq_true rfl) (Nat.le_of_ble_eq_true rfl) dX8_straightShare_9

abbrev rmX8_mix : Room := { frames := 0, cells := 0, slots := 0, locals := 0 }

abbrev GX8_mix (l : Launch) (D : va_G) (ct : Nat → ClassId) (a : Nat → Nat) (w : Mem) (post : Int64 → Prop) (p : Program) (e : Env) (s : State) (m : MethodId) (args : Array Value) (below : List Frame) (meth : Method) (c : Code) (A : Nat → Prop) (w9 : va_W) (lv : List (Nat × Value)) (pc : Nat) (st : List Value) : Prop :=
  GG p l e rmX8_mix s m args below meth c D A s.heap 3 (MQ below (va_Qv (fun (u9 : Int64) => post u9) (fun u9 t9 => Af D (tyz ct) A ((fun u9 => wM ct a w u9) u9) t9) A)  args s 0 0 A) w9 0 0 lv pc st

set_option maxHeartbeats 4000000 in
set_option maxRecDepth 20000 in
theorem kX8_mix (l : Launch) (D : va_G) (ct : Nat → ClassId) (a : Nat → Nat) (w : Mem) (hs : Int64) (p1 : Int64) (post : Int64 → Prop) (hw : PX8_mix w hs p1 post) : Cv (S := Int64) l yX8_mix wsX8_mix rmX8_mix D (tyz ct) [.ref (a 0), .long p1] (wM ct a w hs) (fun (u9 : Int64) => post u9) (fun u9 => wM ct a w u9) 0 0 := by
  intro sz
  refine g_of (own := RX8) (by decide) rfl rfl (Nat.le_of_ble_eq_true rfl) [(0, .ref (a 0)), (1, .long p1)] rfl (fun p e s m args below meth c hsz X => ?_)
  subst hsz
  unfold PX8_mix at hw
  refine g_aload_n X 0 dX8_mix_0 rfl rfl ?_
  refine g_ldc2 (v := (31)) X (List.mem_of_getElem? (i := 1) rfl) dX8_mix_1 ?_
  refine g_aload_n X 0 dX8_mix_4 rfl rfl ?_
  refine g_get (T := TX8) (C := RX8) (N := 21) (v := .long hs) X 0 20 (fun _ h => (List.mem_cons_of_mem _ (List.mem_append_right _ h))) (List.mem_of_getElem? (i := 2) rfl) dX8_mix_5 rfl rfl (by decide) rfl rfl ?_
  refine g_lmul X dX8_mix_8 ?_
  refine g_lload_n X 1 dX8_mix_9 rfl rfl ?_
  refine g_ladd X dX8_mix_10 ?_
  refine g_topl (fun hs1 hhs1 => ?_)
  replace hw := hw hs1 hhs1
  refine g_putl (T := TX8) (C := RX8) (N := 21) X (fun z => wM ct a w z) 0 20 tyX8 tyX8_ok nmX8 (fun _ h => (List.mem_cons_of_mem _ (List.mem_append_right _ h))) (List.mem_of_getElem? (i := 2) rfl) dX8_mix_11 rfl rfl (by decide) rfl rfl (by decide +kernel) (Nat.le_of_ble_eq_true rfl) rfl ?_
  exact g_vret X hs1 hw rfl (Nat.le_of_ble_eq_true rfl) (Nat.le_of_ble_eq_true rfl) dX8_mix_14

abbrev rmX8_mixRows : Room := { frames := 7, cells := 0, slots := 0, locals := 159 }

abbrev GX8_mixRows (l : Launch) (D : va_G) (ct : Nat → ClassId) (a : Nat → Nat) (post : Mem → Int64 → Prop) (p : Program) (e : Env) (s : State) (m : MethodId) (args : Array Value) (below : List Frame) (meth : Method) (c : Code) (A : Nat → Prop) (w9 : va_W) (lv : List (Nat × Value)) (pc : Nat) (st : List Value) : Prop :=
  GG p l e rmX8_mixRows s m args below meth c D A s.heap 3 (MQ below (va_Qv (fun (u9 : Mem × Int64) => post u9.1 u9.2) (fun u9 t9 => Af D (tyz ct) A ((fun u9 => wM ct a u9.1 u9.2) u9) t9) A)  args s 0 0 A) w9 0 0 lv pc st

set_option maxHeartbeats 4000000 in
set_option maxRecDepth 20000 in
theorem kX8_mixRows_60 (l : Launch) (D : va_G) (ct : Nat → ClassId) (a : Nat → Nat) (post : Mem → Int64 → Prop) {p : Program} {e : Env} {s : State} {m : MethodId} {args : Array Value} {below : List Frame} {meth : Method} {c : Code} {A : Nat → Prop} (X : Cx p s m args meth c cX8_mixRows 3 RX8 wsX8_mixRows D (tyz ct) A s.heap none)  :
    ∀ (n : Nat) (w : Mem) (hs : Int64) (x1 : Int32), PX8_mixRows_60 post n w hs x1 → GX8_mixRows l D ct a  post p e s m args below meth c A (wM ct a w hs) [(0, .ref (a 0)), (1, .int x1)] 60 [] := by
  intro n
  induction n with
  | zero =>
    intro w hs x1 hw
    exact hw.elim
  | succ n ih =>
    intro w hs x1 hw
    unfold PX8_mixRows_60 at hw
    refine g_iload_n X 1 dX8_mixRows_60 rfl rfl ?_
    refine g_iconst (v := 4) X rfl dX8_mixRows_61 ?_
    refine g_icmp_ge X 91 dX8_mixRows_62 (by decide) (fun c2 => ?_) (fun c2 => ?_)
    · replace hw := hw.1 c2
      exact g_vret X (w, hs) hw rfl (Nat.le_of_ble_eq_true rfl) (Nat.le_of_ble_eq_true rfl) dX8_mixRows_91
    · replace hw := hw.2 c2
      refine g_aload_n X 0 dX8_mixRows_65 rfl rfl ?_
      refine g_aload_n X 0 dX8_mixRows_66 rfl rfl ?_
      refine g_iload_n X 1 dX8_mixRows_67 rfl rfl ?_
      refine g_ciV X [wM ct a w hs] (fun (u4 : Mem) => [wM ct a u4 hs]) (fun (u4 : Mem) => wM ct a u4 hs) 1 [0] [] 0 (kX8_leastOf l D ct a w hs x1 _ hw) (cwV 1 X.1.2.2.2.2 gX8_mixRows_X8_leastOf rfl rfl rfl (by decide +kernel) ⟨Nat.le_of_ble_eq_true rfl, Nat.le_of_ble_eq_true rfl⟩) dX8_mixRows_68 rfl rfl (Nat.le_of_ble_eq_true rfl) ⟨Nat.le_of_ble_eq_true rfl, Nat.le_of_ble_eq_true rfl⟩ rfl rfl rfl (by decide) (fun _ => rfl) (fun _ => rfl) (fun _ => rfl) (fun _ => rfl) rfl rfl rfl (fun r3 u4 hw => ?_)
      obtain ⟨w5, hw5⟩ : ∃ z : Mem, z = u4 := ⟨_, rfl⟩
      rw [← hw5] at hw
      rw [← hw5]
      refine g_i2l X dX8_mixRows_71 ?_
      refine g_cvV X [wM ct a w5 hs] (fun (u6 : Int64) => [wM ct a w5 u6]) (fun (u6 : Int64) => wM ct a w5 u6) 1 [0] [] 0 (kX8_mix l D ct a w5 hs r3.toInt64 _ hw) (cwV 1 X.1.2.2.2.2 gX8_mixRows_X8_mix rfl rfl rfl (by decide +kernel) ⟨Nat.le_of_ble_eq_true rfl, Nat.le_of_ble_eq_true rfl⟩) dX8_mixRows_72 rfl rfl (Nat.le_of_ble_eq_true rfl) ⟨Nat.le_of_ble_eq_true rfl, Nat.le_of_ble_eq_true rfl⟩ rfl rfl rfl (by decide) (fun _ => rfl) (fun _ => rfl) (fun _ => rfl) (fun _ => rfl) rfl rfl rfl (fun u6 hw => ?_)
      obtain ⟨hs7, hhs7⟩ : ∃ z : Int64, z = u6 := ⟨_, rfl⟩
      rw [← hhs7] at hw
      rw [← hhs7]
      refine g_aload_n X 0 dX8_mixRows_75 rfl rfl ?_
      refine g_aload_n X 0 dX8_mixRows_76 rfl rfl ?_
      refine g_iload_n X 1 dX8_mixRows_77 rfl rfl ?_
      refine g_ciV X [wM ct a w5 hs7] (fun (u9 : Mem) => [wM ct a u9 hs7]) (fun (u9 : Mem) => wM ct a u9 hs7) 1 [0] [] 0 (kX8_leastOf l D ct a w5 hs7 x1 _ hw) (cwV 1 X.1.2.2.2.2 gX8_mixRows_X8_leastOf rfl rfl rfl (by decide +kernel) ⟨Nat.le_of_ble_eq_true rfl, Nat.le_of_ble_eq_true rfl⟩) dX8_mixRows_78 rfl rfl (Nat.le_of_ble_eq_true rfl) ⟨Nat.le_of_ble_eq_true rfl, Nat.le_of_ble_eq_true rfl⟩ rfl rfl rfl (by decide) (fun _ => rfl) (fun _ => rfl) (fun _ => rfl) (fun _ => rfl) rfl rfl rfl (fun r8 u9 hw => ?_)
      obtain ⟨w10, hw10⟩ : ∃ z : Mem, z = u9 := ⟨_, rfl⟩
      rw [← hw10] at hw
      rw [← hw10]
      refine g_i2l X dX8_mixRows_81 ?_
      refine g_cvV X [wM ct a w10 hs7] (fun (u11 : Int64) => [wM ct a w10 u11]) (fun (u11 : Int64) => wM ct a w10 u11) 1 [0] [] 0 (kX8_mix l D ct a w10 hs7 r8.toInt64 _ hw) (cwV 1 X.1.2.2.2.2 gX8_mixRows_X8_mix rfl rfl rfl (by decide +kernel) ⟨Nat.le_of_ble_eq_true rfl, Nat.le_of_ble_eq_true rfl⟩) dX8_mixRows_82 rfl rfl (Nat.le_of_ble_eq_true rfl) ⟨Nat.le_of_ble_eq_true rfl, Nat.le_of_ble_eq_true rfl⟩ rfl rfl rfl (by decide) (fun _ => rfl) (fun _ => rfl) (fun _ => rfl) (fun _ => rfl) rfl rfl rfl (fun u11 hw => ?_)
      obtain ⟨hs12, hhs12⟩ : ∃ z : Int64, z = u11 := ⟨_, rfl⟩
      rw [← hhs12] at hw
      rw [← hhs12]
      refine g_iinc X [(1, .int (x1 + 1)), (0, .ref (a 0))] 1 dX8_mixRows_85 rfl rfl (by decide) rfl ?_
      refine g_goto X 60 dX8_mixRows_88 (by decide) ?_
      refine g_sub [(0, .ref (a 0)), (1, .int (x1 + 1))] [1, 0] rfl ?_
      exact ih _ _ _ hw

set_option maxHeartbeats 4000000 in
set_option maxRecDepth 20000 in
theorem kX8_mixRows_9 (l : Launch) (D : va_G) (ct : Nat → ClassId) (a : Nat → Nat) (post : Mem → Int64 → Prop) (K2 : Mem → Int64 → Int32 → Prop) {p : Program} {e : Env} {s : State} {m : MethodId} {args : Array Value} {below : List Frame} {meth : Method} {c : Code} {A : Nat → Prop} (X : Cx p s m args meth c cX8_mixRows 3 RX8 wsX8_mixRows D (tyz ct) A s.heap none) (hK2 : ∀ (w : Mem) (hs : Int64) (x1 : Int32), K2 w hs x1 → GX8_mixRows l D ct a  post p e s m args below meth c A (wM ct a w hs) [(0, .ref (a 0)), (1, .int x1)] 2 []) :
    ∀ (n : Nat) (w : Mem) (hs : Int64) (x1 : Int32) (x2 : Int32), PX8_mixRows_9 post K2 n w hs x1 x2 → GX8_mixRows l D ct a  post p e s m args below meth c A (wM ct a w hs) [(0, .ref (a 0)), (1, .int x1), (2, .int x2)] 9 [] := by
  intro n
  induction n with
  | zero =>
    intro w hs x1 x2 hw
    exact hw.elim
  | succ n ih =>
    intro w hs x1 x2 hw
    unfold PX8_mixRows_9 at hw
    refine g_iload_n X 2 dX8_mixRows_9 rfl rfl ?_
    refine g_bipush (v := 6) X rfl dX8_mixRows_10 ?_
    refine g_icmp_ge X 32 dX8_mixRows_12 (by decide) (fun c14 => ?_) (fun c14 => ?_)
    · replace hw := hw.1 c14
      refine g_aload_n X 0 dX8_mixRows_32 rfl rfl ?_
      refine g_aload_n X 0 dX8_mixRows_33 rfl rfl ?_
      refine g_iload_n X 1 dX8_mixRows_34 rfl rfl ?_
      refine g_ciV X [wM ct a w hs] (fun (u16 : Mem) => [wM ct a u16 hs]) (fun (u16 : Mem) => wM ct a u16 hs) 1 [0] [] 0 (kX8_crossingsTo l D ct a w hs x1 _ hw) (cwV 1 X.1.2.2.2.2 gX8_mixRows_X8_crossingsTo rfl rfl rfl (by decide +kernel) ⟨Nat.le_of_ble_eq_true rfl, Nat.le_of_ble_eq_true rfl⟩) dX8_mixRows_35 rfl rfl (Nat.le_of_ble_eq_true rfl) ⟨Nat.le_of_ble_eq_true rfl, Nat.le_of_ble_eq_true rfl⟩ rfl rfl rfl (by decide) (fun _ => rfl) (fun _ => rfl) (fun _ => rfl) (fun _ => rfl) rfl rfl rfl (fun r15 u16 hw => ?_)
      obtain ⟨w17, hw17⟩ : ∃ z : Mem, z = u16 := ⟨_, rfl⟩
      rw [← hw17] at hw
      rw [← hw17]
      refine g_i2l X dX8_mixRows_38 ?_
      refine g_cvV X [wM ct a w17 hs] (fun (u18 : Int64) => [wM ct a w17 u18]) (fun (u18 : Int64) => wM ct a w17 u18) 1 [0] [] 0 (kX8_mix l D ct a w17 hs r15.toInt64 _ hw) (cwV 1 X.1.2.2.2.2 gX8_mixRows_X8_mix rfl rfl rfl (by decide +kernel) ⟨Nat.le_of_ble_eq_true rfl, Nat.le_of_ble_eq_true rfl⟩) dX8_mixRows_39 rfl rfl (Nat.le_of_ble_eq_true rfl) ⟨Nat.le_of_ble_eq_true rfl, Nat.le_of_ble_eq_true rfl⟩ rfl rfl rfl (by decide) (fun _ => rfl) (fun _ => rfl) (fun _ => rfl) (fun _ => rfl) rfl rfl rfl (fun u18 hw => ?_)
      obtain ⟨hs19, hhs19⟩ : ∃ z : Int64, z = u18 := ⟨_, rfl⟩
      rw [← hhs19] at hw
      rw [← hhs19]
      refine g_aload_n X 0 dX8_mixRows_42 rfl rfl ?_
      refine g_aload_n X 0 dX8_mixRows_43 rfl rfl ?_
      refine g_iload_n X 1 dX8_mixRows_44 rfl rfl ?_
      refine g_ciV X [wM ct a w17 hs19] (fun (u21 : Mem) => [wM ct a u21 hs19]) (fun (u21 : Mem) => wM ct a u21 hs19) 1 [0] [] 0 (kX8_crossingsTo l D ct a w17 hs19 x1 _ hw) (cwV 1 X.1.2.2.2.2 gX8_mixRows_X8_crossingsTo rfl rfl rfl (by decide +kernel) ⟨Nat.le_of_ble_eq_true rfl, Nat.le_of_ble_eq_true rfl⟩) dX8_mixRows_45 rfl rfl (Nat.le_of_ble_eq_true rfl) ⟨Nat.le_of_ble_eq_true rfl, Nat.le_of_ble_eq_true rfl⟩ rfl rfl rfl (by decide) (fun _ => rfl) (fun _ => rfl) (fun _ => rfl) (fun _ => rfl) rfl rfl rfl (fun r20 u21 hw => ?_)
      obtain ⟨w22, hw22⟩ : ∃ z : Mem, z = u21 := ⟨_, rfl⟩
      rw [← hw22] at hw
      rw [← hw22]
      refine g_i2l X dX8_mixRows_48 ?_
      refine g_cvV X [wM ct a w22 hs19] (fun (u23 : Int64) => [wM ct a w22 u23]) (fun (u23 : Int64) => wM ct a w22 u23) 1 [0] [] 0 (kX8_mix l D ct a w22 hs19 r20.toInt64 _ hw) (cwV 1 X.1.2.2.2.2 gX8_mixRows_X8_mix rfl rfl rfl (by decide +kernel) ⟨Nat.le_of_ble_eq_true rfl, Nat.le_of_ble_eq_true rfl⟩) dX8_mixRows_49 rfl rfl (Nat.le_of_ble_eq_true rfl) ⟨Nat.le_of_ble_eq_true rfl, Nat.le_of_ble_eq_true rfl⟩ rfl rfl rfl (by decide) (fun _ => rfl) (fun _ => rfl) (fun _ => rfl) (fun _ => rfl) rfl rfl rfl (fun u23 hw => ?_)
      obtain ⟨hs24, hhs24⟩ : ∃ z : Int64, z = u23 := ⟨_, rfl⟩
      rw [← hhs24] at hw
      rw [← hhs24]
      refine g_iinc X [(1, .int (x1 + 1)), (0, .ref (a 0)), (2, .int x2)] 1 dX8_mixRows_52 rfl rfl (by decide) rfl ?_
      refine g_goto X 2 dX8_mixRows_55 (by decide) ?_
      refine g_sub [(0, .ref (a 0)), (1, .int (x1 + 1))] [1, 0] rfl ?_
      exact hK2 _ _ _ hw
    · replace hw := hw.2 c14
      refine g_aload_n X 0 dX8_mixRows_15 rfl rfl ?_
      refine g_aload_n X 0 dX8_mixRows_16 rfl rfl ?_
      refine g_iload_n X 1 dX8_mixRows_17 rfl rfl ?_
      refine g_iload_n X 2 dX8_mixRows_18 rfl rfl ?_
      refine g_ciV X [wM ct a w hs] (fun (_ : Unit) => [wM ct a w hs]) (fun _ => wM ct a w hs) 1 [0] [] 0 (kX8_personAt l D ct a w hs x1 x2 _ hw) (cwV 2 X.1.2.2.2.2 gX8_mixRows_X8_personAt rfl rfl rfl (by decide +kernel) ⟨Nat.le_of_ble_eq_true rfl, Nat.le_of_ble_eq_true rfl⟩) dX8_mixRows_19 rfl rfl (Nat.le_of_ble_eq_true rfl) ⟨Nat.le_of_ble_eq_true rfl, Nat.le_of_ble_eq_true rfl⟩ rfl rfl rfl (by decide) (fun _ => rfl) (fun _ => rfl) (fun _ => rfl) (fun _ => rfl) rfl rfl rfl (fun r25 _ hw => ?_)
      refine g_i2l X dX8_mixRows_22 ?_
      refine g_cvV X [wM ct a w hs] (fun (u27 : Int64) => [wM ct a w u27]) (fun (u27 : Int64) => wM ct a w u27) 1 [0] [] 0 (kX8_mix l D ct a w hs r25.toInt64 _ hw) (cwV 1 X.1.2.2.2.2 gX8_mixRows_X8_mix rfl rfl rfl (by decide +kernel) ⟨Nat.le_of_ble_eq_true rfl, Nat.le_of_ble_eq_true rfl⟩) dX8_mixRows_23 rfl rfl (Nat.le_of_ble_eq_true rfl) ⟨Nat.le_of_ble_eq_true rfl, Nat.le_of_ble_eq_true rfl⟩ rfl rfl rfl (by decide) (fun _ => rfl) (fun _ => rfl) (fun _ => rfl) (fun _ => rfl) rfl rfl rfl (fun u27 hw => ?_)
      obtain ⟨hs28, hhs28⟩ : ∃ z : Int64, z = u27 := ⟨_, rfl⟩
      rw [← hhs28] at hw
      rw [← hhs28]
      refine g_iinc X [(2, .int (x2 + 1)), (0, .ref (a 0)), (1, .int x1)] 2 dX8_mixRows_26 rfl rfl (by decide) rfl ?_
      refine g_goto X 9 dX8_mixRows_29 (by decide) ?_
      refine g_sub [(0, .ref (a 0)), (1, .int x1), (2, .int (x2 + 1))] [1, 2, 0] rfl ?_
      exact ih _ _ _ _ hw

set_option maxHeartbeats 4000000 in
set_option maxRecDepth 20000 in
theorem kX8_mixRows_2 (l : Launch) (D : va_G) (ct : Nat → ClassId) (a : Nat → Nat) (post : Mem → Int64 → Prop) {p : Program} {e : Env} {s : State} {m : MethodId} {args : Array Value} {below : List Frame} {meth : Method} {c : Code} {A : Nat → Prop} (X : Cx p s m args meth c cX8_mixRows 3 RX8 wsX8_mixRows D (tyz ct) A s.heap none)  :
    ∀ (n : Nat) (w : Mem) (hs : Int64) (x1 : Int32), PX8_mixRows_2 post n w hs x1 → GX8_mixRows l D ct a  post p e s m args below meth c A (wM ct a w hs) [(0, .ref (a 0)), (1, .int x1)] 2 [] := by
  intro n
  induction n with
  | zero =>
    intro w hs x1 hw
    exact hw.elim
  | succ n ih =>
    intro w hs x1 hw
    unfold PX8_mixRows_2 at hw
    refine g_iload_n X 1 dX8_mixRows_2 rfl rfl ?_
    refine g_iconst (v := 4) X rfl dX8_mixRows_3 ?_
    refine g_icmp_ge X 58 dX8_mixRows_4 (by decide) (fun c1 => ?_) (fun c1 => ?_)
    · replace hw := hw.1 c1
      refine g_iconst (v := 0) X rfl dX8_mixRows_58 ?_
      refine g_istore_n X [(1, .int 0), (0, .ref (a 0))] dX8_mixRows_59 rfl (by decide) rfl ?_
      refine g_sub [(0, .ref (a 0)), (1, .int 0)] [1, 0] rfl ?_
      obtain ⟨n13, hw⟩ := hw
      exact kX8_mixRows_60 l D ct a post X n13 _ _ _ hw
    · replace hw := hw.2 c1
      refine g_iconst (v := 0) X rfl dX8_mixRows_7 ?_
      refine g_istore_n X [(2, .int 0), (0, .ref (a 0)), (1, .int x1)] dX8_mixRows_8 rfl (by decide) rfl ?_
      refine g_sub [(0, .ref (a 0)), (1, .int x1), (2, .int 0)] [1, 2, 0] rfl ?_
      obtain ⟨n29, hw⟩ := hw
      exact kX8_mixRows_9 l D ct a post _ X ih n29 _ _ _ _ hw

set_option maxHeartbeats 4000000 in
set_option maxRecDepth 20000 in
theorem kX8_mixRows (l : Launch) (D : va_G) (ct : Nat → ClassId) (a : Nat → Nat) (w : Mem) (hs : Int64) (post : Mem → Int64 → Prop) (hw : PX8_mixRows w hs post) : Cv (S := Mem × Int64) l yX8_mixRows wsX8_mixRows rmX8_mixRows D (tyz ct) [.ref (a 0)] (wM ct a w hs) (fun (u9 : Mem × Int64) => post u9.1 u9.2) (fun u9 => wM ct a u9.1 u9.2) 0 0 := by
  intro sz
  refine g_of (own := RX8) (by decide) rfl rfl (Nat.le_of_ble_eq_true rfl) [(0, .ref (a 0))] rfl (fun p e s m args below meth c hsz X => ?_)
  subst hsz
  unfold PX8_mixRows at hw
  refine g_iconst (v := 0) X rfl dX8_mixRows_0 ?_
  refine g_istore_n X [(1, .int 0), (0, .ref (a 0))] dX8_mixRows_1 rfl (by decide) rfl ?_
  refine g_sub [(0, .ref (a 0)), (1, .int 0)] [1, 0] rfl ?_
  obtain ⟨n30, hw⟩ := hw
  exact kX8_mixRows_2 l D ct a post X n30 _ _ _ hw

abbrev rmX8_digest : Room := { frames := 8, cells := 0, slots := 0, locals := 181 }

abbrev GX8_digest (l : Launch) (D : va_G) (ct : Nat → ClassId) (a : Nat → Nat) (post : Int64 → Mem → Int64 → Prop) (p : Program) (e : Env) (s : State) (m : MethodId) (args : Array Value) (below : List Frame) (meth : Method) (c : Code) (A : Nat → Prop) (w9 : va_W) (lv : List (Nat × Value)) (pc : Nat) (st : List Value) : Prop :=
  GG p l e rmX8_digest s m args below meth c D A s.heap 2 (MQ below (va_Ql (fun r (u9 : Mem × Int64) => post r u9.1 u9.2) (fun u9 t9 => Af D (tyz ct) A ((fun u9 => wM ct a u9.1 u9.2) u9) t9) A)  args s 0 0 A) w9 0 0 lv pc st

set_option maxHeartbeats 4000000 in
set_option maxRecDepth 20000 in
theorem kX8_digest_212 (l : Launch) (D : va_G) (ct : Nat → ClassId) (a : Nat → Nat) (post : Int64 → Mem → Int64 → Prop) {p : Program} {e : Env} {s : State} {m : MethodId} {args : Array Value} {below : List Frame} {meth : Method} {c : Code} {A : Nat → Prop} (X : Cx p s m args meth c cX8_digest 2 RX8 wsX8_digest D (tyz ct) A s.heap (some .long))  :
    ∀ (n : Nat) (w : Mem) (hs : Int64) (x1 : Int32), PX8_digest_212 post n w hs x1 → GX8_digest l D ct a  post p e s m args below meth c A (wM ct a w hs) [(0, .ref (a 0)), (1, .int x1)] 212 [] := by
  intro n
  induction n with
  | zero =>
    intro w hs x1 hw
    exact hw.elim
  | succ n ih =>
    intro w hs x1 hw
    unfold PX8_digest_212 at hw
    refine g_iload_n X 1 dX8_digest_212 rfl rfl ?_
    refine g_aload_n X 0 dX8_digest_213 rfl rfl ?_
    refine g_get (T := TX8) (C := RX8) (N := 21) (v := .int (w 13 0)) X 0 13 (fun _ h => (List.mem_cons_of_mem _ (List.mem_append_right _ h))) (List.mem_of_getElem? (i := 6) rfl) dX8_digest_214 rfl rfl (by decide) rfl rfl ?_
    refine g_icmp_ge X 237 dX8_digest_217 (by decide) (fun c35 => ?_) (fun c35 => ?_)
    · replace hw := hw.1 c35
      refine g_aload_n X 0 dX8_digest_237 rfl rfl ?_
      refine g_get (T := TX8) (C := RX8) (N := 21) (v := .long hs) X 0 20 (fun _ h => (List.mem_cons_of_mem _ (List.mem_append_right _ h))) (List.mem_of_getElem? (i := 3) rfl) dX8_digest_238 rfl rfl (by decide) rfl rfl ?_
      exact g_lret X (w, hs) hw rfl (Nat.le_of_ble_eq_true rfl) (Nat.le_of_ble_eq_true rfl) dX8_digest_241
    · replace hw := hw.2 c35
      refine g_aload_n X 0 dX8_digest_220 rfl rfl ?_
      refine g_aload_n X 0 dX8_digest_221 rfl rfl ?_
      refine g_get (T := TX8) (C := RX8) (N := 21) (v := .ref (a 13)) X 0 12 (fun _ h => (List.mem_cons_of_mem _ (List.mem_append_right _ h))) (List.mem_of_getElem? (i := 7) rfl) dX8_digest_222 rfl rfl (by decide) rfl rfl ?_
      refine g_iload_n X 1 dX8_digest_225 rfl rfl ?_
      obtain ⟨h36, hw⟩ := hw
      refine g_iald X 10 0 dX8_digest_226 rfl rfl h36 ?_
      refine g_i2l X dX8_digest_227 ?_
      refine g_cvV X [wM ct a w hs] (fun (u37 : Int64) => [wM ct a w u37]) (fun (u37 : Int64) => wM ct a w u37) 1 [0] [] 0 (kX8_mix l D ct a w hs ((w 12 (ix x1)).toInt64) _ hw) (cwV 1 X.1.2.2.2.2 gX8_digest_X8_mix rfl rfl rfl (by decide +kernel) ⟨Nat.le_of_ble_eq_true rfl, Nat.le_of_ble_eq_true rfl⟩) dX8_digest_228 rfl rfl (Nat.le_of_ble_eq_true rfl) ⟨Nat.le_of_ble_eq_true rfl, Nat.le_of_ble_eq_true rfl⟩ rfl rfl rfl (by decide) (fun _ => rfl) (fun _ => rfl) (fun _ => rfl) (fun _ => rfl) rfl rfl rfl (fun u37 hw => ?_)
      obtain ⟨hs38, hhs38⟩ : ∃ z : Int64, z = u37 := ⟨_, rfl⟩
      rw [← hhs38] at hw
      rw [← hhs38]
      refine g_iinc X [(1, .int (x1 + 1)), (0, .ref (a 0))] 1 dX8_digest_231 rfl rfl (by decide) rfl ?_
      refine g_goto X 212 dX8_digest_234 (by decide) ?_
      refine g_sub [(0, .ref (a 0)), (1, .int (x1 + 1))] [1, 0] rfl ?_
      exact ih _ _ _ hw

set_option maxHeartbeats 4000000 in
set_option maxRecDepth 20000 in
theorem kX8_digest_198 (l : Launch) (D : va_G) (ct : Nat → ClassId) (a : Nat → Nat) (post : Int64 → Mem → Int64 → Prop) {p : Program} {e : Env} {s : State} {m : MethodId} {args : Array Value} {below : List Frame} {meth : Method} {c : Code} {A : Nat → Prop} (X : Cx p s m args meth c cX8_digest 2 RX8 wsX8_digest D (tyz ct) A s.heap (some .long))  :
    ∀ (w : Mem) (hs : Int64) (z0 : Int64), PX8_digest_198 post w hs z0 → GX8_digest l D ct a  post p e s m args below meth c A (wM ct a w hs) [(0, .ref (a 0))] 198 [.long z0, .ref (a 0)] := by
  intro w hs z0 hw
  unfold PX8_digest_198 at hw
  refine g_cvV X [wM ct a w hs] (fun (u31 : Int64) => [wM ct a w u31]) (fun (u31 : Int64) => wM ct a w u31) 1 [0] [] 0 (kX8_mix l D ct a w hs z0 _ hw) (cwV 1 X.1.2.2.2.2 gX8_digest_X8_mix rfl rfl rfl (by decide +kernel) ⟨Nat.le_of_ble_eq_true rfl, Nat.le_of_ble_eq_true rfl⟩) dX8_digest_198 rfl rfl (Nat.le_of_ble_eq_true rfl) ⟨Nat.le_of_ble_eq_true rfl, Nat.le_of_ble_eq_true rfl⟩ rfl rfl rfl (by decide) (fun _ => rfl) (fun _ => rfl) (fun _ => rfl) (fun _ => rfl) rfl rfl rfl (fun u31 hw => ?_)
  obtain ⟨hs32, hhs32⟩ : ∃ z : Int64, z = u31 := ⟨_, rfl⟩
  rw [← hhs32] at hw
  rw [← hhs32]
  refine g_aload_n X 0 dX8_digest_201 rfl rfl ?_
  refine g_aload_n X 0 dX8_digest_202 rfl rfl ?_
  refine g_get (T := TX8) (C := RX8) (N := 21) (v := .int (w 13 0)) X 0 13 (fun _ h => (List.mem_cons_of_mem _ (List.mem_append_right _ h))) (List.mem_of_getElem? (i := 6) rfl) dX8_digest_203 rfl rfl (by decide) rfl rfl ?_
  refine g_i2l X dX8_digest_206 ?_
  refine g_cvV X [wM ct a w hs32] (fun (u33 : Int64) => [wM ct a w u33]) (fun (u33 : Int64) => wM ct a w u33) 1 [0] [] 0 (kX8_mix l D ct a w hs32 ((w 13 0).toInt64) _ hw) (cwV 1 X.1.2.2.2.2 gX8_digest_X8_mix rfl rfl rfl (by decide +kernel) ⟨Nat.le_of_ble_eq_true rfl, Nat.le_of_ble_eq_true rfl⟩) dX8_digest_207 rfl rfl (Nat.le_of_ble_eq_true rfl) ⟨Nat.le_of_ble_eq_true rfl, Nat.le_of_ble_eq_true rfl⟩ rfl rfl rfl (by decide) (fun _ => rfl) (fun _ => rfl) (fun _ => rfl) (fun _ => rfl) rfl rfl rfl (fun u33 hw => ?_)
  obtain ⟨hs34, hhs34⟩ : ∃ z : Int64, z = u33 := ⟨_, rfl⟩
  rw [← hhs34] at hw
  rw [← hhs34]
  refine g_iconst (v := 0) X rfl dX8_digest_210 ?_
  refine g_istore_n X [(1, .int 0), (0, .ref (a 0))] dX8_digest_211 rfl (by decide) rfl ?_
  refine g_sub [(0, .ref (a 0)), (1, .int 0)] [1, 0] rfl ?_
  obtain ⟨n39, hw⟩ := hw
  exact kX8_digest_212 l D ct a post X n39 _ _ _ hw

set_option maxHeartbeats 4000000 in
set_option maxRecDepth 20000 in
theorem kX8_digest_180 (l : Launch) (D : va_G) (ct : Nat → ClassId) (a : Nat → Nat) (post : Int64 → Mem → Int64 → Prop) {p : Program} {e : Env} {s : State} {m : MethodId} {args : Array Value} {below : List Frame} {meth : Method} {c : Code} {A : Nat → Prop} (X : Cx p s m args meth c cX8_digest 2 RX8 wsX8_digest D (tyz ct) A s.heap (some .long))  :
    ∀ (w : Mem) (hs : Int64) (z0 : Int64), PX8_digest_180 post w hs z0 → GX8_digest l D ct a  post p e s m args below meth c A (wM ct a w hs) [(0, .ref (a 0))] 180 [.long z0, .ref (a 0)] := by
  intro w hs z0 hw
  unfold PX8_digest_180 at hw
  refine g_cvV X [wM ct a w hs] (fun (u27 : Int64) => [wM ct a w u27]) (fun (u27 : Int64) => wM ct a w u27) 1 [0] [] 0 (kX8_mix l D ct a w hs z0 _ hw) (cwV 1 X.1.2.2.2.2 gX8_digest_X8_mix rfl rfl rfl (by decide +kernel) ⟨Nat.le_of_ble_eq_true rfl, Nat.le_of_ble_eq_true rfl⟩) dX8_digest_180 rfl rfl (Nat.le_of_ble_eq_true rfl) ⟨Nat.le_of_ble_eq_true rfl, Nat.le_of_ble_eq_true rfl⟩ rfl rfl rfl (by decide) (fun _ => rfl) (fun _ => rfl) (fun _ => rfl) (fun _ => rfl) rfl rfl rfl (fun u27 hw => ?_)
  obtain ⟨hs28, hhs28⟩ : ∃ z : Int64, z = u27 := ⟨_, rfl⟩
  rw [← hhs28] at hw
  rw [← hhs28]
  refine g_aload_n X 0 dX8_digest_183 rfl rfl ?_
  refine g_aload_n X 0 dX8_digest_184 rfl rfl ?_
  refine g_get (T := TX8) (C := RX8) (N := 21) (v := .ref (a 5)) X 0 4 (fun _ h => (List.mem_cons_of_mem _ (List.mem_append_right _ h))) (List.mem_of_getElem? (i := 5) rfl) dX8_digest_185 rfl rfl (by decide) rfl rfl ?_
  refine g_iconst (v := 1) X rfl dX8_digest_188 ?_
  obtain ⟨h29, hw⟩ := hw
  refine g_zald X 4 2 dX8_digest_189 rfl rfl h29 ?_
  refine g_if_eq X 197 dX8_digest_190 (by decide) (fun c30 => ?_) (fun c30 => ?_)
  · replace hw := hw.1 c30
    refine g_lconst (v := 0) X rfl dX8_digest_197 ?_
    refine g_sub [(0, .ref (a 0))] [0] rfl ?_
    exact kX8_digest_198 l D ct a post X _ _ _ hw
  · replace hw := hw.2 c30
    refine g_lconst (v := 1) X rfl dX8_digest_193 ?_
    refine g_goto X 198 dX8_digest_194 (by decide) ?_
    refine g_sub [(0, .ref (a 0))] [0] rfl ?_
    exact kX8_digest_198 l D ct a post X _ _ _ hw

set_option maxHeartbeats 4000000 in
set_option maxRecDepth 20000 in
theorem kX8_digest_127 (l : Launch) (D : va_G) (ct : Nat → ClassId) (a : Nat → Nat) (post : Int64 → Mem → Int64 → Prop) {p : Program} {e : Env} {s : State} {m : MethodId} {args : Array Value} {below : List Frame} {meth : Method} {c : Code} {A : Nat → Prop} (X : Cx p s m args meth c cX8_digest 2 RX8 wsX8_digest D (tyz ct) A s.heap (some .long))  :
    ∀ (n : Nat) (w : Mem) (hs : Int64) (x1 : Int32), PX8_digest_127 post n w hs x1 → GX8_digest l D ct a  post p e s m args below meth c A (wM ct a w hs) [(0, .ref (a 0)), (1, .int x1)] 127 [] := by
  intro n
  induction n with
  | zero =>
    intro w hs x1 hw
    exact hw.elim
  | succ n ih =>
    intro w hs x1 hw
    unfold PX8_digest_127 at hw
    refine g_iload_n X 1 dX8_digest_127 rfl rfl ?_
    refine g_aload_n X 0 dX8_digest_128 rfl rfl ?_
    refine g_get (T := TX8) (C := RX8) (N := 21) (v := .ref (a 1)) X 0 0 (fun _ h => (List.mem_cons_of_mem _ (List.mem_append_right _ h))) (List.mem_of_getElem? (i := 4) rfl) dX8_digest_129 rfl rfl (by decide) rfl rfl ?_
    refine g_iconst (v := 0) X rfl dX8_digest_132 ?_
    obtain ⟨h16, hw⟩ := hw
    refine g_iald X 1 0 dX8_digest_133 rfl rfl h16 ?_
    refine g_icmp_ge X 154 dX8_digest_134 (by decide) (fun c17 => ?_) (fun c17 => ?_)
    · replace hw := hw.1 c17
      refine g_aload_n X 0 dX8_digest_154 rfl rfl ?_
      refine g_aload_n X 0 dX8_digest_155 rfl rfl ?_
      refine g_cdV X [wM ct a w hs] (fun (u19 : Mem) => [wM ct a u19 hs]) (fun (u19 : Mem) => wM ct a u19 hs) 1 [0] [] 0 (kX8_share l D ct a w hs _ hw) (cwV 0 X.1.2.2.2.2 gX8_digest_X8_share rfl rfl rfl (by decide +kernel) ⟨Nat.le_of_ble_eq_true rfl, Nat.le_of_ble_eq_true rfl⟩) dX8_digest_156 rfl rfl (Nat.le_of_ble_eq_true rfl) ⟨Nat.le_of_ble_eq_true rfl, Nat.le_of_ble_eq_true rfl⟩ rfl rfl rfl (by decide) (fun _ => rfl) (fun _ => rfl) (fun _ => rfl) (fun _ => rfl) rfl rfl rfl (fun r18 u19 hw => ?_)
      obtain ⟨w20, hw20⟩ : ∃ z : Mem, z = u19 := ⟨_, rfl⟩
      rw [← hw20] at hw
      rw [← hw20]
      refine g_clS X [wM ct a w20 hs] (fun (_ : Unit) => [wM ct a w20 hs]) (fun _ => wM ct a w20 hs) 1 [] [0] (kJxe99ae_doubleToLongBits_ccdee l D ct  r18 _ hw) (va_cwS 1 X.1.2.2.2.2 gX8_digest_Jxe99ae_doubleToLongBits_ccdee rfl rfl rfl (by decide +kernel) ⟨Nat.le_of_ble_eq_true rfl, Nat.le_of_ble_eq_true rfl⟩) dX8_digest_159 rfl rfl (Nat.le_of_ble_eq_true rfl) ⟨Nat.le_of_ble_eq_true rfl, Nat.le_of_ble_eq_true rfl⟩ rfl rfl rfl (by decide) (fun _ => rfl) (fun _ => rfl) (fun _ => rfl) (fun _ => rfl) (fun r21 _ hw => ?_)
      refine g_cvV X [wM ct a w20 hs] (fun (u23 : Int64) => [wM ct a w20 u23]) (fun (u23 : Int64) => wM ct a w20 u23) 1 [0] [] 0 (kX8_mix l D ct a w20 hs r21 _ hw) (cwV 1 X.1.2.2.2.2 gX8_digest_X8_mix rfl rfl rfl (by decide +kernel) ⟨Nat.le_of_ble_eq_true rfl, Nat.le_of_ble_eq_true rfl⟩) dX8_digest_162 rfl rfl (Nat.le_of_ble_eq_true rfl) ⟨Nat.le_of_ble_eq_true rfl, Nat.le_of_ble_eq_true rfl⟩ rfl rfl rfl (by decide) (fun _ => rfl) (fun _ => rfl) (fun _ => rfl) (fun _ => rfl) rfl rfl rfl (fun u23 hw => ?_)
      obtain ⟨hs24, hhs24⟩ : ∃ z : Int64, z = u23 := ⟨_, rfl⟩
      rw [← hhs24] at hw
      rw [← hhs24]
      refine g_aload_n X 0 dX8_digest_165 rfl rfl ?_
      refine g_aload_n X 0 dX8_digest_166 rfl rfl ?_
      refine g_get (T := TX8) (C := RX8) (N := 21) (v := .ref (a 5)) X 0 4 (fun _ h => (List.mem_cons_of_mem _ (List.mem_append_right _ h))) (List.mem_of_getElem? (i := 5) rfl) dX8_digest_167 rfl rfl (by decide) rfl rfl ?_
      refine g_iconst (v := 0) X rfl dX8_digest_170 ?_
      obtain ⟨h25, hw⟩ := hw
      refine g_zald X 4 2 dX8_digest_171 rfl rfl h25 ?_
      refine g_if_eq X 179 dX8_digest_172 (by decide) (fun c26 => ?_) (fun c26 => ?_)
      · replace hw := hw.1 c26
        refine g_lconst (v := 0) X rfl dX8_digest_179 ?_
        refine g_sub [(0, .ref (a 0))] [0] rfl ?_
        exact kX8_digest_180 l D ct a post X _ _ _ hw
      · replace hw := hw.2 c26
        refine g_lconst (v := 1) X rfl dX8_digest_175 ?_
        refine g_goto X 180 dX8_digest_176 (by decide) ?_
        refine g_sub [(0, .ref (a 0))] [0] rfl ?_
        exact kX8_digest_180 l D ct a post X _ _ _ hw
    · replace hw := hw.2 c17
      refine g_aload_n X 0 dX8_digest_137 rfl rfl ?_
      refine g_aload_n X 0 dX8_digest_138 rfl rfl ?_
      refine g_iconst (v := 0) X rfl dX8_digest_139 ?_
      refine g_iload_n X 1 dX8_digest_140 rfl rfl ?_
      refine g_ciV X [wM ct a w hs] (fun (_ : Unit) => [wM ct a w hs]) (fun _ => wM ct a w hs) 1 [0] [] 0 (kX8_near l D ct a w hs 0 x1 _ hw) (cwV 2 X.1.2.2.2.2 gX8_digest_X8_near rfl rfl rfl (by decide +kernel) ⟨Nat.le_of_ble_eq_true rfl, Nat.le_of_ble_eq_true rfl⟩) dX8_digest_141 rfl rfl (Nat.le_of_ble_eq_true rfl) ⟨Nat.le_of_ble_eq_true rfl, Nat.le_of_ble_eq_true rfl⟩ rfl rfl rfl (by decide) (fun _ => rfl) (fun _ => rfl) (fun _ => rfl) (fun _ => rfl) rfl rfl rfl (fun r40 _ hw => ?_)
      refine g_i2l X dX8_digest_144 ?_
      refine g_cvV X [wM ct a w hs] (fun (u42 : Int64) => [wM ct a w u42]) (fun (u42 : Int64) => wM ct a w u42) 1 [0] [] 0 (kX8_mix l D ct a w hs r40.toInt64 _ hw) (cwV 1 X.1.2.2.2.2 gX8_digest_X8_mix rfl rfl rfl (by decide +kernel) ⟨Nat.le_of_ble_eq_true rfl, Nat.le_of_ble_eq_true rfl⟩) dX8_digest_145 rfl rfl (Nat.le_of_ble_eq_true rfl) ⟨Nat.le_of_ble_eq_true rfl, Nat.le_of_ble_eq_true rfl⟩ rfl rfl rfl (by decide) (fun _ => rfl) (fun _ => rfl) (fun _ => rfl) (fun _ => rfl) rfl rfl rfl (fun u42 hw => ?_)
      obtain ⟨hs43, hhs43⟩ : ∃ z : Int64, z = u42 := ⟨_, rfl⟩
      rw [← hhs43] at hw
      rw [← hhs43]
      refine g_iinc X [(1, .int (x1 + 1)), (0, .ref (a 0))] 1 dX8_digest_148 rfl rfl (by decide) rfl ?_
      refine g_goto X 127 dX8_digest_151 (by decide) ?_
      refine g_sub [(0, .ref (a 0)), (1, .int (x1 + 1))] [1, 0] rfl ?_
      exact ih _ _ _ hw

set_option maxHeartbeats 4000000 in
set_option maxRecDepth 20000 in
theorem kX8_digest_76 (l : Launch) (D : va_G) (ct : Nat → ClassId) (a : Nat → Nat) (post : Int64 → Mem → Int64 → Prop) {p : Program} {e : Env} {s : State} {m : MethodId} {args : Array Value} {below : List Frame} {meth : Method} {c : Code} {A : Nat → Prop} (X : Cx p s m args meth c cX8_digest 2 RX8 wsX8_digest D (tyz ct) A s.heap (some .long))  :
    ∀ (n : Nat) (w : Mem) (hs : Int64) (x1 : Int32), PX8_digest_76 post n w hs x1 → GX8_digest l D ct a  post p e s m args below meth c A (wM ct a w hs) [(0, .ref (a 0)), (1, .int x1)] 76 [] := by
  intro n
  induction n with
  | zero =>
    intro w hs x1 hw
    exact hw.elim
  | succ n ih =>
    intro w hs x1 hw
    unfold PX8_digest_76 at hw
    refine g_iload_n X 1 dX8_digest_76 rfl rfl ?_
    refine g_bipush (v := 6) X rfl dX8_digest_77 ?_
    refine g_aload_n X 0 dX8_digest_79 rfl rfl ?_
    refine g_get (T := TX8) (C := RX8) (N := 21) (v := .ref (a 1)) X 0 0 (fun _ h => (List.mem_cons_of_mem _ (List.mem_append_right _ h))) (List.mem_of_getElem? (i := 4) rfl) dX8_digest_80 rfl rfl (by decide) rfl rfl ?_
    refine g_iconst (v := 1) X rfl dX8_digest_83 ?_
    obtain ⟨h6, hw⟩ := hw
    refine g_iald X 1 0 dX8_digest_84 rfl rfl h6 ?_
    refine g_imul X dX8_digest_85 ?_
    refine g_icmp_ge X 112 dX8_digest_86 (by decide) (fun c7 => ?_) (fun c7 => ?_)
    · replace hw := hw.1 c7
      refine g_aload_n X 0 dX8_digest_112 rfl rfl ?_
      refine g_cvV X [wM ct a w hs] (fun (u8 : Mem × Int64) => [wM ct a u8.1 u8.2]) (fun (u8 : Mem × Int64) => wM ct a u8.1 u8.2) 1 [0] [] 0 (kX8_mixRows l D ct a w hs _ hw) (cwV 0 X.1.2.2.2.2 gX8_digest_X8_mixRows rfl rfl rfl (by decide +kernel) ⟨Nat.le_of_ble_eq_true rfl, Nat.le_of_ble_eq_true rfl⟩) dX8_digest_113 rfl rfl (Nat.le_of_ble_eq_true rfl) ⟨Nat.le_of_ble_eq_true rfl, Nat.le_of_ble_eq_true rfl⟩ rfl rfl rfl (by decide) (fun _ => rfl) (fun _ => rfl) (fun _ => rfl) (fun _ => rfl) rfl rfl rfl (fun u8 hw => ?_)
      obtain ⟨w9, hw9⟩ : ∃ z : Mem, z = u8.1 := ⟨_, rfl⟩
      rw [← hw9] at hw
      rw [← hw9]
      obtain ⟨hs10, hhs10⟩ : ∃ z : Int64, z = u8.2 := ⟨_, rfl⟩
      rw [← hhs10] at hw
      rw [← hhs10]
      refine g_aload_n X 0 dX8_digest_116 rfl rfl ?_
      refine g_aload_n X 0 dX8_digest_117 rfl rfl ?_
      refine g_ciV X [wM ct a w9 hs10] (fun (u12 : Mem) => [wM ct a u12 hs10]) (fun (u12 : Mem) => wM ct a u12 hs10) 1 [0] [] 0 (kX8_bestOfAll l D ct a w9 hs10 _ hw) (cwV 0 X.1.2.2.2.2 gX8_digest_X8_bestOfAll rfl rfl rfl (by decide +kernel) ⟨Nat.le_of_ble_eq_true rfl, Nat.le_of_ble_eq_true rfl⟩) dX8_digest_118 rfl rfl (Nat.le_of_ble_eq_true rfl) ⟨Nat.le_of_ble_eq_true rfl, Nat.le_of_ble_eq_true rfl⟩ rfl rfl rfl (by decide) (fun _ => rfl) (fun _ => rfl) (fun _ => rfl) (fun _ => rfl) rfl rfl rfl (fun r11 u12 hw => ?_)
      obtain ⟨w13, hw13⟩ : ∃ z : Mem, z = u12 := ⟨_, rfl⟩
      rw [← hw13] at hw
      rw [← hw13]
      refine g_i2l X dX8_digest_121 ?_
      refine g_cvV X [wM ct a w13 hs10] (fun (u14 : Int64) => [wM ct a w13 u14]) (fun (u14 : Int64) => wM ct a w13 u14) 1 [0] [] 0 (kX8_mix l D ct a w13 hs10 r11.toInt64 _ hw) (cwV 1 X.1.2.2.2.2 gX8_digest_X8_mix rfl rfl rfl (by decide +kernel) ⟨Nat.le_of_ble_eq_true rfl, Nat.le_of_ble_eq_true rfl⟩) dX8_digest_122 rfl rfl (Nat.le_of_ble_eq_true rfl) ⟨Nat.le_of_ble_eq_true rfl, Nat.le_of_ble_eq_true rfl⟩ rfl rfl rfl (by decide) (fun _ => rfl) (fun _ => rfl) (fun _ => rfl) (fun _ => rfl) rfl rfl rfl (fun u14 hw => ?_)
      obtain ⟨hs15, hhs15⟩ : ∃ z : Int64, z = u14 := ⟨_, rfl⟩
      rw [← hhs15] at hw
      rw [← hhs15]
      refine g_iconst (v := 0) X rfl dX8_digest_125 ?_
      refine g_istore_n X [(1, .int 0), (0, .ref (a 0))] dX8_digest_126 rfl (by decide) rfl ?_
      refine g_sub [(0, .ref (a 0)), (1, .int 0)] [1, 0] rfl ?_
      obtain ⟨n44, hw⟩ := hw
      exact kX8_digest_127 l D ct a post X n44 _ _ _ hw
    · replace hw := hw.2 c7
      refine g_aload_n X 0 dX8_digest_89 rfl rfl ?_
      refine g_aload_n X 0 dX8_digest_90 rfl rfl ?_
      refine g_iload_n X 1 dX8_digest_91 rfl rfl ?_
      refine g_bipush (v := 6) X rfl dX8_digest_92 ?_
      refine g_idiv X (by decide) dX8_digest_94 ?_
      refine g_iload_n X 1 dX8_digest_95 rfl rfl ?_
      refine g_bipush (v := 6) X rfl dX8_digest_96 ?_
      refine g_irem X (by decide) dX8_digest_98 ?_
      refine g_ciV X [wM ct a w hs] (fun (_ : Unit) => [wM ct a w hs]) (fun _ => wM ct a w hs) 1 [0] [] 0 (kX8_ofCouple l D ct a w hs (x1 / 6) (x1 - x1 / 6 * 6) _ hw) (cwV 2 X.1.2.2.2.2 gX8_digest_X8_ofCouple rfl rfl rfl (by decide +kernel) ⟨Nat.le_of_ble_eq_true rfl, Nat.le_of_ble_eq_true rfl⟩) dX8_digest_99 rfl rfl (Nat.le_of_ble_eq_true rfl) ⟨Nat.le_of_ble_eq_true rfl, Nat.le_of_ble_eq_true rfl⟩ rfl rfl rfl (by decide) (fun _ => rfl) (fun _ => rfl) (fun _ => rfl) (fun _ => rfl) rfl rfl rfl (fun r45 _ hw => ?_)
      refine g_i2l X dX8_digest_102 ?_
      refine g_cvV X [wM ct a w hs] (fun (u47 : Int64) => [wM ct a w u47]) (fun (u47 : Int64) => wM ct a w u47) 1 [0] [] 0 (kX8_mix l D ct a w hs r45.toInt64 _ hw) (cwV 1 X.1.2.2.2.2 gX8_digest_X8_mix rfl rfl rfl (by decide +kernel) ⟨Nat.le_of_ble_eq_true rfl, Nat.le_of_ble_eq_true rfl⟩) dX8_digest_103 rfl rfl (Nat.le_of_ble_eq_true rfl) ⟨Nat.le_of_ble_eq_true rfl, Nat.le_of_ble_eq_true rfl⟩ rfl rfl rfl (by decide) (fun _ => rfl) (fun _ => rfl) (fun _ => rfl) (fun _ => rfl) rfl rfl rfl (fun u47 hw => ?_)
      obtain ⟨hs48, hhs48⟩ : ∃ z : Int64, z = u47 := ⟨_, rfl⟩
      rw [← hhs48] at hw
      rw [← hhs48]
      refine g_iinc X [(1, .int (x1 + 1)), (0, .ref (a 0))] 1 dX8_digest_106 rfl rfl (by decide) rfl ?_
      refine g_goto X 76 dX8_digest_109 (by decide) ?_
      refine g_sub [(0, .ref (a 0)), (1, .int (x1 + 1))] [1, 0] rfl ?_
      exact ih _ _ _ hw

set_option maxHeartbeats 4000000 in
set_option maxRecDepth 20000 in
theorem kX8_digest_38 (l : Launch) (D : va_G) (ct : Nat → ClassId) (a : Nat → Nat) (post : Int64 → Mem → Int64 → Prop) {p : Program} {e : Env} {s : State} {m : MethodId} {args : Array Value} {below : List Frame} {meth : Method} {c : Code} {A : Nat → Prop} (X : Cx p s m args meth c cX8_digest 2 RX8 wsX8_digest D (tyz ct) A s.heap (some .long))  :
    ∀ (n : Nat) (w : Mem) (hs : Int64) (x1 : Int32), PX8_digest_38 post n w hs x1 → GX8_digest l D ct a  post p e s m args below meth c A (wM ct a w hs) [(0, .ref (a 0)), (1, .int x1)] 38 [] := by
  intro n
  induction n with
  | zero =>
    intro w hs x1 hw
    exact hw.elim
  | succ n ih =>
    intro w hs x1 hw
    unfold PX8_digest_38 at hw
    refine g_iload_n X 1 dX8_digest_38 rfl rfl ?_
    refine g_bipush (v := 7) X rfl dX8_digest_39 ?_
    refine g_aload_n X 0 dX8_digest_41 rfl rfl ?_
    refine g_get (T := TX8) (C := RX8) (N := 21) (v := .ref (a 1)) X 0 0 (fun _ h => (List.mem_cons_of_mem _ (List.mem_append_right _ h))) (List.mem_of_getElem? (i := 4) rfl) dX8_digest_42 rfl rfl (by decide) rfl rfl ?_
    refine g_iconst (v := 0) X rfl dX8_digest_45 ?_
    obtain ⟨h4, hw⟩ := hw
    refine g_iald X 1 0 dX8_digest_46 rfl rfl h4 ?_
    refine g_imul X dX8_digest_47 ?_
    refine g_icmp_ge X 74 dX8_digest_48 (by decide) (fun c5 => ?_) (fun c5 => ?_)
    · replace hw := hw.1 c5
      refine g_iconst (v := 0) X rfl dX8_digest_74 ?_
      refine g_istore_n X [(1, .int 0), (0, .ref (a 0))] dX8_digest_75 rfl (by decide) rfl ?_
      refine g_sub [(0, .ref (a 0)), (1, .int 0)] [1, 0] rfl ?_
      obtain ⟨n49, hw⟩ := hw
      exact kX8_digest_76 l D ct a post X n49 _ _ _ hw
    · replace hw := hw.2 c5
      refine g_aload_n X 0 dX8_digest_51 rfl rfl ?_
      refine g_aload_n X 0 dX8_digest_52 rfl rfl ?_
      refine g_iload_n X 1 dX8_digest_53 rfl rfl ?_
      refine g_bipush (v := 7) X rfl dX8_digest_54 ?_
      refine g_idiv X (by decide) dX8_digest_56 ?_
      refine g_iload_n X 1 dX8_digest_57 rfl rfl ?_
      refine g_bipush (v := 7) X rfl dX8_digest_58 ?_
      refine g_irem X (by decide) dX8_digest_60 ?_
      refine g_ciV X [wM ct a w hs] (fun (_ : Unit) => [wM ct a w hs]) (fun _ => wM ct a w hs) 1 [0] [] 0 (kX8_ofPerson l D ct a w hs (x1 / 7) (x1 - x1 / 7 * 7) _ hw) (cwV 2 X.1.2.2.2.2 gX8_digest_X8_ofPerson rfl rfl rfl (by decide +kernel) ⟨Nat.le_of_ble_eq_true rfl, Nat.le_of_ble_eq_true rfl⟩) dX8_digest_61 rfl rfl (Nat.le_of_ble_eq_true rfl) ⟨Nat.le_of_ble_eq_true rfl, Nat.le_of_ble_eq_true rfl⟩ rfl rfl rfl (by decide) (fun _ => rfl) (fun _ => rfl) (fun _ => rfl) (fun _ => rfl) rfl rfl rfl (fun r50 _ hw => ?_)
      refine g_i2l X dX8_digest_64 ?_
      refine g_cvV X [wM ct a w hs] (fun (u52 : Int64) => [wM ct a w u52]) (fun (u52 : Int64) => wM ct a w u52) 1 [0] [] 0 (kX8_mix l D ct a w hs r50.toInt64 _ hw) (cwV 1 X.1.2.2.2.2 gX8_digest_X8_mix rfl rfl rfl (by decide +kernel) ⟨Nat.le_of_ble_eq_true rfl, Nat.le_of_ble_eq_true rfl⟩) dX8_digest_65 rfl rfl (Nat.le_of_ble_eq_true rfl) ⟨Nat.le_of_ble_eq_true rfl, Nat.le_of_ble_eq_true rfl⟩ rfl rfl rfl (by decide) (fun _ => rfl) (fun _ => rfl) (fun _ => rfl) (fun _ => rfl) rfl rfl rfl (fun u52 hw => ?_)
      obtain ⟨hs53, hhs53⟩ : ∃ z : Int64, z = u52 := ⟨_, rfl⟩
      rw [← hhs53] at hw
      rw [← hhs53]
      refine g_iinc X [(1, .int (x1 + 1)), (0, .ref (a 0))] 1 dX8_digest_68 rfl rfl (by decide) rfl ?_
      refine g_goto X 38 dX8_digest_71 (by decide) ?_
      refine g_sub [(0, .ref (a 0)), (1, .int (x1 + 1))] [1, 0] rfl ?_
      exact ih _ _ _ hw

set_option maxHeartbeats 4000000 in
set_option maxRecDepth 20000 in
theorem kX8_digest_14 (l : Launch) (D : va_G) (ct : Nat → ClassId) (a : Nat → Nat) (post : Int64 → Mem → Int64 → Prop) {p : Program} {e : Env} {s : State} {m : MethodId} {args : Array Value} {below : List Frame} {meth : Method} {c : Code} {A : Nat → Prop} (X : Cx p s m args meth c cX8_digest 2 RX8 wsX8_digest D (tyz ct) A s.heap (some .long))  :
    ∀ (n : Nat) (w : Mem) (hs : Int64) (x1 : Int32), PX8_digest_14 post n w hs x1 → GX8_digest l D ct a  post p e s m args below meth c A (wM ct a w hs) [(0, .ref (a 0)), (1, .int x1)] 14 [] := by
  intro n
  induction n with
  | zero =>
    intro w hs x1 hw
    exact hw.elim
  | succ n ih =>
    intro w hs x1 hw
    unfold PX8_digest_14 at hw
    refine g_iload_n X 1 dX8_digest_14 rfl rfl ?_
    refine g_bipush (v := 9) X rfl dX8_digest_15 ?_
    refine g_icmp_ge X 36 dX8_digest_17 (by decide) (fun c3 => ?_) (fun c3 => ?_)
    · replace hw := hw.1 c3
      refine g_iconst (v := 0) X rfl dX8_digest_36 ?_
      refine g_istore_n X [(1, .int 0), (0, .ref (a 0))] dX8_digest_37 rfl (by decide) rfl ?_
      refine g_sub [(0, .ref (a 0)), (1, .int 0)] [1, 0] rfl ?_
      obtain ⟨n54, hw⟩ := hw
      exact kX8_digest_38 l D ct a post X n54 _ _ _ hw
    · replace hw := hw.2 c3
      refine g_aload_n X 0 dX8_digest_20 rfl rfl ?_
      refine g_aload_n X 0 dX8_digest_21 rfl rfl ?_
      refine g_iload_n X 1 dX8_digest_22 rfl rfl ?_
      refine g_ciV X [wM ct a w hs] (fun (u56 : Mem) => [wM ct a u56 hs]) (fun (u56 : Mem) => wM ct a u56 hs) 1 [0] [] 0 (kX8_count0 l D ct a w hs x1 _ hw) (cwV 1 X.1.2.2.2.2 gX8_digest_X8_count0 rfl rfl rfl (by decide +kernel) ⟨Nat.le_of_ble_eq_true rfl, Nat.le_of_ble_eq_true rfl⟩) dX8_digest_23 rfl rfl (Nat.le_of_ble_eq_true rfl) ⟨Nat.le_of_ble_eq_true rfl, Nat.le_of_ble_eq_true rfl⟩ rfl rfl rfl (by decide) (fun _ => rfl) (fun _ => rfl) (fun _ => rfl) (fun _ => rfl) rfl rfl rfl (fun r55 u56 hw => ?_)
      obtain ⟨w57, hw57⟩ : ∃ z : Mem, z = u56 := ⟨_, rfl⟩
      rw [← hw57] at hw
      rw [← hw57]
      refine g_i2l X dX8_digest_26 ?_
      refine g_cvV X [wM ct a w57 hs] (fun (u58 : Int64) => [wM ct a w57 u58]) (fun (u58 : Int64) => wM ct a w57 u58) 1 [0] [] 0 (kX8_mix l D ct a w57 hs r55.toInt64 _ hw) (cwV 1 X.1.2.2.2.2 gX8_digest_X8_mix rfl rfl rfl (by decide +kernel) ⟨Nat.le_of_ble_eq_true rfl, Nat.le_of_ble_eq_true rfl⟩) dX8_digest_27 rfl rfl (Nat.le_of_ble_eq_true rfl) ⟨Nat.le_of_ble_eq_true rfl, Nat.le_of_ble_eq_true rfl⟩ rfl rfl rfl (by decide) (fun _ => rfl) (fun _ => rfl) (fun _ => rfl) (fun _ => rfl) rfl rfl rfl (fun u58 hw => ?_)
      obtain ⟨hs59, hhs59⟩ : ∃ z : Int64, z = u58 := ⟨_, rfl⟩
      rw [← hhs59] at hw
      rw [← hhs59]
      refine g_iinc X [(1, .int (x1 + 1)), (0, .ref (a 0))] 1 dX8_digest_30 rfl rfl (by decide) rfl ?_
      refine g_goto X 14 dX8_digest_33 (by decide) ?_
      refine g_sub [(0, .ref (a 0)), (1, .int (x1 + 1))] [1, 0] rfl ?_
      exact ih _ _ _ hw

set_option maxHeartbeats 4000000 in
set_option maxRecDepth 20000 in
theorem kX8_digest (l : Launch) (D : va_G) (ct : Nat → ClassId) (a : Nat → Nat) (w : Mem) (hs : Int64) (post : Int64 → Mem → Int64 → Prop) (hw : PX8_digest w hs post) : Cl (S := Mem × Int64) l yX8_digest wsX8_digest rmX8_digest D (tyz ct) [.ref (a 0)] (wM ct a w hs) (fun r (u9 : Mem × Int64) => post r u9.1 u9.2) (fun u9 => wM ct a u9.1 u9.2) 0 0 := by
  intro sz
  refine g_of (own := RX8) (by decide) rfl rfl (Nat.le_of_ble_eq_true rfl) [(0, .ref (a 0))] rfl (fun p e s m args below meth c hsz X => ?_)
  subst hsz
  unfold PX8_digest at hw
  refine g_aload_n X 0 dX8_digest_0 rfl rfl ?_
  refine g_iconst (v := 0) X rfl dX8_digest_1 ?_
  refine g_put (T := TX8) (C := RX8) (N := 21) X (fun z => wM ct a z hs) w 0 5 tyX8 tyX8_ok nmX8 (fun _ h => (List.mem_cons_of_mem _ (List.mem_append_right _ h))) (List.mem_of_getElem? (i := 1) rfl) dX8_digest_2 rfl rfl (by decide) rfl rfl (by decide +kernel) (Nat.le_of_ble_eq_true rfl) rfl (fun w1 hw1 => ?_)
  replace hw := hw w1 hw1
  refine g_aload_n X 0 dX8_digest_5 rfl rfl ?_
  refine g_ldc2 (v := (3727)) X (List.mem_of_getElem? (i := 2) rfl) dX8_digest_6 ?_
  refine g_topl (fun hs2 hhs2 => ?_)
  replace hw := hw hs2 hhs2
  refine g_putl (T := TX8) (C := RX8) (N := 21) X (fun z => wM ct a w1 z) 0 20 tyX8 tyX8_ok nmX8 (fun _ h => (List.mem_cons_of_mem _ (List.mem_append_right _ h))) (List.mem_of_getElem? (i := 3) rfl) dX8_digest_9 rfl rfl (by decide) rfl rfl (by decide +kernel) (Nat.le_of_ble_eq_true rfl) rfl ?_
  refine g_iconst (v := 0) X rfl dX8_digest_12 ?_
  refine g_istore_n X [(1, .int 0), (0, .ref (a 0))] dX8_digest_13 rfl (by decide) rfl ?_
  refine g_sub [(0, .ref (a 0)), (1, .int 0)] [1, 0] rfl ?_
  obtain ⟨n60, hw⟩ := hw
  exact kX8_digest_14 l D ct a post X n60 _ _ _ hw
