abbrev rmX0_parentBits : Room := { frames := 2, cells := 0, slots := 0, locals := 42 }

abbrev GX0_parentBits (l : Launch) (D : va_G) (ct : Nat → ClassId) (a : Nat → Nat) (v : Mem) (post : Int32 → Prop) (p : Program) (e : Env) (s : State) (m : MethodId) (args : Array Value) (below : List Frame) (meth : Method) (c : Code) (A : Nat → Prop) (w9 : va_W) (lv : List (Nat × Value)) (pc : Nat) (st : List Value) : Prop :=
  GG p l e rmX0_parentBits s m args below meth c D A s.heap 3 (MQ below (va_Qi (fun r (_ : Unit) => post r) (fun u9 t9 => Af D (tyz ct) A ((fun _ => wS ct a v) u9) t9) A)  args s 0 0 A) w9 0 0 lv pc st

set_option maxHeartbeats 4000000 in
set_option maxRecDepth 20000 in
theorem kX0_parentBits (l : Launch) (D : va_G) (ct : Nat → ClassId) (a : Nat → Nat) (v : Mem) (p2 : Int32) (post : Int32 → Prop) (hw : PX0_parentBits v p2 post) : Ci (S := Unit) l yX0_parentBits wsX0_parentBits rmX0_parentBits D (tyz ct) [.ref (a 0), .int p2] (wS ct a v) (fun r (_ : Unit) => post r) (fun _ => wS ct a v) 0 0 := by
  intro sz
  refine g_of (own := RX0) (by decide) rfl rfl (Nat.le_of_ble_eq_true rfl) [(0, .ref (a 0)), (1, .int p2)] rfl (fun p e s m args below meth c hsz X => ?_)
  subst hsz
  unfold PX0_parentBits at hw
  refine g_aload_n X 0 dX0_parentBits_0 rfl rfl ?_
  refine g_iload_n X 1 dX0_parentBits_1 rfl rfl ?_
  refine g_ciV X [wS ct a v] (fun (_ : Unit) => [wS ct a v]) (fun _ => wS ct a v) 1 [0] [] 0 (kX5_parentsOf l D ct a v p2 _ hw) (cwV 1 X.1.2.2.2.2 gX0_parentBits_X5_parentsOf rfl rfl rfl (by decide +kernel) ⟨Nat.le_of_ble_eq_true rfl, Nat.le_of_ble_eq_true rfl⟩) dX0_parentBits_2 rfl rfl (Nat.le_of_ble_eq_true rfl) ⟨Nat.le_of_ble_eq_true rfl, Nat.le_of_ble_eq_true rfl⟩ rfl rfl rfl (by decide) (fun _ => rfl) (fun _ => rfl) (fun _ => rfl) (fun _ => rfl) rfl rfl rfl (fun r1 _ hw => ?_)
  refine g_istore_n X [(2, .int r1), (0, .ref (a 0)), (1, .int p2)] dX0_parentBits_5 rfl (by decide) rfl ?_
  refine g_iload_n X 0 dX0_parentBits_6 rfl rfl ?_
  refine g_iconst (v := (-1)) X rfl dX0_parentBits_7 ?_
  refine g_icmp_ne X 13 dX0_parentBits_8 (by decide) (fun c3 => ?_) (fun c3 => ?_)
  · replace hw := hw.1 c3
    refine g_iconst (v := 1) X rfl dX0_parentBits_13 ?_
    refine g_aload_n X 1 dX0_parentBits_14 rfl rfl ?_
    refine g_iload_n X 0 dX0_parentBits_15 rfl rfl ?_
    refine g_ciV X [wS ct a v] (fun (_ : Unit) => [wS ct a v]) (fun _ => wS ct a v) 1 [0] [] 0 (kX5_lesserOf l D ct a v r1 _ hw) (cwV 1 X.1.2.2.2.2 gX0_parentBits_X5_lesserOf rfl rfl rfl (by decide +kernel) ⟨Nat.le_of_ble_eq_true rfl, Nat.le_of_ble_eq_true rfl⟩) dX0_parentBits_16 rfl rfl (Nat.le_of_ble_eq_true rfl) ⟨Nat.le_of_ble_eq_true rfl, Nat.le_of_ble_eq_true rfl⟩ rfl rfl rfl (by decide) (fun _ => rfl) (fun _ => rfl) (fun _ => rfl) (fun _ => rfl) rfl rfl rfl (fun r4 _ hw => ?_)
    refine g_ishl X dX0_parentBits_19 ?_
    refine g_iconst (v := 1) X rfl dX0_parentBits_20 ?_
    refine g_aload_n X 1 dX0_parentBits_21 rfl rfl ?_
    refine g_iload_n X 0 dX0_parentBits_22 rfl rfl ?_
    refine g_ciV X [wS ct a v] (fun (_ : Unit) => [wS ct a v]) (fun _ => wS ct a v) 1 [0] [] 0 (kX5_greaterOf l D ct a v r1 _ hw) (cwV 1 X.1.2.2.2.2 gX0_parentBits_X5_greaterOf rfl rfl rfl (by decide +kernel) ⟨Nat.le_of_ble_eq_true rfl, Nat.le_of_ble_eq_true rfl⟩) dX0_parentBits_23 rfl rfl (Nat.le_of_ble_eq_true rfl) ⟨Nat.le_of_ble_eq_true rfl, Nat.le_of_ble_eq_true rfl⟩ rfl rfl rfl (by decide) (fun _ => rfl) (fun _ => rfl) (fun _ => rfl) (fun _ => rfl) rfl rfl rfl (fun r6 _ hw => ?_)
    refine g_ishl X dX0_parentBits_26 ?_
    refine g_ior X dX0_parentBits_27 ?_
    exact g_iret X () hw rfl (Nat.le_of_ble_eq_true rfl) (Nat.le_of_ble_eq_true rfl) dX0_parentBits_28
  · replace hw := hw.2 c3
    refine g_iconst (v := 0) X rfl dX0_parentBits_11 ?_
    exact g_iret X () hw rfl (Nat.le_of_ble_eq_true rfl) (Nat.le_of_ble_eq_true rfl) dX0_parentBits_12

abbrev rmX0_ancestors : Room := { frames := 3, cells := 0, slots := 0, locals := 64 }

abbrev GX0_ancestors (l : Launch) (D : va_G) (ct : Nat → ClassId) (a : Nat → Nat) (v : Mem) (post : Int32 → Prop) (p : Program) (e : Env) (s : State) (m : MethodId) (args : Array Value) (below : List Frame) (meth : Method) (c : Code) (A : Nat → Prop) (w9 : va_W) (lv : List (Nat × Value)) (pc : Nat) (st : List Value) : Prop :=
  GG p l e rmX0_ancestors s m args below meth c D A s.heap 4 (MQ below (va_Qi (fun r (_ : Unit) => post r) (fun u9 t9 => Af D (tyz ct) A ((fun _ => wS ct a v) u9) t9) A)  args s 0 0 A) w9 0 0 lv pc st

set_option maxHeartbeats 4000000 in
set_option maxRecDepth 20000 in
theorem kX0_ancestors_10 (l : Launch) (D : va_G) (ct : Nat → ClassId) (a : Nat → Nat) (v : Mem) (post : Int32 → Prop) {p : Program} {e : Env} {s : State} {m : MethodId} {args : Array Value} {below : List Frame} {meth : Method} {c : Code} {A : Nat → Prop} (X : Cx p s m args meth c cX0_ancestors 4 RX0 wsX0_ancestors D (tyz ct) A s.heap (some .int))  :
    ∀ (n : Nat) (x2 : Int32) (x3 : Int32), PX0_ancestors_10 v post n x2 x3 → GX0_ancestors l D ct a v post p e s m args below meth c A (wS ct a v) [(0, .ref (a 0)), (2, .int x2), (3, .int x3)] 10 [] := by
  intro n
  induction n with
  | zero =>
    intro x2 x3 hw
    exact hw.elim
  | succ n ih =>
    intro x2 x3 hw
    unfold PX0_ancestors_10 at hw
    refine g_iload_n X 2 dX0_ancestors_10 rfl rfl ?_
    refine g_if_lt X 36 dX0_ancestors_11 (by decide) (fun c4 => ?_) (fun c4 => ?_)
    · replace hw := hw.1 c4
      refine g_iload_n X 1 dX0_ancestors_36 rfl rfl ?_
      exact g_iret X () hw rfl (Nat.le_of_ble_eq_true rfl) (Nat.le_of_ble_eq_true rfl) dX0_ancestors_37
    · replace hw := hw.2 c4
      refine g_iload_n X 1 dX0_ancestors_14 rfl rfl ?_
      refine g_iconst (v := 1) X rfl dX0_ancestors_15 ?_
      refine g_iload_n X 2 dX0_ancestors_16 rfl rfl ?_
      refine g_ishl X dX0_ancestors_17 ?_
      refine g_iand X dX0_ancestors_18 ?_
      refine g_if_eq X 30 dX0_ancestors_19 (by decide) (fun c5 => ?_) (fun c5 => ?_)
      · replace hw := hw.1 c5
        refine g_iinc X [(3, .int (x3 + (-1))), (0, .ref (a 0)), (2, .int x2)] 2 dX0_ancestors_30 rfl rfl (by decide) rfl ?_
        refine g_goto X 10 dX0_ancestors_33 (by decide) ?_
        refine g_sub [(0, .ref (a 0)), (2, .int x2), (3, .int (x3 + (-1)))] [1, 2, 0] rfl ?_
        exact ih _ _ hw
      · replace hw := hw.2 c5
        refine g_iload_n X 1 dX0_ancestors_22 rfl rfl ?_
        refine g_aload_n X 0 dX0_ancestors_23 rfl rfl ?_
        refine g_iload_n X 2 dX0_ancestors_24 rfl rfl ?_
        refine g_ciS X [wS ct a v] (fun (_ : Unit) => [wS ct a v]) (fun _ => wS ct a v) 1 [0] [] (kX0_parentBits l D ct a v x3 _ hw) (va_cwS 2 X.1.2.2.2.2 gX0_ancestors_X0_parentBits rfl rfl rfl (by decide +kernel) ⟨Nat.le_of_ble_eq_true rfl, Nat.le_of_ble_eq_true rfl⟩) dX0_ancestors_25 rfl rfl (Nat.le_of_ble_eq_true rfl) ⟨Nat.le_of_ble_eq_true rfl, Nat.le_of_ble_eq_true rfl⟩ rfl rfl rfl (by decide) (fun _ => rfl) (fun _ => rfl) (fun _ => rfl) (fun _ => rfl) (fun r6 _ hw => ?_)
        refine g_ior X dX0_ancestors_28 ?_
        refine g_topi (fun q8 hq8 => ?_)
        replace hw := hw q8 hq8
        refine g_istore_n X [(2, .int q8), (0, .ref (a 0)), (3, .int x3)] dX0_ancestors_29 rfl (by decide) rfl ?_
        refine g_iinc X [(3, .int (x3 + (-1))), (2, .int q8), (0, .ref (a 0))] 2 dX0_ancestors_30 rfl rfl (by decide) rfl ?_
        refine g_goto X 10 dX0_ancestors_33 (by decide) ?_
        refine g_sub [(0, .ref (a 0)), (2, .int q8), (3, .int (x3 + (-1)))] [2, 1, 0] rfl ?_
        exact ih _ _ hw

set_option maxHeartbeats 4000000 in
set_option maxRecDepth 20000 in
theorem kX0_ancestors (l : Launch) (D : va_G) (ct : Nat → ClassId) (a : Nat → Nat) (v : Mem) (p2 : Int32) (post : Int32 → Prop) (hw : PX0_ancestors v p2 post) : Ci (S := Unit) l yX0_ancestors wsX0_ancestors rmX0_ancestors D (tyz ct) [.ref (a 0), .int p2] (wS ct a v) (fun r (_ : Unit) => post r) (fun _ => wS ct a v) 0 0 := by
  intro sz
  refine g_of (own := RX0) (by decide) rfl rfl (Nat.le_of_ble_eq_true rfl) [(0, .ref (a 0)), (1, .int p2)] rfl (fun p e s m args below meth c hsz X => ?_)
  subst hsz
  unfold PX0_ancestors at hw
  refine g_aload_n X 0 dX0_ancestors_0 rfl rfl ?_
  refine g_iload_n X 1 dX0_ancestors_1 rfl rfl ?_
  refine g_ciS X [wS ct a v] (fun (_ : Unit) => [wS ct a v]) (fun _ => wS ct a v) 1 [0] [] (kX0_parentBits l D ct a v p2 _ hw) (va_cwS 2 X.1.2.2.2.2 gX0_ancestors_X0_parentBits rfl rfl rfl (by decide +kernel) ⟨Nat.le_of_ble_eq_true rfl, Nat.le_of_ble_eq_true rfl⟩) dX0_ancestors_2 rfl rfl (Nat.le_of_ble_eq_true rfl) ⟨Nat.le_of_ble_eq_true rfl, Nat.le_of_ble_eq_true rfl⟩ rfl rfl rfl (by decide) (fun _ => rfl) (fun _ => rfl) (fun _ => rfl) (fun _ => rfl) (fun r1 _ hw => ?_)
  refine g_istore_n X [(2, .int r1), (0, .ref (a 0)), (1, .int p2)] dX0_ancestors_5 rfl (by decide) rfl ?_
  refine g_iload_n X 2 dX0_ancestors_6 rfl rfl ?_
  refine g_iconst (v := 1) X rfl dX0_ancestors_7 ?_
  refine g_isub X dX0_ancestors_8 ?_
  refine g_topi (fun q3 hq3 => ?_)
  replace hw := hw q3 hq3
  refine g_istore_n X [(3, .int q3), (2, .int r1), (0, .ref (a 0)), (1, .int p2)] dX0_ancestors_9 rfl (by decide) rfl ?_
  refine g_sub [(0, .ref (a 0)), (2, .int r1), (3, .int q3)] [2, 1, 0] rfl ?_
  obtain ⟨n9, hw⟩ := hw
  exact kX0_ancestors_10 l D ct a v post X n9 _ _ hw

abbrev rmX0_descendants : Room := { frames := 3, cells := 0, slots := 0, locals := 64 }

abbrev GX0_descendants (l : Launch) (D : va_G) (ct : Nat → ClassId) (a : Nat → Nat) (v : Mem) (post : Int32 → Prop) (p : Program) (e : Env) (s : State) (m : MethodId) (args : Array Value) (below : List Frame) (meth : Method) (c : Code) (A : Nat → Prop) (w9 : va_W) (lv : List (Nat × Value)) (pc : Nat) (st : List Value) : Prop :=
  GG p l e rmX0_descendants s m args below meth c D A s.heap 4 (MQ below (va_Qi (fun r (_ : Unit) => post r) (fun u9 t9 => Af D (tyz ct) A ((fun _ => wS ct a v) u9) t9) A)  args s 0 0 A) w9 0 0 lv pc st

set_option maxHeartbeats 4000000 in
set_option maxRecDepth 20000 in
theorem kX0_descendants_8 (l : Launch) (D : va_G) (ct : Nat → ClassId) (a : Nat → Nat) (v : Mem) (post : Int32 → Prop) {p : Program} {e : Env} {s : State} {m : MethodId} {args : Array Value} {below : List Frame} {meth : Method} {c : Code} {A : Nat → Prop} (X : Cx p s m args meth c cX0_descendants 4 RX0 wsX0_descendants D (tyz ct) A s.heap (some .int))  :
    ∀ (n : Nat) (x1 : Int32) (x2 : Int32) (x3 : Int32), PX0_descendants_8 v post n x1 x2 x3 → GX0_descendants l D ct a v post p e s m args below meth c A (wS ct a v) [(0, .ref (a 0)), (1, .int x1), (2, .int x2), (3, .int x3)] 8 [] := by
  intro n
  induction n with
  | zero =>
    intro x1 x2 x3 hw
    exact hw.elim
  | succ n ih =>
    intro x1 x2 x3 hw
    unfold PX0_descendants_8 at hw
    refine g_iload_n X 3 dX0_descendants_8 rfl rfl ?_
    refine g_aload_n X 0 dX0_descendants_9 rfl rfl ?_
    refine g_ciV X [wS ct a v] (fun (_ : Unit) => [wS ct a v]) (fun _ => wS ct a v) 1 [0] [] 0 (kX5_people l D ct a v _ hw) (cwV 0 X.1.2.2.2.2 gX0_descendants_X5_people rfl rfl rfl (by decide +kernel) ⟨Nat.le_of_ble_eq_true rfl, Nat.le_of_ble_eq_true rfl⟩) dX0_descendants_10 rfl rfl (Nat.le_of_ble_eq_true rfl) ⟨Nat.le_of_ble_eq_true rfl, Nat.le_of_ble_eq_true rfl⟩ rfl rfl rfl (by decide) (fun _ => rfl) (fun _ => rfl) (fun _ => rfl) (fun _ => rfl) rfl rfl rfl (fun r3 _ hw => ?_)
    refine g_icmp_ge X 38 dX0_descendants_13 (by decide) (fun c5 => ?_) (fun c5 => ?_)
    · replace hw := hw.1 c5
      refine g_iload_n X 2 dX0_descendants_38 rfl rfl ?_
      refine g_iconst (v := 1) X rfl dX0_descendants_39 ?_
      refine g_iload_n X 1 dX0_descendants_40 rfl rfl ?_
      refine g_ishl X dX0_descendants_41 ?_
      refine g_iconst (v := (-1)) X rfl dX0_descendants_42 ?_
      refine g_ixor X dX0_descendants_43 ?_
      refine g_iand X dX0_descendants_44 ?_
      exact g_iret X () hw rfl (Nat.le_of_ble_eq_true rfl) (Nat.le_of_ble_eq_true rfl) dX0_descendants_45
    · replace hw := hw.2 c5
      refine g_aload_n X 0 dX0_descendants_16 rfl rfl ?_
      refine g_iload_n X 3 dX0_descendants_17 rfl rfl ?_
      refine g_ciS X [wS ct a v] (fun (_ : Unit) => [wS ct a v]) (fun _ => wS ct a v) 1 [0] [] (kX0_parentBits l D ct a v x3 _ hw) (va_cwS 2 X.1.2.2.2.2 gX0_descendants_X0_parentBits rfl rfl rfl (by decide +kernel) ⟨Nat.le_of_ble_eq_true rfl, Nat.le_of_ble_eq_true rfl⟩) dX0_descendants_18 rfl rfl (Nat.le_of_ble_eq_true rfl) ⟨Nat.le_of_ble_eq_true rfl, Nat.le_of_ble_eq_true rfl⟩ rfl rfl rfl (by decide) (fun _ => rfl) (fun _ => rfl) (fun _ => rfl) (fun _ => rfl) (fun r6 _ hw => ?_)
      refine g_iload_n X 2 dX0_descendants_21 rfl rfl ?_
      refine g_iand X dX0_descendants_22 ?_
      refine g_if_eq X 32 dX0_descendants_23 (by decide) (fun c8 => ?_) (fun c8 => ?_)
      · replace hw := hw.1 c8
        refine g_iinc X [(3, .int (x3 + 1)), (0, .ref (a 0)), (1, .int x1), (2, .int x2)] 3 dX0_descendants_32 rfl rfl (by decide) rfl ?_
        refine g_goto X 8 dX0_descendants_35 (by decide) ?_
        refine g_sub [(0, .ref (a 0)), (1, .int x1), (2, .int x2), (3, .int (x3 + 1))] [1, 2, 3, 0] rfl ?_
        exact ih _ _ _ hw
      · replace hw := hw.2 c8
        refine g_iload_n X 2 dX0_descendants_26 rfl rfl ?_
        refine g_iconst (v := 1) X rfl dX0_descendants_27 ?_
        refine g_iload_n X 3 dX0_descendants_28 rfl rfl ?_
        refine g_ishl X dX0_descendants_29 ?_
        refine g_ior X dX0_descendants_30 ?_
        refine g_topi (fun q9 hq9 => ?_)
        replace hw := hw q9 hq9
        refine g_istore_n X [(2, .int q9), (0, .ref (a 0)), (1, .int x1), (3, .int x3)] dX0_descendants_31 rfl (by decide) rfl ?_
        refine g_iinc X [(3, .int (x3 + 1)), (2, .int q9), (0, .ref (a 0)), (1, .int x1)] 3 dX0_descendants_32 rfl rfl (by decide) rfl ?_
        refine g_goto X 8 dX0_descendants_35 (by decide) ?_
        refine g_sub [(0, .ref (a 0)), (1, .int x1), (2, .int q9), (3, .int (x3 + 1))] [2, 3, 1, 0] rfl ?_
        exact ih _ _ _ hw

set_option maxHeartbeats 4000000 in
set_option maxRecDepth 20000 in
theorem kX0_descendants (l : Launch) (D : va_G) (ct : Nat → ClassId) (a : Nat → Nat) (v : Mem) (p2 : Int32) (post : Int32 → Prop) (hw : PX0_descendants v p2 post) : Ci (S := Unit) l yX0_descendants wsX0_descendants rmX0_descendants D (tyz ct) [.ref (a 0), .int p2] (wS ct a v) (fun r (_ : Unit) => post r) (fun _ => wS ct a v) 0 0 := by
  intro sz
  refine g_of (own := RX0) (by decide) rfl rfl (Nat.le_of_ble_eq_true rfl) [(0, .ref (a 0)), (1, .int p2)] rfl (fun p e s m args below meth c hsz X => ?_)
  subst hsz
  unfold PX0_descendants at hw
  refine g_iconst (v := 1) X rfl dX0_descendants_0 ?_
  refine g_iload_n X 1 dX0_descendants_1 rfl rfl ?_
  refine g_ishl X dX0_descendants_2 ?_
  refine g_topi (fun q1 hq1 => ?_)
  replace hw := hw q1 hq1
  refine g_istore_n X [(2, .int q1), (0, .ref (a 0)), (1, .int p2)] dX0_descendants_3 rfl (by decide) rfl ?_
  refine g_iload_n X 2 dX0_descendants_4 rfl rfl ?_
  refine g_iconst (v := 1) X rfl dX0_descendants_5 ?_
  refine g_iadd X dX0_descendants_6 ?_
  refine g_topi (fun q2 hq2 => ?_)
  replace hw := hw q2 hq2
  refine g_istore_n X [(3, .int q2), (2, .int q1), (0, .ref (a 0)), (1, .int p2)] dX0_descendants_7 rfl (by decide) rfl ?_
  refine g_sub [(0, .ref (a 0)), (1, .int p2), (2, .int q1), (3, .int q2)] [2, 3, 1, 0] rfl ?_
  obtain ⟨n10, hw⟩ := hw
  exact kX0_descendants_8 l D ct a v post X n10 _ _ _ hw

abbrev rmX0_commonAncestors : Room := { frames := 4, cells := 0, slots := 0, locals := 87 }

abbrev GX0_commonAncestors (l : Launch) (D : va_G) (ct : Nat → ClassId) (a : Nat → Nat) (v : Mem) (post : Int32 → Prop) (p : Program) (e : Env) (s : State) (m : MethodId) (args : Array Value) (below : List Frame) (meth : Method) (c : Code) (A : Nat → Prop) (w9 : va_W) (lv : List (Nat × Value)) (pc : Nat) (st : List Value) : Prop :=
  GG p l e rmX0_commonAncestors s m args below meth c D A s.heap 2 (MQ below (va_Qi (fun r (_ : Unit) => post r) (fun u9 t9 => Af D (tyz ct) A ((fun _ => wS ct a v) u9) t9) A)  args s 0 0 A) w9 0 0 lv pc st

set_option maxHeartbeats 4000000 in
set_option maxRecDepth 20000 in
theorem kX0_commonAncestors (l : Launch) (D : va_G) (ct : Nat → ClassId) (a : Nat → Nat) (v : Mem) (p2 : Int32) (post : Int32 → Prop) (hw : PX0_commonAncestors v p2 post) : Ci (S := Unit) l yX0_commonAncestors wsX0_commonAncestors rmX0_commonAncestors D (tyz ct) [.ref (a 0), .int p2] (wS ct a v) (fun r (_ : Unit) => post r) (fun _ => wS ct a v) 0 0 := by
  intro sz
  refine g_of (own := RX0) (by decide) rfl rfl (Nat.le_of_ble_eq_true rfl) [(0, .ref (a 0)), (1, .int p2)] rfl (fun p e s m args below meth c hsz X => ?_)
  subst hsz
  unfold PX0_commonAncestors at hw
  refine g_aload_n X 0 dX0_commonAncestors_0 rfl rfl ?_
  refine g_aload_n X 0 dX0_commonAncestors_1 rfl rfl ?_
  refine g_iload_n X 1 dX0_commonAncestors_2 rfl rfl ?_
  refine g_ciV X [wS ct a v] (fun (_ : Unit) => [wS ct a v]) (fun _ => wS ct a v) 1 [0] [] 0 (kX5_lesserOf l D ct a v p2 _ hw) (cwV 1 X.1.2.2.2.2 gX0_commonAncestors_X5_lesserOf rfl rfl rfl (by decide +kernel) ⟨Nat.le_of_ble_eq_true rfl, Nat.le_of_ble_eq_true rfl⟩) dX0_commonAncestors_3 rfl rfl (Nat.le_of_ble_eq_true rfl) ⟨Nat.le_of_ble_eq_true rfl, Nat.le_of_ble_eq_true rfl⟩ rfl rfl rfl (by decide) (fun _ => rfl) (fun _ => rfl) (fun _ => rfl) (fun _ => rfl) rfl rfl rfl (fun r1 _ hw => ?_)
  refine g_ciS X [wS ct a v] (fun (_ : Unit) => [wS ct a v]) (fun _ => wS ct a v) 1 [0] [] (kX0_ancestors l D ct a v r1 _ hw) (va_cwS 2 X.1.2.2.2.2 gX0_commonAncestors_X0_ancestors rfl rfl rfl (by decide +kernel) ⟨Nat.le_of_ble_eq_true rfl, Nat.le_of_ble_eq_true rfl⟩) dX0_commonAncestors_6 rfl rfl (Nat.le_of_ble_eq_true rfl) ⟨Nat.le_of_ble_eq_true rfl, Nat.le_of_ble_eq_true rfl⟩ rfl rfl rfl (by decide) (fun _ => rfl) (fun _ => rfl) (fun _ => rfl) (fun _ => rfl) (fun r3 _ hw => ?_)
  refine g_aload_n X 0 dX0_commonAncestors_9 rfl rfl ?_
  refine g_aload_n X 0 dX0_commonAncestors_10 rfl rfl ?_
  refine g_iload_n X 1 dX0_commonAncestors_11 rfl rfl ?_
  refine g_ciV X [wS ct a v] (fun (_ : Unit) => [wS ct a v]) (fun _ => wS ct a v) 1 [0] [] 0 (kX5_greaterOf l D ct a v p2 _ hw) (cwV 1 X.1.2.2.2.2 gX0_commonAncestors_X5_greaterOf rfl rfl rfl (by decide +kernel) ⟨Nat.le_of_ble_eq_true rfl, Nat.le_of_ble_eq_true rfl⟩) dX0_commonAncestors_12 rfl rfl (Nat.le_of_ble_eq_true rfl) ⟨Nat.le_of_ble_eq_true rfl, Nat.le_of_ble_eq_true rfl⟩ rfl rfl rfl (by decide) (fun _ => rfl) (fun _ => rfl) (fun _ => rfl) (fun _ => rfl) rfl rfl rfl (fun r5 _ hw => ?_)
  refine g_ciS X [wS ct a v] (fun (_ : Unit) => [wS ct a v]) (fun _ => wS ct a v) 1 [0] [] (kX0_ancestors l D ct a v r5 _ hw) (va_cwS 2 X.1.2.2.2.2 gX0_commonAncestors_X0_ancestors rfl rfl rfl (by decide +kernel) ⟨Nat.le_of_ble_eq_true rfl, Nat.le_of_ble_eq_true rfl⟩) dX0_commonAncestors_15 rfl rfl (Nat.le_of_ble_eq_true rfl) ⟨Nat.le_of_ble_eq_true rfl, Nat.le_of_ble_eq_true rfl⟩ rfl rfl rfl (by decide) (fun _ => rfl) (fun _ => rfl) (fun _ => rfl) (fun _ => rfl) (fun r7 _ hw => ?_)
  refine g_iand X dX0_commonAncestors_18 ?_
  exact g_iret X () hw rfl (Nat.le_of_ble_eq_true rfl) (Nat.le_of_ble_eq_true rfl) dX0_commonAncestors_19

abbrev rmX0_kinCouples : Room := { frames := 5, cells := 0, slots := 0, locals := 108 }

abbrev GX0_kinCouples (l : Launch) (D : va_G) (ct : Nat → ClassId) (a : Nat → Nat) (v : Mem) (post : Int32 → Prop) (p : Program) (e : Env) (s : State) (m : MethodId) (args : Array Value) (below : List Frame) (meth : Method) (c : Code) (A : Nat → Prop) (w9 : va_W) (lv : List (Nat × Value)) (pc : Nat) (st : List Value) : Prop :=
  GG p l e rmX0_kinCouples s m args below meth c D A s.heap 3 (MQ below (va_Qi (fun r (_ : Unit) => post r) (fun u9 t9 => Af D (tyz ct) A ((fun _ => wS ct a v) u9) t9) A)  args s 0 0 A) w9 0 0 lv pc st

set_option maxHeartbeats 4000000 in
set_option maxRecDepth 20000 in
theorem kX0_kinCouples_4 (l : Launch) (D : va_G) (ct : Nat → ClassId) (a : Nat → Nat) (v : Mem) (post : Int32 → Prop) {p : Program} {e : Env} {s : State} {m : MethodId} {args : Array Value} {below : List Frame} {meth : Method} {c : Code} {A : Nat → Prop} (X : Cx p s m args meth c cX0_kinCouples 3 RX0 wsX0_kinCouples D (tyz ct) A s.heap (some .int))  :
    ∀ (n : Nat) (x1 : Int32) (x2 : Int32), PX0_kinCouples_4 v post n x1 x2 → GX0_kinCouples l D ct a v post p e s m args below meth c A (wS ct a v) [(0, .ref (a 0)), (1, .int x1), (2, .int x2)] 4 [] := by
  intro n
  induction n with
  | zero =>
    intro x1 x2 hw
    exact hw.elim
  | succ n ih =>
    intro x1 x2 hw
    unfold PX0_kinCouples_4 at hw
    refine g_iload_n X 2 dX0_kinCouples_4 rfl rfl ?_
    refine g_aload_n X 0 dX0_kinCouples_5 rfl rfl ?_
    refine g_ciV X [wS ct a v] (fun (_ : Unit) => [wS ct a v]) (fun _ => wS ct a v) 1 [0] [] 0 (kX5_couples l D ct a v _ hw) (cwV 0 X.1.2.2.2.2 gX0_kinCouples_X5_couples rfl rfl rfl (by decide +kernel) ⟨Nat.le_of_ble_eq_true rfl, Nat.le_of_ble_eq_true rfl⟩) dX0_kinCouples_6 rfl rfl (Nat.le_of_ble_eq_true rfl) ⟨Nat.le_of_ble_eq_true rfl, Nat.le_of_ble_eq_true rfl⟩ rfl rfl rfl (by decide) (fun _ => rfl) (fun _ => rfl) (fun _ => rfl) (fun _ => rfl) rfl rfl rfl (fun r1 _ hw => ?_)
    refine g_icmp_ge X 29 dX0_kinCouples_9 (by decide) (fun c3 => ?_) (fun c3 => ?_)
    · replace hw := hw.1 c3
      refine g_iload_n X 1 dX0_kinCouples_29 rfl rfl ?_
      exact g_iret X () hw rfl (Nat.le_of_ble_eq_true rfl) (Nat.le_of_ble_eq_true rfl) dX0_kinCouples_30
    · replace hw := hw.2 c3
      refine g_aload_n X 0 dX0_kinCouples_12 rfl rfl ?_
      refine g_iload_n X 2 dX0_kinCouples_13 rfl rfl ?_
      refine g_ciS X [wS ct a v] (fun (_ : Unit) => [wS ct a v]) (fun _ => wS ct a v) 1 [0] [] (kX0_commonAncestors l D ct a v x2 _ hw) (va_cwS 2 X.1.2.2.2.2 gX0_kinCouples_X0_commonAncestors rfl rfl rfl (by decide +kernel) ⟨Nat.le_of_ble_eq_true rfl, Nat.le_of_ble_eq_true rfl⟩) dX0_kinCouples_14 rfl rfl (Nat.le_of_ble_eq_true rfl) ⟨Nat.le_of_ble_eq_true rfl, Nat.le_of_ble_eq_true rfl⟩ rfl rfl rfl (by decide) (fun _ => rfl) (fun _ => rfl) (fun _ => rfl) (fun _ => rfl) (fun r4 _ hw => ?_)
      refine g_if_eq X 23 dX0_kinCouples_17 (by decide) (fun c6 => ?_) (fun c6 => ?_)
      · replace hw := hw.1 c6
        refine g_iinc X [(2, .int (x2 + 1)), (0, .ref (a 0)), (1, .int x1)] 2 dX0_kinCouples_23 rfl rfl (by decide) rfl ?_
        refine g_goto X 4 dX0_kinCouples_26 (by decide) ?_
        refine g_sub [(0, .ref (a 0)), (1, .int x1), (2, .int (x2 + 1))] [1, 2, 0] rfl ?_
        exact ih _ _ hw
      · replace hw := hw.2 c6
        refine g_iinc X [(1, .int (x1 + 1)), (0, .ref (a 0)), (2, .int x2)] 1 dX0_kinCouples_20 rfl rfl (by decide) rfl ?_
        refine g_iinc X [(2, .int (x2 + 1)), (1, .int (x1 + 1)), (0, .ref (a 0))] 2 dX0_kinCouples_23 rfl rfl (by decide) rfl ?_
        refine g_goto X 4 dX0_kinCouples_26 (by decide) ?_
        refine g_sub [(0, .ref (a 0)), (1, .int (x1 + 1)), (2, .int (x2 + 1))] [2, 1, 0] rfl ?_
        exact ih _ _ hw

set_option maxHeartbeats 4000000 in
set_option maxRecDepth 20000 in
theorem kX0_kinCouples (l : Launch) (D : va_G) (ct : Nat → ClassId) (a : Nat → Nat) (v : Mem) (post : Int32 → Prop) (hw : PX0_kinCouples v post) : Ci (S := Unit) l yX0_kinCouples wsX0_kinCouples rmX0_kinCouples D (tyz ct) [.ref (a 0)] (wS ct a v) (fun r (_ : Unit) => post r) (fun _ => wS ct a v) 0 0 := by
  intro sz
  refine g_of (own := RX0) (by decide) rfl rfl (Nat.le_of_ble_eq_true rfl) [(0, .ref (a 0))] rfl (fun p e s m args below meth c hsz X => ?_)
  subst hsz
  unfold PX0_kinCouples at hw
  refine g_iconst (v := 0) X rfl dX0_kinCouples_0 ?_
  refine g_istore_n X [(1, .int 0), (0, .ref (a 0))] dX0_kinCouples_1 rfl (by decide) rfl ?_
  refine g_iconst (v := 0) X rfl dX0_kinCouples_2 ?_
  refine g_istore_n X [(2, .int 0), (1, .int 0), (0, .ref (a 0))] dX0_kinCouples_3 rfl (by decide) rfl ?_
  refine g_sub [(0, .ref (a 0)), (1, .int 0), (2, .int 0)] [2, 1, 0] rfl ?_
  obtain ⟨n7, hw⟩ := hw
  exact kX0_kinCouples_4 l D ct a v post X n7 _ _ hw

abbrev rmX0_fewestLines : Room := { frames := 4, cells := 0, slots := 0, locals := 87 }

abbrev GX0_fewestLines (l : Launch) (D : va_G) (ct : Nat → ClassId) (a : Nat → Nat) (v : Mem) (post : Int32 → Prop) (p : Program) (e : Env) (s : State) (m : MethodId) (args : Array Value) (below : List Frame) (meth : Method) (c : Code) (A : Nat → Prop) (w9 : va_W) (lv : List (Nat × Value)) (pc : Nat) (st : List Value) : Prop :=
  GG p l e rmX0_fewestLines s m args below meth c D A s.heap 7 (MQ below (va_Qi (fun r (_ : Unit) => post r) (fun u9 t9 => Af D (tyz ct) A ((fun _ => wS ct a v) u9) t9) A)  args s 0 0 A) w9 0 0 lv pc st

set_option maxHeartbeats 4000000 in
set_option maxRecDepth 20000 in
theorem kX0_fewestLines_26 (l : Launch) (D : va_G) (ct : Nat → ClassId) (a : Nat → Nat) (v : Mem) (post : Int32 → Prop) {p : Program} {e : Env} {s : State} {m : MethodId} {args : Array Value} {below : List Frame} {meth : Method} {c : Code} {A : Nat → Prop} (X : Cx p s m args meth c cX0_fewestLines 7 RX0 wsX0_fewestLines D (tyz ct) A s.heap (some .int))  :
    ∀ (n : Nat) (x1 : Int32) (x2 : Int32) (x3 : Int32) (x4 : Int32) (x5 : Int32), PX0_fewestLines_26 v post n x1 x2 x3 x4 x5 → GX0_fewestLines l D ct a v post p e s m args below meth c A (wS ct a v) [(0, .ref (a 0)), (1, .int x1), (2, .int x2), (3, .int x3), (4, .int x4), (5, .int x5)] 26 [] := by
  intro n
  induction n with
  | zero =>
    intro x1 x2 x3 x4 x5 hw
    exact hw.elim
  | succ n ih =>
    intro x1 x2 x3 x4 x5 hw
    unfold PX0_fewestLines_26 at hw
    refine g_iload X 5 dX0_fewestLines_26 rfl ?_
    refine g_aload_n X 0 dX0_fewestLines_28 rfl rfl ?_
    refine g_ciV X [wS ct a v] (fun (_ : Unit) => [wS ct a v]) (fun _ => wS ct a v) 1 [0] [] 0 (kX5_people l D ct a v _ hw) (cwV 0 X.1.2.2.2.2 gX0_fewestLines_X5_people rfl rfl rfl (by decide +kernel) ⟨Nat.le_of_ble_eq_true rfl, Nat.le_of_ble_eq_true rfl⟩) dX0_fewestLines_29 rfl rfl (Nat.le_of_ble_eq_true rfl) ⟨Nat.le_of_ble_eq_true rfl, Nat.le_of_ble_eq_true rfl⟩ rfl rfl rfl (by decide) (fun _ => rfl) (fun _ => rfl) (fun _ => rfl) (fun _ => rfl) rfl rfl rfl (fun r6 _ hw => ?_)
    refine g_icmp_ge X 89 dX0_fewestLines_32 (by decide) (fun c8 => ?_) (fun c8 => ?_)
    · replace hw := hw.1 c8
      refine g_iload X 4 dX0_fewestLines_89 rfl ?_
      exact g_iret X () hw rfl (Nat.le_of_ble_eq_true rfl) (Nat.le_of_ble_eq_true rfl) dX0_fewestLines_91
    · replace hw := hw.2 c8
      refine g_iload_n X 3 dX0_fewestLines_35 rfl rfl ?_
      refine g_iconst (v := 1) X rfl dX0_fewestLines_36 ?_
      refine g_iload X 5 dX0_fewestLines_37 rfl ?_
      refine g_ishl X dX0_fewestLines_39 ?_
      refine g_iand X dX0_fewestLines_40 ?_
      refine g_if_eq X 83 dX0_fewestLines_41 (by decide) (fun c9 => ?_) (fun c9 => ?_)
      · replace hw := hw.1 c9
        refine g_iinc X [(5, .int (x5 + 1)), (0, .ref (a 0)), (1, .int x1), (2, .int x2), (3, .int x3), (4, .int x4)] 5 dX0_fewestLines_83 rfl rfl (by decide) rfl ?_
        refine g_goto X 26 dX0_fewestLines_86 (by decide) ?_
        refine g_sub [(0, .ref (a 0)), (1, .int x1), (2, .int x2), (3, .int x3), (4, .int x4), (5, .int (x5 + 1))] [1, 2, 3, 4, 5, 0] rfl ?_
        exact ih _ _ _ _ _ hw
      · replace hw := hw.2 c9
        refine g_aload_n X 0 dX0_fewestLines_44 rfl rfl ?_
        refine g_iload_n X 1 dX0_fewestLines_45 rfl rfl ?_
        refine g_ciV X [wS ct a v] (fun (_ : Unit) => [wS ct a v]) (fun _ => wS ct a v) 1 [0] [] 0 (kX5_rowOf l D ct a v x1 _ hw) (cwV 1 X.1.2.2.2.2 gX0_fewestLines_X5_rowOf rfl rfl rfl (by decide +kernel) ⟨Nat.le_of_ble_eq_true rfl, Nat.le_of_ble_eq_true rfl⟩) dX0_fewestLines_46 rfl rfl (Nat.le_of_ble_eq_true rfl) ⟨Nat.le_of_ble_eq_true rfl, Nat.le_of_ble_eq_true rfl⟩ rfl rfl rfl (by decide) (fun _ => rfl) (fun _ => rfl) (fun _ => rfl) (fun _ => rfl) rfl rfl rfl (fun r10 _ hw => ?_)
        refine g_aload_n X 0 dX0_fewestLines_49 rfl rfl ?_
        refine g_iload_n X 2 dX0_fewestLines_50 rfl rfl ?_
        refine g_ciV X [wS ct a v] (fun (_ : Unit) => [wS ct a v]) (fun _ => wS ct a v) 1 [0] [] 0 (kX5_rowOf l D ct a v x2 _ hw) (cwV 1 X.1.2.2.2.2 gX0_fewestLines_X5_rowOf rfl rfl rfl (by decide +kernel) ⟨Nat.le_of_ble_eq_true rfl, Nat.le_of_ble_eq_true rfl⟩) dX0_fewestLines_51 rfl rfl (Nat.le_of_ble_eq_true rfl) ⟨Nat.le_of_ble_eq_true rfl, Nat.le_of_ble_eq_true rfl⟩ rfl rfl rfl (by decide) (fun _ => rfl) (fun _ => rfl) (fun _ => rfl) (fun _ => rfl) rfl rfl rfl (fun r12 _ hw => ?_)
        refine g_iadd X dX0_fewestLines_54 ?_
        refine g_iconst (v := 2) X rfl dX0_fewestLines_55 ?_
        refine g_aload_n X 0 dX0_fewestLines_56 rfl rfl ?_
        refine g_iload X 5 dX0_fewestLines_57 rfl ?_
        refine g_ciV X [wS ct a v] (fun (_ : Unit) => [wS ct a v]) (fun _ => wS ct a v) 1 [0] [] 0 (kX5_rowOf l D ct a v x5 _ hw) (cwV 1 X.1.2.2.2.2 gX0_fewestLines_X5_rowOf rfl rfl rfl (by decide +kernel) ⟨Nat.le_of_ble_eq_true rfl, Nat.le_of_ble_eq_true rfl⟩) dX0_fewestLines_59 rfl rfl (Nat.le_of_ble_eq_true rfl) ⟨Nat.le_of_ble_eq_true rfl, Nat.le_of_ble_eq_true rfl⟩ rfl rfl rfl (by decide) (fun _ => rfl) (fun _ => rfl) (fun _ => rfl) (fun _ => rfl) rfl rfl rfl (fun r14 _ hw => ?_)
        refine g_imul X dX0_fewestLines_62 ?_
        refine g_isub X dX0_fewestLines_63 ?_
        refine g_topi (fun q16 hq16 => ?_)
        replace hw := hw q16 hq16
        refine g_istore X [(6, .int q16), (0, .ref (a 0)), (1, .int x1), (2, .int x2), (3, .int x3), (4, .int x4), (5, .int x5)] dX0_fewestLines_64 (by decide) rfl ?_
        refine g_iload X 5 dX0_fewestLines_66 rfl ?_
        refine g_iconst (v := (-1)) X rfl dX0_fewestLines_68 ?_
        refine g_icmp_eq X 79 dX0_fewestLines_69 (by decide) (fun c17 => ?_) (fun c17 => ?_)
        · replace hw := hw.1 c17
          refine g_iload X 0 dX0_fewestLines_79 rfl ?_
          refine g_istore X [(4, .int q16), (6, .int q16), (0, .ref (a 0)), (1, .int x1), (2, .int x2), (3, .int x3), (5, .int x5)] dX0_fewestLines_81 (by decide) rfl ?_
          refine g_iinc X [(5, .int (x5 + 1)), (4, .int q16), (6, .int q16), (0, .ref (a 0)), (1, .int x1), (2, .int x2), (3, .int x3)] 6 dX0_fewestLines_83 rfl rfl (by decide) rfl ?_
          refine g_goto X 26 dX0_fewestLines_86 (by decide) ?_
          refine g_sub [(0, .ref (a 0)), (1, .int x1), (2, .int x2), (3, .int x3), (4, .int q16), (5, .int (x5 + 1))] [3, 4, 5, 6, 1, 0] rfl ?_
          exact ih _ _ _ _ _ hw
        · replace hw := hw.2 c17
          refine g_iload X 0 dX0_fewestLines_72 rfl ?_
          refine g_iload X 5 dX0_fewestLines_74 rfl ?_
          refine g_icmp_ge X 83 dX0_fewestLines_76 (by decide) (fun c18 => ?_) (fun c18 => ?_)
          · replace hw := hw.1 c18
            refine g_iinc X [(5, .int (x5 + 1)), (6, .int q16), (0, .ref (a 0)), (1, .int x1), (2, .int x2), (3, .int x3), (4, .int x4)] 6 dX0_fewestLines_83 rfl rfl (by decide) rfl ?_
            refine g_goto X 26 dX0_fewestLines_86 (by decide) ?_
            refine g_sub [(0, .ref (a 0)), (1, .int x1), (2, .int x2), (3, .int x3), (4, .int x4), (5, .int (x5 + 1))] [2, 3, 4, 5, 6, 0] rfl ?_
            exact ih _ _ _ _ _ hw
          · replace hw := hw.2 c18
            refine g_iload X 0 dX0_fewestLines_79 rfl ?_
            refine g_istore X [(4, .int q16), (6, .int q16), (0, .ref (a 0)), (1, .int x1), (2, .int x2), (3, .int x3), (5, .int x5)] dX0_fewestLines_81 (by decide) rfl ?_
            refine g_iinc X [(5, .int (x5 + 1)), (4, .int q16), (6, .int q16), (0, .ref (a 0)), (1, .int x1), (2, .int x2), (3, .int x3)] 6 dX0_fewestLines_83 rfl rfl (by decide) rfl ?_
            refine g_goto X 26 dX0_fewestLines_86 (by decide) ?_
            refine g_sub [(0, .ref (a 0)), (1, .int x1), (2, .int x2), (3, .int x3), (4, .int q16), (5, .int (x5 + 1))] [3, 4, 5, 6, 1, 0] rfl ?_
            exact ih _ _ _ _ _ hw

set_option maxHeartbeats 4000000 in
set_option maxRecDepth 20000 in
theorem kX0_fewestLines (l : Launch) (D : va_G) (ct : Nat → ClassId) (a : Nat → Nat) (v : Mem) (p2 : Int32) (p3 : Int32) (post : Int32 → Prop) (hw : PX0_fewestLines v p2 p3 post) : Ci (S := Unit) l yX0_fewestLines wsX0_fewestLines rmX0_fewestLines D (tyz ct) [.ref (a 0), .int p2, .int p3] (wS ct a v) (fun r (_ : Unit) => post r) (fun _ => wS ct a v) 0 0 := by
  intro sz
  refine g_of (own := RX0) (by decide) rfl rfl (Nat.le_of_ble_eq_true rfl) [(0, .ref (a 0)), (1, .int p2), (2, .int p3)] rfl (fun p e s m args below meth c hsz X => ?_)
  subst hsz
  unfold PX0_fewestLines at hw
  refine g_aload_n X 0 dX0_fewestLines_0 rfl rfl ?_
  refine g_iload_n X 1 dX0_fewestLines_1 rfl rfl ?_
  refine g_ciS X [wS ct a v] (fun (_ : Unit) => [wS ct a v]) (fun _ => wS ct a v) 1 [0] [] (kX0_ancestors l D ct a v p2 _ hw) (va_cwS 2 X.1.2.2.2.2 gX0_fewestLines_X0_ancestors rfl rfl rfl (by decide +kernel) ⟨Nat.le_of_ble_eq_true rfl, Nat.le_of_ble_eq_true rfl⟩) dX0_fewestLines_2 rfl rfl (Nat.le_of_ble_eq_true rfl) ⟨Nat.le_of_ble_eq_true rfl, Nat.le_of_ble_eq_true rfl⟩ rfl rfl rfl (by decide) (fun _ => rfl) (fun _ => rfl) (fun _ => rfl) (fun _ => rfl) (fun r1 _ hw => ?_)
  refine g_iconst (v := 1) X rfl dX0_fewestLines_5 ?_
  refine g_iload_n X 1 dX0_fewestLines_6 rfl rfl ?_
  refine g_ishl X dX0_fewestLines_7 ?_
  refine g_ior X dX0_fewestLines_8 ?_
  refine g_aload_n X 0 dX0_fewestLines_9 rfl rfl ?_
  refine g_iload_n X 2 dX0_fewestLines_10 rfl rfl ?_
  refine g_ciS X [wS ct a v] (fun (_ : Unit) => [wS ct a v]) (fun _ => wS ct a v) 1 [0] [] (kX0_ancestors l D ct a v p3 _ hw) (va_cwS 2 X.1.2.2.2.2 gX0_fewestLines_X0_ancestors rfl rfl rfl (by decide +kernel) ⟨Nat.le_of_ble_eq_true rfl, Nat.le_of_ble_eq_true rfl⟩) dX0_fewestLines_11 rfl rfl (Nat.le_of_ble_eq_true rfl) ⟨Nat.le_of_ble_eq_true rfl, Nat.le_of_ble_eq_true rfl⟩ rfl rfl rfl (by decide) (fun _ => rfl) (fun _ => rfl) (fun _ => rfl) (fun _ => rfl) (fun r3 _ hw => ?_)
  refine g_iconst (v := 1) X rfl dX0_fewestLines_14 ?_
  refine g_iload_n X 2 dX0_fewestLines_15 rfl rfl ?_
  refine g_ishl X dX0_fewestLines_16 ?_
  refine g_ior X dX0_fewestLines_17 ?_
  refine g_iand X dX0_fewestLines_18 ?_
  refine g_topi (fun q5 hq5 => ?_)
  replace hw := hw q5 hq5
  refine g_istore_n X [(3, .int q5), (0, .ref (a 0)), (1, .int p2), (2, .int p3)] dX0_fewestLines_19 rfl (by decide) rfl ?_
  refine g_iconst (v := (-1)) X rfl dX0_fewestLines_20 ?_
  refine g_istore X [(4, .int ((-1))), (3, .int q5), (0, .ref (a 0)), (1, .int p2), (2, .int p3)] dX0_fewestLines_21 (by decide) rfl ?_
  refine g_iconst (v := 0) X rfl dX0_fewestLines_23 ?_
  refine g_istore X [(5, .int 0), (4, .int ((-1))), (3, .int q5), (0, .ref (a 0)), (1, .int p2), (2, .int p3)] dX0_fewestLines_24 (by decide) rfl ?_
  refine g_sub [(0, .ref (a 0)), (1, .int p2), (2, .int p3), (3, .int q5), (4, .int ((-1))), (5, .int 0)] [3, 4, 5, 2, 1, 0] rfl ?_
  obtain ⟨n19, hw⟩ := hw
  exact kX0_fewestLines_26 l D ct a v post X n19 _ _ _ _ _ hw

abbrev rmX1_placeByKey : Room := { frames := 0, cells := 0, slots := 0, locals := 0 }

abbrev GX1_placeByKey (l : Launch) (D : va_G) (ct : Nat → ClassId) (b : Nat → Nat) (o : Mem) (post : Int32 → Prop) (p : Program) (e : Env) (s : State) (m : MethodId) (args : Array Value) (below : List Frame) (meth : Method) (c : Code) (A : Nat → Prop) (w9 : va_W) (lv : List (Nat × Value)) (pc : Nat) (st : List Value) : Prop :=
  GG p l e rmX1_placeByKey s m args below meth c D A s.heap 5 (MQ below (va_Qi (fun r (_ : Unit) => post r) (fun u9 t9 => Af D (tyz ct) A ((fun _ => wO ct b o) u9) t9) A)  args s 0 0 A) w9 0 0 lv pc st

set_option maxHeartbeats 4000000 in
set_option maxRecDepth 20000 in
theorem kX1_placeByKey_5 (l : Launch) (D : va_G) (ct : Nat → ClassId) (b : Nat → Nat) (o : Mem) (post : Int32 → Prop) {p : Program} {e : Env} {s : State} {m : MethodId} {args : Array Value} {below : List Frame} {meth : Method} {c : Code} {A : Nat → Prop} (X : Cx p s m args meth c cX1_placeByKey 5 RX1 wsX1_placeByKey D (tyz ct) A s.heap (some .int))  :
    ∀ (n : Nat) (x1 : Int32) (x2 : Int32) (x3 : Int32) (x4 : Int32), PX1_placeByKey_5 o post n x1 x2 x3 x4 → GX1_placeByKey l D ct b o post p e s m args below meth c A (wO ct b o) [(0, .ref (b 0)), (1, .int x1), (2, .int x2), (3, .int x3), (4, .int x4)] 5 [] := by
  intro n
  induction n with
  | zero =>
    intro x1 x2 x3 x4 hw
    exact hw.elim
  | succ n ih =>
    intro x1 x2 x3 x4 hw
    unfold PX1_placeByKey_5 at hw
    refine g_iload X 4 dX1_placeByKey_5 rfl ?_
    refine g_iload_n X 2 dX1_placeByKey_7 rfl rfl ?_
    refine g_icmp_ge X 58 dX1_placeByKey_8 (by decide) (fun c1 => ?_) (fun c1 => ?_)
    · replace hw := hw.1 c1
      refine g_iload_n X 3 dX1_placeByKey_58 rfl rfl ?_
      exact g_iret X () hw rfl (Nat.le_of_ble_eq_true rfl) (Nat.le_of_ble_eq_true rfl) dX1_placeByKey_59
    · replace hw := hw.2 c1
      refine g_aload_n X 0 dX1_placeByKey_11 rfl rfl ?_
      refine g_get (T := TX1) (C := RX1) (N := 2) (v := .ref (b 1)) X 0 0 (fun _ h => (List.mem_cons_of_mem _ (List.mem_append_right _ h))) (List.mem_of_getElem? (i := 1) rfl) dX1_placeByKey_12 rfl rfl (by decide) rfl rfl ?_
      refine g_iload X 4 dX1_placeByKey_15 rfl ?_
      obtain ⟨h2, hw⟩ := hw
      refine g_iald X 1 0 dX1_placeByKey_17 rfl rfl h2 ?_
      refine g_aload_n X 0 dX1_placeByKey_18 rfl rfl ?_
      refine g_get (T := TX1) (C := RX1) (N := 2) (v := .ref (b 1)) X 0 0 (fun _ h => (List.mem_cons_of_mem _ (List.mem_append_right _ h))) (List.mem_of_getElem? (i := 1) rfl) dX1_placeByKey_19 rfl rfl (by decide) rfl rfl ?_
      refine g_iload_n X 1 dX1_placeByKey_22 rfl rfl ?_
      obtain ⟨h3, hw⟩ := hw
      refine g_iald X 1 0 dX1_placeByKey_23 rfl rfl h3 ?_
      refine g_icmp_lt X 49 dX1_placeByKey_24 (by decide) (fun c4 => ?_) (fun c4 => ?_)
      · replace hw := hw.1 c4
        refine g_iinc X [(3, .int (x3 + 1)), (0, .ref (b 0)), (1, .int x1), (2, .int x2), (4, .int x4)] 3 dX1_placeByKey_49 rfl rfl (by decide) rfl ?_
        refine g_iinc X [(4, .int (x4 + 1)), (3, .int (x3 + 1)), (0, .ref (b 0)), (1, .int x1), (2, .int x2)] 4 dX1_placeByKey_52 rfl rfl (by decide) rfl ?_
        refine g_goto X 5 dX1_placeByKey_55 (by decide) ?_
        refine g_sub [(0, .ref (b 0)), (1, .int x1), (2, .int x2), (3, .int (x3 + 1)), (4, .int (x4 + 1))] [2, 3, 4, 1, 0] rfl ?_
        exact ih _ _ _ _ hw
      · replace hw := hw.2 c4
        refine g_aload_n X 0 dX1_placeByKey_27 rfl rfl ?_
        refine g_get (T := TX1) (C := RX1) (N := 2) (v := .ref (b 1)) X 0 0 (fun _ h => (List.mem_cons_of_mem _ (List.mem_append_right _ h))) (List.mem_of_getElem? (i := 1) rfl) dX1_placeByKey_28 rfl rfl (by decide) rfl rfl ?_
        refine g_iload X 4 dX1_placeByKey_31 rfl ?_
        obtain ⟨h5, hw⟩ := hw
        refine g_iald X 1 0 dX1_placeByKey_33 rfl rfl h5 ?_
        refine g_aload_n X 0 dX1_placeByKey_34 rfl rfl ?_
        refine g_get (T := TX1) (C := RX1) (N := 2) (v := .ref (b 1)) X 0 0 (fun _ h => (List.mem_cons_of_mem _ (List.mem_append_right _ h))) (List.mem_of_getElem? (i := 1) rfl) dX1_placeByKey_35 rfl rfl (by decide) rfl rfl ?_
        refine g_iload_n X 1 dX1_placeByKey_38 rfl rfl ?_
        obtain ⟨h6, hw⟩ := hw
        refine g_iald X 1 0 dX1_placeByKey_39 rfl rfl h6 ?_
        refine g_icmp_ne X 52 dX1_placeByKey_40 (by decide) (fun c7 => ?_) (fun c7 => ?_)
        · replace hw := hw.1 c7
          refine g_iinc X [(4, .int (x4 + 1)), (0, .ref (b 0)), (1, .int x1), (2, .int x2), (3, .int x3)] 4 dX1_placeByKey_52 rfl rfl (by decide) rfl ?_
          refine g_goto X 5 dX1_placeByKey_55 (by decide) ?_
          refine g_sub [(0, .ref (b 0)), (1, .int x1), (2, .int x2), (3, .int x3), (4, .int (x4 + 1))] [1, 2, 3, 4, 0] rfl ?_
          exact ih _ _ _ _ hw
        · replace hw := hw.2 c7
          refine g_iload X 4 dX1_placeByKey_43 rfl ?_
          refine g_iload_n X 1 dX1_placeByKey_45 rfl rfl ?_
          refine g_icmp_ge X 52 dX1_placeByKey_46 (by decide) (fun c8 => ?_) (fun c8 => ?_)
          · replace hw := hw.1 c8
            refine g_iinc X [(4, .int (x4 + 1)), (0, .ref (b 0)), (1, .int x1), (2, .int x2), (3, .int x3)] 4 dX1_placeByKey_52 rfl rfl (by decide) rfl ?_
            refine g_goto X 5 dX1_placeByKey_55 (by decide) ?_
            refine g_sub [(0, .ref (b 0)), (1, .int x1), (2, .int x2), (3, .int x3), (4, .int (x4 + 1))] [1, 2, 3, 4, 0] rfl ?_
            exact ih _ _ _ _ hw
          · replace hw := hw.2 c8
            refine g_iinc X [(3, .int (x3 + 1)), (0, .ref (b 0)), (1, .int x1), (2, .int x2), (4, .int x4)] 3 dX1_placeByKey_49 rfl rfl (by decide) rfl ?_
            refine g_iinc X [(4, .int (x4 + 1)), (3, .int (x3 + 1)), (0, .ref (b 0)), (1, .int x1), (2, .int x2)] 4 dX1_placeByKey_52 rfl rfl (by decide) rfl ?_
            refine g_goto X 5 dX1_placeByKey_55 (by decide) ?_
            refine g_sub [(0, .ref (b 0)), (1, .int x1), (2, .int x2), (3, .int (x3 + 1)), (4, .int (x4 + 1))] [2, 3, 4, 1, 0] rfl ?_
            exact ih _ _ _ _ hw

set_option maxHeartbeats 4000000 in
set_option maxRecDepth 20000 in
theorem kX1_placeByKey (l : Launch) (D : va_G) (ct : Nat → ClassId) (b : Nat → Nat) (o : Mem) (p1 : Int32) (p2 : Int32) (post : Int32 → Prop) (hw : PX1_placeByKey o p1 p2 post) : Ci (S := Unit) l yX1_placeByKey wsX1_placeByKey rmX1_placeByKey D (tyz ct) [.ref (b 0), .int p1, .int p2] (wO ct b o) (fun r (_ : Unit) => post r) (fun _ => wO ct b o) 0 0 := by
  intro sz
  refine g_of (own := RX1) (by decide) rfl rfl (Nat.le_of_ble_eq_true rfl) [(0, .ref (b 0)), (1, .int p1), (2, .int p2)] rfl (fun p e s m args below meth c hsz X => ?_)
  subst hsz
  unfold PX1_placeByKey at hw
  refine g_iconst (v := 0) X rfl dX1_placeByKey_0 ?_
  refine g_istore_n X [(3, .int 0), (0, .ref (b 0)), (1, .int p1), (2, .int p2)] dX1_placeByKey_1 rfl (by decide) rfl ?_
  refine g_iconst (v := 0) X rfl dX1_placeByKey_2 ?_
  refine g_istore X [(4, .int 0), (3, .int 0), (0, .ref (b 0)), (1, .int p1), (2, .int p2)] dX1_placeByKey_3 (by decide) rfl ?_
  refine g_sub [(0, .ref (b 0)), (1, .int p1), (2, .int p2), (3, .int 0), (4, .int 0)] [2, 3, 4, 1, 0] rfl ?_
  obtain ⟨n9, hw⟩ := hw
  exact kX1_placeByKey_5 l D ct b o post X n9 _ _ _ _ hw

abbrev rmX1_lay : Room := { frames := 4, cells := 0, slots := 0, locals := 84 }

abbrev GX1_lay (l : Launch) (D : va_G) (ct : Nat → ClassId) (b : Nat → Nat) (a : Nat → Nat) (post : Int32 → Mem → Mem → Prop) (p : Program) (e : Env) (s : State) (m : MethodId) (args : Array Value) (below : List Frame) (meth : Method) (c : Code) (A : Nat → Prop) (w9 : va_W) (lv : List (Nat × Value)) (pc : Nat) (st : List Value) : Prop :=
  GG p l e rmX1_lay s m args below meth c D A s.heap 7 (MQ below (va_Qi (fun r (u9 : Mem × Mem) => post r u9.1 u9.2) (fun u9 t9 => Af D (tyz ct) A ((fun u9 => fl [wO ct b u9.1, wS ct a u9.2]) u9) t9) A)  args s 0 0 A) w9 0 0 lv pc st

set_option maxHeartbeats 4000000 in
set_option maxRecDepth 20000 in
theorem kX1_lay_114 (l : Launch) (D : va_G) (ct : Nat → ClassId) (b : Nat → Nat) (a : Nat → Nat) (post : Int32 → Mem → Mem → Prop) {p : Program} {e : Env} {s : State} {m : MethodId} {args : Array Value} {below : List Frame} {meth : Method} {c : Code} {A : Nat → Prop} (X : Cx p s m args meth c cX1_lay 7 RX1 wsX1_lay D (tyz ct) A s.heap (some .int))  :
    ∀ (n : Nat) (o : Mem) (v : Mem) (x2 : Int32) (x3 : Int32) (x4 : Int32) (x5 : Int32), PX1_lay_114 post n o v x2 x3 x4 x5 → GX1_lay l D ct b a  post p e s m args below meth c A (fl [wO ct b o, wS ct a v]) [(0, .ref (b 0)), (1, .ref (a 0)), (2, .int x2), (3, .int x3), (4, .int x4), (5, .int x5)] 114 [] := by
  intro n
  induction n with
  | zero =>
    intro o v x2 x3 x4 x5 hw
    exact hw.elim
  | succ n ih =>
    intro o v x2 x3 x4 x5 hw
    unfold PX1_lay_114 at hw
    refine g_iload X 5 dX1_lay_114 rfl ?_
    refine g_iload_n X 3 dX1_lay_116 rfl rfl ?_
    refine g_icmp_ge X 140 dX1_lay_117 (by decide) (fun c6 => ?_) (fun c6 => ?_)
    · replace hw := hw.1 c6
      refine g_iload X 4 dX1_lay_140 rfl ?_
      exact g_iret X (o, v) hw rfl (Nat.le_of_ble_eq_true rfl) (Nat.le_of_ble_eq_true rfl) dX1_lay_142
    · replace hw := hw.2 c6
      refine g_aload_n X 1 dX1_lay_120 rfl rfl ?_
      refine g_iload_n X 2 dX1_lay_121 rfl rfl ?_
      refine g_iload X 5 dX1_lay_122 rfl ?_
      refine g_aload_n X 0 dX1_lay_124 rfl rfl ?_
      refine g_get (T := TX1) (C := RX1) (N := 2) (v := .ref (b 2)) X 0 1 (fun _ h => (List.mem_cons_of_mem _ (List.mem_append_left _ (List.mem_append_right _ h)))) (List.mem_of_getElem? (i := 6) rfl) dX1_lay_125 rfl rfl (by decide) rfl rfl ?_
      refine g_iload X 5 dX1_lay_128 rfl ?_
      obtain ⟨h7, hw⟩ := hw
      refine g_iald X 2 0 dX1_lay_130 rfl rfl h7 ?_
      refine g_cvV X [wO ct b o, wS ct a v] (fun (u8 : Mem) => [wO ct b o, wS ct a u8]) (fun (u8 : Mem) => fl [wO ct b o, wS ct a u8]) 2 [1] [0] 0 (kX5_lay l D ct a v x2 x5 (o 1 (ix x5)) _ hw) (cwV 3 X.1.2.2.2.2 gX1_lay_X5_lay rfl rfl rfl (by decide +kernel) ⟨Nat.le_of_ble_eq_true rfl, Nat.le_of_ble_eq_true rfl⟩) dX1_lay_131 rfl rfl (Nat.le_of_ble_eq_true rfl) ⟨Nat.le_of_ble_eq_true rfl, Nat.le_of_ble_eq_true rfl⟩ rfl rfl rfl (by decide) (fun _ => rfl) (fun _ => rfl) (fun _ => rfl) (fun _ => rfl) rfl rfl rfl (fun u8 hw => ?_)
      obtain ⟨v9, hv9⟩ : ∃ z : Mem, z = u8 := ⟨_, rfl⟩
      rw [← hv9] at hw
      rw [← hv9]
      refine g_iinc X [(5, .int (x5 + 1)), (0, .ref (b 0)), (1, .ref (a 0)), (2, .int x2), (3, .int x3), (4, .int x4)] 5 dX1_lay_134 rfl rfl (by decide) rfl ?_
      refine g_goto X 114 dX1_lay_137 (by decide) ?_
      refine g_sub [(0, .ref (b 0)), (1, .ref (a 0)), (2, .int x2), (3, .int x3), (4, .int x4), (5, .int (x5 + 1))] [1, 2, 3, 4, 5, 0] rfl ?_
      exact ih _ _ _ _ _ _ hw

set_option maxHeartbeats 4000000 in
set_option maxRecDepth 20000 in
theorem kX1_lay_66 (l : Launch) (D : va_G) (ct : Nat → ClassId) (b : Nat → Nat) (a : Nat → Nat) (post : Int32 → Mem → Mem → Prop) {p : Program} {e : Env} {s : State} {m : MethodId} {args : Array Value} {below : List Frame} {meth : Method} {c : Code} {A : Nat → Prop} (X : Cx p s m args meth c cX1_lay 7 RX1 wsX1_lay D (tyz ct) A s.heap (some .int))  :
    ∀ (n : Nat) (o : Mem) (v : Mem) (x2 : Int32) (x3 : Int32) (x4 : Int32) (x5 : Int32), PX1_lay_66 post n o v x2 x3 x4 x5 → GX1_lay l D ct b a  post p e s m args below meth c A (fl [wO ct b o, wS ct a v]) [(0, .ref (b 0)), (1, .ref (a 0)), (2, .int x2), (3, .int x3), (4, .int x4), (5, .int x5)] 66 [] := by
  intro n
  induction n with
  | zero =>
    intro o v x2 x3 x4 x5 hw
    exact hw.elim
  | succ n ih =>
    intro o v x2 x3 x4 x5 hw
    unfold PX1_lay_66 at hw
    refine g_iload X 5 dX1_lay_66 rfl ?_
    refine g_iload_n X 3 dX1_lay_68 rfl rfl ?_
    refine g_icmp_ge X 111 dX1_lay_69 (by decide) (fun c5 => ?_) (fun c5 => ?_)
    · replace hw := hw.1 c5
      refine g_iconst (v := 0) X rfl dX1_lay_111 ?_
      refine g_istore X [(5, .int 0), (0, .ref (b 0)), (1, .ref (a 0)), (2, .int x2), (3, .int x3), (4, .int x4)] dX1_lay_112 (by decide) rfl ?_
      refine g_sub [(0, .ref (b 0)), (1, .ref (a 0)), (2, .int x2), (3, .int x3), (4, .int x4), (5, .int 0)] [1, 2, 3, 4, 5, 0] rfl ?_
      obtain ⟨n10, hw⟩ := hw
      exact kX1_lay_114 l D ct b a post X n10 _ _ _ _ _ _ hw
    · replace hw := hw.2 c5
      refine g_aload_n X 0 dX1_lay_72 rfl rfl ?_
      refine g_iload X 5 dX1_lay_73 rfl ?_
      refine g_iload_n X 3 dX1_lay_75 rfl rfl ?_
      refine g_ciV X [wO ct b o, wS ct a v] (fun (_ : Unit) => [wO ct b o, wS ct a v]) (fun _ => fl [wO ct b o, wS ct a v]) 2 [0] [1] 0 (kX1_placeByKey l D ct b o x5 x3 _ hw) (cwV 2 X.1.2.2.2.2 gX1_lay_X1_placeByKey rfl rfl rfl (by decide +kernel) ⟨Nat.le_of_ble_eq_true rfl, Nat.le_of_ble_eq_true rfl⟩) dX1_lay_76 rfl rfl (Nat.le_of_ble_eq_true rfl) ⟨Nat.le_of_ble_eq_true rfl, Nat.le_of_ble_eq_true rfl⟩ rfl rfl rfl (by decide) (fun _ => rfl) (fun _ => rfl) (fun _ => rfl) (fun _ => rfl) rfl rfl rfl (fun r11 _ hw => ?_)
      refine g_istore X [(6, .int r11), (0, .ref (b 0)), (1, .ref (a 0)), (2, .int x2), (3, .int x3), (4, .int x4), (5, .int x5)] dX1_lay_79 (by decide) rfl ?_
      refine g_aload_n X 1 dX1_lay_81 rfl rfl ?_
      refine g_get (T := TX1) (C := RX1) (N := 2) (v := .ref (b 2)) X 0 1 (fun _ h => (List.mem_cons_of_mem _ (List.mem_append_left _ (List.mem_append_right _ h)))) (List.mem_of_getElem? (i := 6) rfl) dX1_lay_82 rfl rfl (by decide) rfl rfl ?_
      refine g_iload X 0 dX1_lay_85 rfl ?_
      refine g_aload_n X 2 dX1_lay_87 rfl rfl ?_
      refine g_iload_n X 3 dX1_lay_88 rfl rfl ?_
      refine g_iload X 6 dX1_lay_89 rfl ?_
      refine g_ciV X [wO ct b o, wS ct a v] (fun (_ : Unit) => [wO ct b o, wS ct a v]) (fun _ => fl [wO ct b o, wS ct a v]) 2 [1] [0] 0 (kX5_personAt l D ct a v x2 x5 _ hw) (cwV 2 X.1.2.2.2.2 gX1_lay_X5_personAt rfl rfl rfl (by decide +kernel) ⟨Nat.le_of_ble_eq_true rfl, Nat.le_of_ble_eq_true rfl⟩) dX1_lay_91 rfl rfl (Nat.le_of_ble_eq_true rfl) ⟨Nat.le_of_ble_eq_true rfl, Nat.le_of_ble_eq_true rfl⟩ rfl rfl rfl (by decide) (fun _ => rfl) (fun _ => rfl) (fun _ => rfl) (fun _ => rfl) rfl rfl rfl (fun r13 _ hw => ?_)
      obtain ⟨h15, hw⟩ := hw
      refine g_iast X (fun z => fl [wO ct b z, wS ct a v]) o 1 2 0 dX1_lay_94 rfl rfl h15 rfl (fun o16 ho16 => ?_)
      replace hw := hw o16 ho16
      refine g_iload X 0 dX1_lay_95 rfl ?_
      refine g_iload X 6 dX1_lay_97 rfl ?_
      refine g_icmp_eq X 105 dX1_lay_99 (by decide) (fun c17 => ?_) (fun c17 => ?_)
      · replace hw := hw.1 c17
        refine g_iinc X [(5, .int (x5 + 1)), (6, .int r11), (0, .ref (b 0)), (1, .ref (a 0)), (2, .int x2), (3, .int x3), (4, .int x4)] 6 dX1_lay_105 rfl rfl (by decide) rfl ?_
        refine g_goto X 66 dX1_lay_108 (by decide) ?_
        refine g_sub [(0, .ref (b 0)), (1, .ref (a 0)), (2, .int x2), (3, .int x3), (4, .int x4), (5, .int (x5 + 1))] [2, 3, 4, 5, 6, 0] rfl ?_
        exact ih _ _ _ _ _ _ hw
      · replace hw := hw.2 c17
        refine g_iinc X [(4, .int (x4 + 1)), (6, .int r11), (0, .ref (b 0)), (1, .ref (a 0)), (2, .int x2), (3, .int x3), (5, .int x5)] 5 dX1_lay_102 rfl rfl (by decide) rfl ?_
        refine g_iinc X [(5, .int (x5 + 1)), (4, .int (x4 + 1)), (6, .int r11), (0, .ref (b 0)), (1, .ref (a 0)), (2, .int x2), (3, .int x3)] 6 dX1_lay_105 rfl rfl (by decide) rfl ?_
        refine g_goto X 66 dX1_lay_108 (by decide) ?_
        refine g_sub [(0, .ref (b 0)), (1, .ref (a 0)), (2, .int x2), (3, .int x3), (4, .int (x4 + 1)), (5, .int (x5 + 1))] [3, 4, 5, 6, 1, 0] rfl ?_
        exact ih _ _ _ _ _ _ hw

set_option maxHeartbeats 4000000 in
set_option maxRecDepth 20000 in
theorem kX1_lay_53 (l : Launch) (D : va_G) (ct : Nat → ClassId) (b : Nat → Nat) (a : Nat → Nat) (post : Int32 → Mem → Mem → Prop) (K14 : Mem → Mem → Int32 → Int32 → Int32 → Prop) {p : Program} {e : Env} {s : State} {m : MethodId} {args : Array Value} {below : List Frame} {meth : Method} {c : Code} {A : Nat → Prop} (X : Cx p s m args meth c cX1_lay 7 RX1 wsX1_lay D (tyz ct) A s.heap (some .int)) (hK14 : ∀ (o : Mem) (v : Mem) (x2 : Int32) (x3 : Int32) (x4 : Int32), K14 o v x2 x3 x4 → GX1_lay l D ct b a  post p e s m args below meth c A (fl [wO ct b o, wS ct a v]) [(0, .ref (b 0)), (1, .ref (a 0)), (2, .int x2), (3, .int x3), (4, .int x4)] 14 []) :
    ∀ (o : Mem) (v : Mem) (x2 : Int32) (x3 : Int32) (x4 : Int32) (z0 : Int32) (z1 : Int32), PX1_lay_53 post K14 o v x2 x3 x4 z0 z1 → GX1_lay l D ct b a  post p e s m args below meth c A (fl [wO ct b o, wS ct a v]) [(0, .ref (b 0)), (1, .ref (a 0)), (2, .int x2), (3, .int x3), (4, .int x4)] 53 [.int z0, .int z1, .ref (b 1)] := by
  intro o v x2 x3 x4 z0 z1 hw
  unfold PX1_lay_53 at hw
  obtain ⟨h24, hw⟩ := hw
  refine g_iast X (fun z => fl [wO ct b z, wS ct a v]) o 0 1 0 dX1_lay_53 rfl rfl h24 rfl (fun o25 ho25 => ?_)
  replace hw := hw o25 ho25
  refine g_iinc X [(4, .int (x4 + 1)), (0, .ref (b 0)), (1, .ref (a 0)), (2, .int x2), (3, .int x3)] 4 dX1_lay_54 rfl rfl (by decide) rfl ?_
  refine g_goto X 14 dX1_lay_57 (by decide) ?_
  refine g_sub [(0, .ref (b 0)), (1, .ref (a 0)), (2, .int x2), (3, .int x3), (4, .int (x4 + 1))] [1, 2, 3, 4, 0] rfl ?_
  exact hK14 _ _ _ _ _ hw

set_option maxHeartbeats 4000000 in
set_option maxRecDepth 20000 in
theorem kX1_lay_14 (l : Launch) (D : va_G) (ct : Nat → ClassId) (b : Nat → Nat) (a : Nat → Nat) (post : Int32 → Mem → Mem → Prop) {p : Program} {e : Env} {s : State} {m : MethodId} {args : Array Value} {below : List Frame} {meth : Method} {c : Code} {A : Nat → Prop} (X : Cx p s m args meth c cX1_lay 7 RX1 wsX1_lay D (tyz ct) A s.heap (some .int))  :
    ∀ (n : Nat) (o : Mem) (v : Mem) (x2 : Int32) (x3 : Int32) (x4 : Int32), PX1_lay_14 post n o v x2 x3 x4 → GX1_lay l D ct b a  post p e s m args below meth c A (fl [wO ct b o, wS ct a v]) [(0, .ref (b 0)), (1, .ref (a 0)), (2, .int x2), (3, .int x3), (4, .int x4)] 14 [] := by
  intro n
  induction n with
  | zero =>
    intro o v x2 x3 x4 hw
    exact hw.elim
  | succ n ih =>
    intro o v x2 x3 x4 hw
    unfold PX1_lay_14 at hw
    refine g_iload X 4 dX1_lay_14 rfl ?_
    refine g_iload_n X 3 dX1_lay_16 rfl rfl ?_
    refine g_icmp_ge X 60 dX1_lay_17 (by decide) (fun c4 => ?_) (fun c4 => ?_)
    · replace hw := hw.1 c4
      refine g_iconst (v := 0) X rfl dX1_lay_60 ?_
      refine g_istore X [(4, .int 0), (0, .ref (b 0)), (1, .ref (a 0)), (2, .int x2), (3, .int x3)] dX1_lay_61 (by decide) rfl ?_
      refine g_iconst (v := 0) X rfl dX1_lay_63 ?_
      refine g_istore X [(5, .int 0), (4, .int 0), (0, .ref (b 0)), (1, .ref (a 0)), (2, .int x2), (3, .int x3)] dX1_lay_64 (by decide) rfl ?_
      refine g_sub [(0, .ref (b 0)), (1, .ref (a 0)), (2, .int x2), (3, .int x3), (4, .int 0), (5, .int 0)] [2, 3, 4, 5, 1, 0] rfl ?_
      obtain ⟨n18, hw⟩ := hw
      exact kX1_lay_66 l D ct b a post X n18 _ _ _ _ _ _ hw
    · replace hw := hw.2 c4
      refine g_aload_n X 1 dX1_lay_20 rfl rfl ?_
      refine g_aload_n X 1 dX1_lay_21 rfl rfl ?_
      refine g_iload_n X 2 dX1_lay_22 rfl rfl ?_
      refine g_iload X 4 dX1_lay_23 rfl ?_
      refine g_ciV X [wO ct b o, wS ct a v] (fun (_ : Unit) => [wO ct b o, wS ct a v]) (fun _ => fl [wO ct b o, wS ct a v]) 2 [1] [0] 0 (kX5_personAt l D ct a v x2 x4 _ hw) (cwV 2 X.1.2.2.2.2 gX1_lay_X5_personAt rfl rfl rfl (by decide +kernel) ⟨Nat.le_of_ble_eq_true rfl, Nat.le_of_ble_eq_true rfl⟩) dX1_lay_25 rfl rfl (Nat.le_of_ble_eq_true rfl) ⟨Nat.le_of_ble_eq_true rfl, Nat.le_of_ble_eq_true rfl⟩ rfl rfl rfl (by decide) (fun _ => rfl) (fun _ => rfl) (fun _ => rfl) (fun _ => rfl) rfl rfl rfl (fun r19 _ hw => ?_)
      refine g_ciV X [wO ct b o, wS ct a v] (fun (_ : Unit) => [wO ct b o, wS ct a v]) (fun _ => fl [wO ct b o, wS ct a v]) 2 [1] [0] 0 (kX5_middleAbove l D ct a v r19 _ hw) (cwV 1 X.1.2.2.2.2 gX1_lay_X5_middleAbove rfl rfl rfl (by decide +kernel) ⟨Nat.le_of_ble_eq_true rfl, Nat.le_of_ble_eq_true rfl⟩) dX1_lay_28 rfl rfl (Nat.le_of_ble_eq_true rfl) ⟨Nat.le_of_ble_eq_true rfl, Nat.le_of_ble_eq_true rfl⟩ rfl rfl rfl (by decide) (fun _ => rfl) (fun _ => rfl) (fun _ => rfl) (fun _ => rfl) rfl rfl rfl (fun r21 _ hw => ?_)
      refine g_istore X [(5, .int r21), (0, .ref (b 0)), (1, .ref (a 0)), (2, .int x2), (3, .int x3), (4, .int x4)] dX1_lay_31 (by decide) rfl ?_
      refine g_aload_n X 1 dX1_lay_33 rfl rfl ?_
      refine g_get (T := TX1) (C := RX1) (N := 2) (v := .ref (b 1)) X 0 0 (fun _ h => (List.mem_cons_of_mem _ (List.mem_append_left _ (List.mem_append_right _ h)))) (List.mem_of_getElem? (i := 5) rfl) dX1_lay_34 rfl rfl (by decide) rfl rfl ?_
      refine g_iload X 5 dX1_lay_37 rfl ?_
      refine g_iload X 0 dX1_lay_39 rfl ?_
      refine g_iconst (v := (-1)) X rfl dX1_lay_41 ?_
      refine g_icmp_ne X 51 dX1_lay_42 (by decide) (fun c23 => ?_) (fun c23 => ?_)
      · replace hw := hw.1 c23
        refine g_iload X 0 dX1_lay_51 rfl ?_
        refine g_sub [(0, .ref (b 0)), (1, .ref (a 0)), (2, .int x2), (3, .int x3), (4, .int x4)] [1, 2, 3, 4, 5] rfl ?_
        exact kX1_lay_53 l D ct b a post _ X ih _ _ _ _ _ _ _ hw
      · replace hw := hw.2 c23
        refine g_sipush (v := 1000) X rfl dX1_lay_45 ?_
        refine g_goto X 53 dX1_lay_48 (by decide) ?_
        refine g_sub [(0, .ref (b 0)), (1, .ref (a 0)), (2, .int x2), (3, .int x3), (4, .int x4)] [1, 2, 3, 4, 5] rfl ?_
        exact kX1_lay_53 l D ct b a post _ X ih _ _ _ _ _ _ _ hw

set_option maxHeartbeats 4000000 in
set_option maxRecDepth 20000 in
theorem kX1_lay (l : Launch) (D : va_G) (ct : Nat → ClassId) (b : Nat → Nat) (a : Nat → Nat) (o : Mem) (v : Mem) (p2 : Int32) (post : Int32 → Mem → Mem → Prop) (hw : PX1_lay o v p2 post) : Ci (S := Mem × Mem) l yX1_lay wsX1_lay rmX1_lay D (tyz ct) [.ref (b 0), .ref (a 0), .int p2] (fl [wO ct b o, wS ct a v]) (fun r (u9 : Mem × Mem) => post r u9.1 u9.2) (fun u9 => fl [wO ct b u9.1, wS ct a u9.2]) 0 0 := by
  intro sz
  refine g_of (own := RX1) (by decide) rfl rfl (Nat.le_of_ble_eq_true rfl) [(0, .ref (b 0)), (1, .ref (a 0)), (2, .int p2)] rfl (fun p e s m args below meth c hsz X => ?_)
  subst hsz
  unfold PX1_lay at hw
  refine g_aload_n X 1 dX1_lay_0 rfl rfl ?_
  refine g_iload_n X 2 dX1_lay_1 rfl rfl ?_
  refine g_ciV X [wO ct b o, wS ct a v] (fun (_ : Unit) => [wO ct b o, wS ct a v]) (fun _ => fl [wO ct b o, wS ct a v]) 2 [1] [0] 0 (kX5_sizeOf l D ct a v p2 _ hw) (cwV 1 X.1.2.2.2.2 gX1_lay_X5_sizeOf rfl rfl rfl (by decide +kernel) ⟨Nat.le_of_ble_eq_true rfl, Nat.le_of_ble_eq_true rfl⟩) dX1_lay_2 rfl rfl (Nat.le_of_ble_eq_true rfl) ⟨Nat.le_of_ble_eq_true rfl, Nat.le_of_ble_eq_true rfl⟩ rfl rfl rfl (by decide) (fun _ => rfl) (fun _ => rfl) (fun _ => rfl) (fun _ => rfl) rfl rfl rfl (fun r1 _ hw => ?_)
  refine g_bipush (v := 6) X rfl dX1_lay_5 ?_
  refine g_mmin X (List.mem_of_getElem? (i := 1) rfl) (List.mem_of_getElem? (i := 2) rfl) (List.mem_of_getElem? (i := 3) rfl) (List.mem_of_getElem? (i := 4) rfl) dX1_lay_7 (Nat.le_of_ble_eq_true rfl) (Nat.le_of_ble_eq_true rfl) (Nat.le_of_ble_eq_true rfl) (Nat.le_of_ble_eq_true rfl) ?_
  refine g_topi (fun q3 hq3 => ?_)
  replace hw := hw q3 hq3
  refine g_istore_n X [(3, .int q3), (0, .ref (b 0)), (1, .ref (a 0)), (2, .int p2)] dX1_lay_10 rfl (by decide) rfl ?_
  refine g_iconst (v := 0) X rfl dX1_lay_11 ?_
  refine g_istore X [(4, .int 0), (3, .int q3), (0, .ref (b 0)), (1, .ref (a 0)), (2, .int p2)] dX1_lay_12 (by decide) rfl ?_
  refine g_sub [(0, .ref (b 0)), (1, .ref (a 0)), (2, .int p2), (3, .int q3), (4, .int 0)] [2, 3, 4, 1, 0] rfl ?_
  obtain ⟨n26, hw⟩ := hw
  exact kX1_lay_14 l D ct b a post X n26 _ _ _ _ _ hw

abbrev rmX2_collect : Room := { frames := 4, cells := 0, slots := 0, locals := 84 }

abbrev GX2_collect (l : Launch) (D : va_G) (ct : Nat → ClassId) (b : Nat → Nat) (a : Nat → Nat) (v : Mem) (post : Mem → Prop) (p : Program) (e : Env) (s : State) (m : MethodId) (args : Array Value) (below : List Frame) (meth : Method) (c : Code) (A : Nat → Prop) (w9 : va_W) (lv : List (Nat × Value)) (pc : Nat) (st : List Value) : Prop :=
  GG p l e rmX2_collect s m args below meth c D A s.heap 5 (MQ below (va_Qv (fun (u9 : Mem) => post u9) (fun u9 t9 => Af D (tyz ct) A ((fun u9 => fl [wL ct b u9, wS ct a v]) u9) t9) A)  args s 0 0 A) w9 0 0 lv pc st

set_option maxHeartbeats 4000000 in
set_option maxRecDepth 20000 in
theorem kX2_collect_7 (l : Launch) (D : va_G) (ct : Nat → ClassId) (b : Nat → Nat) (a : Nat → Nat) (v : Mem) (post : Mem → Prop) {p : Program} {e : Env} {s : State} {m : MethodId} {args : Array Value} {below : List Frame} {meth : Method} {c : Code} {A : Nat → Prop} (X : Cx p s m args meth c cX2_collect 5 RX2 wsX2_collect D (tyz ct) A s.heap none)  :
    ∀ (n : Nat) (y : Mem) (x2 : Int32) (x3 : Int32), PX2_collect_7 v post n y x2 x3 → GX2_collect l D ct b a v post p e s m args below meth c A (fl [wL ct b y, wS ct a v]) [(0, .ref (b 0)), (1, .ref (a 0)), (2, .int x2), (3, .int x3)] 7 [] := by
  intro n
  induction n with
  | zero =>
    intro y x2 x3 hw
    exact hw.elim
  | succ n ih =>
    intro y x2 x3 hw
    unfold PX2_collect_7 at hw
    refine g_iload_n X 3 dX2_collect_7 rfl rfl ?_
    refine g_aload_n X 1 dX2_collect_8 rfl rfl ?_
    refine g_iload_n X 2 dX2_collect_9 rfl rfl ?_
    refine g_ciV X [wL ct b y, wS ct a v] (fun (_ : Unit) => [wL ct b y, wS ct a v]) (fun _ => fl [wL ct b y, wS ct a v]) 2 [1] [0] 0 (kX5_sizeOf l D ct a v x2 _ hw) (cwV 1 X.1.2.2.2.2 gX2_collect_X5_sizeOf rfl rfl rfl (by decide +kernel) ⟨Nat.le_of_ble_eq_true rfl, Nat.le_of_ble_eq_true rfl⟩) dX2_collect_10 rfl rfl (Nat.le_of_ble_eq_true rfl) ⟨Nat.le_of_ble_eq_true rfl, Nat.le_of_ble_eq_true rfl⟩ rfl rfl rfl (by decide) (fun _ => rfl) (fun _ => rfl) (fun _ => rfl) (fun _ => rfl) rfl rfl rfl (fun r2 _ hw => ?_)
    refine g_icmp_ge X 77 dX2_collect_13 (by decide) (fun c4 => ?_) (fun c4 => ?_)
    · replace hw := hw.1 c4
      exact g_vret X y hw rfl (Nat.le_of_ble_eq_true rfl) (Nat.le_of_ble_eq_true rfl) dX2_collect_77
    · replace hw := hw.2 c4
      refine g_iload_n X 3 dX2_collect_16 rfl rfl ?_
      refine g_bipush (v := 6) X rfl dX2_collect_17 ?_
      refine g_icmp_ge X 77 dX2_collect_19 (by decide) (fun c5 => ?_) (fun c5 => ?_)
      · replace hw := hw.1 c5
        exact g_vret X y hw rfl (Nat.le_of_ble_eq_true rfl) (Nat.le_of_ble_eq_true rfl) dX2_collect_77
      · replace hw := hw.2 c5
        refine g_aload_n X 1 dX2_collect_22 rfl rfl ?_
        refine g_aload_n X 1 dX2_collect_23 rfl rfl ?_
        refine g_iload_n X 2 dX2_collect_24 rfl rfl ?_
        refine g_iload_n X 3 dX2_collect_25 rfl rfl ?_
        refine g_ciV X [wL ct b y, wS ct a v] (fun (_ : Unit) => [wL ct b y, wS ct a v]) (fun _ => fl [wL ct b y, wS ct a v]) 2 [1] [0] 0 (kX5_personAt l D ct a v x2 x3 _ hw) (cwV 2 X.1.2.2.2.2 gX2_collect_X5_personAt rfl rfl rfl (by decide +kernel) ⟨Nat.le_of_ble_eq_true rfl, Nat.le_of_ble_eq_true rfl⟩) dX2_collect_26 rfl rfl (Nat.le_of_ble_eq_true rfl) ⟨Nat.le_of_ble_eq_true rfl, Nat.le_of_ble_eq_true rfl⟩ rfl rfl rfl (by decide) (fun _ => rfl) (fun _ => rfl) (fun _ => rfl) (fun _ => rfl) rfl rfl rfl (fun r6 _ hw => ?_)
        refine g_ciV X [wL ct b y, wS ct a v] (fun (_ : Unit) => [wL ct b y, wS ct a v]) (fun _ => fl [wL ct b y, wS ct a v]) 2 [1] [0] 0 (kX5_middleAbove l D ct a v r6 _ hw) (cwV 1 X.1.2.2.2.2 gX2_collect_X5_middleAbove rfl rfl rfl (by decide +kernel) ⟨Nat.le_of_ble_eq_true rfl, Nat.le_of_ble_eq_true rfl⟩) dX2_collect_29 rfl rfl (Nat.le_of_ble_eq_true rfl) ⟨Nat.le_of_ble_eq_true rfl, Nat.le_of_ble_eq_true rfl⟩ rfl rfl rfl (by decide) (fun _ => rfl) (fun _ => rfl) (fun _ => rfl) (fun _ => rfl) rfl rfl rfl (fun r8 _ hw => ?_)
        refine g_istore X [(4, .int r8), (0, .ref (b 0)), (1, .ref (a 0)), (2, .int x2), (3, .int x3)] dX2_collect_32 (by decide) rfl ?_
        refine g_iload X 0 dX2_collect_34 rfl ?_
        refine g_iconst (v := (-1)) X rfl dX2_collect_36 ?_
        refine g_icmp_eq X 71 dX2_collect_37 (by decide) (fun c10 => ?_) (fun c10 => ?_)
        · replace hw := hw.1 c10
          refine g_iinc X [(3, .int (x3 + 1)), (4, .int r8), (0, .ref (b 0)), (1, .ref (a 0)), (2, .int x2)] 4 dX2_collect_71 rfl rfl (by decide) rfl ?_
          refine g_goto X 7 dX2_collect_74 (by decide) ?_
          refine g_sub [(0, .ref (b 0)), (1, .ref (a 0)), (2, .int x2), (3, .int (x3 + 1))] [2, 3, 4, 0] rfl ?_
          exact ih _ _ _ hw
        · replace hw := hw.2 c10
          refine g_aload_n X 1 dX2_collect_40 rfl rfl ?_
          refine g_get (T := TX2) (C := RX2) (N := 3) (v := .ref (b 1)) X 0 0 (fun _ h => (List.mem_cons_of_mem _ (List.mem_append_left _ (List.mem_append_right _ h)))) (List.mem_of_getElem? (i := 2) rfl) dX2_collect_41 rfl rfl (by decide) rfl rfl ?_
          refine g_aload_n X 1 dX2_collect_44 rfl rfl ?_
          refine g_get (T := TX2) (C := RX2) (N := 3) (v := .int (y 2 0)) X 0 2 (fun _ h => (List.mem_cons_of_mem _ (List.mem_append_left _ (List.mem_append_right _ h)))) (List.mem_of_getElem? (i := 1) rfl) dX2_collect_45 rfl rfl (by decide) rfl rfl ?_
          refine g_iload X 0 dX2_collect_48 rfl ?_
          obtain ⟨h11, hw⟩ := hw
          refine g_iast X (fun z => fl [wL ct b z, wS ct a v]) y 0 1 0 dX2_collect_50 rfl rfl h11 rfl (fun y12 hy12 => ?_)
          replace hw := hw y12 hy12
          refine g_aload_n X 1 dX2_collect_51 rfl rfl ?_
          refine g_get (T := TX2) (C := RX2) (N := 3) (v := .ref (b 2)) X 0 1 (fun _ h => (List.mem_cons_of_mem _ (List.mem_append_left _ (List.mem_append_right _ h)))) (List.mem_of_getElem? (i := 3) rfl) dX2_collect_52 rfl rfl (by decide) rfl rfl ?_
          refine g_aload_n X 1 dX2_collect_55 rfl rfl ?_
          refine g_get (T := TX2) (C := RX2) (N := 3) (v := .int (y12 2 0)) X 0 2 (fun _ h => (List.mem_cons_of_mem _ (List.mem_append_left _ (List.mem_append_right _ h)))) (List.mem_of_getElem? (i := 1) rfl) dX2_collect_56 rfl rfl (by decide) rfl rfl ?_
          refine g_iload_n X 4 dX2_collect_59 rfl rfl ?_
          obtain ⟨h13, hw⟩ := hw
          refine g_iast X (fun z => fl [wL ct b z, wS ct a v]) y12 1 2 0 dX2_collect_60 rfl rfl h13 rfl (fun y14 hy14 => ?_)
          replace hw := hw y14 hy14
          refine g_aload_n X 1 dX2_collect_61 rfl rfl ?_
          refine g_dup X dX2_collect_62 rfl ?_
          refine g_get (T := TX2) (C := RX2) (N := 3) (v := .int (y14 2 0)) X 0 2 (fun _ h => (List.mem_cons_of_mem _ (List.mem_append_left _ (List.mem_append_right _ h)))) (List.mem_of_getElem? (i := 1) rfl) dX2_collect_63 rfl rfl (by decide) rfl rfl ?_
          refine g_iconst (v := 1) X rfl dX2_collect_66 ?_
          refine g_iadd X dX2_collect_67 ?_
          refine g_put (T := TX2) (C := RX2) (N := 3) X (fun z => fl [wL ct b z, wS ct a v]) y14 0 2 tyX2 tyX2_ok nmX2 (fun _ h => (List.mem_cons_of_mem _ (List.mem_append_left _ (List.mem_append_right _ h)))) (List.mem_of_getElem? (i := 1) rfl) dX2_collect_68 rfl rfl (by decide) rfl rfl (by decide +kernel) (Nat.le_of_ble_eq_true rfl) rfl (fun y15 hy15 => ?_)
          replace hw := hw y15 hy15
          refine g_iinc X [(3, .int (x3 + 1)), (4, .int r8), (0, .ref (b 0)), (1, .ref (a 0)), (2, .int x2)] 4 dX2_collect_71 rfl rfl (by decide) rfl ?_
          refine g_goto X 7 dX2_collect_74 (by decide) ?_
          refine g_sub [(0, .ref (b 0)), (1, .ref (a 0)), (2, .int x2), (3, .int (x3 + 1))] [2, 3, 4, 0] rfl ?_
          exact ih _ _ _ hw

set_option maxHeartbeats 4000000 in
set_option maxRecDepth 20000 in
theorem kX2_collect (l : Launch) (D : va_G) (ct : Nat → ClassId) (b : Nat → Nat) (a : Nat → Nat) (y : Mem) (v : Mem) (p2 : Int32) (post : Mem → Prop) (hw : PX2_collect y v p2 post) : Cv (S := Mem) l yX2_collect wsX2_collect rmX2_collect D (tyz ct) [.ref (b 0), .ref (a 0), .int p2] (fl [wL ct b y, wS ct a v]) (fun (u9 : Mem) => post u9) (fun u9 => fl [wL ct b u9, wS ct a v]) 0 0 := by
  intro sz
  refine g_of (own := RX2) (by decide) rfl rfl (Nat.le_of_ble_eq_true rfl) [(0, .ref (b 0)), (1, .ref (a 0)), (2, .int p2)] rfl (fun p e s m args below meth c hsz X => ?_)
  subst hsz
  unfold PX2_collect at hw
  refine g_aload_n X 0 dX2_collect_0 rfl rfl ?_
  refine g_iconst (v := 0) X rfl dX2_collect_1 ?_
  refine g_put (T := TX2) (C := RX2) (N := 3) X (fun z => fl [wL ct b z, wS ct a v]) y 0 2 tyX2 tyX2_ok nmX2 (fun _ h => (List.mem_cons_of_mem _ (List.mem_append_left _ (List.mem_append_right _ h)))) (List.mem_of_getElem? (i := 1) rfl) dX2_collect_2 rfl rfl (by decide) rfl rfl (by decide +kernel) (Nat.le_of_ble_eq_true rfl) rfl (fun y1 hy1 => ?_)
  replace hw := hw y1 hy1
  refine g_iconst (v := 0) X rfl dX2_collect_5 ?_
  refine g_istore_n X [(3, .int 0), (0, .ref (b 0)), (1, .ref (a 0)), (2, .int p2)] dX2_collect_6 rfl (by decide) rfl ?_
  refine g_sub [(0, .ref (b 0)), (1, .ref (a 0)), (2, .int p2), (3, .int 0)] [1, 2, 3, 0] rfl ?_
  obtain ⟨n16, hw⟩ := hw
  exact kX2_collect_7 l D ct b a v post X n16 _ _ _ hw

abbrev rmX2_crossedPairs : Room := { frames := 0, cells := 0, slots := 0, locals := 0 }

abbrev GX2_crossedPairs (l : Launch) (D : va_G) (ct : Nat → ClassId) (b : Nat → Nat) (y : Mem) (post : Int32 → Prop) (p : Program) (e : Env) (s : State) (m : MethodId) (args : Array Value) (below : List Frame) (meth : Method) (c : Code) (A : Nat → Prop) (w9 : va_W) (lv : List (Nat × Value)) (pc : Nat) (st : List Value) : Prop :=
  GG p l e rmX2_crossedPairs s m args below meth c D A s.heap 4 (MQ below (va_Qi (fun r (_ : Unit) => post r) (fun u9 t9 => Af D (tyz ct) A ((fun _ => wL ct b y) u9) t9) A)  args s 0 0 A) w9 0 0 lv pc st

set_option maxHeartbeats 4000000 in
set_option maxRecDepth 20000 in
theorem kX2_crossedPairs_16 (l : Launch) (D : va_G) (ct : Nat → ClassId) (b : Nat → Nat) (y : Mem) (post : Int32 → Prop) (K4 : Int32 → Int32 → Prop) {p : Program} {e : Env} {s : State} {m : MethodId} {args : Array Value} {below : List Frame} {meth : Method} {c : Code} {A : Nat → Prop} (X : Cx p s m args meth c cX2_crossedPairs 4 RX2 wsX2_crossedPairs D (tyz ct) A s.heap (some .int)) (hK4 : ∀ (x1 : Int32) (x2 : Int32), K4 x1 x2 → GX2_crossedPairs l D ct b y post p e s m args below meth c A (wL ct b y) [(0, .ref (b 0)), (1, .int x1), (2, .int x2)] 4 []) :
    ∀ (n : Nat) (x1 : Int32) (x2 : Int32) (x3 : Int32), PX2_crossedPairs_16 y post K4 n x1 x2 x3 → GX2_crossedPairs l D ct b y post p e s m args below meth c A (wL ct b y) [(0, .ref (b 0)), (1, .int x1), (2, .int x2), (3, .int x3)] 16 [] := by
  intro n
  induction n with
  | zero =>
    intro x1 x2 x3 hw
    exact hw.elim
  | succ n ih =>
    intro x1 x2 x3 hw
    unfold PX2_crossedPairs_16 at hw
    refine g_iload_n X 3 dX2_crossedPairs_16 rfl rfl ?_
    refine g_aload_n X 0 dX2_crossedPairs_17 rfl rfl ?_
    refine g_get (T := TX2) (C := RX2) (N := 3) (v := .int (y 2 0)) X 0 2 (fun _ h => (List.mem_cons_of_mem _ (List.mem_append_right _ h))) (List.mem_of_getElem? (i := 1) rfl) dX2_crossedPairs_18 rfl rfl (by decide) rfl rfl ?_
    refine g_icmp_ge X 48 dX2_crossedPairs_21 (by decide) (fun c3 => ?_) (fun c3 => ?_)
    · replace hw := hw.1 c3
      refine g_iinc X [(2, .int (x2 + 1)), (0, .ref (b 0)), (1, .int x1), (3, .int x3)] 2 dX2_crossedPairs_48 rfl rfl (by decide) rfl ?_
      refine g_goto X 4 dX2_crossedPairs_51 (by decide) ?_
      refine g_sub [(0, .ref (b 0)), (1, .int x1), (2, .int (x2 + 1))] [1, 2, 0] rfl ?_
      exact hK4 _ _ hw
    · replace hw := hw.2 c3
      refine g_aload_n X 0 dX2_crossedPairs_24 rfl rfl ?_
      refine g_get (T := TX2) (C := RX2) (N := 3) (v := .ref (b 1)) X 0 0 (fun _ h => (List.mem_cons_of_mem _ (List.mem_append_right _ h))) (List.mem_of_getElem? (i := 2) rfl) dX2_crossedPairs_25 rfl rfl (by decide) rfl rfl ?_
      refine g_iload_n X 3 dX2_crossedPairs_28 rfl rfl ?_
      obtain ⟨h4, hw⟩ := hw
      refine g_iald X 1 0 dX2_crossedPairs_29 rfl rfl h4 ?_
      refine g_aload_n X 0 dX2_crossedPairs_30 rfl rfl ?_
      refine g_get (T := TX2) (C := RX2) (N := 3) (v := .ref (b 1)) X 0 0 (fun _ h => (List.mem_cons_of_mem _ (List.mem_append_right _ h))) (List.mem_of_getElem? (i := 2) rfl) dX2_crossedPairs_31 rfl rfl (by decide) rfl rfl ?_
      refine g_iload_n X 2 dX2_crossedPairs_34 rfl rfl ?_
      obtain ⟨h5, hw⟩ := hw
      refine g_iald X 1 0 dX2_crossedPairs_35 rfl rfl h5 ?_
      refine g_icmp_ge X 42 dX2_crossedPairs_36 (by decide) (fun c6 => ?_) (fun c6 => ?_)
      · replace hw := hw.1 c6
        refine g_iinc X [(3, .int (x3 + 1)), (0, .ref (b 0)), (1, .int x1), (2, .int x2)] 3 dX2_crossedPairs_42 rfl rfl (by decide) rfl ?_
        refine g_goto X 16 dX2_crossedPairs_45 (by decide) ?_
        refine g_sub [(0, .ref (b 0)), (1, .int x1), (2, .int x2), (3, .int (x3 + 1))] [1, 2, 3, 0] rfl ?_
        exact ih _ _ _ hw
      · replace hw := hw.2 c6
        refine g_iinc X [(1, .int (x1 + 1)), (0, .ref (b 0)), (2, .int x2), (3, .int x3)] 1 dX2_crossedPairs_39 rfl rfl (by decide) rfl ?_
        refine g_iinc X [(3, .int (x3 + 1)), (1, .int (x1 + 1)), (0, .ref (b 0)), (2, .int x2)] 3 dX2_crossedPairs_42 rfl rfl (by decide) rfl ?_
        refine g_goto X 16 dX2_crossedPairs_45 (by decide) ?_
        refine g_sub [(0, .ref (b 0)), (1, .int (x1 + 1)), (2, .int x2), (3, .int (x3 + 1))] [2, 1, 3, 0] rfl ?_
        exact ih _ _ _ hw

set_option maxHeartbeats 4000000 in
set_option maxRecDepth 20000 in
theorem kX2_crossedPairs_4 (l : Launch) (D : va_G) (ct : Nat → ClassId) (b : Nat → Nat) (y : Mem) (post : Int32 → Prop) {p : Program} {e : Env} {s : State} {m : MethodId} {args : Array Value} {below : List Frame} {meth : Method} {c : Code} {A : Nat → Prop} (X : Cx p s m args meth c cX2_crossedPairs 4 RX2 wsX2_crossedPairs D (tyz ct) A s.heap (some .int))  :
    ∀ (n : Nat) (x1 : Int32) (x2 : Int32), PX2_crossedPairs_4 y post n x1 x2 → GX2_crossedPairs l D ct b y post p e s m args below meth c A (wL ct b y) [(0, .ref (b 0)), (1, .int x1), (2, .int x2)] 4 [] := by
  intro n
  induction n with
  | zero =>
    intro x1 x2 hw
    exact hw.elim
  | succ n ih =>
    intro x1 x2 hw
    unfold PX2_crossedPairs_4 at hw
    refine g_iload_n X 2 dX2_crossedPairs_4 rfl rfl ?_
    refine g_aload_n X 0 dX2_crossedPairs_5 rfl rfl ?_
    refine g_get (T := TX2) (C := RX2) (N := 3) (v := .int (y 2 0)) X 0 2 (fun _ h => (List.mem_cons_of_mem _ (List.mem_append_right _ h))) (List.mem_of_getElem? (i := 1) rfl) dX2_crossedPairs_6 rfl rfl (by decide) rfl rfl ?_
    refine g_icmp_ge X 54 dX2_crossedPairs_9 (by decide) (fun c1 => ?_) (fun c1 => ?_)
    · replace hw := hw.1 c1
      refine g_iload_n X 1 dX2_crossedPairs_54 rfl rfl ?_
      exact g_iret X () hw rfl (Nat.le_of_ble_eq_true rfl) (Nat.le_of_ble_eq_true rfl) dX2_crossedPairs_55
    · replace hw := hw.2 c1
      refine g_iload_n X 2 dX2_crossedPairs_12 rfl rfl ?_
      refine g_iconst (v := 1) X rfl dX2_crossedPairs_13 ?_
      refine g_iadd X dX2_crossedPairs_14 ?_
      refine g_topi (fun q2 hq2 => ?_)
      replace hw := hw q2 hq2
      refine g_istore_n X [(3, .int q2), (0, .ref (b 0)), (1, .int x1), (2, .int x2)] dX2_crossedPairs_15 rfl (by decide) rfl ?_
      refine g_sub [(0, .ref (b 0)), (1, .int x1), (2, .int x2), (3, .int q2)] [1, 2, 3, 0] rfl ?_
      obtain ⟨n7, hw⟩ := hw
      exact kX2_crossedPairs_16 l D ct b y post _ X ih n7 _ _ _ hw

set_option maxHeartbeats 4000000 in
set_option maxRecDepth 20000 in
theorem kX2_crossedPairs (l : Launch) (D : va_G) (ct : Nat → ClassId) (b : Nat → Nat) (y : Mem) (post : Int32 → Prop) (hw : PX2_crossedPairs y post) : Ci (S := Unit) l yX2_crossedPairs wsX2_crossedPairs rmX2_crossedPairs D (tyz ct) [.ref (b 0)] (wL ct b y) (fun r (_ : Unit) => post r) (fun _ => wL ct b y) 0 0 := by
  intro sz
  refine g_of (own := RX2) (by decide) rfl rfl (Nat.le_of_ble_eq_true rfl) [(0, .ref (b 0))] rfl (fun p e s m args below meth c hsz X => ?_)
  subst hsz
  unfold PX2_crossedPairs at hw
  refine g_iconst (v := 0) X rfl dX2_crossedPairs_0 ?_
  refine g_istore_n X [(1, .int 0), (0, .ref (b 0))] dX2_crossedPairs_1 rfl (by decide) rfl ?_
  refine g_iconst (v := 0) X rfl dX2_crossedPairs_2 ?_
  refine g_istore_n X [(2, .int 0), (1, .int 0), (0, .ref (b 0))] dX2_crossedPairs_3 rfl (by decide) rfl ?_
  refine g_sub [(0, .ref (b 0)), (1, .int 0), (2, .int 0)] [2, 1, 0] rfl ?_
  obtain ⟨n8, hw⟩ := hw
  exact kX2_crossedPairs_4 l D ct b y post X n8 _ _ hw

abbrev rmX2_sortByMiddles : Room := { frames := 0, cells := 0, slots := 0, locals := 0 }

abbrev GX2_sortByMiddles (l : Launch) (D : va_G) (ct : Nat → ClassId) (b : Nat → Nat) (post : Mem → Prop) (p : Program) (e : Env) (s : State) (m : MethodId) (args : Array Value) (below : List Frame) (meth : Method) (c : Code) (A : Nat → Prop) (w9 : va_W) (lv : List (Nat × Value)) (pc : Nat) (st : List Value) : Prop :=
  GG p l e rmX2_sortByMiddles s m args below meth c D A s.heap 5 (MQ below (va_Qv (fun (u9 : Mem) => post u9) (fun u9 t9 => Af D (tyz ct) A ((fun u9 => wL ct b u9) u9) t9) A)  args s 0 0 A) w9 0 0 lv pc st

set_option maxHeartbeats 4000000 in
set_option maxRecDepth 20000 in
theorem kX2_sortByMiddles_83 (l : Launch) (D : va_G) (ct : Nat → ClassId) (b : Nat → Nat) (post : Mem → Prop) (K2 : Mem → Int32 → Prop) {p : Program} {e : Env} {s : State} {m : MethodId} {args : Array Value} {below : List Frame} {meth : Method} {c : Code} {A : Nat → Prop} (X : Cx p s m args meth c cX2_sortByMiddles 5 RX2 wsX2_sortByMiddles D (tyz ct) A s.heap none) (hK2 : ∀ (y : Mem) (x1 : Int32), K2 y x1 → GX2_sortByMiddles l D ct b  post p e s m args below meth c A (wL ct b y) [(0, .ref (b 0)), (1, .int x1)] 2 []) :
    ∀ (y : Mem) (x1 : Int32) (x2 : Int32) (x3 : Int32) (x4 : Int32), PX2_sortByMiddles_83 post K2 y x1 x2 x3 x4 → GX2_sortByMiddles l D ct b  post p e s m args below meth c A (wL ct b y) [(0, .ref (b 0)), (1, .int x1), (2, .int x2), (3, .int x3), (4, .int x4)] 83 [] := by
  intro y x1 x2 x3 x4 hw
  unfold PX2_sortByMiddles_83 at hw
  refine g_aload_n X 0 dX2_sortByMiddles_83 rfl rfl ?_
  refine g_get (T := TX2) (C := RX2) (N := 3) (v := .ref (b 1)) X 0 0 (fun _ h => (List.mem_cons_of_mem _ (List.mem_append_right _ h))) (List.mem_of_getElem? (i := 2) rfl) dX2_sortByMiddles_84 rfl rfl (by decide) rfl rfl ?_
  refine g_iload X 4 dX2_sortByMiddles_87 rfl ?_
  refine g_iload_n X 2 dX2_sortByMiddles_89 rfl rfl ?_
  obtain ⟨h7, hw⟩ := hw
  refine g_iast X (fun z => wL ct b z) y 0 1 0 dX2_sortByMiddles_90 rfl rfl h7 rfl (fun y8 hy8 => ?_)
  replace hw := hw y8 hy8
  refine g_aload_n X 0 dX2_sortByMiddles_91 rfl rfl ?_
  refine g_get (T := TX2) (C := RX2) (N := 3) (v := .ref (b 2)) X 0 1 (fun _ h => (List.mem_cons_of_mem _ (List.mem_append_right _ h))) (List.mem_of_getElem? (i := 3) rfl) dX2_sortByMiddles_92 rfl rfl (by decide) rfl rfl ?_
  refine g_iload X 4 dX2_sortByMiddles_95 rfl ?_
  refine g_iload_n X 3 dX2_sortByMiddles_97 rfl rfl ?_
  obtain ⟨h9, hw⟩ := hw
  refine g_iast X (fun z => wL ct b z) y8 1 2 0 dX2_sortByMiddles_98 rfl rfl h9 rfl (fun y10 hy10 => ?_)
  replace hw := hw y10 hy10
  refine g_iinc X [(1, .int (x1 + 1)), (0, .ref (b 0)), (2, .int x2), (3, .int x3), (4, .int x4)] 1 dX2_sortByMiddles_99 rfl rfl (by decide) rfl ?_
  refine g_goto X 2 dX2_sortByMiddles_102 (by decide) ?_
  refine g_sub [(0, .ref (b 0)), (1, .int (x1 + 1))] [1, 0] rfl ?_
  exact hK2 _ _ hw

set_option maxHeartbeats 4000000 in
set_option maxRecDepth 20000 in
theorem kX2_sortByMiddles_27 (l : Launch) (D : va_G) (ct : Nat → ClassId) (b : Nat → Nat) (post : Mem → Prop) (K2 : Mem → Int32 → Prop) {p : Program} {e : Env} {s : State} {m : MethodId} {args : Array Value} {below : List Frame} {meth : Method} {c : Code} {A : Nat → Prop} (X : Cx p s m args meth c cX2_sortByMiddles 5 RX2 wsX2_sortByMiddles D (tyz ct) A s.heap none) (hK2 : ∀ (y : Mem) (x1 : Int32), K2 y x1 → GX2_sortByMiddles l D ct b  post p e s m args below meth c A (wL ct b y) [(0, .ref (b 0)), (1, .int x1)] 2 []) :
    ∀ (n : Nat) (y : Mem) (x1 : Int32) (x2 : Int32) (x3 : Int32) (x4 : Int32), PX2_sortByMiddles_27 post K2 n y x1 x2 x3 x4 → GX2_sortByMiddles l D ct b  post p e s m args below meth c A (wL ct b y) [(0, .ref (b 0)), (1, .int x1), (2, .int x2), (3, .int x3), (4, .int x4)] 27 [] := by
  intro n
  induction n with
  | zero =>
    intro y x1 x2 x3 x4 hw
    exact hw.elim
  | succ n ih =>
    intro y x1 x2 x3 x4 hw
    unfold PX2_sortByMiddles_27 at hw
    refine g_iload X 4 dX2_sortByMiddles_27 rfl ?_
    refine g_if_le X 83 dX2_sortByMiddles_29 (by decide) (fun c6 => ?_) (fun c6 => ?_)
    · replace hw := hw.1 c6
      refine g_sub [(0, .ref (b 0)), (1, .int x1), (2, .int x2), (3, .int x3), (4, .int x4)] [0, 1, 2, 3, 4] rfl ?_
      exact kX2_sortByMiddles_83 l D ct b post _ X hK2 _ _ _ _ _ hw
    · replace hw := hw.2 c6
      refine g_aload_n X 0 dX2_sortByMiddles_32 rfl rfl ?_
      refine g_get (T := TX2) (C := RX2) (N := 3) (v := .ref (b 1)) X 0 0 (fun _ h => (List.mem_cons_of_mem _ (List.mem_append_right _ h))) (List.mem_of_getElem? (i := 2) rfl) dX2_sortByMiddles_33 rfl rfl (by decide) rfl rfl ?_
      refine g_iload X 4 dX2_sortByMiddles_36 rfl ?_
      refine g_iconst (v := 1) X rfl dX2_sortByMiddles_38 ?_
      refine g_isub X dX2_sortByMiddles_39 ?_
      obtain ⟨h11, hw⟩ := hw
      refine g_iald X 1 0 dX2_sortByMiddles_40 rfl rfl h11 ?_
      refine g_iload_n X 2 dX2_sortByMiddles_41 rfl rfl ?_
      refine g_icmp_le X 83 dX2_sortByMiddles_42 (by decide) (fun c12 => ?_) (fun c12 => ?_)
      · replace hw := hw.1 c12
        refine g_sub [(0, .ref (b 0)), (1, .int x1), (2, .int x2), (3, .int x3), (4, .int x4)] [0, 1, 2, 3, 4] rfl ?_
        exact kX2_sortByMiddles_83 l D ct b post _ X hK2 _ _ _ _ _ hw
      · replace hw := hw.2 c12
        refine g_aload_n X 0 dX2_sortByMiddles_45 rfl rfl ?_
        refine g_get (T := TX2) (C := RX2) (N := 3) (v := .ref (b 1)) X 0 0 (fun _ h => (List.mem_cons_of_mem _ (List.mem_append_right _ h))) (List.mem_of_getElem? (i := 2) rfl) dX2_sortByMiddles_46 rfl rfl (by decide) rfl rfl ?_
        refine g_iload X 4 dX2_sortByMiddles_49 rfl ?_
        refine g_aload_n X 0 dX2_sortByMiddles_51 rfl rfl ?_
        refine g_get (T := TX2) (C := RX2) (N := 3) (v := .ref (b 1)) X 0 0 (fun _ h => (List.mem_cons_of_mem _ (List.mem_append_right _ h))) (List.mem_of_getElem? (i := 2) rfl) dX2_sortByMiddles_52 rfl rfl (by decide) rfl rfl ?_
        refine g_iload X 4 dX2_sortByMiddles_55 rfl ?_
        refine g_iconst (v := 1) X rfl dX2_sortByMiddles_57 ?_
        refine g_isub X dX2_sortByMiddles_58 ?_
        obtain ⟨h13, hw⟩ := hw
        refine g_iald X 1 0 dX2_sortByMiddles_59 rfl rfl h13 ?_
        obtain ⟨h14, hw⟩ := hw
        refine g_iast X (fun z => wL ct b z) y 0 1 0 dX2_sortByMiddles_60 rfl rfl h14 rfl (fun y15 hy15 => ?_)
        replace hw := hw y15 hy15
        refine g_aload_n X 0 dX2_sortByMiddles_61 rfl rfl ?_
        refine g_get (T := TX2) (C := RX2) (N := 3) (v := .ref (b 2)) X 0 1 (fun _ h => (List.mem_cons_of_mem _ (List.mem_append_right _ h))) (List.mem_of_getElem? (i := 3) rfl) dX2_sortByMiddles_62 rfl rfl (by decide) rfl rfl ?_
        refine g_iload X 4 dX2_sortByMiddles_65 rfl ?_
        refine g_aload_n X 0 dX2_sortByMiddles_67 rfl rfl ?_
        refine g_get (T := TX2) (C := RX2) (N := 3) (v := .ref (b 2)) X 0 1 (fun _ h => (List.mem_cons_of_mem _ (List.mem_append_right _ h))) (List.mem_of_getElem? (i := 3) rfl) dX2_sortByMiddles_68 rfl rfl (by decide) rfl rfl ?_
        refine g_iload X 4 dX2_sortByMiddles_71 rfl ?_
        refine g_iconst (v := 1) X rfl dX2_sortByMiddles_73 ?_
        refine g_isub X dX2_sortByMiddles_74 ?_
        obtain ⟨h16, hw⟩ := hw
        refine g_iald X 2 0 dX2_sortByMiddles_75 rfl rfl h16 ?_
        obtain ⟨h17, hw⟩ := hw
        refine g_iast X (fun z => wL ct b z) y15 1 2 0 dX2_sortByMiddles_76 rfl rfl h17 rfl (fun y18 hy18 => ?_)
        replace hw := hw y18 hy18
        refine g_iinc X [(4, .int (x4 + (-1))), (0, .ref (b 0)), (1, .int x1), (2, .int x2), (3, .int x3)] 4 dX2_sortByMiddles_77 rfl rfl (by decide) rfl ?_
        refine g_goto X 27 dX2_sortByMiddles_80 (by decide) ?_
        refine g_sub [(0, .ref (b 0)), (1, .int x1), (2, .int x2), (3, .int x3), (4, .int (x4 + (-1)))] [1, 2, 3, 4, 0] rfl ?_
        exact ih _ _ _ _ _ hw

set_option maxHeartbeats 4000000 in
set_option maxRecDepth 20000 in
theorem kX2_sortByMiddles_2 (l : Launch) (D : va_G) (ct : Nat → ClassId) (b : Nat → Nat) (post : Mem → Prop) {p : Program} {e : Env} {s : State} {m : MethodId} {args : Array Value} {below : List Frame} {meth : Method} {c : Code} {A : Nat → Prop} (X : Cx p s m args meth c cX2_sortByMiddles 5 RX2 wsX2_sortByMiddles D (tyz ct) A s.heap none)  :
    ∀ (n : Nat) (y : Mem) (x1 : Int32), PX2_sortByMiddles_2 post n y x1 → GX2_sortByMiddles l D ct b  post p e s m args below meth c A (wL ct b y) [(0, .ref (b 0)), (1, .int x1)] 2 [] := by
  intro n
  induction n with
  | zero =>
    intro y x1 hw
    exact hw.elim
  | succ n ih =>
    intro y x1 hw
    unfold PX2_sortByMiddles_2 at hw
    refine g_iload_n X 1 dX2_sortByMiddles_2 rfl rfl ?_
    refine g_aload_n X 0 dX2_sortByMiddles_3 rfl rfl ?_
    refine g_get (T := TX2) (C := RX2) (N := 3) (v := .int (y 2 0)) X 0 2 (fun _ h => (List.mem_cons_of_mem _ (List.mem_append_right _ h))) (List.mem_of_getElem? (i := 1) rfl) dX2_sortByMiddles_4 rfl rfl (by decide) rfl rfl ?_
    refine g_icmp_ge X 105 dX2_sortByMiddles_7 (by decide) (fun c1 => ?_) (fun c1 => ?_)
    · replace hw := hw.1 c1
      exact g_vret X y hw rfl (Nat.le_of_ble_eq_true rfl) (Nat.le_of_ble_eq_true rfl) dX2_sortByMiddles_105
    · replace hw := hw.2 c1
      refine g_aload_n X 0 dX2_sortByMiddles_10 rfl rfl ?_
      refine g_get (T := TX2) (C := RX2) (N := 3) (v := .ref (b 1)) X 0 0 (fun _ h => (List.mem_cons_of_mem _ (List.mem_append_right _ h))) (List.mem_of_getElem? (i := 2) rfl) dX2_sortByMiddles_11 rfl rfl (by decide) rfl rfl ?_
      refine g_iload_n X 1 dX2_sortByMiddles_14 rfl rfl ?_
      obtain ⟨h2, hw⟩ := hw
      refine g_iald X 1 0 dX2_sortByMiddles_15 rfl rfl h2 ?_
      refine g_topi (fun q3 hq3 => ?_)
      replace hw := hw q3 hq3
      refine g_istore_n X [(2, .int q3), (0, .ref (b 0)), (1, .int x1)] dX2_sortByMiddles_16 rfl (by decide) rfl ?_
      refine g_aload_n X 1 dX2_sortByMiddles_17 rfl rfl ?_
      refine g_get (T := TX2) (C := RX2) (N := 3) (v := .ref (b 2)) X 0 1 (fun _ h => (List.mem_cons_of_mem _ (List.mem_append_right _ h))) (List.mem_of_getElem? (i := 3) rfl) dX2_sortByMiddles_18 rfl rfl (by decide) rfl rfl ?_
      refine g_iload_n X 2 dX2_sortByMiddles_21 rfl rfl ?_
      obtain ⟨h4, hw⟩ := hw
      refine g_iald X 2 0 dX2_sortByMiddles_22 rfl rfl h4 ?_
      refine g_topi (fun q5 hq5 => ?_)
      replace hw := hw q5 hq5
      refine g_istore_n X [(3, .int q5), (2, .int q3), (0, .ref (b 0)), (1, .int x1)] dX2_sortByMiddles_23 rfl (by decide) rfl ?_
      refine g_iload_n X 3 dX2_sortByMiddles_24 rfl rfl ?_
      refine g_istore X [(4, .int x1), (3, .int q5), (2, .int q3), (0, .ref (b 0)), (1, .int x1)] dX2_sortByMiddles_25 (by decide) rfl ?_
      refine g_sub [(0, .ref (b 0)), (1, .int x1), (2, .int q3), (3, .int q5), (4, .int x1)] [3, 4, 2, 1, 0] rfl ?_
      obtain ⟨n19, hw⟩ := hw
      exact kX2_sortByMiddles_27 l D ct b post _ X ih n19 _ _ _ _ _ hw

set_option maxHeartbeats 4000000 in
set_option maxRecDepth 20000 in
theorem kX2_sortByMiddles (l : Launch) (D : va_G) (ct : Nat → ClassId) (b : Nat → Nat) (y : Mem) (post : Mem → Prop) (hw : PX2_sortByMiddles y post) : Cv (S := Mem) l yX2_sortByMiddles wsX2_sortByMiddles rmX2_sortByMiddles D (tyz ct) [.ref (b 0)] (wL ct b y) (fun (u9 : Mem) => post u9) (fun u9 => wL ct b u9) 0 0 := by
  intro sz
  refine g_of (own := RX2) (by decide) rfl rfl (Nat.le_of_ble_eq_true rfl) [(0, .ref (b 0))] rfl (fun p e s m args below meth c hsz X => ?_)
  subst hsz
  unfold PX2_sortByMiddles at hw
  refine g_iconst (v := 1) X rfl dX2_sortByMiddles_0 ?_
  refine g_istore_n X [(1, .int 1), (0, .ref (b 0))] dX2_sortByMiddles_1 rfl (by decide) rfl ?_
  refine g_sub [(0, .ref (b 0)), (1, .int 1)] [1, 0] rfl ?_
  obtain ⟨n20, hw⟩ := hw
  exact kX2_sortByMiddles_2 l D ct b post X n20 _ _ hw

abbrev rmX2_crossedOneByOne : Room := { frames := 1, cells := 0, slots := 0, locals := 24 }

abbrev GX2_crossedOneByOne (l : Launch) (D : va_G) (ct : Nat → ClassId) (b : Nat → Nat) (post : Int32 → Mem → Prop) (p : Program) (e : Env) (s : State) (m : MethodId) (args : Array Value) (below : List Frame) (meth : Method) (c : Code) (A : Nat → Prop) (w9 : va_W) (lv : List (Nat × Value)) (pc : Nat) (st : List Value) : Prop :=
  GG p l e rmX2_crossedOneByOne s m args below meth c D A s.heap 4 (MQ below (va_Qi (fun r (u9 : Mem) => post r u9) (fun u9 t9 => Af D (tyz ct) A ((fun u9 => wL ct b u9) u9) t9) A)  args s 0 0 A) w9 0 0 lv pc st

set_option maxHeartbeats 4000000 in
set_option maxRecDepth 20000 in
theorem kX2_crossedOneByOne_18 (l : Launch) (D : va_G) (ct : Nat → ClassId) (b : Nat → Nat) (post : Int32 → Mem → Prop) (K8 : Mem → Int32 → Int32 → Prop) {p : Program} {e : Env} {s : State} {m : MethodId} {args : Array Value} {below : List Frame} {meth : Method} {c : Code} {A : Nat → Prop} (X : Cx p s m args meth c cX2_crossedOneByOne 4 RX2 wsX2_crossedOneByOne D (tyz ct) A s.heap (some .int)) (hK8 : ∀ (y : Mem) (x1 : Int32) (x2 : Int32), K8 y x1 x2 → GX2_crossedOneByOne l D ct b  post p e s m args below meth c A (wL ct b y) [(0, .ref (b 0)), (1, .int x1), (2, .int x2)] 8 []) :
    ∀ (n : Nat) (y : Mem) (x1 : Int32) (x2 : Int32) (x3 : Int32), PX2_crossedOneByOne_18 post K8 n y x1 x2 x3 → GX2_crossedOneByOne l D ct b  post p e s m args below meth c A (wL ct b y) [(0, .ref (b 0)), (1, .int x1), (2, .int x2), (3, .int x3)] 18 [] := by
  intro n
  induction n with
  | zero =>
    intro y x1 x2 x3 hw
    exact hw.elim
  | succ n ih =>
    intro y x1 x2 x3 hw
    unfold PX2_crossedOneByOne_18 at hw
    refine g_iload_n X 3 dX2_crossedOneByOne_18 rfl rfl ?_
    refine g_iload_n X 2 dX2_crossedOneByOne_19 rfl rfl ?_
    refine g_icmp_ge X 62 dX2_crossedOneByOne_20 (by decide) (fun c4 => ?_) (fun c4 => ?_)
    · replace hw := hw.1 c4
      refine g_iinc X [(2, .int (x2 + 1)), (0, .ref (b 0)), (1, .int x1), (3, .int x3)] 2 dX2_crossedOneByOne_62 rfl rfl (by decide) rfl ?_
      refine g_goto X 8 dX2_crossedOneByOne_65 (by decide) ?_
      refine g_sub [(0, .ref (b 0)), (1, .int x1), (2, .int (x2 + 1))] [1, 2, 0] rfl ?_
      exact hK8 _ _ _ hw
    · replace hw := hw.2 c4
      refine g_aload_n X 0 dX2_crossedOneByOne_23 rfl rfl ?_
      refine g_get (T := TX2) (C := RX2) (N := 3) (v := .ref (b 1)) X 0 0 (fun _ h => (List.mem_cons_of_mem _ (List.mem_append_right _ h))) (List.mem_of_getElem? (i := 2) rfl) dX2_crossedOneByOne_24 rfl rfl (by decide) rfl rfl ?_
      refine g_iload_n X 3 dX2_crossedOneByOne_27 rfl rfl ?_
      obtain ⟨h5, hw⟩ := hw
      refine g_iald X 1 0 dX2_crossedOneByOne_28 rfl rfl h5 ?_
      refine g_aload_n X 0 dX2_crossedOneByOne_29 rfl rfl ?_
      refine g_get (T := TX2) (C := RX2) (N := 3) (v := .ref (b 1)) X 0 0 (fun _ h => (List.mem_cons_of_mem _ (List.mem_append_right _ h))) (List.mem_of_getElem? (i := 2) rfl) dX2_crossedOneByOne_30 rfl rfl (by decide) rfl rfl ?_
      refine g_iload_n X 2 dX2_crossedOneByOne_33 rfl rfl ?_
      obtain ⟨h6, hw⟩ := hw
      refine g_iald X 1 0 dX2_crossedOneByOne_34 rfl rfl h6 ?_
      refine g_icmp_ge X 56 dX2_crossedOneByOne_35 (by decide) (fun c7 => ?_) (fun c7 => ?_)
      · replace hw := hw.1 c7
        refine g_iinc X [(3, .int (x3 + 1)), (0, .ref (b 0)), (1, .int x1), (2, .int x2)] 3 dX2_crossedOneByOne_56 rfl rfl (by decide) rfl ?_
        refine g_goto X 18 dX2_crossedOneByOne_59 (by decide) ?_
        refine g_sub [(0, .ref (b 0)), (1, .int x1), (2, .int x2), (3, .int (x3 + 1))] [1, 2, 3, 0] rfl ?_
        exact ih _ _ _ _ hw
      · replace hw := hw.2 c7
        refine g_aload_n X 0 dX2_crossedOneByOne_38 rfl rfl ?_
        refine g_get (T := TX2) (C := RX2) (N := 3) (v := .ref (b 2)) X 0 1 (fun _ h => (List.mem_cons_of_mem _ (List.mem_append_right _ h))) (List.mem_of_getElem? (i := 3) rfl) dX2_crossedOneByOne_39 rfl rfl (by decide) rfl rfl ?_
        refine g_iload_n X 3 dX2_crossedOneByOne_42 rfl rfl ?_
        obtain ⟨h8, hw⟩ := hw
        refine g_iald X 2 0 dX2_crossedOneByOne_43 rfl rfl h8 ?_
        refine g_aload_n X 0 dX2_crossedOneByOne_44 rfl rfl ?_
        refine g_get (T := TX2) (C := RX2) (N := 3) (v := .ref (b 2)) X 0 1 (fun _ h => (List.mem_cons_of_mem _ (List.mem_append_right _ h))) (List.mem_of_getElem? (i := 3) rfl) dX2_crossedOneByOne_45 rfl rfl (by decide) rfl rfl ?_
        refine g_iload_n X 2 dX2_crossedOneByOne_48 rfl rfl ?_
        obtain ⟨h9, hw⟩ := hw
        refine g_iald X 2 0 dX2_crossedOneByOne_49 rfl rfl h9 ?_
        refine g_icmp_le X 56 dX2_crossedOneByOne_50 (by decide) (fun c10 => ?_) (fun c10 => ?_)
        · replace hw := hw.1 c10
          refine g_iinc X [(3, .int (x3 + 1)), (0, .ref (b 0)), (1, .int x1), (2, .int x2)] 3 dX2_crossedOneByOne_56 rfl rfl (by decide) rfl ?_
          refine g_goto X 18 dX2_crossedOneByOne_59 (by decide) ?_
          refine g_sub [(0, .ref (b 0)), (1, .int x1), (2, .int x2), (3, .int (x3 + 1))] [1, 2, 3, 0] rfl ?_
          exact ih _ _ _ _ hw
        · replace hw := hw.2 c10
          refine g_iinc X [(1, .int (x1 + 1)), (0, .ref (b 0)), (2, .int x2), (3, .int x3)] 1 dX2_crossedOneByOne_53 rfl rfl (by decide) rfl ?_
          refine g_iinc X [(3, .int (x3 + 1)), (1, .int (x1 + 1)), (0, .ref (b 0)), (2, .int x2)] 3 dX2_crossedOneByOne_56 rfl rfl (by decide) rfl ?_
          refine g_goto X 18 dX2_crossedOneByOne_59 (by decide) ?_
          refine g_sub [(0, .ref (b 0)), (1, .int (x1 + 1)), (2, .int x2), (3, .int (x3 + 1))] [2, 1, 3, 0] rfl ?_
          exact ih _ _ _ _ hw

set_option maxHeartbeats 4000000 in
set_option maxRecDepth 20000 in
theorem kX2_crossedOneByOne_8 (l : Launch) (D : va_G) (ct : Nat → ClassId) (b : Nat → Nat) (post : Int32 → Mem → Prop) {p : Program} {e : Env} {s : State} {m : MethodId} {args : Array Value} {below : List Frame} {meth : Method} {c : Code} {A : Nat → Prop} (X : Cx p s m args meth c cX2_crossedOneByOne 4 RX2 wsX2_crossedOneByOne D (tyz ct) A s.heap (some .int))  :
    ∀ (n : Nat) (y : Mem) (x1 : Int32) (x2 : Int32), PX2_crossedOneByOne_8 post n y x1 x2 → GX2_crossedOneByOne l D ct b  post p e s m args below meth c A (wL ct b y) [(0, .ref (b 0)), (1, .int x1), (2, .int x2)] 8 [] := by
  intro n
  induction n with
  | zero =>
    intro y x1 x2 hw
    exact hw.elim
  | succ n ih =>
    intro y x1 x2 hw
    unfold PX2_crossedOneByOne_8 at hw
    refine g_iload_n X 2 dX2_crossedOneByOne_8 rfl rfl ?_
    refine g_aload_n X 0 dX2_crossedOneByOne_9 rfl rfl ?_
    refine g_get (T := TX2) (C := RX2) (N := 3) (v := .int (y 2 0)) X 0 2 (fun _ h => (List.mem_cons_of_mem _ (List.mem_append_right _ h))) (List.mem_of_getElem? (i := 1) rfl) dX2_crossedOneByOne_10 rfl rfl (by decide) rfl rfl ?_
    refine g_icmp_ge X 68 dX2_crossedOneByOne_13 (by decide) (fun c3 => ?_) (fun c3 => ?_)
    · replace hw := hw.1 c3
      refine g_iload_n X 1 dX2_crossedOneByOne_68 rfl rfl ?_
      exact g_iret X y hw rfl (Nat.le_of_ble_eq_true rfl) (Nat.le_of_ble_eq_true rfl) dX2_crossedOneByOne_69
    · replace hw := hw.2 c3
      refine g_iconst (v := 0) X rfl dX2_crossedOneByOne_16 ?_
      refine g_istore_n X [(3, .int 0), (0, .ref (b 0)), (1, .int x1), (2, .int x2)] dX2_crossedOneByOne_17 rfl (by decide) rfl ?_
      refine g_sub [(0, .ref (b 0)), (1, .int x1), (2, .int x2), (3, .int 0)] [1, 2, 3, 0] rfl ?_
      obtain ⟨n11, hw⟩ := hw
      exact kX2_crossedOneByOne_18 l D ct b post _ X ih n11 _ _ _ _ hw

set_option maxHeartbeats 4000000 in
set_option maxRecDepth 20000 in
theorem kX2_crossedOneByOne (l : Launch) (D : va_G) (ct : Nat → ClassId) (b : Nat → Nat) (y : Mem) (post : Int32 → Mem → Prop) (hw : PX2_crossedOneByOne y post) : Ci (S := Mem) l yX2_crossedOneByOne wsX2_crossedOneByOne rmX2_crossedOneByOne D (tyz ct) [.ref (b 0)] (wL ct b y) (fun r (u9 : Mem) => post r u9) (fun u9 => wL ct b u9) 0 0 := by
  intro sz
  refine g_of (own := RX2) (by decide) rfl rfl (Nat.le_of_ble_eq_true rfl) [(0, .ref (b 0))] rfl (fun p e s m args below meth c hsz X => ?_)
  subst hsz
  unfold PX2_crossedOneByOne at hw
  refine g_aload_n X 0 dX2_crossedOneByOne_0 rfl rfl ?_
  refine g_cvV X [wL ct b y] (fun (u1 : Mem) => [wL ct b u1]) (fun (u1 : Mem) => wL ct b u1) 1 [0] [] 0 (kX2_sortByMiddles l D ct b y _ hw) (cwV 0 X.1.2.2.2.2 gX2_crossedOneByOne_X2_sortByMiddles rfl rfl rfl (by decide +kernel) ⟨Nat.le_of_ble_eq_true rfl, Nat.le_of_ble_eq_true rfl⟩) dX2_crossedOneByOne_1 rfl rfl (Nat.le_of_ble_eq_true rfl) ⟨Nat.le_of_ble_eq_true rfl, Nat.le_of_ble_eq_true rfl⟩ rfl rfl rfl (by decide) (fun _ => rfl) (fun _ => rfl) (fun _ => rfl) (fun _ => rfl) rfl rfl rfl (fun u1 hw => ?_)
  obtain ⟨y2, hy2⟩ : ∃ z : Mem, z = u1 := ⟨_, rfl⟩
  rw [← hy2] at hw
  rw [← hy2]
  refine g_iconst (v := 0) X rfl dX2_crossedOneByOne_4 ?_
  refine g_istore_n X [(1, .int 0), (0, .ref (b 0))] dX2_crossedOneByOne_5 rfl (by decide) rfl ?_
  refine g_iconst (v := 0) X rfl dX2_crossedOneByOne_6 ?_
  refine g_istore_n X [(2, .int 0), (1, .int 0), (0, .ref (b 0))] dX2_crossedOneByOne_7 rfl (by decide) rfl ?_
  refine g_sub [(0, .ref (b 0)), (1, .int 0), (2, .int 0)] [2, 1, 0] rfl ?_
  obtain ⟨n12, hw⟩ := hw
  exact kX2_crossedOneByOne_8 l D ct b post X n12 _ _ _ hw
