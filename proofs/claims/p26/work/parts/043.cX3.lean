abbrev rmX3_listPeople : Room := { frames := 2, cells := 0, slots := 0, locals := 42 }

abbrev GX3_listPeople (l : Launch) (D : va_G) (ct : Nat → ClassId) (b : Nat → Nat) (a : Nat → Nat) (v : Mem) (post : Mem → Prop) (p : Program) (e : Env) (s : State) (m : MethodId) (args : Array Value) (below : List Frame) (meth : Method) (c : Code) (A : Nat → Prop) (w9 : va_W) (lv : List (Nat × Value)) (pc : Nat) (st : List Value) : Prop :=
  GG p l e rmX3_listPeople s m args below meth c D A s.heap 4 (MQ below (va_Qv (fun (u9 : Mem) => post u9) (fun u9 t9 => Af D (tyz ct) A ((fun u9 => fl [wR ct b u9, wS ct a v]) u9) t9) A)  args s 0 0 A) w9 0 0 lv pc st

set_option maxHeartbeats 4000000 in
set_option maxRecDepth 20000 in
theorem kX3_listPeople_7 (l : Launch) (D : va_G) (ct : Nat → ClassId) (b : Nat → Nat) (a : Nat → Nat) (v : Mem) (post : Mem → Prop) {p : Program} {e : Env} {s : State} {m : MethodId} {args : Array Value} {below : List Frame} {meth : Method} {c : Code} {A : Nat → Prop} (X : Cx p s m args meth c cX3_listPeople 4 RX3 wsX3_listPeople D (tyz ct) A s.heap none)  :
    ∀ (n : Nat) (x : Mem) (x2 : Int32) (x3 : Int32), PX3_listPeople_7 v post n x x2 x3 → GX3_listPeople l D ct b a v post p e s m args below meth c A (fl [wR ct b x, wS ct a v]) [(0, .ref (b 0)), (1, .ref (a 0)), (2, .int x2), (3, .int x3)] 7 [] := by
  intro n
  induction n with
  | zero =>
    intro x x2 x3 hw
    exact hw.elim
  | succ n ih =>
    intro x x2 x3 hw
    unfold PX3_listPeople_7 at hw
    refine g_iload_n X 3 dX3_listPeople_7 rfl rfl ?_
    refine g_aload_n X 1 dX3_listPeople_8 rfl rfl ?_
    refine g_ciV X [wR ct b x, wS ct a v] (fun (_ : Unit) => [wR ct b x, wS ct a v]) (fun _ => fl [wR ct b x, wS ct a v]) 2 [1] [0] 0 (kX5_people l D ct a v _ hw) (cwV 0 X.1.2.2.2.2 gX3_listPeople_X5_people rfl rfl rfl (by decide +kernel) ⟨Nat.le_of_ble_eq_true rfl, Nat.le_of_ble_eq_true rfl⟩) dX3_listPeople_9 rfl rfl (Nat.le_of_ble_eq_true rfl) ⟨Nat.le_of_ble_eq_true rfl, Nat.le_of_ble_eq_true rfl⟩ rfl rfl rfl (by decide) (fun _ => rfl) (fun _ => rfl) (fun _ => rfl) (fun _ => rfl) rfl rfl rfl (fun r2 _ hw => ?_)
    refine g_icmp_ge X 59 dX3_listPeople_12 (by decide) (fun c4 => ?_) (fun c4 => ?_)
    · replace hw := hw.1 c4
      exact g_vret X x hw rfl (Nat.le_of_ble_eq_true rfl) (Nat.le_of_ble_eq_true rfl) dX3_listPeople_59
    · replace hw := hw.2 c4
      refine g_aload_n X 0 dX3_listPeople_15 rfl rfl ?_
      refine g_get (T := TX3) (C := RX3) (N := 13) (v := .int (x 10 0)) X 0 10 (fun _ h => (List.mem_cons_of_mem _ (List.mem_append_left _ (List.mem_append_right _ h)))) (List.mem_of_getElem? (i := 1) rfl) dX3_listPeople_16 rfl rfl (by decide) rfl rfl ?_
      refine g_bipush (v := 6) X rfl dX3_listPeople_19 ?_
      refine g_icmp_ge X 59 dX3_listPeople_21 (by decide) (fun c5 => ?_) (fun c5 => ?_)
      · replace hw := hw.1 c5
        exact g_vret X x hw rfl (Nat.le_of_ble_eq_true rfl) (Nat.le_of_ble_eq_true rfl) dX3_listPeople_59
      · replace hw := hw.2 c5
        refine g_aload_n X 1 dX3_listPeople_24 rfl rfl ?_
        refine g_iload_n X 3 dX3_listPeople_25 rfl rfl ?_
        refine g_ciV X [wR ct b x, wS ct a v] (fun (_ : Unit) => [wR ct b x, wS ct a v]) (fun _ => fl [wR ct b x, wS ct a v]) 2 [1] [0] 0 (kX5_rowOf l D ct a v x3 _ hw) (cwV 1 X.1.2.2.2.2 gX3_listPeople_X5_rowOf rfl rfl rfl (by decide +kernel) ⟨Nat.le_of_ble_eq_true rfl, Nat.le_of_ble_eq_true rfl⟩) dX3_listPeople_26 rfl rfl (Nat.le_of_ble_eq_true rfl) ⟨Nat.le_of_ble_eq_true rfl, Nat.le_of_ble_eq_true rfl⟩ rfl rfl rfl (by decide) (fun _ => rfl) (fun _ => rfl) (fun _ => rfl) (fun _ => rfl) rfl rfl rfl (fun r6 _ hw => ?_)
        refine g_iload_n X 2 dX3_listPeople_29 rfl rfl ?_
        refine g_icmp_ne X 53 dX3_listPeople_30 (by decide) (fun c8 => ?_) (fun c8 => ?_)
        · replace hw := hw.1 c8
          refine g_iinc X [(3, .int (x3 + 1)), (0, .ref (b 0)), (1, .ref (a 0)), (2, .int x2)] 3 dX3_listPeople_53 rfl rfl (by decide) rfl ?_
          refine g_goto X 7 dX3_listPeople_56 (by decide) ?_
          refine g_sub [(0, .ref (b 0)), (1, .ref (a 0)), (2, .int x2), (3, .int (x3 + 1))] [1, 2, 3, 0] rfl ?_
          exact ih _ _ _ hw
        · replace hw := hw.2 c8
          refine g_aload_n X 0 dX3_listPeople_33 rfl rfl ?_
          refine g_get (T := TX3) (C := RX3) (N := 13) (v := .ref (b 1)) X 0 0 (fun _ h => (List.mem_cons_of_mem _ (List.mem_append_left _ (List.mem_append_right _ h)))) (List.mem_of_getElem? (i := 2) rfl) dX3_listPeople_34 rfl rfl (by decide) rfl rfl ?_
          refine g_aload_n X 0 dX3_listPeople_37 rfl rfl ?_
          refine g_get (T := TX3) (C := RX3) (N := 13) (v := .int (x 10 0)) X 0 10 (fun _ h => (List.mem_cons_of_mem _ (List.mem_append_left _ (List.mem_append_right _ h)))) (List.mem_of_getElem? (i := 1) rfl) dX3_listPeople_38 rfl rfl (by decide) rfl rfl ?_
          refine g_iload_n X 3 dX3_listPeople_41 rfl rfl ?_
          obtain ⟨h9, hw⟩ := hw
          refine g_iast X (fun z => fl [wR ct b z, wS ct a v]) x 0 1 0 dX3_listPeople_42 rfl rfl h9 rfl (fun x10 hx10 => ?_)
          replace hw := hw x10 hx10
          refine g_aload_n X 0 dX3_listPeople_43 rfl rfl ?_
          refine g_dup X dX3_listPeople_44 rfl ?_
          refine g_get (T := TX3) (C := RX3) (N := 13) (v := .int (x10 10 0)) X 0 10 (fun _ h => (List.mem_cons_of_mem _ (List.mem_append_left _ (List.mem_append_right _ h)))) (List.mem_of_getElem? (i := 1) rfl) dX3_listPeople_45 rfl rfl (by decide) rfl rfl ?_
          refine g_iconst (v := 1) X rfl dX3_listPeople_48 ?_
          refine g_iadd X dX3_listPeople_49 ?_
          refine g_put (T := TX3) (C := RX3) (N := 13) X (fun z => fl [wR ct b z, wS ct a v]) x10 0 10 tyX3 tyX3_ok nmX3 (fun _ h => (List.mem_cons_of_mem _ (List.mem_append_left _ (List.mem_append_right _ h)))) (List.mem_of_getElem? (i := 1) rfl) dX3_listPeople_50 rfl rfl (by decide) rfl rfl (by decide +kernel) (Nat.le_of_ble_eq_true rfl) rfl (fun x11 hx11 => ?_)
          replace hw := hw x11 hx11
          refine g_iinc X [(3, .int (x3 + 1)), (0, .ref (b 0)), (1, .ref (a 0)), (2, .int x2)] 3 dX3_listPeople_53 rfl rfl (by decide) rfl ?_
          refine g_goto X 7 dX3_listPeople_56 (by decide) ?_
          refine g_sub [(0, .ref (b 0)), (1, .ref (a 0)), (2, .int x2), (3, .int (x3 + 1))] [1, 2, 3, 0] rfl ?_
          exact ih _ _ _ hw

set_option maxHeartbeats 4000000 in
set_option maxRecDepth 20000 in
theorem kX3_listPeople (l : Launch) (D : va_G) (ct : Nat → ClassId) (b : Nat → Nat) (a : Nat → Nat) (x : Mem) (v : Mem) (p2 : Int32) (post : Mem → Prop) (hw : PX3_listPeople x v p2 post) : Cv (S := Mem) l yX3_listPeople wsX3_listPeople rmX3_listPeople D (tyz ct) [.ref (b 0), .ref (a 0), .int p2] (fl [wR ct b x, wS ct a v]) (fun (u9 : Mem) => post u9) (fun u9 => fl [wR ct b u9, wS ct a v]) 0 0 := by
  intro sz
  refine g_of (own := RX3) (by decide) rfl rfl (Nat.le_of_ble_eq_true rfl) [(0, .ref (b 0)), (1, .ref (a 0)), (2, .int p2)] rfl (fun p e s m args below meth c hsz X => ?_)
  subst hsz
  unfold PX3_listPeople at hw
  refine g_aload_n X 0 dX3_listPeople_0 rfl rfl ?_
  refine g_iconst (v := 0) X rfl dX3_listPeople_1 ?_
  refine g_put (T := TX3) (C := RX3) (N := 13) X (fun z => fl [wR ct b z, wS ct a v]) x 0 10 tyX3 tyX3_ok nmX3 (fun _ h => (List.mem_cons_of_mem _ (List.mem_append_left _ (List.mem_append_right _ h)))) (List.mem_of_getElem? (i := 1) rfl) dX3_listPeople_2 rfl rfl (by decide) rfl rfl (by decide +kernel) (Nat.le_of_ble_eq_true rfl) rfl (fun x1 hx1 => ?_)
  replace hw := hw x1 hx1
  refine g_iconst (v := 0) X rfl dX3_listPeople_5 ?_
  refine g_istore_n X [(3, .int 0), (0, .ref (b 0)), (1, .ref (a 0)), (2, .int p2)] dX3_listPeople_6 rfl (by decide) rfl ?_
  refine g_sub [(0, .ref (b 0)), (1, .ref (a 0)), (2, .int p2), (3, .int 0)] [1, 2, 3, 0] rfl ?_
  obtain ⟨n12, hw⟩ := hw
  exact kX3_listPeople_7 l D ct b a v post X n12 _ _ _ hw

abbrev rmX3_noteLinesTo : Room := { frames := 4, cells := 0, slots := 0, locals := 84 }

abbrev GX3_noteLinesTo (l : Launch) (D : va_G) (ct : Nat → ClassId) (b : Nat → Nat) (a : Nat → Nat) (v : Mem) (post : Mem → Prop) (p : Program) (e : Env) (s : State) (m : MethodId) (args : Array Value) (below : List Frame) (meth : Method) (c : Code) (A : Nat → Prop) (w9 : va_W) (lv : List (Nat × Value)) (pc : Nat) (st : List Value) : Prop :=
  GG p l e rmX3_noteLinesTo s m args below meth c D A s.heap 6 (MQ below (va_Qv (fun (u9 : Mem) => post u9) (fun u9 t9 => Af D (tyz ct) A ((fun u9 => fl [wR ct b u9, wS ct a v]) u9) t9) A)  args s 0 0 A) w9 0 0 lv pc st

set_option maxHeartbeats 4000000 in
set_option maxRecDepth 20000 in
theorem kX3_noteLinesTo_76 (l : Launch) (D : va_G) (ct : Nat → ClassId) (b : Nat → Nat) (a : Nat → Nat) (v : Mem) (post : Mem → Prop) (K2 : Mem → Int32 → Prop) {p : Program} {e : Env} {s : State} {m : MethodId} {args : Array Value} {below : List Frame} {meth : Method} {c : Code} {A : Nat → Prop} (X : Cx p s m args meth c cX3_noteLinesTo 6 RX3 wsX3_noteLinesTo D (tyz ct) A s.heap none) (hK2 : ∀ (x : Mem) (x2 : Int32), K2 x x2 → GX3_noteLinesTo l D ct b a v post p e s m args below meth c A (fl [wR ct b x, wS ct a v]) [(0, .ref (b 0)), (1, .ref (a 0)), (2, .int x2)] 2 []) :
    ∀ (x : Mem) (x2 : Int32) (x4 : Int32), PX3_noteLinesTo_76 v post K2 x x2 x4 → GX3_noteLinesTo l D ct b a v post p e s m args below meth c A (fl [wR ct b x, wS ct a v]) [(0, .ref (b 0)), (1, .ref (a 0)), (2, .int x2), (4, .int x4)] 76 [] := by
  intro x x2 x4 hw
  unfold PX3_noteLinesTo_76 at hw
  refine g_aload_n X 0 dX3_noteLinesTo_76 rfl rfl ?_
  refine g_get (T := TX3) (C := RX3) (N := 13) (v := .ref (b 4)) X 0 3 (fun _ h => (List.mem_cons_of_mem _ (List.mem_append_left _ (List.mem_append_right _ h)))) (List.mem_of_getElem? (i := 3) rfl) dX3_noteLinesTo_77 rfl rfl (by decide) rfl rfl ?_
  refine g_aload_n X 0 dX3_noteLinesTo_80 rfl rfl ?_
  refine g_get (T := TX3) (C := RX3) (N := 13) (v := .ref (b 1)) X 0 0 (fun _ h => (List.mem_cons_of_mem _ (List.mem_append_left _ (List.mem_append_right _ h)))) (List.mem_of_getElem? (i := 2) rfl) dX3_noteLinesTo_81 rfl rfl (by decide) rfl rfl ?_
  refine g_iload_n X 2 dX3_noteLinesTo_84 rfl rfl ?_
  obtain ⟨h6, hw⟩ := hw
  refine g_iald X 1 0 dX3_noteLinesTo_85 rfl rfl h6 ?_
  refine g_iload X 3 dX3_noteLinesTo_86 rfl ?_
  obtain ⟨h7, hw⟩ := hw
  refine g_iast X (fun z => fl [wR ct b z, wS ct a v]) x 3 4 0 dX3_noteLinesTo_88 rfl rfl h7 rfl (fun x8 hx8 => ?_)
  replace hw := hw x8 hx8
  refine g_iinc X [(2, .int (x2 + 1)), (0, .ref (b 0)), (1, .ref (a 0)), (4, .int x4)] 2 dX3_noteLinesTo_89 rfl rfl (by decide) rfl ?_
  refine g_goto X 2 dX3_noteLinesTo_92 (by decide) ?_
  refine g_sub [(0, .ref (b 0)), (1, .ref (a 0)), (2, .int (x2 + 1))] [1, 2, 0] rfl ?_
  exact hK2 _ _ hw

set_option maxHeartbeats 4000000 in
set_option maxRecDepth 20000 in
theorem kX3_noteLinesTo_27 (l : Launch) (D : va_G) (ct : Nat → ClassId) (b : Nat → Nat) (a : Nat → Nat) (v : Mem) (post : Mem → Prop) (K2 : Mem → Int32 → Prop) {p : Program} {e : Env} {s : State} {m : MethodId} {args : Array Value} {below : List Frame} {meth : Method} {c : Code} {A : Nat → Prop} (X : Cx p s m args meth c cX3_noteLinesTo 6 RX3 wsX3_noteLinesTo D (tyz ct) A s.heap none) (hK2 : ∀ (x : Mem) (x2 : Int32), K2 x x2 → GX3_noteLinesTo l D ct b a v post p e s m args below meth c A (fl [wR ct b x, wS ct a v]) [(0, .ref (b 0)), (1, .ref (a 0)), (2, .int x2)] 2 []) :
    ∀ (n : Nat) (x : Mem) (x2 : Int32) (x3 : Int32) (x4 : Int32) (x5 : Int32), PX3_noteLinesTo_27 v post K2 n x x2 x3 x4 x5 → GX3_noteLinesTo l D ct b a v post p e s m args below meth c A (fl [wR ct b x, wS ct a v]) [(0, .ref (b 0)), (1, .ref (a 0)), (2, .int x2), (3, .int x3), (4, .int x4), (5, .int x5)] 27 [] := by
  intro n
  induction n with
  | zero =>
    intro x x2 x3 x4 x5 hw
    exact hw.elim
  | succ n ih =>
    intro x x2 x3 x4 x5 hw
    unfold PX3_noteLinesTo_27 at hw
    refine g_iload X 5 dX3_noteLinesTo_27 rfl ?_
    refine g_aload_n X 0 dX3_noteLinesTo_29 rfl rfl ?_
    refine g_get (T := TX3) (C := RX3) (N := 13) (v := .int (x 10 0)) X 0 10 (fun _ h => (List.mem_cons_of_mem _ (List.mem_append_left _ (List.mem_append_right _ h)))) (List.mem_of_getElem? (i := 1) rfl) dX3_noteLinesTo_30 rfl rfl (by decide) rfl rfl ?_
    refine g_icmp_ge X 76 dX3_noteLinesTo_33 (by decide) (fun c5 => ?_) (fun c5 => ?_)
    · replace hw := hw.1 c5
      refine g_sub [(0, .ref (b 0)), (1, .ref (a 0)), (2, .int x2), (4, .int x4)] [0, 1, 2, 4] rfl ?_
      exact kX3_noteLinesTo_76 l D ct b a v post _ X hK2 _ _ _ hw
    · replace hw := hw.2 c5
      refine g_iload_n X 3 dX3_noteLinesTo_36 rfl rfl ?_
      refine g_iconst (v := (-1)) X rfl dX3_noteLinesTo_37 ?_
      refine g_icmp_eq X 76 dX3_noteLinesTo_38 (by decide) (fun c9 => ?_) (fun c9 => ?_)
      · replace hw := hw.1 c9
        refine g_sub [(0, .ref (b 0)), (1, .ref (a 0)), (2, .int x2), (4, .int x4)] [0, 1, 2, 4] rfl ?_
        exact kX3_noteLinesTo_76 l D ct b a v post _ X hK2 _ _ _ hw
      · replace hw := hw.2 c9
        refine g_aload_n X 1 dX3_noteLinesTo_41 rfl rfl ?_
        refine g_aload_n X 0 dX3_noteLinesTo_42 rfl rfl ?_
        refine g_get (T := TX3) (C := RX3) (N := 13) (v := .ref (b 1)) X 0 0 (fun _ h => (List.mem_cons_of_mem _ (List.mem_append_left _ (List.mem_append_right _ h)))) (List.mem_of_getElem? (i := 2) rfl) dX3_noteLinesTo_43 rfl rfl (by decide) rfl rfl ?_
        refine g_iload X 5 dX3_noteLinesTo_46 rfl ?_
        obtain ⟨h10, hw⟩ := hw
        refine g_iald X 1 0 dX3_noteLinesTo_48 rfl rfl h10 ?_
        refine g_ciV X [wR ct b x, wS ct a v] (fun (_ : Unit) => [wR ct b x, wS ct a v]) (fun _ => fl [wR ct b x, wS ct a v]) 2 [1] [0] 0 (kX5_middleAbove l D ct a v (x 0 (ix x5)) _ hw) (cwV 1 X.1.2.2.2.2 gX3_noteLinesTo_X5_middleAbove rfl rfl rfl (by decide +kernel) ⟨Nat.le_of_ble_eq_true rfl, Nat.le_of_ble_eq_true rfl⟩) dX3_noteLinesTo_49 rfl rfl (Nat.le_of_ble_eq_true rfl) ⟨Nat.le_of_ble_eq_true rfl, Nat.le_of_ble_eq_true rfl⟩ rfl rfl rfl (by decide) (fun _ => rfl) (fun _ => rfl) (fun _ => rfl) (fun _ => rfl) rfl rfl rfl (fun r11 _ hw => ?_)
        refine g_iload_n X 3 dX3_noteLinesTo_52 rfl rfl ?_
        refine g_icmp_le X 70 dX3_noteLinesTo_53 (by decide) (fun c13 => ?_) (fun c13 => ?_)
        · replace hw := hw.1 c13
          refine g_iinc X [(5, .int (x5 + 1)), (0, .ref (b 0)), (1, .ref (a 0)), (2, .int x2), (3, .int x3), (4, .int x4)] 5 dX3_noteLinesTo_70 rfl rfl (by decide) rfl ?_
          refine g_goto X 27 dX3_noteLinesTo_73 (by decide) ?_
          refine g_sub [(0, .ref (b 0)), (1, .ref (a 0)), (2, .int x2), (3, .int x3), (4, .int x4), (5, .int (x5 + 1))] [1, 2, 3, 4, 5, 0] rfl ?_
          exact ih _ _ _ _ _ hw
        · replace hw := hw.2 c13
          refine g_iload X 4 dX3_noteLinesTo_56 rfl ?_
          refine g_iconst (v := 1) X rfl dX3_noteLinesTo_58 ?_
          refine g_aload_n X 0 dX3_noteLinesTo_59 rfl rfl ?_
          refine g_get (T := TX3) (C := RX3) (N := 13) (v := .ref (b 1)) X 0 0 (fun _ h => (List.mem_cons_of_mem _ (List.mem_append_left _ (List.mem_append_right _ h)))) (List.mem_of_getElem? (i := 2) rfl) dX3_noteLinesTo_60 rfl rfl (by decide) rfl rfl ?_
          refine g_iload X 5 dX3_noteLinesTo_63 rfl ?_
          obtain ⟨h14, hw⟩ := hw
          refine g_iald X 1 0 dX3_noteLinesTo_65 rfl rfl h14 ?_
          refine g_ishl X dX3_noteLinesTo_66 ?_
          refine g_ior X dX3_noteLinesTo_67 ?_
          refine g_topi (fun q15 hq15 => ?_)
          replace hw := hw q15 hq15
          refine g_istore X [(4, .int q15), (0, .ref (b 0)), (1, .ref (a 0)), (2, .int x2), (3, .int x3), (5, .int x5)] dX3_noteLinesTo_68 (by decide) rfl ?_
          refine g_iinc X [(5, .int (x5 + 1)), (4, .int q15), (0, .ref (b 0)), (1, .ref (a 0)), (2, .int x2), (3, .int x3)] 5 dX3_noteLinesTo_70 rfl rfl (by decide) rfl ?_
          refine g_goto X 27 dX3_noteLinesTo_73 (by decide) ?_
          refine g_sub [(0, .ref (b 0)), (1, .ref (a 0)), (2, .int x2), (3, .int x3), (4, .int q15), (5, .int (x5 + 1))] [2, 3, 4, 5, 1, 0] rfl ?_
          exact ih _ _ _ _ _ hw

set_option maxHeartbeats 4000000 in
set_option maxRecDepth 20000 in
theorem kX3_noteLinesTo_2 (l : Launch) (D : va_G) (ct : Nat → ClassId) (b : Nat → Nat) (a : Nat → Nat) (v : Mem) (post : Mem → Prop) {p : Program} {e : Env} {s : State} {m : MethodId} {args : Array Value} {below : List Frame} {meth : Method} {c : Code} {A : Nat → Prop} (X : Cx p s m args meth c cX3_noteLinesTo 6 RX3 wsX3_noteLinesTo D (tyz ct) A s.heap none)  :
    ∀ (n : Nat) (x : Mem) (x2 : Int32), PX3_noteLinesTo_2 v post n x x2 → GX3_noteLinesTo l D ct b a v post p e s m args below meth c A (fl [wR ct b x, wS ct a v]) [(0, .ref (b 0)), (1, .ref (a 0)), (2, .int x2)] 2 [] := by
  intro n
  induction n with
  | zero =>
    intro x x2 hw
    exact hw.elim
  | succ n ih =>
    intro x x2 hw
    unfold PX3_noteLinesTo_2 at hw
    refine g_iload_n X 2 dX3_noteLinesTo_2 rfl rfl ?_
    refine g_aload_n X 0 dX3_noteLinesTo_3 rfl rfl ?_
    refine g_get (T := TX3) (C := RX3) (N := 13) (v := .int (x 10 0)) X 0 10 (fun _ h => (List.mem_cons_of_mem _ (List.mem_append_left _ (List.mem_append_right _ h)))) (List.mem_of_getElem? (i := 1) rfl) dX3_noteLinesTo_4 rfl rfl (by decide) rfl rfl ?_
    refine g_icmp_ge X 95 dX3_noteLinesTo_7 (by decide) (fun c1 => ?_) (fun c1 => ?_)
    · replace hw := hw.1 c1
      exact g_vret X x hw rfl (Nat.le_of_ble_eq_true rfl) (Nat.le_of_ble_eq_true rfl) dX3_noteLinesTo_95
    · replace hw := hw.2 c1
      refine g_aload_n X 1 dX3_noteLinesTo_10 rfl rfl ?_
      refine g_aload_n X 0 dX3_noteLinesTo_11 rfl rfl ?_
      refine g_get (T := TX3) (C := RX3) (N := 13) (v := .ref (b 1)) X 0 0 (fun _ h => (List.mem_cons_of_mem _ (List.mem_append_left _ (List.mem_append_right _ h)))) (List.mem_of_getElem? (i := 2) rfl) dX3_noteLinesTo_12 rfl rfl (by decide) rfl rfl ?_
      refine g_iload_n X 2 dX3_noteLinesTo_15 rfl rfl ?_
      obtain ⟨h2, hw⟩ := hw
      refine g_iald X 1 0 dX3_noteLinesTo_16 rfl rfl h2 ?_
      refine g_ciV X [wR ct b x, wS ct a v] (fun (_ : Unit) => [wR ct b x, wS ct a v]) (fun _ => fl [wR ct b x, wS ct a v]) 2 [1] [0] 0 (kX5_middleAbove l D ct a v (x 0 (ix x2)) _ hw) (cwV 1 X.1.2.2.2.2 gX3_noteLinesTo_X5_middleAbove rfl rfl rfl (by decide +kernel) ⟨Nat.le_of_ble_eq_true rfl, Nat.le_of_ble_eq_true rfl⟩) dX3_noteLinesTo_17 rfl rfl (Nat.le_of_ble_eq_true rfl) ⟨Nat.le_of_ble_eq_true rfl, Nat.le_of_ble_eq_true rfl⟩ rfl rfl rfl (by decide) (fun _ => rfl) (fun _ => rfl) (fun _ => rfl) (fun _ => rfl) rfl rfl rfl (fun r3 _ hw => ?_)
      refine g_istore_n X [(3, .int r3), (0, .ref (b 0)), (1, .ref (a 0)), (2, .int x2)] dX3_noteLinesTo_20 rfl (by decide) rfl ?_
      refine g_iconst (v := 0) X rfl dX3_noteLinesTo_21 ?_
      refine g_istore X [(4, .int 0), (3, .int r3), (0, .ref (b 0)), (1, .ref (a 0)), (2, .int x2)] dX3_noteLinesTo_22 (by decide) rfl ?_
      refine g_iconst (v := 0) X rfl dX3_noteLinesTo_24 ?_
      refine g_istore X [(5, .int 0), (4, .int 0), (3, .int r3), (0, .ref (b 0)), (1, .ref (a 0)), (2, .int x2)] dX3_noteLinesTo_25 (by decide) rfl ?_
      refine g_sub [(0, .ref (b 0)), (1, .ref (a 0)), (2, .int x2), (3, .int r3), (4, .int 0), (5, .int 0)] [3, 4, 5, 2, 1, 0] rfl ?_
      obtain ⟨n16, hw⟩ := hw
      exact kX3_noteLinesTo_27 l D ct b a v post _ X ih n16 _ _ _ _ _ hw

set_option maxHeartbeats 4000000 in
set_option maxRecDepth 20000 in
theorem kX3_noteLinesTo (l : Launch) (D : va_G) (ct : Nat → ClassId) (b : Nat → Nat) (a : Nat → Nat) (x : Mem) (v : Mem) (post : Mem → Prop) (hw : PX3_noteLinesTo x v post) : Cv (S := Mem) l yX3_noteLinesTo wsX3_noteLinesTo rmX3_noteLinesTo D (tyz ct) [.ref (b 0), .ref (a 0)] (fl [wR ct b x, wS ct a v]) (fun (u9 : Mem) => post u9) (fun u9 => fl [wR ct b u9, wS ct a v]) 0 0 := by
  intro sz
  refine g_of (own := RX3) (by decide) rfl rfl (Nat.le_of_ble_eq_true rfl) [(0, .ref (b 0)), (1, .ref (a 0))] rfl (fun p e s m args below meth c hsz X => ?_)
  subst hsz
  unfold PX3_noteLinesTo at hw
  refine g_iconst (v := 0) X rfl dX3_noteLinesTo_0 ?_
  refine g_istore_n X [(2, .int 0), (0, .ref (b 0)), (1, .ref (a 0))] dX3_noteLinesTo_1 rfl (by decide) rfl ?_
  refine g_sub [(0, .ref (b 0)), (1, .ref (a 0)), (2, .int 0)] [1, 2, 0] rfl ?_
  obtain ⟨n17, hw⟩ := hw
  exact kX3_noteLinesTo_2 l D ct b a v post X n17 _ _ hw

abbrev rmX3_indexOfCouple : Room := { frames := 2, cells := 0, slots := 0, locals := 42 }

abbrev GX3_indexOfCouple (l : Launch) (D : va_G) (ct : Nat → ClassId) (b : Nat → Nat) (a : Nat → Nat) (v : Mem) (post : Int32 → Mem → Prop) (p : Program) (e : Env) (s : State) (m : MethodId) (args : Array Value) (below : List Frame) (meth : Method) (c : Code) (A : Nat → Prop) (w9 : va_W) (lv : List (Nat × Value)) (pc : Nat) (st : List Value) : Prop :=
  GG p l e rmX3_indexOfCouple s m args below meth c D A s.heap 4 (MQ below (va_Qi (fun r (u9 : Mem) => post r u9) (fun u9 t9 => Af D (tyz ct) A ((fun u9 => fl [wR ct b u9, wS ct a v]) u9) t9) A)  args s 0 0 A) w9 0 0 lv pc st

set_option maxHeartbeats 4000000 in
set_option maxRecDepth 20000 in
theorem kX3_indexOfCouple_2 (l : Launch) (D : va_G) (ct : Nat → ClassId) (b : Nat → Nat) (a : Nat → Nat) (v : Mem) (post : Int32 → Mem → Prop) {p : Program} {e : Env} {s : State} {m : MethodId} {args : Array Value} {below : List Frame} {meth : Method} {c : Code} {A : Nat → Prop} (X : Cx p s m args meth c cX3_indexOfCouple 4 RX3 wsX3_indexOfCouple D (tyz ct) A s.heap (some .int))  :
    ∀ (n : Nat) (x : Mem) (x2 : Int32) (x3 : Int32), PX3_indexOfCouple_2 v post n x x2 x3 → GX3_indexOfCouple l D ct b a v post p e s m args below meth c A (fl [wR ct b x, wS ct a v]) [(0, .ref (b 0)), (1, .ref (a 0)), (2, .int x2), (3, .int x3)] 2 [] := by
  intro n
  induction n with
  | zero =>
    intro x x2 x3 hw
    exact hw.elim
  | succ n ih =>
    intro x x2 x3 hw
    unfold PX3_indexOfCouple_2 at hw
    refine g_iload_n X 3 dX3_indexOfCouple_2 rfl rfl ?_
    refine g_aload_n X 0 dX3_indexOfCouple_3 rfl rfl ?_
    refine g_get (T := TX3) (C := RX3) (N := 13) (v := .int (x 11 0)) X 0 11 (fun _ h => (List.mem_cons_of_mem _ (List.mem_append_left _ (List.mem_append_right _ h)))) (List.mem_of_getElem? (i := 1) rfl) dX3_indexOfCouple_4 rfl rfl (by decide) rfl rfl ?_
    refine g_icmp_ge X 28 dX3_indexOfCouple_7 (by decide) (fun c1 => ?_) (fun c1 => ?_)
    · replace hw := hw.1 c1
      refine g_aload_n X 0 dX3_indexOfCouple_28 rfl rfl ?_
      refine g_get (T := TX3) (C := RX3) (N := 13) (v := .int (x 11 0)) X 0 11 (fun _ h => (List.mem_cons_of_mem _ (List.mem_append_left _ (List.mem_append_right _ h)))) (List.mem_of_getElem? (i := 1) rfl) dX3_indexOfCouple_29 rfl rfl (by decide) rfl rfl ?_
      refine g_bipush (v := 6) X rfl dX3_indexOfCouple_32 ?_
      refine g_icmp_lt X 39 dX3_indexOfCouple_34 (by decide) (fun c2 => ?_) (fun c2 => ?_)
      · replace hw := hw.1 c2
        refine g_aload_n X 0 dX3_indexOfCouple_39 rfl rfl ?_
        refine g_get (T := TX3) (C := RX3) (N := 13) (v := .int (x 11 0)) X 0 11 (fun _ h => (List.mem_cons_of_mem _ (List.mem_append_left _ (List.mem_append_right _ h)))) (List.mem_of_getElem? (i := 1) rfl) dX3_indexOfCouple_40 rfl rfl (by decide) rfl rfl ?_
        refine g_topi (fun q3 hq3 => ?_)
        replace hw := hw q3 hq3
        refine g_istore_n X [(3, .int q3), (0, .ref (b 0)), (1, .ref (a 0)), (2, .int x2)] dX3_indexOfCouple_43 rfl (by decide) rfl ?_
        refine g_aload_n X 1 dX3_indexOfCouple_44 rfl rfl ?_
        refine g_dup X dX3_indexOfCouple_45 rfl ?_
        refine g_get (T := TX3) (C := RX3) (N := 13) (v := .int (x 11 0)) X 0 11 (fun _ h => (List.mem_cons_of_mem _ (List.mem_append_left _ (List.mem_append_right _ h)))) (List.mem_of_getElem? (i := 1) rfl) dX3_indexOfCouple_46 rfl rfl (by decide) rfl rfl ?_
        refine g_iconst (v := 1) X rfl dX3_indexOfCouple_49 ?_
        refine g_iadd X dX3_indexOfCouple_50 ?_
        refine g_put (T := TX3) (C := RX3) (N := 13) X (fun z => fl [wR ct b z, wS ct a v]) x 0 11 tyX3 tyX3_ok nmX3 (fun _ h => (List.mem_cons_of_mem _ (List.mem_append_left _ (List.mem_append_right _ h)))) (List.mem_of_getElem? (i := 1) rfl) dX3_indexOfCouple_51 rfl rfl (by decide) rfl rfl (by decide +kernel) (Nat.le_of_ble_eq_true rfl) rfl (fun x4 hx4 => ?_)
        replace hw := hw x4 hx4
        refine g_aload_n X 1 dX3_indexOfCouple_54 rfl rfl ?_
        refine g_get (T := TX3) (C := RX3) (N := 13) (v := .ref (b 5)) X 0 4 (fun _ h => (List.mem_cons_of_mem _ (List.mem_append_left _ (List.mem_append_right _ h)))) (List.mem_of_getElem? (i := 2) rfl) dX3_indexOfCouple_55 rfl rfl (by decide) rfl rfl ?_
        refine g_iload_n X 0 dX3_indexOfCouple_58 rfl rfl ?_
        refine g_iload_n X 3 dX3_indexOfCouple_59 rfl rfl ?_
        obtain ⟨h5, hw⟩ := hw
        refine g_iast X (fun z => fl [wR ct b z, wS ct a v]) x4 4 5 0 dX3_indexOfCouple_60 rfl rfl h5 rfl (fun x6 hx6 => ?_)
        replace hw := hw x6 hx6
        refine g_aload_n X 1 dX3_indexOfCouple_61 rfl rfl ?_
        refine g_get (T := TX3) (C := RX3) (N := 13) (v := .ref (b 6)) X 0 5 (fun _ h => (List.mem_cons_of_mem _ (List.mem_append_left _ (List.mem_append_right _ h)))) (List.mem_of_getElem? (i := 3) rfl) dX3_indexOfCouple_62 rfl rfl (by decide) rfl rfl ?_
        refine g_iload_n X 0 dX3_indexOfCouple_65 rfl rfl ?_
        refine g_aload_n X 2 dX3_indexOfCouple_66 rfl rfl ?_
        refine g_iload_n X 3 dX3_indexOfCouple_67 rfl rfl ?_
        refine g_ciV X [wR ct b x6, wS ct a v] (fun (_ : Unit) => [wR ct b x6, wS ct a v]) (fun _ => fl [wR ct b x6, wS ct a v]) 2 [1] [0] 0 (kX5_lesserOf l D ct a v x2 _ hw) (cwV 1 X.1.2.2.2.2 gX3_indexOfCouple_X5_lesserOf rfl rfl rfl (by decide +kernel) ⟨Nat.le_of_ble_eq_true rfl, Nat.le_of_ble_eq_true rfl⟩) dX3_indexOfCouple_68 rfl rfl (Nat.le_of_ble_eq_true rfl) ⟨Nat.le_of_ble_eq_true rfl, Nat.le_of_ble_eq_true rfl⟩ rfl rfl rfl (by decide) (fun _ => rfl) (fun _ => rfl) (fun _ => rfl) (fun _ => rfl) rfl rfl rfl (fun r7 _ hw => ?_)
        obtain ⟨h9, hw⟩ := hw
        refine g_iast X (fun z => fl [wR ct b z, wS ct a v]) x6 5 6 0 dX3_indexOfCouple_71 rfl rfl h9 rfl (fun x10 hx10 => ?_)
        replace hw := hw x10 hx10
        refine g_aload_n X 1 dX3_indexOfCouple_72 rfl rfl ?_
        refine g_get (T := TX3) (C := RX3) (N := 13) (v := .ref (b 7)) X 0 6 (fun _ h => (List.mem_cons_of_mem _ (List.mem_append_left _ (List.mem_append_right _ h)))) (List.mem_of_getElem? (i := 4) rfl) dX3_indexOfCouple_73 rfl rfl (by decide) rfl rfl ?_
        refine g_iload_n X 0 dX3_indexOfCouple_76 rfl rfl ?_
        refine g_aload_n X 2 dX3_indexOfCouple_77 rfl rfl ?_
        refine g_iload_n X 3 dX3_indexOfCouple_78 rfl rfl ?_
        refine g_ciV X [wR ct b x10, wS ct a v] (fun (_ : Unit) => [wR ct b x10, wS ct a v]) (fun _ => fl [wR ct b x10, wS ct a v]) 2 [1] [0] 0 (kX5_greaterOf l D ct a v x2 _ hw) (cwV 1 X.1.2.2.2.2 gX3_indexOfCouple_X5_greaterOf rfl rfl rfl (by decide +kernel) ⟨Nat.le_of_ble_eq_true rfl, Nat.le_of_ble_eq_true rfl⟩) dX3_indexOfCouple_79 rfl rfl (Nat.le_of_ble_eq_true rfl) ⟨Nat.le_of_ble_eq_true rfl, Nat.le_of_ble_eq_true rfl⟩ rfl rfl rfl (by decide) (fun _ => rfl) (fun _ => rfl) (fun _ => rfl) (fun _ => rfl) rfl rfl rfl (fun r11 _ hw => ?_)
        obtain ⟨h13, hw⟩ := hw
        refine g_iast X (fun z => fl [wR ct b z, wS ct a v]) x10 6 7 0 dX3_indexOfCouple_82 rfl rfl h13 rfl (fun x14 hx14 => ?_)
        replace hw := hw x14 hx14
        refine g_iload_n X 0 dX3_indexOfCouple_83 rfl rfl ?_
        exact g_iret X x14 hw rfl (Nat.le_of_ble_eq_true rfl) (Nat.le_of_ble_eq_true rfl) dX3_indexOfCouple_84
      · replace hw := hw.2 c2
        refine g_iconst (v := (-1)) X rfl dX3_indexOfCouple_37 ?_
        exact g_iret X x hw rfl (Nat.le_of_ble_eq_true rfl) (Nat.le_of_ble_eq_true rfl) dX3_indexOfCouple_38
    · replace hw := hw.2 c1
      refine g_aload_n X 0 dX3_indexOfCouple_10 rfl rfl ?_
      refine g_get (T := TX3) (C := RX3) (N := 13) (v := .ref (b 5)) X 0 4 (fun _ h => (List.mem_cons_of_mem _ (List.mem_append_left _ (List.mem_append_right _ h)))) (List.mem_of_getElem? (i := 2) rfl) dX3_indexOfCouple_11 rfl rfl (by decide) rfl rfl ?_
      refine g_iload_n X 3 dX3_indexOfCouple_14 rfl rfl ?_
      obtain ⟨h15, hw⟩ := hw
      refine g_iald X 5 0 dX3_indexOfCouple_15 rfl rfl h15 ?_
      refine g_iload_n X 2 dX3_indexOfCouple_16 rfl rfl ?_
      refine g_icmp_ne X 22 dX3_indexOfCouple_17 (by decide) (fun c16 => ?_) (fun c16 => ?_)
      · replace hw := hw.1 c16
        refine g_iinc X [(3, .int (x3 + 1)), (0, .ref (b 0)), (1, .ref (a 0)), (2, .int x2)] 3 dX3_indexOfCouple_22 rfl rfl (by decide) rfl ?_
        refine g_goto X 2 dX3_indexOfCouple_25 (by decide) ?_
        refine g_sub [(0, .ref (b 0)), (1, .ref (a 0)), (2, .int x2), (3, .int (x3 + 1))] [1, 2, 3, 0] rfl ?_
        exact ih _ _ _ hw
      · replace hw := hw.2 c16
        refine g_iload_n X 3 dX3_indexOfCouple_20 rfl rfl ?_
        exact g_iret X x hw rfl (Nat.le_of_ble_eq_true rfl) (Nat.le_of_ble_eq_true rfl) dX3_indexOfCouple_21

set_option maxHeartbeats 4000000 in
set_option maxRecDepth 20000 in
theorem kX3_indexOfCouple (l : Launch) (D : va_G) (ct : Nat → ClassId) (b : Nat → Nat) (a : Nat → Nat) (x : Mem) (v : Mem) (p2 : Int32) (post : Int32 → Mem → Prop) (hw : PX3_indexOfCouple x v p2 post) : Ci (S := Mem) l yX3_indexOfCouple wsX3_indexOfCouple rmX3_indexOfCouple D (tyz ct) [.ref (b 0), .ref (a 0), .int p2] (fl [wR ct b x, wS ct a v]) (fun r (u9 : Mem) => post r u9) (fun u9 => fl [wR ct b u9, wS ct a v]) 0 0 := by
  intro sz
  refine g_of (own := RX3) (by decide) rfl rfl (Nat.le_of_ble_eq_true rfl) [(0, .ref (b 0)), (1, .ref (a 0)), (2, .int p2)] rfl (fun p e s m args below meth c hsz X => ?_)
  subst hsz
  unfold PX3_indexOfCouple at hw
  refine g_iconst (v := 0) X rfl dX3_indexOfCouple_0 ?_
  refine g_istore_n X [(3, .int 0), (0, .ref (b 0)), (1, .ref (a 0)), (2, .int p2)] dX3_indexOfCouple_1 rfl (by decide) rfl ?_
  refine g_sub [(0, .ref (b 0)), (1, .ref (a 0)), (2, .int p2), (3, .int 0)] [1, 2, 3, 0] rfl ?_
  obtain ⟨n17, hw⟩ := hw
  exact kX3_indexOfCouple_2 l D ct b a v post X n17 _ _ _ hw

abbrev rmX3_listCouples : Room := { frames := 3, cells := 0, slots := 0, locals := 65 }

abbrev GX3_listCouples (l : Launch) (D : va_G) (ct : Nat → ClassId) (b : Nat → Nat) (a : Nat → Nat) (v : Mem) (post : Mem → Prop) (p : Program) (e : Env) (s : State) (m : MethodId) (args : Array Value) (below : List Frame) (meth : Method) (c : Code) (A : Nat → Prop) (w9 : va_W) (lv : List (Nat × Value)) (pc : Nat) (st : List Value) : Prop :=
  GG p l e rmX3_listCouples s m args below meth c D A s.heap 5 (MQ below (va_Qv (fun (u9 : Mem) => post u9) (fun u9 t9 => Af D (tyz ct) A ((fun u9 => fl [wR ct b u9, wS ct a v]) u9) t9) A)  args s 0 0 A) w9 0 0 lv pc st

set_option maxHeartbeats 4000000 in
set_option maxRecDepth 20000 in
theorem kX3_listCouples_56 (l : Launch) (D : va_G) (ct : Nat → ClassId) (b : Nat → Nat) (a : Nat → Nat) (v : Mem) (post : Mem → Prop) (K7 : Mem → Int32 → Int32 → Prop) {p : Program} {e : Env} {s : State} {m : MethodId} {args : Array Value} {below : List Frame} {meth : Method} {c : Code} {A : Nat → Prop} (X : Cx p s m args meth c cX3_listCouples 5 RX3 wsX3_listCouples D (tyz ct) A s.heap none) (hK7 : ∀ (x : Mem) (x2 : Int32) (x3 : Int32), K7 x x2 x3 → GX3_listCouples l D ct b a v post p e s m args below meth c A (fl [wR ct b x, wS ct a v]) [(0, .ref (b 0)), (1, .ref (a 0)), (2, .int x2), (3, .int x3)] 7 []) :
    ∀ (x : Mem) (x2 : Int32) (x3 : Int32) (z0 : Int32) (z1 : Int32), PX3_listCouples_56 v post K7 x x2 x3 z0 z1 → GX3_listCouples l D ct b a v post p e s m args below meth c A (fl [wR ct b x, wS ct a v]) [(0, .ref (b 0)), (1, .ref (a 0)), (2, .int x2), (3, .int x3)] 56 [.int z0, .int z1, .ref (b 9)] := by
  intro x x2 x3 z0 z1 hw
  unfold PX3_listCouples_56 at hw
  obtain ⟨h14, hw⟩ := hw
  refine g_iast X (fun z => fl [wR ct b z, wS ct a v]) x 8 9 0 dX3_listCouples_56 rfl rfl h14 rfl (fun x15 hx15 => ?_)
  replace hw := hw x15 hx15
  refine g_iinc X [(3, .int (x3 + 1)), (0, .ref (b 0)), (1, .ref (a 0)), (2, .int x2)] 3 dX3_listCouples_57 rfl rfl (by decide) rfl ?_
  refine g_goto X 7 dX3_listCouples_60 (by decide) ?_
  refine g_sub [(0, .ref (b 0)), (1, .ref (a 0)), (2, .int x2), (3, .int (x3 + 1))] [1, 2, 3, 0] rfl ?_
  exact hK7 _ _ _ hw

set_option maxHeartbeats 4000000 in
set_option maxRecDepth 20000 in
theorem kX3_listCouples_7 (l : Launch) (D : va_G) (ct : Nat → ClassId) (b : Nat → Nat) (a : Nat → Nat) (v : Mem) (post : Mem → Prop) {p : Program} {e : Env} {s : State} {m : MethodId} {args : Array Value} {below : List Frame} {meth : Method} {c : Code} {A : Nat → Prop} (X : Cx p s m args meth c cX3_listCouples 5 RX3 wsX3_listCouples D (tyz ct) A s.heap none)  :
    ∀ (n : Nat) (x : Mem) (x2 : Int32) (x3 : Int32), PX3_listCouples_7 v post n x x2 x3 → GX3_listCouples l D ct b a v post p e s m args below meth c A (fl [wR ct b x, wS ct a v]) [(0, .ref (b 0)), (1, .ref (a 0)), (2, .int x2), (3, .int x3)] 7 [] := by
  intro n
  induction n with
  | zero =>
    intro x x2 x3 hw
    exact hw.elim
  | succ n ih =>
    intro x x2 x3 hw
    unfold PX3_listCouples_7 at hw
    refine g_iload_n X 3 dX3_listCouples_7 rfl rfl ?_
    refine g_aload_n X 1 dX3_listCouples_8 rfl rfl ?_
    refine g_iload_n X 2 dX3_listCouples_9 rfl rfl ?_
    refine g_ciV X [wR ct b x, wS ct a v] (fun (_ : Unit) => [wR ct b x, wS ct a v]) (fun _ => fl [wR ct b x, wS ct a v]) 2 [1] [0] 0 (kX5_sizeOf l D ct a v x2 _ hw) (cwV 1 X.1.2.2.2.2 gX3_listCouples_X5_sizeOf rfl rfl rfl (by decide +kernel) ⟨Nat.le_of_ble_eq_true rfl, Nat.le_of_ble_eq_true rfl⟩) dX3_listCouples_10 rfl rfl (Nat.le_of_ble_eq_true rfl) ⟨Nat.le_of_ble_eq_true rfl, Nat.le_of_ble_eq_true rfl⟩ rfl rfl rfl (by decide) (fun _ => rfl) (fun _ => rfl) (fun _ => rfl) (fun _ => rfl) rfl rfl rfl (fun r2 _ hw => ?_)
    refine g_icmp_ge X 63 dX3_listCouples_13 (by decide) (fun c4 => ?_) (fun c4 => ?_)
    · replace hw := hw.1 c4
      exact g_vret X x hw rfl (Nat.le_of_ble_eq_true rfl) (Nat.le_of_ble_eq_true rfl) dX3_listCouples_63
    · replace hw := hw.2 c4
      refine g_iload_n X 3 dX3_listCouples_16 rfl rfl ?_
      refine g_bipush (v := 6) X rfl dX3_listCouples_17 ?_
      refine g_icmp_ge X 63 dX3_listCouples_19 (by decide) (fun c5 => ?_) (fun c5 => ?_)
      · replace hw := hw.1 c5
        exact g_vret X x hw rfl (Nat.le_of_ble_eq_true rfl) (Nat.le_of_ble_eq_true rfl) dX3_listCouples_63
      · replace hw := hw.2 c5
        refine g_aload_n X 1 dX3_listCouples_22 rfl rfl ?_
        refine g_aload_n X 1 dX3_listCouples_23 rfl rfl ?_
        refine g_iload_n X 2 dX3_listCouples_24 rfl rfl ?_
        refine g_iload_n X 3 dX3_listCouples_25 rfl rfl ?_
        refine g_ciV X [wR ct b x, wS ct a v] (fun (_ : Unit) => [wR ct b x, wS ct a v]) (fun _ => fl [wR ct b x, wS ct a v]) 2 [1] [0] 0 (kX5_personAt l D ct a v x2 x3 _ hw) (cwV 2 X.1.2.2.2.2 gX3_listCouples_X5_personAt rfl rfl rfl (by decide +kernel) ⟨Nat.le_of_ble_eq_true rfl, Nat.le_of_ble_eq_true rfl⟩) dX3_listCouples_26 rfl rfl (Nat.le_of_ble_eq_true rfl) ⟨Nat.le_of_ble_eq_true rfl, Nat.le_of_ble_eq_true rfl⟩ rfl rfl rfl (by decide) (fun _ => rfl) (fun _ => rfl) (fun _ => rfl) (fun _ => rfl) rfl rfl rfl (fun r6 _ hw => ?_)
        refine g_ciV X [wR ct b x, wS ct a v] (fun (_ : Unit) => [wR ct b x, wS ct a v]) (fun _ => fl [wR ct b x, wS ct a v]) 2 [1] [0] 0 (kX5_parentsOf l D ct a v r6 _ hw) (cwV 1 X.1.2.2.2.2 gX3_listCouples_X5_parentsOf rfl rfl rfl (by decide +kernel) ⟨Nat.le_of_ble_eq_true rfl, Nat.le_of_ble_eq_true rfl⟩) dX3_listCouples_29 rfl rfl (Nat.le_of_ble_eq_true rfl) ⟨Nat.le_of_ble_eq_true rfl, Nat.le_of_ble_eq_true rfl⟩ rfl rfl rfl (by decide) (fun _ => rfl) (fun _ => rfl) (fun _ => rfl) (fun _ => rfl) rfl rfl rfl (fun r8 _ hw => ?_)
        refine g_istore X [(4, .int r8), (0, .ref (b 0)), (1, .ref (a 0)), (2, .int x2), (3, .int x3)] dX3_listCouples_32 (by decide) rfl ?_
        refine g_aload_n X 1 dX3_listCouples_34 rfl rfl ?_
        refine g_get (T := TX3) (C := RX3) (N := 13) (v := .ref (b 9)) X 0 8 (fun _ h => (List.mem_cons_of_mem _ (List.mem_append_left _ (List.mem_append_right _ h)))) (List.mem_of_getElem? (i := 2) rfl) dX3_listCouples_35 rfl rfl (by decide) rfl rfl ?_
        refine g_iload_n X 4 dX3_listCouples_38 rfl rfl ?_
        refine g_iload X 0 dX3_listCouples_39 rfl ?_
        refine g_iconst (v := (-1)) X rfl dX3_listCouples_41 ?_
        refine g_icmp_ne X 49 dX3_listCouples_42 (by decide) (fun c10 => ?_) (fun c10 => ?_)
        · replace hw := hw.1 c10
          refine g_aload_n X 1 dX3_listCouples_49 rfl rfl ?_
          refine g_aload_n X 2 dX3_listCouples_50 rfl rfl ?_
          refine g_iload X 0 dX3_listCouples_51 rfl ?_
          refine g_ciV X [wR ct b x, wS ct a v] (fun (u12 : Mem) => [wR ct b u12, wS ct a v]) (fun (u12 : Mem) => fl [wR ct b u12, wS ct a v]) 2 [0, 1] [] 0 (kX3_indexOfCouple l D ct b a x v r8 _ hw) (cwV 2 X.1.2.2.2.2 gX3_listCouples_X3_indexOfCouple rfl rfl rfl (by decide +kernel) ⟨Nat.le_of_ble_eq_true rfl, Nat.le_of_ble_eq_true rfl⟩) dX3_listCouples_53 rfl rfl (Nat.le_of_ble_eq_true rfl) ⟨Nat.le_of_ble_eq_true rfl, Nat.le_of_ble_eq_true rfl⟩ rfl rfl rfl (by decide) (fun _ => rfl) (fun _ => rfl) (fun _ => rfl) (fun _ => rfl) rfl rfl rfl (fun r11 u12 hw => ?_)
          obtain ⟨x13, hx13⟩ : ∃ z : Mem, z = u12 := ⟨_, rfl⟩
          rw [← hx13] at hw
          rw [← hx13]
          refine g_sub [(0, .ref (b 0)), (1, .ref (a 0)), (2, .int x2), (3, .int x3)] [1, 2, 3, 4] rfl ?_
          exact kX3_listCouples_56 l D ct b a v post _ X ih _ _ _ _ _ hw
        · replace hw := hw.2 c10
          refine g_iconst (v := (-1)) X rfl dX3_listCouples_45 ?_
          refine g_goto X 56 dX3_listCouples_46 (by decide) ?_
          refine g_sub [(0, .ref (b 0)), (1, .ref (a 0)), (2, .int x2), (3, .int x3)] [1, 2, 3, 4] rfl ?_
          exact kX3_listCouples_56 l D ct b a v post _ X ih _ _ _ _ _ hw

set_option maxHeartbeats 4000000 in
set_option maxRecDepth 20000 in
theorem kX3_listCouples (l : Launch) (D : va_G) (ct : Nat → ClassId) (b : Nat → Nat) (a : Nat → Nat) (x : Mem) (v : Mem) (p2 : Int32) (post : Mem → Prop) (hw : PX3_listCouples x v p2 post) : Cv (S := Mem) l yX3_listCouples wsX3_listCouples rmX3_listCouples D (tyz ct) [.ref (b 0), .ref (a 0), .int p2] (fl [wR ct b x, wS ct a v]) (fun (u9 : Mem) => post u9) (fun u9 => fl [wR ct b u9, wS ct a v]) 0 0 := by
  intro sz
  refine g_of (own := RX3) (by decide) rfl rfl (Nat.le_of_ble_eq_true rfl) [(0, .ref (b 0)), (1, .ref (a 0)), (2, .int p2)] rfl (fun p e s m args below meth c hsz X => ?_)
  subst hsz
  unfold PX3_listCouples at hw
  refine g_aload_n X 0 dX3_listCouples_0 rfl rfl ?_
  refine g_iconst (v := 0) X rfl dX3_listCouples_1 ?_
  refine g_put (T := TX3) (C := RX3) (N := 13) X (fun z => fl [wR ct b z, wS ct a v]) x 0 11 tyX3 tyX3_ok nmX3 (fun _ h => (List.mem_cons_of_mem _ (List.mem_append_left _ (List.mem_append_right _ h)))) (List.mem_of_getElem? (i := 1) rfl) dX3_listCouples_2 rfl rfl (by decide) rfl rfl (by decide +kernel) (Nat.le_of_ble_eq_true rfl) rfl (fun x1 hx1 => ?_)
  replace hw := hw x1 hx1
  refine g_iconst (v := 0) X rfl dX3_listCouples_5 ?_
  refine g_istore_n X [(3, .int 0), (0, .ref (b 0)), (1, .ref (a 0)), (2, .int p2)] dX3_listCouples_6 rfl (by decide) rfl ?_
  refine g_sub [(0, .ref (b 0)), (1, .ref (a 0)), (2, .int p2), (3, .int 0)] [1, 2, 3, 0] rfl ?_
  obtain ⟨n16, hw⟩ := hw
  exact kX3_listCouples_7 l D ct b a v post X n16 _ _ _ hw

abbrev rmX3_noteLinesFrom : Room := { frames := 0, cells := 0, slots := 0, locals := 0 }

abbrev GX3_noteLinesFrom (l : Launch) (D : va_G) (ct : Nat → ClassId) (b : Nat → Nat) (post : Mem → Prop) (p : Program) (e : Env) (s : State) (m : MethodId) (args : Array Value) (below : List Frame) (meth : Method) (c : Code) (A : Nat → Prop) (w9 : va_W) (lv : List (Nat × Value)) (pc : Nat) (st : List Value) : Prop :=
  GG p l e rmX3_noteLinesFrom s m args below meth c D A s.heap 4 (MQ below (va_Qv (fun (u9 : Mem) => post u9) (fun u9 t9 => Af D (tyz ct) A ((fun u9 => wR ct b u9) u9) t9) A)  args s 0 0 A) w9 0 0 lv pc st

set_option maxHeartbeats 4000000 in
set_option maxRecDepth 20000 in
theorem kX3_noteLinesFrom_52 (l : Launch) (D : va_G) (ct : Nat → ClassId) (b : Nat → Nat) (post : Mem → Prop) (K43 : Mem → Int32 → Int32 → Prop) {p : Program} {e : Env} {s : State} {m : MethodId} {args : Array Value} {below : List Frame} {meth : Method} {c : Code} {A : Nat → Prop} (X : Cx p s m args meth c cX3_noteLinesFrom 4 RX3 wsX3_noteLinesFrom D (tyz ct) A s.heap none) (hK43 : ∀ (x : Mem) (x1 : Int32) (x2 : Int32), K43 x x1 x2 → GX3_noteLinesFrom l D ct b  post p e s m args below meth c A (wR ct b x) [(0, .ref (b 0)), (1, .int x1), (2, .int x2)] 43 []) :
    ∀ (n : Nat) (x : Mem) (x1 : Int32) (x2 : Int32) (x3 : Int32), PX3_noteLinesFrom_52 post K43 n x x1 x2 x3 → GX3_noteLinesFrom l D ct b  post p e s m args below meth c A (wR ct b x) [(0, .ref (b 0)), (1, .int x1), (2, .int x2), (3, .int x3)] 52 [] := by
  intro n
  induction n with
  | zero =>
    intro x x1 x2 x3 hw
    exact hw.elim
  | succ n ih =>
    intro x x1 x2 x3 hw
    unfold PX3_noteLinesFrom_52 at hw
    refine g_iload_n X 3 dX3_noteLinesFrom_52 rfl rfl ?_
    refine g_iload_n X 1 dX3_noteLinesFrom_53 rfl rfl ?_
    refine g_icmp_ge X 105 dX3_noteLinesFrom_54 (by decide) (fun c4 => ?_) (fun c4 => ?_)
    · replace hw := hw.1 c4
      refine g_iinc X [(2, .int (x2 + 1)), (0, .ref (b 0)), (1, .int x1), (3, .int x3)] 2 dX3_noteLinesFrom_105 rfl rfl (by decide) rfl ?_
      refine g_goto X 43 dX3_noteLinesFrom_108 (by decide) ?_
      refine g_sub [(0, .ref (b 0)), (1, .int x1), (2, .int (x2 + 1))] [1, 2, 0] rfl ?_
      exact hK43 _ _ _ hw
    · replace hw := hw.2 c4
      refine g_aload_n X 0 dX3_noteLinesFrom_57 rfl rfl ?_
      refine g_get (T := TX3) (C := RX3) (N := 13) (v := .ref (b 9)) X 0 8 (fun _ h => (List.mem_cons_of_mem _ (List.mem_append_right _ h))) (List.mem_of_getElem? (i := 3) rfl) dX3_noteLinesFrom_58 rfl rfl (by decide) rfl rfl ?_
      refine g_iload_n X 2 dX3_noteLinesFrom_61 rfl rfl ?_
      obtain ⟨h5, hw⟩ := hw
      refine g_iald X 9 0 dX3_noteLinesFrom_62 rfl rfl h5 ?_
      refine g_iconst (v := (-1)) X rfl dX3_noteLinesFrom_63 ?_
      refine g_icmp_eq X 99 dX3_noteLinesFrom_64 (by decide) (fun c6 => ?_) (fun c6 => ?_)
      · replace hw := hw.1 c6
        refine g_iinc X [(3, .int (x3 + 1)), (0, .ref (b 0)), (1, .int x1), (2, .int x2)] 3 dX3_noteLinesFrom_99 rfl rfl (by decide) rfl ?_
        refine g_goto X 52 dX3_noteLinesFrom_102 (by decide) ?_
        refine g_sub [(0, .ref (b 0)), (1, .int x1), (2, .int x2), (3, .int (x3 + 1))] [1, 2, 3, 0] rfl ?_
        exact ih _ _ _ _ hw
      · replace hw := hw.2 c6
        refine g_aload_n X 0 dX3_noteLinesFrom_67 rfl rfl ?_
        refine g_get (T := TX3) (C := RX3) (N := 13) (v := .ref (b 9)) X 0 8 (fun _ h => (List.mem_cons_of_mem _ (List.mem_append_right _ h))) (List.mem_of_getElem? (i := 3) rfl) dX3_noteLinesFrom_68 rfl rfl (by decide) rfl rfl ?_
        refine g_iload_n X 3 dX3_noteLinesFrom_71 rfl rfl ?_
        obtain ⟨h7, hw⟩ := hw
        refine g_iald X 9 0 dX3_noteLinesFrom_72 rfl rfl h7 ?_
        refine g_iconst (v := (-1)) X rfl dX3_noteLinesFrom_73 ?_
        refine g_icmp_eq X 99 dX3_noteLinesFrom_74 (by decide) (fun c8 => ?_) (fun c8 => ?_)
        · replace hw := hw.1 c8
          refine g_iinc X [(3, .int (x3 + 1)), (0, .ref (b 0)), (1, .int x1), (2, .int x2)] 3 dX3_noteLinesFrom_99 rfl rfl (by decide) rfl ?_
          refine g_goto X 52 dX3_noteLinesFrom_102 (by decide) ?_
          refine g_sub [(0, .ref (b 0)), (1, .int x1), (2, .int x2), (3, .int (x3 + 1))] [1, 2, 3, 0] rfl ?_
          exact ih _ _ _ _ hw
        · replace hw := hw.2 c8
          refine g_aload_n X 0 dX3_noteLinesFrom_77 rfl rfl ?_
          refine g_get (T := TX3) (C := RX3) (N := 13) (v := .ref (b 10)) X 0 9 (fun _ h => (List.mem_cons_of_mem _ (List.mem_append_right _ h))) (List.mem_of_getElem? (i := 2) rfl) dX3_noteLinesFrom_78 rfl rfl (by decide) rfl rfl ?_
          refine g_aload_n X 0 dX3_noteLinesFrom_81 rfl rfl ?_
          refine g_get (T := TX3) (C := RX3) (N := 13) (v := .ref (b 9)) X 0 8 (fun _ h => (List.mem_cons_of_mem _ (List.mem_append_right _ h))) (List.mem_of_getElem? (i := 3) rfl) dX3_noteLinesFrom_82 rfl rfl (by decide) rfl rfl ?_
          refine g_iload_n X 3 dX3_noteLinesFrom_85 rfl rfl ?_
          obtain ⟨h9, hw⟩ := hw
          refine g_iald X 9 0 dX3_noteLinesFrom_86 rfl rfl h9 ?_
          obtain ⟨h10, hw⟩ := hw
          refine g_aldg (b := b (20 + ix (x 8 (ix x3)))) X 10 3 dX3_noteLinesFrom_87 rfl rfl h10 (if_pos (vp_lt h10)) ?_
          refine g_aload_n X 0 dX3_noteLinesFrom_88 rfl rfl ?_
          refine g_get (T := TX3) (C := RX3) (N := 13) (v := .ref (b 9)) X 0 8 (fun _ h => (List.mem_cons_of_mem _ (List.mem_append_right _ h))) (List.mem_of_getElem? (i := 3) rfl) dX3_noteLinesFrom_89 rfl rfl (by decide) rfl rfl ?_
          refine g_iload_n X 2 dX3_noteLinesFrom_92 rfl rfl ?_
          obtain ⟨h11, hw⟩ := hw
          refine g_iald X 9 0 dX3_noteLinesFrom_93 rfl rfl h11 ?_
          refine g_dup2 X dX3_noteLinesFrom_94 rfl rfl ?_
          obtain ⟨h12, hw⟩ := hw
          refine g_iald X (11 + ix (x 8 (ix x3))) 0 dX3_noteLinesFrom_95 (in_R (vp_lt h10)) rfl h12 ?_
          refine g_iconst (v := 1) X rfl dX3_noteLinesFrom_96 ?_
          refine g_iadd X dX3_noteLinesFrom_97 ?_
          obtain ⟨h13, hw⟩ := hw
          refine g_iast X (fun z => wR ct b z) x (20 + ix (x 8 (ix x3))) (11 + ix (x 8 (ix x3))) 0 dX3_noteLinesFrom_98 (in_R (vp_lt h10)) rfl h13 (in_Rs (vp_lt h10)) (fun x14 hx14 => ?_)
          replace hw := hw x14 hx14
          refine g_iinc X [(3, .int (x3 + 1)), (0, .ref (b 0)), (1, .int x1), (2, .int x2)] 3 dX3_noteLinesFrom_99 rfl rfl (by decide) rfl ?_
          refine g_goto X 52 dX3_noteLinesFrom_102 (by decide) ?_
          refine g_sub [(0, .ref (b 0)), (1, .int x1), (2, .int x2), (3, .int (x3 + 1))] [1, 2, 3, 0] rfl ?_
          exact ih _ _ _ _ hw

set_option maxHeartbeats 4000000 in
set_option maxRecDepth 20000 in
theorem kX3_noteLinesFrom_43 (l : Launch) (D : va_G) (ct : Nat → ClassId) (b : Nat → Nat) (post : Mem → Prop) {p : Program} {e : Env} {s : State} {m : MethodId} {args : Array Value} {below : List Frame} {meth : Method} {c : Code} {A : Nat → Prop} (X : Cx p s m args meth c cX3_noteLinesFrom 4 RX3 wsX3_noteLinesFrom D (tyz ct) A s.heap none)  :
    ∀ (n : Nat) (x : Mem) (x1 : Int32) (x2 : Int32), PX3_noteLinesFrom_43 post n x x1 x2 → GX3_noteLinesFrom l D ct b  post p e s m args below meth c A (wR ct b x) [(0, .ref (b 0)), (1, .int x1), (2, .int x2)] 43 [] := by
  intro n
  induction n with
  | zero =>
    intro x x1 x2 hw
    exact hw.elim
  | succ n ih =>
    intro x x1 x2 hw
    unfold PX3_noteLinesFrom_43 at hw
    refine g_iload_n X 2 dX3_noteLinesFrom_43 rfl rfl ?_
    refine g_iload_n X 1 dX3_noteLinesFrom_44 rfl rfl ?_
    refine g_icmp_ge X 111 dX3_noteLinesFrom_45 (by decide) (fun c2 => ?_) (fun c2 => ?_)
    · replace hw := hw.1 c2
      exact g_vret X x hw rfl (Nat.le_of_ble_eq_true rfl) (Nat.le_of_ble_eq_true rfl) dX3_noteLinesFrom_111
    · replace hw := hw.2 c2
      refine g_iload_n X 2 dX3_noteLinesFrom_48 rfl rfl ?_
      refine g_iconst (v := 1) X rfl dX3_noteLinesFrom_49 ?_
      refine g_iadd X dX3_noteLinesFrom_50 ?_
      refine g_topi (fun q3 hq3 => ?_)
      replace hw := hw q3 hq3
      refine g_istore_n X [(3, .int q3), (0, .ref (b 0)), (1, .int x1), (2, .int x2)] dX3_noteLinesFrom_51 rfl (by decide) rfl ?_
      refine g_sub [(0, .ref (b 0)), (1, .int x1), (2, .int x2), (3, .int q3)] [1, 2, 3, 0] rfl ?_
      obtain ⟨n15, hw⟩ := hw
      exact kX3_noteLinesFrom_52 l D ct b post _ X ih n15 _ _ _ _ hw

set_option maxHeartbeats 4000000 in
set_option maxRecDepth 20000 in
theorem kX3_noteLinesFrom_12 (l : Launch) (D : va_G) (ct : Nat → ClassId) (b : Nat → Nat) (post : Mem → Prop) (K2 : Mem → Int32 → Int32 → Prop) {p : Program} {e : Env} {s : State} {m : MethodId} {args : Array Value} {below : List Frame} {meth : Method} {c : Code} {A : Nat → Prop} (X : Cx p s m args meth c cX3_noteLinesFrom 4 RX3 wsX3_noteLinesFrom D (tyz ct) A s.heap none) (hK2 : ∀ (x : Mem) (x1 : Int32) (x2 : Int32), K2 x x1 x2 → GX3_noteLinesFrom l D ct b  post p e s m args below meth c A (wR ct b x) [(0, .ref (b 0)), (1, .int x1), (2, .int x2)] 2 []) :
    ∀ (n : Nat) (x : Mem) (x1 : Int32) (x2 : Int32) (x3 : Int32), PX3_noteLinesFrom_12 post K2 n x x1 x2 x3 → GX3_noteLinesFrom l D ct b  post p e s m args below meth c A (wR ct b x) [(0, .ref (b 0)), (1, .int x1), (2, .int x2), (3, .int x3)] 12 [] := by
  intro n
  induction n with
  | zero =>
    intro x x1 x2 x3 hw
    exact hw.elim
  | succ n ih =>
    intro x x1 x2 x3 hw
    unfold PX3_noteLinesFrom_12 at hw
    refine g_iload_n X 3 dX3_noteLinesFrom_12 rfl rfl ?_
    refine g_aload_n X 0 dX3_noteLinesFrom_13 rfl rfl ?_
    refine g_get (T := TX3) (C := RX3) (N := 13) (v := .int (x 11 0)) X 0 11 (fun _ h => (List.mem_cons_of_mem _ (List.mem_append_right _ h))) (List.mem_of_getElem? (i := 1) rfl) dX3_noteLinesFrom_14 rfl rfl (by decide) rfl rfl ?_
    refine g_icmp_ge X 35 dX3_noteLinesFrom_17 (by decide) (fun c17 => ?_) (fun c17 => ?_)
    · replace hw := hw.1 c17
      refine g_iinc X [(2, .int (x2 + 1)), (0, .ref (b 0)), (1, .int x1), (3, .int x3)] 2 dX3_noteLinesFrom_35 rfl rfl (by decide) rfl ?_
      refine g_goto X 2 dX3_noteLinesFrom_38 (by decide) ?_
      refine g_sub [(0, .ref (b 0)), (1, .int x1), (2, .int (x2 + 1))] [1, 2, 0] rfl ?_
      exact hK2 _ _ _ hw
    · replace hw := hw.2 c17
      refine g_aload_n X 0 dX3_noteLinesFrom_20 rfl rfl ?_
      refine g_get (T := TX3) (C := RX3) (N := 13) (v := .ref (b 10)) X 0 9 (fun _ h => (List.mem_cons_of_mem _ (List.mem_append_right _ h))) (List.mem_of_getElem? (i := 2) rfl) dX3_noteLinesFrom_21 rfl rfl (by decide) rfl rfl ?_
      refine g_iload_n X 2 dX3_noteLinesFrom_24 rfl rfl ?_
      obtain ⟨h18, hw⟩ := hw
      refine g_aldg (b := b (20 + ix x2)) X 10 3 dX3_noteLinesFrom_25 rfl rfl h18 (if_pos (vp_lt h18)) ?_
      refine g_iload_n X 3 dX3_noteLinesFrom_26 rfl rfl ?_
      refine g_iconst (v := 0) X rfl dX3_noteLinesFrom_27 ?_
      obtain ⟨h19, hw⟩ := hw
      refine g_iast X (fun z => wR ct b z) x (20 + ix x2) (11 + ix x2) 0 dX3_noteLinesFrom_28 (in_R (vp_lt h18)) rfl h19 (in_Rs (vp_lt h18)) (fun x20 hx20 => ?_)
      replace hw := hw x20 hx20
      refine g_iinc X [(3, .int (x3 + 1)), (0, .ref (b 0)), (1, .int x1), (2, .int x2)] 3 dX3_noteLinesFrom_29 rfl rfl (by decide) rfl ?_
      refine g_goto X 12 dX3_noteLinesFrom_32 (by decide) ?_
      refine g_sub [(0, .ref (b 0)), (1, .int x1), (2, .int x2), (3, .int (x3 + 1))] [1, 2, 3, 0] rfl ?_
      exact ih _ _ _ _ hw

set_option maxHeartbeats 4000000 in
set_option maxRecDepth 20000 in
theorem kX3_noteLinesFrom_2 (l : Launch) (D : va_G) (ct : Nat → ClassId) (b : Nat → Nat) (post : Mem → Prop) {p : Program} {e : Env} {s : State} {m : MethodId} {args : Array Value} {below : List Frame} {meth : Method} {c : Code} {A : Nat → Prop} (X : Cx p s m args meth c cX3_noteLinesFrom 4 RX3 wsX3_noteLinesFrom D (tyz ct) A s.heap none)  :
    ∀ (n : Nat) (x : Mem) (x1 : Int32) (x2 : Int32), PX3_noteLinesFrom_2 post n x x1 x2 → GX3_noteLinesFrom l D ct b  post p e s m args below meth c A (wR ct b x) [(0, .ref (b 0)), (1, .int x1), (2, .int x2)] 2 [] := by
  intro n
  induction n with
  | zero =>
    intro x x1 x2 hw
    exact hw.elim
  | succ n ih =>
    intro x x1 x2 hw
    unfold PX3_noteLinesFrom_2 at hw
    refine g_iload_n X 2 dX3_noteLinesFrom_2 rfl rfl ?_
    refine g_aload_n X 0 dX3_noteLinesFrom_3 rfl rfl ?_
    refine g_get (T := TX3) (C := RX3) (N := 13) (v := .int (x 11 0)) X 0 11 (fun _ h => (List.mem_cons_of_mem _ (List.mem_append_right _ h))) (List.mem_of_getElem? (i := 1) rfl) dX3_noteLinesFrom_4 rfl rfl (by decide) rfl rfl ?_
    refine g_icmp_ge X 41 dX3_noteLinesFrom_7 (by decide) (fun c1 => ?_) (fun c1 => ?_)
    · replace hw := hw.1 c1
      refine g_iconst (v := 0) X rfl dX3_noteLinesFrom_41 ?_
      refine g_istore_n X [(2, .int 0), (0, .ref (b 0)), (1, .int x1)] dX3_noteLinesFrom_42 rfl (by decide) rfl ?_
      refine g_sub [(0, .ref (b 0)), (1, .int x1), (2, .int 0)] [1, 2, 0] rfl ?_
      obtain ⟨n16, hw⟩ := hw
      exact kX3_noteLinesFrom_43 l D ct b post X n16 _ _ _ hw
    · replace hw := hw.2 c1
      refine g_iconst (v := 0) X rfl dX3_noteLinesFrom_10 ?_
      refine g_istore_n X [(3, .int 0), (0, .ref (b 0)), (1, .int x1), (2, .int x2)] dX3_noteLinesFrom_11 rfl (by decide) rfl ?_
      refine g_sub [(0, .ref (b 0)), (1, .int x1), (2, .int x2), (3, .int 0)] [1, 2, 3, 0] rfl ?_
      obtain ⟨n21, hw⟩ := hw
      exact kX3_noteLinesFrom_12 l D ct b post _ X ih n21 _ _ _ _ hw

set_option maxHeartbeats 4000000 in
set_option maxRecDepth 20000 in
theorem kX3_noteLinesFrom (l : Launch) (D : va_G) (ct : Nat → ClassId) (b : Nat → Nat) (x : Mem) (p1 : Int32) (post : Mem → Prop) (hw : PX3_noteLinesFrom x p1 post) : Cv (S := Mem) l yX3_noteLinesFrom wsX3_noteLinesFrom rmX3_noteLinesFrom D (tyz ct) [.ref (b 0), .int p1] (wR ct b x) (fun (u9 : Mem) => post u9) (fun u9 => wR ct b u9) 0 0 := by
  intro sz
  refine g_of (own := RX3) (by decide) rfl rfl (Nat.le_of_ble_eq_true rfl) [(0, .ref (b 0)), (1, .int p1)] rfl (fun p e s m args below meth c hsz X => ?_)
  subst hsz
  unfold PX3_noteLinesFrom at hw
  refine g_iconst (v := 0) X rfl dX3_noteLinesFrom_0 ?_
  refine g_istore_n X [(2, .int 0), (0, .ref (b 0)), (1, .int p1)] dX3_noteLinesFrom_1 rfl (by decide) rfl ?_
  refine g_sub [(0, .ref (b 0)), (1, .int p1), (2, .int 0)] [1, 2, 0] rfl ?_
  obtain ⟨n22, hw⟩ := hw
  exact kX3_noteLinesFrom_2 l D ct b post X n22 _ _ _ hw

abbrev rmX3_prepare : Room := { frames := 5, cells := 0, slots := 0, locals := 109 }

abbrev GX3_prepare (l : Launch) (D : va_G) (ct : Nat → ClassId) (b : Nat → Nat) (a : Nat → Nat) (v : Mem) (post : Mem → Prop) (p : Program) (e : Env) (s : State) (m : MethodId) (args : Array Value) (below : List Frame) (meth : Method) (c : Code) (A : Nat → Prop) (w9 : va_W) (lv : List (Nat × Value)) (pc : Nat) (st : List Value) : Prop :=
  GG p l e rmX3_prepare s m args below meth c D A s.heap 3 (MQ below (va_Qv (fun (u9 : Mem) => post u9) (fun u9 t9 => Af D (tyz ct) A ((fun u9 => fl [wR ct b u9, wS ct a v]) u9) t9) A)  args s 0 0 A) w9 0 0 lv pc st

set_option maxHeartbeats 4000000 in
set_option maxRecDepth 20000 in
theorem kX3_prepare (l : Launch) (D : va_G) (ct : Nat → ClassId) (b : Nat → Nat) (a : Nat → Nat) (x : Mem) (v : Mem) (p2 : Int32) (post : Mem → Prop) (hw : PX3_prepare x v p2 post) : Cv (S := Mem) l yX3_prepare wsX3_prepare rmX3_prepare D (tyz ct) [.ref (b 0), .ref (a 0), .int p2] (fl [wR ct b x, wS ct a v]) (fun (u9 : Mem) => post u9) (fun u9 => fl [wR ct b u9, wS ct a v]) 0 0 := by
  intro sz
  refine g_of (own := RX3) (by decide) rfl rfl (Nat.le_of_ble_eq_true rfl) [(0, .ref (b 0)), (1, .ref (a 0)), (2, .int p2)] rfl (fun p e s m args below meth c hsz X => ?_)
  subst hsz
  unfold PX3_prepare at hw
  refine g_aload_n X 0 dX3_prepare_0 rfl rfl ?_
  refine g_aload_n X 1 dX3_prepare_1 rfl rfl ?_
  refine g_iload_n X 2 dX3_prepare_2 rfl rfl ?_
  refine g_cvV X [wR ct b x, wS ct a v] (fun (u1 : Mem) => [wR ct b u1, wS ct a v]) (fun (u1 : Mem) => fl [wR ct b u1, wS ct a v]) 2 [0, 1] [] 0 (kX3_listPeople l D ct b a x v p2 _ hw) (cwV 2 X.1.2.2.2.2 gX3_prepare_X3_listPeople rfl rfl rfl (by decide +kernel) ⟨Nat.le_of_ble_eq_true rfl, Nat.le_of_ble_eq_true rfl⟩) dX3_prepare_3 rfl rfl (Nat.le_of_ble_eq_true rfl) ⟨Nat.le_of_ble_eq_true rfl, Nat.le_of_ble_eq_true rfl⟩ rfl rfl rfl (by decide) (fun _ => rfl) (fun _ => rfl) (fun _ => rfl) (fun _ => rfl) rfl rfl rfl (fun u1 hw => ?_)
  obtain ⟨x2, hx2⟩ : ∃ z : Mem, z = u1 := ⟨_, rfl⟩
  rw [← hx2] at hw
  rw [← hx2]
  refine g_aload_n X 0 dX3_prepare_6 rfl rfl ?_
  refine g_aload_n X 1 dX3_prepare_7 rfl rfl ?_
  refine g_cvV X [wR ct b x2, wS ct a v] (fun (u3 : Mem) => [wR ct b u3, wS ct a v]) (fun (u3 : Mem) => fl [wR ct b u3, wS ct a v]) 2 [0, 1] [] 0 (kX3_noteLinesTo l D ct b a x2 v _ hw) (cwV 1 X.1.2.2.2.2 gX3_prepare_X3_noteLinesTo rfl rfl rfl (by decide +kernel) ⟨Nat.le_of_ble_eq_true rfl, Nat.le_of_ble_eq_true rfl⟩) dX3_prepare_8 rfl rfl (Nat.le_of_ble_eq_true rfl) ⟨Nat.le_of_ble_eq_true rfl, Nat.le_of_ble_eq_true rfl⟩ rfl rfl rfl (by decide) (fun _ => rfl) (fun _ => rfl) (fun _ => rfl) (fun _ => rfl) rfl rfl rfl (fun u3 hw => ?_)
  obtain ⟨x4, hx4⟩ : ∃ z : Mem, z = u3 := ⟨_, rfl⟩
  rw [← hx4] at hw
  rw [← hx4]
  refine g_aload_n X 0 dX3_prepare_11 rfl rfl ?_
  refine g_aload_n X 1 dX3_prepare_12 rfl rfl ?_
  refine g_iload_n X 2 dX3_prepare_13 rfl rfl ?_
  refine g_iconst (v := 1) X rfl dX3_prepare_14 ?_
  refine g_iadd X dX3_prepare_15 ?_
  refine g_cvV X [wR ct b x4, wS ct a v] (fun (u5 : Mem) => [wR ct b u5, wS ct a v]) (fun (u5 : Mem) => fl [wR ct b u5, wS ct a v]) 2 [0, 1] [] 0 (kX3_listCouples l D ct b a x4 v (p2 + 1) _ hw) (cwV 2 X.1.2.2.2.2 gX3_prepare_X3_listCouples rfl rfl rfl (by decide +kernel) ⟨Nat.le_of_ble_eq_true rfl, Nat.le_of_ble_eq_true rfl⟩) dX3_prepare_16 rfl rfl (Nat.le_of_ble_eq_true rfl) ⟨Nat.le_of_ble_eq_true rfl, Nat.le_of_ble_eq_true rfl⟩ rfl rfl rfl (by decide) (fun _ => rfl) (fun _ => rfl) (fun _ => rfl) (fun _ => rfl) rfl rfl rfl (fun u5 hw => ?_)
  obtain ⟨x6, hx6⟩ : ∃ z : Mem, z = u5 := ⟨_, rfl⟩
  rw [← hx6] at hw
  rw [← hx6]
  refine g_aload_n X 0 dX3_prepare_19 rfl rfl ?_
  refine g_aload_n X 1 dX3_prepare_20 rfl rfl ?_
  refine g_iload_n X 2 dX3_prepare_21 rfl rfl ?_
  refine g_iconst (v := 1) X rfl dX3_prepare_22 ?_
  refine g_iadd X dX3_prepare_23 ?_
  refine g_ciV X [wR ct b x6, wS ct a v] (fun (_ : Unit) => [wR ct b x6, wS ct a v]) (fun _ => fl [wR ct b x6, wS ct a v]) 2 [1] [0] 0 (kX5_sizeOf l D ct a v (p2 + 1) _ hw) (cwV 1 X.1.2.2.2.2 gX3_prepare_X5_sizeOf rfl rfl rfl (by decide +kernel) ⟨Nat.le_of_ble_eq_true rfl, Nat.le_of_ble_eq_true rfl⟩) dX3_prepare_24 rfl rfl (Nat.le_of_ble_eq_true rfl) ⟨Nat.le_of_ble_eq_true rfl, Nat.le_of_ble_eq_true rfl⟩ rfl rfl rfl (by decide) (fun _ => rfl) (fun _ => rfl) (fun _ => rfl) (fun _ => rfl) rfl rfl rfl (fun r7 _ hw => ?_)
  refine g_cvV X [wR ct b x6, wS ct a v] (fun (u9 : Mem) => [wR ct b u9, wS ct a v]) (fun (u9 : Mem) => fl [wR ct b u9, wS ct a v]) 2 [0] [1] 0 (kX3_noteLinesFrom l D ct b x6 r7 _ hw) (cwV 1 X.1.2.2.2.2 gX3_prepare_X3_noteLinesFrom rfl rfl rfl (by decide +kernel) ⟨Nat.le_of_ble_eq_true rfl, Nat.le_of_ble_eq_true rfl⟩) dX3_prepare_27 rfl rfl (Nat.le_of_ble_eq_true rfl) ⟨Nat.le_of_ble_eq_true rfl, Nat.le_of_ble_eq_true rfl⟩ rfl rfl rfl (by decide) (fun _ => rfl) (fun _ => rfl) (fun _ => rfl) (fun _ => rfl) rfl rfl rfl (fun u9 hw => ?_)
  obtain ⟨x10, hx10⟩ : ∃ z : Mem, z = u9 := ⟨_, rfl⟩
  rw [← hx10] at hw
  rw [← hx10]
  exact g_vret X x10 hw rfl (Nat.le_of_ble_eq_true rfl) (Nat.le_of_ble_eq_true rfl) dX3_prepare_30

abbrev rmJ6_bitCount_0f7a4 : Room := { frames := 0, cells := 0, slots := 0, locals := 0 }

abbrev GJ6_bitCount_0f7a4 (l : Launch) (D : va_G) (ct : Nat → ClassId) (post : Int32 → Prop) (p : Program) (e : Env) (s : State) (m : MethodId) (args : Array Value) (below : List Frame) (meth : Method) (c : Code) (A : Nat → Prop) (w9 : va_W) (lv : List (Nat × Value)) (pc : Nat) (st : List Value) : Prop :=
  GG p l e rmJ6_bitCount_0f7a4 s m args below meth c D A s.heap 1 (MQ below (va_Qi (fun r (_ : Unit) => post r) (fun u9 t9 => Af D (tyz ct) A ((fun _ => ([] : va_W)) u9) t9) A)  args s 0 0 A) w9 0 0 lv pc st

set_option maxHeartbeats 4000000 in
set_option maxRecDepth 20000 in
theorem kJ6_bitCount_0f7a4 (l : Launch) (D : va_G) (ct : Nat → ClassId) (p1 : Int32) (post : Int32 → Prop) (hw : PJ6_bitCount_0f7a4 p1 post) : Ci (S := Unit) l yJ6_bitCount_0f7a4 wsJ6_bitCount_0f7a4 rmJ6_bitCount_0f7a4 D (tyz ct) [.int p1] (([] : va_W)) (fun r (_ : Unit) => post r) (fun _ => ([] : va_W)) 0 0 := by
  intro sz
  refine g_of (own := RJ6) (by decide) rfl rfl (Nat.le_of_ble_eq_true rfl) [(0, .int p1)] rfl (fun p e s m args below meth c hsz X => ?_)
  subst hsz
  unfold PJ6_bitCount_0f7a4 at hw
  refine g_iload_n X 0 dJ6_bitCount_0f7a4_0 rfl rfl ?_
  refine g_iload_n X 0 dJ6_bitCount_0f7a4_1 rfl rfl ?_
  refine g_iconst (v := 1) X rfl dJ6_bitCount_0f7a4_2 ?_
  refine g_iushr X dJ6_bitCount_0f7a4_3 ?_
  refine g_ldcw (v := 1431655765) X (List.mem_of_getElem? (i := 1) rfl) dJ6_bitCount_0f7a4_4 ?_
  refine g_iand X dJ6_bitCount_0f7a4_7 ?_
  refine g_isub X dJ6_bitCount_0f7a4_8 ?_
  refine g_topi (fun q1 hq1 => ?_)
  replace hw := hw q1 hq1
  refine g_istore_n X [(0, .int q1)] dJ6_bitCount_0f7a4_9 rfl (by decide) rfl ?_
  refine g_iload_n X 0 dJ6_bitCount_0f7a4_10 rfl rfl ?_
  refine g_ldcw (v := 858993459) X (List.mem_of_getElem? (i := 2) rfl) dJ6_bitCount_0f7a4_11 ?_
  refine g_iand X dJ6_bitCount_0f7a4_14 ?_
  refine g_iload_n X 0 dJ6_bitCount_0f7a4_15 rfl rfl ?_
  refine g_iconst (v := 2) X rfl dJ6_bitCount_0f7a4_16 ?_
  refine g_iushr X dJ6_bitCount_0f7a4_17 ?_
  refine g_ldcw (v := 858993459) X (List.mem_of_getElem? (i := 2) rfl) dJ6_bitCount_0f7a4_18 ?_
  refine g_iand X dJ6_bitCount_0f7a4_21 ?_
  refine g_iadd X dJ6_bitCount_0f7a4_22 ?_
  refine g_topi (fun q2 hq2 => ?_)
  replace hw := hw q2 hq2
  refine g_istore_n X [(0, .int q2)] dJ6_bitCount_0f7a4_23 rfl (by decide) rfl ?_
  refine g_iload_n X 0 dJ6_bitCount_0f7a4_24 rfl rfl ?_
  refine g_iload_n X 0 dJ6_bitCount_0f7a4_25 rfl rfl ?_
  refine g_iconst (v := 4) X rfl dJ6_bitCount_0f7a4_26 ?_
  refine g_iushr X dJ6_bitCount_0f7a4_27 ?_
  refine g_iadd X dJ6_bitCount_0f7a4_28 ?_
  refine g_ldcw (v := 252645135) X (List.mem_of_getElem? (i := 3) rfl) dJ6_bitCount_0f7a4_29 ?_
  refine g_iand X dJ6_bitCount_0f7a4_32 ?_
  refine g_topi (fun q3 hq3 => ?_)
  replace hw := hw q3 hq3
  refine g_istore_n X [(0, .int q3)] dJ6_bitCount_0f7a4_33 rfl (by decide) rfl ?_
  refine g_iload_n X 0 dJ6_bitCount_0f7a4_34 rfl rfl ?_
  refine g_iload_n X 0 dJ6_bitCount_0f7a4_35 rfl rfl ?_
  refine g_bipush (v := 8) X rfl dJ6_bitCount_0f7a4_36 ?_
  refine g_iushr X dJ6_bitCount_0f7a4_38 ?_
  refine g_iadd X dJ6_bitCount_0f7a4_39 ?_
  refine g_topi (fun q4 hq4 => ?_)
  replace hw := hw q4 hq4
  refine g_istore_n X [(0, .int q4)] dJ6_bitCount_0f7a4_40 rfl (by decide) rfl ?_
  refine g_iload_n X 0 dJ6_bitCount_0f7a4_41 rfl rfl ?_
  refine g_iload_n X 0 dJ6_bitCount_0f7a4_42 rfl rfl ?_
  refine g_bipush (v := 16) X rfl dJ6_bitCount_0f7a4_43 ?_
  refine g_iushr X dJ6_bitCount_0f7a4_45 ?_
  refine g_iadd X dJ6_bitCount_0f7a4_46 ?_
  refine g_topi (fun q5 hq5 => ?_)
  replace hw := hw q5 hq5
  refine g_istore_n X [(0, .int q5)] dJ6_bitCount_0f7a4_47 rfl (by decide) rfl ?_
  refine g_iload_n X 0 dJ6_bitCount_0f7a4_48 rfl rfl ?_
  refine g_bipush (v := 63) X rfl dJ6_bitCount_0f7a4_49 ?_
  refine g_iand X dJ6_bitCount_0f7a4_51 ?_
  exact g_iret X () hw rfl (Nat.le_of_ble_eq_true rfl) (Nat.le_of_ble_eq_true rfl) dJ6_bitCount_0f7a4_52

abbrev rmX3_crossingsFrom : Room := { frames := 0, cells := 0, slots := 0, locals := 0 }

abbrev GX3_crossingsFrom (l : Launch) (D : va_G) (ct : Nat → ClassId) (b : Nat → Nat) (post : Int32 → Mem → Prop) (p : Program) (e : Env) (s : State) (m : MethodId) (args : Array Value) (below : List Frame) (meth : Method) (c : Code) (A : Nat → Prop) (w9 : va_W) (lv : List (Nat × Value)) (pc : Nat) (st : List Value) : Prop :=
  GG p l e rmX3_crossingsFrom s m args below meth c D A s.heap 6 (MQ below (va_Qi (fun r (u9 : Mem) => post r u9) (fun u9 t9 => Af D (tyz ct) A ((fun u9 => wR ct b u9) u9) t9) A)  args s 0 0 A) w9 0 0 lv pc st

set_option maxHeartbeats 4000000 in
set_option maxRecDepth 20000 in
theorem kX3_crossingsFrom_76 (l : Launch) (D : va_G) (ct : Nat → ClassId) (b : Nat → Nat) (post : Int32 → Mem → Prop) (K4 : Mem → Int32 → Int32 → Int32 → Prop) {p : Program} {e : Env} {s : State} {m : MethodId} {args : Array Value} {below : List Frame} {meth : Method} {c : Code} {A : Nat → Prop} (X : Cx p s m args meth c cX3_crossingsFrom 6 RX3 wsX3_crossingsFrom D (tyz ct) A s.heap (some .int)) (hK4 : ∀ (x : Mem) (x1 : Int32) (x2 : Int32) (x3 : Int32), K4 x x1 x2 x3 → GX3_crossingsFrom l D ct b  post p e s m args below meth c A (wR ct b x) [(0, .ref (b 0)), (1, .int x1), (2, .int x2), (3, .int x3)] 4 []) :
    ∀ (n : Nat) (x : Mem) (x1 : Int32) (x2 : Int32) (x3 : Int32) (x5 : Int32), PX3_crossingsFrom_76 post K4 n x x1 x2 x3 x5 → GX3_crossingsFrom l D ct b  post p e s m args below meth c A (wR ct b x) [(0, .ref (b 0)), (1, .int x1), (2, .int x2), (3, .int x3), (5, .int x5)] 76 [] := by
  intro n
  induction n with
  | zero =>
    intro x x1 x2 x3 x5 hw
    exact hw.elim
  | succ n ih =>
    intro x x1 x2 x3 x5 hw
    unfold PX3_crossingsFrom_76 at hw
    refine g_iload X 4 dX3_crossingsFrom_76 rfl ?_
    refine g_iload_n X 3 dX3_crossingsFrom_78 rfl rfl ?_
    refine g_icmp_ge X 171 dX3_crossingsFrom_79 (by decide) (fun c8 => ?_) (fun c8 => ?_)
    · replace hw := hw.1 c8
      refine g_iinc X [(3, .int (x3 + 1)), (0, .ref (b 0)), (1, .int x1), (2, .int x2), (5, .int x5)] 3 dX3_crossingsFrom_171 rfl rfl (by decide) rfl ?_
      refine g_goto X 4 dX3_crossingsFrom_174 (by decide) ?_
      refine g_sub [(0, .ref (b 0)), (1, .int x1), (2, .int x2), (3, .int (x3 + 1))] [1, 2, 3, 0] rfl ?_
      exact hK4 _ _ _ _ hw
    · replace hw := hw.2 c8
      refine g_aload_n X 0 dX3_crossingsFrom_82 rfl rfl ?_
      refine g_get (T := TX3) (C := RX3) (N := 13) (v := .ref (b 8)) X 0 7 (fun _ h => (List.mem_cons_of_mem _ (List.mem_append_right _ h))) (List.mem_of_getElem? (i := 4) rfl) dX3_crossingsFrom_83 rfl rfl (by decide) rfl rfl ?_
      refine g_iload_n X 3 dX3_crossingsFrom_86 rfl rfl ?_
      obtain ⟨h9, hw⟩ := hw
      refine g_iald X 8 0 dX3_crossingsFrom_87 rfl rfl h9 ?_
      refine g_iconst (v := (-1)) X rfl dX3_crossingsFrom_88 ?_
      refine g_icmp_eq X 171 dX3_crossingsFrom_89 (by decide) (fun c10 => ?_) (fun c10 => ?_)
      · replace hw := hw.1 c10
        refine g_iinc X [(3, .int (x3 + 1)), (0, .ref (b 0)), (1, .int x1), (2, .int x2), (5, .int x5)] 3 dX3_crossingsFrom_171 rfl rfl (by decide) rfl ?_
        refine g_goto X 4 dX3_crossingsFrom_174 (by decide) ?_
        refine g_sub [(0, .ref (b 0)), (1, .int x1), (2, .int x2), (3, .int (x3 + 1))] [1, 2, 3, 0] rfl ?_
        exact hK4 _ _ _ _ hw
      · replace hw := hw.2 c10
        refine g_aload_n X 0 dX3_crossingsFrom_92 rfl rfl ?_
        refine g_get (T := TX3) (C := RX3) (N := 13) (v := .ref (b 8)) X 0 7 (fun _ h => (List.mem_cons_of_mem _ (List.mem_append_right _ h))) (List.mem_of_getElem? (i := 4) rfl) dX3_crossingsFrom_93 rfl rfl (by decide) rfl rfl ?_
        refine g_iload X 4 dX3_crossingsFrom_96 rfl ?_
        obtain ⟨h11, hw⟩ := hw
        refine g_iald X 8 0 dX3_crossingsFrom_98 rfl rfl h11 ?_
        refine g_iconst (v := (-1)) X rfl dX3_crossingsFrom_99 ?_
        refine g_icmp_ne X 106 dX3_crossingsFrom_100 (by decide) (fun c12 => ?_) (fun c12 => ?_)
        · replace hw := hw.1 c12
          refine g_aload_n X 0 dX3_crossingsFrom_106 rfl rfl ?_
          refine g_get (T := TX3) (C := RX3) (N := 13) (v := .ref (b 8)) X 0 7 (fun _ h => (List.mem_cons_of_mem _ (List.mem_append_right _ h))) (List.mem_of_getElem? (i := 4) rfl) dX3_crossingsFrom_107 rfl rfl (by decide) rfl rfl ?_
          refine g_iload X 4 dX3_crossingsFrom_110 rfl ?_
          obtain ⟨h13, hw⟩ := hw
          refine g_iald X 8 0 dX3_crossingsFrom_112 rfl rfl h13 ?_
          refine g_aload_n X 0 dX3_crossingsFrom_113 rfl rfl ?_
          refine g_get (T := TX3) (C := RX3) (N := 13) (v := .ref (b 8)) X 0 7 (fun _ h => (List.mem_cons_of_mem _ (List.mem_append_right _ h))) (List.mem_of_getElem? (i := 4) rfl) dX3_crossingsFrom_114 rfl rfl (by decide) rfl rfl ?_
          refine g_iload_n X 3 dX3_crossingsFrom_117 rfl rfl ?_
          obtain ⟨h14, hw⟩ := hw
          refine g_iald X 8 0 dX3_crossingsFrom_118 rfl rfl h14 ?_
          refine g_icmp_ge X 137 dX3_crossingsFrom_119 (by decide) (fun c15 => ?_) (fun c15 => ?_)
          · replace hw := hw.1 c15
            refine g_aload_n X 0 dX3_crossingsFrom_137 rfl rfl ?_
            refine g_get (T := TX3) (C := RX3) (N := 13) (v := .ref (b 8)) X 0 7 (fun _ h => (List.mem_cons_of_mem _ (List.mem_append_right _ h))) (List.mem_of_getElem? (i := 4) rfl) dX3_crossingsFrom_138 rfl rfl (by decide) rfl rfl ?_
            refine g_iload_n X 3 dX3_crossingsFrom_141 rfl rfl ?_
            obtain ⟨h16, hw⟩ := hw
            refine g_iald X 8 0 dX3_crossingsFrom_142 rfl rfl h16 ?_
            refine g_aload_n X 0 dX3_crossingsFrom_143 rfl rfl ?_
            refine g_get (T := TX3) (C := RX3) (N := 13) (v := .ref (b 8)) X 0 7 (fun _ h => (List.mem_cons_of_mem _ (List.mem_append_right _ h))) (List.mem_of_getElem? (i := 4) rfl) dX3_crossingsFrom_144 rfl rfl (by decide) rfl rfl ?_
            refine g_iload X 4 dX3_crossingsFrom_147 rfl ?_
            obtain ⟨h17, hw⟩ := hw
            refine g_iald X 8 0 dX3_crossingsFrom_149 rfl rfl h17 ?_
            refine g_icmp_ge X 165 dX3_crossingsFrom_150 (by decide) (fun c18 => ?_) (fun c18 => ?_)
            · replace hw := hw.1 c18
              refine g_iinc X [(5, .int (x5 + 1)), (0, .ref (b 0)), (1, .int x1), (2, .int x2), (3, .int x3)] 4 dX3_crossingsFrom_165 rfl rfl (by decide) rfl ?_
              refine g_goto X 76 dX3_crossingsFrom_168 (by decide) ?_
              refine g_sub [(0, .ref (b 0)), (1, .int x1), (2, .int x2), (3, .int x3), (5, .int (x5 + 1))] [1, 2, 3, 4, 0] rfl ?_
              exact ih _ _ _ _ _ hw
            · replace hw := hw.2 c18
              refine g_iload_n X 2 dX3_crossingsFrom_153 rfl rfl ?_
              refine g_aload_n X 0 dX3_crossingsFrom_154 rfl rfl ?_
              refine g_get (T := TX3) (C := RX3) (N := 13) (v := .ref (b 10)) X 0 9 (fun _ h => (List.mem_cons_of_mem _ (List.mem_append_right _ h))) (List.mem_of_getElem? (i := 6) rfl) dX3_crossingsFrom_155 rfl rfl (by decide) rfl rfl ?_
              refine g_iload_n X 3 dX3_crossingsFrom_158 rfl rfl ?_
              obtain ⟨h19, hw⟩ := hw
              refine g_aldg (b := b (20 + ix x3)) X 10 3 dX3_crossingsFrom_159 rfl rfl h19 (if_pos (vp_lt h19)) ?_
              refine g_iload X 4 dX3_crossingsFrom_160 rfl ?_
              obtain ⟨h20, hw⟩ := hw
              refine g_iald X (11 + ix x3) 0 dX3_crossingsFrom_162 (in_R (vp_lt h19)) rfl h20 ?_
              refine g_iadd X dX3_crossingsFrom_163 ?_
              refine g_topi (fun q21 hq21 => ?_)
              replace hw := hw q21 hq21
              refine g_istore_n X [(2, .int q21), (0, .ref (b 0)), (1, .int x1), (3, .int x3), (5, .int x5)] dX3_crossingsFrom_164 rfl (by decide) rfl ?_
              refine g_iinc X [(5, .int (x5 + 1)), (2, .int q21), (0, .ref (b 0)), (1, .int x1), (3, .int x3)] 4 dX3_crossingsFrom_165 rfl rfl (by decide) rfl ?_
              refine g_goto X 76 dX3_crossingsFrom_168 (by decide) ?_
              refine g_sub [(0, .ref (b 0)), (1, .int x1), (2, .int q21), (3, .int x3), (5, .int (x5 + 1))] [2, 3, 1, 4, 0] rfl ?_
              exact ih _ _ _ _ _ hw
          · replace hw := hw.2 c15
            refine g_iload_n X 2 dX3_crossingsFrom_122 rfl rfl ?_
            refine g_aload_n X 0 dX3_crossingsFrom_123 rfl rfl ?_
            refine g_get (T := TX3) (C := RX3) (N := 13) (v := .ref (b 10)) X 0 9 (fun _ h => (List.mem_cons_of_mem _ (List.mem_append_right _ h))) (List.mem_of_getElem? (i := 6) rfl) dX3_crossingsFrom_124 rfl rfl (by decide) rfl rfl ?_
            refine g_iload X 4 dX3_crossingsFrom_127 rfl ?_
            obtain ⟨h22, hw⟩ := hw
            refine g_aldg (b := b (20 + ix x5)) X 10 3 dX3_crossingsFrom_129 rfl rfl h22 (if_pos (vp_lt h22)) ?_
            refine g_iload_n X 3 dX3_crossingsFrom_130 rfl rfl ?_
            obtain ⟨h23, hw⟩ := hw
            refine g_iald X (11 + ix x5) 0 dX3_crossingsFrom_131 (in_R (vp_lt h22)) rfl h23 ?_
            refine g_iadd X dX3_crossingsFrom_132 ?_
            refine g_topi (fun q24 hq24 => ?_)
            replace hw := hw q24 hq24
            refine g_istore_n X [(2, .int q24), (0, .ref (b 0)), (1, .int x1), (3, .int x3), (5, .int x5)] dX3_crossingsFrom_133 rfl (by decide) rfl ?_
            refine g_goto X 165 dX3_crossingsFrom_134 (by decide) ?_
            refine g_iinc X [(5, .int (x5 + 1)), (2, .int q24), (0, .ref (b 0)), (1, .int x1), (3, .int x3)] 4 dX3_crossingsFrom_165 rfl rfl (by decide) rfl ?_
            refine g_goto X 76 dX3_crossingsFrom_168 (by decide) ?_
            refine g_sub [(0, .ref (b 0)), (1, .int x1), (2, .int q24), (3, .int x3), (5, .int (x5 + 1))] [2, 3, 1, 4, 0] rfl ?_
            exact ih _ _ _ _ _ hw
        · replace hw := hw.2 c12
          refine g_goto X 165 dX3_crossingsFrom_103 (by decide) ?_
          refine g_iinc X [(5, .int (x5 + 1)), (0, .ref (b 0)), (1, .int x1), (2, .int x2), (3, .int x3)] 4 dX3_crossingsFrom_165 rfl rfl (by decide) rfl ?_
          refine g_goto X 76 dX3_crossingsFrom_168 (by decide) ?_
          refine g_sub [(0, .ref (b 0)), (1, .int x1), (2, .int x2), (3, .int x3), (5, .int (x5 + 1))] [1, 2, 3, 4, 0] rfl ?_
          exact ih _ _ _ _ _ hw

set_option maxHeartbeats 4000000 in
set_option maxRecDepth 20000 in
theorem kX3_crossingsFrom_72 (l : Launch) (D : va_G) (ct : Nat → ClassId) (b : Nat → Nat) (post : Int32 → Mem → Prop) (K4 : Mem → Int32 → Int32 → Int32 → Prop) {p : Program} {e : Env} {s : State} {m : MethodId} {args : Array Value} {below : List Frame} {meth : Method} {c : Code} {A : Nat → Prop} (X : Cx p s m args meth c cX3_crossingsFrom 6 RX3 wsX3_crossingsFrom D (tyz ct) A s.heap (some .int)) (hK4 : ∀ (x : Mem) (x1 : Int32) (x2 : Int32) (x3 : Int32), K4 x x1 x2 x3 → GX3_crossingsFrom l D ct b  post p e s m args below meth c A (wR ct b x) [(0, .ref (b 0)), (1, .int x1), (2, .int x2), (3, .int x3)] 4 []) :
    ∀ (x : Mem) (x1 : Int32) (x2 : Int32) (x3 : Int32) (z0 : Int32) (z1 : Int32), PX3_crossingsFrom_72 post K4 x x1 x2 x3 z0 z1 → GX3_crossingsFrom l D ct b  post p e s m args below meth c A (wR ct b x) [(0, .ref (b 0)), (1, .int x1), (2, .int x2), (3, .int x3)] 72 [.int z0, .int z1, .ref (b 8)] := by
  intro x x1 x2 x3 z0 z1 hw
  unfold PX3_crossingsFrom_72 at hw
  obtain ⟨h6, hw⟩ := hw
  refine g_iast X (fun z => wR ct b z) x 7 8 0 dX3_crossingsFrom_72 rfl rfl h6 rfl (fun x7 hx7 => ?_)
  replace hw := hw x7 hx7
  refine g_iconst (v := 0) X rfl dX3_crossingsFrom_73 ?_
  refine g_istore X [(5, .int 0), (0, .ref (b 0)), (1, .int x1), (2, .int x2), (3, .int x3)] dX3_crossingsFrom_74 (by decide) rfl ?_
  refine g_sub [(0, .ref (b 0)), (1, .int x1), (2, .int x2), (3, .int x3), (5, .int 0)] [1, 2, 3, 4, 0] rfl ?_
  obtain ⟨n25, hw⟩ := hw
  exact kX3_crossingsFrom_76 l D ct b post _ X hK4 n25 _ _ _ _ _ hw

set_option maxHeartbeats 4000000 in
set_option maxRecDepth 20000 in
theorem kX3_crossingsFrom_4 (l : Launch) (D : va_G) (ct : Nat → ClassId) (b : Nat → Nat) (post : Int32 → Mem → Prop) {p : Program} {e : Env} {s : State} {m : MethodId} {args : Array Value} {below : List Frame} {meth : Method} {c : Code} {A : Nat → Prop} (X : Cx p s m args meth c cX3_crossingsFrom 6 RX3 wsX3_crossingsFrom D (tyz ct) A s.heap (some .int))  :
    ∀ (n : Nat) (x : Mem) (x1 : Int32) (x2 : Int32) (x3 : Int32), PX3_crossingsFrom_4 post n x x1 x2 x3 → GX3_crossingsFrom l D ct b  post p e s m args below meth c A (wR ct b x) [(0, .ref (b 0)), (1, .int x1), (2, .int x2), (3, .int x3)] 4 [] := by
  intro n
  induction n with
  | zero =>
    intro x x1 x2 x3 hw
    exact hw.elim
  | succ n ih =>
    intro x x1 x2 x3 hw
    unfold PX3_crossingsFrom_4 at hw
    refine g_iload_n X 3 dX3_crossingsFrom_4 rfl rfl ?_
    refine g_aload_n X 0 dX3_crossingsFrom_5 rfl rfl ?_
    refine g_get (T := TX3) (C := RX3) (N := 13) (v := .int (x 11 0)) X 0 11 (fun _ h => (List.mem_cons_of_mem _ (List.mem_append_right _ h))) (List.mem_of_getElem? (i := 1) rfl) dX3_crossingsFrom_6 rfl rfl (by decide) rfl rfl ?_
    refine g_icmp_ge X 177 dX3_crossingsFrom_9 (by decide) (fun c1 => ?_) (fun c1 => ?_)
    · replace hw := hw.1 c1
      refine g_iload_n X 2 dX3_crossingsFrom_177 rfl rfl ?_
      exact g_iret X x hw rfl (Nat.le_of_ble_eq_true rfl) (Nat.le_of_ble_eq_true rfl) dX3_crossingsFrom_178
    · replace hw := hw.2 c1
      refine g_iconst (v := 1) X rfl dX3_crossingsFrom_12 ?_
      refine g_aload_n X 0 dX3_crossingsFrom_13 rfl rfl ?_
      refine g_get (T := TX3) (C := RX3) (N := 13) (v := .ref (b 6)) X 0 5 (fun _ h => (List.mem_cons_of_mem _ (List.mem_append_right _ h))) (List.mem_of_getElem? (i := 2) rfl) dX3_crossingsFrom_14 rfl rfl (by decide) rfl rfl ?_
      refine g_iload_n X 3 dX3_crossingsFrom_17 rfl rfl ?_
      obtain ⟨h2, hw⟩ := hw
      refine g_iald X 6 0 dX3_crossingsFrom_18 rfl rfl h2 ?_
      refine g_ishl X dX3_crossingsFrom_19 ?_
      refine g_iconst (v := 1) X rfl dX3_crossingsFrom_20 ?_
      refine g_aload_n X 0 dX3_crossingsFrom_21 rfl rfl ?_
      refine g_get (T := TX3) (C := RX3) (N := 13) (v := .ref (b 7)) X 0 6 (fun _ h => (List.mem_cons_of_mem _ (List.mem_append_right _ h))) (List.mem_of_getElem? (i := 3) rfl) dX3_crossingsFrom_22 rfl rfl (by decide) rfl rfl ?_
      refine g_iload_n X 3 dX3_crossingsFrom_25 rfl rfl ?_
      obtain ⟨h3, hw⟩ := hw
      refine g_iald X 7 0 dX3_crossingsFrom_26 rfl rfl h3 ?_
      refine g_ishl X dX3_crossingsFrom_27 ?_
      refine g_ior X dX3_crossingsFrom_28 ?_
      refine g_topi (fun q4 hq4 => ?_)
      replace hw := hw q4 hq4
      refine g_istore X [(4, .int q4), (0, .ref (b 0)), (1, .int x1), (2, .int x2), (3, .int x3)] dX3_crossingsFrom_29 (by decide) rfl ?_
      refine g_aload_n X 1 dX3_crossingsFrom_31 rfl rfl ?_
      refine g_get (T := TX3) (C := RX3) (N := 13) (v := .ref (b 8)) X 0 7 (fun _ h => (List.mem_cons_of_mem _ (List.mem_append_right _ h))) (List.mem_of_getElem? (i := 4) rfl) dX3_crossingsFrom_32 rfl rfl (by decide) rfl rfl ?_
      refine g_iload_n X 4 dX3_crossingsFrom_35 rfl rfl ?_
      refine g_iload_n X 2 dX3_crossingsFrom_36 rfl rfl ?_
      refine g_iload X 0 dX3_crossingsFrom_37 rfl ?_
      refine g_iand X dX3_crossingsFrom_39 ?_
      refine g_iload X 0 dX3_crossingsFrom_40 rfl ?_
      refine g_icmp_ne X 71 dX3_crossingsFrom_42 (by decide) (fun c5 => ?_) (fun c5 => ?_)
      · replace hw := hw.1 c5
        refine g_iconst (v := (-1)) X rfl dX3_crossingsFrom_71 ?_
        refine g_sub [(0, .ref (b 0)), (1, .int x1), (2, .int x2), (3, .int x3)] [1, 2, 3, 4] rfl ?_
        exact kX3_crossingsFrom_72 l D ct b post _ X ih _ _ _ _ _ _ hw
      · replace hw := hw.2 c5
        refine g_aload_n X 1 dX3_crossingsFrom_45 rfl rfl ?_
        refine g_get (T := TX3) (C := RX3) (N := 13) (v := .ref (b 3)) X 0 2 (fun _ h => (List.mem_cons_of_mem _ (List.mem_append_right _ h))) (List.mem_of_getElem? (i := 5) rfl) dX3_crossingsFrom_46 rfl rfl (by decide) rfl rfl ?_
        refine g_aload_n X 1 dX3_crossingsFrom_49 rfl rfl ?_
        refine g_get (T := TX3) (C := RX3) (N := 13) (v := .ref (b 6)) X 0 5 (fun _ h => (List.mem_cons_of_mem _ (List.mem_append_right _ h))) (List.mem_of_getElem? (i := 2) rfl) dX3_crossingsFrom_50 rfl rfl (by decide) rfl rfl ?_
        refine g_iload_n X 4 dX3_crossingsFrom_53 rfl rfl ?_
        obtain ⟨h26, hw⟩ := hw
        refine g_iald X 6 0 dX3_crossingsFrom_54 rfl rfl h26 ?_
        obtain ⟨h27, hw⟩ := hw
        refine g_iald X 3 0 dX3_crossingsFrom_55 rfl rfl h27 ?_
        refine g_aload_n X 1 dX3_crossingsFrom_56 rfl rfl ?_
        refine g_get (T := TX3) (C := RX3) (N := 13) (v := .ref (b 3)) X 0 2 (fun _ h => (List.mem_cons_of_mem _ (List.mem_append_right _ h))) (List.mem_of_getElem? (i := 5) rfl) dX3_crossingsFrom_57 rfl rfl (by decide) rfl rfl ?_
        refine g_aload_n X 1 dX3_crossingsFrom_60 rfl rfl ?_
        refine g_get (T := TX3) (C := RX3) (N := 13) (v := .ref (b 7)) X 0 6 (fun _ h => (List.mem_cons_of_mem _ (List.mem_append_right _ h))) (List.mem_of_getElem? (i := 3) rfl) dX3_crossingsFrom_61 rfl rfl (by decide) rfl rfl ?_
        refine g_iload_n X 4 dX3_crossingsFrom_64 rfl rfl ?_
        obtain ⟨h28, hw⟩ := hw
        refine g_iald X 7 0 dX3_crossingsFrom_65 rfl rfl h28 ?_
        obtain ⟨h29, hw⟩ := hw
        refine g_iald X 3 0 dX3_crossingsFrom_66 rfl rfl h29 ?_
        refine g_iadd X dX3_crossingsFrom_67 ?_
        refine g_goto X 72 dX3_crossingsFrom_68 (by decide) ?_
        refine g_sub [(0, .ref (b 0)), (1, .int x1), (2, .int x2), (3, .int x3)] [1, 2, 3, 4] rfl ?_
        exact kX3_crossingsFrom_72 l D ct b post _ X ih _ _ _ _ _ _ hw

set_option maxHeartbeats 4000000 in
set_option maxRecDepth 20000 in
theorem kX3_crossingsFrom (l : Launch) (D : va_G) (ct : Nat → ClassId) (b : Nat → Nat) (x : Mem) (p1 : Int32) (post : Int32 → Mem → Prop) (hw : PX3_crossingsFrom x p1 post) : Ci (S := Mem) l yX3_crossingsFrom wsX3_crossingsFrom rmX3_crossingsFrom D (tyz ct) [.ref (b 0), .int p1] (wR ct b x) (fun r (u9 : Mem) => post r u9) (fun u9 => wR ct b u9) 0 0 := by
  intro sz
  refine g_of (own := RX3) (by decide) rfl rfl (Nat.le_of_ble_eq_true rfl) [(0, .ref (b 0)), (1, .int p1)] rfl (fun p e s m args below meth c hsz X => ?_)
  subst hsz
  unfold PX3_crossingsFrom at hw
  refine g_iconst (v := 0) X rfl dX3_crossingsFrom_0 ?_
  refine g_istore_n X [(2, .int 0), (0, .ref (b 0)), (1, .int p1)] dX3_crossingsFrom_1 rfl (by decide) rfl ?_
  refine g_iconst (v := 0) X rfl dX3_crossingsFrom_2 ?_
  refine g_istore_n X [(3, .int 0), (2, .int 0), (0, .ref (b 0)), (1, .int p1)] dX3_crossingsFrom_3 rfl (by decide) rfl ?_
  refine g_sub [(0, .ref (b 0)), (1, .int p1), (2, .int 0), (3, .int 0)] [2, 3, 1, 0] rfl ?_
  obtain ⟨n30, hw⟩ := hw
  exact kX3_crossingsFrom_4 l D ct b post X n30 _ _ _ _ hw

abbrev rmX3_crossingsOfFirst : Room := { frames := 1, cells := 0, slots := 0, locals := 25 }

abbrev GX3_crossingsOfFirst (l : Launch) (D : va_G) (ct : Nat → ClassId) (b : Nat → Nat) (post : Int32 → Mem → Prop) (p : Program) (e : Env) (s : State) (m : MethodId) (args : Array Value) (below : List Frame) (meth : Method) (c : Code) (A : Nat → Prop) (w9 : va_W) (lv : List (Nat × Value)) (pc : Nat) (st : List Value) : Prop :=
  GG p l e rmX3_crossingsOfFirst s m args below meth c D A s.heap 6 (MQ below (va_Qi (fun r (u9 : Mem) => post r u9) (fun u9 t9 => Af D (tyz ct) A ((fun u9 => wR ct b u9) u9) t9) A)  args s 0 0 A) w9 0 0 lv pc st

set_option maxHeartbeats 4000000 in
set_option maxRecDepth 20000 in
theorem kX3_crossingsOfFirst_7 (l : Launch) (D : va_G) (ct : Nat → ClassId) (b : Nat → Nat) (post : Int32 → Mem → Prop) {p : Program} {e : Env} {s : State} {m : MethodId} {args : Array Value} {below : List Frame} {meth : Method} {c : Code} {A : Nat → Prop} (X : Cx p s m args meth c cX3_crossingsOfFirst 6 RX3 wsX3_crossingsOfFirst D (tyz ct) A s.heap (some .int))  :
    ∀ (n : Nat) (x : Mem) (x1 : Int32) (x2 : Int32) (x3 : Int32) (x4 : Int32), PX3_crossingsOfFirst_7 post n x x1 x2 x3 x4 → GX3_crossingsOfFirst l D ct b  post p e s m args below meth c A (wR ct b x) [(0, .ref (b 0)), (1, .int x1), (2, .int x2), (3, .int x3), (4, .int x4)] 7 [] := by
  intro n
  induction n with
  | zero =>
    intro x x1 x2 x3 x4 hw
    exact hw.elim
  | succ n ih =>
    intro x x1 x2 x3 x4 hw
    unfold PX3_crossingsOfFirst_7 at hw
    refine g_iload X 4 dX3_crossingsOfFirst_7 rfl ?_
    refine g_iload_n X 1 dX3_crossingsOfFirst_9 rfl rfl ?_
    refine g_icmp_ge X 59 dX3_crossingsOfFirst_10 (by decide) (fun c1 => ?_) (fun c1 => ?_)
    · replace hw := hw.1 c1
      refine g_iload_n X 2 dX3_crossingsOfFirst_59 rfl rfl ?_
      refine g_aload_n X 0 dX3_crossingsOfFirst_60 rfl rfl ?_
      refine g_iload_n X 3 dX3_crossingsOfFirst_61 rfl rfl ?_
      refine g_ciV X [wR ct b x] (fun (u3 : Mem) => [wR ct b u3]) (fun (u3 : Mem) => wR ct b u3) 1 [0] [] 0 (kX3_crossingsFrom l D ct b x x3 _ hw) (cwV 1 X.1.2.2.2.2 gX3_crossingsOfFirst_X3_crossingsFrom rfl rfl rfl (by decide +kernel) ⟨Nat.le_of_ble_eq_true rfl, Nat.le_of_ble_eq_true rfl⟩) dX3_crossingsOfFirst_62 rfl rfl (Nat.le_of_ble_eq_true rfl) ⟨Nat.le_of_ble_eq_true rfl, Nat.le_of_ble_eq_true rfl⟩ rfl rfl rfl (by decide) (fun _ => rfl) (fun _ => rfl) (fun _ => rfl) (fun _ => rfl) rfl rfl rfl (fun r2 u3 hw => ?_)
      obtain ⟨x4, hx4⟩ : ∃ z : Mem, z = u3 := ⟨_, rfl⟩
      rw [← hx4] at hw
      rw [← hx4]
      refine g_iadd X dX3_crossingsOfFirst_65 ?_
      exact g_iret X x4 hw rfl (Nat.le_of_ble_eq_true rfl) (Nat.le_of_ble_eq_true rfl) dX3_crossingsOfFirst_66
    · replace hw := hw.2 c1
      refine g_aload_n X 0 dX3_crossingsOfFirst_13 rfl rfl ?_
      refine g_get (T := TX3) (C := RX3) (N := 13) (v := .ref (b 1)) X 0 0 (fun _ h => (List.mem_cons_of_mem _ (List.mem_append_right _ h))) (List.mem_of_getElem? (i := 1) rfl) dX3_crossingsOfFirst_14 rfl rfl (by decide) rfl rfl ?_
      refine g_iload X 4 dX3_crossingsOfFirst_17 rfl ?_
      obtain ⟨h5, hw⟩ := hw
      refine g_iald X 1 0 dX3_crossingsOfFirst_19 rfl rfl h5 ?_
      refine g_topi (fun q6 hq6 => ?_)
      replace hw := hw q6 hq6
      refine g_istore X [(5, .int q6), (0, .ref (b 0)), (1, .int x1), (2, .int x2), (3, .int x3), (4, .int x4)] dX3_crossingsOfFirst_20 (by decide) rfl ?_
      refine g_iload_n X 3 dX3_crossingsOfFirst_22 rfl rfl ?_
      refine g_iload_n X 4 dX3_crossingsOfFirst_23 rfl rfl ?_
      refine g_aload_n X 1 dX3_crossingsOfFirst_24 rfl rfl ?_
      refine g_get (T := TX3) (C := RX3) (N := 13) (v := .ref (b 4)) X 0 3 (fun _ h => (List.mem_cons_of_mem _ (List.mem_append_right _ h))) (List.mem_of_getElem? (i := 2) rfl) dX3_crossingsOfFirst_25 rfl rfl (by decide) rfl rfl ?_
      refine g_iload X 0 dX3_crossingsOfFirst_28 rfl ?_
      obtain ⟨h7, hw⟩ := hw
      refine g_iald X 4 0 dX3_crossingsOfFirst_30 rfl rfl h7 ?_
      refine g_iand X dX3_crossingsOfFirst_31 ?_
      refine g_ciS X [wR ct b x] (fun (_ : Unit) => [wR ct b x]) (fun _ => wR ct b x) 1 [] [0] (kJ6_bitCount_0f7a4 l D ct  (x3 &&& (x 3 (ix q6))) _ hw) (va_cwS 1 X.1.2.2.2.2 gX3_crossingsOfFirst_J6_bitCount_0f7a4 rfl rfl rfl (by decide +kernel) ⟨Nat.le_of_ble_eq_true rfl, Nat.le_of_ble_eq_true rfl⟩) dX3_crossingsOfFirst_32 rfl rfl (Nat.le_of_ble_eq_true rfl) ⟨Nat.le_of_ble_eq_true rfl, Nat.le_of_ble_eq_true rfl⟩ rfl rfl rfl (by decide) (fun _ => rfl) (fun _ => rfl) (fun _ => rfl) (fun _ => rfl) (fun r8 _ hw => ?_)
      refine g_iadd X dX3_crossingsOfFirst_35 ?_
      refine g_topi (fun q10 hq10 => ?_)
      replace hw := hw q10 hq10
      refine g_istore_n X [(2, .int q10), (5, .int q6), (0, .ref (b 0)), (1, .int x1), (3, .int x3), (4, .int x4)] dX3_crossingsOfFirst_36 rfl (by decide) rfl ?_
      refine g_iload_n X 4 dX3_crossingsOfFirst_37 rfl rfl ?_
      refine g_iconst (v := 1) X rfl dX3_crossingsOfFirst_38 ?_
      refine g_iload X 1 dX3_crossingsOfFirst_39 rfl ?_
      refine g_ishl X dX3_crossingsOfFirst_41 ?_
      refine g_ior X dX3_crossingsOfFirst_42 ?_
      refine g_topi (fun q11 hq11 => ?_)
      replace hw := hw q11 hq11
      refine g_istore_n X [(3, .int q11), (2, .int q10), (5, .int q6), (0, .ref (b 0)), (1, .int x1), (4, .int x4)] dX3_crossingsOfFirst_43 rfl (by decide) rfl ?_
      refine g_aload_n X 3 dX3_crossingsOfFirst_44 rfl rfl ?_
      refine g_get (T := TX3) (C := RX3) (N := 13) (v := .ref (b 3)) X 0 2 (fun _ h => (List.mem_cons_of_mem _ (List.mem_append_right _ h))) (List.mem_of_getElem? (i := 3) rfl) dX3_crossingsOfFirst_45 rfl rfl (by decide) rfl rfl ?_
      refine g_iload X 2 dX3_crossingsOfFirst_48 rfl ?_
      refine g_iload X 5 dX3_crossingsOfFirst_50 rfl ?_
      obtain ⟨h12, hw⟩ := hw
      refine g_iast X (fun z => wR ct b z) x 2 3 0 dX3_crossingsOfFirst_52 rfl rfl h12 rfl (fun x13 hx13 => ?_)
      replace hw := hw x13 hx13
      refine g_iinc X [(4, .int (x4 + 1)), (3, .int q11), (2, .int q10), (5, .int q6), (0, .ref (b 0)), (1, .int x1)] 5 dX3_crossingsOfFirst_53 rfl rfl (by decide) rfl ?_
      refine g_goto X 7 dX3_crossingsOfFirst_56 (by decide) ?_
      refine g_sub [(0, .ref (b 0)), (1, .int x1), (2, .int q10), (3, .int q11), (4, .int (x4 + 1))] [4, 5, 2, 1, 0] rfl ?_
      exact ih _ _ _ _ _ hw

set_option maxHeartbeats 4000000 in
set_option maxRecDepth 20000 in
theorem kX3_crossingsOfFirst (l : Launch) (D : va_G) (ct : Nat → ClassId) (b : Nat → Nat) (x : Mem) (p1 : Int32) (post : Int32 → Mem → Prop) (hw : PX3_crossingsOfFirst x p1 post) : Ci (S := Mem) l yX3_crossingsOfFirst wsX3_crossingsOfFirst rmX3_crossingsOfFirst D (tyz ct) [.ref (b 0), .int p1] (wR ct b x) (fun r (u9 : Mem) => post r u9) (fun u9 => wR ct b u9) 0 0 := by
  intro sz
  refine g_of (own := RX3) (by decide) rfl rfl (Nat.le_of_ble_eq_true rfl) [(0, .ref (b 0)), (1, .int p1)] rfl (fun p e s m args below meth c hsz X => ?_)
  subst hsz
  unfold PX3_crossingsOfFirst at hw
  refine g_iconst (v := 0) X rfl dX3_crossingsOfFirst_0 ?_
  refine g_istore_n X [(2, .int 0), (0, .ref (b 0)), (1, .int p1)] dX3_crossingsOfFirst_1 rfl (by decide) rfl ?_
  refine g_iconst (v := 0) X rfl dX3_crossingsOfFirst_2 ?_
  refine g_istore_n X [(3, .int 0), (2, .int 0), (0, .ref (b 0)), (1, .int p1)] dX3_crossingsOfFirst_3 rfl (by decide) rfl ?_
  refine g_iconst (v := 0) X rfl dX3_crossingsOfFirst_4 ?_
  refine g_istore X [(4, .int 0), (3, .int 0), (2, .int 0), (0, .ref (b 0)), (1, .int p1)] dX3_crossingsOfFirst_5 (by decide) rfl ?_
  refine g_sub [(0, .ref (b 0)), (1, .int p1), (2, .int 0), (3, .int 0), (4, .int 0)] [3, 4, 2, 1, 0] rfl ?_
  obtain ⟨n14, hw⟩ := hw
  exact kX3_crossingsOfFirst_7 l D ct b post X n14 _ _ _ _ _ hw

abbrev rmX3_exchange : Room := { frames := 0, cells := 0, slots := 0, locals := 0 }

abbrev GX3_exchange (l : Launch) (D : va_G) (ct : Nat → ClassId) (b : Nat → Nat) (post : Mem → Prop) (p : Program) (e : Env) (s : State) (m : MethodId) (args : Array Value) (below : List Frame) (meth : Method) (c : Code) (A : Nat → Prop) (w9 : va_W) (lv : List (Nat × Value)) (pc : Nat) (st : List Value) : Prop :=
  GG p l e rmX3_exchange s m args below meth c D A s.heap 4 (MQ below (va_Qv (fun (u9 : Mem) => post u9) (fun u9 t9 => Af D (tyz ct) A ((fun u9 => wR ct b u9) u9) t9) A)  args s 0 0 A) w9 0 0 lv pc st

set_option maxHeartbeats 4000000 in
set_option maxRecDepth 20000 in
theorem kX3_exchange (l : Launch) (D : va_G) (ct : Nat → ClassId) (b : Nat → Nat) (x : Mem) (p1 : Int32) (p2 : Int32) (post : Mem → Prop) (hw : PX3_exchange x p1 p2 post) : Cv (S := Mem) l yX3_exchange wsX3_exchange rmX3_exchange D (tyz ct) [.ref (b 0), .int p1, .int p2] (wR ct b x) (fun (u9 : Mem) => post u9) (fun u9 => wR ct b u9) 0 0 := by
  intro sz
  refine g_of (own := RX3) (by decide) rfl rfl (Nat.le_of_ble_eq_true rfl) [(0, .ref (b 0)), (1, .int p1), (2, .int p2)] rfl (fun p e s m args below meth c hsz X => ?_)
  subst hsz
  unfold PX3_exchange at hw
  refine g_aload_n X 0 dX3_exchange_0 rfl rfl ?_
  refine g_get (T := TX3) (C := RX3) (N := 13) (v := .ref (b 1)) X 0 0 (fun _ h => (List.mem_cons_of_mem _ (List.mem_append_right _ h))) (List.mem_of_getElem? (i := 1) rfl) dX3_exchange_1 rfl rfl (by decide) rfl rfl ?_
  refine g_iload_n X 1 dX3_exchange_4 rfl rfl ?_
  obtain ⟨h1, hw⟩ := hw
  refine g_iald X 1 0 dX3_exchange_5 rfl rfl h1 ?_
  refine g_topi (fun q2 hq2 => ?_)
  replace hw := hw q2 hq2
  refine g_istore_n X [(3, .int q2), (0, .ref (b 0)), (1, .int p1), (2, .int p2)] dX3_exchange_6 rfl (by decide) rfl ?_
  refine g_aload_n X 1 dX3_exchange_7 rfl rfl ?_
  refine g_get (T := TX3) (C := RX3) (N := 13) (v := .ref (b 1)) X 0 0 (fun _ h => (List.mem_cons_of_mem _ (List.mem_append_right _ h))) (List.mem_of_getElem? (i := 1) rfl) dX3_exchange_8 rfl rfl (by decide) rfl rfl ?_
  refine g_iload_n X 2 dX3_exchange_11 rfl rfl ?_
  refine g_aload_n X 1 dX3_exchange_12 rfl rfl ?_
  refine g_get (T := TX3) (C := RX3) (N := 13) (v := .ref (b 1)) X 0 0 (fun _ h => (List.mem_cons_of_mem _ (List.mem_append_right _ h))) (List.mem_of_getElem? (i := 1) rfl) dX3_exchange_13 rfl rfl (by decide) rfl rfl ?_
  refine g_iload_n X 3 dX3_exchange_16 rfl rfl ?_
  obtain ⟨h3, hw⟩ := hw
  refine g_iald X 1 0 dX3_exchange_17 rfl rfl h3 ?_
  obtain ⟨h4, hw⟩ := hw
  refine g_iast X (fun z => wR ct b z) x 0 1 0 dX3_exchange_18 rfl rfl h4 rfl (fun x5 hx5 => ?_)
  replace hw := hw x5 hx5
  refine g_aload_n X 1 dX3_exchange_19 rfl rfl ?_
  refine g_get (T := TX3) (C := RX3) (N := 13) (v := .ref (b 1)) X 0 0 (fun _ h => (List.mem_cons_of_mem _ (List.mem_append_right _ h))) (List.mem_of_getElem? (i := 1) rfl) dX3_exchange_20 rfl rfl (by decide) rfl rfl ?_
  refine g_iload_n X 3 dX3_exchange_23 rfl rfl ?_
  refine g_iload_n X 0 dX3_exchange_24 rfl rfl ?_
  obtain ⟨h6, hw⟩ := hw
  refine g_iast X (fun z => wR ct b z) x5 0 1 0 dX3_exchange_25 rfl rfl h6 rfl (fun x7 hx7 => ?_)
  replace hw := hw x7 hx7
  exact g_vret X x7 hw rfl (Nat.le_of_ble_eq_true rfl) (Nat.le_of_ble_eq_true rfl) dX3_exchange_26

abbrev rmX3_goToNextOrder : Room := { frames := 1, cells := 0, slots := 0, locals := 23 }

abbrev GX3_goToNextOrder (l : Launch) (D : va_G) (ct : Nat → ClassId) (b : Nat → Nat) (post : Int32 → Mem → Prop) (p : Program) (e : Env) (s : State) (m : MethodId) (args : Array Value) (below : List Frame) (meth : Method) (c : Code) (A : Nat → Prop) (w9 : va_W) (lv : List (Nat × Value)) (pc : Nat) (st : List Value) : Prop :=
  GG p l e rmX3_goToNextOrder s m args below meth c D A s.heap 5 (MQ below (va_Qi (fun r (u9 : Mem) => post r u9) (fun u9 t9 => Af D (tyz ct) A ((fun u9 => wR ct b u9) u9) t9) A)  args s 0 0 A) w9 0 0 lv pc st

set_option maxHeartbeats 4000000 in
set_option maxRecDepth 20000 in
theorem kX3_goToNextOrder_93 (l : Launch) (D : va_G) (ct : Nat → ClassId) (b : Nat → Nat) (post : Int32 → Mem → Prop) {p : Program} {e : Env} {s : State} {m : MethodId} {args : Array Value} {below : List Frame} {meth : Method} {c : Code} {A : Nat → Prop} (X : Cx p s m args meth c cX3_goToNextOrder 5 RX3 wsX3_goToNextOrder D (tyz ct) A s.heap (some .boolean))  :
    ∀ (n : Nat) (x : Mem) (x3 : Int32) (x4 : Int32), PX3_goToNextOrder_93 post n x x3 x4 → GX3_goToNextOrder l D ct b  post p e s m args below meth c A (wR ct b x) [(0, .ref (b 0)), (3, .int x3), (4, .int x4)] 93 [] := by
  intro n
  induction n with
  | zero =>
    intro x x3 x4 hw
    exact hw.elim
  | succ n ih =>
    intro x x3 x4 hw
    unfold PX3_goToNextOrder_93 at hw
    refine g_iload_n X 1 dX3_goToNextOrder_93 rfl rfl ?_
    refine g_iload X 2 dX3_goToNextOrder_94 rfl ?_
    refine g_icmp_ge X 115 dX3_goToNextOrder_96 (by decide) (fun c10 => ?_) (fun c10 => ?_)
    · replace hw := hw.1 c10
      refine g_iconst (v := 1) X rfl dX3_goToNextOrder_115 ?_
      exact g_zret X x isB_1 hw rfl (Nat.le_of_ble_eq_true rfl) (Nat.le_of_ble_eq_true rfl) dX3_goToNextOrder_116
    · replace hw := hw.2 c10
      refine g_aload_n X 0 dX3_goToNextOrder_99 rfl rfl ?_
      refine g_iload_n X 1 dX3_goToNextOrder_100 rfl rfl ?_
      refine g_iload X 2 dX3_goToNextOrder_101 rfl ?_
      refine g_cvV X [wR ct b x] (fun (u11 : Mem) => [wR ct b u11]) (fun (u11 : Mem) => wR ct b u11) 1 [0] [] 0 (kX3_exchange l D ct b x x3 x4 _ hw) (cwV 2 X.1.2.2.2.2 gX3_goToNextOrder_X3_exchange rfl rfl rfl (by decide +kernel) ⟨Nat.le_of_ble_eq_true rfl, Nat.le_of_ble_eq_true rfl⟩) dX3_goToNextOrder_103 rfl rfl (Nat.le_of_ble_eq_true rfl) ⟨Nat.le_of_ble_eq_true rfl, Nat.le_of_ble_eq_true rfl⟩ rfl rfl rfl (by decide) (fun _ => rfl) (fun _ => rfl) (fun _ => rfl) (fun _ => rfl) rfl rfl rfl (fun u11 hw => ?_)
      obtain ⟨x12, hx12⟩ : ∃ z : Mem, z = u11 := ⟨_, rfl⟩
      rw [← hx12] at hw
      rw [← hx12]
      refine g_iinc X [(3, .int (x3 + 1)), (0, .ref (b 0)), (4, .int x4)] 1 dX3_goToNextOrder_106 rfl rfl (by decide) rfl ?_
      refine g_iinc X [(4, .int (x4 + (-1))), (3, .int (x3 + 1)), (0, .ref (b 0))] 2 dX3_goToNextOrder_109 rfl rfl (by decide) rfl ?_
      refine g_goto X 93 dX3_goToNextOrder_112 (by decide) ?_
      refine g_sub [(0, .ref (b 0)), (3, .int (x3 + 1)), (4, .int (x4 + (-1)))] [2, 1, 0] rfl ?_
      exact ih _ _ _ hw

set_option maxHeartbeats 4000000 in
set_option maxRecDepth 20000 in
theorem kX3_goToNextOrder_75 (l : Launch) (D : va_G) (ct : Nat → ClassId) (b : Nat → Nat) (post : Int32 → Mem → Prop) {p : Program} {e : Env} {s : State} {m : MethodId} {args : Array Value} {below : List Frame} {meth : Method} {c : Code} {A : Nat → Prop} (X : Cx p s m args meth c cX3_goToNextOrder 5 RX3 wsX3_goToNextOrder D (tyz ct) A s.heap (some .boolean))  :
    ∀ (x : Mem) (x1 : Int32) (x2 : Int32), PX3_goToNextOrder_75 post x x1 x2 → GX3_goToNextOrder l D ct b  post p e s m args below meth c A (wR ct b x) [(0, .ref (b 0)), (1, .int x1), (2, .int x2)] 75 [] := by
  intro x x1 x2 hw
  unfold PX3_goToNextOrder_75 at hw
  refine g_aload_n X 0 dX3_goToNextOrder_75 rfl rfl ?_
  refine g_iload_n X 1 dX3_goToNextOrder_76 rfl rfl ?_
  refine g_iload_n X 2 dX3_goToNextOrder_77 rfl rfl ?_
  refine g_cvV X [wR ct b x] (fun (u6 : Mem) => [wR ct b u6]) (fun (u6 : Mem) => wR ct b u6) 1 [0] [] 0 (kX3_exchange l D ct b x x1 x2 _ hw) (cwV 2 X.1.2.2.2.2 gX3_goToNextOrder_X3_exchange rfl rfl rfl (by decide +kernel) ⟨Nat.le_of_ble_eq_true rfl, Nat.le_of_ble_eq_true rfl⟩) dX3_goToNextOrder_78 rfl rfl (Nat.le_of_ble_eq_true rfl) ⟨Nat.le_of_ble_eq_true rfl, Nat.le_of_ble_eq_true rfl⟩ rfl rfl rfl (by decide) (fun _ => rfl) (fun _ => rfl) (fun _ => rfl) (fun _ => rfl) rfl rfl rfl (fun u6 hw => ?_)
  obtain ⟨x7, hx7⟩ : ∃ z : Mem, z = u6 := ⟨_, rfl⟩
  rw [← hx7] at hw
  rw [← hx7]
  refine g_iload_n X 1 dX3_goToNextOrder_81 rfl rfl ?_
  refine g_iconst (v := 1) X rfl dX3_goToNextOrder_82 ?_
  refine g_iadd X dX3_goToNextOrder_83 ?_
  refine g_topi (fun q8 hq8 => ?_)
  replace hw := hw q8 hq8
  refine g_istore_n X [(3, .int q8), (0, .ref (b 0)), (1, .int x1), (2, .int x2)] dX3_goToNextOrder_84 rfl (by decide) rfl ?_
  refine g_aload_n X 1 dX3_goToNextOrder_85 rfl rfl ?_
  refine g_get (T := TX3) (C := RX3) (N := 13) (v := .int (x7 10 0)) X 0 10 (fun _ h => (List.mem_cons_of_mem _ (List.mem_append_right _ h))) (List.mem_of_getElem? (i := 1) rfl) dX3_goToNextOrder_86 rfl rfl (by decide) rfl rfl ?_
  refine g_iconst (v := 1) X rfl dX3_goToNextOrder_89 ?_
  refine g_isub X dX3_goToNextOrder_90 ?_
  refine g_topi (fun q9 hq9 => ?_)
  replace hw := hw q9 hq9
  refine g_istore X [(4, .int q9), (3, .int q8), (0, .ref (b 0)), (1, .int x1), (2, .int x2)] dX3_goToNextOrder_91 (by decide) rfl ?_
  refine g_sub [(0, .ref (b 0)), (3, .int q8), (4, .int q9)] [2, 1, 0] rfl ?_
  obtain ⟨n13, hw⟩ := hw
  exact kX3_goToNextOrder_93 l D ct b post X n13 _ _ _ hw

set_option maxHeartbeats 4000000 in
set_option maxRecDepth 20000 in
theorem kX3_goToNextOrder_47 (l : Launch) (D : va_G) (ct : Nat → ClassId) (b : Nat → Nat) (post : Int32 → Mem → Prop) {p : Program} {e : Env} {s : State} {m : MethodId} {args : Array Value} {below : List Frame} {meth : Method} {c : Code} {A : Nat → Prop} (X : Cx p s m args meth c cX3_goToNextOrder 5 RX3 wsX3_goToNextOrder D (tyz ct) A s.heap (some .boolean))  :
    ∀ (n : Nat) (x : Mem) (x1 : Int32) (x2 : Int32), PX3_goToNextOrder_47 post n x x1 x2 → GX3_goToNextOrder l D ct b  post p e s m args below meth c A (wR ct b x) [(0, .ref (b 0)), (1, .int x1), (2, .int x2)] 47 [] := by
  intro n
  induction n with
  | zero =>
    intro x x1 x2 hw
    exact hw.elim
  | succ n ih =>
    intro x x1 x2 hw
    unfold PX3_goToNextOrder_47 at hw
    refine g_iload_n X 2 dX3_goToNextOrder_47 rfl rfl ?_
    refine g_iload_n X 1 dX3_goToNextOrder_48 rfl rfl ?_
    refine g_iconst (v := 1) X rfl dX3_goToNextOrder_49 ?_
    refine g_iadd X dX3_goToNextOrder_50 ?_
    refine g_icmp_le X 75 dX3_goToNextOrder_51 (by decide) (fun c5 => ?_) (fun c5 => ?_)
    · replace hw := hw.1 c5
      refine g_sub [(0, .ref (b 0)), (1, .int x1), (2, .int x2)] [0, 1, 2] rfl ?_
      exact kX3_goToNextOrder_75 l D ct b post X _ _ _ hw
    · replace hw := hw.2 c5
      refine g_aload_n X 0 dX3_goToNextOrder_54 rfl rfl ?_
      refine g_get (T := TX3) (C := RX3) (N := 13) (v := .ref (b 1)) X 0 0 (fun _ h => (List.mem_cons_of_mem _ (List.mem_append_right _ h))) (List.mem_of_getElem? (i := 2) rfl) dX3_goToNextOrder_55 rfl rfl (by decide) rfl rfl ?_
      refine g_iload_n X 2 dX3_goToNextOrder_58 rfl rfl ?_
      obtain ⟨h14, hw⟩ := hw
      refine g_iald X 1 0 dX3_goToNextOrder_59 rfl rfl h14 ?_
      refine g_aload_n X 0 dX3_goToNextOrder_60 rfl rfl ?_
      refine g_get (T := TX3) (C := RX3) (N := 13) (v := .ref (b 1)) X 0 0 (fun _ h => (List.mem_cons_of_mem _ (List.mem_append_right _ h))) (List.mem_of_getElem? (i := 2) rfl) dX3_goToNextOrder_61 rfl rfl (by decide) rfl rfl ?_
      refine g_iload_n X 1 dX3_goToNextOrder_64 rfl rfl ?_
      obtain ⟨h15, hw⟩ := hw
      refine g_iald X 1 0 dX3_goToNextOrder_65 rfl rfl h15 ?_
      refine g_icmp_ge X 75 dX3_goToNextOrder_66 (by decide) (fun c16 => ?_) (fun c16 => ?_)
      · replace hw := hw.1 c16
        refine g_sub [(0, .ref (b 0)), (1, .int x1), (2, .int x2)] [0, 1, 2] rfl ?_
        exact kX3_goToNextOrder_75 l D ct b post X _ _ _ hw
      · replace hw := hw.2 c16
        refine g_iinc X [(2, .int (x2 + (-1))), (0, .ref (b 0)), (1, .int x1)] 2 dX3_goToNextOrder_69 rfl rfl (by decide) rfl ?_
        refine g_goto X 47 dX3_goToNextOrder_72 (by decide) ?_
        refine g_sub [(0, .ref (b 0)), (1, .int x1), (2, .int (x2 + (-1)))] [1, 2, 0] rfl ?_
        exact ih _ _ _ hw

set_option maxHeartbeats 4000000 in
set_option maxRecDepth 20000 in
theorem kX3_goToNextOrder_34 (l : Launch) (D : va_G) (ct : Nat → ClassId) (b : Nat → Nat) (post : Int32 → Mem → Prop) {p : Program} {e : Env} {s : State} {m : MethodId} {args : Array Value} {below : List Frame} {meth : Method} {c : Code} {A : Nat → Prop} (X : Cx p s m args meth c cX3_goToNextOrder 5 RX3 wsX3_goToNextOrder D (tyz ct) A s.heap (some .boolean))  :
    ∀ (x : Mem) (x1 : Int32), PX3_goToNextOrder_34 post x x1 → GX3_goToNextOrder l D ct b  post p e s m args below meth c A (wR ct b x) [(0, .ref (b 0)), (1, .int x1)] 34 [] := by
  intro x x1 hw
  unfold PX3_goToNextOrder_34 at hw
  refine g_iload_n X 1 dX3_goToNextOrder_34 rfl rfl ?_
  refine g_if_ge X 40 dX3_goToNextOrder_35 (by decide) (fun c3 => ?_) (fun c3 => ?_)
  · replace hw := hw.1 c3
    refine g_aload_n X 0 dX3_goToNextOrder_40 rfl rfl ?_
    refine g_get (T := TX3) (C := RX3) (N := 13) (v := .int (x 10 0)) X 0 10 (fun _ h => (List.mem_cons_of_mem _ (List.mem_append_right _ h))) (List.mem_of_getElem? (i := 1) rfl) dX3_goToNextOrder_41 rfl rfl (by decide) rfl rfl ?_
    refine g_iconst (v := 1) X rfl dX3_goToNextOrder_44 ?_
    refine g_isub X dX3_goToNextOrder_45 ?_
    refine g_topi (fun q4 hq4 => ?_)
    replace hw := hw q4 hq4
    refine g_istore_n X [(2, .int q4), (0, .ref (b 0)), (1, .int x1)] dX3_goToNextOrder_46 rfl (by decide) rfl ?_
    refine g_sub [(0, .ref (b 0)), (1, .int x1), (2, .int q4)] [1, 2, 0] rfl ?_
    obtain ⟨n17, hw⟩ := hw
    exact kX3_goToNextOrder_47 l D ct b post X n17 _ _ _ hw
  · replace hw := hw.2 c3
    refine g_iconst (v := 0) X rfl dX3_goToNextOrder_38 ?_
    exact g_zret X x isB_0 hw rfl (Nat.le_of_ble_eq_true rfl) (Nat.le_of_ble_eq_true rfl) dX3_goToNextOrder_39

set_option maxHeartbeats 4000000 in
set_option maxRecDepth 20000 in
theorem kX3_goToNextOrder_7 (l : Launch) (D : va_G) (ct : Nat → ClassId) (b : Nat → Nat) (post : Int32 → Mem → Prop) {p : Program} {e : Env} {s : State} {m : MethodId} {args : Array Value} {below : List Frame} {meth : Method} {c : Code} {A : Nat → Prop} (X : Cx p s m args meth c cX3_goToNextOrder 5 RX3 wsX3_goToNextOrder D (tyz ct) A s.heap (some .boolean))  :
    ∀ (n : Nat) (x : Mem) (x1 : Int32), PX3_goToNextOrder_7 post n x x1 → GX3_goToNextOrder l D ct b  post p e s m args below meth c A (wR ct b x) [(0, .ref (b 0)), (1, .int x1)] 7 [] := by
  intro n
  induction n with
  | zero =>
    intro x x1 hw
    exact hw.elim
  | succ n ih =>
    intro x x1 hw
    unfold PX3_goToNextOrder_7 at hw
    refine g_iload_n X 1 dX3_goToNextOrder_7 rfl rfl ?_
    refine g_if_lt X 34 dX3_goToNextOrder_8 (by decide) (fun c2 => ?_) (fun c2 => ?_)
    · replace hw := hw.1 c2
      refine g_sub [(0, .ref (b 0)), (1, .int x1)] [0, 1] rfl ?_
      exact kX3_goToNextOrder_34 l D ct b post X _ _ hw
    · replace hw := hw.2 c2
      refine g_aload_n X 0 dX3_goToNextOrder_11 rfl rfl ?_
      refine g_get (T := TX3) (C := RX3) (N := 13) (v := .ref (b 1)) X 0 0 (fun _ h => (List.mem_cons_of_mem _ (List.mem_append_right _ h))) (List.mem_of_getElem? (i := 2) rfl) dX3_goToNextOrder_12 rfl rfl (by decide) rfl rfl ?_
      refine g_iload_n X 1 dX3_goToNextOrder_15 rfl rfl ?_
      obtain ⟨h18, hw⟩ := hw
      refine g_iald X 1 0 dX3_goToNextOrder_16 rfl rfl h18 ?_
      refine g_aload_n X 0 dX3_goToNextOrder_17 rfl rfl ?_
      refine g_get (T := TX3) (C := RX3) (N := 13) (v := .ref (b 1)) X 0 0 (fun _ h => (List.mem_cons_of_mem _ (List.mem_append_right _ h))) (List.mem_of_getElem? (i := 2) rfl) dX3_goToNextOrder_18 rfl rfl (by decide) rfl rfl ?_
      refine g_iload_n X 1 dX3_goToNextOrder_21 rfl rfl ?_
      refine g_iconst (v := 1) X rfl dX3_goToNextOrder_22 ?_
      refine g_iadd X dX3_goToNextOrder_23 ?_
      obtain ⟨h19, hw⟩ := hw
      refine g_iald X 1 0 dX3_goToNextOrder_24 rfl rfl h19 ?_
      refine g_icmp_le X 34 dX3_goToNextOrder_25 (by decide) (fun c20 => ?_) (fun c20 => ?_)
      · replace hw := hw.1 c20
        refine g_sub [(0, .ref (b 0)), (1, .int x1)] [0, 1] rfl ?_
        exact kX3_goToNextOrder_34 l D ct b post X _ _ hw
      · replace hw := hw.2 c20
        refine g_iinc X [(1, .int (x1 + (-1))), (0, .ref (b 0))] 1 dX3_goToNextOrder_28 rfl rfl (by decide) rfl ?_
        refine g_goto X 7 dX3_goToNextOrder_31 (by decide) ?_
        refine g_sub [(0, .ref (b 0)), (1, .int (x1 + (-1)))] [1, 0] rfl ?_
        exact ih _ _ hw

set_option maxHeartbeats 4000000 in
set_option maxRecDepth 20000 in
theorem kX3_goToNextOrder (l : Launch) (D : va_G) (ct : Nat → ClassId) (b : Nat → Nat) (x : Mem) (post : Int32 → Mem → Prop) (hw : PX3_goToNextOrder x post) : Ci (S := Mem) l yX3_goToNextOrder wsX3_goToNextOrder rmX3_goToNextOrder D (tyz ct) [.ref (b 0)] (wR ct b x) (fun r (u9 : Mem) => post r u9) (fun u9 => wR ct b u9) 0 0 := by
  intro sz
  refine g_of (own := RX3) (by decide) rfl rfl (Nat.le_of_ble_eq_true rfl) [(0, .ref (b 0))] rfl (fun p e s m args below meth c hsz X => ?_)
  subst hsz
  unfold PX3_goToNextOrder at hw
  refine g_aload_n X 0 dX3_goToNextOrder_0 rfl rfl ?_
  refine g_get (T := TX3) (C := RX3) (N := 13) (v := .int (x 10 0)) X 0 10 (fun _ h => (List.mem_cons_of_mem _ (List.mem_append_right _ h))) (List.mem_of_getElem? (i := 1) rfl) dX3_goToNextOrder_1 rfl rfl (by decide) rfl rfl ?_
  refine g_iconst (v := 2) X rfl dX3_goToNextOrder_4 ?_
  refine g_isub X dX3_goToNextOrder_5 ?_
  refine g_topi (fun q1 hq1 => ?_)
  replace hw := hw q1 hq1
  refine g_istore_n X [(1, .int q1), (0, .ref (b 0))] dX3_goToNextOrder_6 rfl (by decide) rfl ?_
  refine g_sub [(0, .ref (b 0)), (1, .int q1)] [1, 0] rfl ?_
  obtain ⟨n21, hw⟩ := hw
  exact kX3_goToNextOrder_7 l D ct b post X n21 _ _ hw

abbrev rmX3_leastByAllOrders : Room := { frames := 2, cells := 0, slots := 0, locals := 60 }

abbrev GX3_leastByAllOrders (l : Launch) (D : va_G) (ct : Nat → ClassId) (b : Nat → Nat) (post : Int32 → Mem → Prop) (p : Program) (e : Env) (s : State) (m : MethodId) (args : Array Value) (below : List Frame) (meth : Method) (c : Code) (A : Nat → Prop) (w9 : va_W) (lv : List (Nat × Value)) (pc : Nat) (st : List Value) : Prop :=
  GG p l e rmX3_leastByAllOrders s m args below meth c D A s.heap 4 (MQ below (va_Qi (fun r (u9 : Mem) => post r u9) (fun u9 t9 => Af D (tyz ct) A ((fun u9 => wR ct b u9) u9) t9) A)  args s 0 0 A) w9 0 0 lv pc st

set_option maxHeartbeats 4000000 in
set_option maxRecDepth 20000 in
theorem kX3_leastByAllOrders_59 (l : Launch) (D : va_G) (ct : Nat → ClassId) (b : Nat → Nat) (post : Int32 → Mem → Prop) (K11 : Mem → Int32 → Int32 → Prop) {p : Program} {e : Env} {s : State} {m : MethodId} {args : Array Value} {below : List Frame} {meth : Method} {c : Code} {A : Nat → Prop} (X : Cx p s m args meth c cX3_leastByAllOrders 4 RX3 wsX3_leastByAllOrders D (tyz ct) A s.heap (some .int)) (hK11 : ∀ (x : Mem) (x1 : Int32) (x2 : Int32), K11 x x1 x2 → GX3_leastByAllOrders l D ct b  post p e s m args below meth c A (wR ct b x) [(0, .ref (b 0)), (1, .int x1), (2, .int x2)] 11 []) :
    ∀ (x : Mem) (x2 : Int32), PX3_leastByAllOrders_59 post K11 x x2 → GX3_leastByAllOrders l D ct b  post p e s m args below meth c A (wR ct b x) [(0, .ref (b 0)), (2, .int x2)] 59 [] := by
  intro x x2 hw
  unfold PX3_leastByAllOrders_59 at hw
  refine g_aload_n X 0 dX3_leastByAllOrders_59 rfl rfl ?_
  refine g_ciV X [wR ct b x] (fun (u9 : Mem) => [wR ct b u9]) (fun (u9 : Mem) => wR ct b u9) 1 [0] [] 0 (kX3_goToNextOrder l D ct b x _ hw) (cwV 0 X.1.2.2.2.2 gX3_leastByAllOrders_X3_goToNextOrder rfl rfl rfl (by decide +kernel) ⟨Nat.le_of_ble_eq_true rfl, Nat.le_of_ble_eq_true rfl⟩) dX3_leastByAllOrders_60 rfl rfl (Nat.le_of_ble_eq_true rfl) ⟨Nat.le_of_ble_eq_true rfl, Nat.le_of_ble_eq_true rfl⟩ rfl rfl rfl (by decide) (fun _ => rfl) (fun _ => rfl) (fun _ => rfl) (fun _ => rfl) rfl rfl rfl (fun r8 u9 hw => ?_)
  obtain ⟨x10, hx10⟩ : ∃ z : Mem, z = u9 := ⟨_, rfl⟩
  rw [← hx10] at hw
  rw [← hx10]
  refine g_istore_n X [(1, .int r8), (0, .ref (b 0)), (2, .int x2)] dX3_leastByAllOrders_63 rfl (by decide) rfl ?_
  refine g_iinc X [(2, .int (x2 + 1)), (1, .int r8), (0, .ref (b 0))] 2 dX3_leastByAllOrders_64 rfl rfl (by decide) rfl ?_
  refine g_goto X 11 dX3_leastByAllOrders_67 (by decide) ?_
  refine g_sub [(0, .ref (b 0)), (1, .int r8), (2, .int (x2 + 1))] [2, 1, 0] rfl ?_
  exact hK11 _ _ _ hw

set_option maxHeartbeats 4000000 in
set_option maxRecDepth 20000 in
theorem kX3_leastByAllOrders_11 (l : Launch) (D : va_G) (ct : Nat → ClassId) (b : Nat → Nat) (post : Int32 → Mem → Prop) {p : Program} {e : Env} {s : State} {m : MethodId} {args : Array Value} {below : List Frame} {meth : Method} {c : Code} {A : Nat → Prop} (X : Cx p s m args meth c cX3_leastByAllOrders 4 RX3 wsX3_leastByAllOrders D (tyz ct) A s.heap (some .int))  :
    ∀ (n : Nat) (x : Mem) (x1 : Int32) (x2 : Int32), PX3_leastByAllOrders_11 post n x x1 x2 → GX3_leastByAllOrders l D ct b  post p e s m args below meth c A (wR ct b x) [(0, .ref (b 0)), (1, .int x1), (2, .int x2)] 11 [] := by
  intro n
  induction n with
  | zero =>
    intro x x1 x2 hw
    exact hw.elim
  | succ n ih =>
    intro x x1 x2 hw
    unfold PX3_leastByAllOrders_11 at hw
    refine g_iload_n X 2 dX3_leastByAllOrders_11 rfl rfl ?_
    refine g_sipush (v := 720) X rfl dX3_leastByAllOrders_12 ?_
    refine g_icmp_ge X 70 dX3_leastByAllOrders_15 (by decide) (fun c2 => ?_) (fun c2 => ?_)
    · replace hw := hw.1 c2
      refine g_aload_n X 0 dX3_leastByAllOrders_70 rfl rfl ?_
      refine g_get (T := TX3) (C := RX3) (N := 13) (v := .int (x 12 0)) X 0 12 (fun _ h => (List.mem_cons_of_mem _ (List.mem_append_right _ h))) (List.mem_of_getElem? (i := 1) rfl) dX3_leastByAllOrders_71 rfl rfl (by decide) rfl rfl ?_
      exact g_iret X x hw rfl (Nat.le_of_ble_eq_true rfl) (Nat.le_of_ble_eq_true rfl) dX3_leastByAllOrders_74
    · replace hw := hw.2 c2
      refine g_iload_n X 1 dX3_leastByAllOrders_18 rfl rfl ?_
      refine g_if_eq X 70 dX3_leastByAllOrders_19 (by decide) (fun c3 => ?_) (fun c3 => ?_)
      · replace hw := hw.1 c3
        refine g_aload_n X 0 dX3_leastByAllOrders_70 rfl rfl ?_
        refine g_get (T := TX3) (C := RX3) (N := 13) (v := .int (x 12 0)) X 0 12 (fun _ h => (List.mem_cons_of_mem _ (List.mem_append_right _ h))) (List.mem_of_getElem? (i := 1) rfl) dX3_leastByAllOrders_71 rfl rfl (by decide) rfl rfl ?_
        exact g_iret X x hw rfl (Nat.le_of_ble_eq_true rfl) (Nat.le_of_ble_eq_true rfl) dX3_leastByAllOrders_74
      · replace hw := hw.2 c3
        refine g_aload_n X 0 dX3_leastByAllOrders_22 rfl rfl ?_
        refine g_aload_n X 0 dX3_leastByAllOrders_23 rfl rfl ?_
        refine g_get (T := TX3) (C := RX3) (N := 13) (v := .int (x 10 0)) X 0 10 (fun _ h => (List.mem_cons_of_mem _ (List.mem_append_right _ h))) (List.mem_of_getElem? (i := 2) rfl) dX3_leastByAllOrders_24 rfl rfl (by decide) rfl rfl ?_
        refine g_ciV X [wR ct b x] (fun (u5 : Mem) => [wR ct b u5]) (fun (u5 : Mem) => wR ct b u5) 1 [0] [] 0 (kX3_crossingsOfFirst l D ct b x (x 10 0) _ hw) (cwV 1 X.1.2.2.2.2 gX3_leastByAllOrders_X3_crossingsOfFirst rfl rfl rfl (by decide +kernel) ⟨Nat.le_of_ble_eq_true rfl, Nat.le_of_ble_eq_true rfl⟩) dX3_leastByAllOrders_27 rfl rfl (Nat.le_of_ble_eq_true rfl) ⟨Nat.le_of_ble_eq_true rfl, Nat.le_of_ble_eq_true rfl⟩ rfl rfl rfl (by decide) (fun _ => rfl) (fun _ => rfl) (fun _ => rfl) (fun _ => rfl) rfl rfl rfl (fun r4 u5 hw => ?_)
        obtain ⟨x6, hx6⟩ : ∃ z : Mem, z = u5 := ⟨_, rfl⟩
        rw [← hx6] at hw
        rw [← hx6]
        refine g_istore_n X [(3, .int r4), (0, .ref (b 0)), (1, .int x1), (2, .int x2)] dX3_leastByAllOrders_30 rfl (by decide) rfl ?_
        refine g_iload_n X 0 dX3_leastByAllOrders_31 rfl rfl ?_
        refine g_aload_n X 1 dX3_leastByAllOrders_32 rfl rfl ?_
        refine g_get (T := TX3) (C := RX3) (N := 13) (v := .int (x6 12 0)) X 0 12 (fun _ h => (List.mem_cons_of_mem _ (List.mem_append_right _ h))) (List.mem_of_getElem? (i := 1) rfl) dX3_leastByAllOrders_33 rfl rfl (by decide) rfl rfl ?_
        refine g_icmp_ge X 59 dX3_leastByAllOrders_36 (by decide) (fun c7 => ?_) (fun c7 => ?_)
        · replace hw := hw.1 c7
          refine g_sub [(0, .ref (b 0)), (2, .int x2)] [1, 3] rfl ?_
          exact kX3_leastByAllOrders_59 l D ct b post _ X ih _ _ hw
        · replace hw := hw.2 c7
          refine g_aload_n X 1 dX3_leastByAllOrders_39 rfl rfl ?_
          refine g_iload_n X 0 dX3_leastByAllOrders_40 rfl rfl ?_
          refine g_put (T := TX3) (C := RX3) (N := 13) X (fun z => wR ct b z) x6 0 12 tyX3 tyX3_ok nmX3 (fun _ h => (List.mem_cons_of_mem _ (List.mem_append_right _ h))) (List.mem_of_getElem? (i := 1) rfl) dX3_leastByAllOrders_41 rfl rfl (by decide) rfl rfl (by decide +kernel) (Nat.le_of_ble_eq_true rfl) rfl (fun x11 hx11 => ?_)
          replace hw := hw x11 hx11
          refine g_aload_n X 1 dX3_leastByAllOrders_44 rfl rfl ?_
          refine g_get (T := TX3) (C := RX3) (N := 13) (v := .ref (b 1)) X 0 0 (fun _ h => (List.mem_cons_of_mem _ (List.mem_append_right _ h))) (List.mem_of_getElem? (i := 3) rfl) dX3_leastByAllOrders_45 rfl rfl (by decide) rfl rfl ?_
          refine g_iconst (v := 0) X rfl dX3_leastByAllOrders_48 ?_
          refine g_aload_n X 1 dX3_leastByAllOrders_49 rfl rfl ?_
          refine g_get (T := TX3) (C := RX3) (N := 13) (v := .ref (b 2)) X 0 1 (fun _ h => (List.mem_cons_of_mem _ (List.mem_append_right _ h))) (List.mem_of_getElem? (i := 4) rfl) dX3_leastByAllOrders_50 rfl rfl (by decide) rfl rfl ?_
          refine g_iconst (v := 0) X rfl dX3_leastByAllOrders_53 ?_
          refine g_bipush (v := 6) X rfl dX3_leastByAllOrders_54 ?_
          refine g_copy X (fun z => wR ct b z) x11 1 (sp0 := 0) (dp0 := 0) (n0v := 6) 1 2 0 0 (List.mem_of_getElem? (i := 5) rfl) (List.mem_of_getElem? (i := 6) rfl) (List.mem_of_getElem? (i := 7) rfl) (List.mem_of_getElem? (i := 8) rfl) dX3_leastByAllOrders_56 rfl rfl rfl rfl (by decide) (by decide) (by decide) rfl rfl rfl (by decide) (by decide) (Nat.le_of_ble_eq_true rfl) (Nat.le_of_ble_eq_true rfl) rfl (fun x12 hx12 => ?_)
          replace hw := hw x12 hx12
          refine g_sub [(0, .ref (b 0)), (2, .int x2)] [1, 3] rfl ?_
          exact kX3_leastByAllOrders_59 l D ct b post _ X ih _ _ hw

set_option maxHeartbeats 4000000 in
set_option maxRecDepth 20000 in
theorem kX3_leastByAllOrders (l : Launch) (D : va_G) (ct : Nat → ClassId) (b : Nat → Nat) (x : Mem) (post : Int32 → Mem → Prop) (hw : PX3_leastByAllOrders x post) : Ci (S := Mem) l yX3_leastByAllOrders wsX3_leastByAllOrders rmX3_leastByAllOrders D (tyz ct) [.ref (b 0)] (wR ct b x) (fun r (u9 : Mem) => post r u9) (fun u9 => wR ct b u9) 0 0 := by
  intro sz
  refine g_of (own := RX3) (by decide) rfl rfl (Nat.le_of_ble_eq_true rfl) [(0, .ref (b 0))] rfl (fun p e s m args below meth c hsz X => ?_)
  subst hsz
  unfold PX3_leastByAllOrders at hw
  refine g_aload_n X 0 dX3_leastByAllOrders_0 rfl rfl ?_
  refine g_sipush (v := 1000) X rfl dX3_leastByAllOrders_1 ?_
  refine g_put (T := TX3) (C := RX3) (N := 13) X (fun z => wR ct b z) x 0 12 tyX3 tyX3_ok nmX3 (fun _ h => (List.mem_cons_of_mem _ (List.mem_append_right _ h))) (List.mem_of_getElem? (i := 1) rfl) dX3_leastByAllOrders_4 rfl rfl (by decide) rfl rfl (by decide +kernel) (Nat.le_of_ble_eq_true rfl) rfl (fun x1 hx1 => ?_)
  replace hw := hw x1 hx1
  refine g_iconst (v := 1) X rfl dX3_leastByAllOrders_7 ?_
  refine g_istore_n X [(1, .int 1), (0, .ref (b 0))] dX3_leastByAllOrders_8 rfl (by decide) rfl ?_
  refine g_iconst (v := 0) X rfl dX3_leastByAllOrders_9 ?_
  refine g_istore_n X [(2, .int 0), (1, .int 1), (0, .ref (b 0))] dX3_leastByAllOrders_10 rfl (by decide) rfl ?_
  refine g_sub [(0, .ref (b 0)), (1, .int 1), (2, .int 0)] [2, 1, 0] rfl ?_
  obtain ⟨n13, hw⟩ := hw
  exact kX3_leastByAllOrders_11 l D ct b post X n13 _ _ _ hw

abbrev rmX3_layBest : Room := { frames := 2, cells := 0, slots := 0, locals := 44 }

abbrev GX3_layBest (l : Launch) (D : va_G) (ct : Nat → ClassId) (b : Nat → Nat) (a : Nat → Nat) (x : Mem) (post : Mem → Prop) (p : Program) (e : Env) (s : State) (m : MethodId) (args : Array Value) (below : List Frame) (meth : Method) (c : Code) (A : Nat → Prop) (w9 : va_W) (lv : List (Nat × Value)) (pc : Nat) (st : List Value) : Prop :=
  GG p l e rmX3_layBest s m args below meth c D A s.heap 4 (MQ below (va_Qv (fun (u9 : Mem) => post u9) (fun u9 t9 => Af D (tyz ct) A ((fun u9 => fl [wR ct b x, wS ct a u9]) u9) t9) A)  args s 0 0 A) w9 0 0 lv pc st

set_option maxHeartbeats 4000000 in
set_option maxRecDepth 20000 in
theorem kX3_layBest_2 (l : Launch) (D : va_G) (ct : Nat → ClassId) (b : Nat → Nat) (a : Nat → Nat) (x : Mem) (post : Mem → Prop) {p : Program} {e : Env} {s : State} {m : MethodId} {args : Array Value} {below : List Frame} {meth : Method} {c : Code} {A : Nat → Prop} (X : Cx p s m args meth c cX3_layBest 4 RX3 wsX3_layBest D (tyz ct) A s.heap none)  :
    ∀ (n : Nat) (v : Mem) (x2 : Int32) (x3 : Int32), PX3_layBest_2 x post n v x2 x3 → GX3_layBest l D ct b a x post p e s m args below meth c A (fl [wR ct b x, wS ct a v]) [(0, .ref (b 0)), (1, .ref (a 0)), (2, .int x2), (3, .int x3)] 2 [] := by
  intro n
  induction n with
  | zero =>
    intro v x2 x3 hw
    exact hw.elim
  | succ n ih =>
    intro v x2 x3 hw
    unfold PX3_layBest_2 at hw
    refine g_iload_n X 3 dX3_layBest_2 rfl rfl ?_
    refine g_aload_n X 0 dX3_layBest_3 rfl rfl ?_
    refine g_get (T := TX3) (C := RX3) (N := 13) (v := .int (x 10 0)) X 0 10 (fun _ h => (List.mem_cons_of_mem _ (List.mem_append_left _ (List.mem_append_right _ h)))) (List.mem_of_getElem? (i := 1) rfl) dX3_layBest_4 rfl rfl (by decide) rfl rfl ?_
    refine g_icmp_ge X 28 dX3_layBest_7 (by decide) (fun c1 => ?_) (fun c1 => ?_)
    · replace hw := hw.1 c1
      exact g_vret X v hw rfl (Nat.le_of_ble_eq_true rfl) (Nat.le_of_ble_eq_true rfl) dX3_layBest_28
    · replace hw := hw.2 c1
      refine g_aload_n X 1 dX3_layBest_10 rfl rfl ?_
      refine g_iload_n X 2 dX3_layBest_11 rfl rfl ?_
      refine g_iload_n X 3 dX3_layBest_12 rfl rfl ?_
      refine g_aload_n X 0 dX3_layBest_13 rfl rfl ?_
      refine g_get (T := TX3) (C := RX3) (N := 13) (v := .ref (b 2)) X 0 1 (fun _ h => (List.mem_cons_of_mem _ (List.mem_append_left _ (List.mem_append_right _ h)))) (List.mem_of_getElem? (i := 2) rfl) dX3_layBest_14 rfl rfl (by decide) rfl rfl ?_
      refine g_iload_n X 3 dX3_layBest_17 rfl rfl ?_
      obtain ⟨h2, hw⟩ := hw
      refine g_iald X 2 0 dX3_layBest_18 rfl rfl h2 ?_
      refine g_cvV X [wR ct b x, wS ct a v] (fun (u3 : Mem) => [wR ct b x, wS ct a u3]) (fun (u3 : Mem) => fl [wR ct b x, wS ct a u3]) 2 [1] [0] 0 (kX5_lay l D ct a v x2 x3 (x 1 (ix x3)) _ hw) (cwV 3 X.1.2.2.2.2 gX3_layBest_X5_lay rfl rfl rfl (by decide +kernel) ⟨Nat.le_of_ble_eq_true rfl, Nat.le_of_ble_eq_true rfl⟩) dX3_layBest_19 rfl rfl (Nat.le_of_ble_eq_true rfl) ⟨Nat.le_of_ble_eq_true rfl, Nat.le_of_ble_eq_true rfl⟩ rfl rfl rfl (by decide) (fun _ => rfl) (fun _ => rfl) (fun _ => rfl) (fun _ => rfl) rfl rfl rfl (fun u3 hw => ?_)
      obtain ⟨v4, hv4⟩ : ∃ z : Mem, z = u3 := ⟨_, rfl⟩
      rw [← hv4] at hw
      rw [← hv4]
      refine g_iinc X [(3, .int (x3 + 1)), (0, .ref (b 0)), (1, .ref (a 0)), (2, .int x2)] 3 dX3_layBest_22 rfl rfl (by decide) rfl ?_
      refine g_goto X 2 dX3_layBest_25 (by decide) ?_
      refine g_sub [(0, .ref (b 0)), (1, .ref (a 0)), (2, .int x2), (3, .int (x3 + 1))] [1, 2, 3, 0] rfl ?_
      exact ih _ _ _ hw

set_option maxHeartbeats 4000000 in
set_option maxRecDepth 20000 in
theorem kX3_layBest (l : Launch) (D : va_G) (ct : Nat → ClassId) (b : Nat → Nat) (a : Nat → Nat) (x : Mem) (v : Mem) (p2 : Int32) (post : Mem → Prop) (hw : PX3_layBest x v p2 post) : Cv (S := Mem) l yX3_layBest wsX3_layBest rmX3_layBest D (tyz ct) [.ref (b 0), .ref (a 0), .int p2] (fl [wR ct b x, wS ct a v]) (fun (u9 : Mem) => post u9) (fun u9 => fl [wR ct b x, wS ct a u9]) 0 0 := by
  intro sz
  refine g_of (own := RX3) (by decide) rfl rfl (Nat.le_of_ble_eq_true rfl) [(0, .ref (b 0)), (1, .ref (a 0)), (2, .int p2)] rfl (fun p e s m args below meth c hsz X => ?_)
  subst hsz
  unfold PX3_layBest at hw
  refine g_iconst (v := 0) X rfl dX3_layBest_0 ?_
  refine g_istore_n X [(3, .int 0), (0, .ref (b 0)), (1, .ref (a 0)), (2, .int p2)] dX3_layBest_1 rfl (by decide) rfl ?_
  refine g_sub [(0, .ref (b 0)), (1, .ref (a 0)), (2, .int p2), (3, .int 0)] [1, 2, 3, 0] rfl ?_
  obtain ⟨n5, hw⟩ := hw
  exact kX3_layBest_2 l D ct b a x post X n5 _ _ _ hw

def rmfr (d : Nat) : Nat := 2 + d
def rmlo (d : Nat) : Nat := 50 + 23 * d
abbrev rmX3_layOn (d : Nat) : Room := { frames := rmfr d, cells := 0, slots := 0, locals := rmlo d }

abbrev GX3_layOn (l : Launch) (D : va_G) (ct : Nat → ClassId) (b : Nat → Nat) (post : Mem → Prop) (d : Nat) (p : Program) (e : Env) (s : State) (m : MethodId) (args : Array Value) (below : List Frame) (meth : Method) (c : Code) (A : Nat → Prop) (w9 : va_W) (lv : List (Nat × Value)) (pc : Nat) (st : List Value) : Prop :=
  GG p l e (rmX3_layOn (d + 1)) s m args below meth c D A s.heap 4 (MQ below (va_Qv (fun (u9 : Mem) => post u9) (fun u9 t9 => Af D (tyz ct) A ((fun u9 => wR ct b u9) u9) t9) A)  args s 0 0 A) w9 0 0 lv pc st

set_option maxHeartbeats 4000000 in
set_option maxRecDepth 20000 in
theorem kX3_layOn_29 (l : Launch) (D : va_G) (ct : Nat → ClassId) (b : Nat → Nat) (post : Mem → Prop) (d : Nat) (rc : Mem → Int32 → (Mem → Prop) → Prop) (hrc : ∀ (x : Mem) (p1 : Int32) (post : Mem → Prop), rc x p1 post → Cv (S := Mem) l yX3_layOn wsX3_layOn (rmX3_layOn d) D (tyz ct) [.ref (b 0), .int p1] (wR ct b x) (fun u => post u) (fun u => wR ct b u) 0 0) {p : Program} {e : Env} {s : State} {m : MethodId} {args : Array Value} {below : List Frame} {meth : Method} {c : Code} {A : Nat → Prop} (X : Cx p s m args meth c cX3_layOn 4 RX3 wsX3_layOn D (tyz ct) A s.heap none)  :
    ∀ (x : Mem) (x2 : Int32), PX3_layOn_29 post rc x x2 → GX3_layOn l D ct b  post d p e s m args below meth c A (wR ct b x) [(0, .ref (b 0)), (2, .int x2)] 29 [] := by
  intro x x2 hw
  unfold PX3_layOn_29 at hw
  refine g_aload_n X 0 dX3_layOn_29 rfl rfl ?_
  refine g_iload_n X 1 dX3_layOn_30 rfl rfl ?_
  refine g_put (T := TX3) (C := RX3) (N := 13) X (fun z => wR ct b z) x 0 12 tyX3 tyX3_ok nmX3 (fun _ h => (List.mem_cons_of_mem _ (List.mem_append_right _ h))) (List.mem_of_getElem? (i := 1) rfl) dX3_layOn_31 rfl rfl (by decide) rfl rfl (by decide +kernel) (Nat.le_of_ble_eq_true rfl) rfl (fun x6 hx6 => ?_)
  replace hw := hw x6 hx6
  exact g_vret X x6 hw rfl (Nat.le_of_ble_eq_true rfl) (Nat.le_of_ble_eq_true rfl) dX3_layOn_34

set_option maxHeartbeats 4000000 in
set_option maxRecDepth 20000 in
theorem kX3_layOn_37 (l : Launch) (D : va_G) (ct : Nat → ClassId) (b : Nat → Nat) (post : Mem → Prop) (d : Nat) (rc : Mem → Int32 → (Mem → Prop) → Prop) (hrc : ∀ (x : Mem) (p1 : Int32) (post : Mem → Prop), rc x p1 post → Cv (S := Mem) l yX3_layOn wsX3_layOn (rmX3_layOn d) D (tyz ct) [.ref (b 0), .int p1] (wR ct b x) (fun u => post u) (fun u => wR ct b u) 0 0) {p : Program} {e : Env} {s : State} {m : MethodId} {args : Array Value} {below : List Frame} {meth : Method} {c : Code} {A : Nat → Prop} (X : Cx p s m args meth c cX3_layOn 4 RX3 wsX3_layOn D (tyz ct) A s.heap none)  :
    ∀ (n : Nat) (x : Mem) (x1 : Int32) (x3 : Int32), PX3_layOn_37 post rc n x x1 x3 → GX3_layOn l D ct b  post d p e s m args below meth c A (wR ct b x) [(0, .ref (b 0)), (1, .int x1), (3, .int x3)] 37 [] := by
  intro n
  induction n with
  | zero =>
    intro x x1 x3 hw
    exact hw.elim
  | succ n ih =>
    intro x x1 x3 hw
    unfold PX3_layOn_37 at hw
    refine g_iload_n X 2 dX3_layOn_37 rfl rfl ?_
    refine g_aload_n X 0 dX3_layOn_38 rfl rfl ?_
    refine g_get (T := TX3) (C := RX3) (N := 13) (v := .int (x 10 0)) X 0 10 (fun _ h => (List.mem_cons_of_mem _ (List.mem_append_right _ h))) (List.mem_of_getElem? (i := 2) rfl) dX3_layOn_39 rfl rfl (by decide) rfl rfl ?_
    refine g_icmp_ge X 70 dX3_layOn_42 (by decide) (fun c8 => ?_) (fun c8 => ?_)
    · replace hw := hw.1 c8
      exact g_vret X x hw rfl (Nat.le_of_ble_eq_true rfl) (Nat.le_of_ble_eq_true rfl) dX3_layOn_70
    · replace hw := hw.2 c8
      refine g_aload_n X 0 dX3_layOn_45 rfl rfl ?_
      refine g_iload_n X 1 dX3_layOn_46 rfl rfl ?_
      refine g_iload_n X 2 dX3_layOn_47 rfl rfl ?_
      refine g_cvV X [wR ct b x] (fun (u9 : Mem) => [wR ct b u9]) (fun (u9 : Mem) => wR ct b u9) 1 [0] [] 0 (kX3_exchange l D ct b x x1 x3 _ hw) (cwV 2 X.1.2.2.2.2 gX3_layOn_X3_exchange rfl rfl rfl (by decide +kernel) ⟨Nat.le_trans (Nat.le_of_ble_eq_true (m := 2) rfl) (Nat.le_add_right 2 _), Nat.le_trans (Nat.le_of_ble_eq_true (m := 50) rfl) (Nat.le_add_right 50 _)⟩) dX3_layOn_48 rfl rfl (Nat.le_of_ble_eq_true rfl) ⟨Nat.le_of_ble_eq_true rfl, Nat.le_of_ble_eq_true rfl⟩ rfl rfl rfl (by decide) (fun _ => rfl) (fun _ => rfl) (fun _ => rfl) (fun _ => rfl) rfl rfl rfl (fun u9 hw => ?_)
      obtain ⟨x10, hx10⟩ : ∃ z : Mem, z = u9 := ⟨_, rfl⟩
      rw [← hx10] at hw
      rw [← hx10]
      refine g_aload_n X 0 dX3_layOn_51 rfl rfl ?_
      refine g_iload_n X 1 dX3_layOn_52 rfl rfl ?_
      refine g_iconst (v := 1) X rfl dX3_layOn_53 ?_
      refine g_iadd X dX3_layOn_54 ?_
      refine g_cvS X [wR ct b x10] (fun (u11 : Mem) => [wR ct b u11]) (fun (u11 : Mem) => wR ct b u11) 1 [0] [] (hrc _ _ _ hw) (va_cwS 2 X.1.2.2.2.2 gX3_layOn_X3_layOn rfl rfl rfl (by decide +kernel) ⟨by show rmfr d + 1 ≤ rmfr (d + 1); unfold rmfr; omega, by show 8 + (4 + 11) + rmlo d ≤ rmlo (d + 1); unfold rmlo; omega⟩) dX3_layOn_55 rfl rfl (Nat.le_of_ble_eq_true rfl) ⟨Nat.le_refl _, Nat.le_refl _⟩ rfl rfl rfl (by decide) (fun _ => rfl) (fun _ => rfl) (fun _ => rfl) (fun _ => rfl) (fun u11 hw => ?_)
      obtain ⟨x12, hx12⟩ : ∃ z : Mem, z = u11 := ⟨_, rfl⟩
      rw [← hx12] at hw
      rw [← hx12]
      refine g_aload_n X 0 dX3_layOn_58 rfl rfl ?_
      refine g_iload_n X 1 dX3_layOn_59 rfl rfl ?_
      refine g_iload_n X 2 dX3_layOn_60 rfl rfl ?_
      refine g_cvV X [wR ct b x12] (fun (u13 : Mem) => [wR ct b u13]) (fun (u13 : Mem) => wR ct b u13) 1 [0] [] 0 (kX3_exchange l D ct b x12 x1 x3 _ hw) (cwV 2 X.1.2.2.2.2 gX3_layOn_X3_exchange rfl rfl rfl (by decide +kernel) ⟨Nat.le_trans (Nat.le_of_ble_eq_true (m := 2) rfl) (Nat.le_add_right 2 _), Nat.le_trans (Nat.le_of_ble_eq_true (m := 50) rfl) (Nat.le_add_right 50 _)⟩) dX3_layOn_61 rfl rfl (Nat.le_of_ble_eq_true rfl) ⟨Nat.le_of_ble_eq_true rfl, Nat.le_of_ble_eq_true rfl⟩ rfl rfl rfl (by decide) (fun _ => rfl) (fun _ => rfl) (fun _ => rfl) (fun _ => rfl) rfl rfl rfl (fun u13 hw => ?_)
      obtain ⟨x14, hx14⟩ : ∃ z : Mem, z = u13 := ⟨_, rfl⟩
      rw [← hx14] at hw
      rw [← hx14]
      refine g_iinc X [(3, .int (x3 + 1)), (0, .ref (b 0)), (1, .int x1)] 2 dX3_layOn_64 rfl rfl (by decide) rfl ?_
      refine g_goto X 37 dX3_layOn_67 (by decide) ?_
      refine g_sub [(0, .ref (b 0)), (1, .int x1), (3, .int (x3 + 1))] [1, 2, 0] rfl ?_
      exact ih _ _ _ hw

set_option maxHeartbeats 4000000 in
set_option maxRecDepth 20000 in
theorem kX3_layOnB (l : Launch) (D : va_G) (ct : Nat → ClassId) (b : Nat → Nat) (d : Nat) (rc : Mem → Int32 → (Mem → Prop) → Prop) (hrc : ∀ (x : Mem) (p1 : Int32) (post : Mem → Prop), rc x p1 post → Cv (S := Mem) l yX3_layOn wsX3_layOn (rmX3_layOn d) D (tyz ct) [.ref (b 0), .int p1] (wR ct b x) (fun u => post u) (fun u => wR ct b u) 0 0) (x : Mem) (p2 : Int32) (post : Mem → Prop) (hw : PX3_layOnB rc x p2 post) : Cv (S := Mem) l yX3_layOn wsX3_layOn (rmX3_layOn (d + 1)) D (tyz ct) [.ref (b 0), .int p2] (wR ct b x) (fun (u9 : Mem) => post u9) (fun u9 => wR ct b u9) 0 0 := by
  intro sz
  refine g_of (own := RX3) (by decide) rfl rfl (Nat.le_of_ble_eq_true rfl) [(0, .ref (b 0)), (1, .int p2)] rfl (fun p e s m args below meth c hsz X => ?_)
  subst hsz
  unfold PX3_layOnB at hw
  refine g_aload_n X 0 dX3_layOn_0 rfl rfl ?_
  refine g_iload_n X 1 dX3_layOn_1 rfl rfl ?_
  refine g_ciV X [wR ct b x] (fun (u2 : Mem) => [wR ct b u2]) (fun (u2 : Mem) => wR ct b u2) 1 [0] [] 0 (kX3_crossingsOfFirst l D ct b x p2 _ hw) (cwV 1 X.1.2.2.2.2 gX3_layOn_X3_crossingsOfFirst rfl rfl rfl (by decide +kernel) ⟨Nat.le_trans (Nat.le_of_ble_eq_true (m := 2) rfl) (Nat.le_add_right 2 _), Nat.le_trans (Nat.le_of_ble_eq_true (m := 50) rfl) (Nat.le_add_right 50 _)⟩) dX3_layOn_2 rfl rfl (Nat.le_of_ble_eq_true rfl) ⟨Nat.le_of_ble_eq_true rfl, Nat.le_of_ble_eq_true rfl⟩ rfl rfl rfl (by decide) (fun _ => rfl) (fun _ => rfl) (fun _ => rfl) (fun _ => rfl) rfl rfl rfl (fun r1 u2 hw => ?_)
  obtain ⟨x3, hx3⟩ : ∃ z : Mem, z = u2 := ⟨_, rfl⟩
  rw [← hx3] at hw
  rw [← hx3]
  refine g_istore_n X [(2, .int r1), (0, .ref (b 0)), (1, .int p2)] dX3_layOn_5 rfl (by decide) rfl ?_
  refine g_iload_n X 0 dX3_layOn_6 rfl rfl ?_
  refine g_aload_n X 1 dX3_layOn_7 rfl rfl ?_
  refine g_get (T := TX3) (C := RX3) (N := 13) (v := .int (x3 12 0)) X 0 12 (fun _ h => (List.mem_cons_of_mem _ (List.mem_append_right _ h))) (List.mem_of_getElem? (i := 1) rfl) dX3_layOn_8 rfl rfl (by decide) rfl rfl ?_
  refine g_icmp_lt X 15 dX3_layOn_11 (by decide) (fun c4 => ?_) (fun c4 => ?_)
  · replace hw := hw.1 c4
    refine g_iload_n X 2 dX3_layOn_15 rfl rfl ?_
    refine g_aload_n X 1 dX3_layOn_16 rfl rfl ?_
    refine g_get (T := TX3) (C := RX3) (N := 13) (v := .int (x3 10 0)) X 0 10 (fun _ h => (List.mem_cons_of_mem _ (List.mem_append_right _ h))) (List.mem_of_getElem? (i := 2) rfl) dX3_layOn_17 rfl rfl (by decide) rfl rfl ?_
    refine g_icmp_ge X 29 dX3_layOn_20 (by decide) (fun c5 => ?_) (fun c5 => ?_)
    · replace hw := hw.1 c5
      refine g_sub [(0, .ref (b 0)), (2, .int r1)] [1, 0] rfl ?_
      exact kX3_layOn_29 l D ct b post d rc hrc X _ _ hw
    · replace hw := hw.2 c5
      refine g_iload_n X 2 dX3_layOn_23 rfl rfl ?_
      refine g_bipush (v := 6) X rfl dX3_layOn_24 ?_
      refine g_icmp_lt X 35 dX3_layOn_26 (by decide) (fun c7 => ?_) (fun c7 => ?_)
      · replace hw := hw.1 c7
        refine g_iload_n X 2 dX3_layOn_35 rfl rfl ?_
        refine g_istore_n X [(3, .int p2), (2, .int r1), (0, .ref (b 0)), (1, .int p2)] dX3_layOn_36 rfl (by decide) rfl ?_
        refine g_sub [(0, .ref (b 0)), (1, .int p2), (3, .int p2)] [2, 3, 0] rfl ?_
        obtain ⟨n15, hw⟩ := hw
        exact kX3_layOn_37 l D ct b post d rc hrc X n15 _ _ _ hw
      · replace hw := hw.2 c7
        refine g_sub [(0, .ref (b 0)), (2, .int r1)] [1, 0] rfl ?_
        exact kX3_layOn_29 l D ct b post d rc hrc X _ _ hw
  · replace hw := hw.2 c4
    exact g_vret X x3 hw rfl (Nat.le_of_ble_eq_true rfl) (Nat.le_of_ble_eq_true rfl) dX3_layOn_14

theorem kX3_layOn (l : Launch) (D : va_G) (ct : Nat → ClassId) (b : Nat → Nat) : ∀ (d : Nat) (x : Mem) (p2 : Int32) (post : Mem → Prop), PX3_layOn d x p2 post → Cv (S := Mem) l yX3_layOn wsX3_layOn (rmX3_layOn d) D (tyz ct) [.ref (b 0), .int p2] (wR ct b x) (fun (u9 : Mem) => post u9) (fun u9 => wR ct b u9) 0 0
  | 0, _, _, _, hw => hw.elim
  | d + 1, x, p2, post, hw => kX3_layOnB l D ct b d (PX3_layOn d) (kX3_layOn l D ct b d) x p2 post hw

abbrev rmX3_leastByLaying : Room := { frames := 11, cells := 0, slots := 0, locals := 257 }

abbrev GX3_leastByLaying (l : Launch) (D : va_G) (ct : Nat → ClassId) (b : Nat → Nat) (post : Int32 → Mem → Prop) (p : Program) (e : Env) (s : State) (m : MethodId) (args : Array Value) (below : List Frame) (meth : Method) (c : Code) (A : Nat → Prop) (w9 : va_W) (lv : List (Nat × Value)) (pc : Nat) (st : List Value) : Prop :=
  GG p l e rmX3_leastByLaying s m args below meth c D A s.heap 1 (MQ below (va_Qi (fun r (u9 : Mem) => post r u9) (fun u9 t9 => Af D (tyz ct) A ((fun u9 => wR ct b u9) u9) t9) A)  args s 0 0 A) w9 0 0 lv pc st

set_option maxHeartbeats 4000000 in
set_option maxRecDepth 20000 in
theorem kX3_leastByLaying (l : Launch) (D : va_G) (ct : Nat → ClassId) (b : Nat → Nat) (x : Mem) (post : Int32 → Mem → Prop) (hw : PX3_leastByLaying x post) : Ci (S := Mem) l yX3_leastByLaying wsX3_leastByLaying rmX3_leastByLaying D (tyz ct) [.ref (b 0)] (wR ct b x) (fun r (u9 : Mem) => post r u9) (fun u9 => wR ct b u9) 0 0 := by
  intro sz
  refine g_of (own := RX3) (by decide) rfl rfl (Nat.le_of_ble_eq_true rfl) [(0, .ref (b 0))] rfl (fun p e s m args below meth c hsz X => ?_)
  subst hsz
  unfold PX3_leastByLaying at hw
  refine g_aload_n X 0 dX3_leastByLaying_0 rfl rfl ?_
  refine g_sipush (v := 1000) X rfl dX3_leastByLaying_1 ?_
  refine g_put (T := TX3) (C := RX3) (N := 13) X (fun z => wR ct b z) x 0 12 tyX3 tyX3_ok nmX3 (fun _ h => (List.mem_cons_of_mem _ (List.mem_append_right _ h))) (List.mem_of_getElem? (i := 1) rfl) dX3_leastByLaying_4 rfl rfl (by decide) rfl rfl (by decide +kernel) (Nat.le_of_ble_eq_true rfl) rfl (fun x1 hx1 => ?_)
  replace hw := hw x1 hx1
  refine g_aload_n X 0 dX3_leastByLaying_7 rfl rfl ?_
  refine g_iconst (v := 0) X rfl dX3_leastByLaying_8 ?_
  refine g_cvS X [wR ct b x1] (fun (u2 : Mem) => [wR ct b u2]) (fun (u2 : Mem) => wR ct b u2) 1 [0] [] (kX3_layOn l D ct b 8 x1 0 _ hw) (va_cwS 2 X.1.2.2.2.2 gX3_leastByLaying_X3_layOn rfl rfl rfl (by decide +kernel) ⟨Nat.le_of_ble_eq_true rfl, Nat.le_of_ble_eq_true rfl⟩) dX3_leastByLaying_9 rfl rfl (Nat.le_of_ble_eq_true rfl) ⟨Nat.le_of_ble_eq_true rfl, Nat.le_of_ble_eq_true rfl⟩ rfl rfl rfl (by decide) (fun _ => rfl) (fun _ => rfl) (fun _ => rfl) (fun _ => rfl) (fun u2 hw => ?_)
  obtain ⟨x3, hx3⟩ : ∃ z : Mem, z = u2 := ⟨_, rfl⟩
  rw [← hx3] at hw
  rw [← hx3]
  refine g_aload_n X 0 dX3_leastByLaying_12 rfl rfl ?_
  refine g_get (T := TX3) (C := RX3) (N := 13) (v := .int (x3 12 0)) X 0 12 (fun _ h => (List.mem_cons_of_mem _ (List.mem_append_right _ h))) (List.mem_of_getElem? (i := 1) rfl) dX3_leastByLaying_13 rfl rfl (by decide) rfl rfl ?_
  exact g_iret X x3 hw rfl (Nat.le_of_ble_eq_true rfl) (Nat.le_of_ble_eq_true rfl) dX3_leastByLaying_16
