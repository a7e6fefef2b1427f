abbrev rmL_low : Room := { frames := 0, cells := 0, slots := 0, locals := 0 }

abbrev GL_low (l : Launch) (D : va_G) (ct : Nat → ClassId) (post : Int32 → Prop) (p : Program) (e : Env) (s : State) (m : MethodId) (args : Array Value) (below : List Frame) (meth : Method) (c : Code) (A : Nat → Prop) (w9 : va_W) (lv : List (Nat × Value)) (pc : Nat) (st : List Value) : Prop :=
  GG p l e rmL_low s m args below meth c D A s.heap 2 (MQ below (va_Qi (fun r (_ : Unit) => post r) (fun u9 t9 => Af D (tyz ct) A ((fun _ => ([] : va_W)) u9) t9) A)  args s 0 0 A) w9 0 0 lv pc st

set_option maxHeartbeats 4000000 in
set_option maxRecDepth 20000 in
theorem kL_low (l : Launch) (D : va_G) (ct : Nat → ClassId) (p1 : Int32) (p2 : Int32) (post : Int32 → Prop) (hw : PL_low p1 p2 post) : Ci (S := Unit) l yL_low wsL_low rmL_low D (tyz ct) [.int p1, .int p2] (([] : va_W)) (fun r (_ : Unit) => post r) (fun _ => ([] : va_W)) 0 0 := by
  intro sz
  refine g_of (own := RL) (by decide) rfl rfl (Nat.le_of_ble_eq_true rfl) [(0, .int p1), (1, .int p2)] rfl (fun p e s m args below meth c hsz X => ?_)
  subst hsz
  unfold PL_low at hw
  refine g_iload_n X 0 dL_low_0 rfl rfl ?_
  refine g_ldc (v := 2147483647) X (List.mem_of_getElem? (i := 1) rfl) dL_low_1 ?_
  refine g_iand X dL_low_3 ?_
  refine g_iload_n X 1 dL_low_4 rfl rfl ?_
  obtain ⟨h1, hw⟩ := hw
  refine g_irem X h1 dL_low_5 ?_
  exact g_iret X () hw rfl (Nat.le_of_ble_eq_true rfl) (Nat.le_of_ble_eq_true rfl) dL_low_6

abbrev rmL_place : Room := { frames := 0, cells := 0, slots := 0, locals := 0 }

abbrev GL_place (l : Launch) (D : va_G) (ct : Nat → ClassId) (bp : Nat) (bq : Nat) (ap : Mem) (aq : Mem) (post : Int32 → Prop) (p : Program) (e : Env) (s : State) (m : MethodId) (args : Array Value) (below : List Frame) (meth : Method) (c : Code) (A : Nat → Prop) (w9 : va_W) (lv : List (Nat × Value)) (pc : Nat) (st : List Value) : Prop :=
  GG p l e rmL_place s m args below meth c D A s.heap 4 (MQ below (va_Qi (fun r (_ : Unit) => post r) (fun u9 t9 => Af D (tyz ct) A ((fun _ => fl [wI 40 ct bp ap, wI 24 ct bq aq]) u9) t9) A)  args s 0 0 A) w9 0 0 lv pc st

set_option maxHeartbeats 4000000 in
set_option maxRecDepth 20000 in
theorem kL_place_9 (l : Launch) (D : va_G) (ct : Nat → ClassId) (bp : Nat) (bq : Nat) (ap : Mem) (aq : Mem) (post : Int32 → Prop) {p : Program} {e : Env} {s : State} {m : MethodId} {args : Array Value} {below : List Frame} {meth : Method} {c : Code} {A : Nat → Prop} (X : Cx p s m args meth c cL_place 4 RL wsL_place D (tyz ct) A s.heap (some .int))  :
    ∀ (n : Nat) (x2 : Int32) (x3 : Int32), PL_place_9 ap aq post n x2 x3 → GL_place l D ct bp bq ap aq post p e s m args below meth c A (fl [wI 40 ct bp ap, wI 24 ct bq aq]) [(1, .ref bq), (2, .int x2), (3, .int x3)] 9 [] := by
  intro n
  induction n with
  | zero =>
    intro x2 x3 hw
    exact hw.elim
  | succ n ih =>
    intro x2 x3 hw
    unfold PL_place_9 at hw
    refine g_aload_n X 0 dL_place_9 rfl rfl ?_
    refine g_iload_n X 2 dL_place_10 rfl rfl ?_
    obtain ⟨h3, hw⟩ := hw
    refine g_iald X 1 0 dL_place_11 rfl rfl h3 ?_
    refine g_iload_n X 1 dL_place_12 rfl rfl ?_
    refine g_icmp_eq X 22 dL_place_13 (by decide) (fun c4 => ?_) (fun c4 => ?_)
    · replace hw := hw.1 c4
      refine g_iload_n X 2 dL_place_22 rfl rfl ?_
      refine g_bipush (v := 6) X rfl dL_place_23 ?_
      refine g_irem X (by decide) dL_place_25 ?_
      exact g_iret X () hw rfl (Nat.le_of_ble_eq_true rfl) (Nat.le_of_ble_eq_true rfl) dL_place_26
    · replace hw := hw.2 c4
      refine g_iinc X [(3, .int (x3 + 1)), (1, .ref bq), (2, .int x2)] 2 dL_place_16 rfl rfl (by decide) rfl ?_
      refine g_goto X 9 dL_place_19 (by decide) ?_
      refine g_sub [(1, .ref bq), (2, .int x2), (3, .int (x3 + 1))] [1, 2, 0] rfl ?_
      exact ih _ _ hw

set_option maxHeartbeats 4000000 in
set_option maxRecDepth 20000 in
theorem kL_place (l : Launch) (D : va_G) (ct : Nat → ClassId) (bp : Nat) (bq : Nat) (ap : Mem) (aq : Mem) (p3 : Int32) (post : Int32 → Prop) (hw : PL_place ap aq p3 post) : Ci (S := Unit) l yL_place wsL_place rmL_place D (tyz ct) [.ref bp, .ref bq, .int p3] (fl [wI 40 ct bp ap, wI 24 ct bq aq]) (fun r (_ : Unit) => post r) (fun _ => fl [wI 40 ct bp ap, wI 24 ct bq aq]) 0 0 := by
  intro sz
  refine g_of (own := RL) (by decide) rfl rfl (Nat.le_of_ble_eq_true rfl) [(0, .ref bp), (1, .ref bq), (2, .int p3)] rfl (fun p e s m args below meth c hsz X => ?_)
  subst hsz
  unfold PL_place at hw
  refine g_bipush (v := 6) X rfl dL_place_0 ?_
  refine g_aload_n X 0 dL_place_2 rfl rfl ?_
  refine g_iconst (v := 2) X rfl dL_place_3 ?_
  refine g_iload_n X 2 dL_place_4 rfl rfl ?_
  refine g_imul X dL_place_5 ?_
  obtain ⟨h1, hw⟩ := hw
  refine g_iald X 0 0 dL_place_6 rfl rfl h1 ?_
  refine g_imul X dL_place_7 ?_
  refine g_topi (fun q2 hq2 => ?_)
  replace hw := hw q2 hq2
  refine g_istore_n X [(3, .int q2), (0, .ref bp), (1, .ref bq), (2, .int p3)] dL_place_8 rfl (by decide) rfl ?_
  refine g_sub [(1, .ref bq), (2, .int p3), (3, .int q2)] [2, 3, 0] rfl ?_
  obtain ⟨n5, hw⟩ := hw
  exact kL_place_9 l D ct bp bq ap aq post X n5 _ _ hw

abbrev rmL_middle : Room := { frames := 1, cells := 0, slots := 0, locals := 23 }

abbrev GL_middle (l : Launch) (D : va_G) (ct : Nat → ClassId) (bp : Nat) (bc : Nat) (bq : Nat) (ap : Mem) (ac : Mem) (aq : Mem) (post : Int32 → Prop) (p : Program) (e : Env) (s : State) (m : MethodId) (args : Array Value) (below : List Frame) (meth : Method) (c : Code) (A : Nat → Prop) (w9 : va_W) (lv : List (Nat × Value)) (pc : Nat) (st : List Value) : Prop :=
  GG p l e rmL_middle s m args below meth c D A s.heap 4 (MQ below (va_Qi (fun r (_ : Unit) => post r) (fun u9 t9 => Af D (tyz ct) A ((fun _ => fl [wI 40 ct bp ap, wI 20 ct bc ac, wI 24 ct bq aq]) u9) t9) A)  args s 0 0 A) w9 0 0 lv pc st

set_option maxHeartbeats 4000000 in
set_option maxRecDepth 20000 in
theorem kL_middle (l : Launch) (D : va_G) (ct : Nat → ClassId) (bp : Nat) (bc : Nat) (bq : Nat) (ap : Mem) (ac : Mem) (aq : Mem) (p4 : Int32) (post : Int32 → Prop) (hw : PL_middle ap ac aq p4 post) : Ci (S := Unit) l yL_middle wsL_middle rmL_middle D (tyz ct) [.ref bp, .ref bc, .ref bq, .int p4] (fl [wI 40 ct bp ap, wI 20 ct bc ac, wI 24 ct bq aq]) (fun r (_ : Unit) => post r) (fun _ => fl [wI 40 ct bp ap, wI 20 ct bc ac, wI 24 ct bq aq]) 0 0 := by
  intro sz
  refine g_of (own := RL) (by decide) rfl rfl (Nat.le_of_ble_eq_true rfl) [(0, .ref bp), (1, .ref bc), (2, .ref bq), (3, .int p4)] rfl (fun p e s m args below meth c hsz X => ?_)
  subst hsz
  unfold PL_middle at hw
  refine g_aload_n X 0 dL_middle_0 rfl rfl ?_
  refine g_aload_n X 2 dL_middle_1 rfl rfl ?_
  refine g_aload_n X 1 dL_middle_2 rfl rfl ?_
  refine g_iconst (v := 2) X rfl dL_middle_3 ?_
  refine g_iload_n X 3 dL_middle_4 rfl rfl ?_
  refine g_imul X dL_middle_5 ?_
  obtain ⟨h1, hw⟩ := hw
  refine g_iald X 1 0 dL_middle_6 rfl rfl h1 ?_
  refine g_ciS X [wI 40 ct bp ap, wI 20 ct bc ac, wI 24 ct bq aq] (fun (_ : Unit) => [wI 40 ct bp ap, wI 20 ct bc ac, wI 24 ct bq aq]) (fun _ => fl [wI 40 ct bp ap, wI 20 ct bc ac, wI 24 ct bq aq]) 3 [0, 2] [1] (kL_place l D ct bp bq ap aq (ac 0 (ix (2 * p4))) _ hw) (va_cwS 3 X.1.2.2.2.2 gL_middle_L_place rfl rfl rfl (by decide +kernel) ⟨Nat.le_of_ble_eq_true rfl, Nat.le_of_ble_eq_true rfl⟩) dL_middle_7 rfl rfl (Nat.le_of_ble_eq_true rfl) ⟨Nat.le_of_ble_eq_true rfl, Nat.le_of_ble_eq_true rfl⟩ rfl rfl rfl (by decide) (fun _ => rfl) (fun _ => rfl) (fun _ => rfl) (fun _ => rfl) (fun r2 _ hw => ?_)
  refine g_aload_n X 0 dL_middle_10 rfl rfl ?_
  refine g_aload_n X 2 dL_middle_11 rfl rfl ?_
  refine g_aload_n X 1 dL_middle_12 rfl rfl ?_
  refine g_iconst (v := 2) X rfl dL_middle_13 ?_
  refine g_iload_n X 3 dL_middle_14 rfl rfl ?_
  refine g_imul X dL_middle_15 ?_
  refine g_iconst (v := 1) X rfl dL_middle_16 ?_
  refine g_iadd X dL_middle_17 ?_
  obtain ⟨h4, hw⟩ := hw
  refine g_iald X 1 0 dL_middle_18 rfl rfl h4 ?_
  refine g_ciS X [wI 40 ct bp ap, wI 20 ct bc ac, wI 24 ct bq aq] (fun (_ : Unit) => [wI 40 ct bp ap, wI 20 ct bc ac, wI 24 ct bq aq]) (fun _ => fl [wI 40 ct bp ap, wI 20 ct bc ac, wI 24 ct bq aq]) 3 [0, 2] [1] (kL_place l D ct bp bq ap aq (ac 0 (ix ((2 * p4) + 1))) _ hw) (va_cwS 3 X.1.2.2.2.2 gL_middle_L_place rfl rfl rfl (by decide +kernel) ⟨Nat.le_of_ble_eq_true rfl, Nat.le_of_ble_eq_true rfl⟩) dL_middle_19 rfl rfl (Nat.le_of_ble_eq_true rfl) ⟨Nat.le_of_ble_eq_true rfl, Nat.le_of_ble_eq_true rfl⟩ rfl rfl rfl (by decide) (fun _ => rfl) (fun _ => rfl) (fun _ => rfl) (fun _ => rfl) (fun r5 _ hw => ?_)
  refine g_iadd X dL_middle_22 ?_
  exact g_iret X () hw rfl (Nat.le_of_ble_eq_true rfl) (Nat.le_of_ble_eq_true rfl) dL_middle_23

abbrev rmL_crosses : Room := { frames := 2, cells := 0, slots := 0, locals := 46 }

abbrev GL_crosses (l : Launch) (D : va_G) (ct : Nat → ClassId) (bp : Nat) (bc : Nat) (bq : Nat) (bn : Nat) (ap : Mem) (ac : Mem) (aq : Mem) (an : Mem) (post : Int32 → Prop) (p : Program) (e : Env) (s : State) (m : MethodId) (args : Array Value) (below : List Frame) (meth : Method) (c : Code) (A : Nat → Prop) (w9 : va_W) (lv : List (Nat × Value)) (pc : Nat) (st : List Value) : Prop :=
  GG p l e rmL_crosses s m args below meth c D A s.heap 10 (MQ below (va_Qi (fun r (_ : Unit) => post r) (fun u9 t9 => Af D (tyz ct) A ((fun _ => fl [wI 40 ct bp ap, wI 20 ct bc ac, wI 24 ct bq aq, wI 7 ct bn an]) u9) t9) A)  args s 0 0 A) w9 0 0 lv pc st

set_option maxHeartbeats 4000000 in
set_option maxRecDepth 20000 in
theorem kL_crosses_23 (l : Launch) (D : va_G) (ct : Nat → ClassId) (bp : Nat) (bc : Nat) (bq : Nat) (bn : Nat) (ap : Mem) (ac : Mem) (aq : Mem) (an : Mem) (post : Int32 → Prop) (K6 : Int32 → Int32 → Int32 → Prop) {p : Program} {e : Env} {s : State} {m : MethodId} {args : Array Value} {below : List Frame} {meth : Method} {c : Code} {A : Nat → Prop} (X : Cx p s m args meth c cL_crosses 10 RL wsL_crosses D (tyz ct) A s.heap (some .int)) (hK6 : ∀ (x4 : Int32) (x5 : Int32) (x6 : Int32), K6 x4 x5 x6 → GL_crosses l D ct bp bc bq bn ap ac aq an post p e s m args below meth c A (fl [wI 40 ct bp ap, wI 20 ct bc ac, wI 24 ct bq aq, wI 7 ct bn an]) [(0, .ref bp), (1, .ref bc), (2, .ref bq), (3, .ref bn), (4, .int x4), (5, .int x5), (6, .int x6)] 6 []) :
    ∀ (n : Nat) (x4 : Int32) (x5 : Int32) (x6 : Int32) (x7 : Int32), PL_crosses_23 ap ac aq an post K6 n x4 x5 x6 x7 → GL_crosses l D ct bp bc bq bn ap ac aq an post p e s m args below meth c A (fl [wI 40 ct bp ap, wI 20 ct bc ac, wI 24 ct bq aq, wI 7 ct bn an]) [(0, .ref bp), (1, .ref bc), (2, .ref bq), (3, .ref bn), (4, .int x4), (5, .int x5), (6, .int x6), (7, .int x7)] 23 [] := by
  intro n
  induction n with
  | zero =>
    intro x4 x5 x6 x7 hw
    exact hw.elim
  | succ n ih =>
    intro x4 x5 x6 x7 hw
    unfold PL_crosses_23 at hw
    refine g_iload X 7 dL_crosses_23 rfl ?_
    refine g_aload_n X 3 dL_crosses_25 rfl rfl ?_
    refine g_iconst (v := 3) X rfl dL_crosses_26 ?_
    refine g_iload X 4 dL_crosses_27 rfl ?_
    refine g_iadd X dL_crosses_29 ?_
    obtain ⟨h4, hw⟩ := hw
    refine g_iald X 3 0 dL_crosses_30 rfl rfl h4 ?_
    refine g_icmp_ge X 115 dL_crosses_31 (by decide) (fun c5 => ?_) (fun c5 => ?_)
    · replace hw := hw.1 c5
      refine g_iinc X [(6, .int (x6 + 1)), (0, .ref bp), (1, .ref bc), (2, .ref bq), (3, .ref bn), (4, .int x4), (5, .int x5), (7, .int x7)] 6 dL_crosses_115 rfl rfl (by decide) rfl ?_
      refine g_goto X 6 dL_crosses_118 (by decide) ?_
      refine g_sub [(0, .ref bp), (1, .ref bc), (2, .ref bq), (3, .ref bn), (4, .int x4), (5, .int x5), (6, .int (x6 + 1))] [1, 2, 3, 4, 5, 6, 0] rfl ?_
      exact hK6 _ _ _ hw
    · replace hw := hw.2 c5
      refine g_aload_n X 0 dL_crosses_34 rfl rfl ?_
      refine g_iconst (v := 2) X rfl dL_crosses_35 ?_
      refine g_aload_n X 2 dL_crosses_36 rfl rfl ?_
      refine g_bipush (v := 6) X rfl dL_crosses_37 ?_
      refine g_iload X 4 dL_crosses_39 rfl ?_
      refine g_imul X dL_crosses_41 ?_
      refine g_iload X 6 dL_crosses_42 rfl ?_
      refine g_iadd X dL_crosses_44 ?_
      obtain ⟨h6, hw⟩ := hw
      refine g_iald X 2 0 dL_crosses_45 rfl rfl h6 ?_
      refine g_imul X dL_crosses_46 ?_
      refine g_iconst (v := 1) X rfl dL_crosses_47 ?_
      refine g_iadd X dL_crosses_48 ?_
      obtain ⟨h7, hw⟩ := hw
      refine g_iald X 0 0 dL_crosses_49 rfl rfl h7 ?_
      refine g_topi (fun q8 hq8 => ?_)
      replace hw := hw q8 hq8
      refine g_istore X [(8, .int q8), (0, .ref bp), (1, .ref bc), (2, .ref bq), (3, .ref bn), (4, .int x4), (5, .int x5), (6, .int x6), (7, .int x7)] dL_crosses_50 (by decide) rfl ?_
      refine g_aload_n X 1 dL_crosses_52 rfl rfl ?_
      refine g_iconst (v := 2) X rfl dL_crosses_53 ?_
      refine g_aload_n X 3 dL_crosses_54 rfl rfl ?_
      refine g_bipush (v := 6) X rfl dL_crosses_55 ?_
      refine g_iload X 5 dL_crosses_57 rfl ?_
      refine g_imul X dL_crosses_59 ?_
      refine g_iload X 8 dL_crosses_60 rfl ?_
      refine g_iadd X dL_crosses_62 ?_
      obtain ⟨h9, hw⟩ := hw
      refine g_iald X 2 0 dL_crosses_63 rfl rfl h9 ?_
      refine g_imul X dL_crosses_64 ?_
      refine g_iconst (v := 1) X rfl dL_crosses_65 ?_
      refine g_iadd X dL_crosses_66 ?_
      obtain ⟨h10, hw⟩ := hw
      refine g_iald X 0 0 dL_crosses_67 rfl rfl h10 ?_
      refine g_topi (fun q11 hq11 => ?_)
      replace hw := hw q11 hq11
      refine g_istore X [(9, .int q11), (8, .int q8), (0, .ref bp), (1, .ref bc), (2, .ref bq), (3, .ref bn), (4, .int x4), (5, .int x5), (6, .int x6), (7, .int x7)] dL_crosses_68 (by decide) rfl ?_
      refine g_iload X 7 dL_crosses_70 rfl ?_
      refine g_iload X 1 dL_crosses_72 rfl ?_
      refine g_if_lt X 105 dL_crosses_74 (by decide) (fun c12 => ?_) (fun c12 => ?_)
      · replace hw := hw.1 c12
        refine g_iconst (v := 0) X rfl dL_crosses_105 ?_
        refine g_iadd X dL_crosses_106 ?_
        refine g_topi (fun q13 hq13 => ?_)
        replace hw := hw q13 hq13
        refine g_istore X [(5, .int q13), (9, .int q11), (8, .int q8), (0, .ref bp), (1, .ref bc), (2, .ref bq), (3, .ref bn), (4, .int x4), (6, .int x6), (7, .int x7)] dL_crosses_107 (by decide) rfl ?_
        refine g_iinc X [(7, .int (x7 + 1)), (5, .int q13), (9, .int q11), (8, .int q8), (0, .ref bp), (1, .ref bc), (2, .ref bq), (3, .ref bn), (4, .int x4), (6, .int x6)] 9 dL_crosses_109 rfl rfl (by decide) rfl ?_
        refine g_goto X 23 dL_crosses_112 (by decide) ?_
        refine g_sub [(0, .ref bp), (1, .ref bc), (2, .ref bq), (3, .ref bn), (4, .int x4), (5, .int q13), (6, .int x6), (7, .int (x7 + 1))] [4, 5, 6, 7, 8, 1, 9, 0] rfl ?_
        exact ih _ _ _ _ hw
      · replace hw := hw.2 c12
        refine g_iload X 0 dL_crosses_77 rfl ?_
        refine g_if_lt X 105 dL_crosses_79 (by decide) (fun c14 => ?_) (fun c14 => ?_)
        · replace hw := hw.1 c14
          refine g_iconst (v := 0) X rfl dL_crosses_105 ?_
          refine g_iadd X dL_crosses_106 ?_
          refine g_topi (fun q15 hq15 => ?_)
          replace hw := hw q15 hq15
          refine g_istore X [(5, .int q15), (9, .int q11), (8, .int q8), (0, .ref bp), (1, .ref bc), (2, .ref bq), (3, .ref bn), (4, .int x4), (6, .int x6), (7, .int x7)] dL_crosses_107 (by decide) rfl ?_
          refine g_iinc X [(7, .int (x7 + 1)), (5, .int q15), (9, .int q11), (8, .int q8), (0, .ref bp), (1, .ref bc), (2, .ref bq), (3, .ref bn), (4, .int x4), (6, .int x6)] 9 dL_crosses_109 rfl rfl (by decide) rfl ?_
          refine g_goto X 23 dL_crosses_112 (by decide) ?_
          refine g_sub [(0, .ref bp), (1, .ref bc), (2, .ref bq), (3, .ref bn), (4, .int x4), (5, .int q15), (6, .int x6), (7, .int (x7 + 1))] [4, 5, 6, 7, 8, 1, 9, 0] rfl ?_
          exact ih _ _ _ _ hw
        · replace hw := hw.2 c14
          refine g_aload_n X 2 dL_crosses_82 rfl rfl ?_
          refine g_aload_n X 3 dL_crosses_83 rfl rfl ?_
          refine g_aload_n X 4 dL_crosses_84 rfl rfl ?_
          refine g_iload X 1 dL_crosses_85 rfl ?_
          refine g_ciS X [wI 40 ct bp ap, wI 20 ct bc ac, wI 24 ct bq aq, wI 7 ct bn an] (fun (_ : Unit) => [wI 40 ct bp ap, wI 20 ct bc ac, wI 24 ct bq aq, wI 7 ct bn an]) (fun _ => fl [wI 40 ct bp ap, wI 20 ct bc ac, wI 24 ct bq aq, wI 7 ct bn an]) 4 [0, 1, 2] [3] (kL_middle l D ct bp bc bq ap ac aq q8 _ hw) (va_cwS 4 X.1.2.2.2.2 gL_crosses_L_middle rfl rfl rfl (by decide +kernel) ⟨Nat.le_of_ble_eq_true rfl, Nat.le_of_ble_eq_true rfl⟩) dL_crosses_87 rfl rfl (Nat.le_of_ble_eq_true rfl) ⟨Nat.le_of_ble_eq_true rfl, Nat.le_of_ble_eq_true rfl⟩ rfl rfl rfl (by decide) (fun _ => rfl) (fun _ => rfl) (fun _ => rfl) (fun _ => rfl) (fun r16 _ hw => ?_)
          refine g_aload_n X 2 dL_crosses_90 rfl rfl ?_
          refine g_aload_n X 3 dL_crosses_91 rfl rfl ?_
          refine g_aload_n X 4 dL_crosses_92 rfl rfl ?_
          refine g_iload X 0 dL_crosses_93 rfl ?_
          refine g_ciS X [wI 40 ct bp ap, wI 20 ct bc ac, wI 24 ct bq aq, wI 7 ct bn an] (fun (_ : Unit) => [wI 40 ct bp ap, wI 20 ct bc ac, wI 24 ct bq aq, wI 7 ct bn an]) (fun _ => fl [wI 40 ct bp ap, wI 20 ct bc ac, wI 24 ct bq aq, wI 7 ct bn an]) 4 [0, 1, 2] [3] (kL_middle l D ct bp bc bq ap ac aq q11 _ hw) (va_cwS 4 X.1.2.2.2.2 gL_crosses_L_middle rfl rfl rfl (by decide +kernel) ⟨Nat.le_of_ble_eq_true rfl, Nat.le_of_ble_eq_true rfl⟩) dL_crosses_95 rfl rfl (Nat.le_of_ble_eq_true rfl) ⟨Nat.le_of_ble_eq_true rfl, Nat.le_of_ble_eq_true rfl⟩ rfl rfl rfl (by decide) (fun _ => rfl) (fun _ => rfl) (fun _ => rfl) (fun _ => rfl) (fun r18 _ hw => ?_)
          refine g_icmp_le X 105 dL_crosses_98 (by decide) (fun c20 => ?_) (fun c20 => ?_)
          · replace hw := hw.1 c20
            refine g_iconst (v := 0) X rfl dL_crosses_105 ?_
            refine g_iadd X dL_crosses_106 ?_
            refine g_topi (fun q21 hq21 => ?_)
            replace hw := hw q21 hq21
            refine g_istore X [(5, .int q21), (9, .int q11), (8, .int q8), (0, .ref bp), (1, .ref bc), (2, .ref bq), (3, .ref bn), (4, .int x4), (6, .int x6), (7, .int x7)] dL_crosses_107 (by decide) rfl ?_
            refine g_iinc X [(7, .int (x7 + 1)), (5, .int q21), (9, .int q11), (8, .int q8), (0, .ref bp), (1, .ref bc), (2, .ref bq), (3, .ref bn), (4, .int x4), (6, .int x6)] 9 dL_crosses_109 rfl rfl (by decide) rfl ?_
            refine g_goto X 23 dL_crosses_112 (by decide) ?_
            refine g_sub [(0, .ref bp), (1, .ref bc), (2, .ref bq), (3, .ref bn), (4, .int x4), (5, .int q21), (6, .int x6), (7, .int (x7 + 1))] [4, 5, 6, 7, 8, 1, 9, 0] rfl ?_
            exact ih _ _ _ _ hw
          · replace hw := hw.2 c20
            refine g_iconst (v := 1) X rfl dL_crosses_101 ?_
            refine g_goto X 106 dL_crosses_102 (by decide) ?_
            refine g_iadd X dL_crosses_106 ?_
            refine g_topi (fun q22 hq22 => ?_)
            replace hw := hw q22 hq22
            refine g_istore X [(5, .int q22), (9, .int q11), (8, .int q8), (0, .ref bp), (1, .ref bc), (2, .ref bq), (3, .ref bn), (4, .int x4), (6, .int x6), (7, .int x7)] dL_crosses_107 (by decide) rfl ?_
            refine g_iinc X [(7, .int (x7 + 1)), (5, .int q22), (9, .int q11), (8, .int q8), (0, .ref bp), (1, .ref bc), (2, .ref bq), (3, .ref bn), (4, .int x4), (6, .int x6)] 9 dL_crosses_109 rfl rfl (by decide) rfl ?_
            refine g_goto X 23 dL_crosses_112 (by decide) ?_
            refine g_sub [(0, .ref bp), (1, .ref bc), (2, .ref bq), (3, .ref bn), (4, .int x4), (5, .int q22), (6, .int x6), (7, .int (x7 + 1))] [4, 5, 6, 7, 8, 1, 9, 0] rfl ?_
            exact ih _ _ _ _ hw

set_option maxHeartbeats 4000000 in
set_option maxRecDepth 20000 in
theorem kL_crosses_6 (l : Launch) (D : va_G) (ct : Nat → ClassId) (bp : Nat) (bc : Nat) (bq : Nat) (bn : Nat) (ap : Mem) (ac : Mem) (aq : Mem) (an : Mem) (post : Int32 → Prop) {p : Program} {e : Env} {s : State} {m : MethodId} {args : Array Value} {below : List Frame} {meth : Method} {c : Code} {A : Nat → Prop} (X : Cx p s m args meth c cL_crosses 10 RL wsL_crosses D (tyz ct) A s.heap (some .int))  :
    ∀ (n : Nat) (x4 : Int32) (x5 : Int32) (x6 : Int32), PL_crosses_6 ap ac aq an post n x4 x5 x6 → GL_crosses l D ct bp bc bq bn ap ac aq an post p e s m args below meth c A (fl [wI 40 ct bp ap, wI 20 ct bc ac, wI 24 ct bq aq, wI 7 ct bn an]) [(0, .ref bp), (1, .ref bc), (2, .ref bq), (3, .ref bn), (4, .int x4), (5, .int x5), (6, .int x6)] 6 [] := by
  intro n
  induction n with
  | zero =>
    intro x4 x5 x6 hw
    exact hw.elim
  | succ n ih =>
    intro x4 x5 x6 hw
    unfold PL_crosses_6 at hw
    refine g_iload X 6 dL_crosses_6 rfl ?_
    refine g_aload_n X 3 dL_crosses_8 rfl rfl ?_
    refine g_iconst (v := 3) X rfl dL_crosses_9 ?_
    refine g_iload X 4 dL_crosses_10 rfl ?_
    refine g_iadd X dL_crosses_12 ?_
    obtain ⟨h1, hw⟩ := hw
    refine g_iald X 3 0 dL_crosses_13 rfl rfl h1 ?_
    refine g_icmp_ge X 121 dL_crosses_14 (by decide) (fun c2 => ?_) (fun c2 => ?_)
    · replace hw := hw.1 c2
      refine g_iload X 5 dL_crosses_121 rfl ?_
      exact g_iret X () hw rfl (Nat.le_of_ble_eq_true rfl) (Nat.le_of_ble_eq_true rfl) dL_crosses_123
    · replace hw := hw.2 c2
      refine g_iload X 6 dL_crosses_17 rfl ?_
      refine g_iconst (v := 1) X rfl dL_crosses_19 ?_
      refine g_iadd X dL_crosses_20 ?_
      refine g_topi (fun q3 hq3 => ?_)
      replace hw := hw q3 hq3
      refine g_istore X [(7, .int q3), (0, .ref bp), (1, .ref bc), (2, .ref bq), (3, .ref bn), (4, .int x4), (5, .int x5), (6, .int x6)] dL_crosses_21 (by decide) rfl ?_
      refine g_sub [(0, .ref bp), (1, .ref bc), (2, .ref bq), (3, .ref bn), (4, .int x4), (5, .int x5), (6, .int x6), (7, .int q3)] [1, 2, 3, 4, 5, 6, 7, 0] rfl ?_
      obtain ⟨n23, hw⟩ := hw
      exact kL_crosses_23 l D ct bp bc bq bn ap ac aq an post _ X ih n23 _ _ _ _ hw

set_option maxHeartbeats 4000000 in
set_option maxRecDepth 20000 in
theorem kL_crosses (l : Launch) (D : va_G) (ct : Nat → ClassId) (bp : Nat) (bc : Nat) (bq : Nat) (bn : Nat) (ap : Mem) (ac : Mem) (aq : Mem) (an : Mem) (p5 : Int32) (post : Int32 → Prop) (hw : PL_crosses ap ac aq an p5 post) : Ci (S := Unit) l yL_crosses wsL_crosses rmL_crosses D (tyz ct) [.ref bp, .ref bc, .ref bq, .ref bn, .int p5] (fl [wI 40 ct bp ap, wI 20 ct bc ac, wI 24 ct bq aq, wI 7 ct bn an]) (fun r (_ : Unit) => post r) (fun _ => fl [wI 40 ct bp ap, wI 20 ct bc ac, wI 24 ct bq aq, wI 7 ct bn an]) 0 0 := by
  intro sz
  refine g_of (own := RL) (by decide) rfl rfl (Nat.le_of_ble_eq_true rfl) [(0, .ref bp), (1, .ref bc), (2, .ref bq), (3, .ref bn), (4, .int p5)] rfl (fun p e s m args below meth c hsz X => ?_)
  subst hsz
  unfold PL_crosses at hw
  refine g_iconst (v := 0) X rfl dL_crosses_0 ?_
  refine g_istore X [(5, .int 0), (0, .ref bp), (1, .ref bc), (2, .ref bq), (3, .ref bn), (4, .int p5)] dL_crosses_1 (by decide) rfl ?_
  refine g_iconst (v := 0) X rfl dL_crosses_3 ?_
  refine g_istore X [(6, .int 0), (5, .int 0), (0, .ref bp), (1, .ref bc), (2, .ref bq), (3, .ref bn), (4, .int p5)] dL_crosses_4 (by decide) rfl ?_
  refine g_sub [(0, .ref bp), (1, .ref bc), (2, .ref bq), (3, .ref bn), (4, .int p5), (5, .int 0), (6, .int 0)] [2, 3, 4, 5, 6, 1, 0] rfl ?_
  obtain ⟨n24, hw⟩ := hw
  exact kL_crosses_6 l D ct bp bc bq bn ap ac aq an post X n24 _ _ _ hw

abbrev rmL_all : Room := { frames := 3, cells := 0, slots := 0, locals := 75 }

abbrev GL_all (l : Launch) (D : va_G) (ct : Nat → ClassId) (bp : Nat) (bc : Nat) (bq : Nat) (bn : Nat) (ap : Mem) (ac : Mem) (aq : Mem) (an : Mem) (post : Int32 → Prop) (p : Program) (e : Env) (s : State) (m : MethodId) (args : Array Value) (below : List Frame) (meth : Method) (c : Code) (A : Nat → Prop) (w9 : va_W) (lv : List (Nat × Value)) (pc : Nat) (st : List Value) : Prop :=
  GG p l e rmL_all s m args below meth c D A s.heap 4 (MQ below (va_Qi (fun r (_ : Unit) => post r) (fun u9 t9 => Af D (tyz ct) A ((fun _ => fl [wI 40 ct bp ap, wI 20 ct bc ac, wI 24 ct bq aq, wI 7 ct bn an]) u9) t9) A)  args s 0 0 A) w9 0 0 lv pc st

set_option maxHeartbeats 4000000 in
set_option maxRecDepth 20000 in
theorem kL_all (l : Launch) (D : va_G) (ct : Nat → ClassId) (bp : Nat) (bc : Nat) (bq : Nat) (bn : Nat) (ap : Mem) (ac : Mem) (aq : Mem) (an : Mem) (post : Int32 → Prop) (hw : PL_all ap ac aq an post) : Ci (S := Unit) l yL_all wsL_all rmL_all D (tyz ct) [.ref bp, .ref bc, .ref bq, .ref bn] (fl [wI 40 ct bp ap, wI 20 ct bc ac, wI 24 ct bq aq, wI 7 ct bn an]) (fun r (_ : Unit) => post r) (fun _ => fl [wI 40 ct bp ap, wI 20 ct bc ac, wI 24 ct bq aq, wI 7 ct bn an]) 0 0 := by
  intro sz
  refine g_of (own := RL) (by decide) rfl rfl (Nat.le_of_ble_eq_true rfl) [(0, .ref bp), (1, .ref bc), (2, .ref bq), (3, .ref bn)] rfl (fun p e s m args below meth c hsz X => ?_)
  subst hsz
  unfold PL_all at hw
  refine g_aload_n X 0 dL_all_0 rfl rfl ?_
  refine g_aload_n X 1 dL_all_1 rfl rfl ?_
  refine g_aload_n X 2 dL_all_2 rfl rfl ?_
  refine g_aload_n X 3 dL_all_3 rfl rfl ?_
  refine g_iconst (v := 1) X rfl dL_all_4 ?_
  refine g_ciS X [wI 40 ct bp ap, wI 20 ct bc ac, wI 24 ct bq aq, wI 7 ct bn an] (fun (_ : Unit) => [wI 40 ct bp ap, wI 20 ct bc ac, wI 24 ct bq aq, wI 7 ct bn an]) (fun _ => fl [wI 40 ct bp ap, wI 20 ct bc ac, wI 24 ct bq aq, wI 7 ct bn an]) 4 [0, 1, 2, 3] [] (kL_crosses l D ct bp bc bq bn ap ac aq an 1 _ hw) (va_cwS 5 X.1.2.2.2.2 gL_all_L_crosses rfl rfl rfl (by decide +kernel) ⟨Nat.le_of_ble_eq_true rfl, Nat.le_of_ble_eq_true rfl⟩) dL_all_5 rfl rfl (Nat.le_of_ble_eq_true rfl) ⟨Nat.le_of_ble_eq_true rfl, Nat.le_of_ble_eq_true rfl⟩ rfl rfl rfl (by decide) (fun _ => rfl) (fun _ => rfl) (fun _ => rfl) (fun _ => rfl) (fun r1 _ hw => ?_)
  refine g_aload_n X 0 dL_all_8 rfl rfl ?_
  refine g_aload_n X 1 dL_all_9 rfl rfl ?_
  refine g_aload_n X 2 dL_all_10 rfl rfl ?_
  refine g_aload_n X 3 dL_all_11 rfl rfl ?_
  refine g_iconst (v := 2) X rfl dL_all_12 ?_
  refine g_ciS X [wI 40 ct bp ap, wI 20 ct bc ac, wI 24 ct bq aq, wI 7 ct bn an] (fun (_ : Unit) => [wI 40 ct bp ap, wI 20 ct bc ac, wI 24 ct bq aq, wI 7 ct bn an]) (fun _ => fl [wI 40 ct bp ap, wI 20 ct bc ac, wI 24 ct bq aq, wI 7 ct bn an]) 4 [0, 1, 2, 3] [] (kL_crosses l D ct bp bc bq bn ap ac aq an 2 _ hw) (va_cwS 5 X.1.2.2.2.2 gL_all_L_crosses rfl rfl rfl (by decide +kernel) ⟨Nat.le_of_ble_eq_true rfl, Nat.le_of_ble_eq_true rfl⟩) dL_all_13 rfl rfl (Nat.le_of_ble_eq_true rfl) ⟨Nat.le_of_ble_eq_true rfl, Nat.le_of_ble_eq_true rfl⟩ rfl rfl rfl (by decide) (fun _ => rfl) (fun _ => rfl) (fun _ => rfl) (fun _ => rfl) (fun r3 _ hw => ?_)
  refine g_iadd X dL_all_16 ?_
  refine g_aload_n X 0 dL_all_17 rfl rfl ?_
  refine g_aload_n X 1 dL_all_18 rfl rfl ?_
  refine g_aload_n X 2 dL_all_19 rfl rfl ?_
  refine g_aload_n X 3 dL_all_20 rfl rfl ?_
  refine g_iconst (v := 3) X rfl dL_all_21 ?_
  refine g_ciS X [wI 40 ct bp ap, wI 20 ct bc ac, wI 24 ct bq aq, wI 7 ct bn an] (fun (_ : Unit) => [wI 40 ct bp ap, wI 20 ct bc ac, wI 24 ct bq aq, wI 7 ct bn an]) (fun _ => fl [wI 40 ct bp ap, wI 20 ct bc ac, wI 24 ct bq aq, wI 7 ct bn an]) 4 [0, 1, 2, 3] [] (kL_crosses l D ct bp bc bq bn ap ac aq an 3 _ hw) (va_cwS 5 X.1.2.2.2.2 gL_all_L_crosses rfl rfl rfl (by decide +kernel) ⟨Nat.le_of_ble_eq_true rfl, Nat.le_of_ble_eq_true rfl⟩) dL_all_22 rfl rfl (Nat.le_of_ble_eq_true rfl) ⟨Nat.le_of_ble_eq_true rfl, Nat.le_of_ble_eq_true rfl⟩ rfl rfl rfl (by decide) (fun _ => rfl) (fun _ => rfl) (fun _ => rfl) (fun _ => rfl) (fun r5 _ hw => ?_)
  refine g_iadd X dL_all_25 ?_
  exact g_iret X () hw rfl (Nat.le_of_ble_eq_true rfl) (Nat.le_of_ble_eq_true rfl) dL_all_26

abbrev rmL_ofTwo : Room := { frames := 3, cells := 0, slots := 0, locals := 75 }

abbrev GL_ofTwo (l : Launch) (D : va_G) (ct : Nat → ClassId) (bp : Nat) (bc : Nat) (bq : Nat) (bn : Nat) (ap : Mem) (ac : Mem) (aq : Mem) (an : Mem) (post : Int32 → Prop) (p : Program) (e : Env) (s : State) (m : MethodId) (args : Array Value) (below : List Frame) (meth : Method) (c : Code) (A : Nat → Prop) (w9 : va_W) (lv : List (Nat × Value)) (pc : Nat) (st : List Value) : Prop :=
  GG p l e rmL_ofTwo s m args below meth c D A s.heap 5 (MQ below (va_Qi (fun r (_ : Unit) => post r) (fun u9 t9 => Af D (tyz ct) A ((fun _ => fl [wI 40 ct bp ap, wI 20 ct bc ac, wI 24 ct bq aq, wI 7 ct bn an]) u9) t9) A)  args s 0 0 A) w9 0 0 lv pc st

set_option maxHeartbeats 4000000 in
set_option maxRecDepth 20000 in
theorem kL_ofTwo (l : Launch) (D : va_G) (ct : Nat → ClassId) (bp : Nat) (bc : Nat) (bq : Nat) (bn : Nat) (ap : Mem) (ac : Mem) (aq : Mem) (an : Mem) (p5 : Int32) (post : Int32 → Prop) (hw : PL_ofTwo ap ac aq an p5 post) : Ci (S := Unit) l yL_ofTwo wsL_ofTwo rmL_ofTwo D (tyz ct) [.ref bp, .ref bc, .ref bq, .ref bn, .int p5] (fl [wI 40 ct bp ap, wI 20 ct bc ac, wI 24 ct bq aq, wI 7 ct bn an]) (fun r (_ : Unit) => post r) (fun _ => fl [wI 40 ct bp ap, wI 20 ct bc ac, wI 24 ct bq aq, wI 7 ct bn an]) 0 0 := by
  intro sz
  refine g_of (own := RL) (by decide) rfl rfl (Nat.le_of_ble_eq_true rfl) [(0, .ref bp), (1, .ref bc), (2, .ref bq), (3, .ref bn), (4, .int p5)] rfl (fun p e s m args below meth c hsz X => ?_)
  subst hsz
  unfold PL_ofTwo at hw
  refine g_aload_n X 0 dL_ofTwo_0 rfl rfl ?_
  refine g_aload_n X 1 dL_ofTwo_1 rfl rfl ?_
  refine g_aload_n X 2 dL_ofTwo_2 rfl rfl ?_
  refine g_aload_n X 3 dL_ofTwo_3 rfl rfl ?_
  refine g_iload X 4 dL_ofTwo_4 rfl ?_
  refine g_ciS X [wI 40 ct bp ap, wI 20 ct bc ac, wI 24 ct bq aq, wI 7 ct bn an] (fun (_ : Unit) => [wI 40 ct bp ap, wI 20 ct bc ac, wI 24 ct bq aq, wI 7 ct bn an]) (fun _ => fl [wI 40 ct bp ap, wI 20 ct bc ac, wI 24 ct bq aq, wI 7 ct bn an]) 4 [0, 1, 2, 3] [] (kL_crosses l D ct bp bc bq bn ap ac aq an p5 _ hw) (va_cwS 5 X.1.2.2.2.2 gL_ofTwo_L_crosses rfl rfl rfl (by decide +kernel) ⟨Nat.le_of_ble_eq_true rfl, Nat.le_of_ble_eq_true rfl⟩) dL_ofTwo_6 rfl rfl (Nat.le_of_ble_eq_true rfl) ⟨Nat.le_of_ble_eq_true rfl, Nat.le_of_ble_eq_true rfl⟩ rfl rfl rfl (by decide) (fun _ => rfl) (fun _ => rfl) (fun _ => rfl) (fun _ => rfl) (fun r1 _ hw => ?_)
  refine g_iload X 4 dL_ofTwo_9 rfl ?_
  refine g_iconst (v := 3) X rfl dL_ofTwo_11 ?_
  refine g_icmp_ne X 19 dL_ofTwo_12 (by decide) (fun c3 => ?_) (fun c3 => ?_)
  · replace hw := hw.1 c3
    refine g_aload_n X 0 dL_ofTwo_19 rfl rfl ?_
    refine g_aload_n X 1 dL_ofTwo_20 rfl rfl ?_
    refine g_aload_n X 2 dL_ofTwo_21 rfl rfl ?_
    refine g_aload_n X 3 dL_ofTwo_22 rfl rfl ?_
    refine g_iload X 4 dL_ofTwo_23 rfl ?_
    refine g_iconst (v := 1) X rfl dL_ofTwo_25 ?_
    refine g_iadd X dL_ofTwo_26 ?_
    refine g_ciS X [wI 40 ct bp ap, wI 20 ct bc ac, wI 24 ct bq aq, wI 7 ct bn an] (fun (_ : Unit) => [wI 40 ct bp ap, wI 20 ct bc ac, wI 24 ct bq aq, wI 7 ct bn an]) (fun _ => fl [wI 40 ct bp ap, wI 20 ct bc ac, wI 24 ct bq aq, wI 7 ct bn an]) 4 [0, 1, 2, 3] [] (kL_crosses l D ct bp bc bq bn ap ac aq an (p5 + 1) _ hw) (va_cwS 5 X.1.2.2.2.2 gL_ofTwo_L_crosses rfl rfl rfl (by decide +kernel) ⟨Nat.le_of_ble_eq_true rfl, Nat.le_of_ble_eq_true rfl⟩) dL_ofTwo_27 rfl rfl (Nat.le_of_ble_eq_true rfl) ⟨Nat.le_of_ble_eq_true rfl, Nat.le_of_ble_eq_true rfl⟩ rfl rfl rfl (by decide) (fun _ => rfl) (fun _ => rfl) (fun _ => rfl) (fun _ => rfl) (fun r4 _ hw => ?_)
    refine g_iadd X dL_ofTwo_30 ?_
    exact g_iret X () hw rfl (Nat.le_of_ble_eq_true rfl) (Nat.le_of_ble_eq_true rfl) dL_ofTwo_31
  · replace hw := hw.2 c3
    refine g_iconst (v := 0) X rfl dL_ofTwo_15 ?_
    refine g_goto X 30 dL_ofTwo_16 (by decide) ?_
    refine g_iadd X dL_ofTwo_30 ?_
    exact g_iret X () hw rfl (Nat.le_of_ble_eq_true rfl) (Nat.le_of_ble_eq_true rfl) dL_ofTwo_31

abbrev rmL_couples : Room := { frames := 0, cells := 0, slots := 0, locals := 0 }

abbrev GL_couples (l : Launch) (D : va_G) (ct : Nat → ClassId) (bc : Nat) (bn : Nat) (ac : Mem) (an : Mem) (post : Int32 → Prop) (p : Program) (e : Env) (s : State) (m : MethodId) (args : Array Value) (below : List Frame) (meth : Method) (c : Code) (A : Nat → Prop) (w9 : va_W) (lv : List (Nat × Value)) (pc : Nat) (st : List Value) : Prop :=
  GG p l e rmL_couples s m args below meth c D A s.heap 5 (MQ below (va_Qi (fun r (_ : Unit) => post r) (fun u9 t9 => Af D (tyz ct) A ((fun _ => fl [wI 20 ct bc ac, wI 7 ct bn an]) u9) t9) A)  args s 0 0 A) w9 0 0 lv pc st

set_option maxHeartbeats 4000000 in
set_option maxRecDepth 20000 in
theorem kL_couples_5 (l : Launch) (D : va_G) (ct : Nat → ClassId) (bc : Nat) (bn : Nat) (ac : Mem) (an : Mem) (post : Int32 → Prop) {p : Program} {e : Env} {s : State} {m : MethodId} {args : Array Value} {below : List Frame} {meth : Method} {c : Code} {A : Nat → Prop} (X : Cx p s m args meth c cL_couples 5 RL wsL_couples D (tyz ct) A s.heap (some .int))  :
    ∀ (n : Nat) (x2 : Int32) (x3 : Int32) (x4 : Int32), PL_couples_5 ac an post n x2 x3 x4 → GL_couples l D ct bc bn ac an post p e s m args below meth c A (fl [wI 20 ct bc ac, wI 7 ct bn an]) [(0, .ref bc), (1, .ref bn), (2, .int x2), (3, .int x3), (4, .int x4)] 5 [] := by
  intro n
  induction n with
  | zero =>
    intro x2 x3 x4 hw
    exact hw.elim
  | succ n ih =>
    intro x2 x3 x4 hw
    unfold PL_couples_5 at hw
    refine g_iload X 4 dL_couples_5 rfl ?_
    refine g_iconst (v := 2) X rfl dL_couples_7 ?_
    refine g_aload_n X 1 dL_couples_8 rfl rfl ?_
    refine g_iconst (v := 1) X rfl dL_couples_9 ?_
    obtain ⟨h1, hw⟩ := hw
    refine g_iald X 1 0 dL_couples_10 rfl rfl h1 ?_
    refine g_imul X dL_couples_11 ?_
    refine g_icmp_ge X 37 dL_couples_12 (by decide) (fun c2 => ?_) (fun c2 => ?_)
    · replace hw := hw.1 c2
      refine g_iload_n X 3 dL_couples_37 rfl rfl ?_
      exact g_iret X () hw rfl (Nat.le_of_ble_eq_true rfl) (Nat.le_of_ble_eq_true rfl) dL_couples_38
    · replace hw := hw.2 c2
      refine g_iload_n X 3 dL_couples_15 rfl rfl ?_
      refine g_aload_n X 0 dL_couples_16 rfl rfl ?_
      refine g_iload X 4 dL_couples_17 rfl ?_
      obtain ⟨h3, hw⟩ := hw
      refine g_iald X 0 0 dL_couples_19 rfl rfl h3 ?_
      refine g_iload_n X 2 dL_couples_20 rfl rfl ?_
      refine g_icmp_ne X 28 dL_couples_21 (by decide) (fun c4 => ?_) (fun c4 => ?_)
      · replace hw := hw.1 c4
        refine g_iconst (v := 0) X rfl dL_couples_28 ?_
        refine g_iadd X dL_couples_29 ?_
        refine g_topi (fun q5 hq5 => ?_)
        replace hw := hw q5 hq5
        refine g_istore_n X [(3, .int q5), (0, .ref bc), (1, .ref bn), (2, .int x2), (4, .int x4)] dL_couples_30 rfl (by decide) rfl ?_
        refine g_iinc X [(4, .int (x4 + 1)), (3, .int q5), (0, .ref bc), (1, .ref bn), (2, .int x2)] 4 dL_couples_31 rfl rfl (by decide) rfl ?_
        refine g_goto X 5 dL_couples_34 (by decide) ?_
        refine g_sub [(0, .ref bc), (1, .ref bn), (2, .int x2), (3, .int q5), (4, .int (x4 + 1))] [2, 3, 4, 1, 0] rfl ?_
        exact ih _ _ _ hw
      · replace hw := hw.2 c4
        refine g_iconst (v := 1) X rfl dL_couples_24 ?_
        refine g_goto X 29 dL_couples_25 (by decide) ?_
        refine g_iadd X dL_couples_29 ?_
        refine g_topi (fun q6 hq6 => ?_)
        replace hw := hw q6 hq6
        refine g_istore_n X [(3, .int q6), (0, .ref bc), (1, .ref bn), (2, .int x2), (4, .int x4)] dL_couples_30 rfl (by decide) rfl ?_
        refine g_iinc X [(4, .int (x4 + 1)), (3, .int q6), (0, .ref bc), (1, .ref bn), (2, .int x2)] 4 dL_couples_31 rfl rfl (by decide) rfl ?_
        refine g_goto X 5 dL_couples_34 (by decide) ?_
        refine g_sub [(0, .ref bc), (1, .ref bn), (2, .int x2), (3, .int q6), (4, .int (x4 + 1))] [2, 3, 4, 1, 0] rfl ?_
        exact ih _ _ _ hw

set_option maxHeartbeats 4000000 in
set_option maxRecDepth 20000 in
theorem kL_couples (l : Launch) (D : va_G) (ct : Nat → ClassId) (bc : Nat) (bn : Nat) (ac : Mem) (an : Mem) (p3 : Int32) (post : Int32 → Prop) (hw : PL_couples ac an p3 post) : Ci (S := Unit) l yL_couples wsL_couples rmL_couples D (tyz ct) [.ref bc, .ref bn, .int p3] (fl [wI 20 ct bc ac, wI 7 ct bn an]) (fun r (_ : Unit) => post r) (fun _ => fl [wI 20 ct bc ac, wI 7 ct bn an]) 0 0 := by
  intro sz
  refine g_of (own := RL) (by decide) rfl rfl (Nat.le_of_ble_eq_true rfl) [(0, .ref bc), (1, .ref bn), (2, .int p3)] rfl (fun p e s m args below meth c hsz X => ?_)
  subst hsz
  unfold PL_couples at hw
  refine g_iconst (v := 0) X rfl dL_couples_0 ?_
  refine g_istore_n X [(3, .int 0), (0, .ref bc), (1, .ref bn), (2, .int p3)] dL_couples_1 rfl (by decide) rfl ?_
  refine g_iconst (v := 0) X rfl dL_couples_2 ?_
  refine g_istore X [(4, .int 0), (3, .int 0), (0, .ref bc), (1, .ref bn), (2, .int p3)] dL_couples_3 (by decide) rfl ?_
  refine g_sub [(0, .ref bc), (1, .ref bn), (2, .int p3), (3, .int 0), (4, .int 0)] [2, 3, 4, 1, 0] rfl ?_
  obtain ⟨n7, hw⟩ := hw
  exact kL_couples_5 l D ct bc bn ac an post X n7 _ _ _ hw

abbrev rmL_ancestors : Room := { frames := 0, cells := 0, slots := 0, locals := 0 }

abbrev GL_ancestors (l : Launch) (D : va_G) (ct : Nat → ClassId) (bp : Nat) (bc : Nat) (bn : Nat) (ap : Mem) (ac : Mem) (an : Mem) (post : Int32 → Prop) (p : Program) (e : Env) (s : State) (m : MethodId) (args : Array Value) (below : List Frame) (meth : Method) (c : Code) (A : Nat → Prop) (w9 : va_W) (lv : List (Nat × Value)) (pc : Nat) (st : List Value) : Prop :=
  GG p l e rmL_ancestors s m args below meth c D A s.heap 8 (MQ below (va_Qi (fun r (_ : Unit) => post r) (fun u9 t9 => Af D (tyz ct) A ((fun _ => fl [wI 40 ct bp ap, wI 20 ct bc ac, wI 7 ct bn an]) u9) t9) A)  args s 0 0 A) w9 0 0 lv pc st

set_option maxHeartbeats 4000000 in
set_option maxRecDepth 20000 in
theorem kL_ancestors_66 (l : Launch) (D : va_G) (ct : Nat → ClassId) (bp : Nat) (bc : Nat) (bn : Nat) (ap : Mem) (ac : Mem) (an : Mem) (post : Int32 → Prop) (K12 : Int32 → Int32 → Int32 → Prop) (K20 : Int32 → Int32 → Int32 → Int32 → Prop) {p : Program} {e : Env} {s : State} {m : MethodId} {args : Array Value} {below : List Frame} {meth : Method} {c : Code} {A : Nat → Prop} (X : Cx p s m args meth c cL_ancestors 8 RL wsL_ancestors D (tyz ct) A s.heap (some .int)) (hK12 : ∀ (x3 : Int32) (x4 : Int32) (x5 : Int32), K12 x3 x4 x5 → GL_ancestors l D ct bp bc bn ap ac an post p e s m args below meth c A (fl [wI 40 ct bp ap, wI 20 ct bc ac, wI 7 ct bn an]) [(0, .ref bp), (1, .ref bc), (2, .ref bn), (3, .int x3), (4, .int x4), (5, .int x5)] 12 []) (hK20 : ∀ (x3 : Int32) (x4 : Int32) (x5 : Int32) (x6 : Int32), K20 x3 x4 x5 x6 → GL_ancestors l D ct bp bc bn ap ac an post p e s m args below meth c A (fl [wI 40 ct bp ap, wI 20 ct bc ac, wI 7 ct bn an]) [(0, .ref bp), (1, .ref bc), (2, .ref bn), (3, .int x3), (4, .int x4), (5, .int x5), (6, .int x6)] 20 []) :
    ∀ (x3 : Int32) (x4 : Int32) (x5 : Int32) (x6 : Int32) (z0 : Int32), PL_ancestors_66 ap ac an post K12 K20 x3 x4 x5 x6 z0 → GL_ancestors l D ct bp bc bn ap ac an post p e s m args below meth c A (fl [wI 40 ct bp ap, wI 20 ct bc ac, wI 7 ct bn an]) [(0, .ref bp), (1, .ref bc), (2, .ref bn), (3, .int x3), (4, .int x4), (5, .int x5), (6, .int x6)] 66 [.int z0] := by
  intro x3 x4 x5 x6 z0 hw
  unfold PL_ancestors_66 at hw
  refine g_istore X [(7, .int z0), (0, .ref bp), (1, .ref bc), (2, .ref bn), (3, .int x3), (4, .int x4), (5, .int x5), (6, .int x6)] dL_ancestors_66 (by decide) rfl ?_
  refine g_iload X 5 dL_ancestors_68 rfl ?_
  refine g_iload X 0 dL_ancestors_70 rfl ?_
  refine g_if_eq X 109 dL_ancestors_72 (by decide) (fun c9 => ?_) (fun c9 => ?_)
  · replace hw := hw.1 c9
    refine g_iconst (v := 0) X rfl dL_ancestors_109 ?_
    refine g_ior X dL_ancestors_110 ?_
    refine g_topi (fun q10 hq10 => ?_)
    replace hw := hw q10 hq10
    refine g_istore X [(4, .int q10), (7, .int z0), (0, .ref bp), (1, .ref bc), (2, .ref bn), (3, .int x3), (5, .int x5), (6, .int x6)] dL_ancestors_111 (by decide) rfl ?_
    refine g_iinc X [(6, .int (x6 + 1)), (4, .int q10), (7, .int z0), (0, .ref bp), (1, .ref bc), (2, .ref bn), (3, .int x3), (5, .int x5)] 7 dL_ancestors_113 rfl rfl (by decide) rfl ?_
    refine g_goto X 20 dL_ancestors_116 (by decide) ?_
    refine g_sub [(0, .ref bp), (1, .ref bc), (2, .ref bn), (3, .int x3), (4, .int q10), (5, .int x5), (6, .int (x6 + 1))] [3, 4, 5, 6, 1, 7, 0] rfl ?_
    exact hK20 _ _ _ _ hw
  · replace hw := hw.2 c9
    refine g_iconst (v := 1) X rfl dL_ancestors_75 ?_
    refine g_aload_n X 2 dL_ancestors_76 rfl rfl ?_
    refine g_iconst (v := 2) X rfl dL_ancestors_77 ?_
    refine g_aload_n X 1 dL_ancestors_78 rfl rfl ?_
    refine g_iconst (v := 2) X rfl dL_ancestors_79 ?_
    refine g_iload X 7 dL_ancestors_80 rfl ?_
    refine g_imul X dL_ancestors_82 ?_
    refine g_iconst (v := 1) X rfl dL_ancestors_83 ?_
    refine g_iadd X dL_ancestors_84 ?_
    obtain ⟨h11, hw⟩ := hw
    refine g_iald X 0 0 dL_ancestors_85 rfl rfl h11 ?_
    refine g_imul X dL_ancestors_86 ?_
    obtain ⟨h12, hw⟩ := hw
    refine g_iald X 1 0 dL_ancestors_87 rfl rfl h12 ?_
    refine g_ishl X dL_ancestors_88 ?_
    refine g_iconst (v := 1) X rfl dL_ancestors_89 ?_
    refine g_aload_n X 2 dL_ancestors_90 rfl rfl ?_
    refine g_iconst (v := 2) X rfl dL_ancestors_91 ?_
    refine g_aload_n X 1 dL_ancestors_92 rfl rfl ?_
    refine g_iconst (v := 2) X rfl dL_ancestors_93 ?_
    refine g_iload X 7 dL_ancestors_94 rfl ?_
    refine g_imul X dL_ancestors_96 ?_
    refine g_iconst (v := 1) X rfl dL_ancestors_97 ?_
    refine g_iadd X dL_ancestors_98 ?_
    obtain ⟨h13, hw⟩ := hw
    refine g_iald X 0 0 dL_ancestors_99 rfl rfl h13 ?_
    refine g_imul X dL_ancestors_100 ?_
    refine g_iconst (v := 1) X rfl dL_ancestors_101 ?_
    refine g_iadd X dL_ancestors_102 ?_
    obtain ⟨h14, hw⟩ := hw
    refine g_iald X 1 0 dL_ancestors_103 rfl rfl h14 ?_
    refine g_ishl X dL_ancestors_104 ?_
    refine g_ior X dL_ancestors_105 ?_
    refine g_goto X 110 dL_ancestors_106 (by decide) ?_
    refine g_ior X dL_ancestors_110 ?_
    refine g_topi (fun q15 hq15 => ?_)
    replace hw := hw q15 hq15
    refine g_istore X [(4, .int q15), (7, .int z0), (0, .ref bp), (1, .ref bc), (2, .ref bn), (3, .int x3), (5, .int x5), (6, .int x6)] dL_ancestors_111 (by decide) rfl ?_
    refine g_iinc X [(6, .int (x6 + 1)), (4, .int q15), (7, .int z0), (0, .ref bp), (1, .ref bc), (2, .ref bn), (3, .int x3), (5, .int x5)] 7 dL_ancestors_113 rfl rfl (by decide) rfl ?_
    refine g_goto X 20 dL_ancestors_116 (by decide) ?_
    refine g_sub [(0, .ref bp), (1, .ref bc), (2, .ref bn), (3, .int x3), (4, .int q15), (5, .int x5), (6, .int (x6 + 1))] [3, 4, 5, 6, 1, 7, 0] rfl ?_
    exact hK20 _ _ _ _ hw

set_option maxHeartbeats 4000000 in
set_option maxRecDepth 20000 in
theorem kL_ancestors_65 (l : Launch) (D : va_G) (ct : Nat → ClassId) (bp : Nat) (bc : Nat) (bn : Nat) (ap : Mem) (ac : Mem) (an : Mem) (post : Int32 → Prop) (K12 : Int32 → Int32 → Int32 → Prop) (K20 : Int32 → Int32 → Int32 → Int32 → Prop) {p : Program} {e : Env} {s : State} {m : MethodId} {args : Array Value} {below : List Frame} {meth : Method} {c : Code} {A : Nat → Prop} (X : Cx p s m args meth c cL_ancestors 8 RL wsL_ancestors D (tyz ct) A s.heap (some .int)) (hK12 : ∀ (x3 : Int32) (x4 : Int32) (x5 : Int32), K12 x3 x4 x5 → GL_ancestors l D ct bp bc bn ap ac an post p e s m args below meth c A (fl [wI 40 ct bp ap, wI 20 ct bc ac, wI 7 ct bn an]) [(0, .ref bp), (1, .ref bc), (2, .ref bn), (3, .int x3), (4, .int x4), (5, .int x5)] 12 []) (hK20 : ∀ (x3 : Int32) (x4 : Int32) (x5 : Int32) (x6 : Int32), K20 x3 x4 x5 x6 → GL_ancestors l D ct bp bc bn ap ac an post p e s m args below meth c A (fl [wI 40 ct bp ap, wI 20 ct bc ac, wI 7 ct bn an]) [(0, .ref bp), (1, .ref bc), (2, .ref bn), (3, .int x3), (4, .int x4), (5, .int x5), (6, .int x6)] 20 []) :
    ∀ (x3 : Int32) (x4 : Int32) (x5 : Int32) (x6 : Int32), PL_ancestors_65 ap ac an post K12 K20 x3 x4 x5 x6 → GL_ancestors l D ct bp bc bn ap ac an post p e s m args below meth c A (fl [wI 40 ct bp ap, wI 20 ct bc ac, wI 7 ct bn an]) [(0, .ref bp), (1, .ref bc), (2, .ref bn), (3, .int x3), (4, .int x4), (5, .int x5), (6, .int x6)] 65 [] := by
  intro x3 x4 x5 x6 hw
  unfold PL_ancestors_65 at hw
  refine g_iconst (v := 0) X rfl dL_ancestors_65 ?_
  refine g_sub [(0, .ref bp), (1, .ref bc), (2, .ref bn), (3, .int x3), (4, .int x4), (5, .int x5), (6, .int x6)] [0, 1, 2, 3, 4, 5, 6] rfl ?_
  exact kL_ancestors_66 l D ct bp bc bn ap ac an post _ _ X hK12 hK20 _ _ _ _ _ hw

set_option maxHeartbeats 4000000 in
set_option maxRecDepth 20000 in
theorem kL_ancestors_20 (l : Launch) (D : va_G) (ct : Nat → ClassId) (bp : Nat) (bc : Nat) (bn : Nat) (ap : Mem) (ac : Mem) (an : Mem) (post : Int32 → Prop) (K12 : Int32 → Int32 → Int32 → Prop) {p : Program} {e : Env} {s : State} {m : MethodId} {args : Array Value} {below : List Frame} {meth : Method} {c : Code} {A : Nat → Prop} (X : Cx p s m args meth c cL_ancestors 8 RL wsL_ancestors D (tyz ct) A s.heap (some .int)) (hK12 : ∀ (x3 : Int32) (x4 : Int32) (x5 : Int32), K12 x3 x4 x5 → GL_ancestors l D ct bp bc bn ap ac an post p e s m args below meth c A (fl [wI 40 ct bp ap, wI 20 ct bc ac, wI 7 ct bn an]) [(0, .ref bp), (1, .ref bc), (2, .ref bn), (3, .int x3), (4, .int x4), (5, .int x5)] 12 []) :
    ∀ (n : Nat) (x3 : Int32) (x4 : Int32) (x5 : Int32) (x6 : Int32), PL_ancestors_20 ap ac an post K12 n x3 x4 x5 x6 → GL_ancestors l D ct bp bc bn ap ac an post p e s m args below meth c A (fl [wI 40 ct bp ap, wI 20 ct bc ac, wI 7 ct bn an]) [(0, .ref bp), (1, .ref bc), (2, .ref bn), (3, .int x3), (4, .int x4), (5, .int x5), (6, .int x6)] 20 [] := by
  intro n
  induction n with
  | zero =>
    intro x3 x4 x5 x6 hw
    exact hw.elim
  | succ n ih =>
    intro x3 x4 x5 x6 hw
    unfold PL_ancestors_20 at hw
    refine g_iload X 6 dL_ancestors_20 rfl ?_
    refine g_aload_n X 2 dL_ancestors_22 rfl rfl ?_
    refine g_iconst (v := 0) X rfl dL_ancestors_23 ?_
    obtain ⟨h5, hw⟩ := hw
    refine g_iald X 2 0 dL_ancestors_24 rfl rfl h5 ?_
    refine g_icmp_ge X 119 dL_ancestors_25 (by decide) (fun c6 => ?_) (fun c6 => ?_)
    · replace hw := hw.1 c6
      refine g_iinc X [(5, .int (x5 + (-1))), (0, .ref bp), (1, .ref bc), (2, .ref bn), (3, .int x3), (4, .int x4), (6, .int x6)] 5 dL_ancestors_119 rfl rfl (by decide) rfl ?_
      refine g_goto X 12 dL_ancestors_122 (by decide) ?_
      refine g_sub [(0, .ref bp), (1, .ref bc), (2, .ref bn), (3, .int x3), (4, .int x4), (5, .int (x5 + (-1)))] [1, 2, 3, 4, 5, 0] rfl ?_
      exact hK12 _ _ _ hw
    · replace hw := hw.2 c6
      refine g_aload_n X 0 dL_ancestors_28 rfl rfl ?_
      refine g_iconst (v := 2) X rfl dL_ancestors_29 ?_
      refine g_iload X 6 dL_ancestors_30 rfl ?_
      refine g_imul X dL_ancestors_32 ?_
      obtain ⟨h7, hw⟩ := hw
      refine g_iald X 0 0 dL_ancestors_33 rfl rfl h7 ?_
      refine g_iload X 5 dL_ancestors_34 rfl ?_
      refine g_icmp_ne X 65 dL_ancestors_36 (by decide) (fun c8 => ?_) (fun c8 => ?_)
      · replace hw := hw.1 c8
        refine g_sub [(0, .ref bp), (1, .ref bc), (2, .ref bn), (3, .int x3), (4, .int x4), (5, .int x5), (6, .int x6)] [0, 1, 2, 3, 4, 5, 6] rfl ?_
        exact kL_ancestors_65 l D ct bp bc bn ap ac an post _ _ X hK12 ih _ _ _ _ hw
      · replace hw := hw.2 c8
        refine g_iload X 4 dL_ancestors_39 rfl ?_
        refine g_iload X 6 dL_ancestors_41 rfl ?_
        refine g_ishr X dL_ancestors_43 ?_
        refine g_iconst (v := 1) X rfl dL_ancestors_44 ?_
        refine g_iand X dL_ancestors_45 ?_
        refine g_iconst (v := 1) X rfl dL_ancestors_46 ?_
        refine g_icmp_ne X 65 dL_ancestors_47 (by decide) (fun c16 => ?_) (fun c16 => ?_)
        · replace hw := hw.1 c16
          refine g_sub [(0, .ref bp), (1, .ref bc), (2, .ref bn), (3, .int x3), (4, .int x4), (5, .int x5), (6, .int x6)] [0, 1, 2, 3, 4, 5, 6] rfl ?_
          exact kL_ancestors_65 l D ct bp bc bn ap ac an post _ _ X hK12 ih _ _ _ _ hw
        · replace hw := hw.2 c16
          refine g_aload_n X 0 dL_ancestors_50 rfl rfl ?_
          refine g_iconst (v := 2) X rfl dL_ancestors_51 ?_
          refine g_iload X 6 dL_ancestors_52 rfl ?_
          refine g_imul X dL_ancestors_54 ?_
          refine g_iconst (v := 1) X rfl dL_ancestors_55 ?_
          refine g_iadd X dL_ancestors_56 ?_
          obtain ⟨h17, hw⟩ := hw
          refine g_iald X 0 0 dL_ancestors_57 rfl rfl h17 ?_
          refine g_if_lt X 65 dL_ancestors_58 (by decide) (fun c18 => ?_) (fun c18 => ?_)
          · replace hw := hw.1 c18
            refine g_sub [(0, .ref bp), (1, .ref bc), (2, .ref bn), (3, .int x3), (4, .int x4), (5, .int x5), (6, .int x6)] [0, 1, 2, 3, 4, 5, 6] rfl ?_
            exact kL_ancestors_65 l D ct bp bc bn ap ac an post _ _ X hK12 ih _ _ _ _ hw
          · replace hw := hw.2 c18
            refine g_iconst (v := 1) X rfl dL_ancestors_61 ?_
            refine g_goto X 66 dL_ancestors_62 (by decide) ?_
            refine g_sub [(0, .ref bp), (1, .ref bc), (2, .ref bn), (3, .int x3), (4, .int x4), (5, .int x5), (6, .int x6)] [0, 1, 2, 3, 4, 5, 6] rfl ?_
            exact kL_ancestors_66 l D ct bp bc bn ap ac an post _ _ X hK12 ih _ _ _ _ _ hw

set_option maxHeartbeats 4000000 in
set_option maxRecDepth 20000 in
theorem kL_ancestors_12 (l : Launch) (D : va_G) (ct : Nat → ClassId) (bp : Nat) (bc : Nat) (bn : Nat) (ap : Mem) (ac : Mem) (an : Mem) (post : Int32 → Prop) {p : Program} {e : Env} {s : State} {m : MethodId} {args : Array Value} {below : List Frame} {meth : Method} {c : Code} {A : Nat → Prop} (X : Cx p s m args meth c cL_ancestors 8 RL wsL_ancestors D (tyz ct) A s.heap (some .int))  :
    ∀ (n : Nat) (x3 : Int32) (x4 : Int32) (x5 : Int32), PL_ancestors_12 ap ac an post n x3 x4 x5 → GL_ancestors l D ct bp bc bn ap ac an post p e s m args below meth c A (fl [wI 40 ct bp ap, wI 20 ct bc ac, wI 7 ct bn an]) [(0, .ref bp), (1, .ref bc), (2, .ref bn), (3, .int x3), (4, .int x4), (5, .int x5)] 12 [] := by
  intro n
  induction n with
  | zero =>
    intro x3 x4 x5 hw
    exact hw.elim
  | succ n ih =>
    intro x3 x4 x5 hw
    unfold PL_ancestors_12 at hw
    refine g_iload X 5 dL_ancestors_12 rfl ?_
    refine g_if_le X 125 dL_ancestors_14 (by decide) (fun c4 => ?_) (fun c4 => ?_)
    · replace hw := hw.1 c4
      refine g_iload X 4 dL_ancestors_125 rfl ?_
      refine g_iconst (v := 1) X rfl dL_ancestors_127 ?_
      refine g_iload_n X 3 dL_ancestors_128 rfl rfl ?_
      refine g_ishl X dL_ancestors_129 ?_
      refine g_iconst (v := (-1)) X rfl dL_ancestors_130 ?_
      refine g_ixor X dL_ancestors_131 ?_
      refine g_iand X dL_ancestors_132 ?_
      exact g_iret X () hw rfl (Nat.le_of_ble_eq_true rfl) (Nat.le_of_ble_eq_true rfl) dL_ancestors_133
    · replace hw := hw.2 c4
      refine g_iconst (v := 0) X rfl dL_ancestors_17 ?_
      refine g_istore X [(6, .int 0), (0, .ref bp), (1, .ref bc), (2, .ref bn), (3, .int x3), (4, .int x4), (5, .int x5)] dL_ancestors_18 (by decide) rfl ?_
      refine g_sub [(0, .ref bp), (1, .ref bc), (2, .ref bn), (3, .int x3), (4, .int x4), (5, .int x5), (6, .int 0)] [1, 2, 3, 4, 5, 6, 0] rfl ?_
      obtain ⟨n19, hw⟩ := hw
      exact kL_ancestors_20 l D ct bp bc bn ap ac an post _ X ih n19 _ _ _ _ hw

set_option maxHeartbeats 4000000 in
set_option maxRecDepth 20000 in
theorem kL_ancestors (l : Launch) (D : va_G) (ct : Nat → ClassId) (bp : Nat) (bc : Nat) (bn : Nat) (ap : Mem) (ac : Mem) (an : Mem) (p4 : Int32) (post : Int32 → Prop) (hw : PL_ancestors ap ac an p4 post) : Ci (S := Unit) l yL_ancestors wsL_ancestors rmL_ancestors D (tyz ct) [.ref bp, .ref bc, .ref bn, .int p4] (fl [wI 40 ct bp ap, wI 20 ct bc ac, wI 7 ct bn an]) (fun r (_ : Unit) => post r) (fun _ => fl [wI 40 ct bp ap, wI 20 ct bc ac, wI 7 ct bn an]) 0 0 := by
  intro sz
  refine g_of (own := RL) (by decide) rfl rfl (Nat.le_of_ble_eq_true rfl) [(0, .ref bp), (1, .ref bc), (2, .ref bn), (3, .int p4)] rfl (fun p e s m args below meth c hsz X => ?_)
  subst hsz
  unfold PL_ancestors at hw
  refine g_iconst (v := 1) X rfl dL_ancestors_0 ?_
  refine g_iload_n X 3 dL_ancestors_1 rfl rfl ?_
  refine g_ishl X dL_ancestors_2 ?_
  refine g_topi (fun q1 hq1 => ?_)
  replace hw := hw q1 hq1
  refine g_istore X [(4, .int q1), (0, .ref bp), (1, .ref bc), (2, .ref bn), (3, .int p4)] dL_ancestors_3 (by decide) rfl ?_
  refine g_aload_n X 1 dL_ancestors_5 rfl rfl ?_
  refine g_iconst (v := 2) X rfl dL_ancestors_6 ?_
  refine g_iload_n X 4 dL_ancestors_7 rfl rfl ?_
  refine g_imul X dL_ancestors_8 ?_
  obtain ⟨h2, hw⟩ := hw
  refine g_iald X 0 0 dL_ancestors_9 rfl rfl h2 ?_
  refine g_topi (fun q3 hq3 => ?_)
  replace hw := hw q3 hq3
  refine g_istore X [(5, .int q3), (4, .int q1), (0, .ref bp), (1, .ref bc), (2, .ref bn), (3, .int p4)] dL_ancestors_10 (by decide) rfl ?_
  refine g_sub [(0, .ref bp), (1, .ref bc), (2, .ref bn), (3, .int p4), (4, .int q1), (5, .int q3)] [2, 3, 4, 5, 1, 0] rfl ?_
  obtain ⟨n20, hw⟩ := hw
  exact kL_ancestors_12 l D ct bp bc bn ap ac an post X n20 _ _ _ hw

abbrev rmL_ones : Room := { frames := 0, cells := 0, slots := 0, locals := 0 }

abbrev GL_ones (l : Launch) (D : va_G) (ct : Nat → ClassId) (post : Int32 → Prop) (p : Program) (e : Env) (s : State) (m : MethodId) (args : Array Value) (below : List Frame) (meth : Method) (c : Code) (A : Nat → Prop) (w9 : va_W) (lv : List (Nat × Value)) (pc : Nat) (st : List Value) : Prop :=
  GG p l e rmL_ones s m args below meth c D A s.heap 3 (MQ below (va_Qi (fun r (_ : Unit) => post r) (fun u9 t9 => Af D (tyz ct) A ((fun _ => ([] : va_W)) u9) t9) A)  args s 0 0 A) w9 0 0 lv pc st

set_option maxHeartbeats 4000000 in
set_option maxRecDepth 20000 in
theorem kL_ones_4 (l : Launch) (D : va_G) (ct : Nat → ClassId) (post : Int32 → Prop) {p : Program} {e : Env} {s : State} {m : MethodId} {args : Array Value} {below : List Frame} {meth : Method} {c : Code} {A : Nat → Prop} (X : Cx p s m args meth c cL_ones 3 RL wsL_ones D (tyz ct) A s.heap (some .int))  :
    ∀ (n : Nat) (x1 : Int32) (x2 : Int32), PL_ones_4 post n x1 x2 → GL_ones l D ct   post p e s m args below meth c A (([] : va_W)) [(1, .int x1), (2, .int x2)] 4 [] := by
  intro n
  induction n with
  | zero =>
    intro x1 x2 hw
    exact hw.elim
  | succ n ih =>
    intro x1 x2 hw
    unfold PL_ones_4 at hw
    refine g_iload_n X 1 dL_ones_4 rfl rfl ?_
    refine g_if_eq X 20 dL_ones_5 (by decide) (fun c1 => ?_) (fun c1 => ?_)
    · replace hw := hw.1 c1
      refine g_iload_n X 0 dL_ones_20 rfl rfl ?_
      exact g_iret X () hw rfl (Nat.le_of_ble_eq_true rfl) (Nat.le_of_ble_eq_true rfl) dL_ones_21
    · replace hw := hw.2 c1
      refine g_iinc X [(1, .int (x1 + 1)), (2, .int x2)] 0 dL_ones_8 rfl rfl (by decide) rfl ?_
      refine g_iload_n X 1 dL_ones_11 rfl rfl ?_
      refine g_iload_n X 1 dL_ones_12 rfl rfl ?_
      refine g_iconst (v := 1) X rfl dL_ones_13 ?_
      refine g_isub X dL_ones_14 ?_
      refine g_iand X dL_ones_15 ?_
      refine g_topi (fun q2 hq2 => ?_)
      replace hw := hw q2 hq2
      refine g_istore_n X [(2, .int q2), (1, .int (x1 + 1))] dL_ones_16 rfl (by decide) rfl ?_
      refine g_goto X 4 dL_ones_17 (by decide) ?_
      refine g_sub [(1, .int (x1 + 1)), (2, .int q2)] [1, 0] rfl ?_
      exact ih _ _ hw

set_option maxHeartbeats 4000000 in
set_option maxRecDepth 20000 in
theorem kL_ones (l : Launch) (D : va_G) (ct : Nat → ClassId) (p1 : Int32) (post : Int32 → Prop) (hw : PL_ones p1 post) : Ci (S := Unit) l yL_ones wsL_ones rmL_ones D (tyz ct) [.int p1] (([] : va_W)) (fun r (_ : Unit) => post r) (fun _ => ([] : va_W)) 0 0 := by
  intro sz
  refine g_of (own := RL) (by decide) rfl rfl (Nat.le_of_ble_eq_true rfl) [(0, .int p1)] rfl (fun p e s m args below meth c hsz X => ?_)
  subst hsz
  unfold PL_ones at hw
  refine g_iconst (v := 0) X rfl dL_ones_0 ?_
  refine g_istore_n X [(1, .int 0), (0, .int p1)] dL_ones_1 rfl (by decide) rfl ?_
  refine g_iload_n X 1 dL_ones_2 rfl rfl ?_
  refine g_istore_n X [(2, .int p1), (1, .int 0), (0, .int p1)] dL_ones_3 rfl (by decide) rfl ?_
  refine g_sub [(1, .int 0), (2, .int p1)] [1, 0] rfl ?_
  obtain ⟨n3, hw⟩ := hw
  exact kL_ones_4 l D ct post X n3 _ _ hw

abbrev rmL_lays : Room := { frames := 1, cells := 0, slots := 0, locals := 22 }

abbrev GL_lays (l : Launch) (D : va_G) (ct : Nat → ClassId) (bq : Nat) (bn : Nat) (an : Mem) (post : Mem → Prop) (p : Program) (e : Env) (s : State) (m : MethodId) (args : Array Value) (below : List Frame) (meth : Method) (c : Code) (A : Nat → Prop) (w9 : va_W) (lv : List (Nat × Value)) (pc : Nat) (st : List Value) : Prop :=
  GG p l e rmL_lays s m args below meth c D A s.heap 12 (MQ below (va_Qv (fun (u9 : Mem) => post u9) (fun u9 t9 => Af D (tyz ct) A ((fun u9 => fl [wI 24 ct bq u9, wI 7 ct bn an]) u9) t9) A)  args s 0 0 A) w9 0 0 lv pc st

set_option maxHeartbeats 4000000 in
set_option maxRecDepth 20000 in
theorem kL_lays_105 (l : Launch) (D : va_G) (ct : Nat → ClassId) (bq : Nat) (bn : Nat) (an : Mem) (post : Mem → Prop) (K48 : Mem → Int32 → Int32 → Int32 → Int32 → Int32 → Prop) {p : Program} {e : Env} {s : State} {m : MethodId} {args : Array Value} {below : List Frame} {meth : Method} {c : Code} {A : Nat → Prop} (X : Cx p s m args meth c cL_lays 12 RL wsL_lays D (tyz ct) A s.heap none) (hK48 : ∀ (aq : Mem) (x2 : Int32) (x4 : Int32) (x5 : Int32) (x6 : Int32) (x7 : Int32), K48 aq x2 x4 x5 x6 x7 → GL_lays l D ct bq bn an post p e s m args below meth c A (fl [wI 24 ct bq aq, wI 7 ct bn an]) [(0, .ref bq), (2, .int x2), (4, .int x4), (5, .int x5), (6, .int x6), (7, .int x7)] 48 []) :
    ∀ (n : Nat) (aq : Mem) (x2 : Int32) (x4 : Int32) (x5 : Int32) (x6 : Int32) (x7 : Int32) (x9 : Int32) (x10 : Int32) (x11 : Int32), PL_lays_105 an post K48 n aq x2 x4 x5 x6 x7 x9 x10 x11 → GL_lays l D ct bq bn an post p e s m args below meth c A (fl [wI 24 ct bq aq, wI 7 ct bn an]) [(0, .ref bq), (2, .int x2), (4, .int x4), (5, .int x5), (6, .int x6), (7, .int x7), (9, .int x9), (10, .int x10), (11, .int x11)] 105 [] := by
  intro n
  induction n with
  | zero =>
    intro aq x2 x4 x5 x6 x7 x9 x10 x11 hw
    exact hw.elim
  | succ n ih =>
    intro aq x2 x4 x5 x6 x7 x9 x10 x11 hw
    unfold PL_lays_105 at hw
    refine g_iload X 8 dL_lays_105 rfl ?_
    refine g_if_lt X 153 dL_lays_107 (by decide) (fun c10 => ?_) (fun c10 => ?_)
    · replace hw := hw.1 c10
      refine g_aload_n X 0 dL_lays_153 rfl rfl ?_
      refine g_bipush (v := 6) X rfl dL_lays_154 ?_
      refine g_iload_n X 1 dL_lays_156 rfl rfl ?_
      refine g_imul X dL_lays_157 ?_
      refine g_iload X 5 dL_lays_158 rfl ?_
      refine g_iadd X dL_lays_160 ?_
      refine g_iload X 7 dL_lays_161 rfl ?_
      obtain ⟨h11, hw⟩ := hw
      refine g_iast X (fun z => fl [wI 24 ct bq z, wI 7 ct bn an]) aq 0 0 0 dL_lays_163 rfl rfl h11 rfl (fun aq12 haq12 => ?_)
      replace hw := hw aq12 haq12
      refine g_iload X 3 dL_lays_164 rfl ?_
      refine g_iconst (v := 1) X rfl dL_lays_166 ?_
      refine g_iload X 7 dL_lays_167 rfl ?_
      refine g_ishl X dL_lays_169 ?_
      refine g_iconst (v := (-1)) X rfl dL_lays_170 ?_
      refine g_ixor X dL_lays_171 ?_
      refine g_iand X dL_lays_172 ?_
      refine g_topi (fun q13 hq13 => ?_)
      replace hw := hw q13 hq13
      refine g_istore X [(5, .int q13), (0, .ref bq), (2, .int x2), (4, .int x4), (6, .int x6), (7, .int x7), (9, .int x9), (10, .int x10), (11, .int x11)] dL_lays_173 (by decide) rfl ?_
      refine g_iinc X [(7, .int (x7 + 1)), (5, .int q13), (0, .ref bq), (2, .int x2), (4, .int x4), (6, .int x6), (9, .int x9), (10, .int x10), (11, .int x11)] 5 dL_lays_175 rfl rfl (by decide) rfl ?_
      refine g_goto X 48 dL_lays_178 (by decide) ?_
      refine g_sub [(0, .ref bq), (2, .int x2), (4, .int x4), (5, .int q13), (6, .int x6), (7, .int (x7 + 1))] [2, 3, 4, 1, 5, 0] rfl ?_
      exact hK48 _ _ _ _ _ _ hw
    · replace hw := hw.2 c10
      refine g_iload X 3 dL_lays_110 rfl ?_
      refine g_iload X 8 dL_lays_112 rfl ?_
      refine g_ishr X dL_lays_114 ?_
      refine g_iconst (v := 1) X rfl dL_lays_115 ?_
      refine g_iand X dL_lays_116 ?_
      refine g_iconst (v := 1) X rfl dL_lays_117 ?_
      refine g_icmp_ne X 143 dL_lays_118 (by decide) (fun c14 => ?_) (fun c14 => ?_)
      · replace hw := hw.1 c14
        refine g_iload X 7 dL_lays_143 rfl ?_
        refine g_istore X [(10, .int x10), (0, .ref bq), (2, .int x2), (4, .int x4), (5, .int x5), (6, .int x6), (7, .int x7), (9, .int x9), (11, .int x11)] dL_lays_145 (by decide) rfl ?_
        refine g_iinc X [(11, .int (x11 + (-1))), (10, .int x10), (0, .ref bq), (2, .int x2), (4, .int x4), (5, .int x5), (6, .int x6), (7, .int x7), (9, .int x9)] 8 dL_lays_147 rfl rfl (by decide) rfl ?_
        refine g_goto X 105 dL_lays_150 (by decide) ?_
        refine g_sub [(0, .ref bq), (2, .int x2), (4, .int x4), (5, .int x5), (6, .int x6), (7, .int x7), (9, .int x9), (10, .int x10), (11, .int (x11 + (-1)))] [2, 3, 4, 5, 6, 7, 8, 1, 0] rfl ?_
        exact ih _ _ _ _ _ _ _ _ _ hw
      · replace hw := hw.2 c14
        refine g_iload X 3 dL_lays_121 rfl ?_
        refine g_iconst (v := 1) X rfl dL_lays_123 ?_
        refine g_iload X 8 dL_lays_124 rfl ?_
        refine g_ishl X dL_lays_126 ?_
        refine g_iconst (v := 1) X rfl dL_lays_127 ?_
        refine g_isub X dL_lays_128 ?_
        refine g_iand X dL_lays_129 ?_
        refine g_ciS X [wI 24 ct bq aq, wI 7 ct bn an] (fun (_ : Unit) => [wI 24 ct bq aq, wI 7 ct bn an]) (fun _ => fl [wI 24 ct bq aq, wI 7 ct bn an]) 2 [] [0, 1] (kL_ones l D ct  (x5 &&& ((1 <<< (x11 &&& 31)) - 1)) _ hw) (va_cwS 1 X.1.2.2.2.2 gL_lays_L_ones rfl rfl rfl (by decide +kernel) ⟨Nat.le_of_ble_eq_true rfl, Nat.le_of_ble_eq_true rfl⟩) dL_lays_130 rfl rfl (Nat.le_of_ble_eq_true rfl) ⟨Nat.le_of_ble_eq_true rfl, Nat.le_of_ble_eq_true rfl⟩ rfl rfl rfl (by decide) (fun _ => rfl) (fun _ => rfl) (fun _ => rfl) (fun _ => rfl) (fun r15 _ hw => ?_)
        refine g_iload X 6 dL_lays_133 rfl ?_
        refine g_icmp_ne X 143 dL_lays_135 (by decide) (fun c17 => ?_) (fun c17 => ?_)
        · replace hw := hw.1 c17
          refine g_iload X 7 dL_lays_143 rfl ?_
          refine g_istore X [(10, .int x10), (0, .ref bq), (2, .int x2), (4, .int x4), (5, .int x5), (6, .int x6), (7, .int x7), (9, .int x9), (11, .int x11)] dL_lays_145 (by decide) rfl ?_
          refine g_iinc X [(11, .int (x11 + (-1))), (10, .int x10), (0, .ref bq), (2, .int x2), (4, .int x4), (5, .int x5), (6, .int x6), (7, .int x7), (9, .int x9)] 8 dL_lays_147 rfl rfl (by decide) rfl ?_
          refine g_goto X 105 dL_lays_150 (by decide) ?_
          refine g_sub [(0, .ref bq), (2, .int x2), (4, .int x4), (5, .int x5), (6, .int x6), (7, .int x7), (9, .int x9), (10, .int x10), (11, .int (x11 + (-1)))] [2, 3, 4, 5, 6, 7, 8, 1, 0] rfl ?_
          exact ih _ _ _ _ _ _ _ _ _ hw
        · replace hw := hw.2 c17
          refine g_iload X 8 dL_lays_138 rfl ?_
          refine g_goto X 145 dL_lays_140 (by decide) ?_
          refine g_istore X [(10, .int x11), (0, .ref bq), (2, .int x2), (4, .int x4), (5, .int x5), (6, .int x6), (7, .int x7), (9, .int x9), (11, .int x11)] dL_lays_145 (by decide) rfl ?_
          refine g_iinc X [(11, .int (x11 + (-1))), (10, .int x11), (0, .ref bq), (2, .int x2), (4, .int x4), (5, .int x5), (6, .int x6), (7, .int x7), (9, .int x9)] 8 dL_lays_147 rfl rfl (by decide) rfl ?_
          refine g_goto X 105 dL_lays_150 (by decide) ?_
          refine g_sub [(0, .ref bq), (2, .int x2), (4, .int x4), (5, .int x5), (6, .int x6), (7, .int x7), (9, .int x9), (10, .int x11), (11, .int (x11 + (-1)))] [2, 3, 4, 5, 6, 7, 8, 1, 0] rfl ?_
          exact ih _ _ _ _ _ _ _ _ _ hw

set_option maxHeartbeats 4000000 in
set_option maxRecDepth 20000 in
theorem kL_lays_61 (l : Launch) (D : va_G) (ct : Nat → ClassId) (bq : Nat) (bn : Nat) (an : Mem) (post : Mem → Prop) (K48 : Mem → Int32 → Int32 → Int32 → Int32 → Int32 → Prop) {p : Program} {e : Env} {s : State} {m : MethodId} {args : Array Value} {below : List Frame} {meth : Method} {c : Code} {A : Nat → Prop} (X : Cx p s m args meth c cL_lays 12 RL wsL_lays D (tyz ct) A s.heap none) (hK48 : ∀ (aq : Mem) (x2 : Int32) (x4 : Int32) (x5 : Int32) (x6 : Int32) (x7 : Int32), K48 aq x2 x4 x5 x6 x7 → GL_lays l D ct bq bn an post p e s m args below meth c A (fl [wI 24 ct bq aq, wI 7 ct bn an]) [(0, .ref bq), (2, .int x2), (4, .int x4), (5, .int x5), (6, .int x6), (7, .int x7)] 48 []) :
    ∀ (n : Nat) (aq : Mem) (x2 : Int32) (x4 : Int32) (x5 : Int32) (x6 : Int32) (x7 : Int32) (x8 : Int32) (x9 : Int32), PL_lays_61 an post K48 n aq x2 x4 x5 x6 x7 x8 x9 → GL_lays l D ct bq bn an post p e s m args below meth c A (fl [wI 24 ct bq aq, wI 7 ct bn an]) [(0, .ref bq), (2, .int x2), (4, .int x4), (5, .int x5), (6, .int x6), (7, .int x7), (8, .int x8), (9, .int x9)] 61 [] := by
  intro n
  induction n with
  | zero =>
    intro aq x2 x4 x5 x6 x7 x8 x9 hw
    exact hw.elim
  | succ n ih =>
    intro aq x2 x4 x5 x6 x7 x8 x9 hw
    unfold PL_lays_61 at hw
    refine g_iload X 7 dL_lays_61 rfl ?_
    refine g_iload X 2 dL_lays_63 rfl ?_
    refine g_iload X 5 dL_lays_65 rfl ?_
    refine g_isub X dL_lays_67 ?_
    refine g_icmp_ge X 84 dL_lays_68 (by decide) (fun c5 => ?_) (fun c5 => ?_)
    · replace hw := hw.1 c5
      refine g_iload X 4 dL_lays_84 rfl ?_
      refine g_iload X 6 dL_lays_86 rfl ?_
      obtain ⟨h6, hw⟩ := hw
      refine g_idiv X h6 dL_lays_88 ?_
      refine g_topi (fun q7 hq7 => ?_)
      replace hw := hw q7 hq7
      refine g_istore X [(9, .int q7), (0, .ref bq), (2, .int x2), (4, .int x4), (5, .int x5), (6, .int x6), (7, .int x7), (8, .int x8)] dL_lays_89 (by decide) rfl ?_
      refine g_iload X 5 dL_lays_91 rfl ?_
      refine g_iload X 7 dL_lays_93 rfl ?_
      obtain ⟨h8, hw⟩ := hw
      refine g_irem X h8 dL_lays_95 ?_
      refine g_topi (fun q9 hq9 => ?_)
      replace hw := hw q9 hq9
      refine g_istore X [(6, .int q9), (9, .int q7), (0, .ref bq), (2, .int x2), (4, .int x4), (5, .int x5), (7, .int x7), (8, .int x8)] dL_lays_96 (by decide) rfl ?_
      refine g_iconst (v := 0) X rfl dL_lays_98 ?_
      refine g_istore X [(10, .int 0), (6, .int q9), (9, .int q7), (0, .ref bq), (2, .int x2), (4, .int x4), (5, .int x5), (7, .int x7), (8, .int x8)] dL_lays_99 (by decide) rfl ?_
      refine g_bipush (v := 19) X rfl dL_lays_101 ?_
      refine g_istore X [(11, .int 19), (10, .int 0), (6, .int q9), (9, .int q7), (0, .ref bq), (2, .int x2), (4, .int x4), (5, .int x5), (7, .int x7), (8, .int x8)] dL_lays_103 (by decide) rfl ?_
      refine g_sub [(0, .ref bq), (2, .int x2), (4, .int x4), (5, .int x5), (6, .int q9), (7, .int x7), (9, .int q7), (10, .int 0), (11, .int 19)] [4, 5, 6, 7, 2, 8, 3, 1, 0] rfl ?_
      obtain ⟨n18, hw⟩ := hw
      exact kL_lays_105 l D ct bq bn an post _ X hK48 n18 _ _ _ _ _ _ _ _ _ hw
    · replace hw := hw.2 c5
      refine g_iload X 6 dL_lays_71 rfl ?_
      refine g_iload X 7 dL_lays_73 rfl ?_
      refine g_imul X dL_lays_75 ?_
      refine g_topi (fun q19 hq19 => ?_)
      replace hw := hw q19 hq19
      refine g_istore X [(8, .int q19), (0, .ref bq), (2, .int x2), (4, .int x4), (5, .int x5), (6, .int x6), (7, .int x7), (9, .int x9)] dL_lays_76 (by decide) rfl ?_
      refine g_iinc X [(9, .int (x9 + 1)), (8, .int q19), (0, .ref bq), (2, .int x2), (4, .int x4), (5, .int x5), (6, .int x6), (7, .int x7)] 7 dL_lays_78 rfl rfl (by decide) rfl ?_
      refine g_goto X 61 dL_lays_81 (by decide) ?_
      refine g_sub [(0, .ref bq), (2, .int x2), (4, .int x4), (5, .int x5), (6, .int x6), (7, .int x7), (8, .int q19), (9, .int (x9 + 1))] [2, 3, 4, 5, 6, 7, 1, 0] rfl ?_
      exact ih _ _ _ _ _ _ _ _ hw

set_option maxHeartbeats 4000000 in
set_option maxRecDepth 20000 in
theorem kL_lays_48 (l : Launch) (D : va_G) (ct : Nat → ClassId) (bq : Nat) (bn : Nat) (an : Mem) (post : Mem → Prop) {p : Program} {e : Env} {s : State} {m : MethodId} {args : Array Value} {below : List Frame} {meth : Method} {c : Code} {A : Nat → Prop} (X : Cx p s m args meth c cL_lays 12 RL wsL_lays D (tyz ct) A s.heap none)  :
    ∀ (n : Nat) (aq : Mem) (x2 : Int32) (x4 : Int32) (x5 : Int32) (x6 : Int32) (x7 : Int32), PL_lays_48 an post n aq x2 x4 x5 x6 x7 → GL_lays l D ct bq bn an post p e s m args below meth c A (fl [wI 24 ct bq aq, wI 7 ct bn an]) [(0, .ref bq), (2, .int x2), (4, .int x4), (5, .int x5), (6, .int x6), (7, .int x7)] 48 [] := by
  intro n
  induction n with
  | zero =>
    intro aq x2 x4 x5 x6 x7 hw
    exact hw.elim
  | succ n ih =>
    intro aq x2 x4 x5 x6 x7 hw
    unfold PL_lays_48 at hw
    refine g_iload X 5 dL_lays_48 rfl ?_
    refine g_iload X 2 dL_lays_50 rfl ?_
    refine g_icmp_ge X 181 dL_lays_52 (by decide) (fun c4 => ?_) (fun c4 => ?_)
    · replace hw := hw.1 c4
      exact g_vret X aq hw rfl (Nat.le_of_ble_eq_true rfl) (Nat.le_of_ble_eq_true rfl) dL_lays_181
    · replace hw := hw.2 c4
      refine g_iconst (v := 1) X rfl dL_lays_55 ?_
      refine g_istore X [(8, .int 1), (0, .ref bq), (2, .int x2), (4, .int x4), (5, .int x5), (6, .int x6), (7, .int x7)] dL_lays_56 (by decide) rfl ?_
      refine g_iconst (v := 2) X rfl dL_lays_58 ?_
      refine g_istore X [(9, .int 2), (8, .int 1), (0, .ref bq), (2, .int x2), (4, .int x4), (5, .int x5), (6, .int x6), (7, .int x7)] dL_lays_59 (by decide) rfl ?_
      refine g_sub [(0, .ref bq), (2, .int x2), (4, .int x4), (5, .int x5), (6, .int x6), (7, .int x7), (8, .int 1), (9, .int 2)] [2, 3, 4, 5, 6, 7, 1, 0] rfl ?_
      obtain ⟨n20, hw⟩ := hw
      exact kL_lays_61 l D ct bq bn an post _ X ih n20 _ _ _ _ _ _ _ _ hw

set_option maxHeartbeats 4000000 in
set_option maxRecDepth 20000 in
theorem kL_lays_13 (l : Launch) (D : va_G) (ct : Nat → ClassId) (bq : Nat) (bn : Nat) (an : Mem) (post : Mem → Prop) {p : Program} {e : Env} {s : State} {m : MethodId} {args : Array Value} {below : List Frame} {meth : Method} {c : Code} {A : Nat → Prop} (X : Cx p s m args meth c cL_lays 12 RL wsL_lays D (tyz ct) A s.heap none)  :
    ∀ (n : Nat) (aq : Mem) (x2 : Int32) (x3 : Int32) (x4 : Int32) (x5 : Int32) (x6 : Int32), PL_lays_13 an post n aq x2 x3 x4 x5 x6 → GL_lays l D ct bq bn an post p e s m args below meth c A (fl [wI 24 ct bq aq, wI 7 ct bn an]) [(0, .ref bq), (2, .int x2), (3, .int x3), (4, .int x4), (5, .int x5), (6, .int x6)] 13 [] := by
  intro n
  induction n with
  | zero =>
    intro aq x2 x3 x4 x5 x6 hw
    exact hw.elim
  | succ n ih =>
    intro aq x2 x3 x4 x5 x6 hw
    unfold PL_lays_13 at hw
    refine g_iload X 5 dL_lays_13 rfl ?_
    refine g_iload X 3 dL_lays_15 rfl ?_
    refine g_icmp_ge X 42 dL_lays_17 (by decide) (fun c3 => ?_) (fun c3 => ?_)
    · replace hw := hw.1 c3
      refine g_iload_n X 2 dL_lays_42 rfl rfl ?_
      refine g_istore X [(6, .int x3), (0, .ref bq), (2, .int x2), (3, .int x3), (4, .int x4), (5, .int x5)] dL_lays_43 (by decide) rfl ?_
      refine g_iconst (v := 0) X rfl dL_lays_45 ?_
      refine g_istore X [(7, .int 0), (6, .int x3), (0, .ref bq), (2, .int x2), (3, .int x3), (4, .int x4), (5, .int x5)] dL_lays_46 (by decide) rfl ?_
      refine g_sub [(0, .ref bq), (2, .int x2), (4, .int x4), (5, .int x5), (6, .int x3), (7, .int 0)] [2, 3, 5, 6, 1, 0] rfl ?_
      obtain ⟨n21, hw⟩ := hw
      exact kL_lays_48 l D ct bq bn an post X n21 _ _ _ _ _ _ hw
    · replace hw := hw.2 c3
      refine g_iload X 4 dL_lays_20 rfl ?_
      refine g_iconst (v := 1) X rfl dL_lays_22 ?_
      refine g_aload_n X 0 dL_lays_23 rfl rfl ?_
      refine g_bipush (v := 6) X rfl dL_lays_24 ?_
      refine g_iload_n X 1 dL_lays_26 rfl rfl ?_
      refine g_imul X dL_lays_27 ?_
      refine g_iload X 5 dL_lays_28 rfl ?_
      refine g_iadd X dL_lays_30 ?_
      obtain ⟨h22, hw⟩ := hw
      refine g_iald X 0 0 dL_lays_31 rfl rfl h22 ?_
      refine g_ishl X dL_lays_32 ?_
      refine g_ior X dL_lays_33 ?_
      refine g_topi (fun q23 hq23 => ?_)
      replace hw := hw q23 hq23
      refine g_istore X [(5, .int q23), (0, .ref bq), (2, .int x2), (3, .int x3), (4, .int x4), (6, .int x6)] dL_lays_34 (by decide) rfl ?_
      refine g_iinc X [(6, .int (x6 + 1)), (5, .int q23), (0, .ref bq), (2, .int x2), (3, .int x3), (4, .int x4)] 5 dL_lays_36 rfl rfl (by decide) rfl ?_
      refine g_goto X 13 dL_lays_39 (by decide) ?_
      refine g_sub [(0, .ref bq), (2, .int x2), (3, .int x3), (4, .int x4), (5, .int q23), (6, .int (x6 + 1))] [2, 3, 4, 5, 1, 0] rfl ?_
      exact ih _ _ _ _ _ _ hw

set_option maxHeartbeats 4000000 in
set_option maxRecDepth 20000 in
theorem kL_lays (l : Launch) (D : va_G) (ct : Nat → ClassId) (bq : Nat) (bn : Nat) (aq : Mem) (an : Mem) (p3 : Int32) (p4 : Int32) (post : Mem → Prop) (hw : PL_lays aq an p3 p4 post) : Cv (S := Mem) l yL_lays wsL_lays rmL_lays D (tyz ct) [.ref bq, .ref bn, .int p3, .int p4] (fl [wI 24 ct bq aq, wI 7 ct bn an]) (fun (u9 : Mem) => post u9) (fun u9 => fl [wI 24 ct bq u9, wI 7 ct bn an]) 0 0 := by
  intro sz
  refine g_of (own := RL) (by decide) rfl rfl (Nat.le_of_ble_eq_true rfl) [(0, .ref bq), (1, .ref bn), (2, .int p3), (3, .int p4)] rfl (fun p e s m args below meth c hsz X => ?_)
  subst hsz
  unfold PL_lays at hw
  refine g_aload_n X 1 dL_lays_0 rfl rfl ?_
  refine g_iconst (v := 3) X rfl dL_lays_1 ?_
  refine g_iload_n X 2 dL_lays_2 rfl rfl ?_
  refine g_iadd X dL_lays_3 ?_
  obtain ⟨h1, hw⟩ := hw
  refine g_iald X 1 0 dL_lays_4 rfl rfl h1 ?_
  refine g_topi (fun q2 hq2 => ?_)
  replace hw := hw q2 hq2
  refine g_istore X [(4, .int q2), (0, .ref bq), (1, .ref bn), (2, .int p3), (3, .int p4)] dL_lays_5 (by decide) rfl ?_
  refine g_iconst (v := 0) X rfl dL_lays_7 ?_
  refine g_istore X [(5, .int 0), (4, .int q2), (0, .ref bq), (1, .ref bn), (2, .int p3), (3, .int p4)] dL_lays_8 (by decide) rfl ?_
  refine g_iconst (v := 0) X rfl dL_lays_10 ?_
  refine g_istore X [(6, .int 0), (5, .int 0), (4, .int q2), (0, .ref bq), (1, .ref bn), (2, .int p3), (3, .int p4)] dL_lays_11 (by decide) rfl ?_
  refine g_sub [(0, .ref bq), (2, .int p3), (3, .int p4), (4, .int q2), (5, .int 0), (6, .int 0)] [3, 5, 6, 2, 1, 0] rfl ?_
  obtain ⟨n24, hw⟩ := hw
  exact kL_lays_13 l D ct bq bn an post X n24 _ _ _ _ _ _ hw

abbrev rmL_copy : Room := { frames := 0, cells := 0, slots := 0, locals := 0 }

abbrev GL_copy (l : Launch) (D : va_G) (ct : Nat → ClassId) (bq : Nat) (br : Nat) (aq : Mem) (post : Mem → Prop) (p : Program) (e : Env) (s : State) (m : MethodId) (args : Array Value) (below : List Frame) (meth : Method) (c : Code) (A : Nat → Prop) (w9 : va_W) (lv : List (Nat × Value)) (pc : Nat) (st : List Value) : Prop :=
  GG p l e rmL_copy s m args below meth c D A s.heap 3 (MQ below (va_Qv (fun (u9 : Mem) => post u9) (fun u9 t9 => Af D (tyz ct) A ((fun u9 => fl [wI 24 ct bq aq, wI 24 ct br u9]) u9) t9) A)  args s 0 0 A) w9 0 0 lv pc st

set_option maxHeartbeats 4000000 in
set_option maxRecDepth 20000 in
theorem kL_copy_2 (l : Launch) (D : va_G) (ct : Nat → ClassId) (bq : Nat) (br : Nat) (aq : Mem) (post : Mem → Prop) {p : Program} {e : Env} {s : State} {m : MethodId} {args : Array Value} {below : List Frame} {meth : Method} {c : Code} {A : Nat → Prop} (X : Cx p s m args meth c cL_copy 3 RL wsL_copy D (tyz ct) A s.heap none)  :
    ∀ (n : Nat) (ar : Mem) (x2 : Int32), PL_copy_2 aq post n ar x2 → GL_copy l D ct bq br aq post p e s m args below meth c A (fl [wI 24 ct bq aq, wI 24 ct br ar]) [(0, .ref bq), (1, .ref br), (2, .int x2)] 2 [] := by
  intro n
  induction n with
  | zero =>
    intro ar x2 hw
    exact hw.elim
  | succ n ih =>
    intro ar x2 hw
    unfold PL_copy_2 at hw
    refine g_iload_n X 2 dL_copy_2 rfl rfl ?_
    refine g_aload_n X 0 dL_copy_3 rfl rfl ?_
    refine g_alen (v := 24) X 0 0 dL_copy_4 rfl rfl rfl ?_
    refine g_icmp_ge X 20 dL_copy_5 (by decide) (fun c1 => ?_) (fun c1 => ?_)
    · replace hw := hw.1 c1
      exact g_vret X ar hw rfl (Nat.le_of_ble_eq_true rfl) (Nat.le_of_ble_eq_true rfl) dL_copy_20
    · replace hw := hw.2 c1
      refine g_aload_n X 1 dL_copy_8 rfl rfl ?_
      refine g_iload_n X 2 dL_copy_9 rfl rfl ?_
      refine g_aload_n X 0 dL_copy_10 rfl rfl ?_
      refine g_iload_n X 2 dL_copy_11 rfl rfl ?_
      obtain ⟨h2, hw⟩ := hw
      refine g_iald X 0 0 dL_copy_12 rfl rfl h2 ?_
      obtain ⟨h3, hw⟩ := hw
      refine g_iast X (fun z => fl [wI 24 ct bq aq, wI 24 ct br z]) ar 0 1 0 dL_copy_13 rfl rfl h3 rfl (fun ar4 har4 => ?_)
      replace hw := hw ar4 har4
      refine g_iinc X [(2, .int (x2 + 1)), (0, .ref bq), (1, .ref br)] 2 dL_copy_14 rfl rfl (by decide) rfl ?_
      refine g_goto X 2 dL_copy_17 (by decide) ?_
      refine g_sub [(0, .ref bq), (1, .ref br), (2, .int (x2 + 1))] [1, 2, 0] rfl ?_
      exact ih _ _ hw

set_option maxHeartbeats 4000000 in
set_option maxRecDepth 20000 in
theorem kL_copy (l : Launch) (D : va_G) (ct : Nat → ClassId) (bq : Nat) (br : Nat) (aq : Mem) (ar : Mem) (post : Mem → Prop) (hw : PL_copy aq ar post) : Cv (S := Mem) l yL_copy wsL_copy rmL_copy D (tyz ct) [.ref bq, .ref br] (fl [wI 24 ct bq aq, wI 24 ct br ar]) (fun (u9 : Mem) => post u9) (fun u9 => fl [wI 24 ct bq aq, wI 24 ct br u9]) 0 0 := by
  intro sz
  refine g_of (own := RL) (by decide) rfl rfl (Nat.le_of_ble_eq_true rfl) [(0, .ref bq), (1, .ref br)] rfl (fun p e s m args below meth c hsz X => ?_)
  subst hsz
  unfold PL_copy at hw
  refine g_iconst (v := 0) X rfl dL_copy_0 ?_
  refine g_istore_n X [(2, .int 0), (0, .ref bq), (1, .ref br)] dL_copy_1 rfl (by decide) rfl ?_
  refine g_sub [(0, .ref bq), (1, .ref br), (2, .int 0)] [1, 2, 0] rfl ?_
  obtain ⟨n5, hw⟩ := hw
  exact kL_copy_2 l D ct bq br aq post X n5 _ _ hw
