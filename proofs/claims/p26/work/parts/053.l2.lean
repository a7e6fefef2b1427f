abbrev rmL_best : Room := { frames := 4, cells := 1, slots := 24, locals := 99 }

abbrev GL_best (l : Launch) (D : va_G) (ct : Nat → ClassId) (bp : Nat) (bc : Nat) (bq : Nat) (bn : Nat) (br : Nat) (ap : Mem) (ac : Mem) (aq : Mem) (an : Mem) (post : Int32 → Prop) (p : Program) (e : Env) (s : State) (m : MethodId) (args : Array Value) (below : List Frame) (meth : Method) (c : Code) (A : Nat → Prop) (w9 : va_W) (kq jq : Nat) (lv : List (Nat × Value)) (pc : Nat) (st : List Value) : Prop :=
  GG p l e rmL_best s m args below meth c D A s.heap 11 (MQ below (va_Qi (fun r (_ : Unit) => post r) (fun u9 t9 => Af D (tyz ct) A ((fun _ => fl [wI 40 ct bp ap, wI 20 ct bc ac, wI 24 ct bq aq, wI 7 ct bn an]) u9) t9) A)  args s 1 24 A) w9 kq jq lv pc st

set_option maxHeartbeats 4000000 in
set_option maxRecDepth 20000 in
theorem kL_best_96 (l : Launch) (D : va_G) (ct : Nat → ClassId) (bp : Nat) (bc : Nat) (bq : Nat) (bn : Nat) (br : Nat) (ap : Mem) (ac : Mem) (aq : Mem) (an : Mem) (post : Int32 → Prop) (K53 : Mem → Int32 → Int32 → Int32 → Int32 → Int32 → Prop) {p : Program} {e : Env} {s : State} {m : MethodId} {args : Array Value} {below : List Frame} {meth : Method} {c : Code} {A : Nat → Prop} (X : Cx p s m args meth c cL_best 11 RL wsL_best D (tyz ct) A s.heap (some .int)) (hK53 : ∀ (ar : Mem) (x4 : Int32) (x5 : Int32) (x7 : Int32) (x8 : Int32) (x9 : Int32), K53 ar x4 x5 x7 x8 x9 → GL_best l D ct bp bc bq bn br ap ac aq an post p e s m args below meth c A (fl [wI 40 ct bp ap, wI 20 ct bc ac, wI 24 ct bq aq, wI 7 ct bn an, wI 24 ct br ar]) 1 24 [(0, .ref bp), (1, .ref bc), (3, .ref bn), (4, .int x4), (5, .int x5), (6, .ref br), (7, .int x7), (8, .int x8), (9, .int x9)] 53 []) :
    ∀ (ar : Mem) (x4 : Int32) (x5 : Int32) (x8 : Int32) (x9 : Int32) (x10 : Int32) (z0 : Int32), PL_best_96 ap ac aq an post K53 ar x4 x5 x8 x9 x10 z0 → GL_best l D ct bp bc bq bn br ap ac aq an post p e s m args below meth c A (fl [wI 40 ct bp ap, wI 20 ct bc ac, wI 24 ct bq aq, wI 7 ct bn an, wI 24 ct br ar]) 1 24 [(0, .ref bp), (1, .ref bc), (3, .ref bn), (4, .int x4), (5, .int x5), (6, .ref br), (8, .int x8), (9, .int x9), (10, .int x10)] 96 [.int z0] := by
  intro ar x4 x5 x8 x9 x10 z0 hw
  unfold PL_best_96 at hw
  refine g_istore X [(7, .int z0), (0, .ref bp), (1, .ref bc), (3, .ref bn), (4, .int x4), (5, .int x5), (6, .ref br), (8, .int x8), (9, .int x9), (10, .int x10)] dL_best_96 (by decide) rfl ?_
  refine g_iload X 9 dL_best_98 rfl ?_
  refine g_iload X 7 dL_best_100 rfl ?_
  refine g_icmp_ge X 110 dL_best_102 (by decide) (fun c11 => ?_) (fun c11 => ?_)
  · replace hw := hw.1 c11
    refine g_iload X 7 dL_best_110 rfl ?_
    refine g_istore X [(8, .int x8), (7, .int z0), (0, .ref bp), (1, .ref bc), (3, .ref bn), (4, .int x4), (5, .int x5), (6, .ref br), (9, .int x9), (10, .int x10)] dL_best_112 (by decide) rfl ?_
    refine g_iinc X [(9, .int (x9 + 1)), (8, .int x8), (7, .int z0), (0, .ref bp), (1, .ref bc), (3, .ref bn), (4, .int x4), (5, .int x5), (6, .ref br), (10, .int x10)] 8 dL_best_114 rfl rfl (by decide) rfl ?_
    refine g_goto X 53 dL_best_117 (by decide) ?_
    refine g_sub [(0, .ref bp), (1, .ref bc), (3, .ref bn), (4, .int x4), (5, .int x5), (6, .ref br), (7, .int z0), (8, .int x8), (9, .int (x9 + 1))] [3, 4, 5, 6, 7, 8, 2, 1, 0] rfl ?_
    exact hK53 _ _ _ _ _ _ hw
  · replace hw := hw.2 c11
    refine g_iload X 9 dL_best_105 rfl ?_
    refine g_goto X 112 dL_best_107 (by decide) ?_
    refine g_istore X [(8, .int x10), (7, .int z0), (0, .ref bp), (1, .ref bc), (3, .ref bn), (4, .int x4), (5, .int x5), (6, .ref br), (9, .int x9), (10, .int x10)] dL_best_112 (by decide) rfl ?_
    refine g_iinc X [(9, .int (x9 + 1)), (8, .int x10), (7, .int z0), (0, .ref bp), (1, .ref bc), (3, .ref bn), (4, .int x4), (5, .int x5), (6, .ref br), (10, .int x10)] 8 dL_best_114 rfl rfl (by decide) rfl ?_
    refine g_goto X 53 dL_best_117 (by decide) ?_
    refine g_sub [(0, .ref bp), (1, .ref bc), (3, .ref bn), (4, .int x4), (5, .int x5), (6, .ref br), (7, .int z0), (8, .int x10), (9, .int (x9 + 1))] [3, 4, 5, 6, 7, 8, 2, 1, 0] rfl ?_
    exact hK53 _ _ _ _ _ _ hw

set_option maxHeartbeats 4000000 in
set_option maxRecDepth 20000 in
theorem kL_best_53 (l : Launch) (D : va_G) (ct : Nat → ClassId) (bp : Nat) (bc : Nat) (bq : Nat) (bn : Nat) (br : Nat) (ap : Mem) (ac : Mem) (aq : Mem) (an : Mem) (post : Int32 → Prop) {p : Program} {e : Env} {s : State} {m : MethodId} {args : Array Value} {below : List Frame} {meth : Method} {c : Code} {A : Nat → Prop} (X : Cx p s m args meth c cL_best 11 RL wsL_best D (tyz ct) A s.heap (some .int))  :
    ∀ (n : Nat) (ar : Mem) (x4 : Int32) (x5 : Int32) (x7 : Int32) (x8 : Int32) (x9 : Int32), PL_best_53 ap ac aq an post n ar x4 x5 x7 x8 x9 → GL_best l D ct bp bc bq bn br ap ac aq an post p e s m args below meth c A (fl [wI 40 ct bp ap, wI 20 ct bc ac, wI 24 ct bq aq, wI 7 ct bn an, wI 24 ct br ar]) 1 24 [(0, .ref bp), (1, .ref bc), (3, .ref bn), (4, .int x4), (5, .int x5), (6, .ref br), (7, .int x7), (8, .int x8), (9, .int x9)] 53 [] := by
  intro n
  induction n with
  | zero =>
    intro ar x4 x5 x7 x8 x9 hw
    exact hw.elim
  | succ n ih =>
    intro ar x4 x5 x7 x8 x9 hw
    unfold PL_best_53 at hw
    refine g_iload X 8 dL_best_53 rfl ?_
    refine g_iload X 4 dL_best_55 rfl ?_
    refine g_icmp_ge X 120 dL_best_57 (by decide) (fun c5 => ?_) (fun c5 => ?_)
    · replace hw := hw.1 c5
      refine g_iload X 6 dL_best_120 rfl ?_
      refine g_drop (w2 := fl [wI 40 ct bp ap, wI 20 ct bc ac, wI 24 ct bq aq, wI 7 ct bn an]) (wI 24 ct br ar) (fl_app [wI 40 ct bp ap, wI 20 ct bc ac, wI 24 ct bq aq, wI 7 ct bn an] [wI 24 ct br ar]) ?_
      exact g_iret X () hw rfl (Nat.le_of_ble_eq_true rfl) (Nat.le_of_ble_eq_true rfl) dL_best_122
    · replace hw := hw.2 c5
      refine g_aload X 5 dL_best_60 rfl ?_
      refine g_aload_n X 2 dL_best_62 rfl rfl ?_
      refine g_iload X 3 dL_best_63 rfl ?_
      refine g_iload X 8 dL_best_65 rfl ?_
      refine g_cvS X [wI 40 ct bp ap, wI 20 ct bc ac, wI 24 ct bq aq, wI 7 ct bn an, wI 24 ct br ar] (fun (u6 : Mem) => [wI 40 ct bp ap, wI 20 ct bc ac, wI 24 ct bq aq, wI 7 ct bn an, wI 24 ct br u6]) (fun (u6 : Mem) => fl [wI 40 ct bp ap, wI 20 ct bc ac, wI 24 ct bq aq, wI 7 ct bn an, wI 24 ct br u6]) 5 [4, 3] [0, 1, 2] (kL_lays l D ct br bn ar an x4 x9 _ hw) (va_cwS 4 X.1.2.2.2.2 gL_best_L_lays rfl rfl rfl (by decide +kernel) ⟨Nat.le_of_ble_eq_true rfl, Nat.le_of_ble_eq_true rfl⟩) dL_best_67 rfl rfl (Nat.le_of_ble_eq_true rfl) ⟨Nat.le_of_ble_eq_true rfl, Nat.le_of_ble_eq_true rfl⟩ rfl rfl rfl (by decide) (fun _ => rfl) (fun _ => rfl) (fun _ => rfl) (fun _ => rfl) (fun u6 hw => ?_)
      obtain ⟨ar7, har7⟩ : ∃ z : Mem, z = u6 := ⟨_, rfl⟩
      rw [← har7] at hw
      rw [← har7]
      refine g_aload_n X 0 dL_best_70 rfl rfl ?_
      refine g_aload_n X 1 dL_best_71 rfl rfl ?_
      refine g_aload X 5 dL_best_72 rfl ?_
      refine g_aload_n X 2 dL_best_74 rfl rfl ?_
      refine g_iload X 3 dL_best_75 rfl ?_
      refine g_ciS X [wI 40 ct bp ap, wI 20 ct bc ac, wI 24 ct bq aq, wI 7 ct bn an, wI 24 ct br ar7] (fun (_ : Unit) => [wI 40 ct bp ap, wI 20 ct bc ac, wI 24 ct bq aq, wI 7 ct bn an, wI 24 ct br ar7]) (fun _ => fl [wI 40 ct bp ap, wI 20 ct bc ac, wI 24 ct bq aq, wI 7 ct bn an, wI 24 ct br ar7]) 5 [0, 1, 4, 3] [2] (kL_ofTwo l D ct bp bc br bn ap ac ar7 an x4 _ hw) (va_cwS 5 X.1.2.2.2.2 gL_best_L_ofTwo rfl rfl rfl (by decide +kernel) ⟨Nat.le_of_ble_eq_true rfl, Nat.le_of_ble_eq_true rfl⟩) dL_best_77 rfl rfl (Nat.le_of_ble_eq_true rfl) ⟨Nat.le_of_ble_eq_true rfl, Nat.le_of_ble_eq_true rfl⟩ rfl rfl rfl (by decide) (fun _ => rfl) (fun _ => rfl) (fun _ => rfl) (fun _ => rfl) (fun r8 _ hw => ?_)
      refine g_istore X [(10, .int r8), (0, .ref bp), (1, .ref bc), (3, .ref bn), (4, .int x4), (5, .int x5), (6, .ref br), (7, .int x7), (8, .int x8), (9, .int x9)] dL_best_80 (by decide) rfl ?_
      refine g_iload X 0 dL_best_82 rfl ?_
      refine g_iload X 8 dL_best_84 rfl ?_
      refine g_icmp_ge X 94 dL_best_86 (by decide) (fun c10 => ?_) (fun c10 => ?_)
      · replace hw := hw.1 c10
        refine g_iload X 7 dL_best_94 rfl ?_
        refine g_sub [(0, .ref bp), (1, .ref bc), (3, .ref bn), (4, .int x4), (5, .int x5), (6, .ref br), (8, .int x8), (9, .int x9), (10, .int r8)] [1, 2, 3, 4, 5, 6, 8, 9, 0] rfl ?_
        exact kL_best_96 l D ct bp bc bq bn br ap ac aq an post _ X ih _ _ _ _ _ _ _ hw
      · replace hw := hw.2 c10
        refine g_iload X 9 dL_best_89 rfl ?_
        refine g_goto X 96 dL_best_91 (by decide) ?_
        refine g_sub [(0, .ref bp), (1, .ref bc), (3, .ref bn), (4, .int x4), (5, .int x5), (6, .ref br), (8, .int x8), (9, .int x9), (10, .int r8)] [1, 2, 3, 4, 5, 6, 8, 9, 0] rfl ?_
        exact kL_best_96 l D ct bp bc bq bn br ap ac aq an post _ X ih _ _ _ _ _ _ _ hw

set_option maxHeartbeats 4000000 in
set_option maxRecDepth 20000 in
theorem kL_best_6 (l : Launch) (D : va_G) (ct : Nat → ClassId) (bp : Nat) (bc : Nat) (bq : Nat) (bn : Nat) (br : Nat) (ap : Mem) (ac : Mem) (aq : Mem) (an : Mem) (post : Int32 → Prop) {p : Program} {e : Env} {s : State} {m : MethodId} {args : Array Value} {below : List Frame} {meth : Method} {c : Code} {A : Nat → Prop} (X : Cx p s m args meth c cL_best 11 RL wsL_best D (tyz ct) A s.heap (some .int))  :
    ∀ (n : Nat) (ar : Mem) (x4 : Int32) (x5 : Int32) (x6 : Int32), PL_best_6 ap ac aq an post n ar x4 x5 x6 → GL_best l D ct bp bc bq bn br ap ac aq an post p e s m args below meth c A (fl [wI 40 ct bp ap, wI 20 ct bc ac, wI 24 ct bq aq, wI 7 ct bn an]) 0 0 [(0, .ref bp), (1, .ref bc), (2, .ref bq), (3, .ref bn), (4, .int x4), (5, .int x5), (6, .int x6)] 6 [] := by
  intro n
  induction n with
  | zero =>
    intro ar x4 x5 x6 hw
    exact hw.elim
  | succ n ih =>
    intro ar x4 x5 x6 hw
    unfold PL_best_6 at hw
    refine g_iload X 6 dL_best_6 rfl ?_
    refine g_aload_n X 3 dL_best_8 rfl rfl ?_
    refine g_iconst (v := 3) X rfl dL_best_9 ?_
    refine g_iload X 4 dL_best_10 rfl ?_
    refine g_iadd X dL_best_12 ?_
    obtain ⟨h1, hw⟩ := hw
    refine g_iald X 3 0 dL_best_13 rfl rfl h1 ?_
    refine g_icmp_gt X 30 dL_best_14 (by decide) (fun c2 => ?_) (fun c2 => ?_)
    · replace hw := hw.1 c2
      refine g_bipush (v := 24) X rfl dL_best_30 ?_
      refine g_newaI X (fun q9 => fl [wI 40 ct bp ap, wI 20 ct bc ac, wI 24 ct bq aq, wI 7 ct bn an, wI 24 ct q9 freshM]) 0 (List.mem_of_getElem? (i := 1) rfl) dL_best_32 rfl (by decide) rfl (by decide) (Nat.le_of_ble_eq_true rfl) (Nat.le_of_ble_eq_true rfl) (fun q9 => (fl_app [wI 40 ct bp ap, wI 20 ct bc ac, wI 24 ct bq aq, wI 7 ct bn an] [wI 24 ct q9 freshM]).symm) (fun br => ?_)
      refine g_astore X [(6, .ref br), (0, .ref bp), (1, .ref bc), (2, .ref bq), (3, .ref bn), (4, .int x4), (5, .int x5)] dL_best_34 (by decide) rfl ?_
      refine g_aload_n X 3 dL_best_36 rfl rfl ?_
      refine g_aload X 0 dL_best_37 rfl ?_
      refine g_cvS X [wI 40 ct bp ap, wI 20 ct bc ac, wI 24 ct bq aq, wI 7 ct bn an, wI 24 ct br freshM] (fun (u3 : Mem) => [wI 40 ct bp ap, wI 20 ct bc ac, wI 24 ct bq aq, wI 7 ct bn an, wI 24 ct br u3]) (fun (u3 : Mem) => fl [wI 40 ct bp ap, wI 20 ct bc ac, wI 24 ct bq aq, wI 7 ct bn an, wI 24 ct br u3]) 5 [2, 4] [0, 1, 3] (kL_copy l D ct bq br aq freshM _ hw) (va_cwS 2 X.1.2.2.2.2 gL_best_L_copy rfl rfl rfl (by decide +kernel) ⟨Nat.le_of_ble_eq_true rfl, Nat.le_of_ble_eq_true rfl⟩) dL_best_39 rfl rfl (Nat.le_of_ble_eq_true rfl) ⟨Nat.le_of_ble_eq_true rfl, Nat.le_of_ble_eq_true rfl⟩ rfl rfl rfl (by decide) (fun _ => rfl) (fun _ => rfl) (fun _ => rfl) (fun _ => rfl) (fun u3 hw => ?_)
      obtain ⟨ar4, har4⟩ : ∃ z : Mem, z = u3 := ⟨_, rfl⟩
      rw [← har4] at hw
      rw [← har4]
      refine g_iconst (v := 0) X rfl dL_best_42 ?_
      refine g_istore X [(7, .int 0), (6, .ref br), (0, .ref bp), (1, .ref bc), (2, .ref bq), (3, .ref bn), (4, .int x4), (5, .int x5)] dL_best_43 (by decide) rfl ?_
      refine g_sipush (v := 999) X rfl dL_best_45 ?_
      refine g_istore X [(8, .int 999), (7, .int 0), (6, .ref br), (0, .ref bp), (1, .ref bc), (2, .ref bq), (3, .ref bn), (4, .int x4), (5, .int x5)] dL_best_48 (by decide) rfl ?_
      refine g_iconst (v := 0) X rfl dL_best_50 ?_
      refine g_istore X [(9, .int 0), (8, .int 999), (7, .int 0), (6, .ref br), (0, .ref bp), (1, .ref bc), (2, .ref bq), (3, .ref bn), (4, .int x4), (5, .int x5)] dL_best_51 (by decide) rfl ?_
      refine g_sub [(0, .ref bp), (1, .ref bc), (3, .ref bn), (4, .int x4), (5, .int x5), (6, .ref br), (7, .int 0), (8, .int 999), (9, .int 0)] [4, 5, 7, 8, 9, 3, 2, 1, 0] rfl ?_
      obtain ⟨n12, hw⟩ := hw
      exact kL_best_53 l D ct bp bc bq bn br ap ac aq an post X n12 _ _ _ _ _ _ hw
    · replace hw := hw.2 c2
      refine g_iload X 5 dL_best_17 rfl ?_
      refine g_iload X 6 dL_best_19 rfl ?_
      refine g_imul X dL_best_21 ?_
      refine g_topi (fun q13 hq13 => ?_)
      replace hw := hw q13 hq13
      refine g_istore X [(5, .int q13), (0, .ref bp), (1, .ref bc), (2, .ref bq), (3, .ref bn), (4, .int x4), (6, .int x6)] dL_best_22 (by decide) rfl ?_
      refine g_iinc X [(6, .int (x6 + 1)), (5, .int q13), (0, .ref bp), (1, .ref bc), (2, .ref bq), (3, .ref bn), (4, .int x4)] 6 dL_best_24 rfl rfl (by decide) rfl ?_
      refine g_goto X 6 dL_best_27 (by decide) ?_
      refine g_sub [(0, .ref bp), (1, .ref bc), (2, .ref bq), (3, .ref bn), (4, .int x4), (5, .int q13), (6, .int (x6 + 1))] [2, 3, 4, 5, 6, 1, 0] rfl ?_
      exact ih _ _ _ _ hw

set_option maxHeartbeats 4000000 in
set_option maxRecDepth 20000 in
theorem kL_best (l : Launch) (D : va_G) (ct : Nat → ClassId) (bp : Nat) (bc : Nat) (bq : Nat) (bn : Nat) (ap : Mem) (ac : Mem) (aq : Mem) (an : Mem) (p5 : Int32) (post : Int32 → Prop) (hw : PL_best ap ac aq an p5 post) : Ci (S := Unit) l yL_best wsL_best rmL_best D (tyz ct) [.ref bp, .ref bc, .ref bq, .ref bn, .int p5] (fl [wI 40 ct bp ap, wI 20 ct bc ac, wI 24 ct bq aq, wI 7 ct bn an]) (fun r (_ : Unit) => post r) (fun _ => fl [wI 40 ct bp ap, wI 20 ct bc ac, wI 24 ct bq aq, wI 7 ct bn an]) 1 24 := by
  intro sz
  refine g_of (own := RL) (by decide) rfl rfl (Nat.le_of_ble_eq_true rfl) [(0, .ref bp), (1, .ref bc), (2, .ref bq), (3, .ref bn), (4, .int p5)] rfl (fun p e s m args below meth c hsz X => ?_)
  subst hsz
  unfold PL_best at hw
  refine g_iconst (v := 1) X rfl dL_best_0 ?_
  refine g_istore X [(5, .int 1), (0, .ref bp), (1, .ref bc), (2, .ref bq), (3, .ref bn), (4, .int p5)] dL_best_1 (by decide) rfl ?_
  refine g_iconst (v := 2) X rfl dL_best_3 ?_
  refine g_istore X [(6, .int 2), (5, .int 1), (0, .ref bp), (1, .ref bc), (2, .ref bq), (3, .ref bn), (4, .int p5)] dL_best_4 (by decide) rfl ?_
  refine g_sub [(0, .ref bp), (1, .ref bc), (2, .ref bq), (3, .ref bn), (4, .int p5), (5, .int 1), (6, .int 2)] [2, 3, 4, 5, 6, 1, 0] rfl ?_
  obtain ⟨n14, hw⟩ := hw
  exact kL_best_6 l D ct bp bc bq bn 0 ap ac aq an post X n14 _ _ _ _ hw

abbrev rmL_comes : Room := { frames := 0, cells := 0, slots := 0, locals := 0 }

abbrev GL_comes (l : Launch) (D : va_G) (ct : Nat → ClassId) (bp : Nat) (bq : Nat) (bn : Nat) (post : Int32 → Mem → Mem → Mem → Prop) (p : Program) (e : Env) (s : State) (m : MethodId) (args : Array Value) (below : List Frame) (meth : Method) (c : Code) (A : Nat → Prop) (w9 : va_W) (lv : List (Nat × Value)) (pc : Nat) (st : List Value) : Prop :=
  GG p l e rmL_comes s m args below meth c D A s.heap 5 (MQ below (va_Qi (fun r (u9 : Mem × Mem × Mem) => post r u9.1 u9.2.1 u9.2.2) (fun u9 t9 => Af D (tyz ct) A ((fun u9 => fl [wI 40 ct bp u9.1, wI 24 ct bq u9.2.1, wI 7 ct bn u9.2.2]) u9) t9) A)  args s 0 0 A) w9 0 0 lv pc st

set_option maxHeartbeats 4000000 in
set_option maxRecDepth 20000 in
theorem kL_comes_18 (l : Launch) (D : va_G) (ct : Nat → ClassId) (bp : Nat) (bq : Nat) (bn : Nat) (post : Int32 → Mem → Mem → Mem → Prop) {p : Program} {e : Env} {s : State} {m : MethodId} {args : Array Value} {below : List Frame} {meth : Method} {c : Code} {A : Nat → Prop} (X : Cx p s m args meth c cL_comes 5 RL wsL_comes D (tyz ct) A s.heap (some .int))  :
    ∀ (ap : Mem) (aq : Mem) (an : Mem), PL_comes_18 post ap aq an → GL_comes l D ct bp bq bn  post p e s m args below meth c A (fl [wI 40 ct bp ap, wI 24 ct bq aq, wI 7 ct bn an]) [(2, .ref bn)] 18 [] := by
  intro ap aq an hw
  unfold PL_comes_18 at hw
  refine g_aload_n X 0 dL_comes_18 rfl rfl ?_
  refine g_iconst (v := 2) X rfl dL_comes_19 ?_
  refine g_dup2 X dL_comes_20 rfl rfl ?_
  obtain ⟨h3, hw⟩ := hw
  refine g_iald X 2 0 dL_comes_21 rfl rfl h3 ?_
  refine g_iconst (v := 1) X rfl dL_comes_22 ?_
  refine g_iadd X dL_comes_23 ?_
  obtain ⟨h4, hw⟩ := hw
  refine g_iast X (fun z => fl [wI 40 ct bp ap, wI 24 ct bq aq, wI 7 ct bn z]) an 0 2 0 dL_comes_24 rfl rfl h4 rfl (fun an5 han5 => ?_)
  replace hw := hw an5 han5
  refine g_iconst (v := (-1)) X rfl dL_comes_25 ?_
  exact g_iret X (ap, aq, an5) hw rfl (Nat.le_of_ble_eq_true rfl) (Nat.le_of_ble_eq_true rfl) dL_comes_26

set_option maxHeartbeats 4000000 in
set_option maxRecDepth 20000 in
theorem kL_comes (l : Launch) (D : va_G) (ct : Nat → ClassId) (bp : Nat) (bq : Nat) (bn : Nat) (ap : Mem) (aq : Mem) (an : Mem) (p4 : Int32) (p5 : Int32) (post : Int32 → Mem → Mem → Mem → Prop) (hw : PL_comes ap aq an p4 p5 post) : Ci (S := Mem × Mem × Mem) l yL_comes wsL_comes rmL_comes D (tyz ct) [.ref bp, .ref bq, .ref bn, .int p4, .int p5] (fl [wI 40 ct bp ap, wI 24 ct bq aq, wI 7 ct bn an]) (fun r (u9 : Mem × Mem × Mem) => post r u9.1 u9.2.1 u9.2.2) (fun u9 => fl [wI 40 ct bp u9.1, wI 24 ct bq u9.2.1, wI 7 ct bn u9.2.2]) 0 0 := by
  intro sz
  refine g_of (own := RL) (by decide) rfl rfl (Nat.le_of_ble_eq_true rfl) [(0, .ref bp), (1, .ref bq), (2, .ref bn), (3, .int p4), (4, .int p5)] rfl (fun p e s m args below meth c hsz X => ?_)
  subst hsz
  unfold PL_comes at hw
  refine g_aload_n X 2 dL_comes_0 rfl rfl ?_
  refine g_iconst (v := 3) X rfl dL_comes_1 ?_
  refine g_iload_n X 3 dL_comes_2 rfl rfl ?_
  refine g_iadd X dL_comes_3 ?_
  obtain ⟨h1, hw⟩ := hw
  refine g_iald X 2 0 dL_comes_4 rfl rfl h1 ?_
  refine g_bipush (v := 6) X rfl dL_comes_5 ?_
  refine g_icmp_eq X 18 dL_comes_7 (by decide) (fun c2 => ?_) (fun c2 => ?_)
  · replace hw := hw.1 c2
    refine g_sub [(2, .ref bn)] [2] rfl ?_
    exact kL_comes_18 l D ct bp bq bn post X _ _ _ hw
  · replace hw := hw.2 c2
    refine g_aload_n X 2 dL_comes_10 rfl rfl ?_
    refine g_iconst (v := 0) X rfl dL_comes_11 ?_
    obtain ⟨h6, hw⟩ := hw
    refine g_iald X 2 0 dL_comes_12 rfl rfl h6 ?_
    refine g_bipush (v := 20) X rfl dL_comes_13 ?_
    refine g_icmp_ne X 27 dL_comes_15 (by decide) (fun c7 => ?_) (fun c7 => ?_)
    · replace hw := hw.1 c7
      refine g_aload_n X 0 dL_comes_27 rfl rfl ?_
      refine g_iconst (v := 2) X rfl dL_comes_28 ?_
      refine g_aload_n X 2 dL_comes_29 rfl rfl ?_
      refine g_iconst (v := 0) X rfl dL_comes_30 ?_
      obtain ⟨h8, hw⟩ := hw
      refine g_iald X 2 0 dL_comes_31 rfl rfl h8 ?_
      refine g_imul X dL_comes_32 ?_
      refine g_iload_n X 3 dL_comes_33 rfl rfl ?_
      obtain ⟨h9, hw⟩ := hw
      refine g_iast X (fun z => fl [wI 40 ct bp z, wI 24 ct bq aq, wI 7 ct bn an]) ap 0 0 0 dL_comes_34 rfl rfl h9 rfl (fun ap10 hap10 => ?_)
      replace hw := hw ap10 hap10
      refine g_aload_n X 0 dL_comes_35 rfl rfl ?_
      refine g_iconst (v := 2) X rfl dL_comes_36 ?_
      refine g_aload_n X 2 dL_comes_37 rfl rfl ?_
      refine g_iconst (v := 0) X rfl dL_comes_38 ?_
      obtain ⟨h11, hw⟩ := hw
      refine g_iald X 2 0 dL_comes_39 rfl rfl h11 ?_
      refine g_imul X dL_comes_40 ?_
      refine g_iconst (v := 1) X rfl dL_comes_41 ?_
      refine g_iadd X dL_comes_42 ?_
      refine g_iload X 4 dL_comes_43 rfl ?_
      obtain ⟨h12, hw⟩ := hw
      refine g_iast X (fun z => fl [wI 40 ct bp z, wI 24 ct bq aq, wI 7 ct bn an]) ap10 0 0 0 dL_comes_45 rfl rfl h12 rfl (fun ap13 hap13 => ?_)
      replace hw := hw ap13 hap13
      refine g_aload_n X 1 dL_comes_46 rfl rfl ?_
      refine g_bipush (v := 6) X rfl dL_comes_47 ?_
      refine g_iload_n X 3 dL_comes_49 rfl rfl ?_
      refine g_imul X dL_comes_50 ?_
      refine g_aload_n X 2 dL_comes_51 rfl rfl ?_
      refine g_iconst (v := 3) X rfl dL_comes_52 ?_
      refine g_iload_n X 3 dL_comes_53 rfl rfl ?_
      refine g_iadd X dL_comes_54 ?_
      obtain ⟨h14, hw⟩ := hw
      refine g_iald X 2 0 dL_comes_55 rfl rfl h14 ?_
      refine g_iadd X dL_comes_56 ?_
      refine g_aload_n X 2 dL_comes_57 rfl rfl ?_
      refine g_iconst (v := 0) X rfl dL_comes_58 ?_
      obtain ⟨h15, hw⟩ := hw
      refine g_iald X 2 0 dL_comes_59 rfl rfl h15 ?_
      obtain ⟨h16, hw⟩ := hw
      refine g_iast X (fun z => fl [wI 40 ct bp ap13, wI 24 ct bq z, wI 7 ct bn an]) aq 0 1 0 dL_comes_60 rfl rfl h16 rfl (fun aq17 haq17 => ?_)
      replace hw := hw aq17 haq17
      refine g_aload_n X 2 dL_comes_61 rfl rfl ?_
      refine g_iconst (v := 3) X rfl dL_comes_62 ?_
      refine g_iload_n X 3 dL_comes_63 rfl rfl ?_
      refine g_iadd X dL_comes_64 ?_
      refine g_dup2 X dL_comes_65 rfl rfl ?_
      obtain ⟨h18, hw⟩ := hw
      refine g_iald X 2 0 dL_comes_66 rfl rfl h18 ?_
      refine g_iconst (v := 1) X rfl dL_comes_67 ?_
      refine g_iadd X dL_comes_68 ?_
      obtain ⟨h19, hw⟩ := hw
      refine g_iast X (fun z => fl [wI 40 ct bp ap13, wI 24 ct bq aq17, wI 7 ct bn z]) an 0 2 0 dL_comes_69 rfl rfl h19 rfl (fun an20 han20 => ?_)
      replace hw := hw an20 han20
      refine g_aload_n X 2 dL_comes_70 rfl rfl ?_
      refine g_iconst (v := 0) X rfl dL_comes_71 ?_
      refine g_dup2 X dL_comes_72 rfl rfl ?_
      obtain ⟨h21, hw⟩ := hw
      refine g_iald X 2 0 dL_comes_73 rfl rfl h21 ?_
      refine g_iconst (v := 1) X rfl dL_comes_74 ?_
      refine g_iadd X dL_comes_75 ?_
      obtain ⟨h22, hw⟩ := hw
      refine g_iast X (fun z => fl [wI 40 ct bp ap13, wI 24 ct bq aq17, wI 7 ct bn z]) an20 0 2 0 dL_comes_76 rfl rfl h22 rfl (fun an23 han23 => ?_)
      replace hw := hw an23 han23
      refine g_aload_n X 2 dL_comes_77 rfl rfl ?_
      refine g_iconst (v := 0) X rfl dL_comes_78 ?_
      obtain ⟨h24, hw⟩ := hw
      refine g_iald X 2 0 dL_comes_79 rfl rfl h24 ?_
      refine g_iconst (v := 1) X rfl dL_comes_80 ?_
      refine g_isub X dL_comes_81 ?_
      exact g_iret X (ap13, aq17, an23) hw rfl (Nat.le_of_ble_eq_true rfl) (Nat.le_of_ble_eq_true rfl) dL_comes_82
    · replace hw := hw.2 c7
      refine g_sub [(2, .ref bn)] [2] rfl ?_
      exact kL_comes_18 l D ct bp bq bn post X _ _ _ hw

abbrev rmL_marries : Room := { frames := 1, cells := 0, slots := 0, locals := 24 }

abbrev GL_marries (l : Launch) (D : va_G) (ct : Nat → ClassId) (bp : Nat) (bc : Nat) (bn : Nat) (ap : Mem) (post : Int32 → Mem → Mem → Prop) (p : Program) (e : Env) (s : State) (m : MethodId) (args : Array Value) (below : List Frame) (meth : Method) (c : Code) (A : Nat → Prop) (w9 : va_W) (lv : List (Nat × Value)) (pc : Nat) (st : List Value) : Prop :=
  GG p l e rmL_marries s m args below meth c D A s.heap 9 (MQ below (va_Qi (fun r (u9 : Mem × Mem) => post r u9.1 u9.2) (fun u9 t9 => Af D (tyz ct) A ((fun u9 => fl [wI 40 ct bp ap, wI 20 ct bc u9.1, wI 7 ct bn u9.2]) u9) t9) A)  args s 0 0 A) w9 0 0 lv pc st

set_option maxHeartbeats 4000000 in
set_option maxRecDepth 20000 in
theorem kL_marries_156 (l : Launch) (D : va_G) (ct : Nat → ClassId) (bp : Nat) (bc : Nat) (bn : Nat) (ap : Mem) (post : Int32 → Mem → Mem → Prop) {p : Program} {e : Env} {s : State} {m : MethodId} {args : Array Value} {below : List Frame} {meth : Method} {c : Code} {A : Nat → Prop} (X : Cx p s m args meth c cL_marries 9 RL wsL_marries D (tyz ct) A s.heap (some .int))  :
    ∀ (ac : Mem) (an : Mem) (x5 : Int32) (x6 : Int32) (z0 : Int32), PL_marries_156 ap post ac an x5 x6 z0 → GL_marries l D ct bp bc bn ap post p e s m args below meth c A (fl [wI 40 ct bp ap, wI 20 ct bc ac, wI 7 ct bn an]) [(1, .ref bc), (2, .ref bn), (5, .int x5), (6, .int x6)] 156 [.int z0] := by
  intro ac an x5 x6 z0 hw
  unfold PL_marries_156 at hw
  refine g_istore X [(8, .int z0), (1, .ref bc), (2, .ref bn), (5, .int x5), (6, .int x6)] dL_marries_156 (by decide) rfl ?_
  refine g_iload X 0 dL_marries_158 rfl ?_
  refine g_if_le X 173 dL_marries_160 (by decide) (fun c10 => ?_) (fun c10 => ?_)
  · replace hw := hw.1 c10
    refine g_aload_n X 1 dL_marries_173 rfl rfl ?_
    refine g_iconst (v := 2) X rfl dL_marries_174 ?_
    refine g_aload_n X 2 dL_marries_175 rfl rfl ?_
    refine g_iconst (v := 1) X rfl dL_marries_176 ?_
    obtain ⟨h11, hw⟩ := hw
    refine g_iald X 2 0 dL_marries_177 rfl rfl h11 ?_
    refine g_imul X dL_marries_178 ?_
    refine g_iload X 3 dL_marries_179 rfl ?_
    obtain ⟨h12, hw⟩ := hw
    refine g_iast X (fun z => fl [wI 40 ct bp ap, wI 20 ct bc z, wI 7 ct bn an]) ac 0 1 0 dL_marries_181 rfl rfl h12 rfl (fun ac13 hac13 => ?_)
    replace hw := hw ac13 hac13
    refine g_aload_n X 1 dL_marries_182 rfl rfl ?_
    refine g_iconst (v := 2) X rfl dL_marries_183 ?_
    refine g_aload_n X 2 dL_marries_184 rfl rfl ?_
    refine g_iconst (v := 1) X rfl dL_marries_185 ?_
    obtain ⟨h14, hw⟩ := hw
    refine g_iald X 2 0 dL_marries_186 rfl rfl h14 ?_
    refine g_imul X dL_marries_187 ?_
    refine g_iconst (v := 1) X rfl dL_marries_188 ?_
    refine g_iadd X dL_marries_189 ?_
    refine g_iload X 4 dL_marries_190 rfl ?_
    obtain ⟨h15, hw⟩ := hw
    refine g_iast X (fun z => fl [wI 40 ct bp ap, wI 20 ct bc z, wI 7 ct bn an]) ac13 0 1 0 dL_marries_192 rfl rfl h15 rfl (fun ac16 hac16 => ?_)
    replace hw := hw ac16 hac16
    refine g_aload_n X 2 dL_marries_193 rfl rfl ?_
    refine g_iconst (v := 1) X rfl dL_marries_194 ?_
    refine g_dup2 X dL_marries_195 rfl rfl ?_
    obtain ⟨h17, hw⟩ := hw
    refine g_iald X 2 0 dL_marries_196 rfl rfl h17 ?_
    refine g_iconst (v := 1) X rfl dL_marries_197 ?_
    refine g_iadd X dL_marries_198 ?_
    obtain ⟨h18, hw⟩ := hw
    refine g_iast X (fun z => fl [wI 40 ct bp ap, wI 20 ct bc ac16, wI 7 ct bn z]) an 0 2 0 dL_marries_199 rfl rfl h18 rfl (fun an19 han19 => ?_)
    replace hw := hw an19 han19
    refine g_aload_n X 2 dL_marries_200 rfl rfl ?_
    refine g_iconst (v := 1) X rfl dL_marries_201 ?_
    obtain ⟨h20, hw⟩ := hw
    refine g_iald X 2 0 dL_marries_202 rfl rfl h20 ?_
    refine g_bipush (v := 9) X rfl dL_marries_203 ?_
    refine g_iadd X dL_marries_205 ?_
    exact g_iret X (ac16, an19) hw rfl (Nat.le_of_ble_eq_true rfl) (Nat.le_of_ble_eq_true rfl) dL_marries_206
  · replace hw := hw.2 c10
    refine g_aload_n X 2 dL_marries_163 rfl rfl ?_
    refine g_iconst (v := 2) X rfl dL_marries_164 ?_
    refine g_dup2 X dL_marries_165 rfl rfl ?_
    obtain ⟨h21, hw⟩ := hw
    refine g_iald X 2 0 dL_marries_166 rfl rfl h21 ?_
    refine g_iconst (v := 1) X rfl dL_marries_167 ?_
    refine g_iadd X dL_marries_168 ?_
    obtain ⟨h22, hw⟩ := hw
    refine g_iast X (fun z => fl [wI 40 ct bp ap, wI 20 ct bc ac, wI 7 ct bn z]) an 0 2 0 dL_marries_169 rfl rfl h22 rfl (fun an23 han23 => ?_)
    replace hw := hw an23 han23
    refine g_iload X 0 dL_marries_170 rfl ?_
    exact g_iret X (ac, an23) hw rfl (Nat.le_of_ble_eq_true rfl) (Nat.le_of_ble_eq_true rfl) dL_marries_172

set_option maxHeartbeats 4000000 in
set_option maxRecDepth 20000 in
theorem kL_marries_116 (l : Launch) (D : va_G) (ct : Nat → ClassId) (bp : Nat) (bc : Nat) (bn : Nat) (ap : Mem) (post : Int32 → Mem → Mem → Prop) {p : Program} {e : Env} {s : State} {m : MethodId} {args : Array Value} {below : List Frame} {meth : Method} {c : Code} {A : Nat → Prop} (X : Cx p s m args meth c cL_marries 9 RL wsL_marries D (tyz ct) A s.heap (some .int))  :
    ∀ (ac : Mem) (an : Mem) (x5 : Int32) (x6 : Int32), PL_marries_116 ap post ac an x5 x6 → GL_marries l D ct bp bc bn ap post p e s m args below meth c A (fl [wI 40 ct bp ap, wI 20 ct bc ac, wI 7 ct bn an]) [(1, .ref bc), (2, .ref bn), (5, .int x5), (6, .int x6)] 116 [] := by
  intro ac an x5 x6 hw
  unfold PL_marries_116 at hw
  refine g_iconst (v := 2) X rfl dL_marries_116 ?_
  refine g_goto X 156 dL_marries_117 (by decide) ?_
  refine g_sub [(1, .ref bc), (2, .ref bn), (5, .int x5), (6, .int x6)] [0, 1, 2, 3] rfl ?_
  exact kL_marries_156 l D ct bp bc bn ap post X _ _ _ _ _ hw

set_option maxHeartbeats 4000000 in
set_option maxRecDepth 20000 in
theorem kL_marries_151 (l : Launch) (D : va_G) (ct : Nat → ClassId) (bp : Nat) (bc : Nat) (bn : Nat) (ap : Mem) (post : Int32 → Mem → Mem → Prop) {p : Program} {e : Env} {s : State} {m : MethodId} {args : Array Value} {below : List Frame} {meth : Method} {c : Code} {A : Nat → Prop} (X : Cx p s m args meth c cL_marries 9 RL wsL_marries D (tyz ct) A s.heap (some .int))  :
    ∀ (ac : Mem) (an : Mem) (x5 : Int32) (x6 : Int32), PL_marries_151 ap post ac an x5 x6 → GL_marries l D ct bp bc bn ap post p e s m args below meth c A (fl [wI 40 ct bp ap, wI 20 ct bc ac, wI 7 ct bn an]) [(1, .ref bc), (2, .ref bn), (5, .int x5), (6, .int x6)] 151 [] := by
  intro ac an x5 x6 hw
  unfold PL_marries_151 at hw
  refine g_iconst (v := 4) X rfl dL_marries_151 ?_
  refine g_goto X 156 dL_marries_152 (by decide) ?_
  refine g_sub [(1, .ref bc), (2, .ref bn), (5, .int x5), (6, .int x6)] [0, 1, 2, 3] rfl ?_
  exact kL_marries_156 l D ct bp bc bn ap post X _ _ _ _ _ hw

set_option maxHeartbeats 4000000 in
set_option maxRecDepth 20000 in
theorem kL_marries_29 (l : Launch) (D : va_G) (ct : Nat → ClassId) (bp : Nat) (bc : Nat) (bn : Nat) (ap : Mem) (post : Int32 → Mem → Mem → Prop) {p : Program} {e : Env} {s : State} {m : MethodId} {args : Array Value} {below : List Frame} {meth : Method} {c : Code} {A : Nat → Prop} (X : Cx p s m args meth c cL_marries 9 RL wsL_marries D (tyz ct) A s.heap (some .int))  :
    ∀ (n : Nat) (ac : Mem) (an : Mem) (x5 : Int32) (x6 : Int32) (x7 : Int32) (x8 : Int32), PL_marries_29 ap post n ac an x5 x6 x7 x8 → GL_marries l D ct bp bc bn ap post p e s m args below meth c A (fl [wI 40 ct bp ap, wI 20 ct bc ac, wI 7 ct bn an]) [(0, .ref bp), (1, .ref bc), (2, .ref bn), (5, .int x5), (6, .int x6), (7, .int x7), (8, .int x8)] 29 [] := by
  intro n
  induction n with
  | zero =>
    intro ac an x5 x6 x7 x8 hw
    exact hw.elim
  | succ n ih =>
    intro ac an x5 x6 x7 x8 hw
    unfold PL_marries_29 at hw
    refine g_iload X 6 dL_marries_29 rfl ?_
    refine g_aload_n X 2 dL_marries_31 rfl rfl ?_
    refine g_iconst (v := 1) X rfl dL_marries_32 ?_
    obtain ⟨h3, hw⟩ := hw
    refine g_iald X 2 0 dL_marries_33 rfl rfl h3 ?_
    refine g_icmp_ge X 79 dL_marries_34 (by decide) (fun c4 => ?_) (fun c4 => ?_)
    · replace hw := hw.1 c4
      refine g_aload_n X 2 dL_marries_79 rfl rfl ?_
      refine g_iconst (v := 1) X rfl dL_marries_80 ?_
      obtain ⟨h5, hw⟩ := hw
      refine g_iald X 2 0 dL_marries_81 rfl rfl h5 ?_
      refine g_bipush (v := 10) X rfl dL_marries_82 ?_
      refine g_icmp_ne X 91 dL_marries_84 (by decide) (fun c6 => ?_) (fun c6 => ?_)
      · replace hw := hw.1 c6
        refine g_aload_n X 0 dL_marries_91 rfl rfl ?_
        refine g_iconst (v := 2) X rfl dL_marries_92 ?_
        refine g_iload X 3 dL_marries_93 rfl ?_
        refine g_imul X dL_marries_95 ?_
        obtain ⟨h7, hw⟩ := hw
        refine g_iald X 0 0 dL_marries_96 rfl rfl h7 ?_
        refine g_aload_n X 0 dL_marries_97 rfl rfl ?_
        refine g_iconst (v := 2) X rfl dL_marries_98 ?_
        refine g_iload X 4 dL_marries_99 rfl ?_
        refine g_imul X dL_marries_101 ?_
        obtain ⟨h8, hw⟩ := hw
        refine g_iald X 0 0 dL_marries_102 rfl rfl h8 ?_
        refine g_icmp_ne X 116 dL_marries_103 (by decide) (fun c9 => ?_) (fun c9 => ?_)
        · replace hw := hw.1 c9
          refine g_sub [(1, .ref bc), (2, .ref bn), (5, .int x5), (6, .int x6)] [1, 2, 3, 4] rfl ?_
          exact kL_marries_116 l D ct bp bc bn ap post X _ _ _ _ hw
        · replace hw := hw.2 c9
          refine g_aload_n X 0 dL_marries_106 rfl rfl ?_
          refine g_iconst (v := 2) X rfl dL_marries_107 ?_
          refine g_iload X 3 dL_marries_108 rfl ?_
          refine g_imul X dL_marries_110 ?_
          obtain ⟨h24, hw⟩ := hw
          refine g_iald X 0 0 dL_marries_111 rfl rfl h24 ?_
          refine g_iconst (v := 3) X rfl dL_marries_112 ?_
          refine g_icmp_ne X 120 dL_marries_113 (by decide) (fun c25 => ?_) (fun c25 => ?_)
          · replace hw := hw.1 c25
            refine g_iload X 5 dL_marries_120 rfl ?_
            refine g_if_eq X 129 dL_marries_122 (by decide) (fun c26 => ?_) (fun c26 => ?_)
            · replace hw := hw.1 c26
              refine g_aload_n X 1 dL_marries_129 rfl rfl ?_
              refine g_aload_n X 2 dL_marries_130 rfl rfl ?_
              refine g_iload X 3 dL_marries_131 rfl ?_
              refine g_ciS X [wI 40 ct bp ap, wI 20 ct bc ac, wI 7 ct bn an] (fun (_ : Unit) => [wI 40 ct bp ap, wI 20 ct bc ac, wI 7 ct bn an]) (fun _ => fl [wI 40 ct bp ap, wI 20 ct bc ac, wI 7 ct bn an]) 3 [1, 2] [0] (kL_couples l D ct bc bn ac an x5 _ hw) (va_cwS 3 X.1.2.2.2.2 gL_marries_L_couples rfl rfl rfl (by decide +kernel) ⟨Nat.le_of_ble_eq_true rfl, Nat.le_of_ble_eq_true rfl⟩) dL_marries_133 rfl rfl (Nat.le_of_ble_eq_true rfl) ⟨Nat.le_of_ble_eq_true rfl, Nat.le_of_ble_eq_true rfl⟩ rfl rfl rfl (by decide) (fun _ => rfl) (fun _ => rfl) (fun _ => rfl) (fun _ => rfl) (fun r27 _ hw => ?_)
              refine g_iconst (v := 1) X rfl dL_marries_136 ?_
              refine g_icmp_gt X 151 dL_marries_137 (by decide) (fun c29 => ?_) (fun c29 => ?_)
              · replace hw := hw.1 c29
                refine g_sub [(1, .ref bc), (2, .ref bn), (5, .int x5), (6, .int x6)] [1, 2, 3, 4] rfl ?_
                exact kL_marries_151 l D ct bp bc bn ap post X _ _ _ _ hw
              · replace hw := hw.2 c29
                refine g_aload_n X 1 dL_marries_140 rfl rfl ?_
                refine g_aload_n X 2 dL_marries_141 rfl rfl ?_
                refine g_iload X 4 dL_marries_142 rfl ?_
                refine g_ciS X [wI 40 ct bp ap, wI 20 ct bc ac, wI 7 ct bn an] (fun (_ : Unit) => [wI 40 ct bp ap, wI 20 ct bc ac, wI 7 ct bn an]) (fun _ => fl [wI 40 ct bp ap, wI 20 ct bc ac, wI 7 ct bn an]) 3 [1, 2] [0] (kL_couples l D ct bc bn ac an x6 _ hw) (va_cwS 3 X.1.2.2.2.2 gL_marries_L_couples rfl rfl rfl (by decide +kernel) ⟨Nat.le_of_ble_eq_true rfl, Nat.le_of_ble_eq_true rfl⟩) dL_marries_144 rfl rfl (Nat.le_of_ble_eq_true rfl) ⟨Nat.le_of_ble_eq_true rfl, Nat.le_of_ble_eq_true rfl⟩ rfl rfl rfl (by decide) (fun _ => rfl) (fun _ => rfl) (fun _ => rfl) (fun _ => rfl) (fun r30 _ hw => ?_)
                refine g_iconst (v := 1) X rfl dL_marries_147 ?_
                refine g_icmp_le X 155 dL_marries_148 (by decide) (fun c32 => ?_) (fun c32 => ?_)
                · replace hw := hw.1 c32
                  refine g_iconst (v := 0) X rfl dL_marries_155 ?_
                  refine g_sub [(1, .ref bc), (2, .ref bn), (5, .int x5), (6, .int x6)] [1, 2, 3, 4] rfl ?_
                  exact kL_marries_156 l D ct bp bc bn ap post X _ _ _ _ _ hw
                · replace hw := hw.2 c32
                  refine g_sub [(1, .ref bc), (2, .ref bn), (5, .int x5), (6, .int x6)] [1, 2, 3, 4] rfl ?_
                  exact kL_marries_151 l D ct bp bc bn ap post X _ _ _ _ hw
            · replace hw := hw.2 c26
              refine g_iconst (v := 3) X rfl dL_marries_125 ?_
              refine g_goto X 156 dL_marries_126 (by decide) ?_
              refine g_sub [(1, .ref bc), (2, .ref bn), (5, .int x5), (6, .int x6)] [1, 2, 3, 4] rfl ?_
              exact kL_marries_156 l D ct bp bc bn ap post X _ _ _ _ _ hw
          · replace hw := hw.2 c25
            refine g_sub [(1, .ref bc), (2, .ref bn), (5, .int x5), (6, .int x6)] [1, 2, 3, 4] rfl ?_
            exact kL_marries_116 l D ct bp bc bn ap post X _ _ _ _ hw
      · replace hw := hw.2 c6
        refine g_iconst (v := 1) X rfl dL_marries_87 ?_
        refine g_goto X 156 dL_marries_88 (by decide) ?_
        refine g_sub [(1, .ref bc), (2, .ref bn), (5, .int x5), (6, .int x6)] [1, 2, 3, 4] rfl ?_
        exact kL_marries_156 l D ct bp bc bn ap post X _ _ _ _ _ hw
    · replace hw := hw.2 c4
      refine g_iload X 5 dL_marries_37 rfl ?_
      refine g_if_ne X 66 dL_marries_39 (by decide) (fun c33 => ?_) (fun c33 => ?_)
      · replace hw := hw.1 c33
        refine g_iconst (v := 1) X rfl dL_marries_66 ?_
        refine g_goto X 71 dL_marries_67 (by decide) ?_
        refine g_istore X [(7, .int 1), (0, .ref bp), (1, .ref bc), (2, .ref bn), (5, .int x5), (6, .int x6), (8, .int x8)] dL_marries_71 (by decide) rfl ?_
        refine g_iinc X [(8, .int (x8 + 1)), (7, .int 1), (0, .ref bp), (1, .ref bc), (2, .ref bn), (5, .int x5), (6, .int x6)] 6 dL_marries_73 rfl rfl (by decide) rfl ?_
        refine g_goto X 29 dL_marries_76 (by decide) ?_
        refine g_sub [(0, .ref bp), (1, .ref bc), (2, .ref bn), (5, .int x5), (6, .int x6), (7, .int 1), (8, .int (x8 + 1))] [2, 3, 4, 5, 6, 1, 0] rfl ?_
        exact ih _ _ _ _ _ _ hw
      · replace hw := hw.2 c33
        refine g_aload_n X 1 dL_marries_42 rfl rfl ?_
        refine g_iconst (v := 2) X rfl dL_marries_43 ?_
        refine g_iload X 6 dL_marries_44 rfl ?_
        refine g_imul X dL_marries_46 ?_
        obtain ⟨h34, hw⟩ := hw
        refine g_iald X 1 0 dL_marries_47 rfl rfl h34 ?_
        refine g_iload X 3 dL_marries_48 rfl ?_
        refine g_icmp_ne X 70 dL_marries_50 (by decide) (fun c35 => ?_) (fun c35 => ?_)
        · replace hw := hw.1 c35
          refine g_iconst (v := 0) X rfl dL_marries_70 ?_
          refine g_istore X [(7, .int 0), (0, .ref bp), (1, .ref bc), (2, .ref bn), (5, .int x5), (6, .int x6), (8, .int x8)] dL_marries_71 (by decide) rfl ?_
          refine g_iinc X [(8, .int (x8 + 1)), (7, .int 0), (0, .ref bp), (1, .ref bc), (2, .ref bn), (5, .int x5), (6, .int x6)] 6 dL_marries_73 rfl rfl (by decide) rfl ?_
          refine g_goto X 29 dL_marries_76 (by decide) ?_
          refine g_sub [(0, .ref bp), (1, .ref bc), (2, .ref bn), (5, .int x5), (6, .int x6), (7, .int 0), (8, .int (x8 + 1))] [2, 3, 4, 5, 6, 1, 0] rfl ?_
          exact ih _ _ _ _ _ _ hw
        · replace hw := hw.2 c35
          refine g_aload_n X 1 dL_marries_53 rfl rfl ?_
          refine g_iconst (v := 2) X rfl dL_marries_54 ?_
          refine g_iload X 6 dL_marries_55 rfl ?_
          refine g_imul X dL_marries_57 ?_
          refine g_iconst (v := 1) X rfl dL_marries_58 ?_
          refine g_iadd X dL_marries_59 ?_
          obtain ⟨h36, hw⟩ := hw
          refine g_iald X 1 0 dL_marries_60 rfl rfl h36 ?_
          refine g_iload X 4 dL_marries_61 rfl ?_
          refine g_icmp_ne X 70 dL_marries_63 (by decide) (fun c37 => ?_) (fun c37 => ?_)
          · replace hw := hw.1 c37
            refine g_iconst (v := 0) X rfl dL_marries_70 ?_
            refine g_istore X [(7, .int 0), (0, .ref bp), (1, .ref bc), (2, .ref bn), (5, .int x5), (6, .int x6), (8, .int x8)] dL_marries_71 (by decide) rfl ?_
            refine g_iinc X [(8, .int (x8 + 1)), (7, .int 0), (0, .ref bp), (1, .ref bc), (2, .ref bn), (5, .int x5), (6, .int x6)] 6 dL_marries_73 rfl rfl (by decide) rfl ?_
            refine g_goto X 29 dL_marries_76 (by decide) ?_
            refine g_sub [(0, .ref bp), (1, .ref bc), (2, .ref bn), (5, .int x5), (6, .int x6), (7, .int 0), (8, .int (x8 + 1))] [2, 3, 4, 5, 6, 1, 0] rfl ?_
            exact ih _ _ _ _ _ _ hw
          · replace hw := hw.2 c37
            refine g_iconst (v := 1) X rfl dL_marries_66 ?_
            refine g_goto X 71 dL_marries_67 (by decide) ?_
            refine g_istore X [(7, .int 1), (0, .ref bp), (1, .ref bc), (2, .ref bn), (5, .int x5), (6, .int x6), (8, .int x8)] dL_marries_71 (by decide) rfl ?_
            refine g_iinc X [(8, .int (x8 + 1)), (7, .int 1), (0, .ref bp), (1, .ref bc), (2, .ref bn), (5, .int x5), (6, .int x6)] 6 dL_marries_73 rfl rfl (by decide) rfl ?_
            refine g_goto X 29 dL_marries_76 (by decide) ?_
            refine g_sub [(0, .ref bp), (1, .ref bc), (2, .ref bn), (5, .int x5), (6, .int x6), (7, .int 1), (8, .int (x8 + 1))] [2, 3, 4, 5, 6, 1, 0] rfl ?_
            exact ih _ _ _ _ _ _ hw

set_option maxHeartbeats 4000000 in
set_option maxRecDepth 20000 in
theorem kL_marries_12 (l : Launch) (D : va_G) (ct : Nat → ClassId) (bp : Nat) (bc : Nat) (bn : Nat) (ap : Mem) (post : Int32 → Mem → Mem → Prop) {p : Program} {e : Env} {s : State} {m : MethodId} {args : Array Value} {below : List Frame} {meth : Method} {c : Code} {A : Nat → Prop} (X : Cx p s m args meth c cL_marries 9 RL wsL_marries D (tyz ct) A s.heap (some .int))  :
    ∀ (ac : Mem) (an : Mem) (x3 : Int32) (x4 : Int32) (z0 : Int32), PL_marries_12 ap post ac an x3 x4 z0 → GL_marries l D ct bp bc bn ap post p e s m args below meth c A (fl [wI 40 ct bp ap, wI 20 ct bc ac, wI 7 ct bn an]) [(0, .ref bp), (1, .ref bc), (2, .ref bn), (3, .int x3), (4, .int x4)] 12 [.int z0] := by
  intro ac an x3 x4 z0 hw
  unfold PL_marries_12 at hw
  refine g_istore X [(5, .int z0), (0, .ref bp), (1, .ref bc), (2, .ref bn), (3, .int x3), (4, .int x4)] dL_marries_12 (by decide) rfl ?_
  refine g_iload_n X 4 dL_marries_14 rfl rfl ?_
  refine g_iload X 5 dL_marries_15 rfl ?_
  refine g_iadd X dL_marries_17 ?_
  refine g_iload X 0 dL_marries_18 rfl ?_
  refine g_isub X dL_marries_20 ?_
  refine g_topi (fun q2 hq2 => ?_)
  replace hw := hw q2 hq2
  refine g_istore X [(6, .int q2), (5, .int z0), (0, .ref bp), (1, .ref bc), (2, .ref bn), (3, .int x3), (4, .int x4)] dL_marries_21 (by decide) rfl ?_
  refine g_iconst (v := 0) X rfl dL_marries_23 ?_
  refine g_istore X [(7, .int 0), (6, .int q2), (5, .int z0), (0, .ref bp), (1, .ref bc), (2, .ref bn), (3, .int x3), (4, .int x4)] dL_marries_24 (by decide) rfl ?_
  refine g_iconst (v := 0) X rfl dL_marries_26 ?_
  refine g_istore X [(8, .int 0), (7, .int 0), (6, .int q2), (5, .int z0), (0, .ref bp), (1, .ref bc), (2, .ref bn), (3, .int x3), (4, .int x4)] dL_marries_27 (by decide) rfl ?_
  refine g_sub [(0, .ref bp), (1, .ref bc), (2, .ref bn), (5, .int z0), (6, .int q2), (7, .int 0), (8, .int 0)] [4, 5, 6, 3, 2, 1, 0] rfl ?_
  obtain ⟨n38, hw⟩ := hw
  exact kL_marries_29 l D ct bp bc bn ap post X n38 _ _ _ _ _ _ hw

set_option maxHeartbeats 4000000 in
set_option maxRecDepth 20000 in
theorem kL_marries (l : Launch) (D : va_G) (ct : Nat → ClassId) (bp : Nat) (bc : Nat) (bn : Nat) (ap : Mem) (ac : Mem) (an : Mem) (p4 : Int32) (p5 : Int32) (post : Int32 → Mem → Mem → Prop) (hw : PL_marries ap ac an p4 p5 post) : Ci (S := Mem × Mem) l yL_marries wsL_marries rmL_marries D (tyz ct) [.ref bp, .ref bc, .ref bn, .int p4, .int p5] (fl [wI 40 ct bp ap, wI 20 ct bc ac, wI 7 ct bn an]) (fun r (u9 : Mem × Mem) => post r u9.1 u9.2) (fun u9 => fl [wI 40 ct bp ap, wI 20 ct bc u9.1, wI 7 ct bn u9.2]) 0 0 := by
  intro sz
  refine g_of (own := RL) (by decide) rfl rfl (Nat.le_of_ble_eq_true rfl) [(0, .ref bp), (1, .ref bc), (2, .ref bn), (3, .int p4), (4, .int p5)] rfl (fun p e s m args below meth c hsz X => ?_)
  subst hsz
  unfold PL_marries at hw
  refine g_iload_n X 3 dL_marries_0 rfl rfl ?_
  refine g_iload X 4 dL_marries_1 rfl ?_
  refine g_icmp_ge X 10 dL_marries_3 (by decide) (fun c1 => ?_) (fun c1 => ?_)
  · replace hw := hw.1 c1
    refine g_iload X 4 dL_marries_10 rfl ?_
    refine g_sub [(0, .ref bp), (1, .ref bc), (2, .ref bn), (3, .int p4), (4, .int p5)] [0, 1, 2, 3, 4] rfl ?_
    exact kL_marries_12 l D ct bp bc bn ap post X _ _ _ _ _ hw
  · replace hw := hw.2 c1
    refine g_iload_n X 3 dL_marries_6 rfl rfl ?_
    refine g_goto X 12 dL_marries_7 (by decide) ?_
    refine g_sub [(0, .ref bp), (1, .ref bc), (2, .ref bn), (3, .int p4), (4, .int p5)] [0, 1, 2, 3, 4] rfl ?_
    exact kL_marries_12 l D ct bp bc bn ap post X _ _ _ _ _ hw
