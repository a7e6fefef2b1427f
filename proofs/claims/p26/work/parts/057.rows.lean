abbrev rmL_areRows : Room := { frames := 7, cells := 0, slots := 0, locals := 151 }

abbrev GL_areRows (l : Launch) (D : va_G) (ct : Nat → ClassId) (g : Nat → Nat → Nat) (bp : Nat) (bc : Nat) (bq : Nat) (bn : Nat) (kc : Mem) (v : Mem) (b : Mem) (ap : Mem) (ac : Mem) (aq : Mem) (an : Mem) (post : Int32 → Mem → Prop) (p : Program) (e : Env) (s : State) (m : MethodId) (args : Array Value) (below : List Frame) (meth : Method) (c : Code) (A : Nat → Prop) (w9 : va_W) (lv : List (Nat × Value)) (pc : Nat) (st : List Value) : Prop :=
  GG p l e rmL_areRows s m args below meth c D A s.heap 10 (MQ below (va_Qi (fun r (u9 : Mem) => post r u9) (fun u9 t9 => Af D (tyz ct) A ((fun u9 => fl [wC ct g kc, wS ct (g 1) v, wV ct g b, wL ct (g 12) u9, wI 40 ct bp ap, wI 20 ct bc ac, wI 24 ct bq aq, wI 7 ct bn an]) u9) t9) A)  args s 0 0 A) w9 0 0 lv pc st

set_option maxHeartbeats 4000000 in
set_option maxRecDepth 20000 in
theorem kL_areRows_380 (l : Launch) (D : va_G) (ct : Nat → ClassId) (g : Nat → Nat → Nat) (bp : Nat) (bc : Nat) (bq : Nat) (bn : Nat) (kc : Mem) (v : Mem) (b : Mem) (ap : Mem) (ac : Mem) (aq : Mem) (an : Mem) (post : Int32 → Mem → Prop) (K273 : Mem → Int32 → Int32 → Int32 → Prop) (K334 : Mem → Int32 → Int32 → Int32 → Int32 → Prop) {p : Program} {e : Env} {s : State} {m : MethodId} {args : Array Value} {below : List Frame} {meth : Method} {c : Code} {A : Nat → Prop} (X : Cx p s m args meth c cL_areRows 10 RL wsL_areRows D (tyz ct) A s.heap (some .boolean)) (hK273 : ∀ (y : Mem) (x5 : Int32) (x6 : Int32) (x7 : Int32), K273 y x5 x6 x7 → GL_areRows l D ct g bp bc bq bn kc v b ap ac aq an post p e s m args below meth c A (fl [wC ct g kc, wS ct (g 1) v, wV ct g b, wL ct (g 12) y, wI 40 ct bp ap, wI 20 ct bc ac, wI 24 ct bq aq, wI 7 ct bn an]) [(0, .ref (g 0 0)), (1, .ref bp), (2, .ref bc), (3, .ref bq), (4, .ref bn), (5, .int x5), (6, .int x6), (7, .int x7)] 273 []) (hK334 : ∀ (y : Mem) (x5 : Int32) (x6 : Int32) (x7 : Int32) (x8 : Int32), K334 y x5 x6 x7 x8 → GL_areRows l D ct g bp bc bq bn kc v b ap ac aq an post p e s m args below meth c A (fl [wC ct g kc, wS ct (g 1) v, wV ct g b, wL ct (g 12) y, wI 40 ct bp ap, wI 20 ct bc ac, wI 24 ct bq aq, wI 7 ct bn an]) [(0, .ref (g 0 0)), (1, .ref bp), (2, .ref bc), (3, .ref bq), (4, .ref bn), (5, .int x5), (6, .int x6), (7, .int x7), (8, .int x8)] 334 []) :
    ∀ (y : Mem) (x5 : Int32) (x7 : Int32) (x8 : Int32) (z0 : Int32) (z1 : Int32), PL_areRows_380 kc v b ap ac aq an post K273 K334 y x5 x7 x8 z0 z1 → GL_areRows l D ct g bp bc bq bn kc v b ap ac aq an post p e s m args below meth c A (fl [wC ct g kc, wS ct (g 1) v, wV ct g b, wL ct (g 12) y, wI 40 ct bp ap, wI 20 ct bc ac, wI 24 ct bq aq, wI 7 ct bn an]) [(0, .ref (g 0 0)), (1, .ref bp), (2, .ref bc), (3, .ref bq), (4, .ref bn), (5, .int x5), (7, .int x7), (8, .int x8)] 380 [.int z0, .int z1] := by
  intro y x5 x7 x8 z0 z1 hw
  unfold PL_areRows_380 at hw
  refine g_icmp_ne X 387 dL_areRows_380 (by decide) (fun c21 => ?_) (fun c21 => ?_)
  · replace hw := hw.1 c21
    refine g_iconst (v := 0) X rfl dL_areRows_387 ?_
    refine g_istore X [(6, .int 0), (0, .ref (g 0 0)), (1, .ref bp), (2, .ref bc), (3, .ref bq), (4, .ref bn), (5, .int x5), (7, .int x7), (8, .int x8)] dL_areRows_388 (by decide) rfl ?_
    refine g_iinc X [(8, .int (x8 + 1)), (6, .int 0), (0, .ref (g 0 0)), (1, .ref bp), (2, .ref bc), (3, .ref bq), (4, .ref bn), (5, .int x5), (7, .int x7)] 8 dL_areRows_390 rfl rfl (by decide) rfl ?_
    refine g_goto X 334 dL_areRows_393 (by decide) ?_
    refine g_sub [(0, .ref (g 0 0)), (1, .ref bp), (2, .ref bc), (3, .ref bq), (4, .ref bn), (5, .int x5), (6, .int 0), (7, .int x7), (8, .int (x8 + 1))] [2, 3, 4, 5, 6, 7, 1, 8, 0] rfl ?_
    exact hK334 _ _ _ _ _ hw
  · replace hw := hw.2 c21
    refine g_iconst (v := 1) X rfl dL_areRows_383 ?_
    refine g_goto X 388 dL_areRows_384 (by decide) ?_
    refine g_istore X [(6, .int 1), (0, .ref (g 0 0)), (1, .ref bp), (2, .ref bc), (3, .ref bq), (4, .ref bn), (5, .int x5), (7, .int x7), (8, .int x8)] dL_areRows_388 (by decide) rfl ?_
    refine g_iinc X [(8, .int (x8 + 1)), (6, .int 1), (0, .ref (g 0 0)), (1, .ref bp), (2, .ref bc), (3, .ref bq), (4, .ref bn), (5, .int x5), (7, .int x7)] 8 dL_areRows_390 rfl rfl (by decide) rfl ?_
    refine g_goto X 334 dL_areRows_393 (by decide) ?_
    refine g_sub [(0, .ref (g 0 0)), (1, .ref bp), (2, .ref bc), (3, .ref bq), (4, .ref bn), (5, .int x5), (6, .int 1), (7, .int x7), (8, .int (x8 + 1))] [2, 3, 4, 5, 6, 7, 1, 8, 0] rfl ?_
    exact hK334 _ _ _ _ _ hw

set_option maxHeartbeats 4000000 in
set_option maxRecDepth 20000 in
theorem kL_areRows_334 (l : Launch) (D : va_G) (ct : Nat → ClassId) (g : Nat → Nat → Nat) (bp : Nat) (bc : Nat) (bq : Nat) (bn : Nat) (kc : Mem) (v : Mem) (b : Mem) (ap : Mem) (ac : Mem) (aq : Mem) (an : Mem) (post : Int32 → Mem → Prop) (K273 : Mem → Int32 → Int32 → Int32 → Prop) {p : Program} {e : Env} {s : State} {m : MethodId} {args : Array Value} {below : List Frame} {meth : Method} {c : Code} {A : Nat → Prop} (X : Cx p s m args meth c cL_areRows 10 RL wsL_areRows D (tyz ct) A s.heap (some .boolean)) (hK273 : ∀ (y : Mem) (x5 : Int32) (x6 : Int32) (x7 : Int32), K273 y x5 x6 x7 → GL_areRows l D ct g bp bc bq bn kc v b ap ac aq an post p e s m args below meth c A (fl [wC ct g kc, wS ct (g 1) v, wV ct g b, wL ct (g 12) y, wI 40 ct bp ap, wI 20 ct bc ac, wI 24 ct bq aq, wI 7 ct bn an]) [(0, .ref (g 0 0)), (1, .ref bp), (2, .ref bc), (3, .ref bq), (4, .ref bn), (5, .int x5), (6, .int x6), (7, .int x7)] 273 []) :
    ∀ (n : Nat) (y : Mem) (x5 : Int32) (x6 : Int32) (x7 : Int32) (x8 : Int32), PL_areRows_334 kc v b ap ac aq an post K273 n y x5 x6 x7 x8 → GL_areRows l D ct g bp bc bq bn kc v b ap ac aq an post p e s m args below meth c A (fl [wC ct g kc, wS ct (g 1) v, wV ct g b, wL ct (g 12) y, wI 40 ct bp ap, wI 20 ct bc ac, wI 24 ct bq aq, wI 7 ct bn an]) [(0, .ref (g 0 0)), (1, .ref bp), (2, .ref bc), (3, .ref bq), (4, .ref bn), (5, .int x5), (6, .int x6), (7, .int x7), (8, .int x8)] 334 [] := by
  intro n
  induction n with
  | zero =>
    intro y x5 x6 x7 x8 hw
    exact hw.elim
  | succ n ih =>
    intro y x5 x6 x7 x8 hw
    unfold PL_areRows_334 at hw
    refine g_iload X 8 dL_areRows_334 rfl ?_
    refine g_bipush (v := 7) X rfl dL_areRows_336 ?_
    refine g_icmp_ge X 396 dL_areRows_338 (by decide) (fun c15 => ?_) (fun c15 => ?_)
    · replace hw := hw.1 c15
      refine g_iinc X [(7, .int (x7 + 1)), (0, .ref (g 0 0)), (1, .ref bp), (2, .ref bc), (3, .ref bq), (4, .ref bn), (5, .int x5), (6, .int x6), (8, .int x8)] 7 dL_areRows_396 rfl rfl (by decide) rfl ?_
      refine g_goto X 273 dL_areRows_399 (by decide) ?_
      refine g_sub [(0, .ref (g 0 0)), (1, .ref bp), (2, .ref bc), (3, .ref bq), (4, .ref bn), (5, .int x5), (6, .int x6), (7, .int (x7 + 1))] [1, 2, 3, 4, 5, 6, 7, 0] rfl ?_
      exact hK273 _ _ _ _ hw
    · replace hw := hw.2 c15
      refine g_iload X 6 dL_areRows_341 rfl ?_
      refine g_if_eq X 387 dL_areRows_343 (by decide) (fun c16 => ?_) (fun c16 => ?_)
      · replace hw := hw.1 c16
        refine g_iconst (v := 0) X rfl dL_areRows_387 ?_
        refine g_istore X [(6, .int 0), (0, .ref (g 0 0)), (1, .ref bp), (2, .ref bc), (3, .ref bq), (4, .ref bn), (5, .int x5), (7, .int x7), (8, .int x8)] dL_areRows_388 (by decide) rfl ?_
        refine g_iinc X [(8, .int (x8 + 1)), (6, .int 0), (0, .ref (g 0 0)), (1, .ref bp), (2, .ref bc), (3, .ref bq), (4, .ref bn), (5, .int x5), (7, .int x7)] 8 dL_areRows_390 rfl rfl (by decide) rfl ?_
        refine g_goto X 334 dL_areRows_393 (by decide) ?_
        refine g_sub [(0, .ref (g 0 0)), (1, .ref bp), (2, .ref bc), (3, .ref bq), (4, .ref bn), (5, .int x5), (6, .int 0), (7, .int x7), (8, .int (x8 + 1))] [2, 3, 4, 5, 6, 7, 1, 8, 0] rfl ?_
        exact ih _ _ _ _ _ hw
      · replace hw := hw.2 c16
        refine g_aload_n X 0 dL_areRows_346 rfl rfl ?_
        refine g_iload X 7 dL_areRows_347 rfl ?_
        refine g_iload X 8 dL_areRows_349 rfl ?_
        refine g_ciV X [wC ct g kc, wS ct (g 1) v, wV ct g b, wL ct (g 12) y, wI 40 ct bp ap, wI 20 ct bc ac, wI 24 ct bq aq, wI 7 ct bn an] (fun (_ : Unit) => [wC ct g kc, wS ct (g 1) v, wV ct g b, wL ct (g 12) y, wI 40 ct bp ap, wI 20 ct bc ac, wI 24 ct bq aq, wI 7 ct bn an]) (fun _ => fl [wC ct g kc, wS ct (g 1) v, wV ct g b, wL ct (g 12) y, wI 40 ct bp ap, wI 20 ct bc ac, wI 24 ct bq aq, wI 7 ct bn an]) 8 [0, 1] [2, 3, 4, 5, 6, 7] 0 (kX7_at_nt l D ct g kc v x7 x8 _ hw) (cwV 2 X.1.2.2.2.2 gL_areRows_X7_at rfl rfl rfl (by decide +kernel) ⟨Nat.le_of_ble_eq_true rfl, Nat.le_of_ble_eq_true rfl⟩) dL_areRows_351 rfl rfl (Nat.le_of_ble_eq_true rfl) ⟨Nat.le_of_ble_eq_true rfl, Nat.le_of_ble_eq_true rfl⟩ rfl rfl rfl (by decide) (fun _ => rfl) (fun _ => rfl) (fun _ => rfl) (fun _ => rfl) rfl rfl rfl (fun r17 _ hw => ?_)
        refine g_iload X 8 dL_areRows_354 rfl ?_
        refine g_aload X 4 dL_areRows_356 rfl ?_
        refine g_iconst (v := 3) X rfl dL_areRows_358 ?_
        refine g_iload X 7 dL_areRows_359 rfl ?_
        refine g_iadd X dL_areRows_361 ?_
        obtain ⟨h19, hw⟩ := hw
        refine g_iald X 19 0 dL_areRows_362 rfl rfl h19 ?_
        refine g_icmp_ge X 379 dL_areRows_363 (by decide) (fun c20 => ?_) (fun c20 => ?_)
        · replace hw := hw.1 c20
          refine g_iconst (v := (-1)) X rfl dL_areRows_379 ?_
          refine g_sub [(0, .ref (g 0 0)), (1, .ref bp), (2, .ref bc), (3, .ref bq), (4, .ref bn), (5, .int x5), (7, .int x7), (8, .int x8)] [0, 1, 2, 3, 4, 5, 7, 8] rfl ?_
          exact kL_areRows_380 l D ct g bp bc bq bn kc v b ap ac aq an post _ _ X hK273 ih _ _ _ _ _ _ hw
        · replace hw := hw.2 c20
          refine g_aload_n X 3 dL_areRows_366 rfl rfl ?_
          refine g_bipush (v := 6) X rfl dL_areRows_367 ?_
          refine g_iload X 7 dL_areRows_369 rfl ?_
          refine g_imul X dL_areRows_371 ?_
          refine g_iload X 8 dL_areRows_372 rfl ?_
          refine g_iadd X dL_areRows_374 ?_
          obtain ⟨h22, hw⟩ := hw
          refine g_iald X 18 0 dL_areRows_375 rfl rfl h22 ?_
          refine g_goto X 380 dL_areRows_376 (by decide) ?_
          refine g_sub [(0, .ref (g 0 0)), (1, .ref bp), (2, .ref bc), (3, .ref bq), (4, .ref bn), (5, .int x5), (7, .int x7), (8, .int x8)] [0, 1, 2, 3, 4, 5, 7, 8] rfl ?_
          exact kL_areRows_380 l D ct g bp bc bq bn kc v b ap ac aq an post _ _ X hK273 ih _ _ _ _ _ _ hw

set_option maxHeartbeats 4000000 in
set_option maxRecDepth 20000 in
theorem kL_areRows_273 (l : Launch) (D : va_G) (ct : Nat → ClassId) (g : Nat → Nat → Nat) (bp : Nat) (bc : Nat) (bq : Nat) (bn : Nat) (kc : Mem) (v : Mem) (b : Mem) (ap : Mem) (ac : Mem) (aq : Mem) (an : Mem) (post : Int32 → Mem → Prop) {p : Program} {e : Env} {s : State} {m : MethodId} {args : Array Value} {below : List Frame} {meth : Method} {c : Code} {A : Nat → Prop} (X : Cx p s m args meth c cL_areRows 10 RL wsL_areRows D (tyz ct) A s.heap (some .boolean))  :
    ∀ (n : Nat) (y : Mem) (x5 : Int32) (x6 : Int32) (x7 : Int32), PL_areRows_273 kc v b ap ac aq an post n y x5 x6 x7 → GL_areRows l D ct g bp bc bq bn kc v b ap ac aq an post p e s m args below meth c A (fl [wC ct g kc, wS ct (g 1) v, wV ct g b, wL ct (g 12) y, wI 40 ct bp ap, wI 20 ct bc ac, wI 24 ct bq aq, wI 7 ct bn an]) [(0, .ref (g 0 0)), (1, .ref bp), (2, .ref bc), (3, .ref bq), (4, .ref bn), (5, .int x5), (6, .int x6), (7, .int x7)] 273 [] := by
  intro n
  induction n with
  | zero =>
    intro y x5 x6 x7 hw
    exact hw.elim
  | succ n ih =>
    intro y x5 x6 x7 hw
    unfold PL_areRows_273 at hw
    refine g_iload X 7 dL_areRows_273 rfl ?_
    refine g_iconst (v := 4) X rfl dL_areRows_275 ?_
    refine g_icmp_ge X 402 dL_areRows_276 (by decide) (fun c8 => ?_) (fun c8 => ?_)
    · replace hw := hw.1 c8
      refine g_iload X 6 dL_areRows_402 rfl ?_
      refine g_if_eq X 422 dL_areRows_404 (by decide) (fun c9 => ?_) (fun c9 => ?_)
      · replace hw := hw.1 c9
        refine g_iconst (v := 0) X rfl dL_areRows_422 ?_
        exact g_zret X y isB_0 hw rfl (Nat.le_of_ble_eq_true rfl) (Nat.le_of_ble_eq_true rfl) dL_areRows_423
      · replace hw := hw.2 c9
        refine g_aload_n X 0 dL_areRows_407 rfl rfl ?_
        refine g_bipush (v := 6) X rfl dL_areRows_408 ?_
        refine g_ciV X [wC ct g kc, wS ct (g 1) v, wV ct g b, wL ct (g 12) y, wI 40 ct bp ap, wI 20 ct bc ac, wI 24 ct bq aq, wI 7 ct bn an] (fun (u11 : Mem) => [wC ct g kc, wS ct (g 1) v, wV ct g b, wL ct (g 12) u11, wI 40 ct bp ap, wI 20 ct bc ac, wI 24 ct bq aq, wI 7 ct bn an]) (fun (u11 : Mem) => fl [wC ct g kc, wS ct (g 1) v, wV ct g b, wL ct (g 12) u11, wI 40 ct bp ap, wI 20 ct bc ac, wI 24 ct bq aq, wI 7 ct bn an]) 8 [0, 1, 2, 3] [4, 5, 6, 7] 0 (kX7_count_nt l D ct g kc v b y 6 _ hw) (cwV 1 X.1.2.2.2.2 gL_areRows_X7_count rfl rfl rfl (by decide +kernel) ⟨Nat.le_of_ble_eq_true rfl, Nat.le_of_ble_eq_true rfl⟩) dL_areRows_410 rfl rfl (Nat.le_of_ble_eq_true rfl) ⟨Nat.le_of_ble_eq_true rfl, Nat.le_of_ble_eq_true rfl⟩ rfl rfl rfl (by decide) (fun _ => rfl) (fun _ => rfl) (fun _ => rfl) (fun _ => rfl) rfl rfl rfl (fun r10 u11 hw => ?_)
        obtain ⟨y12, hy12⟩ : ∃ z : Mem, z = u11 := ⟨_, rfl⟩
        rw [← hy12] at hw
        rw [← hy12]
        refine g_iload X 5 dL_areRows_413 rfl ?_
        refine g_icmp_ne X 422 dL_areRows_415 (by decide) (fun c13 => ?_) (fun c13 => ?_)
        · replace hw := hw.1 c13
          refine g_iconst (v := 0) X rfl dL_areRows_422 ?_
          exact g_zret X y12 isB_0 hw rfl (Nat.le_of_ble_eq_true rfl) (Nat.le_of_ble_eq_true rfl) dL_areRows_423
        · replace hw := hw.2 c13
          refine g_iconst (v := 1) X rfl dL_areRows_418 ?_
          refine g_goto X 423 dL_areRows_419 (by decide) ?_
          exact g_zret X y12 isB_1 hw rfl (Nat.le_of_ble_eq_true rfl) (Nat.le_of_ble_eq_true rfl) dL_areRows_423
    · replace hw := hw.2 c8
      refine g_iload X 6 dL_areRows_279 rfl ?_
      refine g_if_eq X 328 dL_areRows_281 (by decide) (fun c14 => ?_) (fun c14 => ?_)
      · replace hw := hw.1 c14
        refine g_iconst (v := 0) X rfl dL_areRows_328 ?_
        refine g_istore X [(6, .int 0), (0, .ref (g 0 0)), (1, .ref bp), (2, .ref bc), (3, .ref bq), (4, .ref bn), (5, .int x5), (7, .int x7)] dL_areRows_329 (by decide) rfl ?_
        refine g_iconst (v := 0) X rfl dL_areRows_331 ?_
        refine g_istore X [(8, .int 0), (6, .int 0), (0, .ref (g 0 0)), (1, .ref bp), (2, .ref bc), (3, .ref bq), (4, .ref bn), (5, .int x5), (7, .int x7)] dL_areRows_332 (by decide) rfl ?_
        refine g_sub [(0, .ref (g 0 0)), (1, .ref bp), (2, .ref bc), (3, .ref bq), (4, .ref bn), (5, .int x5), (6, .int 0), (7, .int x7), (8, .int 0)] [2, 3, 4, 5, 6, 7, 1, 8, 0] rfl ?_
        obtain ⟨n23, hw⟩ := hw
        exact kL_areRows_334 l D ct g bp bc bq bn kc v b ap ac aq an post _ X ih n23 _ _ _ _ _ hw
      · replace hw := hw.2 c14
        refine g_aload_n X 0 dL_areRows_284 rfl rfl ?_
        refine g_iload X 7 dL_areRows_285 rfl ?_
        refine g_iconst (v := 0) X rfl dL_areRows_287 ?_
        refine g_ciV X [wC ct g kc, wS ct (g 1) v, wV ct g b, wL ct (g 12) y, wI 40 ct bp ap, wI 20 ct bc ac, wI 24 ct bq aq, wI 7 ct bn an] (fun (u25 : Mem) => [wC ct g kc, wS ct (g 1) v, wV ct g b, wL ct (g 12) u25, wI 40 ct bp ap, wI 20 ct bc ac, wI 24 ct bq aq, wI 7 ct bn an]) (fun (u25 : Mem) => fl [wC ct g kc, wS ct (g 1) v, wV ct g b, wL ct (g 12) u25, wI 40 ct bp ap, wI 20 ct bc ac, wI 24 ct bq aq, wI 7 ct bn an]) 8 [0, 1, 3] [2, 4, 5, 6, 7] 0 (kX7_crossings_nt l D ct g kc v y x7 0 _ hw) (cwV 2 X.1.2.2.2.2 gL_areRows_X7_crossings rfl rfl rfl (by decide +kernel) ⟨Nat.le_of_ble_eq_true rfl, Nat.le_of_ble_eq_true rfl⟩) dL_areRows_288 rfl rfl (Nat.le_of_ble_eq_true rfl) ⟨Nat.le_of_ble_eq_true rfl, Nat.le_of_ble_eq_true rfl⟩ rfl rfl rfl (by decide) (fun _ => rfl) (fun _ => rfl) (fun _ => rfl) (fun _ => rfl) rfl rfl rfl (fun r24 u25 hw => ?_)
        obtain ⟨y26, hy26⟩ : ∃ z : Mem, z = u25 := ⟨_, rfl⟩
        rw [← hy26] at hw
        rw [← hy26]
        refine g_aload_n X 1 dL_areRows_291 rfl rfl ?_
        refine g_aload_n X 2 dL_areRows_292 rfl rfl ?_
        refine g_aload_n X 3 dL_areRows_293 rfl rfl ?_
        refine g_aload X 4 dL_areRows_294 rfl ?_
        refine g_iload X 7 dL_areRows_296 rfl ?_
        refine g_ciS X [wC ct g kc, wS ct (g 1) v, wV ct g b, wL ct (g 12) y26, wI 40 ct bp ap, wI 20 ct bc ac, wI 24 ct bq aq, wI 7 ct bn an] (fun (_ : Unit) => [wC ct g kc, wS ct (g 1) v, wV ct g b, wL ct (g 12) y26, wI 40 ct bp ap, wI 20 ct bc ac, wI 24 ct bq aq, wI 7 ct bn an]) (fun _ => fl [wC ct g kc, wS ct (g 1) v, wV ct g b, wL ct (g 12) y26, wI 40 ct bp ap, wI 20 ct bc ac, wI 24 ct bq aq, wI 7 ct bn an]) 8 [4, 5, 6, 7] [0, 1, 2, 3] (kL_crosses l D ct bp bc bq bn ap ac aq an x7 _ hw) (va_cwS 5 X.1.2.2.2.2 gL_areRows_L_crosses rfl rfl rfl (by decide +kernel) ⟨Nat.le_of_ble_eq_true rfl, Nat.le_of_ble_eq_true rfl⟩) dL_areRows_298 rfl rfl (Nat.le_of_ble_eq_true rfl) ⟨Nat.le_of_ble_eq_true rfl, Nat.le_of_ble_eq_true rfl⟩ rfl rfl rfl (by decide) (fun _ => rfl) (fun _ => rfl) (fun _ => rfl) (fun _ => rfl) (fun r27 _ hw => ?_)
        refine g_icmp_ne X 328 dL_areRows_301 (by decide) (fun c29 => ?_) (fun c29 => ?_)
        · replace hw := hw.1 c29
          refine g_iconst (v := 0) X rfl dL_areRows_328 ?_
          refine g_istore X [(6, .int 0), (0, .ref (g 0 0)), (1, .ref bp), (2, .ref bc), (3, .ref bq), (4, .ref bn), (5, .int x5), (7, .int x7)] dL_areRows_329 (by decide) rfl ?_
          refine g_iconst (v := 0) X rfl dL_areRows_331 ?_
          refine g_istore X [(8, .int 0), (6, .int 0), (0, .ref (g 0 0)), (1, .ref bp), (2, .ref bc), (3, .ref bq), (4, .ref bn), (5, .int x5), (7, .int x7)] dL_areRows_332 (by decide) rfl ?_
          refine g_sub [(0, .ref (g 0 0)), (1, .ref bp), (2, .ref bc), (3, .ref bq), (4, .ref bn), (5, .int x5), (6, .int 0), (7, .int x7), (8, .int 0)] [2, 3, 4, 5, 6, 7, 1, 8, 0] rfl ?_
          obtain ⟨n30, hw⟩ := hw
          exact kL_areRows_334 l D ct g bp bc bq bn kc v b ap ac aq an post _ X ih n30 _ _ _ _ _ hw
        · replace hw := hw.2 c29
          refine g_aload_n X 0 dL_areRows_304 rfl rfl ?_
          refine g_iload X 7 dL_areRows_305 rfl ?_
          refine g_iconst (v := 1) X rfl dL_areRows_307 ?_
          refine g_ciV X [wC ct g kc, wS ct (g 1) v, wV ct g b, wL ct (g 12) y26, wI 40 ct bp ap, wI 20 ct bc ac, wI 24 ct bq aq, wI 7 ct bn an] (fun (u32 : Mem) => [wC ct g kc, wS ct (g 1) v, wV ct g b, wL ct (g 12) u32, wI 40 ct bp ap, wI 20 ct bc ac, wI 24 ct bq aq, wI 7 ct bn an]) (fun (u32 : Mem) => fl [wC ct g kc, wS ct (g 1) v, wV ct g b, wL ct (g 12) u32, wI 40 ct bp ap, wI 20 ct bc ac, wI 24 ct bq aq, wI 7 ct bn an]) 8 [0, 1, 3] [2, 4, 5, 6, 7] 0 (kX7_crossings_nt l D ct g kc v y26 x7 1 _ hw) (cwV 2 X.1.2.2.2.2 gL_areRows_X7_crossings rfl rfl rfl (by decide +kernel) ⟨Nat.le_of_ble_eq_true rfl, Nat.le_of_ble_eq_true rfl⟩) dL_areRows_308 rfl rfl (Nat.le_of_ble_eq_true rfl) ⟨Nat.le_of_ble_eq_true rfl, Nat.le_of_ble_eq_true rfl⟩ rfl rfl rfl (by decide) (fun _ => rfl) (fun _ => rfl) (fun _ => rfl) (fun _ => rfl) rfl rfl rfl (fun r31 u32 hw => ?_)
          obtain ⟨y33, hy33⟩ : ∃ z : Mem, z = u32 := ⟨_, rfl⟩
          rw [← hy33] at hw
          rw [← hy33]
          refine g_aload_n X 1 dL_areRows_311 rfl rfl ?_
          refine g_aload_n X 2 dL_areRows_312 rfl rfl ?_
          refine g_aload_n X 3 dL_areRows_313 rfl rfl ?_
          refine g_aload X 4 dL_areRows_314 rfl ?_
          refine g_iload X 7 dL_areRows_316 rfl ?_
          refine g_ciS X [wC ct g kc, wS ct (g 1) v, wV ct g b, wL ct (g 12) y33, wI 40 ct bp ap, wI 20 ct bc ac, wI 24 ct bq aq, wI 7 ct bn an] (fun (_ : Unit) => [wC ct g kc, wS ct (g 1) v, wV ct g b, wL ct (g 12) y33, wI 40 ct bp ap, wI 20 ct bc ac, wI 24 ct bq aq, wI 7 ct bn an]) (fun _ => fl [wC ct g kc, wS ct (g 1) v, wV ct g b, wL ct (g 12) y33, wI 40 ct bp ap, wI 20 ct bc ac, wI 24 ct bq aq, wI 7 ct bn an]) 8 [4, 5, 6, 7] [0, 1, 2, 3] (kL_crosses l D ct bp bc bq bn ap ac aq an x7 _ hw) (va_cwS 5 X.1.2.2.2.2 gL_areRows_L_crosses rfl rfl rfl (by decide +kernel) ⟨Nat.le_of_ble_eq_true rfl, Nat.le_of_ble_eq_true rfl⟩) dL_areRows_318 rfl rfl (Nat.le_of_ble_eq_true rfl) ⟨Nat.le_of_ble_eq_true rfl, Nat.le_of_ble_eq_true rfl⟩ rfl rfl rfl (by decide) (fun _ => rfl) (fun _ => rfl) (fun _ => rfl) (fun _ => rfl) (fun r34 _ hw => ?_)
          refine g_icmp_ne X 328 dL_areRows_321 (by decide) (fun c36 => ?_) (fun c36 => ?_)
          · replace hw := hw.1 c36
            refine g_iconst (v := 0) X rfl dL_areRows_328 ?_
            refine g_istore X [(6, .int 0), (0, .ref (g 0 0)), (1, .ref bp), (2, .ref bc), (3, .ref bq), (4, .ref bn), (5, .int x5), (7, .int x7)] dL_areRows_329 (by decide) rfl ?_
            refine g_iconst (v := 0) X rfl dL_areRows_331 ?_
            refine g_istore X [(8, .int 0), (6, .int 0), (0, .ref (g 0 0)), (1, .ref bp), (2, .ref bc), (3, .ref bq), (4, .ref bn), (5, .int x5), (7, .int x7)] dL_areRows_332 (by decide) rfl ?_
            refine g_sub [(0, .ref (g 0 0)), (1, .ref bp), (2, .ref bc), (3, .ref bq), (4, .ref bn), (5, .int x5), (6, .int 0), (7, .int x7), (8, .int 0)] [2, 3, 4, 5, 6, 7, 1, 8, 0] rfl ?_
            obtain ⟨n37, hw⟩ := hw
            exact kL_areRows_334 l D ct g bp bc bq bn kc v b ap ac aq an post _ X ih n37 _ _ _ _ _ hw
          · replace hw := hw.2 c36
            refine g_iconst (v := 1) X rfl dL_areRows_324 ?_
            refine g_goto X 329 dL_areRows_325 (by decide) ?_
            refine g_istore X [(6, .int 1), (0, .ref (g 0 0)), (1, .ref bp), (2, .ref bc), (3, .ref bq), (4, .ref bn), (5, .int x5), (7, .int x7)] dL_areRows_329 (by decide) rfl ?_
            refine g_iconst (v := 0) X rfl dL_areRows_331 ?_
            refine g_istore X [(8, .int 0), (6, .int 1), (0, .ref (g 0 0)), (1, .ref bp), (2, .ref bc), (3, .ref bq), (4, .ref bn), (5, .int x5), (7, .int x7)] dL_areRows_332 (by decide) rfl ?_
            refine g_sub [(0, .ref (g 0 0)), (1, .ref bp), (2, .ref bc), (3, .ref bq), (4, .ref bn), (5, .int x5), (6, .int 1), (7, .int x7), (8, .int 0)] [2, 3, 4, 5, 6, 7, 1, 8, 0] rfl ?_
            obtain ⟨n38, hw⟩ := hw
            exact kL_areRows_334 l D ct g bp bc bq bn kc v b ap ac aq an post _ X ih n38 _ _ _ _ _ hw

set_option maxHeartbeats 4000000 in
set_option maxRecDepth 20000 in
theorem kL_areRows_247 (l : Launch) (D : va_G) (ct : Nat → ClassId) (g : Nat → Nat → Nat) (bp : Nat) (bc : Nat) (bq : Nat) (bn : Nat) (kc : Mem) (v : Mem) (b : Mem) (ap : Mem) (ac : Mem) (aq : Mem) (an : Mem) (post : Int32 → Mem → Prop) (K54 : Mem → Int32 → Int32 → Int32 → Prop) {p : Program} {e : Env} {s : State} {m : MethodId} {args : Array Value} {below : List Frame} {meth : Method} {c : Code} {A : Nat → Prop} (X : Cx p s m args meth c cL_areRows 10 RL wsL_areRows D (tyz ct) A s.heap (some .boolean)) (hK54 : ∀ (y : Mem) (x5 : Int32) (x6 : Int32) (x7 : Int32), K54 y x5 x6 x7 → GL_areRows l D ct g bp bc bq bn kc v b ap ac aq an post p e s m args below meth c A (fl [wC ct g kc, wS ct (g 1) v, wV ct g b, wL ct (g 12) y, wI 40 ct bp ap, wI 20 ct bc ac, wI 24 ct bq aq, wI 7 ct bn an]) [(0, .ref (g 0 0)), (1, .ref bp), (2, .ref bc), (3, .ref bq), (4, .ref bn), (5, .int x5), (6, .int x6), (7, .int x7)] 54 []) :
    ∀ (y : Mem) (x5 : Int32) (x7 : Int32) (x9 : Int32) (z0 : Int32), PL_areRows_247 kc v b ap ac aq an post K54 y x5 x7 x9 z0 → GL_areRows l D ct g bp bc bq bn kc v b ap ac aq an post p e s m args below meth c A (fl [wC ct g kc, wS ct (g 1) v, wV ct g b, wL ct (g 12) y, wI 40 ct bp ap, wI 20 ct bc ac, wI 24 ct bq aq, wI 7 ct bn an]) [(0, .ref (g 0 0)), (1, .ref bp), (2, .ref bc), (3, .ref bq), (4, .ref bn), (5, .int x5), (7, .int x7), (9, .int x9)] 247 [.int z0] := by
  intro y x5 x7 x9 z0 hw
  unfold PL_areRows_247 at hw
  refine g_istore X [(6, .int z0), (0, .ref (g 0 0)), (1, .ref bp), (2, .ref bc), (3, .ref bq), (4, .ref bn), (5, .int x5), (7, .int x7), (9, .int x9)] dL_areRows_247 (by decide) rfl ?_
  refine g_iload X 6 dL_areRows_249 rfl ?_
  refine g_iload X 8 dL_areRows_251 rfl ?_
  refine g_if_le X 260 dL_areRows_253 (by decide) (fun c56 => ?_) (fun c56 => ?_)
  · replace hw := hw.1 c56
    refine g_iconst (v := 0) X rfl dL_areRows_260 ?_
    refine g_iadd X dL_areRows_261 ?_
    refine g_topi (fun q57 hq57 => ?_)
    replace hw := hw q57 hq57
    refine g_istore X [(5, .int q57), (6, .int z0), (0, .ref (g 0 0)), (1, .ref bp), (2, .ref bc), (3, .ref bq), (4, .ref bn), (7, .int x7), (9, .int x9)] dL_areRows_262 (by decide) rfl ?_
    refine g_iinc X [(7, .int (x7 + 1)), (5, .int q57), (6, .int z0), (0, .ref (g 0 0)), (1, .ref bp), (2, .ref bc), (3, .ref bq), (4, .ref bn), (9, .int x9)] 7 dL_areRows_264 rfl rfl (by decide) rfl ?_
    refine g_goto X 54 dL_areRows_267 (by decide) ?_
    refine g_sub [(0, .ref (g 0 0)), (1, .ref bp), (2, .ref bc), (3, .ref bq), (4, .ref bn), (5, .int q57), (6, .int z0), (7, .int (x7 + 1))] [3, 4, 5, 6, 7, 1, 2, 0] rfl ?_
    exact hK54 _ _ _ _ hw
  · replace hw := hw.2 c56
    refine g_iconst (v := 1) X rfl dL_areRows_256 ?_
    refine g_goto X 261 dL_areRows_257 (by decide) ?_
    refine g_iadd X dL_areRows_261 ?_
    refine g_topi (fun q58 hq58 => ?_)
    replace hw := hw q58 hq58
    refine g_istore X [(5, .int q58), (6, .int z0), (0, .ref (g 0 0)), (1, .ref bp), (2, .ref bc), (3, .ref bq), (4, .ref bn), (7, .int x7), (9, .int x9)] dL_areRows_262 (by decide) rfl ?_
    refine g_iinc X [(7, .int (x7 + 1)), (5, .int q58), (6, .int z0), (0, .ref (g 0 0)), (1, .ref bp), (2, .ref bc), (3, .ref bq), (4, .ref bn), (9, .int x9)] 7 dL_areRows_264 rfl rfl (by decide) rfl ?_
    refine g_goto X 54 dL_areRows_267 (by decide) ?_
    refine g_sub [(0, .ref (g 0 0)), (1, .ref bp), (2, .ref bc), (3, .ref bq), (4, .ref bn), (5, .int q58), (6, .int z0), (7, .int (x7 + 1))] [3, 4, 5, 6, 7, 1, 2, 0] rfl ?_
    exact hK54 _ _ _ _ hw

set_option maxHeartbeats 4000000 in
set_option maxRecDepth 20000 in
theorem kL_areRows_246 (l : Launch) (D : va_G) (ct : Nat → ClassId) (g : Nat → Nat → Nat) (bp : Nat) (bc : Nat) (bq : Nat) (bn : Nat) (kc : Mem) (v : Mem) (b : Mem) (ap : Mem) (ac : Mem) (aq : Mem) (an : Mem) (post : Int32 → Mem → Prop) (K54 : Mem → Int32 → Int32 → Int32 → Prop) {p : Program} {e : Env} {s : State} {m : MethodId} {args : Array Value} {below : List Frame} {meth : Method} {c : Code} {A : Nat → Prop} (X : Cx p s m args meth c cL_areRows 10 RL wsL_areRows D (tyz ct) A s.heap (some .boolean)) (hK54 : ∀ (y : Mem) (x5 : Int32) (x6 : Int32) (x7 : Int32), K54 y x5 x6 x7 → GL_areRows l D ct g bp bc bq bn kc v b ap ac aq an post p e s m args below meth c A (fl [wC ct g kc, wS ct (g 1) v, wV ct g b, wL ct (g 12) y, wI 40 ct bp ap, wI 20 ct bc ac, wI 24 ct bq aq, wI 7 ct bn an]) [(0, .ref (g 0 0)), (1, .ref bp), (2, .ref bc), (3, .ref bq), (4, .ref bn), (5, .int x5), (6, .int x6), (7, .int x7)] 54 []) :
    ∀ (y : Mem) (x5 : Int32) (x7 : Int32) (x9 : Int32), PL_areRows_246 kc v b ap ac aq an post K54 y x5 x7 x9 → GL_areRows l D ct g bp bc bq bn kc v b ap ac aq an post p e s m args below meth c A (fl [wC ct g kc, wS ct (g 1) v, wV ct g b, wL ct (g 12) y, wI 40 ct bp ap, wI 20 ct bc ac, wI 24 ct bq aq, wI 7 ct bn an]) [(0, .ref (g 0 0)), (1, .ref bp), (2, .ref bc), (3, .ref bq), (4, .ref bn), (5, .int x5), (7, .int x7), (9, .int x9)] 246 [] := by
  intro y x5 x7 x9 hw
  unfold PL_areRows_246 at hw
  refine g_iconst (v := 0) X rfl dL_areRows_246 ?_
  refine g_sub [(0, .ref (g 0 0)), (1, .ref bp), (2, .ref bc), (3, .ref bq), (4, .ref bn), (5, .int x5), (7, .int x7), (9, .int x9)] [0, 1, 2, 3, 4, 5, 6, 7] rfl ?_
  exact kL_areRows_247 l D ct g bp bc bq bn kc v b ap ac aq an post _ X hK54 _ _ _ _ _ hw

set_option maxHeartbeats 4000000 in
set_option maxRecDepth 20000 in
theorem kL_areRows_74 (l : Launch) (D : va_G) (ct : Nat → ClassId) (g : Nat → Nat → Nat) (bp : Nat) (bc : Nat) (bq : Nat) (bn : Nat) (kc : Mem) (v : Mem) (b : Mem) (ap : Mem) (ac : Mem) (aq : Mem) (an : Mem) (post : Int32 → Mem → Prop) (K54 : Mem → Int32 → Int32 → Int32 → Prop) {p : Program} {e : Env} {s : State} {m : MethodId} {args : Array Value} {below : List Frame} {meth : Method} {c : Code} {A : Nat → Prop} (X : Cx p s m args meth c cL_areRows 10 RL wsL_areRows D (tyz ct) A s.heap (some .boolean)) (hK54 : ∀ (y : Mem) (x5 : Int32) (x6 : Int32) (x7 : Int32), K54 y x5 x6 x7 → GL_areRows l D ct g bp bc bq bn kc v b ap ac aq an post p e s m args below meth c A (fl [wC ct g kc, wS ct (g 1) v, wV ct g b, wL ct (g 12) y, wI 40 ct bp ap, wI 20 ct bc ac, wI 24 ct bq aq, wI 7 ct bn an]) [(0, .ref (g 0 0)), (1, .ref bp), (2, .ref bc), (3, .ref bq), (4, .ref bn), (5, .int x5), (6, .int x6), (7, .int x7)] 54 []) :
    ∀ (n : Nat) (y : Mem) (x5 : Int32) (x7 : Int32) (x8 : Int32) (x9 : Int32), PL_areRows_74 kc v b ap ac aq an post K54 n y x5 x7 x8 x9 → GL_areRows l D ct g bp bc bq bn kc v b ap ac aq an post p e s m args below meth c A (fl [wC ct g kc, wS ct (g 1) v, wV ct g b, wL ct (g 12) y, wI 40 ct bp ap, wI 20 ct bc ac, wI 24 ct bq aq, wI 7 ct bn an]) [(0, .ref (g 0 0)), (1, .ref bp), (2, .ref bc), (3, .ref bq), (4, .ref bn), (5, .int x5), (7, .int x7), (8, .int x8), (9, .int x9)] 74 [] := by
  intro n
  induction n with
  | zero =>
    intro y x5 x7 x8 x9 hw
    exact hw.elim
  | succ n ih =>
    intro y x5 x7 x8 x9 hw
    unfold PL_areRows_74 at hw
    refine g_iload X 8 dL_areRows_74 rfl ?_
    refine g_aload X 4 dL_areRows_76 rfl ?_
    refine g_iconst (v := 0) X rfl dL_areRows_78 ?_
    obtain ⟨h42, hw⟩ := hw
    refine g_iald X 19 0 dL_areRows_79 rfl rfl h42 ?_
    refine g_icmp_ge X 112 dL_areRows_80 (by decide) (fun c43 => ?_) (fun c43 => ?_)
    · replace hw := hw.1 c43
      refine g_aload_n X 1 dL_areRows_112 rfl rfl ?_
      refine g_aload_n X 2 dL_areRows_113 rfl rfl ?_
      refine g_aload X 4 dL_areRows_114 rfl ?_
      refine g_aload_n X 2 dL_areRows_116 rfl rfl ?_
      refine g_iconst (v := 2) X rfl dL_areRows_117 ?_
      refine g_iload X 6 dL_areRows_118 rfl ?_
      refine g_imul X dL_areRows_120 ?_
      obtain ⟨h44, hw⟩ := hw
      refine g_iald X 17 0 dL_areRows_121 rfl rfl h44 ?_
      refine g_ciS X [wC ct g kc, wS ct (g 1) v, wV ct g b, wL ct (g 12) y, wI 40 ct bp ap, wI 20 ct bc ac, wI 24 ct bq aq, wI 7 ct bn an] (fun (_ : Unit) => [wC ct g kc, wS ct (g 1) v, wV ct g b, wL ct (g 12) y, wI 40 ct bp ap, wI 20 ct bc ac, wI 24 ct bq aq, wI 7 ct bn an]) (fun _ => fl [wC ct g kc, wS ct (g 1) v, wV ct g b, wL ct (g 12) y, wI 40 ct bp ap, wI 20 ct bc ac, wI 24 ct bq aq, wI 7 ct bn an]) 8 [4, 5, 7] [0, 1, 2, 3, 6] (kL_ancestors l D ct bp bc bn ap ac an (ac 0 (ix (2 * x7))) _ hw) (va_cwS 4 X.1.2.2.2.2 gL_areRows_L_ancestors rfl rfl rfl (by decide +kernel) ⟨Nat.le_of_ble_eq_true rfl, Nat.le_of_ble_eq_true rfl⟩) dL_areRows_122 rfl rfl (Nat.le_of_ble_eq_true rfl) ⟨Nat.le_of_ble_eq_true rfl, Nat.le_of_ble_eq_true rfl⟩ rfl rfl rfl (by decide) (fun _ => rfl) (fun _ => rfl) (fun _ => rfl) (fun _ => rfl) (fun r45 _ hw => ?_)
      refine g_aload_n X 1 dL_areRows_125 rfl rfl ?_
      refine g_aload_n X 2 dL_areRows_126 rfl rfl ?_
      refine g_aload X 4 dL_areRows_127 rfl ?_
      refine g_aload_n X 2 dL_areRows_129 rfl rfl ?_
      refine g_iconst (v := 2) X rfl dL_areRows_130 ?_
      refine g_iload X 6 dL_areRows_131 rfl ?_
      refine g_imul X dL_areRows_133 ?_
      refine g_iconst (v := 1) X rfl dL_areRows_134 ?_
      refine g_iadd X dL_areRows_135 ?_
      obtain ⟨h47, hw⟩ := hw
      refine g_iald X 17 0 dL_areRows_136 rfl rfl h47 ?_
      refine g_ciS X [wC ct g kc, wS ct (g 1) v, wV ct g b, wL ct (g 12) y, wI 40 ct bp ap, wI 20 ct bc ac, wI 24 ct bq aq, wI 7 ct bn an] (fun (_ : Unit) => [wC ct g kc, wS ct (g 1) v, wV ct g b, wL ct (g 12) y, wI 40 ct bp ap, wI 20 ct bc ac, wI 24 ct bq aq, wI 7 ct bn an]) (fun _ => fl [wC ct g kc, wS ct (g 1) v, wV ct g b, wL ct (g 12) y, wI 40 ct bp ap, wI 20 ct bc ac, wI 24 ct bq aq, wI 7 ct bn an]) 8 [4, 5, 7] [0, 1, 2, 3, 6] (kL_ancestors l D ct bp bc bn ap ac an (ac 0 (ix ((2 * x7) + 1))) _ hw) (va_cwS 4 X.1.2.2.2.2 gL_areRows_L_ancestors rfl rfl rfl (by decide +kernel) ⟨Nat.le_of_ble_eq_true rfl, Nat.le_of_ble_eq_true rfl⟩) dL_areRows_137 rfl rfl (Nat.le_of_ble_eq_true rfl) ⟨Nat.le_of_ble_eq_true rfl, Nat.le_of_ble_eq_true rfl⟩ rfl rfl rfl (by decide) (fun _ => rfl) (fun _ => rfl) (fun _ => rfl) (fun _ => rfl) (fun r48 _ hw => ?_)
      refine g_iand X dL_areRows_140 ?_
      refine g_ciS X [wC ct g kc, wS ct (g 1) v, wV ct g b, wL ct (g 12) y, wI 40 ct bp ap, wI 20 ct bc ac, wI 24 ct bq aq, wI 7 ct bn an] (fun (_ : Unit) => [wC ct g kc, wS ct (g 1) v, wV ct g b, wL ct (g 12) y, wI 40 ct bp ap, wI 20 ct bc ac, wI 24 ct bq aq, wI 7 ct bn an]) (fun _ => fl [wC ct g kc, wS ct (g 1) v, wV ct g b, wL ct (g 12) y, wI 40 ct bp ap, wI 20 ct bc ac, wI 24 ct bq aq, wI 7 ct bn an]) 8 [] [0, 1, 2, 3, 4, 5, 6, 7] (kL_ones l D ct  (r45 &&& r48) _ hw) (va_cwS 1 X.1.2.2.2.2 gL_areRows_L_ones rfl rfl rfl (by decide +kernel) ⟨Nat.le_of_ble_eq_true rfl, Nat.le_of_ble_eq_true rfl⟩) dL_areRows_141 rfl rfl (Nat.le_of_ble_eq_true rfl) ⟨Nat.le_of_ble_eq_true rfl, Nat.le_of_ble_eq_true rfl⟩ rfl rfl rfl (by decide) (fun _ => rfl) (fun _ => rfl) (fun _ => rfl) (fun _ => rfl) (fun r50 _ hw => ?_)
      refine g_istore X [(9, .int r50), (0, .ref (g 0 0)), (1, .ref bp), (2, .ref bc), (3, .ref bq), (4, .ref bn), (5, .int x5), (7, .int x7), (8, .int x8)] dL_areRows_144 (by decide) rfl ?_
      refine g_aload_n X 1 dL_areRows_146 rfl rfl ?_
      refine g_iload X 7 dL_areRows_147 rfl ?_
      refine g_iconst (v := 0) X rfl dL_areRows_149 ?_
      refine g_ciV X [wC ct g kc, wS ct (g 1) v, wV ct g b, wL ct (g 12) y, wI 40 ct bp ap, wI 20 ct bc ac, wI 24 ct bq aq, wI 7 ct bn an] (fun (_ : Unit) => [wC ct g kc, wS ct (g 1) v, wV ct g b, wL ct (g 12) y, wI 40 ct bp ap, wI 20 ct bc ac, wI 24 ct bq aq, wI 7 ct bn an]) (fun _ => fl [wC ct g kc, wS ct (g 1) v, wV ct g b, wL ct (g 12) y, wI 40 ct bp ap, wI 20 ct bc ac, wI 24 ct bq aq, wI 7 ct bn an]) 8 [0, 1] [2, 3, 4, 5, 6, 7] 0 (kX7_coupleOf_nt l D ct g kc v x7 0 _ hw) (cwV 2 X.1.2.2.2.2 gL_areRows_X7_coupleOf rfl rfl rfl (by decide +kernel) ⟨Nat.le_of_ble_eq_true rfl, Nat.le_of_ble_eq_true rfl⟩) dL_areRows_150 rfl rfl (Nat.le_of_ble_eq_true rfl) ⟨Nat.le_of_ble_eq_true rfl, Nat.le_of_ble_eq_true rfl⟩ rfl rfl rfl (by decide) (fun _ => rfl) (fun _ => rfl) (fun _ => rfl) (fun _ => rfl) rfl rfl rfl (fun r52 _ hw => ?_)
      refine g_aload_n X 3 dL_areRows_153 rfl rfl ?_
      refine g_iconst (v := 2) X rfl dL_areRows_154 ?_
      refine g_iload X 7 dL_areRows_155 rfl ?_
      refine g_imul X dL_areRows_157 ?_
      obtain ⟨h54, hw⟩ := hw
      refine g_iald X 17 0 dL_areRows_158 rfl rfl h54 ?_
      refine g_icmp_ne X 246 dL_areRows_159 (by decide) (fun c55 => ?_) (fun c55 => ?_)
      · replace hw := hw.1 c55
        refine g_sub [(0, .ref (g 0 0)), (1, .ref bp), (2, .ref bc), (3, .ref bq), (4, .ref bn), (5, .int x5), (7, .int x7), (9, .int r50)] [1, 2, 3, 4, 5, 6, 7, 0] rfl ?_
        exact kL_areRows_246 l D ct g bp bc bq bn kc v b ap ac aq an post _ X hK54 _ _ _ _ hw
      · replace hw := hw.2 c55
        refine g_aload_n X 1 dL_areRows_162 rfl rfl ?_
        refine g_iload X 7 dL_areRows_163 rfl ?_
        refine g_iconst (v := 1) X rfl dL_areRows_165 ?_
        refine g_ciV X [wC ct g kc, wS ct (g 1) v, wV ct g b, wL ct (g 12) y, wI 40 ct bp ap, wI 20 ct bc ac, wI 24 ct bq aq, wI 7 ct bn an] (fun (_ : Unit) => [wC ct g kc, wS ct (g 1) v, wV ct g b, wL ct (g 12) y, wI 40 ct bp ap, wI 20 ct bc ac, wI 24 ct bq aq, wI 7 ct bn an]) (fun _ => fl [wC ct g kc, wS ct (g 1) v, wV ct g b, wL ct (g 12) y, wI 40 ct bp ap, wI 20 ct bc ac, wI 24 ct bq aq, wI 7 ct bn an]) 8 [0, 1] [2, 3, 4, 5, 6, 7] 0 (kX7_coupleOf_nt l D ct g kc v x7 1 _ hw) (cwV 2 X.1.2.2.2.2 gL_areRows_X7_coupleOf rfl rfl rfl (by decide +kernel) ⟨Nat.le_of_ble_eq_true rfl, Nat.le_of_ble_eq_true rfl⟩) dL_areRows_166 rfl rfl (Nat.le_of_ble_eq_true rfl) ⟨Nat.le_of_ble_eq_true rfl, Nat.le_of_ble_eq_true rfl⟩ rfl rfl rfl (by decide) (fun _ => rfl) (fun _ => rfl) (fun _ => rfl) (fun _ => rfl) rfl rfl rfl (fun r59 _ hw => ?_)
        refine g_aload_n X 3 dL_areRows_169 rfl rfl ?_
        refine g_iconst (v := 2) X rfl dL_areRows_170 ?_
        refine g_iload X 7 dL_areRows_171 rfl ?_
        refine g_imul X dL_areRows_173 ?_
        refine g_iconst (v := 1) X rfl dL_areRows_174 ?_
        refine g_iadd X dL_areRows_175 ?_
        obtain ⟨h61, hw⟩ := hw
        refine g_iald X 17 0 dL_areRows_176 rfl rfl h61 ?_
        refine g_icmp_ne X 246 dL_areRows_177 (by decide) (fun c62 => ?_) (fun c62 => ?_)
        · replace hw := hw.1 c62
          refine g_sub [(0, .ref (g 0 0)), (1, .ref bp), (2, .ref bc), (3, .ref bq), (4, .ref bn), (5, .int x5), (7, .int x7), (9, .int r50)] [1, 2, 3, 4, 5, 6, 7, 0] rfl ?_
          exact kL_areRows_246 l D ct g bp bc bq bn kc v b ap ac aq an post _ X hK54 _ _ _ _ hw
        · replace hw := hw.2 c62
          refine g_aload_n X 1 dL_areRows_180 rfl rfl ?_
          refine g_iload X 7 dL_areRows_181 rfl ?_
          refine g_iconst (v := 2) X rfl dL_areRows_183 ?_
          refine g_ciV X [wC ct g kc, wS ct (g 1) v, wV ct g b, wL ct (g 12) y, wI 40 ct bp ap, wI 20 ct bc ac, wI 24 ct bq aq, wI 7 ct bn an] (fun (_ : Unit) => [wC ct g kc, wS ct (g 1) v, wV ct g b, wL ct (g 12) y, wI 40 ct bp ap, wI 20 ct bc ac, wI 24 ct bq aq, wI 7 ct bn an]) (fun _ => fl [wC ct g kc, wS ct (g 1) v, wV ct g b, wL ct (g 12) y, wI 40 ct bp ap, wI 20 ct bc ac, wI 24 ct bq aq, wI 7 ct bn an]) 8 [0, 1] [2, 3, 4, 5, 6, 7] 0 (kX7_coupleOf_nt l D ct g kc v x7 2 _ hw) (cwV 2 X.1.2.2.2.2 gL_areRows_X7_coupleOf rfl rfl rfl (by decide +kernel) ⟨Nat.le_of_ble_eq_true rfl, Nat.le_of_ble_eq_true rfl⟩) dL_areRows_184 rfl rfl (Nat.le_of_ble_eq_true rfl) ⟨Nat.le_of_ble_eq_true rfl, Nat.le_of_ble_eq_true rfl⟩ rfl rfl rfl (by decide) (fun _ => rfl) (fun _ => rfl) (fun _ => rfl) (fun _ => rfl) rfl rfl rfl (fun r63 _ hw => ?_)
          refine g_aload_n X 2 dL_areRows_187 rfl rfl ?_
          refine g_iconst (v := 2) X rfl dL_areRows_188 ?_
          refine g_aload_n X 3 dL_areRows_189 rfl rfl ?_
          refine g_iconst (v := 2) X rfl dL_areRows_190 ?_
          refine g_iload X 7 dL_areRows_191 rfl ?_
          refine g_imul X dL_areRows_193 ?_
          obtain ⟨h65, hw⟩ := hw
          refine g_iald X 17 0 dL_areRows_194 rfl rfl h65 ?_
          refine g_imul X dL_areRows_195 ?_
          obtain ⟨h66, hw⟩ := hw
          refine g_iald X 16 0 dL_areRows_196 rfl rfl h66 ?_
          refine g_icmp_ne X 246 dL_areRows_197 (by decide) (fun c67 => ?_) (fun c67 => ?_)
          · replace hw := hw.1 c67
            refine g_sub [(0, .ref (g 0 0)), (1, .ref bp), (2, .ref bc), (3, .ref bq), (4, .ref bn), (5, .int x5), (7, .int x7), (9, .int r50)] [1, 2, 3, 4, 5, 6, 7, 0] rfl ?_
            exact kL_areRows_246 l D ct g bp bc bq bn kc v b ap ac aq an post _ X hK54 _ _ _ _ hw
          · replace hw := hw.2 c67
            refine g_aload_n X 1 dL_areRows_200 rfl rfl ?_
            refine g_iload X 7 dL_areRows_201 rfl ?_
            refine g_iconst (v := 3) X rfl dL_areRows_203 ?_
            refine g_ciV X [wC ct g kc, wS ct (g 1) v, wV ct g b, wL ct (g 12) y, wI 40 ct bp ap, wI 20 ct bc ac, wI 24 ct bq aq, wI 7 ct bn an] (fun (_ : Unit) => [wC ct g kc, wS ct (g 1) v, wV ct g b, wL ct (g 12) y, wI 40 ct bp ap, wI 20 ct bc ac, wI 24 ct bq aq, wI 7 ct bn an]) (fun _ => fl [wC ct g kc, wS ct (g 1) v, wV ct g b, wL ct (g 12) y, wI 40 ct bp ap, wI 20 ct bc ac, wI 24 ct bq aq, wI 7 ct bn an]) 8 [0, 1] [2, 3, 4, 5, 6, 7] 0 (kX7_coupleOf_nt l D ct g kc v x7 3 _ hw) (cwV 2 X.1.2.2.2.2 gL_areRows_X7_coupleOf rfl rfl rfl (by decide +kernel) ⟨Nat.le_of_ble_eq_true rfl, Nat.le_of_ble_eq_true rfl⟩) dL_areRows_204 rfl rfl (Nat.le_of_ble_eq_true rfl) ⟨Nat.le_of_ble_eq_true rfl, Nat.le_of_ble_eq_true rfl⟩ rfl rfl rfl (by decide) (fun _ => rfl) (fun _ => rfl) (fun _ => rfl) (fun _ => rfl) rfl rfl rfl (fun r68 _ hw => ?_)
            refine g_aload_n X 2 dL_areRows_207 rfl rfl ?_
            refine g_aload_n X 3 dL_areRows_208 rfl rfl ?_
            refine g_aload_n X 4 dL_areRows_209 rfl rfl ?_
            refine g_iload X 7 dL_areRows_210 rfl ?_
            refine g_ciS X [wC ct g kc, wS ct (g 1) v, wV ct g b, wL ct (g 12) y, wI 40 ct bp ap, wI 20 ct bc ac, wI 24 ct bq aq, wI 7 ct bn an] (fun (_ : Unit) => [wC ct g kc, wS ct (g 1) v, wV ct g b, wL ct (g 12) y, wI 40 ct bp ap, wI 20 ct bc ac, wI 24 ct bq aq, wI 7 ct bn an]) (fun _ => fl [wC ct g kc, wS ct (g 1) v, wV ct g b, wL ct (g 12) y, wI 40 ct bp ap, wI 20 ct bc ac, wI 24 ct bq aq, wI 7 ct bn an]) 8 [4, 5, 6] [0, 1, 2, 3, 7] (kL_middle l D ct bp bc bq ap ac aq x7 _ hw) (va_cwS 4 X.1.2.2.2.2 gL_areRows_L_middle rfl rfl rfl (by decide +kernel) ⟨Nat.le_of_ble_eq_true rfl, Nat.le_of_ble_eq_true rfl⟩) dL_areRows_212 rfl rfl (Nat.le_of_ble_eq_true rfl) ⟨Nat.le_of_ble_eq_true rfl, Nat.le_of_ble_eq_true rfl⟩ rfl rfl rfl (by decide) (fun _ => rfl) (fun _ => rfl) (fun _ => rfl) (fun _ => rfl) (fun r70 _ hw => ?_)
            refine g_icmp_ne X 246 dL_areRows_215 (by decide) (fun c72 => ?_) (fun c72 => ?_)
            · replace hw := hw.1 c72
              refine g_sub [(0, .ref (g 0 0)), (1, .ref bp), (2, .ref bc), (3, .ref bq), (4, .ref bn), (5, .int x5), (7, .int x7), (9, .int r50)] [1, 2, 3, 4, 5, 6, 7, 0] rfl ?_
              exact kL_areRows_246 l D ct g bp bc bq bn kc v b ap ac aq an post _ X hK54 _ _ _ _ hw
            · replace hw := hw.2 c72
              refine g_aload_n X 1 dL_areRows_218 rfl rfl ?_
              refine g_iload X 7 dL_areRows_219 rfl ?_
              refine g_iconst (v := 4) X rfl dL_areRows_221 ?_
              refine g_ciV X [wC ct g kc, wS ct (g 1) v, wV ct g b, wL ct (g 12) y, wI 40 ct bp ap, wI 20 ct bc ac, wI 24 ct bq aq, wI 7 ct bn an] (fun (_ : Unit) => [wC ct g kc, wS ct (g 1) v, wV ct g b, wL ct (g 12) y, wI 40 ct bp ap, wI 20 ct bc ac, wI 24 ct bq aq, wI 7 ct bn an]) (fun _ => fl [wC ct g kc, wS ct (g 1) v, wV ct g b, wL ct (g 12) y, wI 40 ct bp ap, wI 20 ct bc ac, wI 24 ct bq aq, wI 7 ct bn an]) 8 [0, 1] [2, 3, 4, 5, 6, 7] 0 (kX7_coupleOf_nt l D ct g kc v x7 4 _ hw) (cwV 2 X.1.2.2.2.2 gL_areRows_X7_coupleOf rfl rfl rfl (by decide +kernel) ⟨Nat.le_of_ble_eq_true rfl, Nat.le_of_ble_eq_true rfl⟩) dL_areRows_222 rfl rfl (Nat.le_of_ble_eq_true rfl) ⟨Nat.le_of_ble_eq_true rfl, Nat.le_of_ble_eq_true rfl⟩ rfl rfl rfl (by decide) (fun _ => rfl) (fun _ => rfl) (fun _ => rfl) (fun _ => rfl) rfl rfl rfl (fun r73 _ hw => ?_)
              refine g_iload X 8 dL_areRows_225 rfl ?_
              refine g_icmp_ne X 246 dL_areRows_227 (by decide) (fun c75 => ?_) (fun c75 => ?_)
              · replace hw := hw.1 c75
                refine g_sub [(0, .ref (g 0 0)), (1, .ref bp), (2, .ref bc), (3, .ref bq), (4, .ref bn), (5, .int x5), (7, .int x7), (9, .int r50)] [1, 2, 3, 4, 5, 6, 7, 0] rfl ?_
                exact kL_areRows_246 l D ct g bp bc bq bn kc v b ap ac aq an post _ X hK54 _ _ _ _ hw
              · replace hw := hw.2 c75
                refine g_aload_n X 1 dL_areRows_230 rfl rfl ?_
                refine g_iload X 7 dL_areRows_231 rfl ?_
                refine g_iconst (v := 5) X rfl dL_areRows_233 ?_
                refine g_ciV X [wC ct g kc, wS ct (g 1) v, wV ct g b, wL ct (g 12) y, wI 40 ct bp ap, wI 20 ct bc ac, wI 24 ct bq aq, wI 7 ct bn an] (fun (_ : Unit) => [wC ct g kc, wS ct (g 1) v, wV ct g b, wL ct (g 12) y, wI 40 ct bp ap, wI 20 ct bc ac, wI 24 ct bq aq, wI 7 ct bn an]) (fun _ => fl [wC ct g kc, wS ct (g 1) v, wV ct g b, wL ct (g 12) y, wI 40 ct bp ap, wI 20 ct bc ac, wI 24 ct bq aq, wI 7 ct bn an]) 8 [0, 1] [2, 3, 4, 5, 6, 7] 0 (kX7_coupleOf_nt l D ct g kc v x7 5 _ hw) (cwV 2 X.1.2.2.2.2 gL_areRows_X7_coupleOf rfl rfl rfl (by decide +kernel) ⟨Nat.le_of_ble_eq_true rfl, Nat.le_of_ble_eq_true rfl⟩) dL_areRows_234 rfl rfl (Nat.le_of_ble_eq_true rfl) ⟨Nat.le_of_ble_eq_true rfl, Nat.le_of_ble_eq_true rfl⟩ rfl rfl rfl (by decide) (fun _ => rfl) (fun _ => rfl) (fun _ => rfl) (fun _ => rfl) rfl rfl rfl (fun r76 _ hw => ?_)
                refine g_iload X 0 dL_areRows_237 rfl ?_
                refine g_icmp_ne X 246 dL_areRows_239 (by decide) (fun c78 => ?_) (fun c78 => ?_)
                · replace hw := hw.1 c78
                  refine g_sub [(0, .ref (g 0 0)), (1, .ref bp), (2, .ref bc), (3, .ref bq), (4, .ref bn), (5, .int x5), (7, .int x7), (9, .int r50)] [1, 2, 3, 4, 5, 6, 7, 0] rfl ?_
                  exact kL_areRows_246 l D ct g bp bc bq bn kc v b ap ac aq an post _ X hK54 _ _ _ _ hw
                · replace hw := hw.2 c78
                  refine g_iconst (v := 1) X rfl dL_areRows_242 ?_
                  refine g_goto X 247 dL_areRows_243 (by decide) ?_
                  refine g_sub [(0, .ref (g 0 0)), (1, .ref bp), (2, .ref bc), (3, .ref bq), (4, .ref bn), (5, .int x5), (7, .int x7), (9, .int r50)] [1, 2, 3, 4, 5, 6, 7, 0] rfl ?_
                  exact kL_areRows_247 l D ct g bp bc bq bn kc v b ap ac aq an post _ X hK54 _ _ _ _ _ hw
    · replace hw := hw.2 c43
      refine g_iload X 7 dL_areRows_83 rfl ?_
      refine g_aload_n X 1 dL_areRows_85 rfl rfl ?_
      refine g_iconst (v := 2) X rfl dL_areRows_86 ?_
      refine g_iload X 8 dL_areRows_87 rfl ?_
      refine g_imul X dL_areRows_89 ?_
      refine g_iconst (v := 1) X rfl dL_areRows_90 ?_
      refine g_iadd X dL_areRows_91 ?_
      obtain ⟨h79, hw⟩ := hw
      refine g_iald X 16 0 dL_areRows_92 rfl rfl h79 ?_
      refine g_iload X 6 dL_areRows_93 rfl ?_
      refine g_icmp_ne X 102 dL_areRows_95 (by decide) (fun c80 => ?_) (fun c80 => ?_)
      · replace hw := hw.1 c80
        refine g_iconst (v := 0) X rfl dL_areRows_102 ?_
        refine g_iadd X dL_areRows_103 ?_
        refine g_topi (fun q81 hq81 => ?_)
        replace hw := hw q81 hq81
        refine g_istore X [(8, .int q81), (0, .ref (g 0 0)), (1, .ref bp), (2, .ref bc), (3, .ref bq), (4, .ref bn), (5, .int x5), (7, .int x7), (9, .int x9)] dL_areRows_104 (by decide) rfl ?_
        refine g_iinc X [(9, .int (x9 + 1)), (8, .int q81), (0, .ref (g 0 0)), (1, .ref bp), (2, .ref bc), (3, .ref bq), (4, .ref bn), (5, .int x5), (7, .int x7)] 8 dL_areRows_106 rfl rfl (by decide) rfl ?_
        refine g_goto X 74 dL_areRows_109 (by decide) ?_
        refine g_sub [(0, .ref (g 0 0)), (1, .ref bp), (2, .ref bc), (3, .ref bq), (4, .ref bn), (5, .int x5), (7, .int x7), (8, .int q81), (9, .int (x9 + 1))] [2, 3, 4, 5, 6, 7, 8, 1, 0] rfl ?_
        exact ih _ _ _ _ _ hw
      · replace hw := hw.2 c80
        refine g_iconst (v := 1) X rfl dL_areRows_98 ?_
        refine g_goto X 103 dL_areRows_99 (by decide) ?_
        refine g_iadd X dL_areRows_103 ?_
        refine g_topi (fun q82 hq82 => ?_)
        replace hw := hw q82 hq82
        refine g_istore X [(8, .int q82), (0, .ref (g 0 0)), (1, .ref bp), (2, .ref bc), (3, .ref bq), (4, .ref bn), (5, .int x5), (7, .int x7), (9, .int x9)] dL_areRows_104 (by decide) rfl ?_
        refine g_iinc X [(9, .int (x9 + 1)), (8, .int q82), (0, .ref (g 0 0)), (1, .ref bp), (2, .ref bc), (3, .ref bq), (4, .ref bn), (5, .int x5), (7, .int x7)] 8 dL_areRows_106 rfl rfl (by decide) rfl ?_
        refine g_goto X 74 dL_areRows_109 (by decide) ?_
        refine g_sub [(0, .ref (g 0 0)), (1, .ref bp), (2, .ref bc), (3, .ref bq), (4, .ref bn), (5, .int x5), (7, .int x7), (8, .int q82), (9, .int (x9 + 1))] [2, 3, 4, 5, 6, 7, 8, 1, 0] rfl ?_
        exact ih _ _ _ _ _ hw

set_option maxHeartbeats 4000000 in
set_option maxRecDepth 20000 in
theorem kL_areRows_54 (l : Launch) (D : va_G) (ct : Nat → ClassId) (g : Nat → Nat → Nat) (bp : Nat) (bc : Nat) (bq : Nat) (bn : Nat) (kc : Mem) (v : Mem) (b : Mem) (ap : Mem) (ac : Mem) (aq : Mem) (an : Mem) (post : Int32 → Mem → Prop) {p : Program} {e : Env} {s : State} {m : MethodId} {args : Array Value} {below : List Frame} {meth : Method} {c : Code} {A : Nat → Prop} (X : Cx p s m args meth c cL_areRows 10 RL wsL_areRows D (tyz ct) A s.heap (some .boolean))  :
    ∀ (n : Nat) (y : Mem) (x5 : Int32) (x6 : Int32) (x7 : Int32), PL_areRows_54 kc v b ap ac aq an post n y x5 x6 x7 → GL_areRows l D ct g bp bc bq bn kc v b ap ac aq an post p e s m args below meth c A (fl [wC ct g kc, wS ct (g 1) v, wV ct g b, wL ct (g 12) y, wI 40 ct bp ap, wI 20 ct bc ac, wI 24 ct bq aq, wI 7 ct bn an]) [(0, .ref (g 0 0)), (1, .ref bp), (2, .ref bc), (3, .ref bq), (4, .ref bn), (5, .int x5), (6, .int x6), (7, .int x7)] 54 [] := by
  intro n
  induction n with
  | zero =>
    intro y x5 x6 x7 hw
    exact hw.elim
  | succ n ih =>
    intro y x5 x6 x7 hw
    unfold PL_areRows_54 at hw
    refine g_iload X 7 dL_areRows_54 rfl ?_
    refine g_aload X 4 dL_areRows_56 rfl ?_
    refine g_iconst (v := 1) X rfl dL_areRows_58 ?_
    obtain ⟨h6, hw⟩ := hw
    refine g_iald X 19 0 dL_areRows_59 rfl rfl h6 ?_
    refine g_icmp_ge X 270 dL_areRows_60 (by decide) (fun c7 => ?_) (fun c7 => ?_)
    · replace hw := hw.1 c7
      refine g_iconst (v := 0) X rfl dL_areRows_270 ?_
      refine g_istore X [(7, .int 0), (0, .ref (g 0 0)), (1, .ref bp), (2, .ref bc), (3, .ref bq), (4, .ref bn), (5, .int x5), (6, .int x6)] dL_areRows_271 (by decide) rfl ?_
      refine g_sub [(0, .ref (g 0 0)), (1, .ref bp), (2, .ref bc), (3, .ref bq), (4, .ref bn), (5, .int x5), (6, .int x6), (7, .int 0)] [1, 2, 3, 4, 5, 6, 7, 0] rfl ?_
      obtain ⟨n39, hw⟩ := hw
      exact kL_areRows_273 l D ct g bp bc bq bn kc v b ap ac aq an post X n39 _ _ _ _ hw
    · replace hw := hw.2 c7
      refine g_iload X 6 dL_areRows_63 rfl ?_
      refine g_if_eq X 270 dL_areRows_65 (by decide) (fun c40 => ?_) (fun c40 => ?_)
      · replace hw := hw.1 c40
        refine g_iconst (v := 0) X rfl dL_areRows_270 ?_
        refine g_istore X [(7, .int 0), (0, .ref (g 0 0)), (1, .ref bp), (2, .ref bc), (3, .ref bq), (4, .ref bn), (5, .int x5), (6, .int x6)] dL_areRows_271 (by decide) rfl ?_
        refine g_sub [(0, .ref (g 0 0)), (1, .ref bp), (2, .ref bc), (3, .ref bq), (4, .ref bn), (5, .int x5), (6, .int x6), (7, .int 0)] [1, 2, 3, 4, 5, 6, 7, 0] rfl ?_
        obtain ⟨n41, hw⟩ := hw
        exact kL_areRows_273 l D ct g bp bc bq bn kc v b ap ac aq an post X n41 _ _ _ _ hw
      · replace hw := hw.2 c40
        refine g_iconst (v := 0) X rfl dL_areRows_68 ?_
        refine g_istore X [(8, .int 0), (0, .ref (g 0 0)), (1, .ref bp), (2, .ref bc), (3, .ref bq), (4, .ref bn), (5, .int x5), (6, .int x6), (7, .int x7)] dL_areRows_69 (by decide) rfl ?_
        refine g_iconst (v := 0) X rfl dL_areRows_71 ?_
        refine g_istore X [(9, .int 0), (8, .int 0), (0, .ref (g 0 0)), (1, .ref bp), (2, .ref bc), (3, .ref bq), (4, .ref bn), (5, .int x5), (6, .int x6), (7, .int x7)] dL_areRows_72 (by decide) rfl ?_
        refine g_sub [(0, .ref (g 0 0)), (1, .ref bp), (2, .ref bc), (3, .ref bq), (4, .ref bn), (5, .int x5), (7, .int x7), (8, .int 0), (9, .int 0)] [2, 3, 4, 5, 6, 7, 9, 1, 0] rfl ?_
        obtain ⟨n83, hw⟩ := hw
        exact kL_areRows_74 l D ct g bp bc bq bn kc v b ap ac aq an post _ X ih n83 _ _ _ _ _ hw

set_option maxHeartbeats 4000000 in
set_option maxRecDepth 20000 in
theorem kL_areRows (l : Launch) (D : va_G) (ct : Nat → ClassId) (g : Nat → Nat → Nat) (bp : Nat) (bc : Nat) (bq : Nat) (bn : Nat) (kc : Mem) (v : Mem) (b : Mem) (y : Mem) (ap : Mem) (ac : Mem) (aq : Mem) (an : Mem) (post : Int32 → Mem → Prop) (hw : PL_areRows kc v b y ap ac aq an post) : Ci (S := Mem) l yL_areRows wsL_areRows rmL_areRows D (tyz ct) [.ref (g 0 0), .ref bp, .ref bc, .ref bq, .ref bn] (fl [wC ct g kc, wS ct (g 1) v, wV ct g b, wL ct (g 12) y, wI 40 ct bp ap, wI 20 ct bc ac, wI 24 ct bq aq, wI 7 ct bn an]) (fun r (u9 : Mem) => post r u9) (fun u9 => fl [wC ct g kc, wS ct (g 1) v, wV ct g b, wL ct (g 12) u9, wI 40 ct bp ap, wI 20 ct bc ac, wI 24 ct bq aq, wI 7 ct bn an]) 0 0 := by
  intro sz
  refine g_of (own := RL) (by decide) rfl rfl (Nat.le_of_ble_eq_true rfl) [(0, .ref (g 0 0)), (1, .ref bp), (2, .ref bc), (3, .ref bq), (4, .ref bn)] rfl (fun p e s m args below meth c hsz X => ?_)
  subst hsz
  unfold PL_areRows at hw
  refine g_iconst (v := 0) X rfl dL_areRows_0 ?_
  refine g_istore X [(5, .int 0), (0, .ref (g 0 0)), (1, .ref bp), (2, .ref bc), (3, .ref bq), (4, .ref bn)] dL_areRows_1 (by decide) rfl ?_
  refine g_aload_n X 1 dL_areRows_3 rfl rfl ?_
  refine g_iconst (v := 1) X rfl dL_areRows_4 ?_
  refine g_ciV X [wC ct g kc, wS ct (g 1) v, wV ct g b, wL ct (g 12) y, wI 40 ct bp ap, wI 20 ct bc ac, wI 24 ct bq aq, wI 7 ct bn an] (fun (u2 : Mem) => [wC ct g kc, wS ct (g 1) v, wV ct g b, wL ct (g 12) u2, wI 40 ct bp ap, wI 20 ct bc ac, wI 24 ct bq aq, wI 7 ct bn an]) (fun (u2 : Mem) => fl [wC ct g kc, wS ct (g 1) v, wV ct g b, wL ct (g 12) u2, wI 40 ct bp ap, wI 20 ct bc ac, wI 24 ct bq aq, wI 7 ct bn an]) 8 [0, 1, 2, 3] [4, 5, 6, 7] 0 (kX7_count_nt l D ct g kc v b y 1 _ hw) (cwV 1 X.1.2.2.2.2 gL_areRows_X7_count rfl rfl rfl (by decide +kernel) ⟨Nat.le_of_ble_eq_true rfl, Nat.le_of_ble_eq_true rfl⟩) dL_areRows_5 rfl rfl (Nat.le_of_ble_eq_true rfl) ⟨Nat.le_of_ble_eq_true rfl, Nat.le_of_ble_eq_true rfl⟩ rfl rfl rfl (by decide) (fun _ => rfl) (fun _ => rfl) (fun _ => rfl) (fun _ => rfl) rfl rfl rfl (fun r1 u2 hw => ?_)
  obtain ⟨y3, hy3⟩ : ∃ z : Mem, z = u2 := ⟨_, rfl⟩
  rw [← hy3] at hw
  rw [← hy3]
  refine g_aload X 5 dL_areRows_8 rfl ?_
  refine g_iconst (v := 1) X rfl dL_areRows_10 ?_
  obtain ⟨h4, hw⟩ := hw
  refine g_iald X 19 0 dL_areRows_11 rfl rfl h4 ?_
  refine g_icmp_ne X 48 dL_areRows_12 (by decide) (fun c5 => ?_) (fun c5 => ?_)
  · replace hw := hw.1 c5
    refine g_iconst (v := 0) X rfl dL_areRows_48 ?_
    refine g_istore X [(6, .int 0), (5, .int 0), (0, .ref (g 0 0)), (1, .ref bp), (2, .ref bc), (3, .ref bq), (4, .ref bn)] dL_areRows_49 (by decide) rfl ?_
    refine g_iconst (v := 0) X rfl dL_areRows_51 ?_
    refine g_istore X [(7, .int 0), (6, .int 0), (5, .int 0), (0, .ref (g 0 0)), (1, .ref bp), (2, .ref bc), (3, .ref bq), (4, .ref bn)] dL_areRows_52 (by decide) rfl ?_
    refine g_sub [(0, .ref (g 0 0)), (1, .ref bp), (2, .ref bc), (3, .ref bq), (4, .ref bn), (5, .int 0), (6, .int 0), (7, .int 0)] [3, 4, 5, 6, 7, 2, 1, 0] rfl ?_
    obtain ⟨n84, hw⟩ := hw
    exact kL_areRows_54 l D ct g bp bc bq bn kc v b ap ac aq an post X n84 _ _ _ _ hw
  · replace hw := hw.2 c5
    refine g_aload_n X 1 dL_areRows_15 rfl rfl ?_
    refine g_bipush (v := 7) X rfl dL_areRows_16 ?_
    refine g_ciV X [wC ct g kc, wS ct (g 1) v, wV ct g b, wL ct (g 12) y3, wI 40 ct bp ap, wI 20 ct bc ac, wI 24 ct bq aq, wI 7 ct bn an] (fun (u86 : Mem) => [wC ct g kc, wS ct (g 1) v, wV ct g b, wL ct (g 12) u86, wI 40 ct bp ap, wI 20 ct bc ac, wI 24 ct bq aq, wI 7 ct bn an]) (fun (u86 : Mem) => fl [wC ct g kc, wS ct (g 1) v, wV ct g b, wL ct (g 12) u86, wI 40 ct bp ap, wI 20 ct bc ac, wI 24 ct bq aq, wI 7 ct bn an]) 8 [0, 1, 2, 3] [4, 5, 6, 7] 0 (kX7_count_nt l D ct g kc v b y3 7 _ hw) (cwV 1 X.1.2.2.2.2 gL_areRows_X7_count rfl rfl rfl (by decide +kernel) ⟨Nat.le_of_ble_eq_true rfl, Nat.le_of_ble_eq_true rfl⟩) dL_areRows_18 rfl rfl (Nat.le_of_ble_eq_true rfl) ⟨Nat.le_of_ble_eq_true rfl, Nat.le_of_ble_eq_true rfl⟩ rfl rfl rfl (by decide) (fun _ => rfl) (fun _ => rfl) (fun _ => rfl) (fun _ => rfl) rfl rfl rfl (fun r85 u86 hw => ?_)
    obtain ⟨y87, hy87⟩ : ∃ z : Mem, z = u86 := ⟨_, rfl⟩
    rw [← hy87] at hw
    rw [← hy87]
    refine g_aload X 5 dL_areRows_21 rfl ?_
    refine g_iconst (v := 2) X rfl dL_areRows_23 ?_
    obtain ⟨h88, hw⟩ := hw
    refine g_iald X 19 0 dL_areRows_24 rfl rfl h88 ?_
    refine g_icmp_ne X 48 dL_areRows_25 (by decide) (fun c89 => ?_) (fun c89 => ?_)
    · replace hw := hw.1 c89
      refine g_iconst (v := 0) X rfl dL_areRows_48 ?_
      refine g_istore X [(6, .int 0), (5, .int 0), (0, .ref (g 0 0)), (1, .ref bp), (2, .ref bc), (3, .ref bq), (4, .ref bn)] dL_areRows_49 (by decide) rfl ?_
      refine g_iconst (v := 0) X rfl dL_areRows_51 ?_
      refine g_istore X [(7, .int 0), (6, .int 0), (5, .int 0), (0, .ref (g 0 0)), (1, .ref bp), (2, .ref bc), (3, .ref bq), (4, .ref bn)] dL_areRows_52 (by decide) rfl ?_
      refine g_sub [(0, .ref (g 0 0)), (1, .ref bp), (2, .ref bc), (3, .ref bq), (4, .ref bn), (5, .int 0), (6, .int 0), (7, .int 0)] [3, 4, 5, 6, 7, 2, 1, 0] rfl ?_
      obtain ⟨n90, hw⟩ := hw
      exact kL_areRows_54 l D ct g bp bc bq bn kc v b ap ac aq an post X n90 _ _ _ _ hw
    · replace hw := hw.2 c89
      refine g_aload_n X 1 dL_areRows_28 rfl rfl ?_
      refine g_iconst (v := 3) X rfl dL_areRows_29 ?_
      refine g_ciV X [wC ct g kc, wS ct (g 1) v, wV ct g b, wL ct (g 12) y87, wI 40 ct bp ap, wI 20 ct bc ac, wI 24 ct bq aq, wI 7 ct bn an] (fun (u92 : Mem) => [wC ct g kc, wS ct (g 1) v, wV ct g b, wL ct (g 12) u92, wI 40 ct bp ap, wI 20 ct bc ac, wI 24 ct bq aq, wI 7 ct bn an]) (fun (u92 : Mem) => fl [wC ct g kc, wS ct (g 1) v, wV ct g b, wL ct (g 12) u92, wI 40 ct bp ap, wI 20 ct bc ac, wI 24 ct bq aq, wI 7 ct bn an]) 8 [0, 1, 2, 3] [4, 5, 6, 7] 0 (kX7_count_nt l D ct g kc v b y87 3 _ hw) (cwV 1 X.1.2.2.2.2 gL_areRows_X7_count rfl rfl rfl (by decide +kernel) ⟨Nat.le_of_ble_eq_true rfl, Nat.le_of_ble_eq_true rfl⟩) dL_areRows_30 rfl rfl (Nat.le_of_ble_eq_true rfl) ⟨Nat.le_of_ble_eq_true rfl, Nat.le_of_ble_eq_true rfl⟩ rfl rfl rfl (by decide) (fun _ => rfl) (fun _ => rfl) (fun _ => rfl) (fun _ => rfl) rfl rfl rfl (fun r91 u92 hw => ?_)
      obtain ⟨y93, hy93⟩ : ∃ z : Mem, z = u92 := ⟨_, rfl⟩
      rw [← hy93] at hw
      rw [← hy93]
      refine g_aload_n X 2 dL_areRows_33 rfl rfl ?_
      refine g_aload_n X 3 dL_areRows_34 rfl rfl ?_
      refine g_aload_n X 4 dL_areRows_35 rfl rfl ?_
      refine g_aload X 5 dL_areRows_36 rfl ?_
      refine g_ciS X [wC ct g kc, wS ct (g 1) v, wV ct g b, wL ct (g 12) y93, wI 40 ct bp ap, wI 20 ct bc ac, wI 24 ct bq aq, wI 7 ct bn an] (fun (_ : Unit) => [wC ct g kc, wS ct (g 1) v, wV ct g b, wL ct (g 12) y93, wI 40 ct bp ap, wI 20 ct bc ac, wI 24 ct bq aq, wI 7 ct bn an]) (fun _ => fl [wC ct g kc, wS ct (g 1) v, wV ct g b, wL ct (g 12) y93, wI 40 ct bp ap, wI 20 ct bc ac, wI 24 ct bq aq, wI 7 ct bn an]) 8 [4, 5, 6, 7] [0, 1, 2, 3] (kL_all l D ct bp bc bq bn ap ac aq an _ hw) (va_cwS 4 X.1.2.2.2.2 gL_areRows_L_all rfl rfl rfl (by decide +kernel) ⟨Nat.le_of_ble_eq_true rfl, Nat.le_of_ble_eq_true rfl⟩) dL_areRows_38 rfl rfl (Nat.le_of_ble_eq_true rfl) ⟨Nat.le_of_ble_eq_true rfl, Nat.le_of_ble_eq_true rfl⟩ rfl rfl rfl (by decide) (fun _ => rfl) (fun _ => rfl) (fun _ => rfl) (fun _ => rfl) (fun r94 _ hw => ?_)
      refine g_icmp_ne X 48 dL_areRows_41 (by decide) (fun c96 => ?_) (fun c96 => ?_)
      · replace hw := hw.1 c96
        refine g_iconst (v := 0) X rfl dL_areRows_48 ?_
        refine g_istore X [(6, .int 0), (5, .int 0), (0, .ref (g 0 0)), (1, .ref bp), (2, .ref bc), (3, .ref bq), (4, .ref bn)] dL_areRows_49 (by decide) rfl ?_
        refine g_iconst (v := 0) X rfl dL_areRows_51 ?_
        refine g_istore X [(7, .int 0), (6, .int 0), (5, .int 0), (0, .ref (g 0 0)), (1, .ref bp), (2, .ref bc), (3, .ref bq), (4, .ref bn)] dL_areRows_52 (by decide) rfl ?_
        refine g_sub [(0, .ref (g 0 0)), (1, .ref bp), (2, .ref bc), (3, .ref bq), (4, .ref bn), (5, .int 0), (6, .int 0), (7, .int 0)] [3, 4, 5, 6, 7, 2, 1, 0] rfl ?_
        obtain ⟨n97, hw⟩ := hw
        exact kL_areRows_54 l D ct g bp bc bq bn kc v b ap ac aq an post X n97 _ _ _ _ hw
      · replace hw := hw.2 c96
        refine g_iconst (v := 1) X rfl dL_areRows_44 ?_
        refine g_goto X 49 dL_areRows_45 (by decide) ?_
        refine g_istore X [(6, .int 1), (5, .int 0), (0, .ref (g 0 0)), (1, .ref bp), (2, .ref bc), (3, .ref bq), (4, .ref bn)] dL_areRows_49 (by decide) rfl ?_
        refine g_iconst (v := 0) X rfl dL_areRows_51 ?_
        refine g_istore X [(7, .int 0), (6, .int 1), (5, .int 0), (0, .ref (g 0 0)), (1, .ref bp), (2, .ref bc), (3, .ref bq), (4, .ref bn)] dL_areRows_52 (by decide) rfl ?_
        refine g_sub [(0, .ref (g 0 0)), (1, .ref bp), (2, .ref bc), (3, .ref bq), (4, .ref bn), (5, .int 0), (6, .int 1), (7, .int 0)] [3, 4, 5, 6, 7, 2, 1, 0] rfl ?_
        obtain ⟨n98, hw⟩ := hw
        exact kL_areRows_54 l D ct g bp bc bq bn kc v b ap ac aq an post X n98 _ _ _ _ hw
