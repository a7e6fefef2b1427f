abbrev rmL_arePeople : Room := { frames := 7, cells := 0, slots := 0, locals := 151 }

abbrev GL_arePeople (l : Launch) (D : va_G) (ct : Nat → ClassId) (g : Nat → Nat → Nat) (bp : Nat) (bc : Nat) (bq : Nat) (bn : Nat) (kc : Mem) (v : Mem) (b : Mem) (ap : Mem) (ac : Mem) (aq : Mem) (an : Mem) (post : Int32 → Mem → Prop) (p : Program) (e : Env) (s : State) (m : MethodId) (args : Array Value) (below : List Frame) (meth : Method) (c : Code) (A : Nat → Prop) (w9 : va_W) (lv : List (Nat × Value)) (pc : Nat) (st : List Value) : Prop :=
  GG p l e rmL_arePeople s m args below meth c D A s.heap 14 (MQ below (va_Qi (fun r (u9 : Mem) => post r u9) (fun u9 t9 => Af D (tyz ct) A ((fun u9 => fl [wC ct g kc, wS ct (g 1) v, wV ct g b, wL ct (g 12) u9, wI 40 ct bp ap, wI 20 ct bc ac, wI 24 ct bq aq, wI 7 ct bn an]) u9) t9) A)  args s 0 0 A) w9 0 0 lv pc st

set_option maxHeartbeats 4000000 in
set_option maxRecDepth 20000 in
theorem kL_arePeople_408 (l : Launch) (D : va_G) (ct : Nat → ClassId) (g : Nat → Nat → Nat) (bp : Nat) (bc : Nat) (bq : Nat) (bn : Nat) (kc : Mem) (v : Mem) (b : Mem) (ap : Mem) (ac : Mem) (aq : Mem) (an : Mem) (post : Int32 → Mem → Prop) {p : Program} {e : Env} {s : State} {m : MethodId} {args : Array Value} {below : List Frame} {meth : Method} {c : Code} {A : Nat → Prop} (X : Cx p s m args meth c cL_arePeople 14 RL wsL_arePeople D (tyz ct) A s.heap (some .boolean))  :
    ∀ (y : Mem) (z0 : UInt64) (z1 : UInt64), PL_arePeople_408 kc v b ap ac aq an post y z0 z1 → GL_arePeople l D ct g bp bc bq bn kc v b ap ac aq an post p e s m args below meth c A (fl [wC ct g kc, wS ct (g 1) v, wV ct g b, wL ct (g 12) y, wI 40 ct bp ap, wI 20 ct bc ac, wI 24 ct bq aq, wI 7 ct bn an]) [] 408 [.double z0, .double z1] := by
  intro y z0 z1 hw
  unfold PL_arePeople_408 at hw
  refine g_dcmp X dL_arePeople_408 ?_
  refine g_if_ne X 416 dL_arePeople_409 (by decide) (fun c25 => ?_) (fun c25 => ?_)
  · replace hw := hw.1 c25
    refine g_iconst (v := 0) X rfl dL_arePeople_416 ?_
    exact g_zret X y isB_0 hw rfl (Nat.le_of_ble_eq_true rfl) (Nat.le_of_ble_eq_true rfl) dL_arePeople_417
  · replace hw := hw.2 c25
    refine g_iconst (v := 1) X rfl dL_arePeople_412 ?_
    refine g_goto X 417 dL_arePeople_413 (by decide) ?_
    exact g_zret X y isB_1 hw rfl (Nat.le_of_ble_eq_true rfl) (Nat.le_of_ble_eq_true rfl) dL_arePeople_417

set_option maxHeartbeats 4000000 in
set_option maxRecDepth 20000 in
theorem kL_arePeople_350 (l : Launch) (D : va_G) (ct : Nat → ClassId) (g : Nat → Nat → Nat) (bp : Nat) (bc : Nat) (bq : Nat) (bn : Nat) (kc : Mem) (v : Mem) (b : Mem) (ap : Mem) (ac : Mem) (aq : Mem) (an : Mem) (post : Int32 → Mem → Prop) {p : Program} {e : Env} {s : State} {m : MethodId} {args : Array Value} {below : List Frame} {meth : Method} {c : Code} {A : Nat → Prop} (X : Cx p s m args meth c cL_arePeople 14 RL wsL_arePeople D (tyz ct) A s.heap (some .boolean))  :
    ∀ (y : Mem) (x5 : Int32) (x6 : Int32) (x7 : Int32) (x8 : Int32), PL_arePeople_350 kc v b ap ac aq an post y x5 x6 x7 x8 → GL_arePeople l D ct g bp bc bq bn kc v b ap ac aq an post p e s m args below meth c A (fl [wC ct g kc, wS ct (g 1) v, wV ct g b, wL ct (g 12) y, wI 40 ct bp ap, wI 20 ct bc ac, wI 24 ct bq aq, wI 7 ct bn an]) [(0, .ref (g 0 0)), (5, .int x5), (6, .int x6), (7, .int x7), (8, .int x8)] 350 [] := by
  intro y x5 x6 x7 x8 hw
  unfold PL_arePeople_350 at hw
  refine g_iload X 4 dL_arePeople_350 rfl ?_
  refine g_if_eq X 416 dL_arePeople_352 (by decide) (fun c8 => ?_) (fun c8 => ?_)
  · replace hw := hw.1 c8
    refine g_iconst (v := 0) X rfl dL_arePeople_416 ?_
    exact g_zret X y isB_0 hw rfl (Nat.le_of_ble_eq_true rfl) (Nat.le_of_ble_eq_true rfl) dL_arePeople_417
  · replace hw := hw.2 c8
    refine g_aload_n X 0 dL_arePeople_355 rfl rfl ?_
    refine g_iconst (v := 2) X rfl dL_arePeople_356 ?_
    refine g_ciV X [wC ct g kc, wS ct (g 1) v, wV ct g b, wL ct (g 12) y, wI 40 ct bp ap, wI 20 ct bc ac, wI 24 ct bq aq, wI 7 ct bn an] (fun (u10 : Mem) => [wC ct g kc, wS ct (g 1) v, wV ct g b, wL ct (g 12) u10, wI 40 ct bp ap, wI 20 ct bc ac, wI 24 ct bq aq, wI 7 ct bn an]) (fun (u10 : Mem) => fl [wC ct g kc, wS ct (g 1) v, wV ct g b, wL ct (g 12) u10, wI 40 ct bp ap, wI 20 ct bc ac, wI 24 ct bq aq, wI 7 ct bn an]) 8 [0, 1, 2, 3] [4, 5, 6, 7] 0 (kX7_count_nt l D ct g kc v b y 2 _ hw) (cwV 1 X.1.2.2.2.2 gL_arePeople_X7_count rfl rfl rfl (by decide +kernel) ⟨Nat.le_of_ble_eq_true rfl, Nat.le_of_ble_eq_true rfl⟩) dL_arePeople_357 rfl rfl (Nat.le_of_ble_eq_true rfl) ⟨Nat.le_of_ble_eq_true rfl, Nat.le_of_ble_eq_true rfl⟩ rfl rfl rfl (by decide) (fun _ => rfl) (fun _ => rfl) (fun _ => rfl) (fun _ => rfl) rfl rfl rfl (fun r9 u10 hw => ?_)
    obtain ⟨y11, hy11⟩ : ∃ z : Mem, z = u10 := ⟨_, rfl⟩
    rw [← hy11] at hw
    rw [← hy11]
    refine g_iload X 1 dL_arePeople_360 rfl ?_
    refine g_icmp_ne X 416 dL_arePeople_362 (by decide) (fun c12 => ?_) (fun c12 => ?_)
    · replace hw := hw.1 c12
      refine g_iconst (v := 0) X rfl dL_arePeople_416 ?_
      exact g_zret X y11 isB_0 hw rfl (Nat.le_of_ble_eq_true rfl) (Nat.le_of_ble_eq_true rfl) dL_arePeople_417
    · replace hw := hw.2 c12
      refine g_aload_n X 0 dL_arePeople_365 rfl rfl ?_
      refine g_iconst (v := 4) X rfl dL_arePeople_366 ?_
      refine g_ciV X [wC ct g kc, wS ct (g 1) v, wV ct g b, wL ct (g 12) y11, wI 40 ct bp ap, wI 20 ct bc ac, wI 24 ct bq aq, wI 7 ct bn an] (fun (u14 : Mem) => [wC ct g kc, wS ct (g 1) v, wV ct g b, wL ct (g 12) u14, wI 40 ct bp ap, wI 20 ct bc ac, wI 24 ct bq aq, wI 7 ct bn an]) (fun (u14 : Mem) => fl [wC ct g kc, wS ct (g 1) v, wV ct g b, wL ct (g 12) u14, wI 40 ct bp ap, wI 20 ct bc ac, wI 24 ct bq aq, wI 7 ct bn an]) 8 [0, 1, 2, 3] [4, 5, 6, 7] 0 (kX7_count_nt l D ct g kc v b y11 4 _ hw) (cwV 1 X.1.2.2.2.2 gL_arePeople_X7_count rfl rfl rfl (by decide +kernel) ⟨Nat.le_of_ble_eq_true rfl, Nat.le_of_ble_eq_true rfl⟩) dL_arePeople_367 rfl rfl (Nat.le_of_ble_eq_true rfl) ⟨Nat.le_of_ble_eq_true rfl, Nat.le_of_ble_eq_true rfl⟩ rfl rfl rfl (by decide) (fun _ => rfl) (fun _ => rfl) (fun _ => rfl) (fun _ => rfl) rfl rfl rfl (fun r13 u14 hw => ?_)
      obtain ⟨y15, hy15⟩ : ∃ z : Mem, z = u14 := ⟨_, rfl⟩
      rw [← hy15] at hw
      rw [← hy15]
      refine g_iload X 2 dL_arePeople_370 rfl ?_
      refine g_icmp_ne X 416 dL_arePeople_372 (by decide) (fun c16 => ?_) (fun c16 => ?_)
      · replace hw := hw.1 c16
        refine g_iconst (v := 0) X rfl dL_arePeople_416 ?_
        exact g_zret X y15 isB_0 hw rfl (Nat.le_of_ble_eq_true rfl) (Nat.le_of_ble_eq_true rfl) dL_arePeople_417
      · replace hw := hw.2 c16
        refine g_aload_n X 0 dL_arePeople_375 rfl rfl ?_
        refine g_iconst (v := 5) X rfl dL_arePeople_376 ?_
        refine g_ciV X [wC ct g kc, wS ct (g 1) v, wV ct g b, wL ct (g 12) y15, wI 40 ct bp ap, wI 20 ct bc ac, wI 24 ct bq aq, wI 7 ct bn an] (fun (u18 : Mem) => [wC ct g kc, wS ct (g 1) v, wV ct g b, wL ct (g 12) u18, wI 40 ct bp ap, wI 20 ct bc ac, wI 24 ct bq aq, wI 7 ct bn an]) (fun (u18 : Mem) => fl [wC ct g kc, wS ct (g 1) v, wV ct g b, wL ct (g 12) u18, wI 40 ct bp ap, wI 20 ct bc ac, wI 24 ct bq aq, wI 7 ct bn an]) 8 [0, 1, 2, 3] [4, 5, 6, 7] 0 (kX7_count_nt l D ct g kc v b y15 5 _ hw) (cwV 1 X.1.2.2.2.2 gL_arePeople_X7_count rfl rfl rfl (by decide +kernel) ⟨Nat.le_of_ble_eq_true rfl, Nat.le_of_ble_eq_true rfl⟩) dL_arePeople_377 rfl rfl (Nat.le_of_ble_eq_true rfl) ⟨Nat.le_of_ble_eq_true rfl, Nat.le_of_ble_eq_true rfl⟩ rfl rfl rfl (by decide) (fun _ => rfl) (fun _ => rfl) (fun _ => rfl) (fun _ => rfl) rfl rfl rfl (fun r17 u18 hw => ?_)
        obtain ⟨y19, hy19⟩ : ∃ z : Mem, z = u18 := ⟨_, rfl⟩
        rw [← hy19] at hw
        rw [← hy19]
        refine g_iload X 3 dL_arePeople_380 rfl ?_
        refine g_icmp_ne X 416 dL_arePeople_382 (by decide) (fun c20 => ?_) (fun c20 => ?_)
        · replace hw := hw.1 c20
          refine g_iconst (v := 0) X rfl dL_arePeople_416 ?_
          exact g_zret X y19 isB_0 hw rfl (Nat.le_of_ble_eq_true rfl) (Nat.le_of_ble_eq_true rfl) dL_arePeople_417
        · replace hw := hw.2 c20
          refine g_aload_n X 0 dL_arePeople_385 rfl rfl ?_
          refine g_cdV X [wC ct g kc, wS ct (g 1) v, wV ct g b, wL ct (g 12) y19, wI 40 ct bp ap, wI 20 ct bc ac, wI 24 ct bq aq, wI 7 ct bn an] (fun (_ : Unit) => [wC ct g kc, wS ct (g 1) v, wV ct g b, wL ct (g 12) y19, wI 40 ct bp ap, wI 20 ct bc ac, wI 24 ct bq aq, wI 7 ct bn an]) (fun _ => fl [wC ct g kc, wS ct (g 1) v, wV ct g b, wL ct (g 12) y19, wI 40 ct bp ap, wI 20 ct bc ac, wI 24 ct bq aq, wI 7 ct bn an]) 8 [0, 1] [2, 3, 4, 5, 6, 7] 0 (kX7_straightShare l D ct g kc v _ hw) (cwV 0 X.1.2.2.2.2 gL_arePeople_X7_straightShare rfl rfl rfl (by decide +kernel) ⟨Nat.le_of_ble_eq_true rfl, Nat.le_of_ble_eq_true rfl⟩) dL_arePeople_386 rfl rfl (Nat.le_of_ble_eq_true rfl) ⟨Nat.le_of_ble_eq_true rfl, Nat.le_of_ble_eq_true rfl⟩ rfl rfl rfl (by decide) (fun _ => rfl) (fun _ => rfl) (fun _ => rfl) (fun _ => rfl) rfl rfl rfl (fun r21 _ hw => ?_)
          refine g_iload X 1 dL_arePeople_389 rfl ?_
          refine g_if_ne X 398 dL_arePeople_391 (by decide) (fun c23 => ?_) (fun c23 => ?_)
          · replace hw := hw.1 c23
            refine g_iload X 1 dL_arePeople_398 rfl ?_
            refine g_iload X 2 dL_arePeople_400 rfl ?_
            refine g_isub X dL_arePeople_402 ?_
            refine g_i2d X dL_arePeople_403 ?_
            refine g_iload X 1 dL_arePeople_404 rfl ?_
            refine g_i2d X dL_arePeople_406 ?_
            obtain ⟨h24, hw⟩ := hw
            refine g_ddiv X h24 dL_arePeople_407 ?_
            refine g_sub [] [] rfl ?_
            exact kL_arePeople_408 l D ct g bp bc bq bn kc v b ap ac aq an post X _ _ _ hw
          · replace hw := hw.2 c23
            refine g_dconst1 X dL_arePeople_394 ?_
            refine g_goto X 408 dL_arePeople_395 (by decide) ?_
            refine g_sub [] [] rfl ?_
            exact kL_arePeople_408 l D ct g bp bc bq bn kc v b ap ac aq an post X _ _ _ hw

set_option maxHeartbeats 4000000 in
set_option maxRecDepth 20000 in
theorem kL_arePeople_319 (l : Launch) (D : va_G) (ct : Nat → ClassId) (g : Nat → Nat → Nat) (bp : Nat) (bc : Nat) (bq : Nat) (bn : Nat) (kc : Mem) (v : Mem) (b : Mem) (ap : Mem) (ac : Mem) (aq : Mem) (an : Mem) (post : Int32 → Mem → Prop) (K31 : Mem → Int32 → Int32 → Int32 → Int32 → Int32 → Prop) {p : Program} {e : Env} {s : State} {m : MethodId} {args : Array Value} {below : List Frame} {meth : Method} {c : Code} {A : Nat → Prop} (X : Cx p s m args meth c cL_arePeople 14 RL wsL_arePeople D (tyz ct) A s.heap (some .boolean)) (hK31 : ∀ (y : Mem) (x5 : Int32) (x6 : Int32) (x7 : Int32) (x8 : Int32) (x9 : Int32), K31 y x5 x6 x7 x8 x9 → GL_arePeople l D ct g bp bc bq bn kc v b ap ac aq an post p e s m args below meth c A (fl [wC ct g kc, wS ct (g 1) v, wV ct g b, wL ct (g 12) y, wI 40 ct bp ap, wI 20 ct bc ac, wI 24 ct bq aq, wI 7 ct bn an]) [(0, .ref (g 0 0)), (1, .ref bp), (2, .ref bc), (3, .ref bq), (4, .ref bn), (5, .int x5), (6, .int x6), (7, .int x7), (8, .int x8), (9, .int x9)] 31 []) :
    ∀ (y : Mem) (x5 : Int32) (x7 : Int32) (x8 : Int32) (x9 : Int32) (z0 : Int32) (z1 : Int32), PL_arePeople_319 kc v b ap ac aq an post K31 y x5 x7 x8 x9 z0 z1 → GL_arePeople l D ct g bp bc bq bn kc v b ap ac aq an post p e s m args below meth c A (fl [wC ct g kc, wS ct (g 1) v, wV ct g b, wL ct (g 12) y, wI 40 ct bp ap, wI 20 ct bc ac, wI 24 ct bq aq, wI 7 ct bn an]) [(0, .ref (g 0 0)), (1, .ref bp), (2, .ref bc), (3, .ref bq), (4, .ref bn), (5, .int x5), (7, .int x7), (8, .int x8), (9, .int x9)] 319 [.int z0, .int z1] := by
  intro y x5 x7 x8 x9 z0 z1 hw
  unfold PL_arePeople_319 at hw
  refine g_iadd X dL_arePeople_319 ?_
  refine g_topi (fun q38 hq38 => ?_)
  replace hw := hw q38 hq38
  refine g_istore X [(6, .int q38), (0, .ref (g 0 0)), (1, .ref bp), (2, .ref bc), (3, .ref bq), (4, .ref bn), (5, .int x5), (7, .int x7), (8, .int x8), (9, .int x9)] dL_arePeople_320 (by decide) rfl ?_
  refine g_iload X 7 dL_arePeople_322 rfl ?_
  refine g_aload_n X 3 dL_arePeople_324 rfl rfl ?_
  refine g_aload X 5 dL_arePeople_325 rfl ?_
  refine g_iload X 9 dL_arePeople_327 rfl ?_
  refine g_ciS X [wC ct g kc, wS ct (g 1) v, wV ct g b, wL ct (g 12) y, wI 40 ct bp ap, wI 20 ct bc ac, wI 24 ct bq aq, wI 7 ct bn an] (fun (_ : Unit) => [wC ct g kc, wS ct (g 1) v, wV ct g b, wL ct (g 12) y, wI 40 ct bp ap, wI 20 ct bc ac, wI 24 ct bq aq, wI 7 ct bn an]) (fun _ => fl [wC ct g kc, wS ct (g 1) v, wV ct g b, wL ct (g 12) y, wI 40 ct bp ap, wI 20 ct bc ac, wI 24 ct bq aq, wI 7 ct bn an]) 8 [5, 7] [0, 1, 2, 3, 4, 6] (kL_couples l D ct bc bn ac an x9 _ hw) (va_cwS 3 X.1.2.2.2.2 gL_arePeople_L_couples rfl rfl rfl (by decide +kernel) ⟨Nat.le_of_ble_eq_true rfl, Nat.le_of_ble_eq_true rfl⟩) dL_arePeople_329 rfl rfl (Nat.le_of_ble_eq_true rfl) ⟨Nat.le_of_ble_eq_true rfl, Nat.le_of_ble_eq_true rfl⟩ rfl rfl rfl (by decide) (fun _ => rfl) (fun _ => rfl) (fun _ => rfl) (fun _ => rfl) (fun r39 _ hw => ?_)
  refine g_iconst (v := 1) X rfl dL_arePeople_332 ?_
  refine g_icmp_le X 340 dL_arePeople_333 (by decide) (fun c41 => ?_) (fun c41 => ?_)
  · replace hw := hw.1 c41
    refine g_iconst (v := 0) X rfl dL_arePeople_340 ?_
    refine g_iadd X dL_arePeople_341 ?_
    refine g_topi (fun q42 hq42 => ?_)
    replace hw := hw q42 hq42
    refine g_istore X [(7, .int q42), (6, .int q38), (0, .ref (g 0 0)), (1, .ref bp), (2, .ref bc), (3, .ref bq), (4, .ref bn), (5, .int x5), (8, .int x8), (9, .int x9)] dL_arePeople_342 (by decide) rfl ?_
    refine g_iinc X [(9, .int (x9 + 1)), (7, .int q42), (6, .int q38), (0, .ref (g 0 0)), (1, .ref bp), (2, .ref bc), (3, .ref bq), (4, .ref bn), (5, .int x5), (8, .int x8)] 9 dL_arePeople_344 rfl rfl (by decide) rfl ?_
    refine g_goto X 31 dL_arePeople_347 (by decide) ?_
    refine g_sub [(0, .ref (g 0 0)), (1, .ref bp), (2, .ref bc), (3, .ref bq), (4, .ref bn), (5, .int x5), (6, .int q38), (7, .int q42), (8, .int x8), (9, .int (x9 + 1))] [3, 4, 5, 6, 7, 8, 2, 1, 9, 0] rfl ?_
    exact hK31 _ _ _ _ _ _ hw
  · replace hw := hw.2 c41
    refine g_iconst (v := 1) X rfl dL_arePeople_336 ?_
    refine g_goto X 341 dL_arePeople_337 (by decide) ?_
    refine g_iadd X dL_arePeople_341 ?_
    refine g_topi (fun q43 hq43 => ?_)
    replace hw := hw q43 hq43
    refine g_istore X [(7, .int q43), (6, .int q38), (0, .ref (g 0 0)), (1, .ref bp), (2, .ref bc), (3, .ref bq), (4, .ref bn), (5, .int x5), (8, .int x8), (9, .int x9)] dL_arePeople_342 (by decide) rfl ?_
    refine g_iinc X [(9, .int (x9 + 1)), (7, .int q43), (6, .int q38), (0, .ref (g 0 0)), (1, .ref bp), (2, .ref bc), (3, .ref bq), (4, .ref bn), (5, .int x5), (8, .int x8)] 9 dL_arePeople_344 rfl rfl (by decide) rfl ?_
    refine g_goto X 31 dL_arePeople_347 (by decide) ?_
    refine g_sub [(0, .ref (g 0 0)), (1, .ref bp), (2, .ref bc), (3, .ref bq), (4, .ref bn), (5, .int x5), (6, .int q38), (7, .int q43), (8, .int x8), (9, .int (x9 + 1))] [3, 4, 5, 6, 7, 8, 2, 1, 9, 0] rfl ?_
    exact hK31 _ _ _ _ _ _ hw

set_option maxHeartbeats 4000000 in
set_option maxRecDepth 20000 in
theorem kL_arePeople_318 (l : Launch) (D : va_G) (ct : Nat → ClassId) (g : Nat → Nat → Nat) (bp : Nat) (bc : Nat) (bq : Nat) (bn : Nat) (kc : Mem) (v : Mem) (b : Mem) (ap : Mem) (ac : Mem) (aq : Mem) (an : Mem) (post : Int32 → Mem → Prop) (K31 : Mem → Int32 → Int32 → Int32 → Int32 → Int32 → Prop) {p : Program} {e : Env} {s : State} {m : MethodId} {args : Array Value} {below : List Frame} {meth : Method} {c : Code} {A : Nat → Prop} (X : Cx p s m args meth c cL_arePeople 14 RL wsL_arePeople D (tyz ct) A s.heap (some .boolean)) (hK31 : ∀ (y : Mem) (x5 : Int32) (x6 : Int32) (x7 : Int32) (x8 : Int32) (x9 : Int32), K31 y x5 x6 x7 x8 x9 → GL_arePeople l D ct g bp bc bq bn kc v b ap ac aq an post p e s m args below meth c A (fl [wC ct g kc, wS ct (g 1) v, wV ct g b, wL ct (g 12) y, wI 40 ct bp ap, wI 20 ct bc ac, wI 24 ct bq aq, wI 7 ct bn an]) [(0, .ref (g 0 0)), (1, .ref bp), (2, .ref bc), (3, .ref bq), (4, .ref bn), (5, .int x5), (6, .int x6), (7, .int x7), (8, .int x8), (9, .int x9)] 31 []) :
    ∀ (y : Mem) (x5 : Int32) (x7 : Int32) (x8 : Int32) (x9 : Int32) (z0 : Int32), PL_arePeople_318 kc v b ap ac aq an post K31 y x5 x7 x8 x9 z0 → GL_arePeople l D ct g bp bc bq bn kc v b ap ac aq an post p e s m args below meth c A (fl [wC ct g kc, wS ct (g 1) v, wV ct g b, wL ct (g 12) y, wI 40 ct bp ap, wI 20 ct bc ac, wI 24 ct bq aq, wI 7 ct bn an]) [(0, .ref (g 0 0)), (1, .ref bp), (2, .ref bc), (3, .ref bq), (4, .ref bn), (5, .int x5), (7, .int x7), (8, .int x8), (9, .int x9)] 318 [.int z0] := by
  intro y x5 x7 x8 x9 z0 hw
  unfold PL_arePeople_318 at hw
  refine g_iconst (v := 0) X rfl dL_arePeople_318 ?_
  refine g_sub [(0, .ref (g 0 0)), (1, .ref bp), (2, .ref bc), (3, .ref bq), (4, .ref bn), (5, .int x5), (7, .int x7), (8, .int x8), (9, .int x9)] [0, 1, 2, 3, 4, 5, 6, 7, 8] rfl ?_
  exact kL_arePeople_319 l D ct g bp bc bq bn kc v b ap ac aq an post _ X hK31 _ _ _ _ _ _ _ hw

set_option maxHeartbeats 4000000 in
set_option maxRecDepth 20000 in
theorem kL_arePeople_284 (l : Launch) (D : va_G) (ct : Nat → ClassId) (g : Nat → Nat → Nat) (bp : Nat) (bc : Nat) (bq : Nat) (bn : Nat) (kc : Mem) (v : Mem) (b : Mem) (ap : Mem) (ac : Mem) (aq : Mem) (an : Mem) (post : Int32 → Mem → Prop) (K31 : Mem → Int32 → Int32 → Int32 → Int32 → Int32 → Prop) {p : Program} {e : Env} {s : State} {m : MethodId} {args : Array Value} {below : List Frame} {meth : Method} {c : Code} {A : Nat → Prop} (X : Cx p s m args meth c cL_arePeople 14 RL wsL_arePeople D (tyz ct) A s.heap (some .boolean)) (hK31 : ∀ (y : Mem) (x5 : Int32) (x6 : Int32) (x7 : Int32) (x8 : Int32) (x9 : Int32), K31 y x5 x6 x7 x8 x9 → GL_arePeople l D ct g bp bc bq bn kc v b ap ac aq an post p e s m args below meth c A (fl [wC ct g kc, wS ct (g 1) v, wV ct g b, wL ct (g 12) y, wI 40 ct bp ap, wI 20 ct bc ac, wI 24 ct bq aq, wI 7 ct bn an]) [(0, .ref (g 0 0)), (1, .ref bp), (2, .ref bc), (3, .ref bq), (4, .ref bn), (5, .int x5), (6, .int x6), (7, .int x7), (8, .int x8), (9, .int x9)] 31 []) :
    ∀ (y : Mem) (x6 : Int32) (x7 : Int32) (x8 : Int32) (x9 : Int32) (x12 : Int32) (z0 : Int32) (z1 : Int32), PL_arePeople_284 kc v b ap ac aq an post K31 y x6 x7 x8 x9 x12 z0 z1 → GL_arePeople l D ct g bp bc bq bn kc v b ap ac aq an post p e s m args below meth c A (fl [wC ct g kc, wS ct (g 1) v, wV ct g b, wL ct (g 12) y, wI 40 ct bp ap, wI 20 ct bc ac, wI 24 ct bq aq, wI 7 ct bn an]) [(0, .ref (g 0 0)), (1, .ref bp), (2, .ref bc), (3, .ref bq), (4, .ref bn), (6, .int x6), (7, .int x7), (8, .int x8), (9, .int x9), (12, .int x12)] 284 [.int z0, .int z1] := by
  intro y x6 x7 x8 x9 x12 z0 z1 hw
  unfold PL_arePeople_284 at hw
  refine g_iadd X dL_arePeople_284 ?_
  refine g_topi (fun q36 hq36 => ?_)
  replace hw := hw q36 hq36
  refine g_istore X [(5, .int q36), (0, .ref (g 0 0)), (1, .ref bp), (2, .ref bc), (3, .ref bq), (4, .ref bn), (6, .int x6), (7, .int x7), (8, .int x8), (9, .int x9), (12, .int x12)] dL_arePeople_285 (by decide) rfl ?_
  refine g_iload X 6 dL_arePeople_287 rfl ?_
  refine g_iload X 10 dL_arePeople_289 rfl ?_
  refine g_if_lt X 318 dL_arePeople_291 (by decide) (fun c37 => ?_) (fun c37 => ?_)
  · replace hw := hw.1 c37
    refine g_sub [(0, .ref (g 0 0)), (1, .ref bp), (2, .ref bc), (3, .ref bq), (4, .ref bn), (5, .int q36), (7, .int x7), (8, .int x8), (9, .int x9)] [1, 2, 3, 4, 5, 0, 7, 8, 9] rfl ?_
    exact kL_arePeople_318 l D ct g bp bc bq bn kc v b ap ac aq an post _ X hK31 _ _ _ _ _ _ hw
  · replace hw := hw.2 c37
    refine g_aload_n X 2 dL_arePeople_294 rfl rfl ?_
    refine g_aload_n X 3 dL_arePeople_295 rfl rfl ?_
    refine g_aload_n X 4 dL_arePeople_296 rfl rfl ?_
    refine g_iload X 10 dL_arePeople_297 rfl ?_
    refine g_ciS X [wC ct g kc, wS ct (g 1) v, wV ct g b, wL ct (g 12) y, wI 40 ct bp ap, wI 20 ct bc ac, wI 24 ct bq aq, wI 7 ct bn an] (fun (_ : Unit) => [wC ct g kc, wS ct (g 1) v, wV ct g b, wL ct (g 12) y, wI 40 ct bp ap, wI 20 ct bc ac, wI 24 ct bq aq, wI 7 ct bn an]) (fun _ => fl [wC ct g kc, wS ct (g 1) v, wV ct g b, wL ct (g 12) y, wI 40 ct bp ap, wI 20 ct bc ac, wI 24 ct bq aq, wI 7 ct bn an]) 8 [4, 5, 6] [0, 1, 2, 3, 7] (kL_middle l D ct bp bc bq ap ac aq x12 _ hw) (va_cwS 4 X.1.2.2.2.2 gL_arePeople_L_middle rfl rfl rfl (by decide +kernel) ⟨Nat.le_of_ble_eq_true rfl, Nat.le_of_ble_eq_true rfl⟩) dL_arePeople_299 rfl rfl (Nat.le_of_ble_eq_true rfl) ⟨Nat.le_of_ble_eq_true rfl, Nat.le_of_ble_eq_true rfl⟩ rfl rfl rfl (by decide) (fun _ => rfl) (fun _ => rfl) (fun _ => rfl) (fun _ => rfl) (fun r44 _ hw => ?_)
    refine g_iconst (v := 2) X rfl dL_arePeople_302 ?_
    refine g_aload_n X 2 dL_arePeople_303 rfl rfl ?_
    refine g_aload_n X 4 dL_arePeople_304 rfl rfl ?_
    refine g_iload X 9 dL_arePeople_305 rfl ?_
    refine g_ciS X [wC ct g kc, wS ct (g 1) v, wV ct g b, wL ct (g 12) y, wI 40 ct bp ap, wI 20 ct bc ac, wI 24 ct bq aq, wI 7 ct bn an] (fun (_ : Unit) => [wC ct g kc, wS ct (g 1) v, wV ct g b, wL ct (g 12) y, wI 40 ct bp ap, wI 20 ct bc ac, wI 24 ct bq aq, wI 7 ct bn an]) (fun _ => fl [wC ct g kc, wS ct (g 1) v, wV ct g b, wL ct (g 12) y, wI 40 ct bp ap, wI 20 ct bc ac, wI 24 ct bq aq, wI 7 ct bn an]) 8 [4, 6] [0, 1, 2, 3, 5, 7] (kL_place l D ct bp bq ap aq x9 _ hw) (va_cwS 3 X.1.2.2.2.2 gL_arePeople_L_place rfl rfl rfl (by decide +kernel) ⟨Nat.le_of_ble_eq_true rfl, Nat.le_of_ble_eq_true rfl⟩) dL_arePeople_307 rfl rfl (Nat.le_of_ble_eq_true rfl) ⟨Nat.le_of_ble_eq_true rfl, Nat.le_of_ble_eq_true rfl⟩ rfl rfl rfl (by decide) (fun _ => rfl) (fun _ => rfl) (fun _ => rfl) (fun _ => rfl) (fun r46 _ hw => ?_)
    refine g_imul X dL_arePeople_310 ?_
    refine g_icmp_eq X 318 dL_arePeople_311 (by decide) (fun c48 => ?_) (fun c48 => ?_)
    · replace hw := hw.1 c48
      refine g_sub [(0, .ref (g 0 0)), (1, .ref bp), (2, .ref bc), (3, .ref bq), (4, .ref bn), (5, .int q36), (7, .int x7), (8, .int x8), (9, .int x9)] [1, 2, 3, 4, 5, 0, 7, 8, 9] rfl ?_
      exact kL_arePeople_318 l D ct g bp bc bq bn kc v b ap ac aq an post _ X hK31 _ _ _ _ _ _ hw
    · replace hw := hw.2 c48
      refine g_iconst (v := 1) X rfl dL_arePeople_314 ?_
      refine g_goto X 319 dL_arePeople_315 (by decide) ?_
      refine g_sub [(0, .ref (g 0 0)), (1, .ref bp), (2, .ref bc), (3, .ref bq), (4, .ref bn), (5, .int q36), (7, .int x7), (8, .int x8), (9, .int x9)] [1, 2, 3, 4, 5, 0, 7, 8, 9] rfl ?_
      exact kL_arePeople_319 l D ct g bp bc bq bn kc v b ap ac aq an post _ X hK31 _ _ _ _ _ _ _ hw

set_option maxHeartbeats 4000000 in
set_option maxRecDepth 20000 in
theorem kL_arePeople_270 (l : Launch) (D : va_G) (ct : Nat → ClassId) (g : Nat → Nat → Nat) (bp : Nat) (bc : Nat) (bq : Nat) (bn : Nat) (kc : Mem) (v : Mem) (b : Mem) (ap : Mem) (ac : Mem) (aq : Mem) (an : Mem) (post : Int32 → Mem → Prop) (K31 : Mem → Int32 → Int32 → Int32 → Int32 → Int32 → Prop) {p : Program} {e : Env} {s : State} {m : MethodId} {args : Array Value} {below : List Frame} {meth : Method} {c : Code} {A : Nat → Prop} (X : Cx p s m args meth c cL_arePeople 14 RL wsL_arePeople D (tyz ct) A s.heap (some .boolean)) (hK31 : ∀ (y : Mem) (x5 : Int32) (x6 : Int32) (x7 : Int32) (x8 : Int32) (x9 : Int32), K31 y x5 x6 x7 x8 x9 → GL_arePeople l D ct g bp bc bq bn kc v b ap ac aq an post p e s m args below meth c A (fl [wC ct g kc, wS ct (g 1) v, wV ct g b, wL ct (g 12) y, wI 40 ct bp ap, wI 20 ct bc ac, wI 24 ct bq aq, wI 7 ct bn an]) [(0, .ref (g 0 0)), (1, .ref bp), (2, .ref bc), (3, .ref bq), (4, .ref bn), (5, .int x5), (6, .int x6), (7, .int x7), (8, .int x8), (9, .int x9)] 31 []) :
    ∀ (y : Mem) (x5 : Int32) (x6 : Int32) (x7 : Int32) (x9 : Int32) (x12 : Int32) (z0 : Int32), PL_arePeople_270 kc v b ap ac aq an post K31 y x5 x6 x7 x9 x12 z0 → GL_arePeople l D ct g bp bc bq bn kc v b ap ac aq an post p e s m args below meth c A (fl [wC ct g kc, wS ct (g 1) v, wV ct g b, wL ct (g 12) y, wI 40 ct bp ap, wI 20 ct bc ac, wI 24 ct bq aq, wI 7 ct bn an]) [(0, .ref (g 0 0)), (1, .ref bp), (2, .ref bc), (3, .ref bq), (4, .ref bn), (5, .int x5), (6, .int x6), (7, .int x7), (9, .int x9), (12, .int x12)] 270 [.int z0] := by
  intro y x5 x6 x7 x9 x12 z0 hw
  unfold PL_arePeople_270 at hw
  refine g_istore X [(8, .int z0), (0, .ref (g 0 0)), (1, .ref bp), (2, .ref bc), (3, .ref bq), (4, .ref bn), (5, .int x5), (6, .int x6), (7, .int x7), (9, .int x9), (12, .int x12)] dL_arePeople_270 (by decide) rfl ?_
  refine g_iload X 6 dL_arePeople_272 rfl ?_
  refine g_iload X 10 dL_arePeople_274 rfl ?_
  refine g_if_lt X 283 dL_arePeople_276 (by decide) (fun c35 => ?_) (fun c35 => ?_)
  · replace hw := hw.1 c35
    refine g_iconst (v := 0) X rfl dL_arePeople_283 ?_
    refine g_sub [(0, .ref (g 0 0)), (1, .ref bp), (2, .ref bc), (3, .ref bq), (4, .ref bn), (6, .int x6), (7, .int x7), (8, .int z0), (9, .int x9), (12, .int x12)] [1, 2, 3, 4, 5, 7, 8, 0, 9, 10] rfl ?_
    exact kL_arePeople_284 l D ct g bp bc bq bn kc v b ap ac aq an post _ X hK31 _ _ _ _ _ _ _ _ hw
  · replace hw := hw.2 c35
    refine g_iconst (v := 1) X rfl dL_arePeople_279 ?_
    refine g_goto X 284 dL_arePeople_280 (by decide) ?_
    refine g_sub [(0, .ref (g 0 0)), (1, .ref bp), (2, .ref bc), (3, .ref bq), (4, .ref bn), (6, .int x6), (7, .int x7), (8, .int z0), (9, .int x9), (12, .int x12)] [1, 2, 3, 4, 5, 7, 8, 0, 9, 10] rfl ?_
    exact kL_arePeople_284 l D ct g bp bc bq bn kc v b ap ac aq an post _ X hK31 _ _ _ _ _ _ _ _ hw

set_option maxHeartbeats 4000000 in
set_option maxRecDepth 20000 in
theorem kL_arePeople_269 (l : Launch) (D : va_G) (ct : Nat → ClassId) (g : Nat → Nat → Nat) (bp : Nat) (bc : Nat) (bq : Nat) (bn : Nat) (kc : Mem) (v : Mem) (b : Mem) (ap : Mem) (ac : Mem) (aq : Mem) (an : Mem) (post : Int32 → Mem → Prop) (K31 : Mem → Int32 → Int32 → Int32 → Int32 → Int32 → Prop) {p : Program} {e : Env} {s : State} {m : MethodId} {args : Array Value} {below : List Frame} {meth : Method} {c : Code} {A : Nat → Prop} (X : Cx p s m args meth c cL_arePeople 14 RL wsL_arePeople D (tyz ct) A s.heap (some .boolean)) (hK31 : ∀ (y : Mem) (x5 : Int32) (x6 : Int32) (x7 : Int32) (x8 : Int32) (x9 : Int32), K31 y x5 x6 x7 x8 x9 → GL_arePeople l D ct g bp bc bq bn kc v b ap ac aq an post p e s m args below meth c A (fl [wC ct g kc, wS ct (g 1) v, wV ct g b, wL ct (g 12) y, wI 40 ct bp ap, wI 20 ct bc ac, wI 24 ct bq aq, wI 7 ct bn an]) [(0, .ref (g 0 0)), (1, .ref bp), (2, .ref bc), (3, .ref bq), (4, .ref bn), (5, .int x5), (6, .int x6), (7, .int x7), (8, .int x8), (9, .int x9)] 31 []) :
    ∀ (y : Mem) (x5 : Int32) (x6 : Int32) (x7 : Int32) (x9 : Int32) (x12 : Int32), PL_arePeople_269 kc v b ap ac aq an post K31 y x5 x6 x7 x9 x12 → GL_arePeople l D ct g bp bc bq bn kc v b ap ac aq an post p e s m args below meth c A (fl [wC ct g kc, wS ct (g 1) v, wV ct g b, wL ct (g 12) y, wI 40 ct bp ap, wI 20 ct bc ac, wI 24 ct bq aq, wI 7 ct bn an]) [(0, .ref (g 0 0)), (1, .ref bp), (2, .ref bc), (3, .ref bq), (4, .ref bn), (5, .int x5), (6, .int x6), (7, .int x7), (9, .int x9), (12, .int x12)] 269 [] := by
  intro y x5 x6 x7 x9 x12 hw
  unfold PL_arePeople_269 at hw
  refine g_iconst (v := 0) X rfl dL_arePeople_269 ?_
  refine g_sub [(0, .ref (g 0 0)), (1, .ref bp), (2, .ref bc), (3, .ref bq), (4, .ref bn), (5, .int x5), (6, .int x6), (7, .int x7), (9, .int x9), (12, .int x12)] [0, 1, 2, 3, 4, 5, 6, 7, 8, 9] rfl ?_
  exact kL_arePeople_270 l D ct g bp bc bq bn kc v b ap ac aq an post _ X hK31 _ _ _ _ _ _ _ hw

set_option maxHeartbeats 4000000 in
set_option maxRecDepth 20000 in
theorem kL_arePeople_64 (l : Launch) (D : va_G) (ct : Nat → ClassId) (g : Nat → Nat → Nat) (bp : Nat) (bc : Nat) (bq : Nat) (bn : Nat) (kc : Mem) (v : Mem) (b : Mem) (ap : Mem) (ac : Mem) (aq : Mem) (an : Mem) (post : Int32 → Mem → Prop) (K31 : Mem → Int32 → Int32 → Int32 → Int32 → Int32 → Prop) {p : Program} {e : Env} {s : State} {m : MethodId} {args : Array Value} {below : List Frame} {meth : Method} {c : Code} {A : Nat → Prop} (X : Cx p s m args meth c cL_arePeople 14 RL wsL_arePeople D (tyz ct) A s.heap (some .boolean)) (hK31 : ∀ (y : Mem) (x5 : Int32) (x6 : Int32) (x7 : Int32) (x8 : Int32) (x9 : Int32), K31 y x5 x6 x7 x8 x9 → GL_arePeople l D ct g bp bc bq bn kc v b ap ac aq an post p e s m args below meth c A (fl [wC ct g kc, wS ct (g 1) v, wV ct g b, wL ct (g 12) y, wI 40 ct bp ap, wI 20 ct bc ac, wI 24 ct bq aq, wI 7 ct bn an]) [(0, .ref (g 0 0)), (1, .ref bp), (2, .ref bc), (3, .ref bq), (4, .ref bn), (5, .int x5), (6, .int x6), (7, .int x7), (8, .int x8), (9, .int x9)] 31 []) :
    ∀ (n : Nat) (y : Mem) (x5 : Int32) (x6 : Int32) (x7 : Int32) (x9 : Int32) (x10 : Int32) (x11 : Int32) (x12 : Int32) (x13 : Int32), PL_arePeople_64 kc v b ap ac aq an post K31 n y x5 x6 x7 x9 x10 x11 x12 x13 → GL_arePeople l D ct g bp bc bq bn kc v b ap ac aq an post p e s m args below meth c A (fl [wC ct g kc, wS ct (g 1) v, wV ct g b, wL ct (g 12) y, wI 40 ct bp ap, wI 20 ct bc ac, wI 24 ct bq aq, wI 7 ct bn an]) [(0, .ref (g 0 0)), (1, .ref bp), (2, .ref bc), (3, .ref bq), (4, .ref bn), (5, .int x5), (6, .int x6), (7, .int x7), (9, .int x9), (10, .int x10), (11, .int x11), (12, .int x12), (13, .int x13)] 64 [] := by
  intro n
  induction n with
  | zero =>
    intro y x5 x6 x7 x9 x10 x11 x12 x13 hw
    exact hw.elim
  | succ n ih =>
    intro y x5 x6 x7 x9 x10 x11 x12 x13 hw
    unfold PL_arePeople_64 at hw
    refine g_iload X 12 dL_arePeople_64 rfl ?_
    refine g_aload X 4 dL_arePeople_66 rfl ?_
    refine g_iconst (v := 0) X rfl dL_arePeople_68 ?_
    obtain ⟨h29, hw⟩ := hw
    refine g_iald X 19 0 dL_arePeople_69 rfl rfl h29 ?_
    refine g_icmp_ge X 155 dL_arePeople_70 (by decide) (fun c30 => ?_) (fun c30 => ?_)
    · replace hw := hw.1 c30
      refine g_aload_n X 0 dL_arePeople_155 rfl rfl ?_
      refine g_iload X 8 dL_arePeople_156 rfl ?_
      refine g_iconst (v := 0) X rfl dL_arePeople_158 ?_
      refine g_ciV X [wC ct g kc, wS ct (g 1) v, wV ct g b, wL ct (g 12) y, wI 40 ct bp ap, wI 20 ct bc ac, wI 24 ct bq aq, wI 7 ct bn an] (fun (_ : Unit) => [wC ct g kc, wS ct (g 1) v, wV ct g b, wL ct (g 12) y, wI 40 ct bp ap, wI 20 ct bc ac, wI 24 ct bq aq, wI 7 ct bn an]) (fun _ => fl [wC ct g kc, wS ct (g 1) v, wV ct g b, wL ct (g 12) y, wI 40 ct bp ap, wI 20 ct bc ac, wI 24 ct bq aq, wI 7 ct bn an]) 8 [0, 1] [2, 3, 4, 5, 6, 7] 0 (kX7_personOf_nt l D ct g kc v x9 0 _ hw) (cwV 2 X.1.2.2.2.2 gL_arePeople_X7_personOf rfl rfl rfl (by decide +kernel) ⟨Nat.le_of_ble_eq_true rfl, Nat.le_of_ble_eq_true rfl⟩) dL_arePeople_159 rfl rfl (Nat.le_of_ble_eq_true rfl) ⟨Nat.le_of_ble_eq_true rfl, Nat.le_of_ble_eq_true rfl⟩ rfl rfl rfl (by decide) (fun _ => rfl) (fun _ => rfl) (fun _ => rfl) (fun _ => rfl) rfl rfl rfl (fun r31 _ hw => ?_)
      refine g_aload_n X 1 dL_arePeople_162 rfl rfl ?_
      refine g_iconst (v := 2) X rfl dL_arePeople_163 ?_
      refine g_iload X 8 dL_arePeople_164 rfl ?_
      refine g_imul X dL_arePeople_166 ?_
      obtain ⟨h33, hw⟩ := hw
      refine g_iald X 16 0 dL_arePeople_167 rfl rfl h33 ?_
      refine g_icmp_ne X 269 dL_arePeople_168 (by decide) (fun c34 => ?_) (fun c34 => ?_)
      · replace hw := hw.1 c34
        refine g_sub [(0, .ref (g 0 0)), (1, .ref bp), (2, .ref bc), (3, .ref bq), (4, .ref bn), (5, .int x5), (6, .int x6), (7, .int x7), (9, .int x9), (12, .int x12)] [0, 1, 2, 3, 4, 5, 6, 7, 8, 11] rfl ?_
        exact kL_arePeople_269 l D ct g bp bc bq bn kc v b ap ac aq an post _ X hK31 _ _ _ _ _ _ hw
      · replace hw := hw.2 c34
        refine g_aload_n X 0 dL_arePeople_171 rfl rfl ?_
        refine g_iload X 8 dL_arePeople_172 rfl ?_
        refine g_iconst (v := 1) X rfl dL_arePeople_174 ?_
        refine g_ciV X [wC ct g kc, wS ct (g 1) v, wV ct g b, wL ct (g 12) y, wI 40 ct bp ap, wI 20 ct bc ac, wI 24 ct bq aq, wI 7 ct bn an] (fun (_ : Unit) => [wC ct g kc, wS ct (g 1) v, wV ct g b, wL ct (g 12) y, wI 40 ct bp ap, wI 20 ct bc ac, wI 24 ct bq aq, wI 7 ct bn an]) (fun _ => fl [wC ct g kc, wS ct (g 1) v, wV ct g b, wL ct (g 12) y, wI 40 ct bp ap, wI 20 ct bc ac, wI 24 ct bq aq, wI 7 ct bn an]) 8 [0, 1] [2, 3, 4, 5, 6, 7] 0 (kX7_personOf_nt l D ct g kc v x9 1 _ hw) (cwV 2 X.1.2.2.2.2 gL_arePeople_X7_personOf rfl rfl rfl (by decide +kernel) ⟨Nat.le_of_ble_eq_true rfl, Nat.le_of_ble_eq_true rfl⟩) dL_arePeople_175 rfl rfl (Nat.le_of_ble_eq_true rfl) ⟨Nat.le_of_ble_eq_true rfl, Nat.le_of_ble_eq_true rfl⟩ rfl rfl rfl (by decide) (fun _ => rfl) (fun _ => rfl) (fun _ => rfl) (fun _ => rfl) rfl rfl rfl (fun r49 _ hw => ?_)
        refine g_aload_n X 1 dL_arePeople_178 rfl rfl ?_
        refine g_aload_n X 3 dL_arePeople_179 rfl rfl ?_
        refine g_iload X 8 dL_arePeople_180 rfl ?_
        refine g_ciS X [wC ct g kc, wS ct (g 1) v, wV ct g b, wL ct (g 12) y, wI 40 ct bp ap, wI 20 ct bc ac, wI 24 ct bq aq, wI 7 ct bn an] (fun (_ : Unit) => [wC ct g kc, wS ct (g 1) v, wV ct g b, wL ct (g 12) y, wI 40 ct bp ap, wI 20 ct bc ac, wI 24 ct bq aq, wI 7 ct bn an]) (fun _ => fl [wC ct g kc, wS ct (g 1) v, wV ct g b, wL ct (g 12) y, wI 40 ct bp ap, wI 20 ct bc ac, wI 24 ct bq aq, wI 7 ct bn an]) 8 [4, 6] [0, 1, 2, 3, 5, 7] (kL_place l D ct bp bq ap aq x9 _ hw) (va_cwS 3 X.1.2.2.2.2 gL_arePeople_L_place rfl rfl rfl (by decide +kernel) ⟨Nat.le_of_ble_eq_true rfl, Nat.le_of_ble_eq_true rfl⟩) dL_arePeople_182 rfl rfl (Nat.le_of_ble_eq_true rfl) ⟨Nat.le_of_ble_eq_true rfl, Nat.le_of_ble_eq_true rfl⟩ rfl rfl rfl (by decide) (fun _ => rfl) (fun _ => rfl) (fun _ => rfl) (fun _ => rfl) (fun r51 _ hw => ?_)
        refine g_icmp_ne X 269 dL_arePeople_185 (by decide) (fun c53 => ?_) (fun c53 => ?_)
        · replace hw := hw.1 c53
          refine g_sub [(0, .ref (g 0 0)), (1, .ref bp), (2, .ref bc), (3, .ref bq), (4, .ref bn), (5, .int x5), (6, .int x6), (7, .int x7), (9, .int x9), (12, .int x12)] [0, 1, 2, 3, 4, 5, 6, 7, 8, 11] rfl ?_
          exact kL_arePeople_269 l D ct g bp bc bq bn kc v b ap ac aq an post _ X hK31 _ _ _ _ _ _ hw
        · replace hw := hw.2 c53
          refine g_aload_n X 0 dL_arePeople_188 rfl rfl ?_
          refine g_iload X 8 dL_arePeople_189 rfl ?_
          refine g_iconst (v := 2) X rfl dL_arePeople_191 ?_
          refine g_ciV X [wC ct g kc, wS ct (g 1) v, wV ct g b, wL ct (g 12) y, wI 40 ct bp ap, wI 20 ct bc ac, wI 24 ct bq aq, wI 7 ct bn an] (fun (_ : Unit) => [wC ct g kc, wS ct (g 1) v, wV ct g b, wL ct (g 12) y, wI 40 ct bp ap, wI 20 ct bc ac, wI 24 ct bq aq, wI 7 ct bn an]) (fun _ => fl [wC ct g kc, wS ct (g 1) v, wV ct g b, wL ct (g 12) y, wI 40 ct bp ap, wI 20 ct bc ac, wI 24 ct bq aq, wI 7 ct bn an]) 8 [0, 1] [2, 3, 4, 5, 6, 7] 0 (kX7_personOf_nt l D ct g kc v x9 2 _ hw) (cwV 2 X.1.2.2.2.2 gL_arePeople_X7_personOf rfl rfl rfl (by decide +kernel) ⟨Nat.le_of_ble_eq_true rfl, Nat.le_of_ble_eq_true rfl⟩) dL_arePeople_192 rfl rfl (Nat.le_of_ble_eq_true rfl) ⟨Nat.le_of_ble_eq_true rfl, Nat.le_of_ble_eq_true rfl⟩ rfl rfl rfl (by decide) (fun _ => rfl) (fun _ => rfl) (fun _ => rfl) (fun _ => rfl) rfl rfl rfl (fun r54 _ hw => ?_)
          refine g_iload X 11 dL_arePeople_195 rfl ?_
          refine g_icmp_ne X 269 dL_arePeople_197 (by decide) (fun c56 => ?_) (fun c56 => ?_)
          · replace hw := hw.1 c56
            refine g_sub [(0, .ref (g 0 0)), (1, .ref bp), (2, .ref bc), (3, .ref bq), (4, .ref bn), (5, .int x5), (6, .int x6), (7, .int x7), (9, .int x9), (12, .int x12)] [0, 1, 2, 3, 4, 5, 6, 7, 8, 11] rfl ?_
            exact kL_arePeople_269 l D ct g bp bc bq bn kc v b ap ac aq an post _ X hK31 _ _ _ _ _ _ hw
          · replace hw := hw.2 c56
            refine g_aload_n X 0 dL_arePeople_200 rfl rfl ?_
            refine g_iload X 8 dL_arePeople_201 rfl ?_
            refine g_iconst (v := 3) X rfl dL_arePeople_203 ?_
            refine g_ciV X [wC ct g kc, wS ct (g 1) v, wV ct g b, wL ct (g 12) y, wI 40 ct bp ap, wI 20 ct bc ac, wI 24 ct bq aq, wI 7 ct bn an] (fun (_ : Unit) => [wC ct g kc, wS ct (g 1) v, wV ct g b, wL ct (g 12) y, wI 40 ct bp ap, wI 20 ct bc ac, wI 24 ct bq aq, wI 7 ct bn an]) (fun _ => fl [wC ct g kc, wS ct (g 1) v, wV ct g b, wL ct (g 12) y, wI 40 ct bp ap, wI 20 ct bc ac, wI 24 ct bq aq, wI 7 ct bn an]) 8 [0, 1] [2, 3, 4, 5, 6, 7] 0 (kX7_personOf_nt l D ct g kc v x9 3 _ hw) (cwV 2 X.1.2.2.2.2 gL_arePeople_X7_personOf rfl rfl rfl (by decide +kernel) ⟨Nat.le_of_ble_eq_true rfl, Nat.le_of_ble_eq_true rfl⟩) dL_arePeople_204 rfl rfl (Nat.le_of_ble_eq_true rfl) ⟨Nat.le_of_ble_eq_true rfl, Nat.le_of_ble_eq_true rfl⟩ rfl rfl rfl (by decide) (fun _ => rfl) (fun _ => rfl) (fun _ => rfl) (fun _ => rfl) rfl rfl rfl (fun r57 _ hw => ?_)
            refine g_aload_n X 2 dL_arePeople_207 rfl rfl ?_
            refine g_aload X 4 dL_arePeople_208 rfl ?_
            refine g_iload X 8 dL_arePeople_210 rfl ?_
            refine g_ciS X [wC ct g kc, wS ct (g 1) v, wV ct g b, wL ct (g 12) y, wI 40 ct bp ap, wI 20 ct bc ac, wI 24 ct bq aq, wI 7 ct bn an] (fun (_ : Unit) => [wC ct g kc, wS ct (g 1) v, wV ct g b, wL ct (g 12) y, wI 40 ct bp ap, wI 20 ct bc ac, wI 24 ct bq aq, wI 7 ct bn an]) (fun _ => fl [wC ct g kc, wS ct (g 1) v, wV ct g b, wL ct (g 12) y, wI 40 ct bp ap, wI 20 ct bc ac, wI 24 ct bq aq, wI 7 ct bn an]) 8 [5, 7] [0, 1, 2, 3, 4, 6] (kL_couples l D ct bc bn ac an x9 _ hw) (va_cwS 3 X.1.2.2.2.2 gL_arePeople_L_couples rfl rfl rfl (by decide +kernel) ⟨Nat.le_of_ble_eq_true rfl, Nat.le_of_ble_eq_true rfl⟩) dL_arePeople_212 rfl rfl (Nat.le_of_ble_eq_true rfl) ⟨Nat.le_of_ble_eq_true rfl, Nat.le_of_ble_eq_true rfl⟩ rfl rfl rfl (by decide) (fun _ => rfl) (fun _ => rfl) (fun _ => rfl) (fun _ => rfl) (fun r59 _ hw => ?_)
            refine g_icmp_ne X 269 dL_arePeople_215 (by decide) (fun c61 => ?_) (fun c61 => ?_)
            · replace hw := hw.1 c61
              refine g_sub [(0, .ref (g 0 0)), (1, .ref bp), (2, .ref bc), (3, .ref bq), (4, .ref bn), (5, .int x5), (6, .int x6), (7, .int x7), (9, .int x9), (12, .int x12)] [0, 1, 2, 3, 4, 5, 6, 7, 8, 11] rfl ?_
              exact kL_arePeople_269 l D ct g bp bc bq bn kc v b ap ac aq an post _ X hK31 _ _ _ _ _ _ hw
            · replace hw := hw.2 c61
              refine g_aload_n X 0 dL_arePeople_218 rfl rfl ?_
              refine g_iload X 8 dL_arePeople_219 rfl ?_
              refine g_iconst (v := 4) X rfl dL_arePeople_221 ?_
              refine g_ciV X [wC ct g kc, wS ct (g 1) v, wV ct g b, wL ct (g 12) y, wI 40 ct bp ap, wI 20 ct bc ac, wI 24 ct bq aq, wI 7 ct bn an] (fun (_ : Unit) => [wC ct g kc, wS ct (g 1) v, wV ct g b, wL ct (g 12) y, wI 40 ct bp ap, wI 20 ct bc ac, wI 24 ct bq aq, wI 7 ct bn an]) (fun _ => fl [wC ct g kc, wS ct (g 1) v, wV ct g b, wL ct (g 12) y, wI 40 ct bp ap, wI 20 ct bc ac, wI 24 ct bq aq, wI 7 ct bn an]) 8 [0, 1] [2, 3, 4, 5, 6, 7] 0 (kX7_personOf_nt l D ct g kc v x9 4 _ hw) (cwV 2 X.1.2.2.2.2 gL_arePeople_X7_personOf rfl rfl rfl (by decide +kernel) ⟨Nat.le_of_ble_eq_true rfl, Nat.le_of_ble_eq_true rfl⟩) dL_arePeople_222 rfl rfl (Nat.le_of_ble_eq_true rfl) ⟨Nat.le_of_ble_eq_true rfl, Nat.le_of_ble_eq_true rfl⟩ rfl rfl rfl (by decide) (fun _ => rfl) (fun _ => rfl) (fun _ => rfl) (fun _ => rfl) rfl rfl rfl (fun r62 _ hw => ?_)
              refine g_iload X 10 dL_arePeople_225 rfl ?_
              refine g_icmp_ne X 269 dL_arePeople_227 (by decide) (fun c64 => ?_) (fun c64 => ?_)
              · replace hw := hw.1 c64
                refine g_sub [(0, .ref (g 0 0)), (1, .ref bp), (2, .ref bc), (3, .ref bq), (4, .ref bn), (5, .int x5), (6, .int x6), (7, .int x7), (9, .int x9), (12, .int x12)] [0, 1, 2, 3, 4, 5, 6, 7, 8, 11] rfl ?_
                exact kL_arePeople_269 l D ct g bp bc bq bn kc v b ap ac aq an post _ X hK31 _ _ _ _ _ _ hw
              · replace hw := hw.2 c64
                refine g_aload_n X 0 dL_arePeople_230 rfl rfl ?_
                refine g_iload X 8 dL_arePeople_231 rfl ?_
                refine g_iconst (v := 5) X rfl dL_arePeople_233 ?_
                refine g_ciV X [wC ct g kc, wS ct (g 1) v, wV ct g b, wL ct (g 12) y, wI 40 ct bp ap, wI 20 ct bc ac, wI 24 ct bq aq, wI 7 ct bn an] (fun (_ : Unit) => [wC ct g kc, wS ct (g 1) v, wV ct g b, wL ct (g 12) y, wI 40 ct bp ap, wI 20 ct bc ac, wI 24 ct bq aq, wI 7 ct bn an]) (fun _ => fl [wC ct g kc, wS ct (g 1) v, wV ct g b, wL ct (g 12) y, wI 40 ct bp ap, wI 20 ct bc ac, wI 24 ct bq aq, wI 7 ct bn an]) 8 [0, 1] [2, 3, 4, 5, 6, 7] 0 (kX7_personOf_nt l D ct g kc v x9 5 _ hw) (cwV 2 X.1.2.2.2.2 gL_arePeople_X7_personOf rfl rfl rfl (by decide +kernel) ⟨Nat.le_of_ble_eq_true rfl, Nat.le_of_ble_eq_true rfl⟩) dL_arePeople_234 rfl rfl (Nat.le_of_ble_eq_true rfl) ⟨Nat.le_of_ble_eq_true rfl, Nat.le_of_ble_eq_true rfl⟩ rfl rfl rfl (by decide) (fun _ => rfl) (fun _ => rfl) (fun _ => rfl) (fun _ => rfl) rfl rfl rfl (fun r65 _ hw => ?_)
                refine g_iload X 9 dL_arePeople_237 rfl ?_
                refine g_icmp_ne X 269 dL_arePeople_239 (by decide) (fun c67 => ?_) (fun c67 => ?_)
                · replace hw := hw.1 c67
                  refine g_sub [(0, .ref (g 0 0)), (1, .ref bp), (2, .ref bc), (3, .ref bq), (4, .ref bn), (5, .int x5), (6, .int x6), (7, .int x7), (9, .int x9), (12, .int x12)] [0, 1, 2, 3, 4, 5, 6, 7, 8, 11] rfl ?_
                  exact kL_arePeople_269 l D ct g bp bc bq bn kc v b ap ac aq an post _ X hK31 _ _ _ _ _ _ hw
                · replace hw := hw.2 c67
                  refine g_aload_n X 0 dL_arePeople_242 rfl rfl ?_
                  refine g_iload X 8 dL_arePeople_243 rfl ?_
                  refine g_bipush (v := 6) X rfl dL_arePeople_245 ?_
                  refine g_ciV X [wC ct g kc, wS ct (g 1) v, wV ct g b, wL ct (g 12) y, wI 40 ct bp ap, wI 20 ct bc ac, wI 24 ct bq aq, wI 7 ct bn an] (fun (_ : Unit) => [wC ct g kc, wS ct (g 1) v, wV ct g b, wL ct (g 12) y, wI 40 ct bp ap, wI 20 ct bc ac, wI 24 ct bq aq, wI 7 ct bn an]) (fun _ => fl [wC ct g kc, wS ct (g 1) v, wV ct g b, wL ct (g 12) y, wI 40 ct bp ap, wI 20 ct bc ac, wI 24 ct bq aq, wI 7 ct bn an]) 8 [0, 1] [2, 3, 4, 5, 6, 7] 0 (kX7_personOf_nt l D ct g kc v x9 6 _ hw) (cwV 2 X.1.2.2.2.2 gL_arePeople_X7_personOf rfl rfl rfl (by decide +kernel) ⟨Nat.le_of_ble_eq_true rfl, Nat.le_of_ble_eq_true rfl⟩) dL_arePeople_247 rfl rfl (Nat.le_of_ble_eq_true rfl) ⟨Nat.le_of_ble_eq_true rfl, Nat.le_of_ble_eq_true rfl⟩ rfl rfl rfl (by decide) (fun _ => rfl) (fun _ => rfl) (fun _ => rfl) (fun _ => rfl) rfl rfl rfl (fun r68 _ hw => ?_)
                  refine g_aload_n X 1 dL_arePeople_250 rfl rfl ?_
                  refine g_aload_n X 2 dL_arePeople_251 rfl rfl ?_
                  refine g_aload X 4 dL_arePeople_252 rfl ?_
                  refine g_iload X 8 dL_arePeople_254 rfl ?_
                  refine g_ciS X [wC ct g kc, wS ct (g 1) v, wV ct g b, wL ct (g 12) y, wI 40 ct bp ap, wI 20 ct bc ac, wI 24 ct bq aq, wI 7 ct bn an] (fun (_ : Unit) => [wC ct g kc, wS ct (g 1) v, wV ct g b, wL ct (g 12) y, wI 40 ct bp ap, wI 20 ct bc ac, wI 24 ct bq aq, wI 7 ct bn an]) (fun _ => fl [wC ct g kc, wS ct (g 1) v, wV ct g b, wL ct (g 12) y, wI 40 ct bp ap, wI 20 ct bc ac, wI 24 ct bq aq, wI 7 ct bn an]) 8 [4, 5, 7] [0, 1, 2, 3, 6] (kL_ancestors l D ct bp bc bn ap ac an x9 _ hw) (va_cwS 4 X.1.2.2.2.2 gL_arePeople_L_ancestors rfl rfl rfl (by decide +kernel) ⟨Nat.le_of_ble_eq_true rfl, Nat.le_of_ble_eq_true rfl⟩) dL_arePeople_256 rfl rfl (Nat.le_of_ble_eq_true rfl) ⟨Nat.le_of_ble_eq_true rfl, Nat.le_of_ble_eq_true rfl⟩ rfl rfl rfl (by decide) (fun _ => rfl) (fun _ => rfl) (fun _ => rfl) (fun _ => rfl) (fun r70 _ hw => ?_)
                  refine g_ciS X [wC ct g kc, wS ct (g 1) v, wV ct g b, wL ct (g 12) y, wI 40 ct bp ap, wI 20 ct bc ac, wI 24 ct bq aq, wI 7 ct bn an] (fun (_ : Unit) => [wC ct g kc, wS ct (g 1) v, wV ct g b, wL ct (g 12) y, wI 40 ct bp ap, wI 20 ct bc ac, wI 24 ct bq aq, wI 7 ct bn an]) (fun _ => fl [wC ct g kc, wS ct (g 1) v, wV ct g b, wL ct (g 12) y, wI 40 ct bp ap, wI 20 ct bc ac, wI 24 ct bq aq, wI 7 ct bn an]) 8 [] [0, 1, 2, 3, 4, 5, 6, 7] (kL_ones l D ct  r70 _ hw) (va_cwS 1 X.1.2.2.2.2 gL_arePeople_L_ones rfl rfl rfl (by decide +kernel) ⟨Nat.le_of_ble_eq_true rfl, Nat.le_of_ble_eq_true rfl⟩) dL_arePeople_259 rfl rfl (Nat.le_of_ble_eq_true rfl) ⟨Nat.le_of_ble_eq_true rfl, Nat.le_of_ble_eq_true rfl⟩ rfl rfl rfl (by decide) (fun _ => rfl) (fun _ => rfl) (fun _ => rfl) (fun _ => rfl) (fun r72 _ hw => ?_)
                  refine g_icmp_ne X 269 dL_arePeople_262 (by decide) (fun c74 => ?_) (fun c74 => ?_)
                  · replace hw := hw.1 c74
                    refine g_sub [(0, .ref (g 0 0)), (1, .ref bp), (2, .ref bc), (3, .ref bq), (4, .ref bn), (5, .int x5), (6, .int x6), (7, .int x7), (9, .int x9), (12, .int x12)] [0, 1, 2, 3, 4, 5, 6, 7, 8, 11] rfl ?_
                    exact kL_arePeople_269 l D ct g bp bc bq bn kc v b ap ac aq an post _ X hK31 _ _ _ _ _ _ hw
                  · replace hw := hw.2 c74
                    refine g_iconst (v := 1) X rfl dL_arePeople_265 ?_
                    refine g_goto X 270 dL_arePeople_266 (by decide) ?_
                    refine g_sub [(0, .ref (g 0 0)), (1, .ref bp), (2, .ref bc), (3, .ref bq), (4, .ref bn), (5, .int x5), (6, .int x6), (7, .int x7), (9, .int x9), (12, .int x12)] [0, 1, 2, 3, 4, 5, 6, 7, 8, 11] rfl ?_
                    exact kL_arePeople_270 l D ct g bp bc bq bn kc v b ap ac aq an post _ X hK31 _ _ _ _ _ _ _ hw
    · replace hw := hw.2 c30
      refine g_iload X 9 dL_arePeople_73 rfl ?_
      refine g_aload_n X 1 dL_arePeople_75 rfl rfl ?_
      refine g_aload_n X 2 dL_arePeople_76 rfl rfl ?_
      refine g_aload X 4 dL_arePeople_77 rfl ?_
      refine g_iload X 12 dL_arePeople_79 rfl ?_
      refine g_ciS X [wC ct g kc, wS ct (g 1) v, wV ct g b, wL ct (g 12) y, wI 40 ct bp ap, wI 20 ct bc ac, wI 24 ct bq aq, wI 7 ct bn an] (fun (_ : Unit) => [wC ct g kc, wS ct (g 1) v, wV ct g b, wL ct (g 12) y, wI 40 ct bp ap, wI 20 ct bc ac, wI 24 ct bq aq, wI 7 ct bn an]) (fun _ => fl [wC ct g kc, wS ct (g 1) v, wV ct g b, wL ct (g 12) y, wI 40 ct bp ap, wI 20 ct bc ac, wI 24 ct bq aq, wI 7 ct bn an]) 8 [4, 5, 7] [0, 1, 2, 3, 6] (kL_ancestors l D ct bp bc bn ap ac an x13 _ hw) (va_cwS 4 X.1.2.2.2.2 gL_arePeople_L_ancestors rfl rfl rfl (by decide +kernel) ⟨Nat.le_of_ble_eq_true rfl, Nat.le_of_ble_eq_true rfl⟩) dL_arePeople_81 rfl rfl (Nat.le_of_ble_eq_true rfl) ⟨Nat.le_of_ble_eq_true rfl, Nat.le_of_ble_eq_true rfl⟩ rfl rfl rfl (by decide) (fun _ => rfl) (fun _ => rfl) (fun _ => rfl) (fun _ => rfl) (fun r75 _ hw => ?_)
      refine g_iload X 8 dL_arePeople_84 rfl ?_
      refine g_ishr X dL_arePeople_86 ?_
      refine g_iconst (v := 1) X rfl dL_arePeople_87 ?_
      refine g_iand X dL_arePeople_88 ?_
      refine g_iadd X dL_arePeople_89 ?_
      refine g_topi (fun q77 hq77 => ?_)
      replace hw := hw q77 hq77
      refine g_istore X [(10, .int q77), (0, .ref (g 0 0)), (1, .ref bp), (2, .ref bc), (3, .ref bq), (4, .ref bn), (5, .int x5), (6, .int x6), (7, .int x7), (9, .int x9), (11, .int x11), (12, .int x12), (13, .int x13)] dL_arePeople_90 (by decide) rfl ?_
      refine g_iload X 10 dL_arePeople_92 rfl ?_
      refine g_aload_n X 2 dL_arePeople_94 rfl rfl ?_
      refine g_iconst (v := 2) X rfl dL_arePeople_95 ?_
      refine g_iload X 12 dL_arePeople_96 rfl ?_
      refine g_imul X dL_arePeople_98 ?_
      refine g_iconst (v := 1) X rfl dL_arePeople_99 ?_
      refine g_iadd X dL_arePeople_100 ?_
      obtain ⟨h78, hw⟩ := hw
      refine g_iald X 16 0 dL_arePeople_101 rfl rfl h78 ?_
      refine g_if_lt X 145 dL_arePeople_102 (by decide) (fun c79 => ?_) (fun c79 => ?_)
      · replace hw := hw.1 c79
        refine g_iconst (v := 0) X rfl dL_arePeople_145 ?_
        refine g_iadd X dL_arePeople_146 ?_
        refine g_topi (fun q80 hq80 => ?_)
        replace hw := hw q80 hq80
        refine g_istore X [(11, .int q80), (10, .int q77), (0, .ref (g 0 0)), (1, .ref bp), (2, .ref bc), (3, .ref bq), (4, .ref bn), (5, .int x5), (6, .int x6), (7, .int x7), (9, .int x9), (12, .int x12), (13, .int x13)] dL_arePeople_147 (by decide) rfl ?_
        refine g_iinc X [(13, .int (x13 + 1)), (11, .int q80), (10, .int q77), (0, .ref (g 0 0)), (1, .ref bp), (2, .ref bc), (3, .ref bq), (4, .ref bn), (5, .int x5), (6, .int x6), (7, .int x7), (9, .int x9), (12, .int x12)] 12 dL_arePeople_149 rfl rfl (by decide) rfl ?_
        refine g_goto X 64 dL_arePeople_152 (by decide) ?_
        refine g_sub [(0, .ref (g 0 0)), (1, .ref bp), (2, .ref bc), (3, .ref bq), (4, .ref bn), (5, .int x5), (6, .int x6), (7, .int x7), (9, .int x9), (10, .int q77), (11, .int q80), (12, .int x12), (13, .int (x13 + 1))] [3, 4, 5, 6, 7, 8, 9, 10, 11, 2, 1, 12, 0] rfl ?_
        exact ih _ _ _ _ _ _ _ _ _ hw
      · replace hw := hw.2 c79
        refine g_aload_n X 3 dL_arePeople_105 rfl rfl ?_
        refine g_iconst (v := 2) X rfl dL_arePeople_106 ?_
        refine g_aload_n X 2 dL_arePeople_107 rfl rfl ?_
        refine g_iconst (v := 2) X rfl dL_arePeople_108 ?_
        refine g_iload X 12 dL_arePeople_109 rfl ?_
        refine g_imul X dL_arePeople_111 ?_
        refine g_iconst (v := 1) X rfl dL_arePeople_112 ?_
        refine g_iadd X dL_arePeople_113 ?_
        obtain ⟨h81, hw⟩ := hw
        refine g_iald X 16 0 dL_arePeople_114 rfl rfl h81 ?_
        refine g_imul X dL_arePeople_115 ?_
        obtain ⟨h82, hw⟩ := hw
        refine g_iald X 17 0 dL_arePeople_116 rfl rfl h82 ?_
        refine g_iload X 9 dL_arePeople_117 rfl ?_
        refine g_icmp_eq X 141 dL_arePeople_119 (by decide) (fun c83 => ?_) (fun c83 => ?_)
        · replace hw := hw.1 c83
          refine g_iconst (v := 1) X rfl dL_arePeople_141 ?_
          refine g_goto X 146 dL_arePeople_142 (by decide) ?_
          refine g_iadd X dL_arePeople_146 ?_
          refine g_topi (fun q84 hq84 => ?_)
          replace hw := hw q84 hq84
          refine g_istore X [(11, .int q84), (10, .int q77), (0, .ref (g 0 0)), (1, .ref bp), (2, .ref bc), (3, .ref bq), (4, .ref bn), (5, .int x5), (6, .int x6), (7, .int x7), (9, .int x9), (12, .int x12), (13, .int x13)] dL_arePeople_147 (by decide) rfl ?_
          refine g_iinc X [(13, .int (x13 + 1)), (11, .int q84), (10, .int q77), (0, .ref (g 0 0)), (1, .ref bp), (2, .ref bc), (3, .ref bq), (4, .ref bn), (5, .int x5), (6, .int x6), (7, .int x7), (9, .int x9), (12, .int x12)] 12 dL_arePeople_149 rfl rfl (by decide) rfl ?_
          refine g_goto X 64 dL_arePeople_152 (by decide) ?_
          refine g_sub [(0, .ref (g 0 0)), (1, .ref bp), (2, .ref bc), (3, .ref bq), (4, .ref bn), (5, .int x5), (6, .int x6), (7, .int x7), (9, .int x9), (10, .int q77), (11, .int q84), (12, .int x12), (13, .int (x13 + 1))] [3, 4, 5, 6, 7, 8, 9, 10, 11, 2, 1, 12, 0] rfl ?_
          exact ih _ _ _ _ _ _ _ _ _ hw
        · replace hw := hw.2 c83
          refine g_aload_n X 3 dL_arePeople_122 rfl rfl ?_
          refine g_iconst (v := 2) X rfl dL_arePeople_123 ?_
          refine g_aload_n X 2 dL_arePeople_124 rfl rfl ?_
          refine g_iconst (v := 2) X rfl dL_arePeople_125 ?_
          refine g_iload X 12 dL_arePeople_126 rfl ?_
          refine g_imul X dL_arePeople_128 ?_
          refine g_iconst (v := 1) X rfl dL_arePeople_129 ?_
          refine g_iadd X dL_arePeople_130 ?_
          obtain ⟨h85, hw⟩ := hw
          refine g_iald X 16 0 dL_arePeople_131 rfl rfl h85 ?_
          refine g_imul X dL_arePeople_132 ?_
          refine g_iconst (v := 1) X rfl dL_arePeople_133 ?_
          refine g_iadd X dL_arePeople_134 ?_
          obtain ⟨h86, hw⟩ := hw
          refine g_iald X 17 0 dL_arePeople_135 rfl rfl h86 ?_
          refine g_iload X 9 dL_arePeople_136 rfl ?_
          refine g_icmp_ne X 145 dL_arePeople_138 (by decide) (fun c87 => ?_) (fun c87 => ?_)
          · replace hw := hw.1 c87
            refine g_iconst (v := 0) X rfl dL_arePeople_145 ?_
            refine g_iadd X dL_arePeople_146 ?_
            refine g_topi (fun q88 hq88 => ?_)
            replace hw := hw q88 hq88
            refine g_istore X [(11, .int q88), (10, .int q77), (0, .ref (g 0 0)), (1, .ref bp), (2, .ref bc), (3, .ref bq), (4, .ref bn), (5, .int x5), (6, .int x6), (7, .int x7), (9, .int x9), (12, .int x12), (13, .int x13)] dL_arePeople_147 (by decide) rfl ?_
            refine g_iinc X [(13, .int (x13 + 1)), (11, .int q88), (10, .int q77), (0, .ref (g 0 0)), (1, .ref bp), (2, .ref bc), (3, .ref bq), (4, .ref bn), (5, .int x5), (6, .int x6), (7, .int x7), (9, .int x9), (12, .int x12)] 12 dL_arePeople_149 rfl rfl (by decide) rfl ?_
            refine g_goto X 64 dL_arePeople_152 (by decide) ?_
            refine g_sub [(0, .ref (g 0 0)), (1, .ref bp), (2, .ref bc), (3, .ref bq), (4, .ref bn), (5, .int x5), (6, .int x6), (7, .int x7), (9, .int x9), (10, .int q77), (11, .int q88), (12, .int x12), (13, .int (x13 + 1))] [3, 4, 5, 6, 7, 8, 9, 10, 11, 2, 1, 12, 0] rfl ?_
            exact ih _ _ _ _ _ _ _ _ _ hw
          · replace hw := hw.2 c87
            refine g_iconst (v := 1) X rfl dL_arePeople_141 ?_
            refine g_goto X 146 dL_arePeople_142 (by decide) ?_
            refine g_iadd X dL_arePeople_146 ?_
            refine g_topi (fun q89 hq89 => ?_)
            replace hw := hw q89 hq89
            refine g_istore X [(11, .int q89), (10, .int q77), (0, .ref (g 0 0)), (1, .ref bp), (2, .ref bc), (3, .ref bq), (4, .ref bn), (5, .int x5), (6, .int x6), (7, .int x7), (9, .int x9), (12, .int x12), (13, .int x13)] dL_arePeople_147 (by decide) rfl ?_
            refine g_iinc X [(13, .int (x13 + 1)), (11, .int q89), (10, .int q77), (0, .ref (g 0 0)), (1, .ref bp), (2, .ref bc), (3, .ref bq), (4, .ref bn), (5, .int x5), (6, .int x6), (7, .int x7), (9, .int x9), (12, .int x12)] 12 dL_arePeople_149 rfl rfl (by decide) rfl ?_
            refine g_goto X 64 dL_arePeople_152 (by decide) ?_
            refine g_sub [(0, .ref (g 0 0)), (1, .ref bp), (2, .ref bc), (3, .ref bq), (4, .ref bn), (5, .int x5), (6, .int x6), (7, .int x7), (9, .int x9), (10, .int q77), (11, .int q89), (12, .int x12), (13, .int (x13 + 1))] [3, 4, 5, 6, 7, 8, 9, 10, 11, 2, 1, 12, 0] rfl ?_
            exact ih _ _ _ _ _ _ _ _ _ hw

set_option maxHeartbeats 4000000 in
set_option maxRecDepth 20000 in
theorem kL_arePeople_31 (l : Launch) (D : va_G) (ct : Nat → ClassId) (g : Nat → Nat → Nat) (bp : Nat) (bc : Nat) (bq : Nat) (bn : Nat) (kc : Mem) (v : Mem) (b : Mem) (ap : Mem) (ac : Mem) (aq : Mem) (an : Mem) (post : Int32 → Mem → Prop) {p : Program} {e : Env} {s : State} {m : MethodId} {args : Array Value} {below : List Frame} {meth : Method} {c : Code} {A : Nat → Prop} (X : Cx p s m args meth c cL_arePeople 14 RL wsL_arePeople D (tyz ct) A s.heap (some .boolean))  :
    ∀ (n : Nat) (y : Mem) (x5 : Int32) (x6 : Int32) (x7 : Int32) (x8 : Int32) (x9 : Int32), PL_arePeople_31 kc v b ap ac aq an post n y x5 x6 x7 x8 x9 → GL_arePeople l D ct g bp bc bq bn kc v b ap ac aq an post p e s m args below meth c A (fl [wC ct g kc, wS ct (g 1) v, wV ct g b, wL ct (g 12) y, wI 40 ct bp ap, wI 20 ct bc ac, wI 24 ct bq aq, wI 7 ct bn an]) [(0, .ref (g 0 0)), (1, .ref bp), (2, .ref bc), (3, .ref bq), (4, .ref bn), (5, .int x5), (6, .int x6), (7, .int x7), (8, .int x8), (9, .int x9)] 31 [] := by
  intro n
  induction n with
  | zero =>
    intro y x5 x6 x7 x8 x9 hw
    exact hw.elim
  | succ n ih =>
    intro y x5 x6 x7 x8 x9 hw
    unfold PL_arePeople_31 at hw
    refine g_iload X 9 dL_arePeople_31 rfl ?_
    refine g_aload X 4 dL_arePeople_33 rfl ?_
    refine g_iconst (v := 0) X rfl dL_arePeople_35 ?_
    obtain ⟨h6, hw⟩ := hw
    refine g_iald X 19 0 dL_arePeople_36 rfl rfl h6 ?_
    refine g_icmp_ge X 350 dL_arePeople_37 (by decide) (fun c7 => ?_) (fun c7 => ?_)
    · replace hw := hw.1 c7
      refine g_sub [(0, .ref (g 0 0)), (5, .int x5), (6, .int x6), (7, .int x7), (8, .int x8)] [0, 5, 6, 7, 8] rfl ?_
      exact kL_arePeople_350 l D ct g bp bc bq bn kc v b ap ac aq an post X _ _ _ _ _ hw
    · replace hw := hw.2 c7
      refine g_iload X 8 dL_arePeople_40 rfl ?_
      refine g_if_eq X 350 dL_arePeople_42 (by decide) (fun c26 => ?_) (fun c26 => ?_)
      · replace hw := hw.1 c26
        refine g_sub [(0, .ref (g 0 0)), (5, .int x5), (6, .int x6), (7, .int x7), (8, .int x8)] [0, 5, 6, 7, 8] rfl ?_
        exact kL_arePeople_350 l D ct g bp bc bq bn kc v b ap ac aq an post X _ _ _ _ _ hw
      · replace hw := hw.2 c26
        refine g_iconst (v := 0) X rfl dL_arePeople_45 ?_
        refine g_istore X [(10, .int 0), (0, .ref (g 0 0)), (1, .ref bp), (2, .ref bc), (3, .ref bq), (4, .ref bn), (5, .int x5), (6, .int x6), (7, .int x7), (8, .int x8), (9, .int x9)] dL_arePeople_46 (by decide) rfl ?_
        refine g_iconst (v := 0) X rfl dL_arePeople_48 ?_
        refine g_istore X [(11, .int 0), (10, .int 0), (0, .ref (g 0 0)), (1, .ref bp), (2, .ref bc), (3, .ref bq), (4, .ref bn), (5, .int x5), (6, .int x6), (7, .int x7), (8, .int x8), (9, .int x9)] dL_arePeople_49 (by decide) rfl ?_
        refine g_aload_n X 3 dL_arePeople_51 rfl rfl ?_
        refine g_iconst (v := 2) X rfl dL_arePeople_52 ?_
        refine g_iload X 11 dL_arePeople_53 rfl ?_
        refine g_imul X dL_arePeople_55 ?_
        refine g_iconst (v := 1) X rfl dL_arePeople_56 ?_
        refine g_iadd X dL_arePeople_57 ?_
        obtain ⟨h27, hw⟩ := hw
        refine g_iald X 16 0 dL_arePeople_58 rfl rfl h27 ?_
        refine g_topi (fun q28 hq28 => ?_)
        replace hw := hw q28 hq28
        refine g_istore X [(12, .int q28), (11, .int 0), (10, .int 0), (0, .ref (g 0 0)), (1, .ref bp), (2, .ref bc), (3, .ref bq), (4, .ref bn), (5, .int x5), (6, .int x6), (7, .int x7), (8, .int x8), (9, .int x9)] dL_arePeople_59 (by decide) rfl ?_
        refine g_iconst (v := 0) X rfl dL_arePeople_61 ?_
        refine g_istore X [(13, .int 0), (12, .int q28), (11, .int 0), (10, .int 0), (0, .ref (g 0 0)), (1, .ref bp), (2, .ref bc), (3, .ref bq), (4, .ref bn), (5, .int x5), (6, .int x6), (7, .int x7), (8, .int x8), (9, .int x9)] dL_arePeople_62 (by decide) rfl ?_
        refine g_sub [(0, .ref (g 0 0)), (1, .ref bp), (2, .ref bc), (3, .ref bq), (4, .ref bn), (5, .int x5), (6, .int x6), (7, .int x7), (9, .int x9), (10, .int 0), (11, .int 0), (12, .int q28), (13, .int 0)] [4, 5, 6, 7, 8, 9, 10, 11, 13, 3, 2, 1, 0] rfl ?_
        obtain ⟨n90, hw⟩ := hw
        exact kL_arePeople_64 l D ct g bp bc bq bn kc v b ap ac aq an post _ X ih n90 _ _ _ _ _ _ _ _ _ hw

set_option maxHeartbeats 4000000 in
set_option maxRecDepth 20000 in
theorem kL_arePeople (l : Launch) (D : va_G) (ct : Nat → ClassId) (g : Nat → Nat → Nat) (bp : Nat) (bc : Nat) (bq : Nat) (bn : Nat) (kc : Mem) (v : Mem) (b : Mem) (y : Mem) (ap : Mem) (ac : Mem) (aq : Mem) (an : Mem) (post : Int32 → Mem → Prop) (hw : PL_arePeople kc v b y ap ac aq an post) : Ci (S := Mem) l yL_arePeople wsL_arePeople rmL_arePeople D (tyz ct) [.ref (g 0 0), .ref bp, .ref bc, .ref bq, .ref bn] (fl [wC ct g kc, wS ct (g 1) v, wV ct g b, wL ct (g 12) y, wI 40 ct bp ap, wI 20 ct bc ac, wI 24 ct bq aq, wI 7 ct bn an]) (fun r (u9 : Mem) => post r u9) (fun u9 => fl [wC ct g kc, wS ct (g 1) v, wV ct g b, wL ct (g 12) u9, wI 40 ct bp ap, wI 20 ct bc ac, wI 24 ct bq aq, wI 7 ct bn an]) 0 0 := by
  intro sz
  refine g_of (own := RL) (by decide) rfl rfl (Nat.le_of_ble_eq_true rfl) [(0, .ref (g 0 0)), (1, .ref bp), (2, .ref bc), (3, .ref bq), (4, .ref bn)] rfl (fun p e s m args below meth c hsz X => ?_)
  subst hsz
  unfold PL_arePeople at hw
  refine g_iconst (v := 0) X rfl dL_arePeople_0 ?_
  refine g_istore X [(5, .int 0), (0, .ref (g 0 0)), (1, .ref bp), (2, .ref bc), (3, .ref bq), (4, .ref bn)] dL_arePeople_1 (by decide) rfl ?_
  refine g_iconst (v := 0) X rfl dL_arePeople_3 ?_
  refine g_istore X [(6, .int 0), (5, .int 0), (0, .ref (g 0 0)), (1, .ref bp), (2, .ref bc), (3, .ref bq), (4, .ref bn)] dL_arePeople_4 (by decide) rfl ?_
  refine g_iconst (v := 0) X rfl dL_arePeople_6 ?_
  refine g_istore X [(7, .int 0), (6, .int 0), (5, .int 0), (0, .ref (g 0 0)), (1, .ref bp), (2, .ref bc), (3, .ref bq), (4, .ref bn)] dL_arePeople_7 (by decide) rfl ?_
  refine g_aload_n X 3 dL_arePeople_9 rfl rfl ?_
  refine g_iconst (v := 0) X rfl dL_arePeople_10 ?_
  refine g_ciV X [wC ct g kc, wS ct (g 1) v, wV ct g b, wL ct (g 12) y, wI 40 ct bp ap, wI 20 ct bc ac, wI 24 ct bq aq, wI 7 ct bn an] (fun (u2 : Mem) => [wC ct g kc, wS ct (g 1) v, wV ct g b, wL ct (g 12) u2, wI 40 ct bp ap, wI 20 ct bc ac, wI 24 ct bq aq, wI 7 ct bn an]) (fun (u2 : Mem) => fl [wC ct g kc, wS ct (g 1) v, wV ct g b, wL ct (g 12) u2, wI 40 ct bp ap, wI 20 ct bc ac, wI 24 ct bq aq, wI 7 ct bn an]) 8 [0, 1, 2, 3] [4, 5, 6, 7] 0 (kX7_count_nt l D ct g kc v b y 0 _ hw) (cwV 1 X.1.2.2.2.2 gL_arePeople_X7_count rfl rfl rfl (by decide +kernel) ⟨Nat.le_of_ble_eq_true rfl, Nat.le_of_ble_eq_true rfl⟩) dL_arePeople_11 rfl rfl (Nat.le_of_ble_eq_true rfl) ⟨Nat.le_of_ble_eq_true rfl, Nat.le_of_ble_eq_true rfl⟩ rfl rfl rfl (by decide) (fun _ => rfl) (fun _ => rfl) (fun _ => rfl) (fun _ => rfl) rfl rfl rfl (fun r1 u2 hw => ?_)
  obtain ⟨y3, hy3⟩ : ∃ z : Mem, z = u2 := ⟨_, rfl⟩
  rw [← hy3] at hw
  rw [← hy3]
  refine g_aload X 7 dL_arePeople_14 rfl ?_
  refine g_iconst (v := 0) X rfl dL_arePeople_16 ?_
  obtain ⟨h4, hw⟩ := hw
  refine g_iald X 19 0 dL_arePeople_17 rfl rfl h4 ?_
  refine g_icmp_ne X 25 dL_arePeople_18 (by decide) (fun c5 => ?_) (fun c5 => ?_)
  · replace hw := hw.1 c5
    refine g_iconst (v := 0) X rfl dL_arePeople_25 ?_
    refine g_istore X [(8, .int 0), (7, .int 0), (6, .int 0), (5, .int 0), (0, .ref (g 0 0)), (1, .ref bp), (2, .ref bc), (3, .ref bq), (4, .ref bn)] dL_arePeople_26 (by decide) rfl ?_
    refine g_iconst (v := 0) X rfl dL_arePeople_28 ?_
    refine g_istore X [(9, .int 0), (8, .int 0), (7, .int 0), (6, .int 0), (5, .int 0), (0, .ref (g 0 0)), (1, .ref bp), (2, .ref bc), (3, .ref bq), (4, .ref bn)] dL_arePeople_29 (by decide) rfl ?_
    refine g_sub [(0, .ref (g 0 0)), (1, .ref bp), (2, .ref bc), (3, .ref bq), (4, .ref bn), (5, .int 0), (6, .int 0), (7, .int 0), (8, .int 0), (9, .int 0)] [5, 6, 7, 8, 9, 4, 3, 2, 1, 0] rfl ?_
    obtain ⟨n91, hw⟩ := hw
    exact kL_arePeople_31 l D ct g bp bc bq bn kc v b ap ac aq an post X n91 _ _ _ _ _ _ hw
  · replace hw := hw.2 c5
    refine g_iconst (v := 1) X rfl dL_arePeople_21 ?_
    refine g_goto X 26 dL_arePeople_22 (by decide) ?_
    refine g_istore X [(8, .int 1), (7, .int 0), (6, .int 0), (5, .int 0), (0, .ref (g 0 0)), (1, .ref bp), (2, .ref bc), (3, .ref bq), (4, .ref bn)] dL_arePeople_26 (by decide) rfl ?_
    refine g_iconst (v := 0) X rfl dL_arePeople_28 ?_
    refine g_istore X [(9, .int 0), (8, .int 1), (7, .int 0), (6, .int 0), (5, .int 0), (0, .ref (g 0 0)), (1, .ref bp), (2, .ref bc), (3, .ref bq), (4, .ref bn)] dL_arePeople_29 (by decide) rfl ?_
    refine g_sub [(0, .ref (g 0 0)), (1, .ref bp), (2, .ref bc), (3, .ref bq), (4, .ref bn), (5, .int 0), (6, .int 0), (7, .int 0), (8, .int 1), (9, .int 0)] [5, 6, 7, 8, 9, 4, 3, 2, 1, 0] rfl ?_
    obtain ⟨n92, hw⟩ := hw
    exact kL_arePeople_31 l D ct g bp bc bq bn kc v b ap ac aq an post X n92 _ _ _ _ _ _ hw
