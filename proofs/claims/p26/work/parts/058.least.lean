abbrev rmL_isLeast : Room := { frames := 13, cells := 2, slots := 48, locals := 299 }

abbrev GL_isLeast (l : Launch) (D : va_G) (ct : Nat → ClassId) (g : Nat → Nat → Nat) (bp : Nat) (bc : Nat) (bq : Nat) (bn : Nat) (br : Nat) (kc : Mem) (ap : Mem) (ac : Mem) (aq : Mem) (an : Mem) (post : Int32 → Mem → Mem → Mem → Prop) (p : Program) (e : Env) (s : State) (m : MethodId) (args : Array Value) (below : List Frame) (meth : Method) (c : Code) (A : Nat → Prop) (w9 : va_W) (kq jq : Nat) (lv : List (Nat × Value)) (pc : Nat) (st : List Value) : Prop :=
  GG p l e rmL_isLeast s m args below meth c D A s.heap 18 (MQ below (va_Qi (fun r (u9 : Mem × Mem × Mem) => post r u9.1 u9.2.1 u9.2.2) (fun u9 t9 => Af D (tyz ct) A ((fun u9 => fl [wC ct g kc, wS ct (g 1) u9.1, wL ct (g 12) u9.2.1, wR ct (g 14) u9.2.2, wI 40 ct bp ap, wI 20 ct bc ac, wI 24 ct bq aq, wI 7 ct bn an]) u9) t9) A)  args s 2 48 A) w9 kq jq lv pc st

set_option maxHeartbeats 4000000 in
set_option maxRecDepth 20000 in
theorem kL_isLeast_379 (l : Launch) (D : va_G) (ct : Nat → ClassId) (g : Nat → Nat → Nat) (bp : Nat) (bc : Nat) (bq : Nat) (bn : Nat) (br : Nat) (kc : Mem) (ap : Mem) (ac : Mem) (aq : Mem) (an : Mem) (post : Int32 → Mem → Mem → Mem → Prop) (K252 : Mem → Mem → Mem → Mem → Int32 → Int32 → Int32 → Prop) {p : Program} {e : Env} {s : State} {m : MethodId} {args : Array Value} {below : List Frame} {meth : Method} {c : Code} {A : Nat → Prop} (X : Cx p s m args meth c cL_isLeast 18 RL wsL_isLeast D (tyz ct) A s.heap (some .boolean)) (hK252 : ∀ (v : Mem) (y : Mem) (x : Mem) (ar : Mem) (x11 : Int32) (x12 : Int32) (x13 : Int32), K252 v y x ar x11 x12 x13 → GL_isLeast l D ct g bp bc bq bn br kc ap ac aq an post p e s m args below meth c A (fl [wC ct g kc, wS ct (g 1) v, wL ct (g 12) y, wR ct (g 14) x, wI 40 ct bp ap, wI 20 ct bc ac, wI 24 ct bq aq, wI 7 ct bn an, wI 24 ct br ar]) 2 48 [(0, .ref (g 0 0)), (1, .ref bp), (2, .ref bc), (4, .ref bn), (11, .int x11), (12, .int x12), (13, .int x13)] 252 []) :
    ∀ (v : Mem) (y : Mem) (x : Mem) (ar : Mem) (x11 : Int32) (x12 : Int32) (x13 : Int32) (x15 : Int32), PL_isLeast_379 kc ap ac aq an post K252 v y x ar x11 x12 x13 x15 → GL_isLeast l D ct g bp bc bq bn br kc ap ac aq an post p e s m args below meth c A (fl [wC ct g kc, wS ct (g 1) v, wL ct (g 12) y, wR ct (g 14) x, wI 40 ct bp ap, wI 20 ct bc ac, wI 24 ct bq aq, wI 7 ct bn an, wI 24 ct br ar]) 2 48 [(0, .ref (g 0 0)), (1, .ref bp), (2, .ref bc), (4, .ref bn), (11, .int x11), (12, .int x12), (13, .int x13), (15, .int x15)] 379 [] := by
  intro v y x ar x11 x12 x13 x15 hw
  unfold PL_isLeast_379 at hw
  refine g_iload X 4 dL_isLeast_379 rfl ?_
  refine g_if_eq X 414 dL_isLeast_381 (by decide) (fun c30 => ?_) (fun c30 => ?_)
  · replace hw := hw.1 c30
    refine g_iconst (v := 0) X rfl dL_isLeast_414 ?_
    refine g_istore X [(11, .int 0), (0, .ref (g 0 0)), (1, .ref bp), (2, .ref bc), (4, .ref bn), (12, .int x12), (13, .int x13), (15, .int x15)] dL_isLeast_415 (by decide) rfl ?_
    refine g_iinc X [(13, .int (x13 + 1)), (11, .int 0), (0, .ref (g 0 0)), (1, .ref bp), (2, .ref bc), (4, .ref bn), (12, .int x12), (15, .int x15)] 6 dL_isLeast_417 rfl rfl (by decide) rfl ?_
    refine g_goto X 252 dL_isLeast_420 (by decide) ?_
    refine g_sub [(0, .ref (g 0 0)), (1, .ref bp), (2, .ref bc), (4, .ref bn), (11, .int 0), (12, .int x12), (13, .int (x13 + 1))] [2, 3, 4, 5, 1, 6, 0] rfl ?_
    exact hK252 _ _ _ _ _ _ _ hw
  · replace hw := hw.2 c30
    refine g_aload_n X 0 dL_isLeast_384 rfl rfl ?_
    refine g_iload X 5 dL_isLeast_385 rfl ?_
    refine g_iload X 6 dL_isLeast_387 rfl ?_
    refine g_ciV X [wC ct g kc, wS ct (g 1) v, wL ct (g 12) y, wR ct (g 14) x, wI 40 ct bp ap, wI 20 ct bc ac, wI 24 ct bq aq, wI 7 ct bn an, wI 24 ct br ar] (fun (_ : Unit) => [wC ct g kc, wS ct (g 1) v, wL ct (g 12) y, wR ct (g 14) x, wI 40 ct bp ap, wI 20 ct bc ac, wI 24 ct bq aq, wI 7 ct bn an, wI 24 ct br ar]) (fun _ => fl [wC ct g kc, wS ct (g 1) v, wL ct (g 12) y, wR ct (g 14) x, wI 40 ct bp ap, wI 20 ct bc ac, wI 24 ct bq aq, wI 7 ct bn an, wI 24 ct br ar]) 9 [0, 1] [2, 3, 4, 5, 6, 7, 8] 0 (kX7_nearness_nt l D ct g kc v x12 x13 _ hw) (cwV 2 X.1.2.2.2.2 gL_isLeast_X7_nearness rfl rfl rfl (by decide +kernel) ⟨Nat.le_of_ble_eq_true rfl, Nat.le_of_ble_eq_true rfl⟩) dL_isLeast_389 rfl rfl (Nat.le_of_ble_eq_true rfl) ⟨Nat.le_of_ble_eq_true rfl, Nat.le_of_ble_eq_true rfl⟩ rfl rfl rfl (by decide) (fun _ => rfl) (fun _ => rfl) (fun _ => rfl) (fun _ => rfl) rfl rfl rfl (fun r31 _ hw => ?_)
    refine g_iload X 7 dL_isLeast_392 rfl ?_
    refine g_icmp_ne X 414 dL_isLeast_394 (by decide) (fun c33 => ?_) (fun c33 => ?_)
    · replace hw := hw.1 c33
      refine g_iconst (v := 0) X rfl dL_isLeast_414 ?_
      refine g_istore X [(11, .int 0), (0, .ref (g 0 0)), (1, .ref bp), (2, .ref bc), (4, .ref bn), (12, .int x12), (13, .int x13), (15, .int x15)] dL_isLeast_415 (by decide) rfl ?_
      refine g_iinc X [(13, .int (x13 + 1)), (11, .int 0), (0, .ref (g 0 0)), (1, .ref bp), (2, .ref bc), (4, .ref bn), (12, .int x12), (15, .int x15)] 6 dL_isLeast_417 rfl rfl (by decide) rfl ?_
      refine g_goto X 252 dL_isLeast_420 (by decide) ?_
      refine g_sub [(0, .ref (g 0 0)), (1, .ref bp), (2, .ref bc), (4, .ref bn), (11, .int 0), (12, .int x12), (13, .int (x13 + 1))] [2, 3, 4, 5, 1, 6, 0] rfl ?_
      exact hK252 _ _ _ _ _ _ _ hw
    · replace hw := hw.2 c33
      refine g_aload_n X 0 dL_isLeast_397 rfl rfl ?_
      refine g_iload X 6 dL_isLeast_398 rfl ?_
      refine g_iload X 5 dL_isLeast_400 rfl ?_
      refine g_ciV X [wC ct g kc, wS ct (g 1) v, wL ct (g 12) y, wR ct (g 14) x, wI 40 ct bp ap, wI 20 ct bc ac, wI 24 ct bq aq, wI 7 ct bn an, wI 24 ct br ar] (fun (_ : Unit) => [wC ct g kc, wS ct (g 1) v, wL ct (g 12) y, wR ct (g 14) x, wI 40 ct bp ap, wI 20 ct bc ac, wI 24 ct bq aq, wI 7 ct bn an, wI 24 ct br ar]) (fun _ => fl [wC ct g kc, wS ct (g 1) v, wL ct (g 12) y, wR ct (g 14) x, wI 40 ct bp ap, wI 20 ct bc ac, wI 24 ct bq aq, wI 7 ct bn an, wI 24 ct br ar]) 9 [0, 1] [2, 3, 4, 5, 6, 7, 8] 0 (kX7_nearness_nt l D ct g kc v x13 x12 _ hw) (cwV 2 X.1.2.2.2.2 gL_isLeast_X7_nearness rfl rfl rfl (by decide +kernel) ⟨Nat.le_of_ble_eq_true rfl, Nat.le_of_ble_eq_true rfl⟩) dL_isLeast_402 rfl rfl (Nat.le_of_ble_eq_true rfl) ⟨Nat.le_of_ble_eq_true rfl, Nat.le_of_ble_eq_true rfl⟩ rfl rfl rfl (by decide) (fun _ => rfl) (fun _ => rfl) (fun _ => rfl) (fun _ => rfl) rfl rfl rfl (fun r34 _ hw => ?_)
      refine g_iload X 7 dL_isLeast_405 rfl ?_
      refine g_icmp_ne X 414 dL_isLeast_407 (by decide) (fun c36 => ?_) (fun c36 => ?_)
      · replace hw := hw.1 c36
        refine g_iconst (v := 0) X rfl dL_isLeast_414 ?_
        refine g_istore X [(11, .int 0), (0, .ref (g 0 0)), (1, .ref bp), (2, .ref bc), (4, .ref bn), (12, .int x12), (13, .int x13), (15, .int x15)] dL_isLeast_415 (by decide) rfl ?_
        refine g_iinc X [(13, .int (x13 + 1)), (11, .int 0), (0, .ref (g 0 0)), (1, .ref bp), (2, .ref bc), (4, .ref bn), (12, .int x12), (15, .int x15)] 6 dL_isLeast_417 rfl rfl (by decide) rfl ?_
        refine g_goto X 252 dL_isLeast_420 (by decide) ?_
        refine g_sub [(0, .ref (g 0 0)), (1, .ref bp), (2, .ref bc), (4, .ref bn), (11, .int 0), (12, .int x12), (13, .int (x13 + 1))] [2, 3, 4, 5, 1, 6, 0] rfl ?_
        exact hK252 _ _ _ _ _ _ _ hw
      · replace hw := hw.2 c36
        refine g_iconst (v := 1) X rfl dL_isLeast_410 ?_
        refine g_goto X 415 dL_isLeast_411 (by decide) ?_
        refine g_istore X [(11, .int 1), (0, .ref (g 0 0)), (1, .ref bp), (2, .ref bc), (4, .ref bn), (12, .int x12), (13, .int x13), (15, .int x15)] dL_isLeast_415 (by decide) rfl ?_
        refine g_iinc X [(13, .int (x13 + 1)), (11, .int 1), (0, .ref (g 0 0)), (1, .ref bp), (2, .ref bc), (4, .ref bn), (12, .int x12), (15, .int x15)] 6 dL_isLeast_417 rfl rfl (by decide) rfl ?_
        refine g_goto X 252 dL_isLeast_420 (by decide) ?_
        refine g_sub [(0, .ref (g 0 0)), (1, .ref bp), (2, .ref bc), (4, .ref bn), (11, .int 1), (12, .int x12), (13, .int (x13 + 1))] [2, 3, 4, 5, 1, 6, 0] rfl ?_
        exact hK252 _ _ _ _ _ _ _ hw

set_option maxHeartbeats 4000000 in
set_option maxRecDepth 20000 in
theorem kL_isLeast_311 (l : Launch) (D : va_G) (ct : Nat → ClassId) (g : Nat → Nat → Nat) (bp : Nat) (bc : Nat) (bq : Nat) (bn : Nat) (br : Nat) (kc : Mem) (ap : Mem) (ac : Mem) (aq : Mem) (an : Mem) (post : Int32 → Mem → Mem → Mem → Prop) (K252 : Mem → Mem → Mem → Mem → Int32 → Int32 → Int32 → Prop) (K298 : Mem → Mem → Mem → Mem → Int32 → Int32 → Int32 → Int32 → Int32 → Int32 → Prop) {p : Program} {e : Env} {s : State} {m : MethodId} {args : Array Value} {below : List Frame} {meth : Method} {c : Code} {A : Nat → Prop} (X : Cx p s m args meth c cL_isLeast 18 RL wsL_isLeast D (tyz ct) A s.heap (some .boolean)) (hK252 : ∀ (v : Mem) (y : Mem) (x : Mem) (ar : Mem) (x11 : Int32) (x12 : Int32) (x13 : Int32), K252 v y x ar x11 x12 x13 → GL_isLeast l D ct g bp bc bq bn br kc ap ac aq an post p e s m args below meth c A (fl [wC ct g kc, wS ct (g 1) v, wL ct (g 12) y, wR ct (g 14) x, wI 40 ct bp ap, wI 20 ct bc ac, wI 24 ct bq aq, wI 7 ct bn an, wI 24 ct br ar]) 2 48 [(0, .ref (g 0 0)), (1, .ref bp), (2, .ref bc), (4, .ref bn), (11, .int x11), (12, .int x12), (13, .int x13)] 252 []) (hK298 : ∀ (v : Mem) (y : Mem) (x : Mem) (ar : Mem) (x11 : Int32) (x12 : Int32) (x13 : Int32) (x14 : Int32) (x15 : Int32) (x16 : Int32), K298 v y x ar x11 x12 x13 x14 x15 x16 → GL_isLeast l D ct g bp bc bq bn br kc ap ac aq an post p e s m args below meth c A (fl [wC ct g kc, wS ct (g 1) v, wL ct (g 12) y, wR ct (g 14) x, wI 40 ct bp ap, wI 20 ct bc ac, wI 24 ct bq aq, wI 7 ct bn an, wI 24 ct br ar]) 2 48 [(0, .ref (g 0 0)), (1, .ref bp), (2, .ref bc), (4, .ref bn), (11, .int x11), (12, .int x12), (13, .int x13), (14, .int x14), (15, .int x15), (16, .int x16)] 298 []) :
    ∀ (n : Nat) (v : Mem) (y : Mem) (x : Mem) (ar : Mem) (x11 : Int32) (x12 : Int32) (x13 : Int32) (x14 : Int32) (x15 : Int32) (x16 : Int32) (x17 : Int32), PL_isLeast_311 kc ap ac aq an post K252 K298 n v y x ar x11 x12 x13 x14 x15 x16 x17 → GL_isLeast l D ct g bp bc bq bn br kc ap ac aq an post p e s m args below meth c A (fl [wC ct g kc, wS ct (g 1) v, wL ct (g 12) y, wR ct (g 14) x, wI 40 ct bp ap, wI 20 ct bc ac, wI 24 ct bq aq, wI 7 ct bn an, wI 24 ct br ar]) 2 48 [(0, .ref (g 0 0)), (1, .ref bp), (2, .ref bc), (4, .ref bn), (11, .int x11), (12, .int x12), (13, .int x13), (14, .int x14), (15, .int x15), (16, .int x16), (17, .int x17)] 311 [] := by
  intro n
  induction n with
  | zero =>
    intro v y x ar x11 x12 x13 x14 x15 x16 x17 hw
    exact hw.elim
  | succ n ih =>
    intro v y x ar x11 x12 x13 x14 x15 x16 x17 hw
    unfold PL_isLeast_311 at hw
    refine g_iload X 10 dL_isLeast_311 rfl ?_
    refine g_aload X 3 dL_isLeast_313 rfl ?_
    refine g_iconst (v := 0) X rfl dL_isLeast_315 ?_
    obtain ⟨h38, hw⟩ := hw
    refine g_iald X 34 0 dL_isLeast_316 rfl rfl h38 ?_
    refine g_icmp_ge X 373 dL_isLeast_317 (by decide) (fun c39 => ?_) (fun c39 => ?_)
    · replace hw := hw.1 c39
      refine g_iinc X [(16, .int (x16 + (-1))), (0, .ref (g 0 0)), (1, .ref bp), (2, .ref bc), (4, .ref bn), (11, .int x11), (12, .int x12), (13, .int x13), (14, .int x14), (15, .int x15), (17, .int x17)] 9 dL_isLeast_373 rfl rfl (by decide) rfl ?_
      refine g_goto X 298 dL_isLeast_376 (by decide) ?_
      refine g_sub [(0, .ref (g 0 0)), (1, .ref bp), (2, .ref bc), (4, .ref bn), (11, .int x11), (12, .int x12), (13, .int x13), (14, .int x14), (15, .int x15), (16, .int (x16 + (-1)))] [1, 2, 3, 4, 5, 6, 7, 8, 9, 0] rfl ?_
      exact hK298 _ _ _ _ _ _ _ _ _ _ hw
    · replace hw := hw.2 c39
      refine g_aload_n X 1 dL_isLeast_320 rfl rfl ?_
      refine g_iconst (v := 2) X rfl dL_isLeast_321 ?_
      refine g_iload X 10 dL_isLeast_322 rfl ?_
      refine g_imul X dL_isLeast_324 ?_
      obtain ⟨h40, hw⟩ := hw
      refine g_iald X 31 0 dL_isLeast_325 rfl rfl h40 ?_
      refine g_iload X 9 dL_isLeast_326 rfl ?_
      refine g_icmp_ne X 363 dL_isLeast_328 (by decide) (fun c41 => ?_) (fun c41 => ?_)
      · replace hw := hw.1 c41
        refine g_iload X 8 dL_isLeast_363 rfl ?_
        refine g_istore X [(15, .int x15), (0, .ref (g 0 0)), (1, .ref bp), (2, .ref bc), (4, .ref bn), (11, .int x11), (12, .int x12), (13, .int x13), (14, .int x14), (16, .int x16), (17, .int x17)] dL_isLeast_365 (by decide) rfl ?_
        refine g_iinc X [(17, .int (x17 + 1)), (15, .int x15), (0, .ref (g 0 0)), (1, .ref bp), (2, .ref bc), (4, .ref bn), (11, .int x11), (12, .int x12), (13, .int x13), (14, .int x14), (16, .int x16)] 10 dL_isLeast_367 rfl rfl (by decide) rfl ?_
        refine g_goto X 311 dL_isLeast_370 (by decide) ?_
        refine g_sub [(0, .ref (g 0 0)), (1, .ref bp), (2, .ref bc), (4, .ref bn), (11, .int x11), (12, .int x12), (13, .int x13), (14, .int x14), (15, .int x15), (16, .int x16), (17, .int (x17 + 1))] [2, 3, 4, 5, 6, 7, 8, 9, 1, 10, 0] rfl ?_
        exact ih _ _ _ _ _ _ _ _ _ _ _ hw
      · replace hw := hw.2 c41
        refine g_iload X 7 dL_isLeast_331 rfl ?_
        refine g_iload X 10 dL_isLeast_333 rfl ?_
        refine g_ishr X dL_isLeast_335 ?_
        refine g_iconst (v := 1) X rfl dL_isLeast_336 ?_
        refine g_iand X dL_isLeast_337 ?_
        refine g_iconst (v := 1) X rfl dL_isLeast_338 ?_
        refine g_icmp_ne X 363 dL_isLeast_339 (by decide) (fun c42 => ?_) (fun c42 => ?_)
        · replace hw := hw.1 c42
          refine g_iload X 8 dL_isLeast_363 rfl ?_
          refine g_istore X [(15, .int x15), (0, .ref (g 0 0)), (1, .ref bp), (2, .ref bc), (4, .ref bn), (11, .int x11), (12, .int x12), (13, .int x13), (14, .int x14), (16, .int x16), (17, .int x17)] dL_isLeast_365 (by decide) rfl ?_
          refine g_iinc X [(17, .int (x17 + 1)), (15, .int x15), (0, .ref (g 0 0)), (1, .ref bp), (2, .ref bc), (4, .ref bn), (11, .int x11), (12, .int x12), (13, .int x13), (14, .int x14), (16, .int x16)] 10 dL_isLeast_367 rfl rfl (by decide) rfl ?_
          refine g_goto X 311 dL_isLeast_370 (by decide) ?_
          refine g_sub [(0, .ref (g 0 0)), (1, .ref bp), (2, .ref bc), (4, .ref bn), (11, .int x11), (12, .int x12), (13, .int x13), (14, .int x14), (15, .int x15), (16, .int x16), (17, .int (x17 + 1))] [2, 3, 4, 5, 6, 7, 8, 9, 1, 10, 0] rfl ?_
          exact ih _ _ _ _ _ _ _ _ _ _ _ hw
        · replace hw := hw.2 c42
          refine g_aload_n X 1 dL_isLeast_342 rfl rfl ?_
          refine g_iconst (v := 2) X rfl dL_isLeast_343 ?_
          refine g_iload X 5 dL_isLeast_344 rfl ?_
          refine g_imul X dL_isLeast_346 ?_
          obtain ⟨h43, hw⟩ := hw
          refine g_iald X 31 0 dL_isLeast_347 rfl rfl h43 ?_
          refine g_aload_n X 1 dL_isLeast_348 rfl rfl ?_
          refine g_iconst (v := 2) X rfl dL_isLeast_349 ?_
          refine g_iload X 6 dL_isLeast_350 rfl ?_
          refine g_imul X dL_isLeast_352 ?_
          obtain ⟨h44, hw⟩ := hw
          refine g_iald X 31 0 dL_isLeast_353 rfl rfl h44 ?_
          refine g_iadd X dL_isLeast_354 ?_
          refine g_iconst (v := 2) X rfl dL_isLeast_355 ?_
          refine g_iload X 9 dL_isLeast_356 rfl ?_
          refine g_imul X dL_isLeast_358 ?_
          refine g_isub X dL_isLeast_359 ?_
          refine g_goto X 365 dL_isLeast_360 (by decide) ?_
          refine g_topi (fun q45 hq45 => ?_)
          replace hw := hw q45 hq45
          refine g_istore X [(15, .int q45), (0, .ref (g 0 0)), (1, .ref bp), (2, .ref bc), (4, .ref bn), (11, .int x11), (12, .int x12), (13, .int x13), (14, .int x14), (16, .int x16), (17, .int x17)] dL_isLeast_365 (by decide) rfl ?_
          refine g_iinc X [(17, .int (x17 + 1)), (15, .int q45), (0, .ref (g 0 0)), (1, .ref bp), (2, .ref bc), (4, .ref bn), (11, .int x11), (12, .int x12), (13, .int x13), (14, .int x14), (16, .int x16)] 10 dL_isLeast_367 rfl rfl (by decide) rfl ?_
          refine g_goto X 311 dL_isLeast_370 (by decide) ?_
          refine g_sub [(0, .ref (g 0 0)), (1, .ref bp), (2, .ref bc), (4, .ref bn), (11, .int x11), (12, .int x12), (13, .int x13), (14, .int x14), (15, .int q45), (16, .int x16), (17, .int (x17 + 1))] [2, 3, 4, 5, 6, 7, 8, 9, 1, 10, 0] rfl ?_
          exact ih _ _ _ _ _ _ _ _ _ _ _ hw

set_option maxHeartbeats 4000000 in
set_option maxRecDepth 20000 in
theorem kL_isLeast_298 (l : Launch) (D : va_G) (ct : Nat → ClassId) (g : Nat → Nat → Nat) (bp : Nat) (bc : Nat) (bq : Nat) (bn : Nat) (br : Nat) (kc : Mem) (ap : Mem) (ac : Mem) (aq : Mem) (an : Mem) (post : Int32 → Mem → Mem → Mem → Prop) (K252 : Mem → Mem → Mem → Mem → Int32 → Int32 → Int32 → Prop) {p : Program} {e : Env} {s : State} {m : MethodId} {args : Array Value} {below : List Frame} {meth : Method} {c : Code} {A : Nat → Prop} (X : Cx p s m args meth c cL_isLeast 18 RL wsL_isLeast D (tyz ct) A s.heap (some .boolean)) (hK252 : ∀ (v : Mem) (y : Mem) (x : Mem) (ar : Mem) (x11 : Int32) (x12 : Int32) (x13 : Int32), K252 v y x ar x11 x12 x13 → GL_isLeast l D ct g bp bc bq bn br kc ap ac aq an post p e s m args below meth c A (fl [wC ct g kc, wS ct (g 1) v, wL ct (g 12) y, wR ct (g 14) x, wI 40 ct bp ap, wI 20 ct bc ac, wI 24 ct bq aq, wI 7 ct bn an, wI 24 ct br ar]) 2 48 [(0, .ref (g 0 0)), (1, .ref bp), (2, .ref bc), (4, .ref bn), (11, .int x11), (12, .int x12), (13, .int x13)] 252 []) :
    ∀ (n : Nat) (v : Mem) (y : Mem) (x : Mem) (ar : Mem) (x11 : Int32) (x12 : Int32) (x13 : Int32) (x14 : Int32) (x15 : Int32) (x16 : Int32), PL_isLeast_298 kc ap ac aq an post K252 n v y x ar x11 x12 x13 x14 x15 x16 → GL_isLeast l D ct g bp bc bq bn br kc ap ac aq an post p e s m args below meth c A (fl [wC ct g kc, wS ct (g 1) v, wL ct (g 12) y, wR ct (g 14) x, wI 40 ct bp ap, wI 20 ct bc ac, wI 24 ct bq aq, wI 7 ct bn an, wI 24 ct br ar]) 2 48 [(0, .ref (g 0 0)), (1, .ref bp), (2, .ref bc), (4, .ref bn), (11, .int x11), (12, .int x12), (13, .int x13), (14, .int x14), (15, .int x15), (16, .int x16)] 298 [] := by
  intro n
  induction n with
  | zero =>
    intro v y x ar x11 x12 x13 x14 x15 x16 hw
    exact hw.elim
  | succ n ih =>
    intro v y x ar x11 x12 x13 x14 x15 x16 hw
    unfold PL_isLeast_298 at hw
    refine g_iload X 9 dL_isLeast_298 rfl ?_
    refine g_if_lt X 379 dL_isLeast_300 (by decide) (fun c29 => ?_) (fun c29 => ?_)
    · replace hw := hw.1 c29
      refine g_sub [(0, .ref (g 0 0)), (1, .ref bp), (2, .ref bc), (4, .ref bn), (11, .int x11), (12, .int x12), (13, .int x13), (15, .int x15)] [0, 1, 2, 3, 4, 5, 6, 8] rfl ?_
      exact kL_isLeast_379 l D ct g bp bc bq bn br kc ap ac aq an post _ X hK252 _ _ _ _ _ _ _ _ hw
    · replace hw := hw.2 c29
      refine g_iload X 8 dL_isLeast_303 rfl ?_
      refine g_if_ge X 379 dL_isLeast_305 (by decide) (fun c37 => ?_) (fun c37 => ?_)
      · replace hw := hw.1 c37
        refine g_sub [(0, .ref (g 0 0)), (1, .ref bp), (2, .ref bc), (4, .ref bn), (11, .int x11), (12, .int x12), (13, .int x13), (15, .int x15)] [0, 1, 2, 3, 4, 5, 6, 8] rfl ?_
        exact kL_isLeast_379 l D ct g bp bc bq bn br kc ap ac aq an post _ X hK252 _ _ _ _ _ _ _ _ hw
      · replace hw := hw.2 c37
        refine g_iconst (v := 0) X rfl dL_isLeast_308 ?_
        refine g_istore X [(17, .int 0), (0, .ref (g 0 0)), (1, .ref bp), (2, .ref bc), (4, .ref bn), (11, .int x11), (12, .int x12), (13, .int x13), (14, .int x14), (15, .int x15), (16, .int x16)] dL_isLeast_309 (by decide) rfl ?_
        refine g_sub [(0, .ref (g 0 0)), (1, .ref bp), (2, .ref bc), (4, .ref bn), (11, .int x11), (12, .int x12), (13, .int x13), (14, .int x14), (15, .int x15), (16, .int x16), (17, .int 0)] [1, 2, 3, 4, 5, 6, 7, 8, 9, 10, 0] rfl ?_
        obtain ⟨n46, hw⟩ := hw
        exact kL_isLeast_311 l D ct g bp bc bq bn br kc ap ac aq an post _ _ X hK252 ih n46 _ _ _ _ _ _ _ _ _ _ _ hw

set_option maxHeartbeats 4000000 in
set_option maxRecDepth 20000 in
theorem kL_isLeast_252 (l : Launch) (D : va_G) (ct : Nat → ClassId) (g : Nat → Nat → Nat) (bp : Nat) (bc : Nat) (bq : Nat) (bn : Nat) (br : Nat) (kc : Mem) (ap : Mem) (ac : Mem) (aq : Mem) (an : Mem) (post : Int32 → Mem → Mem → Mem → Prop) {p : Program} {e : Env} {s : State} {m : MethodId} {args : Array Value} {below : List Frame} {meth : Method} {c : Code} {A : Nat → Prop} (X : Cx p s m args meth c cL_isLeast 18 RL wsL_isLeast D (tyz ct) A s.heap (some .boolean))  :
    ∀ (n : Nat) (v : Mem) (y : Mem) (x : Mem) (ar : Mem) (x11 : Int32) (x12 : Int32) (x13 : Int32), PL_isLeast_252 kc ap ac aq an post n v y x ar x11 x12 x13 → GL_isLeast l D ct g bp bc bq bn br kc ap ac aq an post p e s m args below meth c A (fl [wC ct g kc, wS ct (g 1) v, wL ct (g 12) y, wR ct (g 14) x, wI 40 ct bp ap, wI 20 ct bc ac, wI 24 ct bq aq, wI 7 ct bn an, wI 24 ct br ar]) 2 48 [(0, .ref (g 0 0)), (1, .ref bp), (2, .ref bc), (4, .ref bn), (11, .int x11), (12, .int x12), (13, .int x13)] 252 [] := by
  intro n
  induction n with
  | zero =>
    intro v y x ar x11 x12 x13 hw
    exact hw.elim
  | succ n ih =>
    intro v y x ar x11 x12 x13 hw
    unfold PL_isLeast_252 at hw
    refine g_iload X 6 dL_isLeast_252 rfl ?_
    refine g_aload X 3 dL_isLeast_254 rfl ?_
    refine g_iconst (v := 0) X rfl dL_isLeast_256 ?_
    obtain ⟨h21, hw⟩ := hw
    refine g_iald X 34 0 dL_isLeast_257 rfl rfl h21 ?_
    refine g_icmp_ge X 423 dL_isLeast_258 (by decide) (fun c22 => ?_) (fun c22 => ?_)
    · replace hw := hw.1 c22
      refine g_iload X 4 dL_isLeast_423 rfl ?_
      refine g_drop (w2 := fl [wC ct g kc, wS ct (g 1) v, wL ct (g 12) y, wR ct (g 14) x, wI 40 ct bp ap, wI 20 ct bc ac, wI 24 ct bq aq, wI 7 ct bn an]) (wI 24 ct br ar) (fl_app [wC ct g kc, wS ct (g 1) v, wL ct (g 12) y, wR ct (g 14) x, wI 40 ct bp ap, wI 20 ct bc ac, wI 24 ct bq aq, wI 7 ct bn an] [wI 24 ct br ar]) ?_
      obtain ⟨h23, hw⟩ := hw
      exact g_zret X (v, y, x) h23 hw rfl (Nat.le_of_ble_eq_true rfl) (Nat.le_of_ble_eq_true rfl) dL_isLeast_425
    · replace hw := hw.2 c22
      refine g_aload_n X 1 dL_isLeast_261 rfl rfl ?_
      refine g_aload_n X 2 dL_isLeast_262 rfl rfl ?_
      refine g_aload X 3 dL_isLeast_263 rfl ?_
      refine g_iload X 5 dL_isLeast_265 rfl ?_
      refine g_ciS X [wC ct g kc, wS ct (g 1) v, wL ct (g 12) y, wR ct (g 14) x, wI 40 ct bp ap, wI 20 ct bc ac, wI 24 ct bq aq, wI 7 ct bn an, wI 24 ct br ar] (fun (_ : Unit) => [wC ct g kc, wS ct (g 1) v, wL ct (g 12) y, wR ct (g 14) x, wI 40 ct bp ap, wI 20 ct bc ac, wI 24 ct bq aq, wI 7 ct bn an, wI 24 ct br ar]) (fun _ => fl [wC ct g kc, wS ct (g 1) v, wL ct (g 12) y, wR ct (g 14) x, wI 40 ct bp ap, wI 20 ct bc ac, wI 24 ct bq aq, wI 7 ct bn an, wI 24 ct br ar]) 9 [4, 5, 7] [0, 1, 2, 3, 6, 8] (kL_ancestors l D ct bp bc bn ap ac an x12 _ hw) (va_cwS 4 X.1.2.2.2.2 gL_isLeast_L_ancestors rfl rfl rfl (by decide +kernel) ⟨Nat.le_of_ble_eq_true rfl, Nat.le_of_ble_eq_true rfl⟩) dL_isLeast_267 rfl rfl (Nat.le_of_ble_eq_true rfl) ⟨Nat.le_of_ble_eq_true rfl, Nat.le_of_ble_eq_true rfl⟩ rfl rfl rfl (by decide) (fun _ => rfl) (fun _ => rfl) (fun _ => rfl) (fun _ => rfl) (fun r24 _ hw => ?_)
      refine g_iconst (v := 1) X rfl dL_isLeast_270 ?_
      refine g_iload X 5 dL_isLeast_271 rfl ?_
      refine g_ishl X dL_isLeast_273 ?_
      refine g_ior X dL_isLeast_274 ?_
      refine g_aload_n X 1 dL_isLeast_275 rfl rfl ?_
      refine g_aload_n X 2 dL_isLeast_276 rfl rfl ?_
      refine g_aload X 3 dL_isLeast_277 rfl ?_
      refine g_iload X 6 dL_isLeast_279 rfl ?_
      refine g_ciS X [wC ct g kc, wS ct (g 1) v, wL ct (g 12) y, wR ct (g 14) x, wI 40 ct bp ap, wI 20 ct bc ac, wI 24 ct bq aq, wI 7 ct bn an, wI 24 ct br ar] (fun (_ : Unit) => [wC ct g kc, wS ct (g 1) v, wL ct (g 12) y, wR ct (g 14) x, wI 40 ct bp ap, wI 20 ct bc ac, wI 24 ct bq aq, wI 7 ct bn an, wI 24 ct br ar]) (fun _ => fl [wC ct g kc, wS ct (g 1) v, wL ct (g 12) y, wR ct (g 14) x, wI 40 ct bp ap, wI 20 ct bc ac, wI 24 ct bq aq, wI 7 ct bn an, wI 24 ct br ar]) 9 [4, 5, 7] [0, 1, 2, 3, 6, 8] (kL_ancestors l D ct bp bc bn ap ac an x13 _ hw) (va_cwS 4 X.1.2.2.2.2 gL_isLeast_L_ancestors rfl rfl rfl (by decide +kernel) ⟨Nat.le_of_ble_eq_true rfl, Nat.le_of_ble_eq_true rfl⟩) dL_isLeast_281 rfl rfl (Nat.le_of_ble_eq_true rfl) ⟨Nat.le_of_ble_eq_true rfl, Nat.le_of_ble_eq_true rfl⟩ rfl rfl rfl (by decide) (fun _ => rfl) (fun _ => rfl) (fun _ => rfl) (fun _ => rfl) (fun r26 _ hw => ?_)
      refine g_iconst (v := 1) X rfl dL_isLeast_284 ?_
      refine g_iload X 6 dL_isLeast_285 rfl ?_
      refine g_ishl X dL_isLeast_287 ?_
      refine g_ior X dL_isLeast_288 ?_
      refine g_iand X dL_isLeast_289 ?_
      refine g_topi (fun q28 hq28 => ?_)
      replace hw := hw q28 hq28
      refine g_istore X [(14, .int q28), (0, .ref (g 0 0)), (1, .ref bp), (2, .ref bc), (4, .ref bn), (11, .int x11), (12, .int x12), (13, .int x13)] dL_isLeast_290 (by decide) rfl ?_
      refine g_iconst (v := (-1)) X rfl dL_isLeast_292 ?_
      refine g_istore X [(15, .int ((-1))), (14, .int q28), (0, .ref (g 0 0)), (1, .ref bp), (2, .ref bc), (4, .ref bn), (11, .int x11), (12, .int x12), (13, .int x13)] dL_isLeast_293 (by decide) rfl ?_
      refine g_iconst (v := 3) X rfl dL_isLeast_295 ?_
      refine g_istore X [(16, .int 3), (15, .int ((-1))), (14, .int q28), (0, .ref (g 0 0)), (1, .ref bp), (2, .ref bc), (4, .ref bn), (11, .int x11), (12, .int x12), (13, .int x13)] dL_isLeast_296 (by decide) rfl ?_
      refine g_sub [(0, .ref (g 0 0)), (1, .ref bp), (2, .ref bc), (4, .ref bn), (11, .int x11), (12, .int x12), (13, .int x13), (14, .int q28), (15, .int ((-1))), (16, .int 3)] [3, 4, 5, 6, 7, 8, 9, 2, 1, 0] rfl ?_
      obtain ⟨n47, hw⟩ := hw
      exact kL_isLeast_298 l D ct g bp bc bq bn br kc ap ac aq an post _ X ih n47 _ _ _ _ _ _ _ _ _ _ hw

set_option maxHeartbeats 4000000 in
set_option maxRecDepth 20000 in
theorem kL_isLeast_236 (l : Launch) (D : va_G) (ct : Nat → ClassId) (g : Nat → Nat → Nat) (bp : Nat) (bc : Nat) (bq : Nat) (bn : Nat) (br : Nat) (kc : Mem) (ap : Mem) (ac : Mem) (aq : Mem) (an : Mem) (post : Int32 → Mem → Mem → Mem → Prop) {p : Program} {e : Env} {s : State} {m : MethodId} {args : Array Value} {below : List Frame} {meth : Method} {c : Code} {A : Nat → Prop} (X : Cx p s m args meth c cL_isLeast 18 RL wsL_isLeast D (tyz ct) A s.heap (some .boolean))  :
    ∀ (v : Mem) (y : Mem) (x : Mem) (ar : Mem) (x6 : Int32) (z0 : Int32), PL_isLeast_236 kc ap ac aq an post v y x ar x6 z0 → GL_isLeast l D ct g bp bc bq bn br kc ap ac aq an post p e s m args below meth c A (fl [wC ct g kc, wS ct (g 1) v, wL ct (g 12) y, wR ct (g 14) x, wI 40 ct bp ap, wI 20 ct bc ac, wI 24 ct bq aq, wI 7 ct bn an, wI 24 ct br ar]) 2 48 [(0, .ref (g 0 0)), (1, .ref bp), (2, .ref bc), (4, .ref bn), (6, .int x6)] 236 [.int z0] := by
  intro v y x ar x6 z0 hw
  unfold PL_isLeast_236 at hw
  refine g_istore X [(11, .int z0), (0, .ref (g 0 0)), (1, .ref bp), (2, .ref bc), (4, .ref bn), (6, .int x6)] dL_isLeast_236 (by decide) rfl ?_
  refine g_iload X 5 dL_isLeast_238 rfl ?_
  refine g_aload X 4 dL_isLeast_240 rfl ?_
  refine g_iconst (v := 0) X rfl dL_isLeast_242 ?_
  obtain ⟨h18, hw⟩ := hw
  refine g_iald X 34 0 dL_isLeast_243 rfl rfl h18 ?_
  refine g_ciS X [wC ct g kc, wS ct (g 1) v, wL ct (g 12) y, wR ct (g 14) x, wI 40 ct bp ap, wI 20 ct bc ac, wI 24 ct bq aq, wI 7 ct bn an, wI 24 ct br ar] (fun (_ : Unit) => [wC ct g kc, wS ct (g 1) v, wL ct (g 12) y, wR ct (g 14) x, wI 40 ct bp ap, wI 20 ct bc ac, wI 24 ct bq aq, wI 7 ct bn an, wI 24 ct br ar]) (fun _ => fl [wC ct g kc, wS ct (g 1) v, wL ct (g 12) y, wR ct (g 14) x, wI 40 ct bp ap, wI 20 ct bc ac, wI 24 ct bq aq, wI 7 ct bn an, wI 24 ct br ar]) 9 [] [0, 1, 2, 3, 4, 5, 6, 7, 8] (kL_low l D ct  x6 (an 0 (ix 0)) _ hw) (va_cwS 2 X.1.2.2.2.2 gL_isLeast_L_low rfl rfl rfl (by decide +kernel) ⟨Nat.le_of_ble_eq_true rfl, Nat.le_of_ble_eq_true rfl⟩) dL_isLeast_244 rfl rfl (Nat.le_of_ble_eq_true rfl) ⟨Nat.le_of_ble_eq_true rfl, Nat.le_of_ble_eq_true rfl⟩ rfl rfl rfl (by decide) (fun _ => rfl) (fun _ => rfl) (fun _ => rfl) (fun _ => rfl) (fun r19 _ hw => ?_)
  refine g_istore X [(12, .int r19), (11, .int z0), (0, .ref (g 0 0)), (1, .ref bp), (2, .ref bc), (4, .ref bn), (6, .int x6)] dL_isLeast_247 (by decide) rfl ?_
  refine g_iconst (v := 0) X rfl dL_isLeast_249 ?_
  refine g_istore X [(13, .int 0), (12, .int r19), (11, .int z0), (0, .ref (g 0 0)), (1, .ref bp), (2, .ref bc), (4, .ref bn), (6, .int x6)] dL_isLeast_250 (by decide) rfl ?_
  refine g_sub [(0, .ref (g 0 0)), (1, .ref bp), (2, .ref bc), (4, .ref bn), (11, .int z0), (12, .int r19), (13, .int 0)] [3, 4, 5, 6, 2, 1, 0] rfl ?_
  obtain ⟨n48, hw⟩ := hw
  exact kL_isLeast_252 l D ct g bp bc bq bn br kc ap ac aq an post X n48 _ _ _ _ _ _ _ hw

set_option maxHeartbeats 4000000 in
set_option maxRecDepth 20000 in
theorem kL_isLeast_235 (l : Launch) (D : va_G) (ct : Nat → ClassId) (g : Nat → Nat → Nat) (bp : Nat) (bc : Nat) (bq : Nat) (bn : Nat) (br : Nat) (kc : Mem) (ap : Mem) (ac : Mem) (aq : Mem) (an : Mem) (post : Int32 → Mem → Mem → Mem → Prop) {p : Program} {e : Env} {s : State} {m : MethodId} {args : Array Value} {below : List Frame} {meth : Method} {c : Code} {A : Nat → Prop} (X : Cx p s m args meth c cL_isLeast 18 RL wsL_isLeast D (tyz ct) A s.heap (some .boolean))  :
    ∀ (v : Mem) (y : Mem) (x : Mem) (ar : Mem) (x6 : Int32), PL_isLeast_235 kc ap ac aq an post v y x ar x6 → GL_isLeast l D ct g bp bc bq bn br kc ap ac aq an post p e s m args below meth c A (fl [wC ct g kc, wS ct (g 1) v, wL ct (g 12) y, wR ct (g 14) x, wI 40 ct bp ap, wI 20 ct bc ac, wI 24 ct bq aq, wI 7 ct bn an, wI 24 ct br ar]) 2 48 [(0, .ref (g 0 0)), (1, .ref bp), (2, .ref bc), (4, .ref bn), (6, .int x6)] 235 [] := by
  intro v y x ar x6 hw
  unfold PL_isLeast_235 at hw
  refine g_iconst (v := 0) X rfl dL_isLeast_235 ?_
  refine g_sub [(0, .ref (g 0 0)), (1, .ref bp), (2, .ref bc), (4, .ref bn), (6, .int x6)] [0, 1, 2, 3, 4] rfl ?_
  exact kL_isLeast_236 l D ct g bp bc bq bn br kc ap ac aq an post X _ _ _ _ _ _ hw

set_option maxHeartbeats 4000000 in
set_option maxRecDepth 20000 in
theorem kL_isLeast_168 (l : Launch) (D : va_G) (ct : Nat → ClassId) (g : Nat → Nat → Nat) (bp : Nat) (bc : Nat) (bq : Nat) (bn : Nat) (br : Nat) (kc : Mem) (ap : Mem) (ac : Mem) (aq : Mem) (an : Mem) (post : Int32 → Mem → Mem → Mem → Prop) (K66 : Mem → Mem → Mem → Mem → Int32 → Int32 → Int32 → Int32 → Int32 → Int32 → Prop) {p : Program} {e : Env} {s : State} {m : MethodId} {args : Array Value} {below : List Frame} {meth : Method} {c : Code} {A : Nat → Prop} (X : Cx p s m args meth c cL_isLeast 18 RL wsL_isLeast D (tyz ct) A s.heap (some .boolean)) (hK66 : ∀ (v : Mem) (y : Mem) (x : Mem) (ar : Mem) (x5 : Int32) (x6 : Int32) (x8 : Int32) (x9 : Int32) (x10 : Int32) (x11 : Int32), K66 v y x ar x5 x6 x8 x9 x10 x11 → GL_isLeast l D ct g bp bc bq bn br kc ap ac aq an post p e s m args below meth c A (fl [wC ct g kc, wS ct (g 1) v, wL ct (g 12) y, wR ct (g 14) x, wI 40 ct bp ap, wI 20 ct bc ac, wI 24 ct bq aq, wI 7 ct bn an, wI 24 ct br ar]) 2 48 [(0, .ref (g 0 0)), (1, .ref bp), (2, .ref bc), (3, .ref bq), (4, .ref bn), (5, .int x5), (6, .int x6), (7, .ref br), (8, .int x8), (9, .int x9), (10, .int x10), (11, .int x11)] 66 []) :
    ∀ (v : Mem) (y : Mem) (x : Mem) (ar : Mem) (x5 : Int32) (x6 : Int32) (x8 : Int32) (x10 : Int32) (x11 : Int32) (z0 : Int32), PL_isLeast_168 kc ap ac aq an post K66 v y x ar x5 x6 x8 x10 x11 z0 → GL_isLeast l D ct g bp bc bq bn br kc ap ac aq an post p e s m args below meth c A (fl [wC ct g kc, wS ct (g 1) v, wL ct (g 12) y, wR ct (g 14) x, wI 40 ct bp ap, wI 20 ct bc ac, wI 24 ct bq aq, wI 7 ct bn an, wI 24 ct br ar]) 2 48 [(0, .ref (g 0 0)), (1, .ref bp), (2, .ref bc), (3, .ref bq), (4, .ref bn), (5, .int x5), (6, .int x6), (7, .ref br), (8, .int x8), (10, .int x10), (11, .int x11)] 168 [.int z0] := by
  intro v y x ar x5 x6 x8 x10 x11 z0 hw
  unfold PL_isLeast_168 at hw
  refine g_istore X [(9, .int z0), (0, .ref (g 0 0)), (1, .ref bp), (2, .ref bc), (3, .ref bq), (4, .ref bn), (5, .int x5), (6, .int x6), (7, .ref br), (8, .int x8), (10, .int x10), (11, .int x11)] dL_isLeast_168 (by decide) rfl ?_
  refine g_aload X 8 dL_isLeast_170 rfl ?_
  refine g_iload X 11 dL_isLeast_172 rfl ?_
  refine g_aload_n X 4 dL_isLeast_174 rfl rfl ?_
  refine g_iload X 11 dL_isLeast_175 rfl ?_
  obtain ⟨h70, hw⟩ := hw
  refine g_iald X 33 0 dL_isLeast_177 rfl rfl h70 ?_
  obtain ⟨h71, hw⟩ := hw
  refine g_iast X (fun z => fl [wC ct g kc, wS ct (g 1) v, wL ct (g 12) y, wR ct (g 14) x, wI 40 ct bp ap, wI 20 ct bc ac, wI 24 ct bq aq, wI 7 ct bn an, wI 24 ct br z]) ar 0 35 0 dL_isLeast_178 rfl rfl h71 rfl (fun ar72 har72 => ?_)
  replace hw := hw ar72 har72
  refine g_aload X 8 dL_isLeast_179 rfl ?_
  refine g_iload X 11 dL_isLeast_181 rfl ?_
  refine g_iconst (v := 1) X rfl dL_isLeast_183 ?_
  refine g_iadd X dL_isLeast_184 ?_
  refine g_aload_n X 4 dL_isLeast_185 rfl rfl ?_
  refine g_iload X 11 dL_isLeast_186 rfl ?_
  refine g_iconst (v := 1) X rfl dL_isLeast_188 ?_
  refine g_iadd X dL_isLeast_189 ?_
  obtain ⟨h73, hw⟩ := hw
  refine g_iald X 33 0 dL_isLeast_190 rfl rfl h73 ?_
  obtain ⟨h74, hw⟩ := hw
  refine g_iast X (fun z => fl [wC ct g kc, wS ct (g 1) v, wL ct (g 12) y, wR ct (g 14) x, wI 40 ct bp ap, wI 20 ct bc ac, wI 24 ct bq aq, wI 7 ct bn an, wI 24 ct br z]) ar72 0 35 0 dL_isLeast_191 rfl rfl h74 rfl (fun ar75 har75 => ?_)
  replace hw := hw ar75 har75
  refine g_iinc X [(11, .int (x11 + 1)), (9, .int z0), (0, .ref (g 0 0)), (1, .ref bp), (2, .ref bc), (3, .ref bq), (4, .ref bn), (5, .int x5), (6, .int x6), (7, .ref br), (8, .int x8), (10, .int x10)] 11 dL_isLeast_192 rfl rfl (by decide) rfl ?_
  refine g_goto X 66 dL_isLeast_195 (by decide) ?_
  refine g_sub [(0, .ref (g 0 0)), (1, .ref bp), (2, .ref bc), (3, .ref bq), (4, .ref bn), (5, .int x5), (6, .int x6), (7, .ref br), (8, .int x8), (9, .int z0), (10, .int x10), (11, .int (x11 + 1))] [2, 3, 4, 5, 6, 7, 8, 9, 10, 1, 11, 0] rfl ?_
  exact hK66 _ _ _ _ _ _ _ _ _ _ hw

set_option maxHeartbeats 4000000 in
set_option maxRecDepth 20000 in
theorem kL_isLeast_152 (l : Launch) (D : va_G) (ct : Nat → ClassId) (g : Nat → Nat → Nat) (bp : Nat) (bc : Nat) (bq : Nat) (bn : Nat) (br : Nat) (kc : Mem) (ap : Mem) (ac : Mem) (aq : Mem) (an : Mem) (post : Int32 → Mem → Mem → Mem → Prop) (K66 : Mem → Mem → Mem → Mem → Int32 → Int32 → Int32 → Int32 → Int32 → Int32 → Prop) {p : Program} {e : Env} {s : State} {m : MethodId} {args : Array Value} {below : List Frame} {meth : Method} {c : Code} {A : Nat → Prop} (X : Cx p s m args meth c cL_isLeast 18 RL wsL_isLeast D (tyz ct) A s.heap (some .boolean)) (hK66 : ∀ (v : Mem) (y : Mem) (x : Mem) (ar : Mem) (x5 : Int32) (x6 : Int32) (x8 : Int32) (x9 : Int32) (x10 : Int32) (x11 : Int32), K66 v y x ar x5 x6 x8 x9 x10 x11 → GL_isLeast l D ct g bp bc bq bn br kc ap ac aq an post p e s m args below meth c A (fl [wC ct g kc, wS ct (g 1) v, wL ct (g 12) y, wR ct (g 14) x, wI 40 ct bp ap, wI 20 ct bc ac, wI 24 ct bq aq, wI 7 ct bn an, wI 24 ct br ar]) 2 48 [(0, .ref (g 0 0)), (1, .ref bp), (2, .ref bc), (3, .ref bq), (4, .ref bn), (5, .int x5), (6, .int x6), (7, .ref br), (8, .int x8), (9, .int x9), (10, .int x10), (11, .int x11)] 66 []) :
    ∀ (v : Mem) (y : Mem) (x : Mem) (ar : Mem) (x5 : Int32) (x6 : Int32) (x8 : Int32) (x9 : Int32) (x11 : Int32) (x12 : Int32) (z0 : Int32), PL_isLeast_152 kc ap ac aq an post K66 v y x ar x5 x6 x8 x9 x11 x12 z0 → GL_isLeast l D ct g bp bc bq bn br kc ap ac aq an post p e s m args below meth c A (fl [wC ct g kc, wS ct (g 1) v, wL ct (g 12) y, wR ct (g 14) x, wI 40 ct bp ap, wI 20 ct bc ac, wI 24 ct bq aq, wI 7 ct bn an, wI 24 ct br ar]) 2 48 [(0, .ref (g 0 0)), (1, .ref bp), (2, .ref bc), (3, .ref bq), (4, .ref bn), (5, .int x5), (6, .int x6), (7, .ref br), (8, .int x8), (9, .int x9), (11, .int x11), (12, .int x12)] 152 [.int z0] := by
  intro v y x ar x5 x6 x8 x9 x11 x12 z0 hw
  unfold PL_isLeast_152 at hw
  refine g_istore X [(10, .int z0), (0, .ref (g 0 0)), (1, .ref bp), (2, .ref bc), (3, .ref bq), (4, .ref bn), (5, .int x5), (6, .int x6), (7, .ref br), (8, .int x8), (9, .int x9), (11, .int x11), (12, .int x12)] dL_isLeast_152 (by decide) rfl ?_
  refine g_iload X 12 dL_isLeast_154 rfl ?_
  refine g_iload X 10 dL_isLeast_156 rfl ?_
  refine g_icmp_ge X 166 dL_isLeast_158 (by decide) (fun c69 => ?_) (fun c69 => ?_)
  · replace hw := hw.1 c69
    refine g_iload X 10 dL_isLeast_166 rfl ?_
    refine g_sub [(0, .ref (g 0 0)), (1, .ref bp), (2, .ref bc), (3, .ref bq), (4, .ref bn), (5, .int x5), (6, .int x6), (7, .ref br), (8, .int x8), (10, .int z0), (11, .int x11)] [1, 2, 3, 4, 5, 6, 7, 8, 9, 0, 11] rfl ?_
    exact kL_isLeast_168 l D ct g bp bc bq bn br kc ap ac aq an post _ X hK66 _ _ _ _ _ _ _ _ _ _ hw
  · replace hw := hw.2 c69
    refine g_iload X 12 dL_isLeast_161 rfl ?_
    refine g_goto X 168 dL_isLeast_163 (by decide) ?_
    refine g_sub [(0, .ref (g 0 0)), (1, .ref bp), (2, .ref bc), (3, .ref bq), (4, .ref bn), (5, .int x5), (6, .int x6), (7, .ref br), (8, .int x8), (10, .int z0), (11, .int x11)] [1, 2, 3, 4, 5, 6, 7, 8, 9, 0, 11] rfl ?_
    exact kL_isLeast_168 l D ct g bp bc bq bn br kc ap ac aq an post _ X hK66 _ _ _ _ _ _ _ _ _ _ hw

set_option maxHeartbeats 4000000 in
set_option maxRecDepth 20000 in
theorem kL_isLeast_66 (l : Launch) (D : va_G) (ct : Nat → ClassId) (g : Nat → Nat → Nat) (bp : Nat) (bc : Nat) (bq : Nat) (bn : Nat) (br : Nat) (kc : Mem) (ap : Mem) (ac : Mem) (aq : Mem) (an : Mem) (post : Int32 → Mem → Mem → Mem → Prop) {p : Program} {e : Env} {s : State} {m : MethodId} {args : Array Value} {below : List Frame} {meth : Method} {c : Code} {A : Nat → Prop} (X : Cx p s m args meth c cL_isLeast 18 RL wsL_isLeast D (tyz ct) A s.heap (some .boolean))  :
    ∀ (n : Nat) (v : Mem) (y : Mem) (x : Mem) (ar : Mem) (x5 : Int32) (x6 : Int32) (x8 : Int32) (x9 : Int32) (x10 : Int32) (x11 : Int32), PL_isLeast_66 kc ap ac aq an post n v y x ar x5 x6 x8 x9 x10 x11 → GL_isLeast l D ct g bp bc bq bn br kc ap ac aq an post p e s m args below meth c A (fl [wC ct g kc, wS ct (g 1) v, wL ct (g 12) y, wR ct (g 14) x, wI 40 ct bp ap, wI 20 ct bc ac, wI 24 ct bq aq, wI 7 ct bn an, wI 24 ct br ar]) 2 48 [(0, .ref (g 0 0)), (1, .ref bp), (2, .ref bc), (3, .ref bq), (4, .ref bn), (5, .int x5), (6, .int x6), (7, .ref br), (8, .int x8), (9, .int x9), (10, .int x10), (11, .int x11)] 66 [] := by
  intro n
  induction n with
  | zero =>
    intro v y x ar x5 x6 x8 x9 x10 x11 hw
    exact hw.elim
  | succ n ih =>
    intro v y x ar x5 x6 x8 x9 x10 x11 hw
    unfold PL_isLeast_66 at hw
    refine g_iload X 11 dL_isLeast_66 rfl ?_
    refine g_bipush (v := 24) X rfl dL_isLeast_68 ?_
    refine g_icmp_ge X 198 dL_isLeast_70 (by decide) (fun c13 => ?_) (fun c13 => ?_)
    · replace hw := hw.1 c13
      refine g_aload_n X 0 dL_isLeast_198 rfl rfl ?_
      refine g_iload X 5 dL_isLeast_199 rfl ?_
      refine g_iconst (v := 0) X rfl dL_isLeast_201 ?_
      refine g_ciV X [wC ct g kc, wS ct (g 1) v, wL ct (g 12) y, wR ct (g 14) x, wI 40 ct bp ap, wI 20 ct bc ac, wI 24 ct bq aq, wI 7 ct bn an, wI 24 ct br ar] (fun (u15 : Mem) => [wC ct g kc, wS ct (g 1) v, wL ct (g 12) y, wR ct (g 14) u15, wI 40 ct bp ap, wI 20 ct bc ac, wI 24 ct bq aq, wI 7 ct bn an, wI 24 ct br ar]) (fun (u15 : Mem) => fl [wC ct g kc, wS ct (g 1) v, wL ct (g 12) y, wR ct (g 14) u15, wI 40 ct bp ap, wI 20 ct bc ac, wI 24 ct bq aq, wI 7 ct bn an, wI 24 ct br ar]) 9 [0, 1, 3] [2, 4, 5, 6, 7, 8] 0 (kX7_least_nt l D ct g kc v x x5 0 _ hw) (cwV 2 X.1.2.2.2.2 gL_isLeast_X7_least rfl rfl rfl (by decide +kernel) ⟨Nat.le_of_ble_eq_true rfl, Nat.le_of_ble_eq_true rfl⟩) dL_isLeast_202 rfl rfl (Nat.le_of_ble_eq_true rfl) ⟨Nat.le_of_ble_eq_true rfl, Nat.le_of_ble_eq_true rfl⟩ rfl rfl rfl (by decide) (fun _ => rfl) (fun _ => rfl) (fun _ => rfl) (fun _ => rfl) rfl rfl rfl (fun r14 u15 hw => ?_)
      obtain ⟨x16, hx16⟩ : ∃ z : Mem, z = u15 := ⟨_, rfl⟩
      rw [← hx16] at hw
      rw [← hx16]
      refine g_iload X 8 dL_isLeast_205 rfl ?_
      refine g_icmp_ne X 235 dL_isLeast_207 (by decide) (fun c17 => ?_) (fun c17 => ?_)
      · replace hw := hw.1 c17
        refine g_sub [(0, .ref (g 0 0)), (1, .ref bp), (2, .ref bc), (4, .ref bn), (6, .int x6)] [0, 1, 2, 4, 6] rfl ?_
        exact kL_isLeast_235 l D ct g bp bc bq bn br kc ap ac aq an post X _ _ _ _ _ hw
      · replace hw := hw.2 c17
        refine g_aload_n X 0 dL_isLeast_210 rfl rfl ?_
        refine g_iload X 5 dL_isLeast_211 rfl ?_
        refine g_iconst (v := 1) X rfl dL_isLeast_213 ?_
        refine g_ciV X [wC ct g kc, wS ct (g 1) v, wL ct (g 12) y, wR ct (g 14) x16, wI 40 ct bp ap, wI 20 ct bc ac, wI 24 ct bq aq, wI 7 ct bn an, wI 24 ct br ar] (fun (u50 : Mem) => [wC ct g kc, wS ct (g 1) v, wL ct (g 12) y, wR ct (g 14) u50, wI 40 ct bp ap, wI 20 ct bc ac, wI 24 ct bq aq, wI 7 ct bn an, wI 24 ct br ar]) (fun (u50 : Mem) => fl [wC ct g kc, wS ct (g 1) v, wL ct (g 12) y, wR ct (g 14) u50, wI 40 ct bp ap, wI 20 ct bc ac, wI 24 ct bq aq, wI 7 ct bn an, wI 24 ct br ar]) 9 [0, 1, 3] [2, 4, 5, 6, 7, 8] 0 (kX7_least_nt l D ct g kc v x16 x5 1 _ hw) (cwV 2 X.1.2.2.2.2 gL_isLeast_X7_least rfl rfl rfl (by decide +kernel) ⟨Nat.le_of_ble_eq_true rfl, Nat.le_of_ble_eq_true rfl⟩) dL_isLeast_214 rfl rfl (Nat.le_of_ble_eq_true rfl) ⟨Nat.le_of_ble_eq_true rfl, Nat.le_of_ble_eq_true rfl⟩ rfl rfl rfl (by decide) (fun _ => rfl) (fun _ => rfl) (fun _ => rfl) (fun _ => rfl) rfl rfl rfl (fun r49 u50 hw => ?_)
        obtain ⟨x51, hx51⟩ : ∃ z : Mem, z = u50 := ⟨_, rfl⟩
        rw [← hx51] at hw
        rw [← hx51]
        refine g_iload X 8 dL_isLeast_217 rfl ?_
        refine g_icmp_ne X 235 dL_isLeast_219 (by decide) (fun c52 => ?_) (fun c52 => ?_)
        · replace hw := hw.1 c52
          refine g_sub [(0, .ref (g 0 0)), (1, .ref bp), (2, .ref bc), (4, .ref bn), (6, .int x6)] [0, 1, 2, 4, 6] rfl ?_
          exact kL_isLeast_235 l D ct g bp bc bq bn br kc ap ac aq an post X _ _ _ _ _ hw
        · replace hw := hw.2 c52
          refine g_aload_n X 0 dL_isLeast_222 rfl rfl ?_
          refine g_ciV X [wC ct g kc, wS ct (g 1) v, wL ct (g 12) y, wR ct (g 14) x51, wI 40 ct bp ap, wI 20 ct bc ac, wI 24 ct bq aq, wI 7 ct bn an, wI 24 ct br ar] (fun (u54 : Mem × Mem) => [wC ct g kc, wS ct (g 1) u54.1, wL ct (g 12) u54.2, wR ct (g 14) x51, wI 40 ct bp ap, wI 20 ct bc ac, wI 24 ct bq aq, wI 7 ct bn an, wI 24 ct br ar]) (fun (u54 : Mem × Mem) => fl [wC ct g kc, wS ct (g 1) u54.1, wL ct (g 12) u54.2, wR ct (g 14) x51, wI 40 ct bp ap, wI 20 ct bc ac, wI 24 ct bq aq, wI 7 ct bn an, wI 24 ct br ar]) 9 [0, 1, 2] [3, 4, 5, 6, 7, 8] 0 (kX7_bestSwap l D ct g kc v y _ hw) (cwV 0 X.1.2.2.2.2 gL_isLeast_X7_bestSwap rfl rfl rfl (by decide +kernel) ⟨Nat.le_of_ble_eq_true rfl, Nat.le_of_ble_eq_true rfl⟩) dL_isLeast_223 rfl rfl (Nat.le_of_ble_eq_true rfl) ⟨Nat.le_of_ble_eq_true rfl, Nat.le_of_ble_eq_true rfl⟩ rfl rfl rfl (by decide) (fun _ => rfl) (fun _ => rfl) (fun _ => rfl) (fun _ => rfl) rfl rfl rfl (fun r53 u54 hw => ?_)
          obtain ⟨v55, hv55⟩ : ∃ z : Mem, z = u54.1 := ⟨_, rfl⟩
          rw [← hv55] at hw
          rw [← hv55]
          obtain ⟨y56, hy56⟩ : ∃ z : Mem, z = u54.2 := ⟨_, rfl⟩
          rw [← hy56] at hw
          rw [← hy56]
          refine g_iload X 10 dL_isLeast_226 rfl ?_
          refine g_icmp_ne X 235 dL_isLeast_228 (by decide) (fun c57 => ?_) (fun c57 => ?_)
          · replace hw := hw.1 c57
            refine g_sub [(0, .ref (g 0 0)), (1, .ref bp), (2, .ref bc), (4, .ref bn), (6, .int x6)] [0, 1, 2, 4, 6] rfl ?_
            exact kL_isLeast_235 l D ct g bp bc bq bn br kc ap ac aq an post X _ _ _ _ _ hw
          · replace hw := hw.2 c57
            refine g_iconst (v := 1) X rfl dL_isLeast_231 ?_
            refine g_goto X 236 dL_isLeast_232 (by decide) ?_
            refine g_sub [(0, .ref (g 0 0)), (1, .ref bp), (2, .ref bc), (4, .ref bn), (6, .int x6)] [0, 1, 2, 4, 6] rfl ?_
            exact kL_isLeast_236 l D ct g bp bc bq bn br kc ap ac aq an post X _ _ _ _ _ _ hw
    · replace hw := hw.2 c13
      refine g_iload X 11 dL_isLeast_73 rfl ?_
      refine g_bipush (v := 6) X rfl dL_isLeast_75 ?_
      refine g_irem X (by decide) dL_isLeast_77 ?_
      refine g_iconst (v := 1) X rfl dL_isLeast_78 ?_
      refine g_iadd X dL_isLeast_79 ?_
      refine g_aload X 4 dL_isLeast_80 rfl ?_
      refine g_iconst (v := 3) X rfl dL_isLeast_82 ?_
      refine g_iload X 11 dL_isLeast_83 rfl ?_
      refine g_bipush (v := 6) X rfl dL_isLeast_85 ?_
      refine g_idiv X (by decide) dL_isLeast_87 ?_
      refine g_iadd X dL_isLeast_88 ?_
      obtain ⟨h58, hw⟩ := hw
      refine g_iald X 34 0 dL_isLeast_89 rfl rfl h58 ?_
      refine g_icmp_ge X 192 dL_isLeast_90 (by decide) (fun c59 => ?_) (fun c59 => ?_)
      · replace hw := hw.1 c59
        refine g_iinc X [(11, .int (x11 + 1)), (0, .ref (g 0 0)), (1, .ref bp), (2, .ref bc), (3, .ref bq), (4, .ref bn), (5, .int x5), (6, .int x6), (7, .ref br), (8, .int x8), (9, .int x9), (10, .int x10)] 11 dL_isLeast_192 rfl rfl (by decide) rfl ?_
        refine g_goto X 66 dL_isLeast_195 (by decide) ?_
        refine g_sub [(0, .ref (g 0 0)), (1, .ref bp), (2, .ref bc), (3, .ref bq), (4, .ref bn), (5, .int x5), (6, .int x6), (7, .ref br), (8, .int x8), (9, .int x9), (10, .int x10), (11, .int (x11 + 1))] [1, 2, 3, 4, 5, 6, 7, 8, 9, 10, 11, 0] rfl ?_
        exact ih _ _ _ _ _ _ _ _ _ _ hw
      · replace hw := hw.2 c59
        refine g_aload X 7 dL_isLeast_93 rfl ?_
        refine g_iload X 11 dL_isLeast_95 rfl ?_
        refine g_aload_n X 3 dL_isLeast_97 rfl rfl ?_
        refine g_iload X 11 dL_isLeast_98 rfl ?_
        refine g_iconst (v := 1) X rfl dL_isLeast_100 ?_
        refine g_iadd X dL_isLeast_101 ?_
        obtain ⟨h60, hw⟩ := hw
        refine g_iald X 33 0 dL_isLeast_102 rfl rfl h60 ?_
        obtain ⟨h61, hw⟩ := hw
        refine g_iast X (fun z => fl [wC ct g kc, wS ct (g 1) v, wL ct (g 12) y, wR ct (g 14) x, wI 40 ct bp ap, wI 20 ct bc ac, wI 24 ct bq aq, wI 7 ct bn an, wI 24 ct br z]) ar 0 35 0 dL_isLeast_103 rfl rfl h61 rfl (fun ar62 har62 => ?_)
        replace hw := hw ar62 har62
        refine g_aload X 7 dL_isLeast_104 rfl ?_
        refine g_iload X 11 dL_isLeast_106 rfl ?_
        refine g_iconst (v := 1) X rfl dL_isLeast_108 ?_
        refine g_iadd X dL_isLeast_109 ?_
        refine g_aload_n X 3 dL_isLeast_110 rfl rfl ?_
        refine g_iload X 11 dL_isLeast_111 rfl ?_
        obtain ⟨h63, hw⟩ := hw
        refine g_iald X 33 0 dL_isLeast_113 rfl rfl h63 ?_
        obtain ⟨h64, hw⟩ := hw
        refine g_iast X (fun z => fl [wC ct g kc, wS ct (g 1) v, wL ct (g 12) y, wR ct (g 14) x, wI 40 ct bp ap, wI 20 ct bc ac, wI 24 ct bq aq, wI 7 ct bn an, wI 24 ct br z]) ar62 0 35 0 dL_isLeast_114 rfl rfl h64 rfl (fun ar65 har65 => ?_)
        replace hw := hw ar65 har65
        refine g_aload_n X 1 dL_isLeast_115 rfl rfl ?_
        refine g_aload_n X 2 dL_isLeast_116 rfl rfl ?_
        refine g_aload X 7 dL_isLeast_117 rfl ?_
        refine g_aload X 4 dL_isLeast_119 rfl ?_
        refine g_ciS X [wC ct g kc, wS ct (g 1) v, wL ct (g 12) y, wR ct (g 14) x, wI 40 ct bp ap, wI 20 ct bc ac, wI 24 ct bq aq, wI 7 ct bn an, wI 24 ct br ar65] (fun (_ : Unit) => [wC ct g kc, wS ct (g 1) v, wL ct (g 12) y, wR ct (g 14) x, wI 40 ct bp ap, wI 20 ct bc ac, wI 24 ct bq aq, wI 7 ct bn an, wI 24 ct br ar65]) (fun _ => fl [wC ct g kc, wS ct (g 1) v, wL ct (g 12) y, wR ct (g 14) x, wI 40 ct bp ap, wI 20 ct bc ac, wI 24 ct bq aq, wI 7 ct bn an, wI 24 ct br ar65]) 9 [4, 5, 8, 7] [0, 1, 2, 3, 6] (kL_all l D ct bp bc br bn ap ac ar65 an _ hw) (va_cwS 4 X.1.2.2.2.2 gL_isLeast_L_all rfl rfl rfl (by decide +kernel) ⟨Nat.le_of_ble_eq_true rfl, Nat.le_of_ble_eq_true rfl⟩) dL_isLeast_121 rfl rfl (Nat.le_of_ble_eq_true rfl) ⟨Nat.le_of_ble_eq_true rfl, Nat.le_of_ble_eq_true rfl⟩ rfl rfl rfl (by decide) (fun _ => rfl) (fun _ => rfl) (fun _ => rfl) (fun _ => rfl) (fun r66 _ hw => ?_)
        refine g_istore X [(12, .int r66), (0, .ref (g 0 0)), (1, .ref bp), (2, .ref bc), (3, .ref bq), (4, .ref bn), (5, .int x5), (6, .int x6), (7, .ref br), (8, .int x8), (9, .int x9), (10, .int x10), (11, .int x11)] dL_isLeast_124 (by decide) rfl ?_
        refine g_iload X 0 dL_isLeast_126 rfl ?_
        refine g_iload X 10 dL_isLeast_128 rfl ?_
        refine g_icmp_ge X 150 dL_isLeast_130 (by decide) (fun c68 => ?_) (fun c68 => ?_)
        · replace hw := hw.1 c68
          refine g_iload X 11 dL_isLeast_150 rfl ?_
          refine g_sub [(0, .ref (g 0 0)), (1, .ref bp), (2, .ref bc), (3, .ref bq), (4, .ref bn), (5, .int x5), (6, .int x6), (7, .ref br), (8, .int x8), (9, .int x9), (11, .int x11), (12, .int r66)] [1, 2, 3, 4, 5, 6, 7, 8, 9, 10, 12, 0] rfl ?_
          exact kL_isLeast_152 l D ct g bp bc bq bn br kc ap ac aq an post _ X ih _ _ _ _ _ _ _ _ _ _ _ hw
        · replace hw := hw.2 c68
          refine g_bipush (v := 10) X rfl dL_isLeast_133 ?_
          refine g_iload X 12 dL_isLeast_135 rfl ?_
          refine g_bipush (v := 6) X rfl dL_isLeast_137 ?_
          refine g_idiv X (by decide) dL_isLeast_139 ?_
          refine g_imul X dL_isLeast_140 ?_
          refine g_iload X 12 dL_isLeast_141 rfl ?_
          refine g_bipush (v := 6) X rfl dL_isLeast_143 ?_
          refine g_irem X (by decide) dL_isLeast_145 ?_
          refine g_iadd X dL_isLeast_146 ?_
          refine g_goto X 152 dL_isLeast_147 (by decide) ?_
          refine g_sub [(0, .ref (g 0 0)), (1, .ref bp), (2, .ref bc), (3, .ref bq), (4, .ref bn), (5, .int x5), (6, .int x6), (7, .ref br), (8, .int x8), (9, .int x9), (11, .int x11), (12, .int r66)] [1, 2, 3, 4, 5, 6, 7, 8, 9, 10, 12, 0] rfl ?_
          exact kL_isLeast_152 l D ct g bp bc bq bn br kc ap ac aq an post _ X ih _ _ _ _ _ _ _ _ _ _ _ hw

set_option maxHeartbeats 4000000 in
set_option maxRecDepth 20000 in
theorem kL_isLeast (l : Launch) (D : va_G) (ct : Nat → ClassId) (g : Nat → Nat → Nat) (bp : Nat) (bc : Nat) (bq : Nat) (bn : Nat) (kc : Mem) (v : Mem) (y : Mem) (x : Mem) (ap : Mem) (ac : Mem) (aq : Mem) (an : Mem) (p6 : Int32) (p7 : Int32) (post : Int32 → Mem → Mem → Mem → Prop) (hw : PL_isLeast kc v y x ap ac aq an p6 p7 post) : Ci (S := Mem × Mem × Mem) l yL_isLeast wsL_isLeast rmL_isLeast D (tyz ct) [.ref (g 0 0), .ref bp, .ref bc, .ref bq, .ref bn, .int p6, .int p7] (fl [wC ct g kc, wS ct (g 1) v, wL ct (g 12) y, wR ct (g 14) x, wI 40 ct bp ap, wI 20 ct bc ac, wI 24 ct bq aq, wI 7 ct bn an]) (fun r (u9 : Mem × Mem × Mem) => post r u9.1 u9.2.1 u9.2.2) (fun u9 => fl [wC ct g kc, wS ct (g 1) u9.1, wL ct (g 12) u9.2.1, wR ct (g 14) u9.2.2, wI 40 ct bp ap, wI 20 ct bc ac, wI 24 ct bq aq, wI 7 ct bn an]) 2 48 := by
  intro sz
  refine g_of (own := RL) (by decide) rfl rfl (Nat.le_of_ble_eq_true rfl) [(0, .ref (g 0 0)), (1, .ref bp), (2, .ref bc), (3, .ref bq), (4, .ref bn), (5, .int p6), (6, .int p7)] rfl (fun p e s m args below meth c hsz X => ?_)
  subst hsz
  unfold PL_isLeast at hw
  refine g_bipush (v := 24) X rfl dL_isLeast_0 ?_
  refine g_newaI X (fun q9 => fl [wC ct g kc, wS ct (g 1) v, wL ct (g 12) y, wR ct (g 14) x, wI 40 ct bp ap, wI 20 ct bc ac, wI 24 ct bq aq, wI 7 ct bn an, wI 24 ct q9 freshM]) 0 (List.mem_of_getElem? (i := 1) rfl) dL_isLeast_2 rfl (by decide) rfl (by decide) (Nat.le_of_ble_eq_true rfl) (Nat.le_of_ble_eq_true rfl) (fun q9 => (fl_app [wC ct g kc, wS ct (g 1) v, wL ct (g 12) y, wR ct (g 14) x, wI 40 ct bp ap, wI 20 ct bc ac, wI 24 ct bq aq, wI 7 ct bn an] [wI 24 ct q9 freshM]).symm) (fun br => ?_)
  refine g_astore X [(7, .ref br), (0, .ref (g 0 0)), (1, .ref bp), (2, .ref bc), (3, .ref bq), (4, .ref bn), (5, .int p6), (6, .int p7)] dL_isLeast_4 (by decide) rfl ?_
  refine g_aload_n X 4 dL_isLeast_6 rfl rfl ?_
  refine g_aload X 0 dL_isLeast_7 rfl ?_
  refine g_cvS X [wC ct g kc, wS ct (g 1) v, wL ct (g 12) y, wR ct (g 14) x, wI 40 ct bp ap, wI 20 ct bc ac, wI 24 ct bq aq, wI 7 ct bn an, wI 24 ct br freshM] (fun (u1 : Mem) => [wC ct g kc, wS ct (g 1) v, wL ct (g 12) y, wR ct (g 14) x, wI 40 ct bp ap, wI 20 ct bc ac, wI 24 ct bq aq, wI 7 ct bn an, wI 24 ct br u1]) (fun (u1 : Mem) => fl [wC ct g kc, wS ct (g 1) v, wL ct (g 12) y, wR ct (g 14) x, wI 40 ct bp ap, wI 20 ct bc ac, wI 24 ct bq aq, wI 7 ct bn an, wI 24 ct br u1]) 9 [6, 8] [0, 1, 2, 3, 4, 5, 7] (kL_copy l D ct bq br aq freshM _ hw) (va_cwS 2 X.1.2.2.2.2 gL_isLeast_L_copy rfl rfl rfl (by decide +kernel) ⟨Nat.le_of_ble_eq_true rfl, Nat.le_of_ble_eq_true rfl⟩) dL_isLeast_9 rfl rfl (Nat.le_of_ble_eq_true rfl) ⟨Nat.le_of_ble_eq_true rfl, Nat.le_of_ble_eq_true rfl⟩ rfl rfl rfl (by decide) (fun _ => rfl) (fun _ => rfl) (fun _ => rfl) (fun _ => rfl) (fun u1 hw => ?_)
  obtain ⟨ar2, har2⟩ : ∃ z : Mem, z = u1 := ⟨_, rfl⟩
  rw [← har2] at hw
  rw [← har2]
  refine g_aload X 0 dL_isLeast_12 rfl ?_
  refine g_aload X 5 dL_isLeast_14 rfl ?_
  refine g_iload X 6 dL_isLeast_16 rfl ?_
  refine g_aload_n X 2 dL_isLeast_18 rfl rfl ?_
  refine g_aload_n X 3 dL_isLeast_19 rfl rfl ?_
  refine g_aload_n X 4 dL_isLeast_20 rfl rfl ?_
  refine g_aload X 5 dL_isLeast_21 rfl ?_
  refine g_iload X 6 dL_isLeast_23 rfl ?_
  refine g_ciS X [wC ct g kc, wS ct (g 1) v, wL ct (g 12) y, wR ct (g 14) x, wI 40 ct bp ap, wI 20 ct bc ac, wI 24 ct bq aq, wI 7 ct bn an, wI 24 ct br ar2] (fun (_ : Unit) => [wC ct g kc, wS ct (g 1) v, wL ct (g 12) y, wR ct (g 14) x, wI 40 ct bp ap, wI 20 ct bc ac, wI 24 ct bq aq, wI 7 ct bn an, wI 24 ct br ar2]) (fun _ => fl [wC ct g kc, wS ct (g 1) v, wL ct (g 12) y, wR ct (g 14) x, wI 40 ct bp ap, wI 20 ct bc ac, wI 24 ct bq aq, wI 7 ct bn an, wI 24 ct br ar2]) 9 [4, 5, 6, 7] [0, 1, 2, 3, 8] (kL_best l D ct bp bc bq bn ap ac aq an p6 _ hw) (va_cwS 5 X.1.2.2.2.2 gL_isLeast_L_best rfl rfl rfl (by decide +kernel) ⟨Nat.le_of_ble_eq_true rfl, Nat.le_of_ble_eq_true rfl⟩) dL_isLeast_25 rfl rfl (Nat.le_of_ble_eq_true rfl) ⟨Nat.le_of_ble_eq_true rfl, Nat.le_of_ble_eq_true rfl⟩ rfl rfl rfl (by decide) (fun _ => rfl) (fun _ => rfl) (fun _ => rfl) (fun _ => rfl) (fun r3 _ hw => ?_)
  refine g_cvS X [wC ct g kc, wS ct (g 1) v, wL ct (g 12) y, wR ct (g 14) x, wI 40 ct bp ap, wI 20 ct bc ac, wI 24 ct bq aq, wI 7 ct bn an, wI 24 ct br ar2] (fun (u5 : Mem) => [wC ct g kc, wS ct (g 1) v, wL ct (g 12) y, wR ct (g 14) x, wI 40 ct bp ap, wI 20 ct bc ac, wI 24 ct bq aq, wI 7 ct bn an, wI 24 ct br u5]) (fun (u5 : Mem) => fl [wC ct g kc, wS ct (g 1) v, wL ct (g 12) y, wR ct (g 14) x, wI 40 ct bp ap, wI 20 ct bc ac, wI 24 ct bq aq, wI 7 ct bn an, wI 24 ct br u5]) 9 [8, 7] [0, 1, 2, 3, 4, 5, 6] (kL_lays l D ct br bn ar2 an p6 r3 _ hw) (va_cwS 4 X.1.2.2.2.2 gL_isLeast_L_lays rfl rfl rfl (by decide +kernel) ⟨Nat.le_of_ble_eq_true rfl, Nat.le_of_ble_eq_true rfl⟩) dL_isLeast_28 rfl rfl (Nat.le_of_ble_eq_true rfl) ⟨Nat.le_of_ble_eq_true rfl, Nat.le_of_ble_eq_true rfl⟩ rfl rfl rfl (by decide) (fun _ => rfl) (fun _ => rfl) (fun _ => rfl) (fun _ => rfl) (fun u5 hw => ?_)
  obtain ⟨ar6, har6⟩ : ∃ z : Mem, z = u5 := ⟨_, rfl⟩
  rw [← har6] at hw
  rw [← har6]
  refine g_aload_n X 2 dL_isLeast_31 rfl rfl ?_
  refine g_aload_n X 3 dL_isLeast_32 rfl rfl ?_
  refine g_aload X 0 dL_isLeast_33 rfl ?_
  refine g_aload X 5 dL_isLeast_35 rfl ?_
  refine g_iload X 6 dL_isLeast_37 rfl ?_
  refine g_ciS X [wC ct g kc, wS ct (g 1) v, wL ct (g 12) y, wR ct (g 14) x, wI 40 ct bp ap, wI 20 ct bc ac, wI 24 ct bq aq, wI 7 ct bn an, wI 24 ct br ar6] (fun (_ : Unit) => [wC ct g kc, wS ct (g 1) v, wL ct (g 12) y, wR ct (g 14) x, wI 40 ct bp ap, wI 20 ct bc ac, wI 24 ct bq aq, wI 7 ct bn an, wI 24 ct br ar6]) (fun _ => fl [wC ct g kc, wS ct (g 1) v, wL ct (g 12) y, wR ct (g 14) x, wI 40 ct bp ap, wI 20 ct bc ac, wI 24 ct bq aq, wI 7 ct bn an, wI 24 ct br ar6]) 9 [4, 5, 8, 7] [0, 1, 2, 3, 6] (kL_ofTwo l D ct bp bc br bn ap ac ar6 an p6 _ hw) (va_cwS 5 X.1.2.2.2.2 gL_isLeast_L_ofTwo rfl rfl rfl (by decide +kernel) ⟨Nat.le_of_ble_eq_true rfl, Nat.le_of_ble_eq_true rfl⟩) dL_isLeast_39 rfl rfl (Nat.le_of_ble_eq_true rfl) ⟨Nat.le_of_ble_eq_true rfl, Nat.le_of_ble_eq_true rfl⟩ rfl rfl rfl (by decide) (fun _ => rfl) (fun _ => rfl) (fun _ => rfl) (fun _ => rfl) (fun r7 _ hw => ?_)
  refine g_istore X [(8, .int r7), (7, .ref br), (0, .ref (g 0 0)), (1, .ref bp), (2, .ref bc), (3, .ref bq), (4, .ref bn), (5, .int p6), (6, .int p7)] dL_isLeast_42 (by decide) rfl ?_
  refine g_aload_n X 3 dL_isLeast_44 rfl rfl ?_
  refine g_aload_n X 4 dL_isLeast_45 rfl rfl ?_
  refine g_aload_n X 5 dL_isLeast_46 rfl rfl ?_
  refine g_aload X 6 dL_isLeast_47 rfl ?_
  refine g_ciS X [wC ct g kc, wS ct (g 1) v, wL ct (g 12) y, wR ct (g 14) x, wI 40 ct bp ap, wI 20 ct bc ac, wI 24 ct bq aq, wI 7 ct bn an, wI 24 ct br ar6] (fun (_ : Unit) => [wC ct g kc, wS ct (g 1) v, wL ct (g 12) y, wR ct (g 14) x, wI 40 ct bp ap, wI 20 ct bc ac, wI 24 ct bq aq, wI 7 ct bn an, wI 24 ct br ar6]) (fun _ => fl [wC ct g kc, wS ct (g 1) v, wL ct (g 12) y, wR ct (g 14) x, wI 40 ct bp ap, wI 20 ct bc ac, wI 24 ct bq aq, wI 7 ct bn an, wI 24 ct br ar6]) 9 [4, 5, 6, 7] [0, 1, 2, 3, 8] (kL_all l D ct bp bc bq bn ap ac aq an _ hw) (va_cwS 4 X.1.2.2.2.2 gL_isLeast_L_all rfl rfl rfl (by decide +kernel) ⟨Nat.le_of_ble_eq_true rfl, Nat.le_of_ble_eq_true rfl⟩) dL_isLeast_49 rfl rfl (Nat.le_of_ble_eq_true rfl) ⟨Nat.le_of_ble_eq_true rfl, Nat.le_of_ble_eq_true rfl⟩ rfl rfl rfl (by decide) (fun _ => rfl) (fun _ => rfl) (fun _ => rfl) (fun _ => rfl) (fun r9 _ hw => ?_)
  refine g_istore X [(9, .int r9), (8, .int r7), (7, .ref br), (0, .ref (g 0 0)), (1, .ref bp), (2, .ref bc), (3, .ref bq), (4, .ref bn), (5, .int p6), (6, .int p7)] dL_isLeast_52 (by decide) rfl ?_
  refine g_iconst (v := (-1)) X rfl dL_isLeast_54 ?_
  refine g_istore X [(10, .int ((-1))), (9, .int r9), (8, .int r7), (7, .ref br), (0, .ref (g 0 0)), (1, .ref bp), (2, .ref bc), (3, .ref bq), (4, .ref bn), (5, .int p6), (6, .int p7)] dL_isLeast_55 (by decide) rfl ?_
  refine g_aload_n X 7 dL_isLeast_57 rfl rfl ?_
  refine g_aload X 3 dL_isLeast_58 rfl ?_
  refine g_cvS X [wC ct g kc, wS ct (g 1) v, wL ct (g 12) y, wR ct (g 14) x, wI 40 ct bp ap, wI 20 ct bc ac, wI 24 ct bq aq, wI 7 ct bn an, wI 24 ct br ar6] (fun (u11 : Mem) => [wC ct g kc, wS ct (g 1) v, wL ct (g 12) y, wR ct (g 14) x, wI 40 ct bp ap, wI 20 ct bc ac, wI 24 ct bq aq, wI 7 ct bn an, wI 24 ct br u11]) (fun (u11 : Mem) => fl [wC ct g kc, wS ct (g 1) v, wL ct (g 12) y, wR ct (g 14) x, wI 40 ct bp ap, wI 20 ct bc ac, wI 24 ct bq aq, wI 7 ct bn an, wI 24 ct br u11]) 9 [6, 8] [0, 1, 2, 3, 4, 5, 7] (kL_copy l D ct bq br aq ar6 _ hw) (va_cwS 2 X.1.2.2.2.2 gL_isLeast_L_copy rfl rfl rfl (by decide +kernel) ⟨Nat.le_of_ble_eq_true rfl, Nat.le_of_ble_eq_true rfl⟩) dL_isLeast_60 rfl rfl (Nat.le_of_ble_eq_true rfl) ⟨Nat.le_of_ble_eq_true rfl, Nat.le_of_ble_eq_true rfl⟩ rfl rfl rfl (by decide) (fun _ => rfl) (fun _ => rfl) (fun _ => rfl) (fun _ => rfl) (fun u11 hw => ?_)
  obtain ⟨ar12, har12⟩ : ∃ z : Mem, z = u11 := ⟨_, rfl⟩
  rw [← har12] at hw
  rw [← har12]
  refine g_iconst (v := 0) X rfl dL_isLeast_63 ?_
  refine g_istore X [(11, .int 0), (10, .int ((-1))), (9, .int r9), (8, .int r7), (7, .ref br), (0, .ref (g 0 0)), (1, .ref bp), (2, .ref bc), (3, .ref bq), (4, .ref bn), (5, .int p6), (6, .int p7)] dL_isLeast_64 (by decide) rfl ?_
  refine g_sub [(0, .ref (g 0 0)), (1, .ref bp), (2, .ref bc), (3, .ref bq), (4, .ref bn), (5, .int p6), (6, .int p7), (7, .ref br), (8, .int r7), (9, .int r9), (10, .int ((-1))), (11, .int 0)] [5, 6, 7, 8, 9, 10, 11, 4, 3, 2, 1, 0] rfl ?_
  obtain ⟨n76, hw⟩ := hw
  exact kL_isLeast_66 l D ct g bp bc bq bn br kc ap ac aq an post X n76 _ _ _ _ _ _ _ _ _ _ hw
