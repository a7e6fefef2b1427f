abbrev rmL_acts : Room := { frames := 7, cells := 1, slots := 24, locals := 153 }

abbrev GL_acts (l : Launch) (D : va_G) (ct : Nat → ClassId) (g : Nat → Nat → Nat) (bp : Nat) (bc : Nat) (bq : Nat) (bn : Nat) (br : Nat) (kc : Mem) (post : Int32 → Mem → Mem → (Nat → Mem) → Mem → Mem → Mem → Mem → Mem → Mem → Mem → Prop) (p : Program) (e : Env) (s : State) (m : MethodId) (args : Array Value) (below : List Frame) (meth : Method) (c : Code) (A : Nat → Prop) (w9 : va_W) (kq jq : Nat) (lv : List (Nat × Value)) (pc : Nat) (st : List Value) : Prop :=
  GG p l e rmL_acts s m args below meth c D A s.heap 24 (MQ below (va_Qi (fun r (u9 : Mem × Mem × (Nat → Mem) × Mem × Mem × Mem × Mem × Mem × Mem × Mem) => post r u9.1 u9.2.1 u9.2.2.1 u9.2.2.2.1 u9.2.2.2.2.1 u9.2.2.2.2.2.1 u9.2.2.2.2.2.2.1 u9.2.2.2.2.2.2.2.1 u9.2.2.2.2.2.2.2.2.1 u9.2.2.2.2.2.2.2.2.2) (fun u9 t9 => Af D (tyz ct) A ((fun u9 => fl [wC ct g kc, wS ct (g 1) u9.1, wV ct g u9.2.1, wS ct (g 5) (u9.2.2.1 0), wS ct (g 6) (u9.2.2.1 1), wS ct (g 7) (u9.2.2.1 2), wS ct (g 8) (u9.2.2.1 3), wS ct (g 9) (u9.2.2.1 4), wS ct (g 10) (u9.2.2.1 5), wL ct (g 12) u9.2.2.2.1, wO ct (g 13) u9.2.2.2.2.1, wR ct (g 14) u9.2.2.2.2.2.1, wI 40 ct bp u9.2.2.2.2.2.2.1, wI 20 ct bc u9.2.2.2.2.2.2.2.1, wI 24 ct bq u9.2.2.2.2.2.2.2.2.1, wI 7 ct bn u9.2.2.2.2.2.2.2.2.2]) u9) t9) A)  args s 1 24 A) w9 kq jq lv pc st

set_option maxHeartbeats 4000000 in
set_option maxRecDepth 20000 in
theorem kL_acts_197 (l : Launch) (D : va_G) (ct : Nat → ClassId) (g : Nat → Nat → Nat) (bp : Nat) (bc : Nat) (bq : Nat) (bn : Nat) (br : Nat) (kc : Mem) (post : Int32 → Mem → Mem → (Nat → Mem) → Mem → Mem → Mem → Mem → Mem → Mem → Mem → Prop) {p : Program} {e : Env} {s : State} {m : MethodId} {args : Array Value} {below : List Frame} {meth : Method} {c : Code} {A : Nat → Prop} (X : Cx p s m args meth c cL_acts 24 RL wsL_acts D (tyz ct) A s.heap (some .boolean))  :
    ∀ (v : Mem) (b : Mem) (r : Nat → Mem) (y : Mem) (o : Mem) (x : Mem) (ap : Mem) (ac : Mem) (aq : Mem) (an : Mem) (ar : Mem) (z0 : Int32), PL_acts_197 kc post v b r y o x ap ac aq an ar z0 → GL_acts l D ct g bp bc bq bn br kc post p e s m args below meth c A (fl [wC ct g kc, wS ct (g 1) v, wV ct g b, wS ct (g 5) (r 0), wS ct (g 6) (r 1), wS ct (g 7) (r 2), wS ct (g 8) (r 3), wS ct (g 9) (r 4), wS ct (g 10) (r 5), wL ct (g 12) y, wO ct (g 13) o, wR ct (g 14) x, wI 40 ct bp ap, wI 20 ct bc ac, wI 24 ct bq aq, wI 7 ct bn an]) 0 0 [(0, .ref (g 0 0)), (1, .ref bp), (2, .ref bc), (3, .ref bq), (4, .ref bn)] 197 [.int z0] := by
  intro v b r y o x ap ac aq an ar z0 hw
  unfold PL_acts_197 at hw
  refine g_istore X [(10, .int z0), (0, .ref (g 0 0)), (1, .ref bp), (2, .ref bc), (3, .ref bq), (4, .ref bn)] dL_acts_197 (by decide) rfl ?_
  refine g_aload X 5 dL_acts_199 rfl ?_
  refine g_iconst (v := 1) X rfl dL_acts_201 ?_
  obtain ⟨h115, hw⟩ := hw
  refine g_iald X 87 0 dL_acts_202 rfl rfl h115 ?_
  refine g_if_eq X 236 dL_acts_203 (by decide) (fun c116 => ?_) (fun c116 => ?_)
  · replace hw := hw.1 c116
    refine g_iconst (v := 1) X rfl dL_acts_236 ?_
    refine g_goto X 241 dL_acts_237 (by decide) ?_
    exact g_zret X (v, b, r, y, o, x, ap, ac, aq, an) isB_1 hw rfl (Nat.le_of_ble_eq_true rfl) (Nat.le_of_ble_eq_true rfl) dL_acts_241
  · replace hw := hw.2 c116
    refine g_aload_n X 1 dL_acts_206 rfl rfl ?_
    refine g_iload X 0 dL_acts_207 rfl ?_
    refine g_ciV X [wC ct g kc, wS ct (g 1) v, wV ct g b, wS ct (g 5) (r 0), wS ct (g 6) (r 1), wS ct (g 7) (r 2), wS ct (g 8) (r 3), wS ct (g 9) (r 4), wS ct (g 10) (r 5), wL ct (g 12) y, wO ct (g 13) o, wR ct (g 14) x, wI 40 ct bp ap, wI 20 ct bc ac, wI 24 ct bq aq, wI 7 ct bn an] (fun (u118 : Mem × Mem × (Nat → Mem)) => [wC ct g kc, wS ct (g 1) u118.1, wV ct g u118.2.1, wS ct (g 5) (u118.2.2 0), wS ct (g 6) (u118.2.2 1), wS ct (g 7) (u118.2.2 2), wS ct (g 8) (u118.2.2 3), wS ct (g 9) (u118.2.2 4), wS ct (g 10) (u118.2.2 5), wL ct (g 12) y, wO ct (g 13) o, wR ct (g 14) x, wI 40 ct bp ap, wI 20 ct bc ac, wI 24 ct bq aq, wI 7 ct bn an]) (fun (u118 : Mem × Mem × (Nat → Mem)) => fl [wC ct g kc, wS ct (g 1) u118.1, wV ct g u118.2.1, wS ct (g 5) (u118.2.2 0), wS ct (g 6) (u118.2.2 1), wS ct (g 7) (u118.2.2 2), wS ct (g 8) (u118.2.2 3), wS ct (g 9) (u118.2.2 4), wS ct (g 10) (u118.2.2 5), wL ct (g 12) y, wO ct (g 13) o, wR ct (g 14) x, wI 40 ct bp ap, wI 20 ct bc ac, wI 24 ct bq aq, wI 7 ct bn an]) 16 [0, 1, 2, 3, 4, 5, 6, 7, 8] [9, 10, 11, 12, 13, 14, 15] 0 (kX7_child_nt l D ct g kc v b r z0 _ hw) (cwV 1 X.1.2.2.2.2 gL_acts_X7_child rfl rfl rfl (by decide +kernel) ⟨Nat.le_of_ble_eq_true rfl, Nat.le_of_ble_eq_true rfl⟩) dL_acts_209 rfl rfl (Nat.le_of_ble_eq_true rfl) ⟨Nat.le_of_ble_eq_true rfl, Nat.le_of_ble_eq_true rfl⟩ rfl rfl rfl (by decide) (fun _ => rfl) (fun _ => lq16_0_1_2_3_4_5_6_7_8) (fun _ => rfl) (fun _ => rfl) rfl rfl rfl (fun r117 u118 hw => ?_)
    obtain ⟨v119, hv119⟩ : ∃ z : Mem, z = u118.1 := ⟨_, rfl⟩
    rw [← hv119] at hw
    rw [← hv119]
    obtain ⟨b120, hb120⟩ : ∃ z : Mem, z = u118.2.1 := ⟨_, rfl⟩
    rw [← hb120] at hw
    rw [← hb120]
    obtain ⟨r121, hr121⟩ : ∃ z : Nat → Mem, z = u118.2.2 := ⟨_, rfl⟩
    rw [← hr121] at hw
    rw [← hr121]
    refine g_aload_n X 2 dL_acts_212 rfl rfl ?_
    refine g_aload_n X 4 dL_acts_213 rfl rfl ?_
    refine g_aload X 5 dL_acts_214 rfl ?_
    refine g_aload_n X 2 dL_acts_216 rfl rfl ?_
    refine g_iconst (v := 2) X rfl dL_acts_217 ?_
    refine g_aload_n X 3 dL_acts_218 rfl rfl ?_
    refine g_iconst (v := 2) X rfl dL_acts_219 ?_
    refine g_iload X 0 dL_acts_220 rfl ?_
    refine g_imul X dL_acts_222 ?_
    obtain ⟨h122, hw⟩ := hw
    refine g_iald X 85 0 dL_acts_223 rfl rfl h122 ?_
    refine g_imul X dL_acts_224 ?_
    obtain ⟨h123, hw⟩ := hw
    refine g_iald X 84 0 dL_acts_225 rfl rfl h123 ?_
    refine g_iconst (v := 1) X rfl dL_acts_226 ?_
    refine g_iadd X dL_acts_227 ?_
    refine g_iload X 0 dL_acts_228 rfl ?_
    refine g_ciS X [wC ct g kc, wS ct (g 1) v119, wV ct g b120, wS ct (g 5) (r121 0), wS ct (g 6) (r121 1), wS ct (g 7) (r121 2), wS ct (g 8) (r121 3), wS ct (g 9) (r121 4), wS ct (g 10) (r121 5), wL ct (g 12) y, wO ct (g 13) o, wR ct (g 14) x, wI 40 ct bp ap, wI 20 ct bc ac, wI 24 ct bq aq, wI 7 ct bn an] (fun (u125 : Mem × Mem × Mem) => [wC ct g kc, wS ct (g 1) v119, wV ct g b120, wS ct (g 5) (r121 0), wS ct (g 6) (r121 1), wS ct (g 7) (r121 2), wS ct (g 8) (r121 3), wS ct (g 9) (r121 4), wS ct (g 10) (r121 5), wL ct (g 12) y, wO ct (g 13) o, wR ct (g 14) x, wI 40 ct bp u125.1, wI 20 ct bc ac, wI 24 ct bq u125.2.1, wI 7 ct bn u125.2.2]) (fun (u125 : Mem × Mem × Mem) => fl [wC ct g kc, wS ct (g 1) v119, wV ct g b120, wS ct (g 5) (r121 0), wS ct (g 6) (r121 1), wS ct (g 7) (r121 2), wS ct (g 8) (r121 3), wS ct (g 9) (r121 4), wS ct (g 10) (r121 5), wL ct (g 12) y, wO ct (g 13) o, wR ct (g 14) x, wI 40 ct bp u125.1, wI 20 ct bc ac, wI 24 ct bq u125.2.1, wI 7 ct bn u125.2.2]) 16 [12, 14, 15] [0, 1, 2, 3, 4, 5, 6, 7, 8, 9, 10, 11, 13] (kL_comes l D ct bp bq bn ap aq an ((ap 0 (ix (2 * (ac 0 (ix (2 * z0)))))) + 1) z0 _ hw) (va_cwS 5 X.1.2.2.2.2 gL_acts_L_comes rfl rfl rfl (by decide +kernel) ⟨Nat.le_of_ble_eq_true rfl, Nat.le_of_ble_eq_true rfl⟩) dL_acts_230 rfl rfl (Nat.le_of_ble_eq_true rfl) ⟨Nat.le_of_ble_eq_true rfl, Nat.le_of_ble_eq_true rfl⟩ rfl rfl rfl (by decide) (fun _ => rfl) (fun _ => lq16_12_14_15) (fun _ => rfl) (fun _ => rfl) (fun r124 u125 hw => ?_)
    obtain ⟨ap126, hap126⟩ : ∃ z : Mem, z = u125.1 := ⟨_, rfl⟩
    rw [← hap126] at hw
    rw [← hap126]
    obtain ⟨aq127, haq127⟩ : ∃ z : Mem, z = u125.2.1 := ⟨_, rfl⟩
    rw [← haq127] at hw
    rw [← haq127]
    obtain ⟨an128, han128⟩ : ∃ z : Mem, z = u125.2.2 := ⟨_, rfl⟩
    rw [← han128] at hw
    rw [← han128]
    refine g_icmp_ne X 240 dL_acts_233 (by decide) (fun c129 => ?_) (fun c129 => ?_)
    · replace hw := hw.1 c129
      refine g_iconst (v := 0) X rfl dL_acts_240 ?_
      exact g_zret X (v119, b120, r121, y, o, x, ap126, ac, aq127, an128) isB_0 hw rfl (Nat.le_of_ble_eq_true rfl) (Nat.le_of_ble_eq_true rfl) dL_acts_241
    · replace hw := hw.2 c129
      refine g_iconst (v := 1) X rfl dL_acts_236 ?_
      refine g_goto X 241 dL_acts_237 (by decide) ?_
      exact g_zret X (v119, b120, r121, y, o, x, ap126, ac, aq127, an128) isB_1 hw rfl (Nat.le_of_ble_eq_true rfl) (Nat.le_of_ble_eq_true rfl) dL_acts_241

set_option maxHeartbeats 4000000 in
set_option maxRecDepth 20000 in
theorem kL_acts_495 (l : Launch) (D : va_G) (ct : Nat → ClassId) (g : Nat → Nat → Nat) (bp : Nat) (bc : Nat) (bq : Nat) (bn : Nat) (br : Nat) (kc : Mem) (post : Int32 → Mem → Mem → (Nat → Mem) → Mem → Mem → Mem → Mem → Mem → Mem → Mem → Prop) (K383 : Mem → Mem → (Nat → Mem) → Mem → Mem → Mem → Mem → Mem → Mem → Mem → Mem → Int32 → Int32 → Int32 → Int32 → Prop) (K404 : Mem → Mem → (Nat → Mem) → Mem → Mem → Mem → Mem → Mem → Mem → Mem → Mem → Int32 → Int32 → Int32 → Int32 → Int32 → Int32 → Int32 → Prop) {p : Program} {e : Env} {s : State} {m : MethodId} {args : Array Value} {below : List Frame} {meth : Method} {c : Code} {A : Nat → Prop} (X : Cx p s m args meth c cL_acts 24 RL wsL_acts D (tyz ct) A s.heap (some .boolean)) (hK383 : ∀ (v : Mem) (b : Mem) (r : Nat → Mem) (y : Mem) (o : Mem) (x : Mem) (ap : Mem) (ac : Mem) (aq : Mem) (an : Mem) (ar : Mem) (x7 : Int32) (x15 : Int32) (x16 : Int32) (x17 : Int32), K383 v b r y o x ap ac aq an ar x7 x15 x16 x17 → GL_acts l D ct g bp bc bq bn br kc post p e s m args below meth c A (fl [wC ct g kc, wS ct (g 1) v, wV ct g b, wS ct (g 5) (r 0), wS ct (g 6) (r 1), wS ct (g 7) (r 2), wS ct (g 8) (r 3), wS ct (g 9) (r 4), wS ct (g 10) (r 5), wL ct (g 12) y, wO ct (g 13) o, wR ct (g 14) x, wI 40 ct bp ap, wI 20 ct bc ac, wI 24 ct bq aq, wI 7 ct bn an, wI 24 ct br ar]) 1 24 [(0, .ref (g 0 0)), (1, .ref bp), (2, .ref bc), (3, .ref bq), (4, .ref bn), (7, .int x7), (14, .ref br), (15, .int x15), (16, .int x16), (17, .int x17)] 383 []) (hK404 : ∀ (v : Mem) (b : Mem) (r : Nat → Mem) (y : Mem) (o : Mem) (x : Mem) (ap : Mem) (ac : Mem) (aq : Mem) (an : Mem) (ar : Mem) (x7 : Int32) (x15 : Int32) (x16 : Int32) (x17 : Int32) (x18 : Int32) (x19 : Int32) (x20 : Int32), K404 v b r y o x ap ac aq an ar x7 x15 x16 x17 x18 x19 x20 → GL_acts l D ct g bp bc bq bn br kc post p e s m args below meth c A (fl [wC ct g kc, wS ct (g 1) v, wV ct g b, wS ct (g 5) (r 0), wS ct (g 6) (r 1), wS ct (g 7) (r 2), wS ct (g 8) (r 3), wS ct (g 9) (r 4), wS ct (g 10) (r 5), wL ct (g 12) y, wO ct (g 13) o, wR ct (g 14) x, wI 40 ct bp ap, wI 20 ct bc ac, wI 24 ct bq aq, wI 7 ct bn an, wI 24 ct br ar]) 1 24 [(0, .ref (g 0 0)), (1, .ref bp), (2, .ref bc), (3, .ref bq), (4, .ref bn), (7, .int x7), (14, .ref br), (15, .int x15), (16, .int x16), (17, .int x17), (18, .int x18), (19, .int x19), (20, .int x20)] 404 []) :
    ∀ (v : Mem) (b : Mem) (r : Nat → Mem) (y : Mem) (o : Mem) (x : Mem) (ap : Mem) (ac : Mem) (aq : Mem) (an : Mem) (ar : Mem) (x7 : Int32) (x15 : Int32) (x16 : Int32) (x17 : Int32) (x19 : Int32) (x20 : Int32) (x22 : Int32) (x23 : Int32) (z0 : Int32), PL_acts_495 kc post K383 K404 v b r y o x ap ac aq an ar x7 x15 x16 x17 x19 x20 x22 x23 z0 → GL_acts l D ct g bp bc bq bn br kc post p e s m args below meth c A (fl [wC ct g kc, wS ct (g 1) v, wV ct g b, wS ct (g 5) (r 0), wS ct (g 6) (r 1), wS ct (g 7) (r 2), wS ct (g 8) (r 3), wS ct (g 9) (r 4), wS ct (g 10) (r 5), wL ct (g 12) y, wO ct (g 13) o, wR ct (g 14) x, wI 40 ct bp ap, wI 20 ct bc ac, wI 24 ct bq aq, wI 7 ct bn an, wI 24 ct br ar]) 1 24 [(0, .ref (g 0 0)), (1, .ref bp), (2, .ref bc), (3, .ref bq), (4, .ref bn), (7, .int x7), (14, .ref br), (15, .int x15), (16, .int x16), (17, .int x17), (19, .int x19), (20, .int x20), (22, .int x22), (23, .int x23)] 495 [.int z0] := by
  intro v b r y o x ap ac aq an ar x7 x15 x16 x17 x19 x20 x22 x23 z0 hw
  unfold PL_acts_495 at hw
  refine g_istore X [(18, .int z0), (0, .ref (g 0 0)), (1, .ref bp), (2, .ref bc), (3, .ref bq), (4, .ref bn), (7, .int x7), (14, .ref br), (15, .int x15), (16, .int x16), (17, .int x17), (19, .int x19), (20, .int x20), (22, .int x22), (23, .int x23)] dL_acts_495 (by decide) rfl ?_
  refine g_iload X 14 dL_acts_497 rfl ?_
  refine g_if_eq X 507 dL_acts_499 (by decide) (fun c235 => ?_) (fun c235 => ?_)
  · replace hw := hw.1 c235
    refine g_iload X 11 dL_acts_507 rfl ?_
    refine g_istore X [(19, .int x19), (18, .int z0), (0, .ref (g 0 0)), (1, .ref bp), (2, .ref bc), (3, .ref bq), (4, .ref bn), (7, .int x7), (14, .ref br), (15, .int x15), (16, .int x16), (17, .int x17), (20, .int x20), (22, .int x22), (23, .int x23)] dL_acts_509 (by decide) rfl ?_
    refine g_iinc X [(20, .int (x20 + 1)), (19, .int x19), (18, .int z0), (0, .ref (g 0 0)), (1, .ref bp), (2, .ref bc), (3, .ref bq), (4, .ref bn), (7, .int x7), (14, .ref br), (15, .int x15), (16, .int x16), (17, .int x17), (22, .int x22), (23, .int x23)] 12 dL_acts_511 rfl rfl (by decide) rfl ?_
    refine g_goto X 404 dL_acts_514 (by decide) ?_
    refine g_sub [(0, .ref (g 0 0)), (1, .ref bp), (2, .ref bc), (3, .ref bq), (4, .ref bn), (7, .int x7), (14, .ref br), (15, .int x15), (16, .int x16), (17, .int x17), (18, .int z0), (19, .int x19), (20, .int (x20 + 1))] [3, 4, 5, 6, 7, 8, 9, 10, 11, 12, 2, 1, 0] rfl ?_
    exact hK404 _ _ _ _ _ _ _ _ _ _ _ _ _ _ _ _ _ _ hw
  · replace hw := hw.2 c235
    refine g_iload X 13 dL_acts_502 rfl ?_
    refine g_goto X 509 dL_acts_504 (by decide) ?_
    refine g_istore X [(19, .int x22), (18, .int z0), (0, .ref (g 0 0)), (1, .ref bp), (2, .ref bc), (3, .ref bq), (4, .ref bn), (7, .int x7), (14, .ref br), (15, .int x15), (16, .int x16), (17, .int x17), (20, .int x20), (22, .int x22), (23, .int x23)] dL_acts_509 (by decide) rfl ?_
    refine g_iinc X [(20, .int (x20 + 1)), (19, .int x22), (18, .int z0), (0, .ref (g 0 0)), (1, .ref bp), (2, .ref bc), (3, .ref bq), (4, .ref bn), (7, .int x7), (14, .ref br), (15, .int x15), (16, .int x16), (17, .int x17), (22, .int x22), (23, .int x23)] 12 dL_acts_511 rfl rfl (by decide) rfl ?_
    refine g_goto X 404 dL_acts_514 (by decide) ?_
    refine g_sub [(0, .ref (g 0 0)), (1, .ref bp), (2, .ref bc), (3, .ref bq), (4, .ref bn), (7, .int x7), (14, .ref br), (15, .int x15), (16, .int x16), (17, .int x17), (18, .int z0), (19, .int x22), (20, .int (x20 + 1))] [3, 4, 5, 6, 7, 8, 9, 10, 11, 12, 2, 1, 0] rfl ?_
    exact hK404 _ _ _ _ _ _ _ _ _ _ _ _ _ _ _ _ _ _ hw

set_option maxHeartbeats 4000000 in
set_option maxRecDepth 20000 in
theorem kL_acts_481 (l : Launch) (D : va_G) (ct : Nat → ClassId) (g : Nat → Nat → Nat) (bp : Nat) (bc : Nat) (bq : Nat) (bn : Nat) (br : Nat) (kc : Mem) (post : Int32 → Mem → Mem → (Nat → Mem) → Mem → Mem → Mem → Mem → Mem → Mem → Mem → Prop) (K383 : Mem → Mem → (Nat → Mem) → Mem → Mem → Mem → Mem → Mem → Mem → Mem → Mem → Int32 → Int32 → Int32 → Int32 → Prop) (K404 : Mem → Mem → (Nat → Mem) → Mem → Mem → Mem → Mem → Mem → Mem → Mem → Mem → Int32 → Int32 → Int32 → Int32 → Int32 → Int32 → Int32 → Prop) {p : Program} {e : Env} {s : State} {m : MethodId} {args : Array Value} {below : List Frame} {meth : Method} {c : Code} {A : Nat → Prop} (X : Cx p s m args meth c cL_acts 24 RL wsL_acts D (tyz ct) A s.heap (some .boolean)) (hK383 : ∀ (v : Mem) (b : Mem) (r : Nat → Mem) (y : Mem) (o : Mem) (x : Mem) (ap : Mem) (ac : Mem) (aq : Mem) (an : Mem) (ar : Mem) (x7 : Int32) (x15 : Int32) (x16 : Int32) (x17 : Int32), K383 v b r y o x ap ac aq an ar x7 x15 x16 x17 → GL_acts l D ct g bp bc bq bn br kc post p e s m args below meth c A (fl [wC ct g kc, wS ct (g 1) v, wV ct g b, wS ct (g 5) (r 0), wS ct (g 6) (r 1), wS ct (g 7) (r 2), wS ct (g 8) (r 3), wS ct (g 9) (r 4), wS ct (g 10) (r 5), wL ct (g 12) y, wO ct (g 13) o, wR ct (g 14) x, wI 40 ct bp ap, wI 20 ct bc ac, wI 24 ct bq aq, wI 7 ct bn an, wI 24 ct br ar]) 1 24 [(0, .ref (g 0 0)), (1, .ref bp), (2, .ref bc), (3, .ref bq), (4, .ref bn), (7, .int x7), (14, .ref br), (15, .int x15), (16, .int x16), (17, .int x17)] 383 []) (hK404 : ∀ (v : Mem) (b : Mem) (r : Nat → Mem) (y : Mem) (o : Mem) (x : Mem) (ap : Mem) (ac : Mem) (aq : Mem) (an : Mem) (ar : Mem) (x7 : Int32) (x15 : Int32) (x16 : Int32) (x17 : Int32) (x18 : Int32) (x19 : Int32) (x20 : Int32), K404 v b r y o x ap ac aq an ar x7 x15 x16 x17 x18 x19 x20 → GL_acts l D ct g bp bc bq bn br kc post p e s m args below meth c A (fl [wC ct g kc, wS ct (g 1) v, wV ct g b, wS ct (g 5) (r 0), wS ct (g 6) (r 1), wS ct (g 7) (r 2), wS ct (g 8) (r 3), wS ct (g 9) (r 4), wS ct (g 10) (r 5), wL ct (g 12) y, wO ct (g 13) o, wR ct (g 14) x, wI 40 ct bp ap, wI 20 ct bc ac, wI 24 ct bq aq, wI 7 ct bn an, wI 24 ct br ar]) 1 24 [(0, .ref (g 0 0)), (1, .ref bp), (2, .ref bc), (3, .ref bq), (4, .ref bn), (7, .int x7), (14, .ref br), (15, .int x15), (16, .int x16), (17, .int x17), (18, .int x18), (19, .int x19), (20, .int x20)] 404 []) :
    ∀ (v : Mem) (b : Mem) (r : Nat → Mem) (y : Mem) (o : Mem) (x : Mem) (ap : Mem) (ac : Mem) (aq : Mem) (an : Mem) (ar : Mem) (x7 : Int32) (x15 : Int32) (x16 : Int32) (x17 : Int32) (x18 : Int32) (x19 : Int32) (x20 : Int32) (x22 : Int32) (z0 : Int32), PL_acts_481 kc post K383 K404 v b r y o x ap ac aq an ar x7 x15 x16 x17 x18 x19 x20 x22 z0 → GL_acts l D ct g bp bc bq bn br kc post p e s m args below meth c A (fl [wC ct g kc, wS ct (g 1) v, wV ct g b, wS ct (g 5) (r 0), wS ct (g 6) (r 1), wS ct (g 7) (r 2), wS ct (g 8) (r 3), wS ct (g 9) (r 4), wS ct (g 10) (r 5), wL ct (g 12) y, wO ct (g 13) o, wR ct (g 14) x, wI 40 ct bp ap, wI 20 ct bc ac, wI 24 ct bq aq, wI 7 ct bn an, wI 24 ct br ar]) 1 24 [(0, .ref (g 0 0)), (1, .ref bp), (2, .ref bc), (3, .ref bq), (4, .ref bn), (7, .int x7), (14, .ref br), (15, .int x15), (16, .int x16), (17, .int x17), (18, .int x18), (19, .int x19), (20, .int x20), (22, .int x22)] 481 [.int z0] := by
  intro v b r y o x ap ac aq an ar x7 x15 x16 x17 x18 x19 x20 x22 z0 hw
  unfold PL_acts_481 at hw
  refine g_istore X [(23, .int z0), (0, .ref (g 0 0)), (1, .ref bp), (2, .ref bc), (3, .ref bq), (4, .ref bn), (7, .int x7), (14, .ref br), (15, .int x15), (16, .int x16), (17, .int x17), (18, .int x18), (19, .int x19), (20, .int x20), (22, .int x22)] dL_acts_481 (by decide) rfl ?_
  refine g_iload X 0 dL_acts_483 rfl ?_
  refine g_if_eq X 493 dL_acts_485 (by decide) (fun c234 => ?_) (fun c234 => ?_)
  · replace hw := hw.1 c234
    refine g_iload X 11 dL_acts_493 rfl ?_
    refine g_sub [(0, .ref (g 0 0)), (1, .ref bp), (2, .ref bc), (3, .ref bq), (4, .ref bn), (7, .int x7), (14, .ref br), (15, .int x15), (16, .int x16), (17, .int x17), (19, .int x19), (20, .int x20), (22, .int x22), (23, .int z0)] [1, 2, 3, 4, 5, 6, 7, 8, 9, 10, 12, 13, 14, 0] rfl ?_
    exact kL_acts_495 l D ct g bp bc bq bn br kc post _ _ X hK383 hK404 _ _ _ _ _ _ _ _ _ _ _ _ _ _ _ _ _ _ _ _ hw
  · replace hw := hw.2 c234
    refine g_iload X 13 dL_acts_488 rfl ?_
    refine g_goto X 495 dL_acts_490 (by decide) ?_
    refine g_sub [(0, .ref (g 0 0)), (1, .ref bp), (2, .ref bc), (3, .ref bq), (4, .ref bn), (7, .int x7), (14, .ref br), (15, .int x15), (16, .int x16), (17, .int x17), (19, .int x19), (20, .int x20), (22, .int x22), (23, .int z0)] [1, 2, 3, 4, 5, 6, 7, 8, 9, 10, 12, 13, 14, 0] rfl ?_
    exact kL_acts_495 l D ct g bp bc bq bn br kc post _ _ X hK383 hK404 _ _ _ _ _ _ _ _ _ _ _ _ _ _ _ _ _ _ _ _ hw

set_option maxHeartbeats 4000000 in
set_option maxRecDepth 20000 in
theorem kL_acts_480 (l : Launch) (D : va_G) (ct : Nat → ClassId) (g : Nat → Nat → Nat) (bp : Nat) (bc : Nat) (bq : Nat) (bn : Nat) (br : Nat) (kc : Mem) (post : Int32 → Mem → Mem → (Nat → Mem) → Mem → Mem → Mem → Mem → Mem → Mem → Mem → Prop) (K383 : Mem → Mem → (Nat → Mem) → Mem → Mem → Mem → Mem → Mem → Mem → Mem → Mem → Int32 → Int32 → Int32 → Int32 → Prop) (K404 : Mem → Mem → (Nat → Mem) → Mem → Mem → Mem → Mem → Mem → Mem → Mem → Mem → Int32 → Int32 → Int32 → Int32 → Int32 → Int32 → Int32 → Prop) {p : Program} {e : Env} {s : State} {m : MethodId} {args : Array Value} {below : List Frame} {meth : Method} {c : Code} {A : Nat → Prop} (X : Cx p s m args meth c cL_acts 24 RL wsL_acts D (tyz ct) A s.heap (some .boolean)) (hK383 : ∀ (v : Mem) (b : Mem) (r : Nat → Mem) (y : Mem) (o : Mem) (x : Mem) (ap : Mem) (ac : Mem) (aq : Mem) (an : Mem) (ar : Mem) (x7 : Int32) (x15 : Int32) (x16 : Int32) (x17 : Int32), K383 v b r y o x ap ac aq an ar x7 x15 x16 x17 → GL_acts l D ct g bp bc bq bn br kc post p e s m args below meth c A (fl [wC ct g kc, wS ct (g 1) v, wV ct g b, wS ct (g 5) (r 0), wS ct (g 6) (r 1), wS ct (g 7) (r 2), wS ct (g 8) (r 3), wS ct (g 9) (r 4), wS ct (g 10) (r 5), wL ct (g 12) y, wO ct (g 13) o, wR ct (g 14) x, wI 40 ct bp ap, wI 20 ct bc ac, wI 24 ct bq aq, wI 7 ct bn an, wI 24 ct br ar]) 1 24 [(0, .ref (g 0 0)), (1, .ref bp), (2, .ref bc), (3, .ref bq), (4, .ref bn), (7, .int x7), (14, .ref br), (15, .int x15), (16, .int x16), (17, .int x17)] 383 []) (hK404 : ∀ (v : Mem) (b : Mem) (r : Nat → Mem) (y : Mem) (o : Mem) (x : Mem) (ap : Mem) (ac : Mem) (aq : Mem) (an : Mem) (ar : Mem) (x7 : Int32) (x15 : Int32) (x16 : Int32) (x17 : Int32) (x18 : Int32) (x19 : Int32) (x20 : Int32), K404 v b r y o x ap ac aq an ar x7 x15 x16 x17 x18 x19 x20 → GL_acts l D ct g bp bc bq bn br kc post p e s m args below meth c A (fl [wC ct g kc, wS ct (g 1) v, wV ct g b, wS ct (g 5) (r 0), wS ct (g 6) (r 1), wS ct (g 7) (r 2), wS ct (g 8) (r 3), wS ct (g 9) (r 4), wS ct (g 10) (r 5), wL ct (g 12) y, wO ct (g 13) o, wR ct (g 14) x, wI 40 ct bp ap, wI 20 ct bc ac, wI 24 ct bq aq, wI 7 ct bn an, wI 24 ct br ar]) 1 24 [(0, .ref (g 0 0)), (1, .ref bp), (2, .ref bc), (3, .ref bq), (4, .ref bn), (7, .int x7), (14, .ref br), (15, .int x15), (16, .int x16), (17, .int x17), (18, .int x18), (19, .int x19), (20, .int x20)] 404 []) :
    ∀ (v : Mem) (b : Mem) (r : Nat → Mem) (y : Mem) (o : Mem) (x : Mem) (ap : Mem) (ac : Mem) (aq : Mem) (an : Mem) (ar : Mem) (x7 : Int32) (x15 : Int32) (x16 : Int32) (x17 : Int32) (x18 : Int32) (x19 : Int32) (x20 : Int32) (x22 : Int32), PL_acts_480 kc post K383 K404 v b r y o x ap ac aq an ar x7 x15 x16 x17 x18 x19 x20 x22 → GL_acts l D ct g bp bc bq bn br kc post p e s m args below meth c A (fl [wC ct g kc, wS ct (g 1) v, wV ct g b, wS ct (g 5) (r 0), wS ct (g 6) (r 1), wS ct (g 7) (r 2), wS ct (g 8) (r 3), wS ct (g 9) (r 4), wS ct (g 10) (r 5), wL ct (g 12) y, wO ct (g 13) o, wR ct (g 14) x, wI 40 ct bp ap, wI 20 ct bc ac, wI 24 ct bq aq, wI 7 ct bn an, wI 24 ct br ar]) 1 24 [(0, .ref (g 0 0)), (1, .ref bp), (2, .ref bc), (3, .ref bq), (4, .ref bn), (7, .int x7), (14, .ref br), (15, .int x15), (16, .int x16), (17, .int x17), (18, .int x18), (19, .int x19), (20, .int x20), (22, .int x22)] 480 [] := by
  intro v b r y o x ap ac aq an ar x7 x15 x16 x17 x18 x19 x20 x22 hw
  unfold PL_acts_480 at hw
  refine g_iconst (v := 0) X rfl dL_acts_480 ?_
  refine g_sub [(0, .ref (g 0 0)), (1, .ref bp), (2, .ref bc), (3, .ref bq), (4, .ref bn), (7, .int x7), (14, .ref br), (15, .int x15), (16, .int x16), (17, .int x17), (18, .int x18), (19, .int x19), (20, .int x20), (22, .int x22)] [0, 1, 2, 3, 4, 5, 6, 7, 8, 9, 10, 11, 12, 13] rfl ?_
  exact kL_acts_481 l D ct g bp bc bq bn br kc post _ _ X hK383 hK404 _ _ _ _ _ _ _ _ _ _ _ _ _ _ _ _ _ _ _ _ hw

set_option maxHeartbeats 4000000 in
set_option maxRecDepth 20000 in
theorem kL_acts_476 (l : Launch) (D : va_G) (ct : Nat → ClassId) (g : Nat → Nat → Nat) (bp : Nat) (bc : Nat) (bq : Nat) (bn : Nat) (br : Nat) (kc : Mem) (post : Int32 → Mem → Mem → (Nat → Mem) → Mem → Mem → Mem → Mem → Mem → Mem → Mem → Prop) (K383 : Mem → Mem → (Nat → Mem) → Mem → Mem → Mem → Mem → Mem → Mem → Mem → Mem → Int32 → Int32 → Int32 → Int32 → Prop) (K404 : Mem → Mem → (Nat → Mem) → Mem → Mem → Mem → Mem → Mem → Mem → Mem → Mem → Int32 → Int32 → Int32 → Int32 → Int32 → Int32 → Int32 → Prop) {p : Program} {e : Env} {s : State} {m : MethodId} {args : Array Value} {below : List Frame} {meth : Method} {c : Code} {A : Nat → Prop} (X : Cx p s m args meth c cL_acts 24 RL wsL_acts D (tyz ct) A s.heap (some .boolean)) (hK383 : ∀ (v : Mem) (b : Mem) (r : Nat → Mem) (y : Mem) (o : Mem) (x : Mem) (ap : Mem) (ac : Mem) (aq : Mem) (an : Mem) (ar : Mem) (x7 : Int32) (x15 : Int32) (x16 : Int32) (x17 : Int32), K383 v b r y o x ap ac aq an ar x7 x15 x16 x17 → GL_acts l D ct g bp bc bq bn br kc post p e s m args below meth c A (fl [wC ct g kc, wS ct (g 1) v, wV ct g b, wS ct (g 5) (r 0), wS ct (g 6) (r 1), wS ct (g 7) (r 2), wS ct (g 8) (r 3), wS ct (g 9) (r 4), wS ct (g 10) (r 5), wL ct (g 12) y, wO ct (g 13) o, wR ct (g 14) x, wI 40 ct bp ap, wI 20 ct bc ac, wI 24 ct bq aq, wI 7 ct bn an, wI 24 ct br ar]) 1 24 [(0, .ref (g 0 0)), (1, .ref bp), (2, .ref bc), (3, .ref bq), (4, .ref bn), (7, .int x7), (14, .ref br), (15, .int x15), (16, .int x16), (17, .int x17)] 383 []) (hK404 : ∀ (v : Mem) (b : Mem) (r : Nat → Mem) (y : Mem) (o : Mem) (x : Mem) (ap : Mem) (ac : Mem) (aq : Mem) (an : Mem) (ar : Mem) (x7 : Int32) (x15 : Int32) (x16 : Int32) (x17 : Int32) (x18 : Int32) (x19 : Int32) (x20 : Int32), K404 v b r y o x ap ac aq an ar x7 x15 x16 x17 x18 x19 x20 → GL_acts l D ct g bp bc bq bn br kc post p e s m args below meth c A (fl [wC ct g kc, wS ct (g 1) v, wV ct g b, wS ct (g 5) (r 0), wS ct (g 6) (r 1), wS ct (g 7) (r 2), wS ct (g 8) (r 3), wS ct (g 9) (r 4), wS ct (g 10) (r 5), wL ct (g 12) y, wO ct (g 13) o, wR ct (g 14) x, wI 40 ct bp ap, wI 20 ct bc ac, wI 24 ct bq aq, wI 7 ct bn an, wI 24 ct br ar]) 1 24 [(0, .ref (g 0 0)), (1, .ref bp), (2, .ref bc), (3, .ref bq), (4, .ref bn), (7, .int x7), (14, .ref br), (15, .int x15), (16, .int x16), (17, .int x17), (18, .int x18), (19, .int x19), (20, .int x20)] 404 []) :
    ∀ (v : Mem) (b : Mem) (r : Nat → Mem) (y : Mem) (o : Mem) (x : Mem) (ap : Mem) (ac : Mem) (aq : Mem) (an : Mem) (ar : Mem) (x7 : Int32) (x15 : Int32) (x16 : Int32) (x17 : Int32) (x18 : Int32) (x19 : Int32) (x20 : Int32) (x22 : Int32), PL_acts_476 kc post K383 K404 v b r y o x ap ac aq an ar x7 x15 x16 x17 x18 x19 x20 x22 → GL_acts l D ct g bp bc bq bn br kc post p e s m args below meth c A (fl [wC ct g kc, wS ct (g 1) v, wV ct g b, wS ct (g 5) (r 0), wS ct (g 6) (r 1), wS ct (g 7) (r 2), wS ct (g 8) (r 3), wS ct (g 9) (r 4), wS ct (g 10) (r 5), wL ct (g 12) y, wO ct (g 13) o, wR ct (g 14) x, wI 40 ct bp ap, wI 20 ct bc ac, wI 24 ct bq aq, wI 7 ct bn an, wI 24 ct br ar]) 1 24 [(0, .ref (g 0 0)), (1, .ref bp), (2, .ref bc), (3, .ref bq), (4, .ref bn), (7, .int x7), (14, .ref br), (15, .int x15), (16, .int x16), (17, .int x17), (18, .int x18), (19, .int x19), (20, .int x20), (22, .int x22)] 476 [] := by
  intro v b r y o x ap ac aq an ar x7 x15 x16 x17 x18 x19 x20 x22 hw
  unfold PL_acts_476 at hw
  refine g_iconst (v := 1) X rfl dL_acts_476 ?_
  refine g_goto X 481 dL_acts_477 (by decide) ?_
  refine g_sub [(0, .ref (g 0 0)), (1, .ref bp), (2, .ref bc), (3, .ref bq), (4, .ref bn), (7, .int x7), (14, .ref br), (15, .int x15), (16, .int x16), (17, .int x17), (18, .int x18), (19, .int x19), (20, .int x20), (22, .int x22)] [0, 1, 2, 3, 4, 5, 6, 7, 8, 9, 10, 11, 12, 13] rfl ?_
  exact kL_acts_481 l D ct g bp bc bq bn br kc post _ _ X hK383 hK404 _ _ _ _ _ _ _ _ _ _ _ _ _ _ _ _ _ _ _ _ hw

set_option maxHeartbeats 4000000 in
set_option maxRecDepth 20000 in
theorem kL_acts_452 (l : Launch) (D : va_G) (ct : Nat → ClassId) (g : Nat → Nat → Nat) (bp : Nat) (bc : Nat) (bq : Nat) (bn : Nat) (br : Nat) (kc : Mem) (post : Int32 → Mem → Mem → (Nat → Mem) → Mem → Mem → Mem → Mem → Mem → Mem → Mem → Prop) (K383 : Mem → Mem → (Nat → Mem) → Mem → Mem → Mem → Mem → Mem → Mem → Mem → Mem → Int32 → Int32 → Int32 → Int32 → Prop) (K404 : Mem → Mem → (Nat → Mem) → Mem → Mem → Mem → Mem → Mem → Mem → Mem → Mem → Int32 → Int32 → Int32 → Int32 → Int32 → Int32 → Int32 → Prop) {p : Program} {e : Env} {s : State} {m : MethodId} {args : Array Value} {below : List Frame} {meth : Method} {c : Code} {A : Nat → Prop} (X : Cx p s m args meth c cL_acts 24 RL wsL_acts D (tyz ct) A s.heap (some .boolean)) (hK383 : ∀ (v : Mem) (b : Mem) (r : Nat → Mem) (y : Mem) (o : Mem) (x : Mem) (ap : Mem) (ac : Mem) (aq : Mem) (an : Mem) (ar : Mem) (x7 : Int32) (x15 : Int32) (x16 : Int32) (x17 : Int32), K383 v b r y o x ap ac aq an ar x7 x15 x16 x17 → GL_acts l D ct g bp bc bq bn br kc post p e s m args below meth c A (fl [wC ct g kc, wS ct (g 1) v, wV ct g b, wS ct (g 5) (r 0), wS ct (g 6) (r 1), wS ct (g 7) (r 2), wS ct (g 8) (r 3), wS ct (g 9) (r 4), wS ct (g 10) (r 5), wL ct (g 12) y, wO ct (g 13) o, wR ct (g 14) x, wI 40 ct bp ap, wI 20 ct bc ac, wI 24 ct bq aq, wI 7 ct bn an, wI 24 ct br ar]) 1 24 [(0, .ref (g 0 0)), (1, .ref bp), (2, .ref bc), (3, .ref bq), (4, .ref bn), (7, .int x7), (14, .ref br), (15, .int x15), (16, .int x16), (17, .int x17)] 383 []) (hK404 : ∀ (v : Mem) (b : Mem) (r : Nat → Mem) (y : Mem) (o : Mem) (x : Mem) (ap : Mem) (ac : Mem) (aq : Mem) (an : Mem) (ar : Mem) (x7 : Int32) (x15 : Int32) (x16 : Int32) (x17 : Int32) (x18 : Int32) (x19 : Int32) (x20 : Int32), K404 v b r y o x ap ac aq an ar x7 x15 x16 x17 x18 x19 x20 → GL_acts l D ct g bp bc bq bn br kc post p e s m args below meth c A (fl [wC ct g kc, wS ct (g 1) v, wV ct g b, wS ct (g 5) (r 0), wS ct (g 6) (r 1), wS ct (g 7) (r 2), wS ct (g 8) (r 3), wS ct (g 9) (r 4), wS ct (g 10) (r 5), wL ct (g 12) y, wO ct (g 13) o, wR ct (g 14) x, wI 40 ct bp ap, wI 20 ct bc ac, wI 24 ct bq aq, wI 7 ct bn an, wI 24 ct br ar]) 1 24 [(0, .ref (g 0 0)), (1, .ref bp), (2, .ref bc), (3, .ref bq), (4, .ref bn), (7, .int x7), (14, .ref br), (15, .int x15), (16, .int x16), (17, .int x17), (18, .int x18), (19, .int x19), (20, .int x20)] 404 []) :
    ∀ (v : Mem) (b : Mem) (r : Nat → Mem) (y : Mem) (o : Mem) (x : Mem) (ap : Mem) (ac : Mem) (aq : Mem) (an : Mem) (ar : Mem) (x7 : Int32) (x15 : Int32) (x16 : Int32) (x17 : Int32) (x18 : Int32) (x19 : Int32) (x20 : Int32) (z0 : Int32), PL_acts_452 kc post K383 K404 v b r y o x ap ac aq an ar x7 x15 x16 x17 x18 x19 x20 z0 → GL_acts l D ct g bp bc bq bn br kc post p e s m args below meth c A (fl [wC ct g kc, wS ct (g 1) v, wV ct g b, wS ct (g 5) (r 0), wS ct (g 6) (r 1), wS ct (g 7) (r 2), wS ct (g 8) (r 3), wS ct (g 9) (r 4), wS ct (g 10) (r 5), wL ct (g 12) y, wO ct (g 13) o, wR ct (g 14) x, wI 40 ct bp ap, wI 20 ct bc ac, wI 24 ct bq aq, wI 7 ct bn an, wI 24 ct br ar]) 1 24 [(0, .ref (g 0 0)), (1, .ref bp), (2, .ref bc), (3, .ref bq), (4, .ref bn), (7, .int x7), (14, .ref br), (15, .int x15), (16, .int x16), (17, .int x17), (18, .int x18), (19, .int x19), (20, .int x20)] 452 [.int z0] := by
  intro v b r y o x ap ac aq an ar x7 x15 x16 x17 x18 x19 x20 z0 hw
  unfold PL_acts_452 at hw
  refine g_istore X [(22, .int z0), (0, .ref (g 0 0)), (1, .ref bp), (2, .ref bc), (3, .ref bq), (4, .ref bn), (7, .int x7), (14, .ref br), (15, .int x15), (16, .int x16), (17, .int x17), (18, .int x18), (19, .int x19), (20, .int x20)] dL_acts_452 (by decide) rfl ?_
  refine g_iload X 9 dL_acts_454 rfl ?_
  refine g_iload X 13 dL_acts_456 rfl ?_
  refine g_ishr X dL_acts_458 ?_
  refine g_iconst (v := 1) X rfl dL_acts_459 ?_
  refine g_iand X dL_acts_460 ?_
  refine g_if_ne X 480 dL_acts_461 (by decide) (fun c233 => ?_) (fun c233 => ?_)
  · replace hw := hw.1 c233
    refine g_sub [(0, .ref (g 0 0)), (1, .ref bp), (2, .ref bc), (3, .ref bq), (4, .ref bn), (7, .int x7), (14, .ref br), (15, .int x15), (16, .int x16), (17, .int x17), (18, .int x18), (19, .int x19), (20, .int x20), (22, .int z0)] [1, 2, 3, 4, 5, 6, 7, 8, 9, 10, 11, 12, 13, 0] rfl ?_
    exact kL_acts_480 l D ct g bp bc bq bn br kc post _ _ X hK383 hK404 _ _ _ _ _ _ _ _ _ _ _ _ _ _ _ _ _ _ _ hw
  · replace hw := hw.2 c233
    refine g_iload X 11 dL_acts_464 rfl ?_
    refine g_if_lt X 476 dL_acts_466 (by decide) (fun c236 => ?_) (fun c236 => ?_)
    · replace hw := hw.1 c236
      refine g_sub [(0, .ref (g 0 0)), (1, .ref bp), (2, .ref bc), (3, .ref bq), (4, .ref bn), (7, .int x7), (14, .ref br), (15, .int x15), (16, .int x16), (17, .int x17), (18, .int x18), (19, .int x19), (20, .int x20), (22, .int z0)] [1, 2, 3, 4, 5, 6, 7, 8, 9, 10, 11, 12, 13, 0] rfl ?_
      exact kL_acts_476 l D ct g bp bc bq bn br kc post _ _ X hK383 hK404 _ _ _ _ _ _ _ _ _ _ _ _ _ _ _ _ _ _ _ hw
    · replace hw := hw.2 c236
      refine g_iload X 0 dL_acts_469 rfl ?_
      refine g_iload X 12 dL_acts_471 rfl ?_
      refine g_icmp_ge X 480 dL_acts_473 (by decide) (fun c237 => ?_) (fun c237 => ?_)
      · replace hw := hw.1 c237
        refine g_sub [(0, .ref (g 0 0)), (1, .ref bp), (2, .ref bc), (3, .ref bq), (4, .ref bn), (7, .int x7), (14, .ref br), (15, .int x15), (16, .int x16), (17, .int x17), (18, .int x18), (19, .int x19), (20, .int x20), (22, .int z0)] [1, 2, 3, 4, 5, 6, 7, 8, 9, 10, 11, 12, 13, 0] rfl ?_
        exact kL_acts_480 l D ct g bp bc bq bn br kc post _ _ X hK383 hK404 _ _ _ _ _ _ _ _ _ _ _ _ _ _ _ _ _ _ _ hw
      · replace hw := hw.2 c237
        refine g_sub [(0, .ref (g 0 0)), (1, .ref bp), (2, .ref bc), (3, .ref bq), (4, .ref bn), (7, .int x7), (14, .ref br), (15, .int x15), (16, .int x16), (17, .int x17), (18, .int x18), (19, .int x19), (20, .int x20), (22, .int z0)] [1, 2, 3, 4, 5, 6, 7, 8, 9, 10, 11, 12, 13, 0] rfl ?_
        exact kL_acts_476 l D ct g bp bc bq bn br kc post _ _ X hK383 hK404 _ _ _ _ _ _ _ _ _ _ _ _ _ _ _ _ _ _ _ hw

set_option maxHeartbeats 4000000 in
set_option maxRecDepth 20000 in
theorem kL_acts_404 (l : Launch) (D : va_G) (ct : Nat → ClassId) (g : Nat → Nat → Nat) (bp : Nat) (bc : Nat) (bq : Nat) (bn : Nat) (br : Nat) (kc : Mem) (post : Int32 → Mem → Mem → (Nat → Mem) → Mem → Mem → Mem → Mem → Mem → Mem → Mem → Prop) (K383 : Mem → Mem → (Nat → Mem) → Mem → Mem → Mem → Mem → Mem → Mem → Mem → Mem → Int32 → Int32 → Int32 → Int32 → Prop) {p : Program} {e : Env} {s : State} {m : MethodId} {args : Array Value} {below : List Frame} {meth : Method} {c : Code} {A : Nat → Prop} (X : Cx p s m args meth c cL_acts 24 RL wsL_acts D (tyz ct) A s.heap (some .boolean)) (hK383 : ∀ (v : Mem) (b : Mem) (r : Nat → Mem) (y : Mem) (o : Mem) (x : Mem) (ap : Mem) (ac : Mem) (aq : Mem) (an : Mem) (ar : Mem) (x7 : Int32) (x15 : Int32) (x16 : Int32) (x17 : Int32), K383 v b r y o x ap ac aq an ar x7 x15 x16 x17 → GL_acts l D ct g bp bc bq bn br kc post p e s m args below meth c A (fl [wC ct g kc, wS ct (g 1) v, wV ct g b, wS ct (g 5) (r 0), wS ct (g 6) (r 1), wS ct (g 7) (r 2), wS ct (g 8) (r 3), wS ct (g 9) (r 4), wS ct (g 10) (r 5), wL ct (g 12) y, wO ct (g 13) o, wR ct (g 14) x, wI 40 ct bp ap, wI 20 ct bc ac, wI 24 ct bq aq, wI 7 ct bn an, wI 24 ct br ar]) 1 24 [(0, .ref (g 0 0)), (1, .ref bp), (2, .ref bc), (3, .ref bq), (4, .ref bn), (7, .int x7), (14, .ref br), (15, .int x15), (16, .int x16), (17, .int x17)] 383 []) :
    ∀ (n : Nat) (v : Mem) (b : Mem) (r : Nat → Mem) (y : Mem) (o : Mem) (x : Mem) (ap : Mem) (ac : Mem) (aq : Mem) (an : Mem) (ar : Mem) (x7 : Int32) (x15 : Int32) (x16 : Int32) (x17 : Int32) (x18 : Int32) (x19 : Int32) (x20 : Int32), PL_acts_404 kc post K383 n v b r y o x ap ac aq an ar x7 x15 x16 x17 x18 x19 x20 → GL_acts l D ct g bp bc bq bn br kc post p e s m args below meth c A (fl [wC ct g kc, wS ct (g 1) v, wV ct g b, wS ct (g 5) (r 0), wS ct (g 6) (r 1), wS ct (g 7) (r 2), wS ct (g 8) (r 3), wS ct (g 9) (r 4), wS ct (g 10) (r 5), wL ct (g 12) y, wO ct (g 13) o, wR ct (g 14) x, wI 40 ct bp ap, wI 20 ct bc ac, wI 24 ct bq aq, wI 7 ct bn an, wI 24 ct br ar]) 1 24 [(0, .ref (g 0 0)), (1, .ref bp), (2, .ref bc), (3, .ref bq), (4, .ref bn), (7, .int x7), (14, .ref br), (15, .int x15), (16, .int x16), (17, .int x17), (18, .int x18), (19, .int x19), (20, .int x20)] 404 [] := by
  intro n
  induction n with
  | zero =>
    intro v b r y o x ap ac aq an ar x7 x15 x16 x17 x18 x19 x20 hw
    exact hw.elim
  | succ n ih =>
    intro v b r y o x ap ac aq an ar x7 x15 x16 x17 x18 x19 x20 hw
    unfold PL_acts_404 at hw
    refine g_iload X 12 dL_acts_404 rfl ?_
    refine g_aload X 4 dL_acts_406 rfl ?_
    refine g_iconst (v := 3) X rfl dL_acts_408 ?_
    refine g_iload X 5 dL_acts_409 rfl ?_
    refine g_iadd X dL_acts_411 ?_
    obtain ⟨h218, hw⟩ := hw
    refine g_iald X 87 0 dL_acts_412 rfl rfl h218 ?_
    refine g_icmp_ge X 517 dL_acts_413 (by decide) (fun c219 => ?_) (fun c219 => ?_)
    · replace hw := hw.1 c219
      refine g_iload X 8 dL_acts_517 rfl ?_
      refine g_iconst (v := 1) X rfl dL_acts_519 ?_
      refine g_iload X 10 dL_acts_520 rfl ?_
      refine g_ishl X dL_acts_522 ?_
      refine g_ior X dL_acts_523 ?_
      refine g_topi (fun q220 hq220 => ?_)
      replace hw := hw q220 hq220
      refine g_istore X [(16, .int q220), (0, .ref (g 0 0)), (1, .ref bp), (2, .ref bc), (3, .ref bq), (4, .ref bn), (7, .int x7), (14, .ref br), (15, .int x15), (17, .int x17), (18, .int x18), (19, .int x19), (20, .int x20)] dL_acts_524 (by decide) rfl ?_
      refine g_aload X 7 dL_acts_526 rfl ?_
      refine g_bipush (v := 6) X rfl dL_acts_528 ?_
      refine g_iload X 6 dL_acts_530 rfl ?_
      refine g_imul X dL_acts_532 ?_
      refine g_iload X 9 dL_acts_533 rfl ?_
      refine g_iadd X dL_acts_535 ?_
      refine g_aload_n X 4 dL_acts_536 rfl rfl ?_
      refine g_bipush (v := 6) X rfl dL_acts_537 ?_
      refine g_iload X 6 dL_acts_539 rfl ?_
      refine g_imul X dL_acts_541 ?_
      refine g_iload X 10 dL_acts_542 rfl ?_
      refine g_iadd X dL_acts_544 ?_
      obtain ⟨h221, hw⟩ := hw
      refine g_iald X 86 0 dL_acts_545 rfl rfl h221 ?_
      obtain ⟨h222, hw⟩ := hw
      refine g_iast X (fun z => fl [wC ct g kc, wS ct (g 1) v, wV ct g b, wS ct (g 5) (r 0), wS ct (g 6) (r 1), wS ct (g 7) (r 2), wS ct (g 8) (r 3), wS ct (g 9) (r 4), wS ct (g 10) (r 5), wL ct (g 12) y, wO ct (g 13) o, wR ct (g 14) x, wI 40 ct bp ap, wI 20 ct bc ac, wI 24 ct bq aq, wI 7 ct bn an, wI 24 ct br z]) ar 0 88 0 dL_acts_546 rfl rfl h222 rfl (fun ar223 har223 => ?_)
      replace hw := hw ar223 har223
      refine g_iload X 8 dL_acts_547 rfl ?_
      refine g_iload X 10 dL_acts_549 rfl ?_
      refine g_iload X 9 dL_acts_551 rfl ?_
      refine g_icmp_ne X 560 dL_acts_553 (by decide) (fun c224 => ?_) (fun c224 => ?_)
      · replace hw := hw.1 c224
        refine g_iconst (v := 1) X rfl dL_acts_560 ?_
        refine g_iadd X dL_acts_561 ?_
        refine g_topi (fun q225 hq225 => ?_)
        replace hw := hw q225 hq225
        refine g_istore X [(15, .int q225), (16, .int q220), (0, .ref (g 0 0)), (1, .ref bp), (2, .ref bc), (3, .ref bq), (4, .ref bn), (7, .int x7), (14, .ref br), (17, .int x17), (18, .int x18), (19, .int x19), (20, .int x20)] dL_acts_562 (by decide) rfl ?_
        refine g_iinc X [(17, .int (x17 + 1)), (15, .int q225), (16, .int q220), (0, .ref (g 0 0)), (1, .ref bp), (2, .ref bc), (3, .ref bq), (4, .ref bn), (7, .int x7), (14, .ref br), (18, .int x18), (19, .int x19), (20, .int x20)] 9 dL_acts_564 rfl rfl (by decide) rfl ?_
        refine g_goto X 383 dL_acts_567 (by decide) ?_
        refine g_sub [(0, .ref (g 0 0)), (1, .ref bp), (2, .ref bc), (3, .ref bq), (4, .ref bn), (7, .int x7), (14, .ref br), (15, .int q225), (16, .int q220), (17, .int (x17 + 1))] [3, 4, 5, 6, 7, 8, 9, 1, 2, 0] rfl ?_
        exact hK383 _ _ _ _ _ _ _ _ _ _ _ _ _ _ _ hw
      · replace hw := hw.2 c224
        refine g_iconst (v := 0) X rfl dL_acts_556 ?_
        refine g_goto X 561 dL_acts_557 (by decide) ?_
        refine g_iadd X dL_acts_561 ?_
        refine g_topi (fun q226 hq226 => ?_)
        replace hw := hw q226 hq226
        refine g_istore X [(15, .int q226), (16, .int q220), (0, .ref (g 0 0)), (1, .ref bp), (2, .ref bc), (3, .ref bq), (4, .ref bn), (7, .int x7), (14, .ref br), (17, .int x17), (18, .int x18), (19, .int x19), (20, .int x20)] dL_acts_562 (by decide) rfl ?_
        refine g_iinc X [(17, .int (x17 + 1)), (15, .int q226), (16, .int q220), (0, .ref (g 0 0)), (1, .ref bp), (2, .ref bc), (3, .ref bq), (4, .ref bn), (7, .int x7), (14, .ref br), (18, .int x18), (19, .int x19), (20, .int x20)] 9 dL_acts_564 rfl rfl (by decide) rfl ?_
        refine g_goto X 383 dL_acts_567 (by decide) ?_
        refine g_sub [(0, .ref (g 0 0)), (1, .ref bp), (2, .ref bc), (3, .ref bq), (4, .ref bn), (7, .int x7), (14, .ref br), (15, .int q226), (16, .int q220), (17, .int (x17 + 1))] [3, 4, 5, 6, 7, 8, 9, 1, 2, 0] rfl ?_
        exact hK383 _ _ _ _ _ _ _ _ _ _ _ _ _ _ _ hw
    · replace hw := hw.2 c219
      refine g_aload_n X 1 dL_acts_416 rfl rfl ?_
      refine g_iconst (v := 2) X rfl dL_acts_417 ?_
      refine g_aload_n X 3 dL_acts_418 rfl rfl ?_
      refine g_bipush (v := 6) X rfl dL_acts_419 ?_
      refine g_iload X 5 dL_acts_421 rfl ?_
      refine g_imul X dL_acts_423 ?_
      refine g_iload X 12 dL_acts_424 rfl ?_
      refine g_iadd X dL_acts_426 ?_
      obtain ⟨h227, hw⟩ := hw
      refine g_iald X 86 0 dL_acts_427 rfl rfl h227 ?_
      refine g_imul X dL_acts_428 ?_
      refine g_iconst (v := 1) X rfl dL_acts_429 ?_
      refine g_iadd X dL_acts_430 ?_
      obtain ⟨h228, hw⟩ := hw
      refine g_iald X 84 0 dL_acts_431 rfl rfl h228 ?_
      refine g_topi (fun q229 hq229 => ?_)
      replace hw := hw q229 hq229
      refine g_istore X [(21, .int q229), (0, .ref (g 0 0)), (1, .ref bp), (2, .ref bc), (3, .ref bq), (4, .ref bn), (7, .int x7), (14, .ref br), (15, .int x15), (16, .int x16), (17, .int x17), (18, .int x18), (19, .int x19), (20, .int x20)] dL_acts_432 (by decide) rfl ?_
      refine g_iload X 0 dL_acts_434 rfl ?_
      refine g_if_ge X 444 dL_acts_436 (by decide) (fun c230 => ?_) (fun c230 => ?_)
      · replace hw := hw.1 c230
        refine g_aload_n X 2 dL_acts_444 rfl rfl ?_
        refine g_aload_n X 3 dL_acts_445 rfl rfl ?_
        refine g_aload_n X 4 dL_acts_446 rfl rfl ?_
        refine g_iload X 0 dL_acts_447 rfl ?_
        refine g_ciS X [wC ct g kc, wS ct (g 1) v, wV ct g b, wS ct (g 5) (r 0), wS ct (g 6) (r 1), wS ct (g 7) (r 2), wS ct (g 8) (r 3), wS ct (g 9) (r 4), wS ct (g 10) (r 5), wL ct (g 12) y, wO ct (g 13) o, wR ct (g 14) x, wI 40 ct bp ap, wI 20 ct bc ac, wI 24 ct bq aq, wI 7 ct bn an, wI 24 ct br ar] (fun (_ : Unit) => [wC ct g kc, wS ct (g 1) v, wV ct g b, wS ct (g 5) (r 0), wS ct (g 6) (r 1), wS ct (g 7) (r 2), wS ct (g 8) (r 3), wS ct (g 9) (r 4), wS ct (g 10) (r 5), wL ct (g 12) y, wO ct (g 13) o, wR ct (g 14) x, wI 40 ct bp ap, wI 20 ct bc ac, wI 24 ct bq aq, wI 7 ct bn an, wI 24 ct br ar]) (fun _ => fl [wC ct g kc, wS ct (g 1) v, wV ct g b, wS ct (g 5) (r 0), wS ct (g 6) (r 1), wS ct (g 7) (r 2), wS ct (g 8) (r 3), wS ct (g 9) (r 4), wS ct (g 10) (r 5), wL ct (g 12) y, wO ct (g 13) o, wR ct (g 14) x, wI 40 ct bp ap, wI 20 ct bc ac, wI 24 ct bq aq, wI 7 ct bn an, wI 24 ct br ar]) 17 [12, 13, 14] [0, 1, 2, 3, 4, 5, 6, 7, 8, 9, 10, 11, 15, 16] (kL_middle l D ct bp bc bq ap ac aq q229 _ hw) (va_cwS 4 X.1.2.2.2.2 gL_acts_L_middle rfl rfl rfl (by decide +kernel) ⟨Nat.le_of_ble_eq_true rfl, Nat.le_of_ble_eq_true rfl⟩) dL_acts_449 rfl rfl (Nat.le_of_ble_eq_true rfl) ⟨Nat.le_of_ble_eq_true rfl, Nat.le_of_ble_eq_true rfl⟩ rfl rfl rfl (by decide) (fun _ => rfl) (fun _ => rfl) (fun _ => rfl) (fun _ => rfl) (fun r231 _ hw => ?_)
        refine g_sub [(0, .ref (g 0 0)), (1, .ref bp), (2, .ref bc), (3, .ref bq), (4, .ref bn), (7, .int x7), (14, .ref br), (15, .int x15), (16, .int x16), (17, .int x17), (18, .int x18), (19, .int x19), (20, .int x20)] [1, 2, 3, 4, 5, 6, 7, 8, 9, 10, 11, 12, 13] rfl ?_
        exact kL_acts_452 l D ct g bp bc bq bn br kc post _ _ X hK383 ih _ _ _ _ _ _ _ _ _ _ _ _ _ _ _ _ _ _ _ hw
      · replace hw := hw.2 c230
        refine g_bipush (v := 99) X rfl dL_acts_439 ?_
        refine g_goto X 452 dL_acts_441 (by decide) ?_
        refine g_sub [(0, .ref (g 0 0)), (1, .ref bp), (2, .ref bc), (3, .ref bq), (4, .ref bn), (7, .int x7), (14, .ref br), (15, .int x15), (16, .int x16), (17, .int x17), (18, .int x18), (19, .int x19), (20, .int x20)] [1, 2, 3, 4, 5, 6, 7, 8, 9, 10, 11, 12, 13] rfl ?_
        exact kL_acts_452 l D ct g bp bc bq bn br kc post _ _ X hK383 ih _ _ _ _ _ _ _ _ _ _ _ _ _ _ _ _ _ _ _ hw

set_option maxHeartbeats 4000000 in
set_option maxRecDepth 20000 in
theorem kL_acts_383 (l : Launch) (D : va_G) (ct : Nat → ClassId) (g : Nat → Nat → Nat) (bp : Nat) (bc : Nat) (bq : Nat) (bn : Nat) (br : Nat) (kc : Mem) (post : Int32 → Mem → Mem → (Nat → Mem) → Mem → Mem → Mem → Mem → Mem → Mem → Mem → Prop) {p : Program} {e : Env} {s : State} {m : MethodId} {args : Array Value} {below : List Frame} {meth : Method} {c : Code} {A : Nat → Prop} (X : Cx p s m args meth c cL_acts 24 RL wsL_acts D (tyz ct) A s.heap (some .boolean))  :
    ∀ (n : Nat) (v : Mem) (b : Mem) (r : Nat → Mem) (y : Mem) (o : Mem) (x : Mem) (ap : Mem) (ac : Mem) (aq : Mem) (an : Mem) (ar : Mem) (x7 : Int32) (x15 : Int32) (x16 : Int32) (x17 : Int32), PL_acts_383 kc post n v b r y o x ap ac aq an ar x7 x15 x16 x17 → GL_acts l D ct g bp bc bq bn br kc post p e s m args below meth c A (fl [wC ct g kc, wS ct (g 1) v, wV ct g b, wS ct (g 5) (r 0), wS ct (g 6) (r 1), wS ct (g 7) (r 2), wS ct (g 8) (r 3), wS ct (g 9) (r 4), wS ct (g 10) (r 5), wL ct (g 12) y, wO ct (g 13) o, wR ct (g 14) x, wI 40 ct bp ap, wI 20 ct bc ac, wI 24 ct bq aq, wI 7 ct bn an, wI 24 ct br ar]) 1 24 [(0, .ref (g 0 0)), (1, .ref bp), (2, .ref bc), (3, .ref bq), (4, .ref bn), (7, .int x7), (14, .ref br), (15, .int x15), (16, .int x16), (17, .int x17)] 383 [] := by
  intro n
  induction n with
  | zero =>
    intro v b r y o x ap ac aq an ar x7 x15 x16 x17 hw
    exact hw.elim
  | succ n ih =>
    intro v b r y o x ap ac aq an ar x7 x15 x16 x17 hw
    unfold PL_acts_383 at hw
    refine g_iload X 9 dL_acts_383 rfl ?_
    refine g_aload X 4 dL_acts_385 rfl ?_
    refine g_iconst (v := 3) X rfl dL_acts_387 ?_
    refine g_iload X 5 dL_acts_388 rfl ?_
    refine g_iadd X dL_acts_390 ?_
    obtain ⟨h207, hw⟩ := hw
    refine g_iald X 87 0 dL_acts_391 rfl rfl h207 ?_
    refine g_icmp_ge X 570 dL_acts_392 (by decide) (fun c208 => ?_) (fun c208 => ?_)
    · replace hw := hw.1 c208
      refine g_aload X 6 dL_acts_570 rfl ?_
      refine g_aload_n X 3 dL_acts_572 rfl rfl ?_
      refine g_cvS X [wC ct g kc, wS ct (g 1) v, wV ct g b, wS ct (g 5) (r 0), wS ct (g 6) (r 1), wS ct (g 7) (r 2), wS ct (g 8) (r 3), wS ct (g 9) (r 4), wS ct (g 10) (r 5), wL ct (g 12) y, wO ct (g 13) o, wR ct (g 14) x, wI 40 ct bp ap, wI 20 ct bc ac, wI 24 ct bq aq, wI 7 ct bn an, wI 24 ct br ar] (fun (u209 : Mem) => [wC ct g kc, wS ct (g 1) v, wV ct g b, wS ct (g 5) (r 0), wS ct (g 6) (r 1), wS ct (g 7) (r 2), wS ct (g 8) (r 3), wS ct (g 9) (r 4), wS ct (g 10) (r 5), wL ct (g 12) y, wO ct (g 13) o, wR ct (g 14) x, wI 40 ct bp ap, wI 20 ct bc ac, wI 24 ct bq u209, wI 7 ct bn an, wI 24 ct br ar]) (fun (u209 : Mem) => fl [wC ct g kc, wS ct (g 1) v, wV ct g b, wS ct (g 5) (r 0), wS ct (g 6) (r 1), wS ct (g 7) (r 2), wS ct (g 8) (r 3), wS ct (g 9) (r 4), wS ct (g 10) (r 5), wL ct (g 12) y, wO ct (g 13) o, wR ct (g 14) x, wI 40 ct bp ap, wI 20 ct bc ac, wI 24 ct bq u209, wI 7 ct bn an, wI 24 ct br ar]) 17 [16, 14] [0, 1, 2, 3, 4, 5, 6, 7, 8, 9, 10, 11, 12, 13, 15] (kL_copy l D ct br bq ar aq _ hw) (va_cwS 2 X.1.2.2.2.2 gL_acts_L_copy rfl rfl rfl (by decide +kernel) ⟨Nat.le_of_ble_eq_true rfl, Nat.le_of_ble_eq_true rfl⟩) dL_acts_573 rfl rfl (Nat.le_of_ble_eq_true rfl) ⟨Nat.le_of_ble_eq_true rfl, Nat.le_of_ble_eq_true rfl⟩ rfl rfl rfl (by decide) (fun _ => rfl) (fun _ => lq17_16_14) (fun _ => rfl) (fun _ => rfl) (fun u209 hw => ?_)
      obtain ⟨aq210, haq210⟩ : ∃ z : Mem, z = u209 := ⟨_, rfl⟩
      rw [← haq210] at hw
      rw [← haq210]
      refine g_aload_n X 0 dL_acts_576 rfl rfl ?_
      refine g_iload X 5 dL_acts_577 rfl ?_
      refine g_ciV X [wC ct g kc, wS ct (g 1) v, wV ct g b, wS ct (g 5) (r 0), wS ct (g 6) (r 1), wS ct (g 7) (r 2), wS ct (g 8) (r 3), wS ct (g 9) (r 4), wS ct (g 10) (r 5), wL ct (g 12) y, wO ct (g 13) o, wR ct (g 14) x, wI 40 ct bp ap, wI 20 ct bc ac, wI 24 ct bq aq210, wI 7 ct bn an, wI 24 ct br ar] (fun (u212 : Mem × Mem × (Nat → Mem) × Mem) => [wC ct g kc, wS ct (g 1) u212.1, wV ct g u212.2.1, wS ct (g 5) (u212.2.2.1 0), wS ct (g 6) (u212.2.2.1 1), wS ct (g 7) (u212.2.2.1 2), wS ct (g 8) (u212.2.2.1 3), wS ct (g 9) (u212.2.2.1 4), wS ct (g 10) (u212.2.2.1 5), wL ct (g 12) y, wO ct (g 13) u212.2.2.2, wR ct (g 14) x, wI 40 ct bp ap, wI 20 ct bc ac, wI 24 ct bq aq210, wI 7 ct bn an, wI 24 ct br ar]) (fun (u212 : Mem × Mem × (Nat → Mem) × Mem) => fl [wC ct g kc, wS ct (g 1) u212.1, wV ct g u212.2.1, wS ct (g 5) (u212.2.2.1 0), wS ct (g 6) (u212.2.2.1 1), wS ct (g 7) (u212.2.2.1 2), wS ct (g 8) (u212.2.2.1 3), wS ct (g 9) (u212.2.2.1 4), wS ct (g 10) (u212.2.2.1 5), wL ct (g 12) y, wO ct (g 13) u212.2.2.2, wR ct (g 14) x, wI 40 ct bp ap, wI 20 ct bc ac, wI 24 ct bq aq210, wI 7 ct bn an, wI 24 ct br ar]) 17 [0, 1, 2, 3, 4, 5, 6, 7, 8, 10] [9, 11, 12, 13, 14, 15, 16] 0 (kX7_byParents_nt l D ct g kc v b r o x7 _ hw) (cwV 1 X.1.2.2.2.2 gL_acts_X7_byParents rfl rfl rfl (by decide +kernel) ⟨Nat.le_of_ble_eq_true rfl, Nat.le_of_ble_eq_true rfl⟩) dL_acts_579 rfl rfl (Nat.le_of_ble_eq_true rfl) ⟨Nat.le_of_ble_eq_true rfl, Nat.le_of_ble_eq_true rfl⟩ rfl rfl rfl (by decide) (fun _ => rfl) (fun _ => lq17_0_1_2_3_4_5_6_7_8_10) (fun _ => rfl) (fun _ => rfl) rfl rfl rfl (fun r211 u212 hw => ?_)
      obtain ⟨v213, hv213⟩ : ∃ z : Mem, z = u212.1 := ⟨_, rfl⟩
      rw [← hv213] at hw
      rw [← hv213]
      obtain ⟨b214, hb214⟩ : ∃ z : Mem, z = u212.2.1 := ⟨_, rfl⟩
      rw [← hb214] at hw
      rw [← hb214]
      obtain ⟨r215, hr215⟩ : ∃ z : Nat → Mem, z = u212.2.2.1 := ⟨_, rfl⟩
      rw [← hr215] at hw
      rw [← hr215]
      obtain ⟨o216, ho216⟩ : ∃ z : Mem, z = u212.2.2.2 := ⟨_, rfl⟩
      rw [← ho216] at hw
      rw [← ho216]
      refine g_iload X 7 dL_acts_582 rfl ?_
      refine g_icmp_ne X 591 dL_acts_584 (by decide) (fun c217 => ?_) (fun c217 => ?_)
      · replace hw := hw.1 c217
        refine g_iconst (v := 0) X rfl dL_acts_591 ?_
        refine g_drop (w2 := fl [wC ct g kc, wS ct (g 1) v213, wV ct g b214, wS ct (g 5) (r215 0), wS ct (g 6) (r215 1), wS ct (g 7) (r215 2), wS ct (g 8) (r215 3), wS ct (g 9) (r215 4), wS ct (g 10) (r215 5), wL ct (g 12) y, wO ct (g 13) o216, wR ct (g 14) x, wI 40 ct bp ap, wI 20 ct bc ac, wI 24 ct bq aq210, wI 7 ct bn an]) (wI 24 ct br ar) (fl_app [wC ct g kc, wS ct (g 1) v213, wV ct g b214, wS ct (g 5) (r215 0), wS ct (g 6) (r215 1), wS ct (g 7) (r215 2), wS ct (g 8) (r215 3), wS ct (g 9) (r215 4), wS ct (g 10) (r215 5), wL ct (g 12) y, wO ct (g 13) o216, wR ct (g 14) x, wI 40 ct bp ap, wI 20 ct bc ac, wI 24 ct bq aq210, wI 7 ct bn an] [wI 24 ct br ar]) ?_
        exact g_zret X (v213, b214, r215, y, o216, x, ap, ac, aq210, an) isB_0 hw rfl (Nat.le_of_ble_eq_true rfl) (Nat.le_of_ble_eq_true rfl) dL_acts_592
      · replace hw := hw.2 c217
        refine g_iconst (v := 1) X rfl dL_acts_587 ?_
        refine g_goto X 592 dL_acts_588 (by decide) ?_
        refine g_drop (w2 := fl [wC ct g kc, wS ct (g 1) v213, wV ct g b214, wS ct (g 5) (r215 0), wS ct (g 6) (r215 1), wS ct (g 7) (r215 2), wS ct (g 8) (r215 3), wS ct (g 9) (r215 4), wS ct (g 10) (r215 5), wL ct (g 12) y, wO ct (g 13) o216, wR ct (g 14) x, wI 40 ct bp ap, wI 20 ct bc ac, wI 24 ct bq aq210, wI 7 ct bn an]) (wI 24 ct br ar) (fl_app [wC ct g kc, wS ct (g 1) v213, wV ct g b214, wS ct (g 5) (r215 0), wS ct (g 6) (r215 1), wS ct (g 7) (r215 2), wS ct (g 8) (r215 3), wS ct (g 9) (r215 4), wS ct (g 10) (r215 5), wL ct (g 12) y, wO ct (g 13) o216, wR ct (g 14) x, wI 40 ct bp ap, wI 20 ct bc ac, wI 24 ct bq aq210, wI 7 ct bn an] [wI 24 ct br ar]) ?_
        exact g_zret X (v213, b214, r215, y, o216, x, ap, ac, aq210, an) isB_1 hw rfl (Nat.le_of_ble_eq_true rfl) (Nat.le_of_ble_eq_true rfl) dL_acts_592
    · replace hw := hw.2 c208
      refine g_iconst (v := (-1)) X rfl dL_acts_395 ?_
      refine g_istore X [(18, .int ((-1))), (0, .ref (g 0 0)), (1, .ref bp), (2, .ref bc), (3, .ref bq), (4, .ref bn), (7, .int x7), (14, .ref br), (15, .int x15), (16, .int x16), (17, .int x17)] dL_acts_396 (by decide) rfl ?_
      refine g_iconst (v := 0) X rfl dL_acts_398 ?_
      refine g_istore X [(19, .int 0), (18, .int ((-1))), (0, .ref (g 0 0)), (1, .ref bp), (2, .ref bc), (3, .ref bq), (4, .ref bn), (7, .int x7), (14, .ref br), (15, .int x15), (16, .int x16), (17, .int x17)] dL_acts_399 (by decide) rfl ?_
      refine g_iconst (v := 0) X rfl dL_acts_401 ?_
      refine g_istore X [(20, .int 0), (19, .int 0), (18, .int ((-1))), (0, .ref (g 0 0)), (1, .ref bp), (2, .ref bc), (3, .ref bq), (4, .ref bn), (7, .int x7), (14, .ref br), (15, .int x15), (16, .int x16), (17, .int x17)] dL_acts_402 (by decide) rfl ?_
      refine g_sub [(0, .ref (g 0 0)), (1, .ref bp), (2, .ref bc), (3, .ref bq), (4, .ref bn), (7, .int x7), (14, .ref br), (15, .int x15), (16, .int x16), (17, .int x17), (18, .int ((-1))), (19, .int 0), (20, .int 0)] [3, 4, 5, 6, 7, 8, 9, 10, 11, 12, 2, 1, 0] rfl ?_
      obtain ⟨n238, hw⟩ := hw
      exact kL_acts_404 l D ct g bp bc bq bn br kc post _ X ih n238 _ _ _ _ _ _ _ _ _ _ _ _ _ _ _ _ _ _ hw

set_option maxHeartbeats 4000000 in
set_option maxRecDepth 20000 in
theorem kL_acts_22 (l : Launch) (D : va_G) (ct : Nat → ClassId) (g : Nat → Nat → Nat) (bp : Nat) (bc : Nat) (bq : Nat) (bn : Nat) (br : Nat) (kc : Mem) (post : Int32 → Mem → Mem → (Nat → Mem) → Mem → Mem → Mem → Mem → Mem → Mem → Mem → Prop) {p : Program} {e : Env} {s : State} {m : MethodId} {args : Array Value} {below : List Frame} {meth : Method} {c : Code} {A : Nat → Prop} (X : Cx p s m args meth c cL_acts 24 RL wsL_acts D (tyz ct) A s.heap (some .boolean))  :
    ∀ (v : Mem) (b : Mem) (r : Nat → Mem) (y : Mem) (o : Mem) (x : Mem) (ap : Mem) (ac : Mem) (aq : Mem) (an : Mem) (ar : Mem) (x6 : Int32) (x7 : Int32) (z0 : Int32), PL_acts_22 kc post v b r y o x ap ac aq an ar x6 x7 z0 → GL_acts l D ct g bp bc bq bn br kc post p e s m args below meth c A (fl [wC ct g kc, wS ct (g 1) v, wV ct g b, wS ct (g 5) (r 0), wS ct (g 6) (r 1), wS ct (g 7) (r 2), wS ct (g 8) (r 3), wS ct (g 9) (r 4), wS ct (g 10) (r 5), wL ct (g 12) y, wO ct (g 13) o, wR ct (g 14) x, wI 40 ct bp ap, wI 20 ct bc ac, wI 24 ct bq aq, wI 7 ct bn an]) 0 0 [(0, .ref (g 0 0)), (1, .ref bp), (2, .ref bc), (3, .ref bq), (4, .ref bn), (6, .int x6), (7, .int x7)] 22 [.int z0] := by
  intro v b r y o x ap ac aq an ar x6 x7 z0 hw
  unfold PL_acts_22 at hw
  by_cases c5 : z0 = 0
  · replace hw := hw.1 c5
    refine g_tableIn X 88 dL_acts_22 (by rw [c5]; decide) (by rw [c5]; decide) (by rw [c5]; rfl) (by decide) ?_
    refine g_aload_n X 0 dL_acts_88 rfl rfl ?_
    refine g_iload X 6 dL_acts_89 rfl ?_
    refine g_ciV X [wC ct g kc, wS ct (g 1) v, wV ct g b, wS ct (g 5) (r 0), wS ct (g 6) (r 1), wS ct (g 7) (r 2), wS ct (g 8) (r 3), wS ct (g 9) (r 4), wS ct (g 10) (r 5), wL ct (g 12) y, wO ct (g 13) o, wR ct (g 14) x, wI 40 ct bp ap, wI 20 ct bc ac, wI 24 ct bq aq, wI 7 ct bn an] (fun (u7 : Mem × Mem × (Nat → Mem)) => [wC ct g kc, wS ct (g 1) u7.1, wV ct g u7.2.1, wS ct (g 5) (u7.2.2 0), wS ct (g 6) (u7.2.2 1), wS ct (g 7) (u7.2.2 2), wS ct (g 8) (u7.2.2 3), wS ct (g 9) (u7.2.2 4), wS ct (g 10) (u7.2.2 5), wL ct (g 12) y, wO ct (g 13) o, wR ct (g 14) x, wI 40 ct bp ap, wI 20 ct bc ac, wI 24 ct bq aq, wI 7 ct bn an]) (fun (u7 : Mem × Mem × (Nat → Mem)) => fl [wC ct g kc, wS ct (g 1) u7.1, wV ct g u7.2.1, wS ct (g 5) (u7.2.2 0), wS ct (g 6) (u7.2.2 1), wS ct (g 7) (u7.2.2 2), wS ct (g 8) (u7.2.2 3), wS ct (g 9) (u7.2.2 4), wS ct (g 10) (u7.2.2 5), wL ct (g 12) y, wO ct (g 13) o, wR ct (g 14) x, wI 40 ct bp ap, wI 20 ct bc ac, wI 24 ct bq aq, wI 7 ct bn an]) 16 [0, 1, 2, 3, 4, 5, 6, 7, 8] [9, 10, 11, 12, 13, 14, 15] 0 (kX7_person_nt l D ct g kc v b r x7 _ hw) (cwV 1 X.1.2.2.2.2 gL_acts_X7_person rfl rfl rfl (by decide +kernel) ⟨Nat.le_of_ble_eq_true rfl, Nat.le_of_ble_eq_true rfl⟩) dL_acts_91 rfl rfl (Nat.le_of_ble_eq_true rfl) ⟨Nat.le_of_ble_eq_true rfl, Nat.le_of_ble_eq_true rfl⟩ rfl rfl rfl (by decide) (fun _ => rfl) (fun _ => lq16_0_1_2_3_4_5_6_7_8) (fun _ => rfl) (fun _ => rfl) rfl rfl rfl (fun r6 u7 hw => ?_)
    obtain ⟨v8, hv8⟩ : ∃ z : Mem, z = u7.1 := ⟨_, rfl⟩
    rw [← hv8] at hw
    rw [← hv8]
    obtain ⟨b9, hb9⟩ : ∃ z : Mem, z = u7.2.1 := ⟨_, rfl⟩
    rw [← hb9] at hw
    rw [← hb9]
    obtain ⟨r10, hr10⟩ : ∃ z : Nat → Mem, z = u7.2.2 := ⟨_, rfl⟩
    rw [← hr10] at hw
    rw [← hr10]
    refine g_aload_n X 1 dL_acts_94 rfl rfl ?_
    refine g_aload_n X 3 dL_acts_95 rfl rfl ?_
    refine g_aload X 4 dL_acts_96 rfl ?_
    refine g_iload X 6 dL_acts_98 rfl ?_
    refine g_iconst (v := (-1)) X rfl dL_acts_100 ?_
    refine g_ciS X [wC ct g kc, wS ct (g 1) v8, wV ct g b9, wS ct (g 5) (r10 0), wS ct (g 6) (r10 1), wS ct (g 7) (r10 2), wS ct (g 8) (r10 3), wS ct (g 9) (r10 4), wS ct (g 10) (r10 5), wL ct (g 12) y, wO ct (g 13) o, wR ct (g 14) x, wI 40 ct bp ap, wI 20 ct bc ac, wI 24 ct bq aq, wI 7 ct bn an] (fun (u12 : Mem × Mem × Mem) => [wC ct g kc, wS ct (g 1) v8, wV ct g b9, wS ct (g 5) (r10 0), wS ct (g 6) (r10 1), wS ct (g 7) (r10 2), wS ct (g 8) (r10 3), wS ct (g 9) (r10 4), wS ct (g 10) (r10 5), wL ct (g 12) y, wO ct (g 13) o, wR ct (g 14) x, wI 40 ct bp u12.1, wI 20 ct bc ac, wI 24 ct bq u12.2.1, wI 7 ct bn u12.2.2]) (fun (u12 : Mem × Mem × Mem) => fl [wC ct g kc, wS ct (g 1) v8, wV ct g b9, wS ct (g 5) (r10 0), wS ct (g 6) (r10 1), wS ct (g 7) (r10 2), wS ct (g 8) (r10 3), wS ct (g 9) (r10 4), wS ct (g 10) (r10 5), wL ct (g 12) y, wO ct (g 13) o, wR ct (g 14) x, wI 40 ct bp u12.1, wI 20 ct bc ac, wI 24 ct bq u12.2.1, wI 7 ct bn u12.2.2]) 16 [12, 14, 15] [0, 1, 2, 3, 4, 5, 6, 7, 8, 9, 10, 11, 13] (kL_comes l D ct bp bq bn ap aq an x7 ((-1)) _ hw) (va_cwS 5 X.1.2.2.2.2 gL_acts_L_comes rfl rfl rfl (by decide +kernel) ⟨Nat.le_of_ble_eq_true rfl, Nat.le_of_ble_eq_true rfl⟩) dL_acts_101 rfl rfl (Nat.le_of_ble_eq_true rfl) ⟨Nat.le_of_ble_eq_true rfl, Nat.le_of_ble_eq_true rfl⟩ rfl rfl rfl (by decide) (fun _ => rfl) (fun _ => lq16_12_14_15) (fun _ => rfl) (fun _ => rfl) (fun r11 u12 hw => ?_)
    obtain ⟨ap13, hap13⟩ : ∃ z : Mem, z = u12.1 := ⟨_, rfl⟩
    rw [← hap13] at hw
    rw [← hap13]
    obtain ⟨aq14, haq14⟩ : ∃ z : Mem, z = u12.2.1 := ⟨_, rfl⟩
    rw [← haq14] at hw
    rw [← haq14]
    obtain ⟨an15, han15⟩ : ∃ z : Mem, z = u12.2.2 := ⟨_, rfl⟩
    rw [← han15] at hw
    rw [← han15]
    refine g_icmp_ne X 111 dL_acts_104 (by decide) (fun c16 => ?_) (fun c16 => ?_)
    · replace hw := hw.1 c16
      refine g_iconst (v := 0) X rfl dL_acts_111 ?_
      exact g_zret X (v8, b9, r10, y, o, x, ap13, ac, aq14, an15) isB_0 hw rfl (Nat.le_of_ble_eq_true rfl) (Nat.le_of_ble_eq_true rfl) dL_acts_112
    · replace hw := hw.2 c16
      refine g_iconst (v := 1) X rfl dL_acts_107 ?_
      refine g_goto X 112 dL_acts_108 (by decide) ?_
      exact g_zret X (v8, b9, r10, y, o, x, ap13, ac, aq14, an15) isB_1 hw rfl (Nat.le_of_ble_eq_true rfl) (Nat.le_of_ble_eq_true rfl) dL_acts_112
  · replace hw := hw.2 c5
    by_cases c17 : z0 = 1
    · replace hw := hw.1 c17
      refine g_tableIn X 88 dL_acts_22 (by rw [c17]; decide) (by rw [c17]; decide) (by rw [c17]; rfl) (by decide) ?_
      refine g_aload_n X 0 dL_acts_88 rfl rfl ?_
      refine g_iload X 6 dL_acts_89 rfl ?_
      refine g_ciV X [wC ct g kc, wS ct (g 1) v, wV ct g b, wS ct (g 5) (r 0), wS ct (g 6) (r 1), wS ct (g 7) (r 2), wS ct (g 8) (r 3), wS ct (g 9) (r 4), wS ct (g 10) (r 5), wL ct (g 12) y, wO ct (g 13) o, wR ct (g 14) x, wI 40 ct bp ap, wI 20 ct bc ac, wI 24 ct bq aq, wI 7 ct bn an] (fun (u19 : Mem × Mem × (Nat → Mem)) => [wC ct g kc, wS ct (g 1) u19.1, wV ct g u19.2.1, wS ct (g 5) (u19.2.2 0), wS ct (g 6) (u19.2.2 1), wS ct (g 7) (u19.2.2 2), wS ct (g 8) (u19.2.2 3), wS ct (g 9) (u19.2.2 4), wS ct (g 10) (u19.2.2 5), wL ct (g 12) y, wO ct (g 13) o, wR ct (g 14) x, wI 40 ct bp ap, wI 20 ct bc ac, wI 24 ct bq aq, wI 7 ct bn an]) (fun (u19 : Mem × Mem × (Nat → Mem)) => fl [wC ct g kc, wS ct (g 1) u19.1, wV ct g u19.2.1, wS ct (g 5) (u19.2.2 0), wS ct (g 6) (u19.2.2 1), wS ct (g 7) (u19.2.2 2), wS ct (g 8) (u19.2.2 3), wS ct (g 9) (u19.2.2 4), wS ct (g 10) (u19.2.2 5), wL ct (g 12) y, wO ct (g 13) o, wR ct (g 14) x, wI 40 ct bp ap, wI 20 ct bc ac, wI 24 ct bq aq, wI 7 ct bn an]) 16 [0, 1, 2, 3, 4, 5, 6, 7, 8] [9, 10, 11, 12, 13, 14, 15] 0 (kX7_person_nt l D ct g kc v b r x7 _ hw) (cwV 1 X.1.2.2.2.2 gL_acts_X7_person rfl rfl rfl (by decide +kernel) ⟨Nat.le_of_ble_eq_true rfl, Nat.le_of_ble_eq_true rfl⟩) dL_acts_91 rfl rfl (Nat.le_of_ble_eq_true rfl) ⟨Nat.le_of_ble_eq_true rfl, Nat.le_of_ble_eq_true rfl⟩ rfl rfl rfl (by decide) (fun _ => rfl) (fun _ => lq16_0_1_2_3_4_5_6_7_8) (fun _ => rfl) (fun _ => rfl) rfl rfl rfl (fun r18 u19 hw => ?_)
      obtain ⟨v20, hv20⟩ : ∃ z : Mem, z = u19.1 := ⟨_, rfl⟩
      rw [← hv20] at hw
      rw [← hv20]
      obtain ⟨b21, hb21⟩ : ∃ z : Mem, z = u19.2.1 := ⟨_, rfl⟩
      rw [← hb21] at hw
      rw [← hb21]
      obtain ⟨r22, hr22⟩ : ∃ z : Nat → Mem, z = u19.2.2 := ⟨_, rfl⟩
      rw [← hr22] at hw
      rw [← hr22]
      refine g_aload_n X 1 dL_acts_94 rfl rfl ?_
      refine g_aload_n X 3 dL_acts_95 rfl rfl ?_
      refine g_aload X 4 dL_acts_96 rfl ?_
      refine g_iload X 6 dL_acts_98 rfl ?_
      refine g_iconst (v := (-1)) X rfl dL_acts_100 ?_
      refine g_ciS X [wC ct g kc, wS ct (g 1) v20, wV ct g b21, wS ct (g 5) (r22 0), wS ct (g 6) (r22 1), wS ct (g 7) (r22 2), wS ct (g 8) (r22 3), wS ct (g 9) (r22 4), wS ct (g 10) (r22 5), wL ct (g 12) y, wO ct (g 13) o, wR ct (g 14) x, wI 40 ct bp ap, wI 20 ct bc ac, wI 24 ct bq aq, wI 7 ct bn an] (fun (u24 : Mem × Mem × Mem) => [wC ct g kc, wS ct (g 1) v20, wV ct g b21, wS ct (g 5) (r22 0), wS ct (g 6) (r22 1), wS ct (g 7) (r22 2), wS ct (g 8) (r22 3), wS ct (g 9) (r22 4), wS ct (g 10) (r22 5), wL ct (g 12) y, wO ct (g 13) o, wR ct (g 14) x, wI 40 ct bp u24.1, wI 20 ct bc ac, wI 24 ct bq u24.2.1, wI 7 ct bn u24.2.2]) (fun (u24 : Mem × Mem × Mem) => fl [wC ct g kc, wS ct (g 1) v20, wV ct g b21, wS ct (g 5) (r22 0), wS ct (g 6) (r22 1), wS ct (g 7) (r22 2), wS ct (g 8) (r22 3), wS ct (g 9) (r22 4), wS ct (g 10) (r22 5), wL ct (g 12) y, wO ct (g 13) o, wR ct (g 14) x, wI 40 ct bp u24.1, wI 20 ct bc ac, wI 24 ct bq u24.2.1, wI 7 ct bn u24.2.2]) 16 [12, 14, 15] [0, 1, 2, 3, 4, 5, 6, 7, 8, 9, 10, 11, 13] (kL_comes l D ct bp bq bn ap aq an x7 ((-1)) _ hw) (va_cwS 5 X.1.2.2.2.2 gL_acts_L_comes rfl rfl rfl (by decide +kernel) ⟨Nat.le_of_ble_eq_true rfl, Nat.le_of_ble_eq_true rfl⟩) dL_acts_101 rfl rfl (Nat.le_of_ble_eq_true rfl) ⟨Nat.le_of_ble_eq_true rfl, Nat.le_of_ble_eq_true rfl⟩ rfl rfl rfl (by decide) (fun _ => rfl) (fun _ => lq16_12_14_15) (fun _ => rfl) (fun _ => rfl) (fun r23 u24 hw => ?_)
      obtain ⟨ap25, hap25⟩ : ∃ z : Mem, z = u24.1 := ⟨_, rfl⟩
      rw [← hap25] at hw
      rw [← hap25]
      obtain ⟨aq26, haq26⟩ : ∃ z : Mem, z = u24.2.1 := ⟨_, rfl⟩
      rw [← haq26] at hw
      rw [← haq26]
      obtain ⟨an27, han27⟩ : ∃ z : Mem, z = u24.2.2 := ⟨_, rfl⟩
      rw [← han27] at hw
      rw [← han27]
      refine g_icmp_ne X 111 dL_acts_104 (by decide) (fun c28 => ?_) (fun c28 => ?_)
      · replace hw := hw.1 c28
        refine g_iconst (v := 0) X rfl dL_acts_111 ?_
        exact g_zret X (v20, b21, r22, y, o, x, ap25, ac, aq26, an27) isB_0 hw rfl (Nat.le_of_ble_eq_true rfl) (Nat.le_of_ble_eq_true rfl) dL_acts_112
      · replace hw := hw.2 c28
        refine g_iconst (v := 1) X rfl dL_acts_107 ?_
        refine g_goto X 112 dL_acts_108 (by decide) ?_
        exact g_zret X (v20, b21, r22, y, o, x, ap25, ac, aq26, an27) isB_1 hw rfl (Nat.le_of_ble_eq_true rfl) (Nat.le_of_ble_eq_true rfl) dL_acts_112
    · replace hw := hw.2 c17
      by_cases c29 : z0 = 2
      · replace hw := hw.1 c29
        refine g_tableIn X 113 dL_acts_22 (by rw [c29]; decide) (by rw [c29]; decide) (by rw [c29]; rfl) (by decide) ?_
        refine g_iload X 5 dL_acts_113 rfl ?_
        refine g_aload X 4 dL_acts_115 rfl ?_
        refine g_iconst (v := 0) X rfl dL_acts_117 ?_
        obtain ⟨h30, hw⟩ := hw
        refine g_iald X 87 0 dL_acts_118 rfl rfl h30 ?_
        refine g_ciS X [wC ct g kc, wS ct (g 1) v, wV ct g b, wS ct (g 5) (r 0), wS ct (g 6) (r 1), wS ct (g 7) (r 2), wS ct (g 8) (r 3), wS ct (g 9) (r 4), wS ct (g 10) (r 5), wL ct (g 12) y, wO ct (g 13) o, wR ct (g 14) x, wI 40 ct bp ap, wI 20 ct bc ac, wI 24 ct bq aq, wI 7 ct bn an] (fun (_ : Unit) => [wC ct g kc, wS ct (g 1) v, wV ct g b, wS ct (g 5) (r 0), wS ct (g 6) (r 1), wS ct (g 7) (r 2), wS ct (g 8) (r 3), wS ct (g 9) (r 4), wS ct (g 10) (r 5), wL ct (g 12) y, wO ct (g 13) o, wR ct (g 14) x, wI 40 ct bp ap, wI 20 ct bc ac, wI 24 ct bq aq, wI 7 ct bn an]) (fun _ => fl [wC ct g kc, wS ct (g 1) v, wV ct g b, wS ct (g 5) (r 0), wS ct (g 6) (r 1), wS ct (g 7) (r 2), wS ct (g 8) (r 3), wS ct (g 9) (r 4), wS ct (g 10) (r 5), wL ct (g 12) y, wO ct (g 13) o, wR ct (g 14) x, wI 40 ct bp ap, wI 20 ct bc ac, wI 24 ct bq aq, wI 7 ct bn an]) 16 [] [0, 1, 2, 3, 4, 5, 6, 7, 8, 9, 10, 11, 12, 13, 14, 15] (kL_low l D ct  x6 (an 0 (ix 0)) _ hw) (va_cwS 2 X.1.2.2.2.2 gL_acts_L_low rfl rfl rfl (by decide +kernel) ⟨Nat.le_of_ble_eq_true rfl, Nat.le_of_ble_eq_true rfl⟩) dL_acts_119 rfl rfl (Nat.le_of_ble_eq_true rfl) ⟨Nat.le_of_ble_eq_true rfl, Nat.le_of_ble_eq_true rfl⟩ rfl rfl rfl (by decide) (fun _ => rfl) (fun _ => rfl) (fun _ => rfl) (fun _ => rfl) (fun r31 _ hw => ?_)
        refine g_istore X [(8, .int r31), (0, .ref (g 0 0)), (1, .ref bp), (2, .ref bc), (3, .ref bq), (4, .ref bn), (6, .int x6), (7, .int x7)] dL_acts_122 (by decide) rfl ?_
        refine g_iload X 0 dL_acts_124 rfl ?_
        refine g_iconst (v := 1) X rfl dL_acts_126 ?_
        refine g_iadd X dL_acts_127 ?_
        refine g_iload X 6 dL_acts_128 rfl ?_
        refine g_iconst (v := 5) X rfl dL_acts_130 ?_
        refine g_ishr X dL_acts_131 ?_
        refine g_aload X 5 dL_acts_132 rfl ?_
        refine g_iconst (v := 0) X rfl dL_acts_134 ?_
        obtain ⟨h33, hw⟩ := hw
        refine g_iald X 87 0 dL_acts_135 rfl rfl h33 ?_
        refine g_iconst (v := 1) X rfl dL_acts_136 ?_
        refine g_isub X dL_acts_137 ?_
        refine g_ciS X [wC ct g kc, wS ct (g 1) v, wV ct g b, wS ct (g 5) (r 0), wS ct (g 6) (r 1), wS ct (g 7) (r 2), wS ct (g 8) (r 3), wS ct (g 9) (r 4), wS ct (g 10) (r 5), wL ct (g 12) y, wO ct (g 13) o, wR ct (g 14) x, wI 40 ct bp ap, wI 20 ct bc ac, wI 24 ct bq aq, wI 7 ct bn an] (fun (_ : Unit) => [wC ct g kc, wS ct (g 1) v, wV ct g b, wS ct (g 5) (r 0), wS ct (g 6) (r 1), wS ct (g 7) (r 2), wS ct (g 8) (r 3), wS ct (g 9) (r 4), wS ct (g 10) (r 5), wL ct (g 12) y, wO ct (g 13) o, wR ct (g 14) x, wI 40 ct bp ap, wI 20 ct bc ac, wI 24 ct bq aq, wI 7 ct bn an]) (fun _ => fl [wC ct g kc, wS ct (g 1) v, wV ct g b, wS ct (g 5) (r 0), wS ct (g 6) (r 1), wS ct (g 7) (r 2), wS ct (g 8) (r 3), wS ct (g 9) (r 4), wS ct (g 10) (r 5), wL ct (g 12) y, wO ct (g 13) o, wR ct (g 14) x, wI 40 ct bp ap, wI 20 ct bc ac, wI 24 ct bq aq, wI 7 ct bn an]) 16 [] [0, 1, 2, 3, 4, 5, 6, 7, 8, 9, 10, 11, 12, 13, 14, 15] (kL_low l D ct  (x6 >>> (5 &&& 31)) ((an 0 (ix 0)) - 1) _ hw) (va_cwS 2 X.1.2.2.2.2 gL_acts_L_low rfl rfl rfl (by decide +kernel) ⟨Nat.le_of_ble_eq_true rfl, Nat.le_of_ble_eq_true rfl⟩) dL_acts_138 rfl rfl (Nat.le_of_ble_eq_true rfl) ⟨Nat.le_of_ble_eq_true rfl, Nat.le_of_ble_eq_true rfl⟩ rfl rfl rfl (by decide) (fun _ => rfl) (fun _ => rfl) (fun _ => rfl) (fun _ => rfl) (fun r34 _ hw => ?_)
        refine g_iadd X dL_acts_141 ?_
        refine g_aload X 5 dL_acts_142 rfl ?_
        refine g_iconst (v := 0) X rfl dL_acts_144 ?_
        obtain ⟨h36, hw⟩ := hw
        refine g_iald X 87 0 dL_acts_145 rfl rfl h36 ?_
        obtain ⟨h37, hw⟩ := hw
        refine g_irem X h37 dL_acts_146 ?_
        refine g_topi (fun q38 hq38 => ?_)
        replace hw := hw q38 hq38
        refine g_istore X [(9, .int q38), (8, .int r31), (0, .ref (g 0 0)), (1, .ref bp), (2, .ref bc), (3, .ref bq), (4, .ref bn), (6, .int x6), (7, .int x7)] dL_acts_147 (by decide) rfl ?_
        refine g_aload_n X 2 dL_acts_149 rfl rfl ?_
        refine g_iload X 1 dL_acts_150 rfl ?_
        refine g_iload X 0 dL_acts_152 rfl ?_
        refine g_ciV X [wC ct g kc, wS ct (g 1) v, wV ct g b, wS ct (g 5) (r 0), wS ct (g 6) (r 1), wS ct (g 7) (r 2), wS ct (g 8) (r 3), wS ct (g 9) (r 4), wS ct (g 10) (r 5), wL ct (g 12) y, wO ct (g 13) o, wR ct (g 14) x, wI 40 ct bp ap, wI 20 ct bc ac, wI 24 ct bq aq, wI 7 ct bn an] (fun (u40 : Mem × Mem × (Nat → Mem)) => [wC ct g kc, wS ct (g 1) u40.1, wV ct g u40.2.1, wS ct (g 5) (u40.2.2 0), wS ct (g 6) (u40.2.2 1), wS ct (g 7) (u40.2.2 2), wS ct (g 8) (u40.2.2 3), wS ct (g 9) (u40.2.2 4), wS ct (g 10) (u40.2.2 5), wL ct (g 12) y, wO ct (g 13) o, wR ct (g 14) x, wI 40 ct bp ap, wI 20 ct bc ac, wI 24 ct bq aq, wI 7 ct bn an]) (fun (u40 : Mem × Mem × (Nat → Mem)) => fl [wC ct g kc, wS ct (g 1) u40.1, wV ct g u40.2.1, wS ct (g 5) (u40.2.2 0), wS ct (g 6) (u40.2.2 1), wS ct (g 7) (u40.2.2 2), wS ct (g 8) (u40.2.2 3), wS ct (g 9) (u40.2.2 4), wS ct (g 10) (u40.2.2 5), wL ct (g 12) y, wO ct (g 13) o, wR ct (g 14) x, wI 40 ct bp ap, wI 20 ct bc ac, wI 24 ct bq aq, wI 7 ct bn an]) 16 [0, 1, 2, 3, 4, 5, 6, 7, 8] [9, 10, 11, 12, 13, 14, 15] 0 (kX7_marry_nt l D ct g kc v b r r31 q38 _ hw) (cwV 2 X.1.2.2.2.2 gL_acts_X7_marry rfl rfl rfl (by decide +kernel) ⟨Nat.le_of_ble_eq_true rfl, Nat.le_of_ble_eq_true rfl⟩) dL_acts_154 rfl rfl (Nat.le_of_ble_eq_true rfl) ⟨Nat.le_of_ble_eq_true rfl, Nat.le_of_ble_eq_true rfl⟩ rfl rfl rfl (by decide) (fun _ => rfl) (fun _ => lq16_0_1_2_3_4_5_6_7_8) (fun _ => rfl) (fun _ => rfl) rfl rfl rfl (fun r39 u40 hw => ?_)
        obtain ⟨v41, hv41⟩ : ∃ z : Mem, z = u40.1 := ⟨_, rfl⟩
        rw [← hv41] at hw
        rw [← hv41]
        obtain ⟨b42, hb42⟩ : ∃ z : Mem, z = u40.2.1 := ⟨_, rfl⟩
        rw [← hb42] at hw
        rw [← hb42]
        obtain ⟨r43, hr43⟩ : ∃ z : Nat → Mem, z = u40.2.2 := ⟨_, rfl⟩
        rw [← hr43] at hw
        rw [← hr43]
        refine g_aload_n X 3 dL_acts_157 rfl rfl ?_
        refine g_aload_n X 4 dL_acts_158 rfl rfl ?_
        refine g_aload X 6 dL_acts_159 rfl ?_
        refine g_iload X 1 dL_acts_161 rfl ?_
        refine g_iload X 0 dL_acts_163 rfl ?_
        refine g_ciS X [wC ct g kc, wS ct (g 1) v41, wV ct g b42, wS ct (g 5) (r43 0), wS ct (g 6) (r43 1), wS ct (g 7) (r43 2), wS ct (g 8) (r43 3), wS ct (g 9) (r43 4), wS ct (g 10) (r43 5), wL ct (g 12) y, wO ct (g 13) o, wR ct (g 14) x, wI 40 ct bp ap, wI 20 ct bc ac, wI 24 ct bq aq, wI 7 ct bn an] (fun (u45 : Mem × Mem) => [wC ct g kc, wS ct (g 1) v41, wV ct g b42, wS ct (g 5) (r43 0), wS ct (g 6) (r43 1), wS ct (g 7) (r43 2), wS ct (g 8) (r43 3), wS ct (g 9) (r43 4), wS ct (g 10) (r43 5), wL ct (g 12) y, wO ct (g 13) o, wR ct (g 14) x, wI 40 ct bp ap, wI 20 ct bc u45.1, wI 24 ct bq aq, wI 7 ct bn u45.2]) (fun (u45 : Mem × Mem) => fl [wC ct g kc, wS ct (g 1) v41, wV ct g b42, wS ct (g 5) (r43 0), wS ct (g 6) (r43 1), wS ct (g 7) (r43 2), wS ct (g 8) (r43 3), wS ct (g 9) (r43 4), wS ct (g 10) (r43 5), wL ct (g 12) y, wO ct (g 13) o, wR ct (g 14) x, wI 40 ct bp ap, wI 20 ct bc u45.1, wI 24 ct bq aq, wI 7 ct bn u45.2]) 16 [12, 13, 15] [0, 1, 2, 3, 4, 5, 6, 7, 8, 9, 10, 11, 14] (kL_marries l D ct bp bc bn ap ac an r31 q38 _ hw) (va_cwS 5 X.1.2.2.2.2 gL_acts_L_marries rfl rfl rfl (by decide +kernel) ⟨Nat.le_of_ble_eq_true rfl, Nat.le_of_ble_eq_true rfl⟩) dL_acts_165 rfl rfl (Nat.le_of_ble_eq_true rfl) ⟨Nat.le_of_ble_eq_true rfl, Nat.le_of_ble_eq_true rfl⟩ rfl rfl rfl (by decide) (fun _ => rfl) (fun _ => lq16_12_13_15) (fun _ => rfl) (fun _ => rfl) (fun r44 u45 hw => ?_)
        obtain ⟨ac46, hac46⟩ : ∃ z : Mem, z = u45.1 := ⟨_, rfl⟩
        rw [← hac46] at hw
        rw [← hac46]
        obtain ⟨an47, han47⟩ : ∃ z : Mem, z = u45.2 := ⟨_, rfl⟩
        rw [← han47] at hw
        rw [← han47]
        refine g_icmp_ne X 175 dL_acts_168 (by decide) (fun c48 => ?_) (fun c48 => ?_)
        · replace hw := hw.1 c48
          refine g_iconst (v := 0) X rfl dL_acts_175 ?_
          exact g_zret X (v41, b42, r43, y, o, x, ap, ac46, aq, an47) isB_0 hw rfl (Nat.le_of_ble_eq_true rfl) (Nat.le_of_ble_eq_true rfl) dL_acts_176
        · replace hw := hw.2 c48
          refine g_iconst (v := 1) X rfl dL_acts_171 ?_
          refine g_goto X 176 dL_acts_172 (by decide) ?_
          exact g_zret X (v41, b42, r43, y, o, x, ap, ac46, aq, an47) isB_1 hw rfl (Nat.le_of_ble_eq_true rfl) (Nat.le_of_ble_eq_true rfl) dL_acts_176
      · replace hw := hw.2 c29
        by_cases c49 : z0 = 3
        · replace hw := hw.1 c49
          refine g_tableIn X 113 dL_acts_22 (by rw [c49]; decide) (by rw [c49]; decide) (by rw [c49]; rfl) (by decide) ?_
          refine g_iload X 5 dL_acts_113 rfl ?_
          refine g_aload X 4 dL_acts_115 rfl ?_
          refine g_iconst (v := 0) X rfl dL_acts_117 ?_
          obtain ⟨h50, hw⟩ := hw
          refine g_iald X 87 0 dL_acts_118 rfl rfl h50 ?_
          refine g_ciS X [wC ct g kc, wS ct (g 1) v, wV ct g b, wS ct (g 5) (r 0), wS ct (g 6) (r 1), wS ct (g 7) (r 2), wS ct (g 8) (r 3), wS ct (g 9) (r 4), wS ct (g 10) (r 5), wL ct (g 12) y, wO ct (g 13) o, wR ct (g 14) x, wI 40 ct bp ap, wI 20 ct bc ac, wI 24 ct bq aq, wI 7 ct bn an] (fun (_ : Unit) => [wC ct g kc, wS ct (g 1) v, wV ct g b, wS ct (g 5) (r 0), wS ct (g 6) (r 1), wS ct (g 7) (r 2), wS ct (g 8) (r 3), wS ct (g 9) (r 4), wS ct (g 10) (r 5), wL ct (g 12) y, wO ct (g 13) o, wR ct (g 14) x, wI 40 ct bp ap, wI 20 ct bc ac, wI 24 ct bq aq, wI 7 ct bn an]) (fun _ => fl [wC ct g kc, wS ct (g 1) v, wV ct g b, wS ct (g 5) (r 0), wS ct (g 6) (r 1), wS ct (g 7) (r 2), wS ct (g 8) (r 3), wS ct (g 9) (r 4), wS ct (g 10) (r 5), wL ct (g 12) y, wO ct (g 13) o, wR ct (g 14) x, wI 40 ct bp ap, wI 20 ct bc ac, wI 24 ct bq aq, wI 7 ct bn an]) 16 [] [0, 1, 2, 3, 4, 5, 6, 7, 8, 9, 10, 11, 12, 13, 14, 15] (kL_low l D ct  x6 (an 0 (ix 0)) _ hw) (va_cwS 2 X.1.2.2.2.2 gL_acts_L_low rfl rfl rfl (by decide +kernel) ⟨Nat.le_of_ble_eq_true rfl, Nat.le_of_ble_eq_true rfl⟩) dL_acts_119 rfl rfl (Nat.le_of_ble_eq_true rfl) ⟨Nat.le_of_ble_eq_true rfl, Nat.le_of_ble_eq_true rfl⟩ rfl rfl rfl (by decide) (fun _ => rfl) (fun _ => rfl) (fun _ => rfl) (fun _ => rfl) (fun r51 _ hw => ?_)
          refine g_istore X [(8, .int r51), (0, .ref (g 0 0)), (1, .ref bp), (2, .ref bc), (3, .ref bq), (4, .ref bn), (6, .int x6), (7, .int x7)] dL_acts_122 (by decide) rfl ?_
          refine g_iload X 0 dL_acts_124 rfl ?_
          refine g_iconst (v := 1) X rfl dL_acts_126 ?_
          refine g_iadd X dL_acts_127 ?_
          refine g_iload X 6 dL_acts_128 rfl ?_
          refine g_iconst (v := 5) X rfl dL_acts_130 ?_
          refine g_ishr X dL_acts_131 ?_
          refine g_aload X 5 dL_acts_132 rfl ?_
          refine g_iconst (v := 0) X rfl dL_acts_134 ?_
          obtain ⟨h53, hw⟩ := hw
          refine g_iald X 87 0 dL_acts_135 rfl rfl h53 ?_
          refine g_iconst (v := 1) X rfl dL_acts_136 ?_
          refine g_isub X dL_acts_137 ?_
          refine g_ciS X [wC ct g kc, wS ct (g 1) v, wV ct g b, wS ct (g 5) (r 0), wS ct (g 6) (r 1), wS ct (g 7) (r 2), wS ct (g 8) (r 3), wS ct (g 9) (r 4), wS ct (g 10) (r 5), wL ct (g 12) y, wO ct (g 13) o, wR ct (g 14) x, wI 40 ct bp ap, wI 20 ct bc ac, wI 24 ct bq aq, wI 7 ct bn an] (fun (_ : Unit) => [wC ct g kc, wS ct (g 1) v, wV ct g b, wS ct (g 5) (r 0), wS ct (g 6) (r 1), wS ct (g 7) (r 2), wS ct (g 8) (r 3), wS ct (g 9) (r 4), wS ct (g 10) (r 5), wL ct (g 12) y, wO ct (g 13) o, wR ct (g 14) x, wI 40 ct bp ap, wI 20 ct bc ac, wI 24 ct bq aq, wI 7 ct bn an]) (fun _ => fl [wC ct g kc, wS ct (g 1) v, wV ct g b, wS ct (g 5) (r 0), wS ct (g 6) (r 1), wS ct (g 7) (r 2), wS ct (g 8) (r 3), wS ct (g 9) (r 4), wS ct (g 10) (r 5), wL ct (g 12) y, wO ct (g 13) o, wR ct (g 14) x, wI 40 ct bp ap, wI 20 ct bc ac, wI 24 ct bq aq, wI 7 ct bn an]) 16 [] [0, 1, 2, 3, 4, 5, 6, 7, 8, 9, 10, 11, 12, 13, 14, 15] (kL_low l D ct  (x6 >>> (5 &&& 31)) ((an 0 (ix 0)) - 1) _ hw) (va_cwS 2 X.1.2.2.2.2 gL_acts_L_low rfl rfl rfl (by decide +kernel) ⟨Nat.le_of_ble_eq_true rfl, Nat.le_of_ble_eq_true rfl⟩) dL_acts_138 rfl rfl (Nat.le_of_ble_eq_true rfl) ⟨Nat.le_of_ble_eq_true rfl, Nat.le_of_ble_eq_true rfl⟩ rfl rfl rfl (by decide) (fun _ => rfl) (fun _ => rfl) (fun _ => rfl) (fun _ => rfl) (fun r54 _ hw => ?_)
          refine g_iadd X dL_acts_141 ?_
          refine g_aload X 5 dL_acts_142 rfl ?_
          refine g_iconst (v := 0) X rfl dL_acts_144 ?_
          obtain ⟨h56, hw⟩ := hw
          refine g_iald X 87 0 dL_acts_145 rfl rfl h56 ?_
          obtain ⟨h57, hw⟩ := hw
          refine g_irem X h57 dL_acts_146 ?_
          refine g_topi (fun q58 hq58 => ?_)
          replace hw := hw q58 hq58
          refine g_istore X [(9, .int q58), (8, .int r51), (0, .ref (g 0 0)), (1, .ref bp), (2, .ref bc), (3, .ref bq), (4, .ref bn), (6, .int x6), (7, .int x7)] dL_acts_147 (by decide) rfl ?_
          refine g_aload_n X 2 dL_acts_149 rfl rfl ?_
          refine g_iload X 1 dL_acts_150 rfl ?_
          refine g_iload X 0 dL_acts_152 rfl ?_
          refine g_ciV X [wC ct g kc, wS ct (g 1) v, wV ct g b, wS ct (g 5) (r 0), wS ct (g 6) (r 1), wS ct (g 7) (r 2), wS ct (g 8) (r 3), wS ct (g 9) (r 4), wS ct (g 10) (r 5), wL ct (g 12) y, wO ct (g 13) o, wR ct (g 14) x, wI 40 ct bp ap, wI 20 ct bc ac, wI 24 ct bq aq, wI 7 ct bn an] (fun (u60 : Mem × Mem × (Nat → Mem)) => [wC ct g kc, wS ct (g 1) u60.1, wV ct g u60.2.1, wS ct (g 5) (u60.2.2 0), wS ct (g 6) (u60.2.2 1), wS ct (g 7) (u60.2.2 2), wS ct (g 8) (u60.2.2 3), wS ct (g 9) (u60.2.2 4), wS ct (g 10) (u60.2.2 5), wL ct (g 12) y, wO ct (g 13) o, wR ct (g 14) x, wI 40 ct bp ap, wI 20 ct bc ac, wI 24 ct bq aq, wI 7 ct bn an]) (fun (u60 : Mem × Mem × (Nat → Mem)) => fl [wC ct g kc, wS ct (g 1) u60.1, wV ct g u60.2.1, wS ct (g 5) (u60.2.2 0), wS ct (g 6) (u60.2.2 1), wS ct (g 7) (u60.2.2 2), wS ct (g 8) (u60.2.2 3), wS ct (g 9) (u60.2.2 4), wS ct (g 10) (u60.2.2 5), wL ct (g 12) y, wO ct (g 13) o, wR ct (g 14) x, wI 40 ct bp ap, wI 20 ct bc ac, wI 24 ct bq aq, wI 7 ct bn an]) 16 [0, 1, 2, 3, 4, 5, 6, 7, 8] [9, 10, 11, 12, 13, 14, 15] 0 (kX7_marry_nt l D ct g kc v b r r51 q58 _ hw) (cwV 2 X.1.2.2.2.2 gL_acts_X7_marry rfl rfl rfl (by decide +kernel) ⟨Nat.le_of_ble_eq_true rfl, Nat.le_of_ble_eq_true rfl⟩) dL_acts_154 rfl rfl (Nat.le_of_ble_eq_true rfl) ⟨Nat.le_of_ble_eq_true rfl, Nat.le_of_ble_eq_true rfl⟩ rfl rfl rfl (by decide) (fun _ => rfl) (fun _ => lq16_0_1_2_3_4_5_6_7_8) (fun _ => rfl) (fun _ => rfl) rfl rfl rfl (fun r59 u60 hw => ?_)
          obtain ⟨v61, hv61⟩ : ∃ z : Mem, z = u60.1 := ⟨_, rfl⟩
          rw [← hv61] at hw
          rw [← hv61]
          obtain ⟨b62, hb62⟩ : ∃ z : Mem, z = u60.2.1 := ⟨_, rfl⟩
          rw [← hb62] at hw
          rw [← hb62]
          obtain ⟨r63, hr63⟩ : ∃ z : Nat → Mem, z = u60.2.2 := ⟨_, rfl⟩
          rw [← hr63] at hw
          rw [← hr63]
          refine g_aload_n X 3 dL_acts_157 rfl rfl ?_
          refine g_aload_n X 4 dL_acts_158 rfl rfl ?_
          refine g_aload X 6 dL_acts_159 rfl ?_
          refine g_iload X 1 dL_acts_161 rfl ?_
          refine g_iload X 0 dL_acts_163 rfl ?_
          refine g_ciS X [wC ct g kc, wS ct (g 1) v61, wV ct g b62, wS ct (g 5) (r63 0), wS ct (g 6) (r63 1), wS ct (g 7) (r63 2), wS ct (g 8) (r63 3), wS ct (g 9) (r63 4), wS ct (g 10) (r63 5), wL ct (g 12) y, wO ct (g 13) o, wR ct (g 14) x, wI 40 ct bp ap, wI 20 ct bc ac, wI 24 ct bq aq, wI 7 ct bn an] (fun (u65 : Mem × Mem) => [wC ct g kc, wS ct (g 1) v61, wV ct g b62, wS ct (g 5) (r63 0), wS ct (g 6) (r63 1), wS ct (g 7) (r63 2), wS ct (g 8) (r63 3), wS ct (g 9) (r63 4), wS ct (g 10) (r63 5), wL ct (g 12) y, wO ct (g 13) o, wR ct (g 14) x, wI 40 ct bp ap, wI 20 ct bc u65.1, wI 24 ct bq aq, wI 7 ct bn u65.2]) (fun (u65 : Mem × Mem) => fl [wC ct g kc, wS ct (g 1) v61, wV ct g b62, wS ct (g 5) (r63 0), wS ct (g 6) (r63 1), wS ct (g 7) (r63 2), wS ct (g 8) (r63 3), wS ct (g 9) (r63 4), wS ct (g 10) (r63 5), wL ct (g 12) y, wO ct (g 13) o, wR ct (g 14) x, wI 40 ct bp ap, wI 20 ct bc u65.1, wI 24 ct bq aq, wI 7 ct bn u65.2]) 16 [12, 13, 15] [0, 1, 2, 3, 4, 5, 6, 7, 8, 9, 10, 11, 14] (kL_marries l D ct bp bc bn ap ac an r51 q58 _ hw) (va_cwS 5 X.1.2.2.2.2 gL_acts_L_marries rfl rfl rfl (by decide +kernel) ⟨Nat.le_of_ble_eq_true rfl, Nat.le_of_ble_eq_true rfl⟩) dL_acts_165 rfl rfl (Nat.le_of_ble_eq_true rfl) ⟨Nat.le_of_ble_eq_true rfl, Nat.le_of_ble_eq_true rfl⟩ rfl rfl rfl (by decide) (fun _ => rfl) (fun _ => lq16_12_13_15) (fun _ => rfl) (fun _ => rfl) (fun r64 u65 hw => ?_)
          obtain ⟨ac66, hac66⟩ : ∃ z : Mem, z = u65.1 := ⟨_, rfl⟩
          rw [← hac66] at hw
          rw [← hac66]
          obtain ⟨an67, han67⟩ : ∃ z : Mem, z = u65.2 := ⟨_, rfl⟩
          rw [← han67] at hw
          rw [← han67]
          refine g_icmp_ne X 175 dL_acts_168 (by decide) (fun c68 => ?_) (fun c68 => ?_)
          · replace hw := hw.1 c68
            refine g_iconst (v := 0) X rfl dL_acts_175 ?_
            exact g_zret X (v61, b62, r63, y, o, x, ap, ac66, aq, an67) isB_0 hw rfl (Nat.le_of_ble_eq_true rfl) (Nat.le_of_ble_eq_true rfl) dL_acts_176
          · replace hw := hw.2 c68
            refine g_iconst (v := 1) X rfl dL_acts_171 ?_
            refine g_goto X 176 dL_acts_172 (by decide) ?_
            exact g_zret X (v61, b62, r63, y, o, x, ap, ac66, aq, an67) isB_1 hw rfl (Nat.le_of_ble_eq_true rfl) (Nat.le_of_ble_eq_true rfl) dL_acts_176
        · replace hw := hw.2 c49
          by_cases c69 : z0 = 4
          · replace hw := hw.1 c69
            refine g_tableIn X 113 dL_acts_22 (by rw [c69]; decide) (by rw [c69]; decide) (by rw [c69]; rfl) (by decide) ?_
            refine g_iload X 5 dL_acts_113 rfl ?_
            refine g_aload X 4 dL_acts_115 rfl ?_
            refine g_iconst (v := 0) X rfl dL_acts_117 ?_
            obtain ⟨h70, hw⟩ := hw
            refine g_iald X 87 0 dL_acts_118 rfl rfl h70 ?_
            refine g_ciS X [wC ct g kc, wS ct (g 1) v, wV ct g b, wS ct (g 5) (r 0), wS ct (g 6) (r 1), wS ct (g 7) (r 2), wS ct (g 8) (r 3), wS ct (g 9) (r 4), wS ct (g 10) (r 5), wL ct (g 12) y, wO ct (g 13) o, wR ct (g 14) x, wI 40 ct bp ap, wI 20 ct bc ac, wI 24 ct bq aq, wI 7 ct bn an] (fun (_ : Unit) => [wC ct g kc, wS ct (g 1) v, wV ct g b, wS ct (g 5) (r 0), wS ct (g 6) (r 1), wS ct (g 7) (r 2), wS ct (g 8) (r 3), wS ct (g 9) (r 4), wS ct (g 10) (r 5), wL ct (g 12) y, wO ct (g 13) o, wR ct (g 14) x, wI 40 ct bp ap, wI 20 ct bc ac, wI 24 ct bq aq, wI 7 ct bn an]) (fun _ => fl [wC ct g kc, wS ct (g 1) v, wV ct g b, wS ct (g 5) (r 0), wS ct (g 6) (r 1), wS ct (g 7) (r 2), wS ct (g 8) (r 3), wS ct (g 9) (r 4), wS ct (g 10) (r 5), wL ct (g 12) y, wO ct (g 13) o, wR ct (g 14) x, wI 40 ct bp ap, wI 20 ct bc ac, wI 24 ct bq aq, wI 7 ct bn an]) 16 [] [0, 1, 2, 3, 4, 5, 6, 7, 8, 9, 10, 11, 12, 13, 14, 15] (kL_low l D ct  x6 (an 0 (ix 0)) _ hw) (va_cwS 2 X.1.2.2.2.2 gL_acts_L_low rfl rfl rfl (by decide +kernel) ⟨Nat.le_of_ble_eq_true rfl, Nat.le_of_ble_eq_true rfl⟩) dL_acts_119 rfl rfl (Nat.le_of_ble_eq_true rfl) ⟨Nat.le_of_ble_eq_true rfl, Nat.le_of_ble_eq_true rfl⟩ rfl rfl rfl (by decide) (fun _ => rfl) (fun _ => rfl) (fun _ => rfl) (fun _ => rfl) (fun r71 _ hw => ?_)
            refine g_istore X [(8, .int r71), (0, .ref (g 0 0)), (1, .ref bp), (2, .ref bc), (3, .ref bq), (4, .ref bn), (6, .int x6), (7, .int x7)] dL_acts_122 (by decide) rfl ?_
            refine g_iload X 0 dL_acts_124 rfl ?_
            refine g_iconst (v := 1) X rfl dL_acts_126 ?_
            refine g_iadd X dL_acts_127 ?_
            refine g_iload X 6 dL_acts_128 rfl ?_
            refine g_iconst (v := 5) X rfl dL_acts_130 ?_
            refine g_ishr X dL_acts_131 ?_
            refine g_aload X 5 dL_acts_132 rfl ?_
            refine g_iconst (v := 0) X rfl dL_acts_134 ?_
            obtain ⟨h73, hw⟩ := hw
            refine g_iald X 87 0 dL_acts_135 rfl rfl h73 ?_
            refine g_iconst (v := 1) X rfl dL_acts_136 ?_
            refine g_isub X dL_acts_137 ?_
            refine g_ciS X [wC ct g kc, wS ct (g 1) v, wV ct g b, wS ct (g 5) (r 0), wS ct (g 6) (r 1), wS ct (g 7) (r 2), wS ct (g 8) (r 3), wS ct (g 9) (r 4), wS ct (g 10) (r 5), wL ct (g 12) y, wO ct (g 13) o, wR ct (g 14) x, wI 40 ct bp ap, wI 20 ct bc ac, wI 24 ct bq aq, wI 7 ct bn an] (fun (_ : Unit) => [wC ct g kc, wS ct (g 1) v, wV ct g b, wS ct (g 5) (r 0), wS ct (g 6) (r 1), wS ct (g 7) (r 2), wS ct (g 8) (r 3), wS ct (g 9) (r 4), wS ct (g 10) (r 5), wL ct (g 12) y, wO ct (g 13) o, wR ct (g 14) x, wI 40 ct bp ap, wI 20 ct bc ac, wI 24 ct bq aq, wI 7 ct bn an]) (fun _ => fl [wC ct g kc, wS ct (g 1) v, wV ct g b, wS ct (g 5) (r 0), wS ct (g 6) (r 1), wS ct (g 7) (r 2), wS ct (g 8) (r 3), wS ct (g 9) (r 4), wS ct (g 10) (r 5), wL ct (g 12) y, wO ct (g 13) o, wR ct (g 14) x, wI 40 ct bp ap, wI 20 ct bc ac, wI 24 ct bq aq, wI 7 ct bn an]) 16 [] [0, 1, 2, 3, 4, 5, 6, 7, 8, 9, 10, 11, 12, 13, 14, 15] (kL_low l D ct  (x6 >>> (5 &&& 31)) ((an 0 (ix 0)) - 1) _ hw) (va_cwS 2 X.1.2.2.2.2 gL_acts_L_low rfl rfl rfl (by decide +kernel) ⟨Nat.le_of_ble_eq_true rfl, Nat.le_of_ble_eq_true rfl⟩) dL_acts_138 rfl rfl (Nat.le_of_ble_eq_true rfl) ⟨Nat.le_of_ble_eq_true rfl, Nat.le_of_ble_eq_true rfl⟩ rfl rfl rfl (by decide) (fun _ => rfl) (fun _ => rfl) (fun _ => rfl) (fun _ => rfl) (fun r74 _ hw => ?_)
            refine g_iadd X dL_acts_141 ?_
            refine g_aload X 5 dL_acts_142 rfl ?_
            refine g_iconst (v := 0) X rfl dL_acts_144 ?_
            obtain ⟨h76, hw⟩ := hw
            refine g_iald X 87 0 dL_acts_145 rfl rfl h76 ?_
            obtain ⟨h77, hw⟩ := hw
            refine g_irem X h77 dL_acts_146 ?_
            refine g_topi (fun q78 hq78 => ?_)
            replace hw := hw q78 hq78
            refine g_istore X [(9, .int q78), (8, .int r71), (0, .ref (g 0 0)), (1, .ref bp), (2, .ref bc), (3, .ref bq), (4, .ref bn), (6, .int x6), (7, .int x7)] dL_acts_147 (by decide) rfl ?_
            refine g_aload_n X 2 dL_acts_149 rfl rfl ?_
            refine g_iload X 1 dL_acts_150 rfl ?_
            refine g_iload X 0 dL_acts_152 rfl ?_
            refine g_ciV X [wC ct g kc, wS ct (g 1) v, wV ct g b, wS ct (g 5) (r 0), wS ct (g 6) (r 1), wS ct (g 7) (r 2), wS ct (g 8) (r 3), wS ct (g 9) (r 4), wS ct (g 10) (r 5), wL ct (g 12) y, wO ct (g 13) o, wR ct (g 14) x, wI 40 ct bp ap, wI 20 ct bc ac, wI 24 ct bq aq, wI 7 ct bn an] (fun (u80 : Mem × Mem × (Nat → Mem)) => [wC ct g kc, wS ct (g 1) u80.1, wV ct g u80.2.1, wS ct (g 5) (u80.2.2 0), wS ct (g 6) (u80.2.2 1), wS ct (g 7) (u80.2.2 2), wS ct (g 8) (u80.2.2 3), wS ct (g 9) (u80.2.2 4), wS ct (g 10) (u80.2.2 5), wL ct (g 12) y, wO ct (g 13) o, wR ct (g 14) x, wI 40 ct bp ap, wI 20 ct bc ac, wI 24 ct bq aq, wI 7 ct bn an]) (fun (u80 : Mem × Mem × (Nat → Mem)) => fl [wC ct g kc, wS ct (g 1) u80.1, wV ct g u80.2.1, wS ct (g 5) (u80.2.2 0), wS ct (g 6) (u80.2.2 1), wS ct (g 7) (u80.2.2 2), wS ct (g 8) (u80.2.2 3), wS ct (g 9) (u80.2.2 4), wS ct (g 10) (u80.2.2 5), wL ct (g 12) y, wO ct (g 13) o, wR ct (g 14) x, wI 40 ct bp ap, wI 20 ct bc ac, wI 24 ct bq aq, wI 7 ct bn an]) 16 [0, 1, 2, 3, 4, 5, 6, 7, 8] [9, 10, 11, 12, 13, 14, 15] 0 (kX7_marry_nt l D ct g kc v b r r71 q78 _ hw) (cwV 2 X.1.2.2.2.2 gL_acts_X7_marry rfl rfl rfl (by decide +kernel) ⟨Nat.le_of_ble_eq_true rfl, Nat.le_of_ble_eq_true rfl⟩) dL_acts_154 rfl rfl (Nat.le_of_ble_eq_true rfl) ⟨Nat.le_of_ble_eq_true rfl, Nat.le_of_ble_eq_true rfl⟩ rfl rfl rfl (by decide) (fun _ => rfl) (fun _ => lq16_0_1_2_3_4_5_6_7_8) (fun _ => rfl) (fun _ => rfl) rfl rfl rfl (fun r79 u80 hw => ?_)
            obtain ⟨v81, hv81⟩ : ∃ z : Mem, z = u80.1 := ⟨_, rfl⟩
            rw [← hv81] at hw
            rw [← hv81]
            obtain ⟨b82, hb82⟩ : ∃ z : Mem, z = u80.2.1 := ⟨_, rfl⟩
            rw [← hb82] at hw
            rw [← hb82]
            obtain ⟨r83, hr83⟩ : ∃ z : Nat → Mem, z = u80.2.2 := ⟨_, rfl⟩
            rw [← hr83] at hw
            rw [← hr83]
            refine g_aload_n X 3 dL_acts_157 rfl rfl ?_
            refine g_aload_n X 4 dL_acts_158 rfl rfl ?_
            refine g_aload X 6 dL_acts_159 rfl ?_
            refine g_iload X 1 dL_acts_161 rfl ?_
            refine g_iload X 0 dL_acts_163 rfl ?_
            refine g_ciS X [wC ct g kc, wS ct (g 1) v81, wV ct g b82, wS ct (g 5) (r83 0), wS ct (g 6) (r83 1), wS ct (g 7) (r83 2), wS ct (g 8) (r83 3), wS ct (g 9) (r83 4), wS ct (g 10) (r83 5), wL ct (g 12) y, wO ct (g 13) o, wR ct (g 14) x, wI 40 ct bp ap, wI 20 ct bc ac, wI 24 ct bq aq, wI 7 ct bn an] (fun (u85 : Mem × Mem) => [wC ct g kc, wS ct (g 1) v81, wV ct g b82, wS ct (g 5) (r83 0), wS ct (g 6) (r83 1), wS ct (g 7) (r83 2), wS ct (g 8) (r83 3), wS ct (g 9) (r83 4), wS ct (g 10) (r83 5), wL ct (g 12) y, wO ct (g 13) o, wR ct (g 14) x, wI 40 ct bp ap, wI 20 ct bc u85.1, wI 24 ct bq aq, wI 7 ct bn u85.2]) (fun (u85 : Mem × Mem) => fl [wC ct g kc, wS ct (g 1) v81, wV ct g b82, wS ct (g 5) (r83 0), wS ct (g 6) (r83 1), wS ct (g 7) (r83 2), wS ct (g 8) (r83 3), wS ct (g 9) (r83 4), wS ct (g 10) (r83 5), wL ct (g 12) y, wO ct (g 13) o, wR ct (g 14) x, wI 40 ct bp ap, wI 20 ct bc u85.1, wI 24 ct bq aq, wI 7 ct bn u85.2]) 16 [12, 13, 15] [0, 1, 2, 3, 4, 5, 6, 7, 8, 9, 10, 11, 14] (kL_marries l D ct bp bc bn ap ac an r71 q78 _ hw) (va_cwS 5 X.1.2.2.2.2 gL_acts_L_marries rfl rfl rfl (by decide +kernel) ⟨Nat.le_of_ble_eq_true rfl, Nat.le_of_ble_eq_true rfl⟩) dL_acts_165 rfl rfl (Nat.le_of_ble_eq_true rfl) ⟨Nat.le_of_ble_eq_true rfl, Nat.le_of_ble_eq_true rfl⟩ rfl rfl rfl (by decide) (fun _ => rfl) (fun _ => lq16_12_13_15) (fun _ => rfl) (fun _ => rfl) (fun r84 u85 hw => ?_)
            obtain ⟨ac86, hac86⟩ : ∃ z : Mem, z = u85.1 := ⟨_, rfl⟩
            rw [← hac86] at hw
            rw [← hac86]
            obtain ⟨an87, han87⟩ : ∃ z : Mem, z = u85.2 := ⟨_, rfl⟩
            rw [← han87] at hw
            rw [← han87]
            refine g_icmp_ne X 175 dL_acts_168 (by decide) (fun c88 => ?_) (fun c88 => ?_)
            · replace hw := hw.1 c88
              refine g_iconst (v := 0) X rfl dL_acts_175 ?_
              exact g_zret X (v81, b82, r83, y, o, x, ap, ac86, aq, an87) isB_0 hw rfl (Nat.le_of_ble_eq_true rfl) (Nat.le_of_ble_eq_true rfl) dL_acts_176
            · replace hw := hw.2 c88
              refine g_iconst (v := 1) X rfl dL_acts_171 ?_
              refine g_goto X 176 dL_acts_172 (by decide) ?_
              exact g_zret X (v81, b82, r83, y, o, x, ap, ac86, aq, an87) isB_1 hw rfl (Nat.le_of_ble_eq_true rfl) (Nat.le_of_ble_eq_true rfl) dL_acts_176
          · replace hw := hw.2 c69
            by_cases c89 : z0 = 5
            · replace hw := hw.1 c89
              refine g_tableIn X 113 dL_acts_22 (by rw [c89]; decide) (by rw [c89]; decide) (by rw [c89]; rfl) (by decide) ?_
              refine g_iload X 5 dL_acts_113 rfl ?_
              refine g_aload X 4 dL_acts_115 rfl ?_
              refine g_iconst (v := 0) X rfl dL_acts_117 ?_
              obtain ⟨h90, hw⟩ := hw
              refine g_iald X 87 0 dL_acts_118 rfl rfl h90 ?_
              refine g_ciS X [wC ct g kc, wS ct (g 1) v, wV ct g b, wS ct (g 5) (r 0), wS ct (g 6) (r 1), wS ct (g 7) (r 2), wS ct (g 8) (r 3), wS ct (g 9) (r 4), wS ct (g 10) (r 5), wL ct (g 12) y, wO ct (g 13) o, wR ct (g 14) x, wI 40 ct bp ap, wI 20 ct bc ac, wI 24 ct bq aq, wI 7 ct bn an] (fun (_ : Unit) => [wC ct g kc, wS ct (g 1) v, wV ct g b, wS ct (g 5) (r 0), wS ct (g 6) (r 1), wS ct (g 7) (r 2), wS ct (g 8) (r 3), wS ct (g 9) (r 4), wS ct (g 10) (r 5), wL ct (g 12) y, wO ct (g 13) o, wR ct (g 14) x, wI 40 ct bp ap, wI 20 ct bc ac, wI 24 ct bq aq, wI 7 ct bn an]) (fun _ => fl [wC ct g kc, wS ct (g 1) v, wV ct g b, wS ct (g 5) (r 0), wS ct (g 6) (r 1), wS ct (g 7) (r 2), wS ct (g 8) (r 3), wS ct (g 9) (r 4), wS ct (g 10) (r 5), wL ct (g 12) y, wO ct (g 13) o, wR ct (g 14) x, wI 40 ct bp ap, wI 20 ct bc ac, wI 24 ct bq aq, wI 7 ct bn an]) 16 [] [0, 1, 2, 3, 4, 5, 6, 7, 8, 9, 10, 11, 12, 13, 14, 15] (kL_low l D ct  x6 (an 0 (ix 0)) _ hw) (va_cwS 2 X.1.2.2.2.2 gL_acts_L_low rfl rfl rfl (by decide +kernel) ⟨Nat.le_of_ble_eq_true rfl, Nat.le_of_ble_eq_true rfl⟩) dL_acts_119 rfl rfl (Nat.le_of_ble_eq_true rfl) ⟨Nat.le_of_ble_eq_true rfl, Nat.le_of_ble_eq_true rfl⟩ rfl rfl rfl (by decide) (fun _ => rfl) (fun _ => rfl) (fun _ => rfl) (fun _ => rfl) (fun r91 _ hw => ?_)
              refine g_istore X [(8, .int r91), (0, .ref (g 0 0)), (1, .ref bp), (2, .ref bc), (3, .ref bq), (4, .ref bn), (6, .int x6), (7, .int x7)] dL_acts_122 (by decide) rfl ?_
              refine g_iload X 0 dL_acts_124 rfl ?_
              refine g_iconst (v := 1) X rfl dL_acts_126 ?_
              refine g_iadd X dL_acts_127 ?_
              refine g_iload X 6 dL_acts_128 rfl ?_
              refine g_iconst (v := 5) X rfl dL_acts_130 ?_
              refine g_ishr X dL_acts_131 ?_
              refine g_aload X 5 dL_acts_132 rfl ?_
              refine g_iconst (v := 0) X rfl dL_acts_134 ?_
              obtain ⟨h93, hw⟩ := hw
              refine g_iald X 87 0 dL_acts_135 rfl rfl h93 ?_
              refine g_iconst (v := 1) X rfl dL_acts_136 ?_
              refine g_isub X dL_acts_137 ?_
              refine g_ciS X [wC ct g kc, wS ct (g 1) v, wV ct g b, wS ct (g 5) (r 0), wS ct (g 6) (r 1), wS ct (g 7) (r 2), wS ct (g 8) (r 3), wS ct (g 9) (r 4), wS ct (g 10) (r 5), wL ct (g 12) y, wO ct (g 13) o, wR ct (g 14) x, wI 40 ct bp ap, wI 20 ct bc ac, wI 24 ct bq aq, wI 7 ct bn an] (fun (_ : Unit) => [wC ct g kc, wS ct (g 1) v, wV ct g b, wS ct (g 5) (r 0), wS ct (g 6) (r 1), wS ct (g 7) (r 2), wS ct (g 8) (r 3), wS ct (g 9) (r 4), wS ct (g 10) (r 5), wL ct (g 12) y, wO ct (g 13) o, wR ct (g 14) x, wI 40 ct bp ap, wI 20 ct bc ac, wI 24 ct bq aq, wI 7 ct bn an]) (fun _ => fl [wC ct g kc, wS ct (g 1) v, wV ct g b, wS ct (g 5) (r 0), wS ct (g 6) (r 1), wS ct (g 7) (r 2), wS ct (g 8) (r 3), wS ct (g 9) (r 4), wS ct (g 10) (r 5), wL ct (g 12) y, wO ct (g 13) o, wR ct (g 14) x, wI 40 ct bp ap, wI 20 ct bc ac, wI 24 ct bq aq, wI 7 ct bn an]) 16 [] [0, 1, 2, 3, 4, 5, 6, 7, 8, 9, 10, 11, 12, 13, 14, 15] (kL_low l D ct  (x6 >>> (5 &&& 31)) ((an 0 (ix 0)) - 1) _ hw) (va_cwS 2 X.1.2.2.2.2 gL_acts_L_low rfl rfl rfl (by decide +kernel) ⟨Nat.le_of_ble_eq_true rfl, Nat.le_of_ble_eq_true rfl⟩) dL_acts_138 rfl rfl (Nat.le_of_ble_eq_true rfl) ⟨Nat.le_of_ble_eq_true rfl, Nat.le_of_ble_eq_true rfl⟩ rfl rfl rfl (by decide) (fun _ => rfl) (fun _ => rfl) (fun _ => rfl) (fun _ => rfl) (fun r94 _ hw => ?_)
              refine g_iadd X dL_acts_141 ?_
              refine g_aload X 5 dL_acts_142 rfl ?_
              refine g_iconst (v := 0) X rfl dL_acts_144 ?_
              obtain ⟨h96, hw⟩ := hw
              refine g_iald X 87 0 dL_acts_145 rfl rfl h96 ?_
              obtain ⟨h97, hw⟩ := hw
              refine g_irem X h97 dL_acts_146 ?_
              refine g_topi (fun q98 hq98 => ?_)
              replace hw := hw q98 hq98
              refine g_istore X [(9, .int q98), (8, .int r91), (0, .ref (g 0 0)), (1, .ref bp), (2, .ref bc), (3, .ref bq), (4, .ref bn), (6, .int x6), (7, .int x7)] dL_acts_147 (by decide) rfl ?_
              refine g_aload_n X 2 dL_acts_149 rfl rfl ?_
              refine g_iload X 1 dL_acts_150 rfl ?_
              refine g_iload X 0 dL_acts_152 rfl ?_
              refine g_ciV X [wC ct g kc, wS ct (g 1) v, wV ct g b, wS ct (g 5) (r 0), wS ct (g 6) (r 1), wS ct (g 7) (r 2), wS ct (g 8) (r 3), wS ct (g 9) (r 4), wS ct (g 10) (r 5), wL ct (g 12) y, wO ct (g 13) o, wR ct (g 14) x, wI 40 ct bp ap, wI 20 ct bc ac, wI 24 ct bq aq, wI 7 ct bn an] (fun (u100 : Mem × Mem × (Nat → Mem)) => [wC ct g kc, wS ct (g 1) u100.1, wV ct g u100.2.1, wS ct (g 5) (u100.2.2 0), wS ct (g 6) (u100.2.2 1), wS ct (g 7) (u100.2.2 2), wS ct (g 8) (u100.2.2 3), wS ct (g 9) (u100.2.2 4), wS ct (g 10) (u100.2.2 5), wL ct (g 12) y, wO ct (g 13) o, wR ct (g 14) x, wI 40 ct bp ap, wI 20 ct bc ac, wI 24 ct bq aq, wI 7 ct bn an]) (fun (u100 : Mem × Mem × (Nat → Mem)) => fl [wC ct g kc, wS ct (g 1) u100.1, wV ct g u100.2.1, wS ct (g 5) (u100.2.2 0), wS ct (g 6) (u100.2.2 1), wS ct (g 7) (u100.2.2 2), wS ct (g 8) (u100.2.2 3), wS ct (g 9) (u100.2.2 4), wS ct (g 10) (u100.2.2 5), wL ct (g 12) y, wO ct (g 13) o, wR ct (g 14) x, wI 40 ct bp ap, wI 20 ct bc ac, wI 24 ct bq aq, wI 7 ct bn an]) 16 [0, 1, 2, 3, 4, 5, 6, 7, 8] [9, 10, 11, 12, 13, 14, 15] 0 (kX7_marry_nt l D ct g kc v b r r91 q98 _ hw) (cwV 2 X.1.2.2.2.2 gL_acts_X7_marry rfl rfl rfl (by decide +kernel) ⟨Nat.le_of_ble_eq_true rfl, Nat.le_of_ble_eq_true rfl⟩) dL_acts_154 rfl rfl (Nat.le_of_ble_eq_true rfl) ⟨Nat.le_of_ble_eq_true rfl, Nat.le_of_ble_eq_true rfl⟩ rfl rfl rfl (by decide) (fun _ => rfl) (fun _ => lq16_0_1_2_3_4_5_6_7_8) (fun _ => rfl) (fun _ => rfl) rfl rfl rfl (fun r99 u100 hw => ?_)
              obtain ⟨v101, hv101⟩ : ∃ z : Mem, z = u100.1 := ⟨_, rfl⟩
              rw [← hv101] at hw
              rw [← hv101]
              obtain ⟨b102, hb102⟩ : ∃ z : Mem, z = u100.2.1 := ⟨_, rfl⟩
              rw [← hb102] at hw
              rw [← hb102]
              obtain ⟨r103, hr103⟩ : ∃ z : Nat → Mem, z = u100.2.2 := ⟨_, rfl⟩
              rw [← hr103] at hw
              rw [← hr103]
              refine g_aload_n X 3 dL_acts_157 rfl rfl ?_
              refine g_aload_n X 4 dL_acts_158 rfl rfl ?_
              refine g_aload X 6 dL_acts_159 rfl ?_
              refine g_iload X 1 dL_acts_161 rfl ?_
              refine g_iload X 0 dL_acts_163 rfl ?_
              refine g_ciS X [wC ct g kc, wS ct (g 1) v101, wV ct g b102, wS ct (g 5) (r103 0), wS ct (g 6) (r103 1), wS ct (g 7) (r103 2), wS ct (g 8) (r103 3), wS ct (g 9) (r103 4), wS ct (g 10) (r103 5), wL ct (g 12) y, wO ct (g 13) o, wR ct (g 14) x, wI 40 ct bp ap, wI 20 ct bc ac, wI 24 ct bq aq, wI 7 ct bn an] (fun (u105 : Mem × Mem) => [wC ct g kc, wS ct (g 1) v101, wV ct g b102, wS ct (g 5) (r103 0), wS ct (g 6) (r103 1), wS ct (g 7) (r103 2), wS ct (g 8) (r103 3), wS ct (g 9) (r103 4), wS ct (g 10) (r103 5), wL ct (g 12) y, wO ct (g 13) o, wR ct (g 14) x, wI 40 ct bp ap, wI 20 ct bc u105.1, wI 24 ct bq aq, wI 7 ct bn u105.2]) (fun (u105 : Mem × Mem) => fl [wC ct g kc, wS ct (g 1) v101, wV ct g b102, wS ct (g 5) (r103 0), wS ct (g 6) (r103 1), wS ct (g 7) (r103 2), wS ct (g 8) (r103 3), wS ct (g 9) (r103 4), wS ct (g 10) (r103 5), wL ct (g 12) y, wO ct (g 13) o, wR ct (g 14) x, wI 40 ct bp ap, wI 20 ct bc u105.1, wI 24 ct bq aq, wI 7 ct bn u105.2]) 16 [12, 13, 15] [0, 1, 2, 3, 4, 5, 6, 7, 8, 9, 10, 11, 14] (kL_marries l D ct bp bc bn ap ac an r91 q98 _ hw) (va_cwS 5 X.1.2.2.2.2 gL_acts_L_marries rfl rfl rfl (by decide +kernel) ⟨Nat.le_of_ble_eq_true rfl, Nat.le_of_ble_eq_true rfl⟩) dL_acts_165 rfl rfl (Nat.le_of_ble_eq_true rfl) ⟨Nat.le_of_ble_eq_true rfl, Nat.le_of_ble_eq_true rfl⟩ rfl rfl rfl (by decide) (fun _ => rfl) (fun _ => lq16_12_13_15) (fun _ => rfl) (fun _ => rfl) (fun r104 u105 hw => ?_)
              obtain ⟨ac106, hac106⟩ : ∃ z : Mem, z = u105.1 := ⟨_, rfl⟩
              rw [← hac106] at hw
              rw [← hac106]
              obtain ⟨an107, han107⟩ : ∃ z : Mem, z = u105.2 := ⟨_, rfl⟩
              rw [← han107] at hw
              rw [← han107]
              refine g_icmp_ne X 175 dL_acts_168 (by decide) (fun c108 => ?_) (fun c108 => ?_)
              · replace hw := hw.1 c108
                refine g_iconst (v := 0) X rfl dL_acts_175 ?_
                exact g_zret X (v101, b102, r103, y, o, x, ap, ac106, aq, an107) isB_0 hw rfl (Nat.le_of_ble_eq_true rfl) (Nat.le_of_ble_eq_true rfl) dL_acts_176
              · replace hw := hw.2 c108
                refine g_iconst (v := 1) X rfl dL_acts_171 ?_
                refine g_goto X 176 dL_acts_172 (by decide) ?_
                exact g_zret X (v101, b102, r103, y, o, x, ap, ac106, aq, an107) isB_1 hw rfl (Nat.le_of_ble_eq_true rfl) (Nat.le_of_ble_eq_true rfl) dL_acts_176
            · replace hw := hw.2 c89
              by_cases c109 : z0 = 6
              · replace hw := hw.1 c109
                refine g_tableIn X 177 dL_acts_22 (by rw [c109]; decide) (by rw [c109]; decide) (by rw [c109]; rfl) (by decide) ?_
                refine g_aload X 4 dL_acts_177 rfl ?_
                refine g_iconst (v := 1) X rfl dL_acts_179 ?_
                obtain ⟨h110, hw⟩ := hw
                refine g_iald X 87 0 dL_acts_180 rfl rfl h110 ?_
                refine g_if_ne X 188 dL_acts_181 (by decide) (fun c111 => ?_) (fun c111 => ?_)
                · replace hw := hw.1 c111
                  refine g_iload X 5 dL_acts_188 rfl ?_
                  refine g_aload X 4 dL_acts_190 rfl ?_
                  refine g_iconst (v := 1) X rfl dL_acts_192 ?_
                  obtain ⟨h112, hw⟩ := hw
                  refine g_iald X 87 0 dL_acts_193 rfl rfl h112 ?_
                  refine g_ciS X [wC ct g kc, wS ct (g 1) v, wV ct g b, wS ct (g 5) (r 0), wS ct (g 6) (r 1), wS ct (g 7) (r 2), wS ct (g 8) (r 3), wS ct (g 9) (r 4), wS ct (g 10) (r 5), wL ct (g 12) y, wO ct (g 13) o, wR ct (g 14) x, wI 40 ct bp ap, wI 20 ct bc ac, wI 24 ct bq aq, wI 7 ct bn an] (fun (_ : Unit) => [wC ct g kc, wS ct (g 1) v, wV ct g b, wS ct (g 5) (r 0), wS ct (g 6) (r 1), wS ct (g 7) (r 2), wS ct (g 8) (r 3), wS ct (g 9) (r 4), wS ct (g 10) (r 5), wL ct (g 12) y, wO ct (g 13) o, wR ct (g 14) x, wI 40 ct bp ap, wI 20 ct bc ac, wI 24 ct bq aq, wI 7 ct bn an]) (fun _ => fl [wC ct g kc, wS ct (g 1) v, wV ct g b, wS ct (g 5) (r 0), wS ct (g 6) (r 1), wS ct (g 7) (r 2), wS ct (g 8) (r 3), wS ct (g 9) (r 4), wS ct (g 10) (r 5), wL ct (g 12) y, wO ct (g 13) o, wR ct (g 14) x, wI 40 ct bp ap, wI 20 ct bc ac, wI 24 ct bq aq, wI 7 ct bn an]) 16 [] [0, 1, 2, 3, 4, 5, 6, 7, 8, 9, 10, 11, 12, 13, 14, 15] (kL_low l D ct  x6 (an 0 (ix 1)) _ hw) (va_cwS 2 X.1.2.2.2.2 gL_acts_L_low rfl rfl rfl (by decide +kernel) ⟨Nat.le_of_ble_eq_true rfl, Nat.le_of_ble_eq_true rfl⟩) dL_acts_194 rfl rfl (Nat.le_of_ble_eq_true rfl) ⟨Nat.le_of_ble_eq_true rfl, Nat.le_of_ble_eq_true rfl⟩ rfl rfl rfl (by decide) (fun _ => rfl) (fun _ => rfl) (fun _ => rfl) (fun _ => rfl) (fun r113 _ hw => ?_)
                  refine g_sub [(0, .ref (g 0 0)), (1, .ref bp), (2, .ref bc), (3, .ref bq), (4, .ref bn)] [0, 1, 2, 3, 4] rfl ?_
                  exact kL_acts_197 l D ct g bp bc bq bn 0 kc post X _ _ _ _ _ _ _ _ _ _ _ _ hw
                · replace hw := hw.2 c111
                  refine g_iconst (v := 0) X rfl dL_acts_184 ?_
                  refine g_goto X 197 dL_acts_185 (by decide) ?_
                  refine g_sub [(0, .ref (g 0 0)), (1, .ref bp), (2, .ref bc), (3, .ref bq), (4, .ref bn)] [0, 1, 2, 3, 4] rfl ?_
                  exact kL_acts_197 l D ct g bp bc bq bn 0 kc post X _ _ _ _ _ _ _ _ _ _ _ _ hw
              · replace hw := hw.2 c109
                by_cases c130 : z0 = 7
                · replace hw := hw.1 c130
                  refine g_tableIn X 177 dL_acts_22 (by rw [c130]; decide) (by rw [c130]; decide) (by rw [c130]; rfl) (by decide) ?_
                  refine g_aload X 4 dL_acts_177 rfl ?_
                  refine g_iconst (v := 1) X rfl dL_acts_179 ?_
                  obtain ⟨h131, hw⟩ := hw
                  refine g_iald X 87 0 dL_acts_180 rfl rfl h131 ?_
                  refine g_if_ne X 188 dL_acts_181 (by decide) (fun c132 => ?_) (fun c132 => ?_)
                  · replace hw := hw.1 c132
                    refine g_iload X 5 dL_acts_188 rfl ?_
                    refine g_aload X 4 dL_acts_190 rfl ?_
                    refine g_iconst (v := 1) X rfl dL_acts_192 ?_
                    obtain ⟨h133, hw⟩ := hw
                    refine g_iald X 87 0 dL_acts_193 rfl rfl h133 ?_
                    refine g_ciS X [wC ct g kc, wS ct (g 1) v, wV ct g b, wS ct (g 5) (r 0), wS ct (g 6) (r 1), wS ct (g 7) (r 2), wS ct (g 8) (r 3), wS ct (g 9) (r 4), wS ct (g 10) (r 5), wL ct (g 12) y, wO ct (g 13) o, wR ct (g 14) x, wI 40 ct bp ap, wI 20 ct bc ac, wI 24 ct bq aq, wI 7 ct bn an] (fun (_ : Unit) => [wC ct g kc, wS ct (g 1) v, wV ct g b, wS ct (g 5) (r 0), wS ct (g 6) (r 1), wS ct (g 7) (r 2), wS ct (g 8) (r 3), wS ct (g 9) (r 4), wS ct (g 10) (r 5), wL ct (g 12) y, wO ct (g 13) o, wR ct (g 14) x, wI 40 ct bp ap, wI 20 ct bc ac, wI 24 ct bq aq, wI 7 ct bn an]) (fun _ => fl [wC ct g kc, wS ct (g 1) v, wV ct g b, wS ct (g 5) (r 0), wS ct (g 6) (r 1), wS ct (g 7) (r 2), wS ct (g 8) (r 3), wS ct (g 9) (r 4), wS ct (g 10) (r 5), wL ct (g 12) y, wO ct (g 13) o, wR ct (g 14) x, wI 40 ct bp ap, wI 20 ct bc ac, wI 24 ct bq aq, wI 7 ct bn an]) 16 [] [0, 1, 2, 3, 4, 5, 6, 7, 8, 9, 10, 11, 12, 13, 14, 15] (kL_low l D ct  x6 (an 0 (ix 1)) _ hw) (va_cwS 2 X.1.2.2.2.2 gL_acts_L_low rfl rfl rfl (by decide +kernel) ⟨Nat.le_of_ble_eq_true rfl, Nat.le_of_ble_eq_true rfl⟩) dL_acts_194 rfl rfl (Nat.le_of_ble_eq_true rfl) ⟨Nat.le_of_ble_eq_true rfl, Nat.le_of_ble_eq_true rfl⟩ rfl rfl rfl (by decide) (fun _ => rfl) (fun _ => rfl) (fun _ => rfl) (fun _ => rfl) (fun r134 _ hw => ?_)
                    refine g_sub [(0, .ref (g 0 0)), (1, .ref bp), (2, .ref bc), (3, .ref bq), (4, .ref bn)] [0, 1, 2, 3, 4] rfl ?_
                    exact kL_acts_197 l D ct g bp bc bq bn 0 kc post X _ _ _ _ _ _ _ _ _ _ _ _ hw
                  · replace hw := hw.2 c132
                    refine g_iconst (v := 0) X rfl dL_acts_184 ?_
                    refine g_goto X 197 dL_acts_185 (by decide) ?_
                    refine g_sub [(0, .ref (g 0 0)), (1, .ref bp), (2, .ref bc), (3, .ref bq), (4, .ref bn)] [0, 1, 2, 3, 4] rfl ?_
                    exact kL_acts_197 l D ct g bp bc bq bn 0 kc post X _ _ _ _ _ _ _ _ _ _ _ _ hw
                · replace hw := hw.2 c130
                  by_cases c136 : z0 = 8
                  · replace hw := hw.1 c136
                    refine g_tableIn X 177 dL_acts_22 (by rw [c136]; decide) (by rw [c136]; decide) (by rw [c136]; rfl) (by decide) ?_
                    refine g_aload X 4 dL_acts_177 rfl ?_
                    refine g_iconst (v := 1) X rfl dL_acts_179 ?_
                    obtain ⟨h137, hw⟩ := hw
                    refine g_iald X 87 0 dL_acts_180 rfl rfl h137 ?_
                    refine g_if_ne X 188 dL_acts_181 (by decide) (fun c138 => ?_) (fun c138 => ?_)
                    · replace hw := hw.1 c138
                      refine g_iload X 5 dL_acts_188 rfl ?_
                      refine g_aload X 4 dL_acts_190 rfl ?_
                      refine g_iconst (v := 1) X rfl dL_acts_192 ?_
                      obtain ⟨h139, hw⟩ := hw
                      refine g_iald X 87 0 dL_acts_193 rfl rfl h139 ?_
                      refine g_ciS X [wC ct g kc, wS ct (g 1) v, wV ct g b, wS ct (g 5) (r 0), wS ct (g 6) (r 1), wS ct (g 7) (r 2), wS ct (g 8) (r 3), wS ct (g 9) (r 4), wS ct (g 10) (r 5), wL ct (g 12) y, wO ct (g 13) o, wR ct (g 14) x, wI 40 ct bp ap, wI 20 ct bc ac, wI 24 ct bq aq, wI 7 ct bn an] (fun (_ : Unit) => [wC ct g kc, wS ct (g 1) v, wV ct g b, wS ct (g 5) (r 0), wS ct (g 6) (r 1), wS ct (g 7) (r 2), wS ct (g 8) (r 3), wS ct (g 9) (r 4), wS ct (g 10) (r 5), wL ct (g 12) y, wO ct (g 13) o, wR ct (g 14) x, wI 40 ct bp ap, wI 20 ct bc ac, wI 24 ct bq aq, wI 7 ct bn an]) (fun _ => fl [wC ct g kc, wS ct (g 1) v, wV ct g b, wS ct (g 5) (r 0), wS ct (g 6) (r 1), wS ct (g 7) (r 2), wS ct (g 8) (r 3), wS ct (g 9) (r 4), wS ct (g 10) (r 5), wL ct (g 12) y, wO ct (g 13) o, wR ct (g 14) x, wI 40 ct bp ap, wI 20 ct bc ac, wI 24 ct bq aq, wI 7 ct bn an]) 16 [] [0, 1, 2, 3, 4, 5, 6, 7, 8, 9, 10, 11, 12, 13, 14, 15] (kL_low l D ct  x6 (an 0 (ix 1)) _ hw) (va_cwS 2 X.1.2.2.2.2 gL_acts_L_low rfl rfl rfl (by decide +kernel) ⟨Nat.le_of_ble_eq_true rfl, Nat.le_of_ble_eq_true rfl⟩) dL_acts_194 rfl rfl (Nat.le_of_ble_eq_true rfl) ⟨Nat.le_of_ble_eq_true rfl, Nat.le_of_ble_eq_true rfl⟩ rfl rfl rfl (by decide) (fun _ => rfl) (fun _ => rfl) (fun _ => rfl) (fun _ => rfl) (fun r140 _ hw => ?_)
                      refine g_sub [(0, .ref (g 0 0)), (1, .ref bp), (2, .ref bc), (3, .ref bq), (4, .ref bn)] [0, 1, 2, 3, 4] rfl ?_
                      exact kL_acts_197 l D ct g bp bc bq bn 0 kc post X _ _ _ _ _ _ _ _ _ _ _ _ hw
                    · replace hw := hw.2 c138
                      refine g_iconst (v := 0) X rfl dL_acts_184 ?_
                      refine g_goto X 197 dL_acts_185 (by decide) ?_
                      refine g_sub [(0, .ref (g 0 0)), (1, .ref bp), (2, .ref bc), (3, .ref bq), (4, .ref bn)] [0, 1, 2, 3, 4] rfl ?_
                      exact kL_acts_197 l D ct g bp bc bq bn 0 kc post X _ _ _ _ _ _ _ _ _ _ _ _ hw
                  · replace hw := hw.2 c136
                    by_cases c142 : z0 = 9
                    · replace hw := hw.1 c142
                      refine g_tableIn X 177 dL_acts_22 (by rw [c142]; decide) (by rw [c142]; decide) (by rw [c142]; rfl) (by decide) ?_
                      refine g_aload X 4 dL_acts_177 rfl ?_
                      refine g_iconst (v := 1) X rfl dL_acts_179 ?_
                      obtain ⟨h143, hw⟩ := hw
                      refine g_iald X 87 0 dL_acts_180 rfl rfl h143 ?_
                      refine g_if_ne X 188 dL_acts_181 (by decide) (fun c144 => ?_) (fun c144 => ?_)
                      · replace hw := hw.1 c144
                        refine g_iload X 5 dL_acts_188 rfl ?_
                        refine g_aload X 4 dL_acts_190 rfl ?_
                        refine g_iconst (v := 1) X rfl dL_acts_192 ?_
                        obtain ⟨h145, hw⟩ := hw
                        refine g_iald X 87 0 dL_acts_193 rfl rfl h145 ?_
                        refine g_ciS X [wC ct g kc, wS ct (g 1) v, wV ct g b, wS ct (g 5) (r 0), wS ct (g 6) (r 1), wS ct (g 7) (r 2), wS ct (g 8) (r 3), wS ct (g 9) (r 4), wS ct (g 10) (r 5), wL ct (g 12) y, wO ct (g 13) o, wR ct (g 14) x, wI 40 ct bp ap, wI 20 ct bc ac, wI 24 ct bq aq, wI 7 ct bn an] (fun (_ : Unit) => [wC ct g kc, wS ct (g 1) v, wV ct g b, wS ct (g 5) (r 0), wS ct (g 6) (r 1), wS ct (g 7) (r 2), wS ct (g 8) (r 3), wS ct (g 9) (r 4), wS ct (g 10) (r 5), wL ct (g 12) y, wO ct (g 13) o, wR ct (g 14) x, wI 40 ct bp ap, wI 20 ct bc ac, wI 24 ct bq aq, wI 7 ct bn an]) (fun _ => fl [wC ct g kc, wS ct (g 1) v, wV ct g b, wS ct (g 5) (r 0), wS ct (g 6) (r 1), wS ct (g 7) (r 2), wS ct (g 8) (r 3), wS ct (g 9) (r 4), wS ct (g 10) (r 5), wL ct (g 12) y, wO ct (g 13) o, wR ct (g 14) x, wI 40 ct bp ap, wI 20 ct bc ac, wI 24 ct bq aq, wI 7 ct bn an]) 16 [] [0, 1, 2, 3, 4, 5, 6, 7, 8, 9, 10, 11, 12, 13, 14, 15] (kL_low l D ct  x6 (an 0 (ix 1)) _ hw) (va_cwS 2 X.1.2.2.2.2 gL_acts_L_low rfl rfl rfl (by decide +kernel) ⟨Nat.le_of_ble_eq_true rfl, Nat.le_of_ble_eq_true rfl⟩) dL_acts_194 rfl rfl (Nat.le_of_ble_eq_true rfl) ⟨Nat.le_of_ble_eq_true rfl, Nat.le_of_ble_eq_true rfl⟩ rfl rfl rfl (by decide) (fun _ => rfl) (fun _ => rfl) (fun _ => rfl) (fun _ => rfl) (fun r146 _ hw => ?_)
                        refine g_sub [(0, .ref (g 0 0)), (1, .ref bp), (2, .ref bc), (3, .ref bq), (4, .ref bn)] [0, 1, 2, 3, 4] rfl ?_
                        exact kL_acts_197 l D ct g bp bc bq bn 0 kc post X _ _ _ _ _ _ _ _ _ _ _ _ hw
                      · replace hw := hw.2 c144
                        refine g_iconst (v := 0) X rfl dL_acts_184 ?_
                        refine g_goto X 197 dL_acts_185 (by decide) ?_
                        refine g_sub [(0, .ref (g 0 0)), (1, .ref bp), (2, .ref bc), (3, .ref bq), (4, .ref bn)] [0, 1, 2, 3, 4] rfl ?_
                        exact kL_acts_197 l D ct g bp bc bq bn 0 kc post X _ _ _ _ _ _ _ _ _ _ _ _ hw
                    · replace hw := hw.2 c142
                      by_cases c148 : z0 = 10
                      · replace hw := hw.1 c148
                        refine g_tableIn X 242 dL_acts_22 (by rw [c148]; decide) (by rw [c148]; decide) (by rw [c148]; rfl) (by decide) ?_
                        refine g_aload X 4 dL_acts_242 rfl ?_
                        refine g_iconst (v := 3) X rfl dL_acts_244 ?_
                        refine g_iload X 6 dL_acts_245 rfl ?_
                        refine g_iadd X dL_acts_247 ?_
                        obtain ⟨h149, hw⟩ := hw
                        refine g_iald X 87 0 dL_acts_248 rfl rfl h149 ?_
                        refine g_iconst (v := 2) X rfl dL_acts_249 ?_
                        refine g_icmp_ge X 270 dL_acts_250 (by decide) (fun c150 => ?_) (fun c150 => ?_)
                        · replace hw := hw.1 c150
                          refine g_bipush (v := 6) X rfl dL_acts_270 ?_
                          refine g_iload X 6 dL_acts_272 rfl ?_
                          refine g_imul X dL_acts_274 ?_
                          refine g_iload X 5 dL_acts_275 rfl ?_
                          refine g_iconst (v := 2) X rfl dL_acts_277 ?_
                          refine g_ishr X dL_acts_278 ?_
                          refine g_aload X 4 dL_acts_279 rfl ?_
                          refine g_iconst (v := 3) X rfl dL_acts_281 ?_
                          refine g_iload X 6 dL_acts_282 rfl ?_
                          refine g_iadd X dL_acts_284 ?_
                          obtain ⟨h151, hw⟩ := hw
                          refine g_iald X 87 0 dL_acts_285 rfl rfl h151 ?_
                          refine g_iconst (v := 1) X rfl dL_acts_286 ?_
                          refine g_isub X dL_acts_287 ?_
                          refine g_ciS X [wC ct g kc, wS ct (g 1) v, wV ct g b, wS ct (g 5) (r 0), wS ct (g 6) (r 1), wS ct (g 7) (r 2), wS ct (g 8) (r 3), wS ct (g 9) (r 4), wS ct (g 10) (r 5), wL ct (g 12) y, wO ct (g 13) o, wR ct (g 14) x, wI 40 ct bp ap, wI 20 ct bc ac, wI 24 ct bq aq, wI 7 ct bn an] (fun (_ : Unit) => [wC ct g kc, wS ct (g 1) v, wV ct g b, wS ct (g 5) (r 0), wS ct (g 6) (r 1), wS ct (g 7) (r 2), wS ct (g 8) (r 3), wS ct (g 9) (r 4), wS ct (g 10) (r 5), wL ct (g 12) y, wO ct (g 13) o, wR ct (g 14) x, wI 40 ct bp ap, wI 20 ct bc ac, wI 24 ct bq aq, wI 7 ct bn an]) (fun _ => fl [wC ct g kc, wS ct (g 1) v, wV ct g b, wS ct (g 5) (r 0), wS ct (g 6) (r 1), wS ct (g 7) (r 2), wS ct (g 8) (r 3), wS ct (g 9) (r 4), wS ct (g 10) (r 5), wL ct (g 12) y, wO ct (g 13) o, wR ct (g 14) x, wI 40 ct bp ap, wI 20 ct bc ac, wI 24 ct bq aq, wI 7 ct bn an]) 16 [] [0, 1, 2, 3, 4, 5, 6, 7, 8, 9, 10, 11, 12, 13, 14, 15] (kL_low l D ct  (x6 >>> (2 &&& 31)) ((an 0 (ix (3 + x7))) - 1) _ hw) (va_cwS 2 X.1.2.2.2.2 gL_acts_L_low rfl rfl rfl (by decide +kernel) ⟨Nat.le_of_ble_eq_true rfl, Nat.le_of_ble_eq_true rfl⟩) dL_acts_288 rfl rfl (Nat.le_of_ble_eq_true rfl) ⟨Nat.le_of_ble_eq_true rfl, Nat.le_of_ble_eq_true rfl⟩ rfl rfl rfl (by decide) (fun _ => rfl) (fun _ => rfl) (fun _ => rfl) (fun _ => rfl) (fun r152 _ hw => ?_)
                          refine g_iadd X dL_acts_291 ?_
                          refine g_topi (fun q154 hq154 => ?_)
                          replace hw := hw q154 hq154
                          refine g_istore X [(11, .int q154), (0, .ref (g 0 0)), (1, .ref bp), (2, .ref bc), (3, .ref bq), (4, .ref bn), (6, .int x6), (7, .int x7)] dL_acts_292 (by decide) rfl ?_
                          refine g_aload_n X 2 dL_acts_294 rfl rfl ?_
                          refine g_aload_n X 3 dL_acts_295 rfl rfl ?_
                          refine g_aload_n X 4 dL_acts_296 rfl rfl ?_
                          refine g_aload X 5 dL_acts_297 rfl ?_
                          refine g_ciS X [wC ct g kc, wS ct (g 1) v, wV ct g b, wS ct (g 5) (r 0), wS ct (g 6) (r 1), wS ct (g 7) (r 2), wS ct (g 8) (r 3), wS ct (g 9) (r 4), wS ct (g 10) (r 5), wL ct (g 12) y, wO ct (g 13) o, wR ct (g 14) x, wI 40 ct bp ap, wI 20 ct bc ac, wI 24 ct bq aq, wI 7 ct bn an] (fun (_ : Unit) => [wC ct g kc, wS ct (g 1) v, wV ct g b, wS ct (g 5) (r 0), wS ct (g 6) (r 1), wS ct (g 7) (r 2), wS ct (g 8) (r 3), wS ct (g 9) (r 4), wS ct (g 10) (r 5), wL ct (g 12) y, wO ct (g 13) o, wR ct (g 14) x, wI 40 ct bp ap, wI 20 ct bc ac, wI 24 ct bq aq, wI 7 ct bn an]) (fun _ => fl [wC ct g kc, wS ct (g 1) v, wV ct g b, wS ct (g 5) (r 0), wS ct (g 6) (r 1), wS ct (g 7) (r 2), wS ct (g 8) (r 3), wS ct (g 9) (r 4), wS ct (g 10) (r 5), wL ct (g 12) y, wO ct (g 13) o, wR ct (g 14) x, wI 40 ct bp ap, wI 20 ct bc ac, wI 24 ct bq aq, wI 7 ct bn an]) 16 [12, 13, 14, 15] [0, 1, 2, 3, 4, 5, 6, 7, 8, 9, 10, 11] (kL_all l D ct bp bc bq bn ap ac aq an _ hw) (va_cwS 4 X.1.2.2.2.2 gL_acts_L_all rfl rfl rfl (by decide +kernel) ⟨Nat.le_of_ble_eq_true rfl, Nat.le_of_ble_eq_true rfl⟩) dL_acts_299 rfl rfl (Nat.le_of_ble_eq_true rfl) ⟨Nat.le_of_ble_eq_true rfl, Nat.le_of_ble_eq_true rfl⟩ rfl rfl rfl (by decide) (fun _ => rfl) (fun _ => rfl) (fun _ => rfl) (fun _ => rfl) (fun r155 _ hw => ?_)
                          refine g_istore X [(12, .int r155), (11, .int q154), (0, .ref (g 0 0)), (1, .ref bp), (2, .ref bc), (3, .ref bq), (4, .ref bn), (6, .int x6), (7, .int x7)] dL_acts_302 (by decide) rfl ?_
                          refine g_aload_n X 5 dL_acts_304 rfl rfl ?_
                          refine g_iload X 1 dL_acts_305 rfl ?_
                          obtain ⟨h157, hw⟩ := hw
                          refine g_iald X 86 0 dL_acts_307 rfl rfl h157 ?_
                          refine g_topi (fun q158 hq158 => ?_)
                          replace hw := hw q158 hq158
                          refine g_istore X [(13, .int q158), (12, .int r155), (11, .int q154), (0, .ref (g 0 0)), (1, .ref bp), (2, .ref bc), (3, .ref bq), (4, .ref bn), (6, .int x6), (7, .int x7)] dL_acts_308 (by decide) rfl ?_
                          refine g_aload_n X 6 dL_acts_310 rfl rfl ?_
                          refine g_iload X 2 dL_acts_311 rfl ?_
                          refine g_aload_n X 6 dL_acts_313 rfl rfl ?_
                          refine g_iload X 2 dL_acts_314 rfl ?_
                          refine g_iconst (v := 1) X rfl dL_acts_316 ?_
                          refine g_iadd X dL_acts_317 ?_
                          obtain ⟨h159, hw⟩ := hw
                          refine g_iald X 86 0 dL_acts_318 rfl rfl h159 ?_
                          obtain ⟨h160, hw⟩ := hw
                          refine g_iast X (fun z => fl [wC ct g kc, wS ct (g 1) v, wV ct g b, wS ct (g 5) (r 0), wS ct (g 6) (r 1), wS ct (g 7) (r 2), wS ct (g 8) (r 3), wS ct (g 9) (r 4), wS ct (g 10) (r 5), wL ct (g 12) y, wO ct (g 13) o, wR ct (g 14) x, wI 40 ct bp ap, wI 20 ct bc ac, wI 24 ct bq z, wI 7 ct bn an]) aq 0 86 0 dL_acts_319 rfl rfl h160 rfl (fun aq161 haq161 => ?_)
                          replace hw := hw aq161 haq161
                          refine g_aload_n X 6 dL_acts_320 rfl rfl ?_
                          refine g_iload X 2 dL_acts_321 rfl ?_
                          refine g_iconst (v := 1) X rfl dL_acts_323 ?_
                          refine g_iadd X dL_acts_324 ?_
                          refine g_iload X 0 dL_acts_325 rfl ?_
                          obtain ⟨h162, hw⟩ := hw
                          refine g_iast X (fun z => fl [wC ct g kc, wS ct (g 1) v, wV ct g b, wS ct (g 5) (r 0), wS ct (g 6) (r 1), wS ct (g 7) (r 2), wS ct (g 8) (r 3), wS ct (g 9) (r 4), wS ct (g 10) (r 5), wL ct (g 12) y, wO ct (g 13) o, wR ct (g 14) x, wI 40 ct bp ap, wI 20 ct bc ac, wI 24 ct bq z, wI 7 ct bn an]) aq161 0 86 0 dL_acts_327 rfl rfl h162 rfl (fun aq163 haq163 => ?_)
                          replace hw := hw aq163 haq163
                          refine g_aload_n X 3 dL_acts_328 rfl rfl ?_
                          refine g_iload X 9 dL_acts_329 rfl ?_
                          refine g_iload X 2 dL_acts_331 rfl ?_
                          refine g_bipush (v := 6) X rfl dL_acts_333 ?_
                          refine g_irem X (by decide) dL_acts_335 ?_
                          refine g_ciV X [wC ct g kc, wS ct (g 1) v, wV ct g b, wS ct (g 5) (r 0), wS ct (g 6) (r 1), wS ct (g 7) (r 2), wS ct (g 8) (r 3), wS ct (g 9) (r 4), wS ct (g 10) (r 5), wL ct (g 12) y, wO ct (g 13) o, wR ct (g 14) x, wI 40 ct bp ap, wI 20 ct bc ac, wI 24 ct bq aq163, wI 7 ct bn an] (fun (u165 : Mem × Mem × (Nat → Mem) × Mem) => [wC ct g kc, wS ct (g 1) u165.1, wV ct g u165.2.1, wS ct (g 5) (u165.2.2.1 0), wS ct (g 6) (u165.2.2.1 1), wS ct (g 7) (u165.2.2.1 2), wS ct (g 8) (u165.2.2.1 3), wS ct (g 9) (u165.2.2.1 4), wS ct (g 10) (u165.2.2.1 5), wL ct (g 12) u165.2.2.2, wO ct (g 13) o, wR ct (g 14) x, wI 40 ct bp ap, wI 20 ct bc ac, wI 24 ct bq aq163, wI 7 ct bn an]) (fun (u165 : Mem × Mem × (Nat → Mem) × Mem) => fl [wC ct g kc, wS ct (g 1) u165.1, wV ct g u165.2.1, wS ct (g 5) (u165.2.2.1 0), wS ct (g 6) (u165.2.2.1 1), wS ct (g 7) (u165.2.2.1 2), wS ct (g 8) (u165.2.2.1 3), wS ct (g 9) (u165.2.2.1 4), wS ct (g 10) (u165.2.2.1 5), wL ct (g 12) u165.2.2.2, wO ct (g 13) o, wR ct (g 14) x, wI 40 ct bp ap, wI 20 ct bc ac, wI 24 ct bq aq163, wI 7 ct bn an]) 16 [0, 1, 2, 3, 4, 5, 6, 7, 8, 9] [10, 11, 12, 13, 14, 15] 0 (kX7_swap_nt l D ct g kc v b r y x7 (q154 - q154 / 6 * 6) _ hw) (cwV 2 X.1.2.2.2.2 gL_acts_X7_swap rfl rfl rfl (by decide +kernel) ⟨Nat.le_of_ble_eq_true rfl, Nat.le_of_ble_eq_true rfl⟩) dL_acts_336 rfl rfl (Nat.le_of_ble_eq_true rfl) ⟨Nat.le_of_ble_eq_true rfl, Nat.le_of_ble_eq_true rfl⟩ rfl rfl rfl (by decide) (fun _ => rfl) (fun _ => lq16_0_1_2_3_4_5_6_7_8_9) (fun _ => rfl) (fun _ => rfl) rfl rfl rfl (fun r164 u165 hw => ?_)
                          obtain ⟨v166, hv166⟩ : ∃ z : Mem, z = u165.1 := ⟨_, rfl⟩
                          rw [← hv166] at hw
                          rw [← hv166]
                          obtain ⟨b167, hb167⟩ : ∃ z : Mem, z = u165.2.1 := ⟨_, rfl⟩
                          rw [← hb167] at hw
                          rw [← hb167]
                          obtain ⟨r168, hr168⟩ : ∃ z : Nat → Mem, z = u165.2.2.1 := ⟨_, rfl⟩
                          rw [← hr168] at hw
                          rw [← hr168]
                          obtain ⟨y169, hy169⟩ : ∃ z : Mem, z = u165.2.2.2 := ⟨_, rfl⟩
                          rw [← hy169] at hw
                          rw [← hy169]
                          refine g_aload_n X 4 dL_acts_339 rfl rfl ?_
                          refine g_aload_n X 5 dL_acts_340 rfl rfl ?_
                          refine g_aload_n X 6 dL_acts_341 rfl rfl ?_
                          refine g_aload X 7 dL_acts_342 rfl ?_
                          refine g_ciS X [wC ct g kc, wS ct (g 1) v166, wV ct g b167, wS ct (g 5) (r168 0), wS ct (g 6) (r168 1), wS ct (g 7) (r168 2), wS ct (g 8) (r168 3), wS ct (g 9) (r168 4), wS ct (g 10) (r168 5), wL ct (g 12) y169, wO ct (g 13) o, wR ct (g 14) x, wI 40 ct bp ap, wI 20 ct bc ac, wI 24 ct bq aq163, wI 7 ct bn an] (fun (_ : Unit) => [wC ct g kc, wS ct (g 1) v166, wV ct g b167, wS ct (g 5) (r168 0), wS ct (g 6) (r168 1), wS ct (g 7) (r168 2), wS ct (g 8) (r168 3), wS ct (g 9) (r168 4), wS ct (g 10) (r168 5), wL ct (g 12) y169, wO ct (g 13) o, wR ct (g 14) x, wI 40 ct bp ap, wI 20 ct bc ac, wI 24 ct bq aq163, wI 7 ct bn an]) (fun _ => fl [wC ct g kc, wS ct (g 1) v166, wV ct g b167, wS ct (g 5) (r168 0), wS ct (g 6) (r168 1), wS ct (g 7) (r168 2), wS ct (g 8) (r168 3), wS ct (g 9) (r168 4), wS ct (g 10) (r168 5), wL ct (g 12) y169, wO ct (g 13) o, wR ct (g 14) x, wI 40 ct bp ap, wI 20 ct bc ac, wI 24 ct bq aq163, wI 7 ct bn an]) 16 [12, 13, 14, 15] [0, 1, 2, 3, 4, 5, 6, 7, 8, 9, 10, 11] (kL_all l D ct bp bc bq bn ap ac aq163 an _ hw) (va_cwS 4 X.1.2.2.2.2 gL_acts_L_all rfl rfl rfl (by decide +kernel) ⟨Nat.le_of_ble_eq_true rfl, Nat.le_of_ble_eq_true rfl⟩) dL_acts_344 rfl rfl (Nat.le_of_ble_eq_true rfl) ⟨Nat.le_of_ble_eq_true rfl, Nat.le_of_ble_eq_true rfl⟩ rfl rfl rfl (by decide) (fun _ => rfl) (fun _ => rfl) (fun _ => rfl) (fun _ => rfl) (fun r170 _ hw => ?_)
                          refine g_iload X 1 dL_acts_347 rfl ?_
                          refine g_isub X dL_acts_349 ?_
                          refine g_bipush (v := 100) X rfl dL_acts_350 ?_
                          refine g_iadd X dL_acts_352 ?_
                          refine g_icmp_ne X 360 dL_acts_353 (by decide) (fun c172 => ?_) (fun c172 => ?_)
                          · replace hw := hw.1 c172
                            refine g_iconst (v := 0) X rfl dL_acts_360 ?_
                            exact g_zret X (v166, b167, r168, y169, o, x, ap, ac, aq163, an) isB_0 hw rfl (Nat.le_of_ble_eq_true rfl) (Nat.le_of_ble_eq_true rfl) dL_acts_361
                          · replace hw := hw.2 c172
                            refine g_iconst (v := 1) X rfl dL_acts_356 ?_
                            refine g_goto X 361 dL_acts_357 (by decide) ?_
                            exact g_zret X (v166, b167, r168, y169, o, x, ap, ac, aq163, an) isB_1 hw rfl (Nat.le_of_ble_eq_true rfl) (Nat.le_of_ble_eq_true rfl) dL_acts_361
                        · replace hw := hw.2 c150
                          refine g_aload_n X 0 dL_acts_253 rfl rfl ?_
                          refine g_iload X 6 dL_acts_254 rfl ?_
                          refine g_iconst (v := 1) X rfl dL_acts_256 ?_
                          refine g_ciV X [wC ct g kc, wS ct (g 1) v, wV ct g b, wS ct (g 5) (r 0), wS ct (g 6) (r 1), wS ct (g 7) (r 2), wS ct (g 8) (r 3), wS ct (g 9) (r 4), wS ct (g 10) (r 5), wL ct (g 12) y, wO ct (g 13) o, wR ct (g 14) x, wI 40 ct bp ap, wI 20 ct bc ac, wI 24 ct bq aq, wI 7 ct bn an] (fun (_ : Unit) => [wC ct g kc, wS ct (g 1) v, wV ct g b, wS ct (g 5) (r 0), wS ct (g 6) (r 1), wS ct (g 7) (r 2), wS ct (g 8) (r 3), wS ct (g 9) (r 4), wS ct (g 10) (r 5), wL ct (g 12) y, wO ct (g 13) o, wR ct (g 14) x, wI 40 ct bp ap, wI 20 ct bc ac, wI 24 ct bq aq, wI 7 ct bn an]) (fun _ => fl [wC ct g kc, wS ct (g 1) v, wV ct g b, wS ct (g 5) (r 0), wS ct (g 6) (r 1), wS ct (g 7) (r 2), wS ct (g 8) (r 3), wS ct (g 9) (r 4), wS ct (g 10) (r 5), wL ct (g 12) y, wO ct (g 13) o, wR ct (g 14) x, wI 40 ct bp ap, wI 20 ct bc ac, wI 24 ct bq aq, wI 7 ct bn an]) 16 [0, 1] [2, 3, 4, 5, 6, 7, 8, 9, 10, 11, 12, 13, 14, 15] 0 (kX7_at_nt l D ct g kc v x7 1 _ hw) (cwV 2 X.1.2.2.2.2 gL_acts_X7_at rfl rfl rfl (by decide +kernel) ⟨Nat.le_of_ble_eq_true rfl, Nat.le_of_ble_eq_true rfl⟩) dL_acts_257 rfl rfl (Nat.le_of_ble_eq_true rfl) ⟨Nat.le_of_ble_eq_true rfl, Nat.le_of_ble_eq_true rfl⟩ rfl rfl rfl (by decide) (fun _ => rfl) (fun _ => rfl) (fun _ => rfl) (fun _ => rfl) rfl rfl rfl (fun r173 _ hw => ?_)
                          refine g_iconst (v := (-1)) X rfl dL_acts_260 ?_
                          refine g_icmp_ne X 268 dL_acts_261 (by decide) (fun c175 => ?_) (fun c175 => ?_)
                          · replace hw := hw.1 c175
                            refine g_iconst (v := 0) X rfl dL_acts_268 ?_
                            exact g_zret X (v, b, r, y, o, x, ap, ac, aq, an) isB_0 hw rfl (Nat.le_of_ble_eq_true rfl) (Nat.le_of_ble_eq_true rfl) dL_acts_269
                          · replace hw := hw.2 c175
                            refine g_iconst (v := 1) X rfl dL_acts_264 ?_
                            refine g_goto X 269 dL_acts_265 (by decide) ?_
                            exact g_zret X (v, b, r, y, o, x, ap, ac, aq, an) isB_1 hw rfl (Nat.le_of_ble_eq_true rfl) (Nat.le_of_ble_eq_true rfl) dL_acts_269
                      · replace hw := hw.2 c148
                        by_cases c176 : z0 = 11
                        · replace hw := hw.1 c176
                          refine g_tableIn X 242 dL_acts_22 (by rw [c176]; decide) (by rw [c176]; decide) (by rw [c176]; rfl) (by decide) ?_
                          refine g_aload X 4 dL_acts_242 rfl ?_
                          refine g_iconst (v := 3) X rfl dL_acts_244 ?_
                          refine g_iload X 6 dL_acts_245 rfl ?_
                          refine g_iadd X dL_acts_247 ?_
                          obtain ⟨h177, hw⟩ := hw
                          refine g_iald X 87 0 dL_acts_248 rfl rfl h177 ?_
                          refine g_iconst (v := 2) X rfl dL_acts_249 ?_
                          refine g_icmp_ge X 270 dL_acts_250 (by decide) (fun c178 => ?_) (fun c178 => ?_)
                          · replace hw := hw.1 c178
                            refine g_bipush (v := 6) X rfl dL_acts_270 ?_
                            refine g_iload X 6 dL_acts_272 rfl ?_
                            refine g_imul X dL_acts_274 ?_
                            refine g_iload X 5 dL_acts_275 rfl ?_
                            refine g_iconst (v := 2) X rfl dL_acts_277 ?_
                            refine g_ishr X dL_acts_278 ?_
                            refine g_aload X 4 dL_acts_279 rfl ?_
                            refine g_iconst (v := 3) X rfl dL_acts_281 ?_
                            refine g_iload X 6 dL_acts_282 rfl ?_
                            refine g_iadd X dL_acts_284 ?_
                            obtain ⟨h179, hw⟩ := hw
                            refine g_iald X 87 0 dL_acts_285 rfl rfl h179 ?_
                            refine g_iconst (v := 1) X rfl dL_acts_286 ?_
                            refine g_isub X dL_acts_287 ?_
                            refine g_ciS X [wC ct g kc, wS ct (g 1) v, wV ct g b, wS ct (g 5) (r 0), wS ct (g 6) (r 1), wS ct (g 7) (r 2), wS ct (g 8) (r 3), wS ct (g 9) (r 4), wS ct (g 10) (r 5), wL ct (g 12) y, wO ct (g 13) o, wR ct (g 14) x, wI 40 ct bp ap, wI 20 ct bc ac, wI 24 ct bq aq, wI 7 ct bn an] (fun (_ : Unit) => [wC ct g kc, wS ct (g 1) v, wV ct g b, wS ct (g 5) (r 0), wS ct (g 6) (r 1), wS ct (g 7) (r 2), wS ct (g 8) (r 3), wS ct (g 9) (r 4), wS ct (g 10) (r 5), wL ct (g 12) y, wO ct (g 13) o, wR ct (g 14) x, wI 40 ct bp ap, wI 20 ct bc ac, wI 24 ct bq aq, wI 7 ct bn an]) (fun _ => fl [wC ct g kc, wS ct (g 1) v, wV ct g b, wS ct (g 5) (r 0), wS ct (g 6) (r 1), wS ct (g 7) (r 2), wS ct (g 8) (r 3), wS ct (g 9) (r 4), wS ct (g 10) (r 5), wL ct (g 12) y, wO ct (g 13) o, wR ct (g 14) x, wI 40 ct bp ap, wI 20 ct bc ac, wI 24 ct bq aq, wI 7 ct bn an]) 16 [] [0, 1, 2, 3, 4, 5, 6, 7, 8, 9, 10, 11, 12, 13, 14, 15] (kL_low l D ct  (x6 >>> (2 &&& 31)) ((an 0 (ix (3 + x7))) - 1) _ hw) (va_cwS 2 X.1.2.2.2.2 gL_acts_L_low rfl rfl rfl (by decide +kernel) ⟨Nat.le_of_ble_eq_true rfl, Nat.le_of_ble_eq_true rfl⟩) dL_acts_288 rfl rfl (Nat.le_of_ble_eq_true rfl) ⟨Nat.le_of_ble_eq_true rfl, Nat.le_of_ble_eq_true rfl⟩ rfl rfl rfl (by decide) (fun _ => rfl) (fun _ => rfl) (fun _ => rfl) (fun _ => rfl) (fun r180 _ hw => ?_)
                            refine g_iadd X dL_acts_291 ?_
                            refine g_topi (fun q182 hq182 => ?_)
                            replace hw := hw q182 hq182
                            refine g_istore X [(11, .int q182), (0, .ref (g 0 0)), (1, .ref bp), (2, .ref bc), (3, .ref bq), (4, .ref bn), (6, .int x6), (7, .int x7)] dL_acts_292 (by decide) rfl ?_
                            refine g_aload_n X 2 dL_acts_294 rfl rfl ?_
                            refine g_aload_n X 3 dL_acts_295 rfl rfl ?_
                            refine g_aload_n X 4 dL_acts_296 rfl rfl ?_
                            refine g_aload X 5 dL_acts_297 rfl ?_
                            refine g_ciS X [wC ct g kc, wS ct (g 1) v, wV ct g b, wS ct (g 5) (r 0), wS ct (g 6) (r 1), wS ct (g 7) (r 2), wS ct (g 8) (r 3), wS ct (g 9) (r 4), wS ct (g 10) (r 5), wL ct (g 12) y, wO ct (g 13) o, wR ct (g 14) x, wI 40 ct bp ap, wI 20 ct bc ac, wI 24 ct bq aq, wI 7 ct bn an] (fun (_ : Unit) => [wC ct g kc, wS ct (g 1) v, wV ct g b, wS ct (g 5) (r 0), wS ct (g 6) (r 1), wS ct (g 7) (r 2), wS ct (g 8) (r 3), wS ct (g 9) (r 4), wS ct (g 10) (r 5), wL ct (g 12) y, wO ct (g 13) o, wR ct (g 14) x, wI 40 ct bp ap, wI 20 ct bc ac, wI 24 ct bq aq, wI 7 ct bn an]) (fun _ => fl [wC ct g kc, wS ct (g 1) v, wV ct g b, wS ct (g 5) (r 0), wS ct (g 6) (r 1), wS ct (g 7) (r 2), wS ct (g 8) (r 3), wS ct (g 9) (r 4), wS ct (g 10) (r 5), wL ct (g 12) y, wO ct (g 13) o, wR ct (g 14) x, wI 40 ct bp ap, wI 20 ct bc ac, wI 24 ct bq aq, wI 7 ct bn an]) 16 [12, 13, 14, 15] [0, 1, 2, 3, 4, 5, 6, 7, 8, 9, 10, 11] (kL_all l D ct bp bc bq bn ap ac aq an _ hw) (va_cwS 4 X.1.2.2.2.2 gL_acts_L_all rfl rfl rfl (by decide +kernel) ⟨Nat.le_of_ble_eq_true rfl, Nat.le_of_ble_eq_true rfl⟩) dL_acts_299 rfl rfl (Nat.le_of_ble_eq_true rfl) ⟨Nat.le_of_ble_eq_true rfl, Nat.le_of_ble_eq_true rfl⟩ rfl rfl rfl (by decide) (fun _ => rfl) (fun _ => rfl) (fun _ => rfl) (fun _ => rfl) (fun r183 _ hw => ?_)
                            refine g_istore X [(12, .int r183), (11, .int q182), (0, .ref (g 0 0)), (1, .ref bp), (2, .ref bc), (3, .ref bq), (4, .ref bn), (6, .int x6), (7, .int x7)] dL_acts_302 (by decide) rfl ?_
                            refine g_aload_n X 5 dL_acts_304 rfl rfl ?_
                            refine g_iload X 1 dL_acts_305 rfl ?_
                            obtain ⟨h185, hw⟩ := hw
                            refine g_iald X 86 0 dL_acts_307 rfl rfl h185 ?_
                            refine g_topi (fun q186 hq186 => ?_)
                            replace hw := hw q186 hq186
                            refine g_istore X [(13, .int q186), (12, .int r183), (11, .int q182), (0, .ref (g 0 0)), (1, .ref bp), (2, .ref bc), (3, .ref bq), (4, .ref bn), (6, .int x6), (7, .int x7)] dL_acts_308 (by decide) rfl ?_
                            refine g_aload_n X 6 dL_acts_310 rfl rfl ?_
                            refine g_iload X 2 dL_acts_311 rfl ?_
                            refine g_aload_n X 6 dL_acts_313 rfl rfl ?_
                            refine g_iload X 2 dL_acts_314 rfl ?_
                            refine g_iconst (v := 1) X rfl dL_acts_316 ?_
                            refine g_iadd X dL_acts_317 ?_
                            obtain ⟨h187, hw⟩ := hw
                            refine g_iald X 86 0 dL_acts_318 rfl rfl h187 ?_
                            obtain ⟨h188, hw⟩ := hw
                            refine g_iast X (fun z => fl [wC ct g kc, wS ct (g 1) v, wV ct g b, wS ct (g 5) (r 0), wS ct (g 6) (r 1), wS ct (g 7) (r 2), wS ct (g 8) (r 3), wS ct (g 9) (r 4), wS ct (g 10) (r 5), wL ct (g 12) y, wO ct (g 13) o, wR ct (g 14) x, wI 40 ct bp ap, wI 20 ct bc ac, wI 24 ct bq z, wI 7 ct bn an]) aq 0 86 0 dL_acts_319 rfl rfl h188 rfl (fun aq189 haq189 => ?_)
                            replace hw := hw aq189 haq189
                            refine g_aload_n X 6 dL_acts_320 rfl rfl ?_
                            refine g_iload X 2 dL_acts_321 rfl ?_
                            refine g_iconst (v := 1) X rfl dL_acts_323 ?_
                            refine g_iadd X dL_acts_324 ?_
                            refine g_iload X 0 dL_acts_325 rfl ?_
                            obtain ⟨h190, hw⟩ := hw
                            refine g_iast X (fun z => fl [wC ct g kc, wS ct (g 1) v, wV ct g b, wS ct (g 5) (r 0), wS ct (g 6) (r 1), wS ct (g 7) (r 2), wS ct (g 8) (r 3), wS ct (g 9) (r 4), wS ct (g 10) (r 5), wL ct (g 12) y, wO ct (g 13) o, wR ct (g 14) x, wI 40 ct bp ap, wI 20 ct bc ac, wI 24 ct bq z, wI 7 ct bn an]) aq189 0 86 0 dL_acts_327 rfl rfl h190 rfl (fun aq191 haq191 => ?_)
                            replace hw := hw aq191 haq191
                            refine g_aload_n X 3 dL_acts_328 rfl rfl ?_
                            refine g_iload X 9 dL_acts_329 rfl ?_
                            refine g_iload X 2 dL_acts_331 rfl ?_
                            refine g_bipush (v := 6) X rfl dL_acts_333 ?_
                            refine g_irem X (by decide) dL_acts_335 ?_
                            refine g_ciV X [wC ct g kc, wS ct (g 1) v, wV ct g b, wS ct (g 5) (r 0), wS ct (g 6) (r 1), wS ct (g 7) (r 2), wS ct (g 8) (r 3), wS ct (g 9) (r 4), wS ct (g 10) (r 5), wL ct (g 12) y, wO ct (g 13) o, wR ct (g 14) x, wI 40 ct bp ap, wI 20 ct bc ac, wI 24 ct bq aq191, wI 7 ct bn an] (fun (u193 : Mem × Mem × (Nat → Mem) × Mem) => [wC ct g kc, wS ct (g 1) u193.1, wV ct g u193.2.1, wS ct (g 5) (u193.2.2.1 0), wS ct (g 6) (u193.2.2.1 1), wS ct (g 7) (u193.2.2.1 2), wS ct (g 8) (u193.2.2.1 3), wS ct (g 9) (u193.2.2.1 4), wS ct (g 10) (u193.2.2.1 5), wL ct (g 12) u193.2.2.2, wO ct (g 13) o, wR ct (g 14) x, wI 40 ct bp ap, wI 20 ct bc ac, wI 24 ct bq aq191, wI 7 ct bn an]) (fun (u193 : Mem × Mem × (Nat → Mem) × Mem) => fl [wC ct g kc, wS ct (g 1) u193.1, wV ct g u193.2.1, wS ct (g 5) (u193.2.2.1 0), wS ct (g 6) (u193.2.2.1 1), wS ct (g 7) (u193.2.2.1 2), wS ct (g 8) (u193.2.2.1 3), wS ct (g 9) (u193.2.2.1 4), wS ct (g 10) (u193.2.2.1 5), wL ct (g 12) u193.2.2.2, wO ct (g 13) o, wR ct (g 14) x, wI 40 ct bp ap, wI 20 ct bc ac, wI 24 ct bq aq191, wI 7 ct bn an]) 16 [0, 1, 2, 3, 4, 5, 6, 7, 8, 9] [10, 11, 12, 13, 14, 15] 0 (kX7_swap_nt l D ct g kc v b r y x7 (q182 - q182 / 6 * 6) _ hw) (cwV 2 X.1.2.2.2.2 gL_acts_X7_swap rfl rfl rfl (by decide +kernel) ⟨Nat.le_of_ble_eq_true rfl, Nat.le_of_ble_eq_true rfl⟩) dL_acts_336 rfl rfl (Nat.le_of_ble_eq_true rfl) ⟨Nat.le_of_ble_eq_true rfl, Nat.le_of_ble_eq_true rfl⟩ rfl rfl rfl (by decide) (fun _ => rfl) (fun _ => lq16_0_1_2_3_4_5_6_7_8_9) (fun _ => rfl) (fun _ => rfl) rfl rfl rfl (fun r192 u193 hw => ?_)
                            obtain ⟨v194, hv194⟩ : ∃ z : Mem, z = u193.1 := ⟨_, rfl⟩
                            rw [← hv194] at hw
                            rw [← hv194]
                            obtain ⟨b195, hb195⟩ : ∃ z : Mem, z = u193.2.1 := ⟨_, rfl⟩
                            rw [← hb195] at hw
                            rw [← hb195]
                            obtain ⟨r196, hr196⟩ : ∃ z : Nat → Mem, z = u193.2.2.1 := ⟨_, rfl⟩
                            rw [← hr196] at hw
                            rw [← hr196]
                            obtain ⟨y197, hy197⟩ : ∃ z : Mem, z = u193.2.2.2 := ⟨_, rfl⟩
                            rw [← hy197] at hw
                            rw [← hy197]
                            refine g_aload_n X 4 dL_acts_339 rfl rfl ?_
                            refine g_aload_n X 5 dL_acts_340 rfl rfl ?_
                            refine g_aload_n X 6 dL_acts_341 rfl rfl ?_
                            refine g_aload X 7 dL_acts_342 rfl ?_
                            refine g_ciS X [wC ct g kc, wS ct (g 1) v194, wV ct g b195, wS ct (g 5) (r196 0), wS ct (g 6) (r196 1), wS ct (g 7) (r196 2), wS ct (g 8) (r196 3), wS ct (g 9) (r196 4), wS ct (g 10) (r196 5), wL ct (g 12) y197, wO ct (g 13) o, wR ct (g 14) x, wI 40 ct bp ap, wI 20 ct bc ac, wI 24 ct bq aq191, wI 7 ct bn an] (fun (_ : Unit) => [wC ct g kc, wS ct (g 1) v194, wV ct g b195, wS ct (g 5) (r196 0), wS ct (g 6) (r196 1), wS ct (g 7) (r196 2), wS ct (g 8) (r196 3), wS ct (g 9) (r196 4), wS ct (g 10) (r196 5), wL ct (g 12) y197, wO ct (g 13) o, wR ct (g 14) x, wI 40 ct bp ap, wI 20 ct bc ac, wI 24 ct bq aq191, wI 7 ct bn an]) (fun _ => fl [wC ct g kc, wS ct (g 1) v194, wV ct g b195, wS ct (g 5) (r196 0), wS ct (g 6) (r196 1), wS ct (g 7) (r196 2), wS ct (g 8) (r196 3), wS ct (g 9) (r196 4), wS ct (g 10) (r196 5), wL ct (g 12) y197, wO ct (g 13) o, wR ct (g 14) x, wI 40 ct bp ap, wI 20 ct bc ac, wI 24 ct bq aq191, wI 7 ct bn an]) 16 [12, 13, 14, 15] [0, 1, 2, 3, 4, 5, 6, 7, 8, 9, 10, 11] (kL_all l D ct bp bc bq bn ap ac aq191 an _ hw) (va_cwS 4 X.1.2.2.2.2 gL_acts_L_all rfl rfl rfl (by decide +kernel) ⟨Nat.le_of_ble_eq_true rfl, Nat.le_of_ble_eq_true rfl⟩) dL_acts_344 rfl rfl (Nat.le_of_ble_eq_true rfl) ⟨Nat.le_of_ble_eq_true rfl, Nat.le_of_ble_eq_true rfl⟩ rfl rfl rfl (by decide) (fun _ => rfl) (fun _ => rfl) (fun _ => rfl) (fun _ => rfl) (fun r198 _ hw => ?_)
                            refine g_iload X 1 dL_acts_347 rfl ?_
                            refine g_isub X dL_acts_349 ?_
                            refine g_bipush (v := 100) X rfl dL_acts_350 ?_
                            refine g_iadd X dL_acts_352 ?_
                            refine g_icmp_ne X 360 dL_acts_353 (by decide) (fun c200 => ?_) (fun c200 => ?_)
                            · replace hw := hw.1 c200
                              refine g_iconst (v := 0) X rfl dL_acts_360 ?_
                              exact g_zret X (v194, b195, r196, y197, o, x, ap, ac, aq191, an) isB_0 hw rfl (Nat.le_of_ble_eq_true rfl) (Nat.le_of_ble_eq_true rfl) dL_acts_361
                            · replace hw := hw.2 c200
                              refine g_iconst (v := 1) X rfl dL_acts_356 ?_
                              refine g_goto X 361 dL_acts_357 (by decide) ?_
                              exact g_zret X (v194, b195, r196, y197, o, x, ap, ac, aq191, an) isB_1 hw rfl (Nat.le_of_ble_eq_true rfl) (Nat.le_of_ble_eq_true rfl) dL_acts_361
                          · replace hw := hw.2 c178
                            refine g_aload_n X 0 dL_acts_253 rfl rfl ?_
                            refine g_iload X 6 dL_acts_254 rfl ?_
                            refine g_iconst (v := 1) X rfl dL_acts_256 ?_
                            refine g_ciV X [wC ct g kc, wS ct (g 1) v, wV ct g b, wS ct (g 5) (r 0), wS ct (g 6) (r 1), wS ct (g 7) (r 2), wS ct (g 8) (r 3), wS ct (g 9) (r 4), wS ct (g 10) (r 5), wL ct (g 12) y, wO ct (g 13) o, wR ct (g 14) x, wI 40 ct bp ap, wI 20 ct bc ac, wI 24 ct bq aq, wI 7 ct bn an] (fun (_ : Unit) => [wC ct g kc, wS ct (g 1) v, wV ct g b, wS ct (g 5) (r 0), wS ct (g 6) (r 1), wS ct (g 7) (r 2), wS ct (g 8) (r 3), wS ct (g 9) (r 4), wS ct (g 10) (r 5), wL ct (g 12) y, wO ct (g 13) o, wR ct (g 14) x, wI 40 ct bp ap, wI 20 ct bc ac, wI 24 ct bq aq, wI 7 ct bn an]) (fun _ => fl [wC ct g kc, wS ct (g 1) v, wV ct g b, wS ct (g 5) (r 0), wS ct (g 6) (r 1), wS ct (g 7) (r 2), wS ct (g 8) (r 3), wS ct (g 9) (r 4), wS ct (g 10) (r 5), wL ct (g 12) y, wO ct (g 13) o, wR ct (g 14) x, wI 40 ct bp ap, wI 20 ct bc ac, wI 24 ct bq aq, wI 7 ct bn an]) 16 [0, 1] [2, 3, 4, 5, 6, 7, 8, 9, 10, 11, 12, 13, 14, 15] 0 (kX7_at_nt l D ct g kc v x7 1 _ hw) (cwV 2 X.1.2.2.2.2 gL_acts_X7_at rfl rfl rfl (by decide +kernel) ⟨Nat.le_of_ble_eq_true rfl, Nat.le_of_ble_eq_true rfl⟩) dL_acts_257 rfl rfl (Nat.le_of_ble_eq_true rfl) ⟨Nat.le_of_ble_eq_true rfl, Nat.le_of_ble_eq_true rfl⟩ rfl rfl rfl (by decide) (fun _ => rfl) (fun _ => rfl) (fun _ => rfl) (fun _ => rfl) rfl rfl rfl (fun r201 _ hw => ?_)
                            refine g_iconst (v := (-1)) X rfl dL_acts_260 ?_
                            refine g_icmp_ne X 268 dL_acts_261 (by decide) (fun c203 => ?_) (fun c203 => ?_)
                            · replace hw := hw.1 c203
                              refine g_iconst (v := 0) X rfl dL_acts_268 ?_
                              exact g_zret X (v, b, r, y, o, x, ap, ac, aq, an) isB_0 hw rfl (Nat.le_of_ble_eq_true rfl) (Nat.le_of_ble_eq_true rfl) dL_acts_269
                            · replace hw := hw.2 c203
                              refine g_iconst (v := 1) X rfl dL_acts_264 ?_
                              refine g_goto X 269 dL_acts_265 (by decide) ?_
                              exact g_zret X (v, b, r, y, o, x, ap, ac, aq, an) isB_1 hw rfl (Nat.le_of_ble_eq_true rfl) (Nat.le_of_ble_eq_true rfl) dL_acts_269
                        · replace hw := hw.2 c176
                          by_cases c204 : z0 = 12
                          · replace hw := hw.1 c204
                            refine g_tableIn X 362 dL_acts_22 (by rw [c204]; decide) (by rw [c204]; decide) (by rw [c204]; rfl) (by decide) ?_
                            refine g_bipush (v := 24) X rfl dL_acts_362 ?_
                            refine g_newaI X (fun q9 => fl [wC ct g kc, wS ct (g 1) v, wV ct g b, wS ct (g 5) (r 0), wS ct (g 6) (r 1), wS ct (g 7) (r 2), wS ct (g 8) (r 3), wS ct (g 9) (r 4), wS ct (g 10) (r 5), wL ct (g 12) y, wO ct (g 13) o, wR ct (g 14) x, wI 40 ct bp ap, wI 20 ct bc ac, wI 24 ct bq aq, wI 7 ct bn an, wI 24 ct q9 freshM]) 0 (List.mem_of_getElem? (i := 1) rfl) dL_acts_364 rfl (by decide) rfl (by decide) (Nat.le_of_ble_eq_true rfl) (Nat.le_of_ble_eq_true rfl) (fun q9 => (fl_app [wC ct g kc, wS ct (g 1) v, wV ct g b, wS ct (g 5) (r 0), wS ct (g 6) (r 1), wS ct (g 7) (r 2), wS ct (g 8) (r 3), wS ct (g 9) (r 4), wS ct (g 10) (r 5), wL ct (g 12) y, wO ct (g 13) o, wR ct (g 14) x, wI 40 ct bp ap, wI 20 ct bc ac, wI 24 ct bq aq, wI 7 ct bn an] [wI 24 ct q9 freshM]).symm) (fun br => ?_)
                            refine g_astore X [(14, .ref br), (0, .ref (g 0 0)), (1, .ref bp), (2, .ref bc), (3, .ref bq), (4, .ref bn), (6, .int x6), (7, .int x7)] dL_acts_366 (by decide) rfl ?_
                            refine g_aload_n X 4 dL_acts_368 rfl rfl ?_
                            refine g_aload X 0 dL_acts_369 rfl ?_
                            refine g_cvS X [wC ct g kc, wS ct (g 1) v, wV ct g b, wS ct (g 5) (r 0), wS ct (g 6) (r 1), wS ct (g 7) (r 2), wS ct (g 8) (r 3), wS ct (g 9) (r 4), wS ct (g 10) (r 5), wL ct (g 12) y, wO ct (g 13) o, wR ct (g 14) x, wI 40 ct bp ap, wI 20 ct bc ac, wI 24 ct bq aq, wI 7 ct bn an, wI 24 ct br freshM] (fun (u205 : Mem) => [wC ct g kc, wS ct (g 1) v, wV ct g b, wS ct (g 5) (r 0), wS ct (g 6) (r 1), wS ct (g 7) (r 2), wS ct (g 8) (r 3), wS ct (g 9) (r 4), wS ct (g 10) (r 5), wL ct (g 12) y, wO ct (g 13) o, wR ct (g 14) x, wI 40 ct bp ap, wI 20 ct bc ac, wI 24 ct bq aq, wI 7 ct bn an, wI 24 ct br u205]) (fun (u205 : Mem) => fl [wC ct g kc, wS ct (g 1) v, wV ct g b, wS ct (g 5) (r 0), wS ct (g 6) (r 1), wS ct (g 7) (r 2), wS ct (g 8) (r 3), wS ct (g 9) (r 4), wS ct (g 10) (r 5), wL ct (g 12) y, wO ct (g 13) o, wR ct (g 14) x, wI 40 ct bp ap, wI 20 ct bc ac, wI 24 ct bq aq, wI 7 ct bn an, wI 24 ct br u205]) 17 [14, 16] [0, 1, 2, 3, 4, 5, 6, 7, 8, 9, 10, 11, 12, 13, 15] (kL_copy l D ct bq br aq freshM _ hw) (va_cwS 2 X.1.2.2.2.2 gL_acts_L_copy rfl rfl rfl (by decide +kernel) ⟨Nat.le_of_ble_eq_true rfl, Nat.le_of_ble_eq_true rfl⟩) dL_acts_371 rfl rfl (Nat.le_of_ble_eq_true rfl) ⟨Nat.le_of_ble_eq_true rfl, Nat.le_of_ble_eq_true rfl⟩ rfl rfl rfl (by decide) (fun _ => rfl) (fun _ => lq17_14_16) (fun _ => rfl) (fun _ => rfl) (fun u205 hw => ?_)
                            obtain ⟨ar206, har206⟩ : ∃ z : Mem, z = u205 := ⟨_, rfl⟩
                            rw [← har206] at hw
                            rw [← har206]
                            refine g_iconst (v := 0) X rfl dL_acts_374 ?_
                            refine g_istore X [(15, .int 0), (14, .ref br), (0, .ref (g 0 0)), (1, .ref bp), (2, .ref bc), (3, .ref bq), (4, .ref bn), (6, .int x6), (7, .int x7)] dL_acts_375 (by decide) rfl ?_
                            refine g_iconst (v := 0) X rfl dL_acts_377 ?_
                            refine g_istore X [(16, .int 0), (15, .int 0), (14, .ref br), (0, .ref (g 0 0)), (1, .ref bp), (2, .ref bc), (3, .ref bq), (4, .ref bn), (6, .int x6), (7, .int x7)] dL_acts_378 (by decide) rfl ?_
                            refine g_iconst (v := 0) X rfl dL_acts_380 ?_
                            refine g_istore X [(17, .int 0), (16, .int 0), (15, .int 0), (14, .ref br), (0, .ref (g 0 0)), (1, .ref bp), (2, .ref bc), (3, .ref bq), (4, .ref bn), (6, .int x6), (7, .int x7)] dL_acts_381 (by decide) rfl ?_
                            refine g_sub [(0, .ref (g 0 0)), (1, .ref bp), (2, .ref bc), (3, .ref bq), (4, .ref bn), (7, .int x7), (14, .ref br), (15, .int 0), (16, .int 0), (17, .int 0)] [4, 5, 6, 7, 8, 10, 3, 2, 1, 0] rfl ?_
                            obtain ⟨n239, hw⟩ := hw
                            exact kL_acts_383 l D ct g bp bc bq bn br kc post X n239 _ _ _ _ _ _ _ _ _ _ _ _ _ _ _ hw
                          · replace hw := hw.2 c204
                            refine g_tableOut X 593 dL_acts_22 (by have tc5 := lv_neT c5 (show (0 : Int32).toInt = 0 from rfl); have tc17 := lv_neT c17 (show (1 : Int32).toInt = 1 from rfl); have tc29 := lv_neT c29 (show (2 : Int32).toInt = 2 from rfl); have tc49 := lv_neT c49 (show (3 : Int32).toInt = 3 from rfl); have tc69 := lv_neT c69 (show (4 : Int32).toInt = 4 from rfl); have tc89 := lv_neT c89 (show (5 : Int32).toInt = 5 from rfl); have tc109 := lv_neT c109 (show (6 : Int32).toInt = 6 from rfl); have tc130 := lv_neT c130 (show (7 : Int32).toInt = 7 from rfl); have tc136 := lv_neT c136 (show (8 : Int32).toInt = 8 from rfl); have tc142 := lv_neT c142 (show (9 : Int32).toInt = 9 from rfl); have tc148 := lv_neT c148 (show (10 : Int32).toInt = 10 from rfl); have tc176 := lv_neT c176 (show (11 : Int32).toInt = 11 from rfl); have tc204 := lv_neT c204 (show (12 : Int32).toInt = 12 from rfl); omega) (by decide) ?_
                            refine g_aload_n X 3 dL_acts_593 rfl rfl ?_
                            refine g_aload X 4 dL_acts_594 rfl ?_
                            refine g_iload X 6 dL_acts_596 rfl ?_
                            refine g_aload_n X 1 dL_acts_598 rfl rfl ?_
                            refine g_aload_n X 2 dL_acts_599 rfl rfl ?_
                            refine g_aload_n X 3 dL_acts_600 rfl rfl ?_
                            refine g_aload X 4 dL_acts_601 rfl ?_
                            refine g_iload X 6 dL_acts_603 rfl ?_
                            refine g_ciS X [wC ct g kc, wS ct (g 1) v, wV ct g b, wS ct (g 5) (r 0), wS ct (g 6) (r 1), wS ct (g 7) (r 2), wS ct (g 8) (r 3), wS ct (g 9) (r 4), wS ct (g 10) (r 5), wL ct (g 12) y, wO ct (g 13) o, wR ct (g 14) x, wI 40 ct bp ap, wI 20 ct bc ac, wI 24 ct bq aq, wI 7 ct bn an] (fun (_ : Unit) => [wC ct g kc, wS ct (g 1) v, wV ct g b, wS ct (g 5) (r 0), wS ct (g 6) (r 1), wS ct (g 7) (r 2), wS ct (g 8) (r 3), wS ct (g 9) (r 4), wS ct (g 10) (r 5), wL ct (g 12) y, wO ct (g 13) o, wR ct (g 14) x, wI 40 ct bp ap, wI 20 ct bc ac, wI 24 ct bq aq, wI 7 ct bn an]) (fun _ => fl [wC ct g kc, wS ct (g 1) v, wV ct g b, wS ct (g 5) (r 0), wS ct (g 6) (r 1), wS ct (g 7) (r 2), wS ct (g 8) (r 3), wS ct (g 9) (r 4), wS ct (g 10) (r 5), wL ct (g 12) y, wO ct (g 13) o, wR ct (g 14) x, wI 40 ct bp ap, wI 20 ct bc ac, wI 24 ct bq aq, wI 7 ct bn an]) 16 [12, 13, 14, 15] [0, 1, 2, 3, 4, 5, 6, 7, 8, 9, 10, 11] (kL_best l D ct bp bc bq bn ap ac aq an x7 _ hw) (va_cwS 5 X.1.2.2.2.2 gL_acts_L_best rfl rfl rfl (by decide +kernel) ⟨Nat.le_of_ble_eq_true rfl, Nat.le_of_ble_eq_true rfl⟩) dL_acts_605 rfl rfl (Nat.le_of_ble_eq_true rfl) ⟨Nat.le_of_ble_eq_true rfl, Nat.le_of_ble_eq_true rfl⟩ rfl rfl rfl (by decide) (fun _ => rfl) (fun _ => rfl) (fun _ => rfl) (fun _ => rfl) (fun r240 _ hw => ?_)
                            refine g_cvS X [wC ct g kc, wS ct (g 1) v, wV ct g b, wS ct (g 5) (r 0), wS ct (g 6) (r 1), wS ct (g 7) (r 2), wS ct (g 8) (r 3), wS ct (g 9) (r 4), wS ct (g 10) (r 5), wL ct (g 12) y, wO ct (g 13) o, wR ct (g 14) x, wI 40 ct bp ap, wI 20 ct bc ac, wI 24 ct bq aq, wI 7 ct bn an] (fun (u242 : Mem) => [wC ct g kc, wS ct (g 1) v, wV ct g b, wS ct (g 5) (r 0), wS ct (g 6) (r 1), wS ct (g 7) (r 2), wS ct (g 8) (r 3), wS ct (g 9) (r 4), wS ct (g 10) (r 5), wL ct (g 12) y, wO ct (g 13) o, wR ct (g 14) x, wI 40 ct bp ap, wI 20 ct bc ac, wI 24 ct bq u242, wI 7 ct bn an]) (fun (u242 : Mem) => fl [wC ct g kc, wS ct (g 1) v, wV ct g b, wS ct (g 5) (r 0), wS ct (g 6) (r 1), wS ct (g 7) (r 2), wS ct (g 8) (r 3), wS ct (g 9) (r 4), wS ct (g 10) (r 5), wL ct (g 12) y, wO ct (g 13) o, wR ct (g 14) x, wI 40 ct bp ap, wI 20 ct bc ac, wI 24 ct bq u242, wI 7 ct bn an]) 16 [14, 15] [0, 1, 2, 3, 4, 5, 6, 7, 8, 9, 10, 11, 12, 13] (kL_lays l D ct bq bn aq an x7 r240 _ hw) (va_cwS 4 X.1.2.2.2.2 gL_acts_L_lays rfl rfl rfl (by decide +kernel) ⟨Nat.le_of_ble_eq_true rfl, Nat.le_of_ble_eq_true rfl⟩) dL_acts_608 rfl rfl (Nat.le_of_ble_eq_true rfl) ⟨Nat.le_of_ble_eq_true rfl, Nat.le_of_ble_eq_true rfl⟩ rfl rfl rfl (by decide) (fun _ => rfl) (fun _ => lq16_14_15) (fun _ => rfl) (fun _ => rfl) (fun u242 hw => ?_)
                            obtain ⟨aq243, haq243⟩ : ∃ z : Mem, z = u242 := ⟨_, rfl⟩
                            rw [← haq243] at hw
                            rw [← haq243]
                            refine g_aload_n X 0 dL_acts_611 rfl rfl ?_
                            refine g_iload X 6 dL_acts_612 rfl ?_
                            refine g_ciV X [wC ct g kc, wS ct (g 1) v, wV ct g b, wS ct (g 5) (r 0), wS ct (g 6) (r 1), wS ct (g 7) (r 2), wS ct (g 8) (r 3), wS ct (g 9) (r 4), wS ct (g 10) (r 5), wL ct (g 12) y, wO ct (g 13) o, wR ct (g 14) x, wI 40 ct bp ap, wI 20 ct bc ac, wI 24 ct bq aq243, wI 7 ct bn an] (fun (u245 : Mem × Mem × (Nat → Mem) × Mem) => [wC ct g kc, wS ct (g 1) u245.1, wV ct g u245.2.1, wS ct (g 5) (u245.2.2.1 0), wS ct (g 6) (u245.2.2.1 1), wS ct (g 7) (u245.2.2.1 2), wS ct (g 8) (u245.2.2.1 3), wS ct (g 9) (u245.2.2.1 4), wS ct (g 10) (u245.2.2.1 5), wL ct (g 12) y, wO ct (g 13) o, wR ct (g 14) u245.2.2.2, wI 40 ct bp ap, wI 20 ct bc ac, wI 24 ct bq aq243, wI 7 ct bn an]) (fun (u245 : Mem × Mem × (Nat → Mem) × Mem) => fl [wC ct g kc, wS ct (g 1) u245.1, wV ct g u245.2.1, wS ct (g 5) (u245.2.2.1 0), wS ct (g 6) (u245.2.2.1 1), wS ct (g 7) (u245.2.2.1 2), wS ct (g 8) (u245.2.2.1 3), wS ct (g 9) (u245.2.2.1 4), wS ct (g 10) (u245.2.2.1 5), wL ct (g 12) y, wO ct (g 13) o, wR ct (g 14) u245.2.2.2, wI 40 ct bp ap, wI 20 ct bc ac, wI 24 ct bq aq243, wI 7 ct bn an]) 16 [0, 1, 2, 3, 4, 5, 6, 7, 8, 11] [9, 10, 12, 13, 14, 15] 0 (kX7_untangle_nt l D ct g kc v b r x x7 _ hw) (cwV 1 X.1.2.2.2.2 gL_acts_X7_untangle rfl rfl rfl (by decide +kernel) ⟨Nat.le_of_ble_eq_true rfl, Nat.le_of_ble_eq_true rfl⟩) dL_acts_614 rfl rfl (Nat.le_of_ble_eq_true rfl) ⟨Nat.le_of_ble_eq_true rfl, Nat.le_of_ble_eq_true rfl⟩ rfl rfl rfl (by decide) (fun _ => rfl) (fun _ => lq16_0_1_2_3_4_5_6_7_8_11) (fun _ => rfl) (fun _ => rfl) rfl rfl rfl (fun r244 u245 hw => ?_)
                            obtain ⟨v246, hv246⟩ : ∃ z : Mem, z = u245.1 := ⟨_, rfl⟩
                            rw [← hv246] at hw
                            rw [← hv246]
                            obtain ⟨b247, hb247⟩ : ∃ z : Mem, z = u245.2.1 := ⟨_, rfl⟩
                            rw [← hb247] at hw
                            rw [← hb247]
                            obtain ⟨r248, hr248⟩ : ∃ z : Nat → Mem, z = u245.2.2.1 := ⟨_, rfl⟩
                            rw [← hr248] at hw
                            rw [← hr248]
                            obtain ⟨x249, hx249⟩ : ∃ z : Mem, z = u245.2.2.2 := ⟨_, rfl⟩
                            rw [← hx249] at hw
                            rw [← hx249]
                            refine g_aload_n X 1 dL_acts_617 rfl rfl ?_
                            refine g_aload_n X 2 dL_acts_618 rfl rfl ?_
                            refine g_aload_n X 3 dL_acts_619 rfl rfl ?_
                            refine g_aload X 4 dL_acts_620 rfl ?_
                            refine g_iload X 6 dL_acts_622 rfl ?_
                            refine g_ciS X [wC ct g kc, wS ct (g 1) v246, wV ct g b247, wS ct (g 5) (r248 0), wS ct (g 6) (r248 1), wS ct (g 7) (r248 2), wS ct (g 8) (r248 3), wS ct (g 9) (r248 4), wS ct (g 10) (r248 5), wL ct (g 12) y, wO ct (g 13) o, wR ct (g 14) x249, wI 40 ct bp ap, wI 20 ct bc ac, wI 24 ct bq aq243, wI 7 ct bn an] (fun (_ : Unit) => [wC ct g kc, wS ct (g 1) v246, wV ct g b247, wS ct (g 5) (r248 0), wS ct (g 6) (r248 1), wS ct (g 7) (r248 2), wS ct (g 8) (r248 3), wS ct (g 9) (r248 4), wS ct (g 10) (r248 5), wL ct (g 12) y, wO ct (g 13) o, wR ct (g 14) x249, wI 40 ct bp ap, wI 20 ct bc ac, wI 24 ct bq aq243, wI 7 ct bn an]) (fun _ => fl [wC ct g kc, wS ct (g 1) v246, wV ct g b247, wS ct (g 5) (r248 0), wS ct (g 6) (r248 1), wS ct (g 7) (r248 2), wS ct (g 8) (r248 3), wS ct (g 9) (r248 4), wS ct (g 10) (r248 5), wL ct (g 12) y, wO ct (g 13) o, wR ct (g 14) x249, wI 40 ct bp ap, wI 20 ct bc ac, wI 24 ct bq aq243, wI 7 ct bn an]) 16 [12, 13, 14, 15] [0, 1, 2, 3, 4, 5, 6, 7, 8, 9, 10, 11] (kL_ofTwo l D ct bp bc bq bn ap ac aq243 an x7 _ hw) (va_cwS 5 X.1.2.2.2.2 gL_acts_L_ofTwo rfl rfl rfl (by decide +kernel) ⟨Nat.le_of_ble_eq_true rfl, Nat.le_of_ble_eq_true rfl⟩) dL_acts_624 rfl rfl (Nat.le_of_ble_eq_true rfl) ⟨Nat.le_of_ble_eq_true rfl, Nat.le_of_ble_eq_true rfl⟩ rfl rfl rfl (by decide) (fun _ => rfl) (fun _ => rfl) (fun _ => rfl) (fun _ => rfl) (fun r250 _ hw => ?_)
                            refine g_icmp_ne X 634 dL_acts_627 (by decide) (fun c252 => ?_) (fun c252 => ?_)
                            · replace hw := hw.1 c252
                              refine g_iconst (v := 0) X rfl dL_acts_634 ?_
                              exact g_zret X (v246, b247, r248, y, o, x249, ap, ac, aq243, an) isB_0 hw rfl (Nat.le_of_ble_eq_true rfl) (Nat.le_of_ble_eq_true rfl) dL_acts_635
                            · replace hw := hw.2 c252
                              refine g_iconst (v := 1) X rfl dL_acts_630 ?_
                              refine g_goto X 635 dL_acts_631 (by decide) ?_
                              exact g_zret X (v246, b247, r248, y, o, x249, ap, ac, aq243, an) isB_1 hw rfl (Nat.le_of_ble_eq_true rfl) (Nat.le_of_ble_eq_true rfl) dL_acts_635

set_option maxHeartbeats 4000000 in
set_option maxRecDepth 20000 in
theorem kL_acts (l : Launch) (D : va_G) (ct : Nat → ClassId) (g : Nat → Nat → Nat) (bp : Nat) (bc : Nat) (bq : Nat) (bn : Nat) (kc : Mem) (v : Mem) (b : Mem) (r : Nat → Mem) (y : Mem) (o : Mem) (x : Mem) (ap : Mem) (ac : Mem) (aq : Mem) (an : Mem) (p6 : Int32) (p7 : Int32) (post : Int32 → Mem → Mem → (Nat → Mem) → Mem → Mem → Mem → Mem → Mem → Mem → Mem → Prop) (hw : PL_acts kc v b r y o x ap ac aq an p6 p7 post) : Ci (S := Mem × Mem × (Nat → Mem) × Mem × Mem × Mem × Mem × Mem × Mem × Mem) l yL_acts wsL_acts rmL_acts D (tyz ct) [.ref (g 0 0), .ref bp, .ref bc, .ref bq, .ref bn, .int p6, .int p7] (fl [wC ct g kc, wS ct (g 1) v, wV ct g b, wS ct (g 5) (r 0), wS ct (g 6) (r 1), wS ct (g 7) (r 2), wS ct (g 8) (r 3), wS ct (g 9) (r 4), wS ct (g 10) (r 5), wL ct (g 12) y, wO ct (g 13) o, wR ct (g 14) x, wI 40 ct bp ap, wI 20 ct bc ac, wI 24 ct bq aq, wI 7 ct bn an]) (fun r (u9 : Mem × Mem × (Nat → Mem) × Mem × Mem × Mem × Mem × Mem × Mem × Mem) => post r u9.1 u9.2.1 u9.2.2.1 u9.2.2.2.1 u9.2.2.2.2.1 u9.2.2.2.2.2.1 u9.2.2.2.2.2.2.1 u9.2.2.2.2.2.2.2.1 u9.2.2.2.2.2.2.2.2.1 u9.2.2.2.2.2.2.2.2.2) (fun u9 => fl [wC ct g kc, wS ct (g 1) u9.1, wV ct g u9.2.1, wS ct (g 5) (u9.2.2.1 0), wS ct (g 6) (u9.2.2.1 1), wS ct (g 7) (u9.2.2.1 2), wS ct (g 8) (u9.2.2.1 3), wS ct (g 9) (u9.2.2.1 4), wS ct (g 10) (u9.2.2.1 5), wL ct (g 12) u9.2.2.2.1, wO ct (g 13) u9.2.2.2.2.1, wR ct (g 14) u9.2.2.2.2.2.1, wI 40 ct bp u9.2.2.2.2.2.2.1, wI 20 ct bc u9.2.2.2.2.2.2.2.1, wI 24 ct bq u9.2.2.2.2.2.2.2.2.1, wI 7 ct bn u9.2.2.2.2.2.2.2.2.2]) 1 24 := by
  intro sz
  refine g_of (own := RL) (by decide) rfl rfl (Nat.le_of_ble_eq_true rfl) [(0, .ref (g 0 0)), (1, .ref bp), (2, .ref bc), (3, .ref bq), (4, .ref bn), (5, .int p6), (6, .int p7)] rfl (fun p e s m args below meth c hsz X => ?_)
  subst hsz
  unfold PL_acts at hw
  refine g_iload X 6 dL_acts_0 rfl ?_
  refine g_iconst (v := 4) X rfl dL_acts_2 ?_
  refine g_ciS X [wC ct g kc, wS ct (g 1) v, wV ct g b, wS ct (g 5) (r 0), wS ct (g 6) (r 1), wS ct (g 7) (r 2), wS ct (g 8) (r 3), wS ct (g 9) (r 4), wS ct (g 10) (r 5), wL ct (g 12) y, wO ct (g 13) o, wR ct (g 14) x, wI 40 ct bp ap, wI 20 ct bc ac, wI 24 ct bq aq, wI 7 ct bn an] (fun (_ : Unit) => [wC ct g kc, wS ct (g 1) v, wV ct g b, wS ct (g 5) (r 0), wS ct (g 6) (r 1), wS ct (g 7) (r 2), wS ct (g 8) (r 3), wS ct (g 9) (r 4), wS ct (g 10) (r 5), wL ct (g 12) y, wO ct (g 13) o, wR ct (g 14) x, wI 40 ct bp ap, wI 20 ct bc ac, wI 24 ct bq aq, wI 7 ct bn an]) (fun _ => fl [wC ct g kc, wS ct (g 1) v, wV ct g b, wS ct (g 5) (r 0), wS ct (g 6) (r 1), wS ct (g 7) (r 2), wS ct (g 8) (r 3), wS ct (g 9) (r 4), wS ct (g 10) (r 5), wL ct (g 12) y, wO ct (g 13) o, wR ct (g 14) x, wI 40 ct bp ap, wI 20 ct bc ac, wI 24 ct bq aq, wI 7 ct bn an]) 16 [] [0, 1, 2, 3, 4, 5, 6, 7, 8, 9, 10, 11, 12, 13, 14, 15] (kL_low l D ct  p7 4 _ hw) (va_cwS 2 X.1.2.2.2.2 gL_acts_L_low rfl rfl rfl (by decide +kernel) ⟨Nat.le_of_ble_eq_true rfl, Nat.le_of_ble_eq_true rfl⟩) dL_acts_3 rfl rfl (Nat.le_of_ble_eq_true rfl) ⟨Nat.le_of_ble_eq_true rfl, Nat.le_of_ble_eq_true rfl⟩ rfl rfl rfl (by decide) (fun _ => rfl) (fun _ => rfl) (fun _ => rfl) (fun _ => rfl) (fun r1 _ hw => ?_)
  refine g_istore X [(7, .int r1), (0, .ref (g 0 0)), (1, .ref bp), (2, .ref bc), (3, .ref bq), (4, .ref bn), (5, .int p6), (6, .int p7)] dL_acts_6 (by decide) rfl ?_
  refine g_aload X 5 dL_acts_8 rfl ?_
  refine g_iconst (v := 0) X rfl dL_acts_10 ?_
  obtain ⟨h3, hw⟩ := hw
  refine g_iald X 87 0 dL_acts_11 rfl rfl h3 ?_
  refine g_iconst (v := 2) X rfl dL_acts_12 ?_
  refine g_icmp_ge X 20 dL_acts_13 (by decide) (fun c4 => ?_) (fun c4 => ?_)
  · replace hw := hw.1 c4
    refine g_iload X 6 dL_acts_20 rfl ?_
    refine g_sub [(0, .ref (g 0 0)), (1, .ref bp), (2, .ref bc), (3, .ref bq), (4, .ref bn), (6, .int p7), (7, .int r1)] [1, 2, 3, 4, 5, 7, 0] rfl ?_
    exact kL_acts_22 l D ct g bp bc bq bn 0 kc post X _ _ _ _ _ _ _ _ _ _ _ _ _ _ hw
  · replace hw := hw.2 c4
    refine g_iconst (v := 0) X rfl dL_acts_16 ?_
    refine g_goto X 22 dL_acts_17 (by decide) ?_
    refine g_sub [(0, .ref (g 0 0)), (1, .ref bp), (2, .ref bc), (3, .ref bq), (4, .ref bn), (6, .int p7), (7, .int r1)] [1, 2, 3, 4, 5, 7, 0] rfl ?_
    exact kL_acts_22 l D ct g bp bc bq bn 0 kc post X _ _ _ _ _ _ _ _ _ _ _ _ _ _ hw
