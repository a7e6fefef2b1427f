set_option maxHeartbeats 20000000 in
set_option maxRecDepth 20000 in
theorem kL_law_156 {p : Program} {l : Launch} {e : Env} {s : State} {m : MethodId} {args : Array Value} {below : List Frame} {meth : Method} {c : Code} {D : va_G} {ct : Nat → ClassId} {A : Nat → Prop} {Q : State → Prop} {sb L : Nat} {xs : Nat → Int32} {g : Nat → Nat → Nat} {bp bc bq bn : Nat} (hX : va_X sb L xs s s.heap) (hbl : sb < s.heap.size) (hbA : ¬ A sb) (hend : ∀ (k j : Nat) (w : va_W) (lv : List (Nat × Value)), k ≤ 600172 → j ≤ 7300668 → GG p l e room_1 s m args below meth c D A s.heap 9 Q (w) (k) (j) lv 237 [.int 1]) (X : Cx p s m args meth c cL_law 9 RL wsL_law D (tyz ct) A s.heap ret) {kq jq : Nat} (hkq : kq + 3 ≤ 600172) (hjq : jq + 72 ≤ 7300668) {K83 : Mem → Mem → Mem → (Nat → Mem) → Mem → Mem → Mem → Mem → Mem → Mem → Mem → Int32 → Int32 → Prop} (hK83 : ∀ (kc : Mem) (v : Mem) (b : Mem) (r : Nat → Mem) (y : Mem) (o : Mem) (x : Mem) (ap : Mem) (ac : Mem) (aq : Mem) (an : Mem) (x6 : Int32) (x7 : Int32), K83 kc v b r y o x ap ac aq an x6 x7 → GG p l e room_1 s m args below meth c D A s.heap 9 Q (fl [wC ct g kc, wS ct (g 1) v, wV ct g b, wS ct (g 5) (r 0), wS ct (g 6) (r 1), wS ct (g 7) (r 2), wS ct (g 8) (r 3), wS ct (g 9) (r 4), wS ct (g 10) (r 5), wL ct (g 12) y, wO ct (g 13) o, wR ct (g 14) x, wI 40 ct bp ap, wI 20 ct bc ac, wI 24 ct bq aq, wI 7 ct bn an]) (kq + 3) (jq + 72) [(0, .ref sb), (1, .ref (g 0 0)), (2, .ref bp), (3, .ref bc), (4, .ref bq), (5, .ref bn), (6, .int x6), (7, .int x7)] 83 []) :
    ∀ (kc : Mem) (v : Mem) (b : Mem) (r : Nat → Mem) (y : Mem) (o : Mem) (x : Mem) (ap : Mem) (ac : Mem) (aq : Mem) (an : Mem) (x7 : Int32) (x8 : Int32) (z0 : Int32) (z1 : Int32), PL_law_156 xs L K83 kc v b r y o x ap ac aq an x7 x8 z0 z1 → GG p l e room_1 s m args below meth c D A s.heap 9 Q (fl [wC ct g kc, wS ct (g 1) v, wV ct g b, wS ct (g 5) (r 0), wS ct (g 6) (r 1), wS ct (g 7) (r 2), wS ct (g 8) (r 3), wS ct (g 9) (r 4), wS ct (g 10) (r 5), wL ct (g 12) y, wO ct (g 13) o, wR ct (g 14) x, wI 40 ct bp ap, wI 20 ct bc ac, wI 24 ct bq aq, wI 7 ct bn an]) (kq) (jq) [(0, .ref sb), (1, .ref (g 0 0)), (2, .ref bp), (3, .ref bc), (4, .ref bq), (5, .ref bn), (7, .int x7), (8, .int x8)] 156 [.int z0, .int z1, .ref bn, .ref bq, .ref bc, .ref bp, .ref (g 0 0)] := by
  intro kc v b r y o x ap ac aq an x7 x8 z0 z1 hw
  unfold PL_law_156 at hw
  refine g_ciS X [wC ct g kc, wS ct (g 1) v, wV ct g b, wS ct (g 5) (r 0), wS ct (g 6) (r 1), wS ct (g 7) (r 2), wS ct (g 8) (r 3), wS ct (g 9) (r 4), wS ct (g 10) (r 5), wL ct (g 12) y, wO ct (g 13) o, wR ct (g 14) x, wI 40 ct bp ap, wI 20 ct bc ac, wI 24 ct bq aq, wI 7 ct bn an] (fun (u13 : Mem × Mem × (Nat → Mem) × Mem × Mem × Mem × Mem × Mem × Mem × Mem) => [wC ct g kc, wS ct (g 1) u13.1, wV ct g u13.2.1, wS ct (g 5) (u13.2.2.1 0), wS ct (g 6) (u13.2.2.1 1), wS ct (g 7) (u13.2.2.1 2), wS ct (g 8) (u13.2.2.1 3), wS ct (g 9) (u13.2.2.1 4), wS ct (g 10) (u13.2.2.1 5), wL ct (g 12) u13.2.2.2.1, wO ct (g 13) u13.2.2.2.2.1, wR ct (g 14) u13.2.2.2.2.2.1, wI 40 ct bp u13.2.2.2.2.2.2.1, wI 20 ct bc u13.2.2.2.2.2.2.2.1, wI 24 ct bq u13.2.2.2.2.2.2.2.2.1, wI 7 ct bn u13.2.2.2.2.2.2.2.2.2]) (fun (u13 : Mem × Mem × (Nat → Mem) × Mem × Mem × Mem × Mem × Mem × Mem × Mem) => fl [wC ct g kc, wS ct (g 1) u13.1, wV ct g u13.2.1, wS ct (g 5) (u13.2.2.1 0), wS ct (g 6) (u13.2.2.1 1), wS ct (g 7) (u13.2.2.1 2), wS ct (g 8) (u13.2.2.1 3), wS ct (g 9) (u13.2.2.1 4), wS ct (g 10) (u13.2.2.1 5), wL ct (g 12) u13.2.2.2.1, wO ct (g 13) u13.2.2.2.2.1, wR ct (g 14) u13.2.2.2.2.2.1, wI 40 ct bp u13.2.2.2.2.2.2.1, wI 20 ct bc u13.2.2.2.2.2.2.2.1, wI 24 ct bq u13.2.2.2.2.2.2.2.2.1, wI 7 ct bn u13.2.2.2.2.2.2.2.2.2]) 16 [0, 1, 2, 3, 4, 5, 6, 7, 8, 9, 10, 11, 12, 13, 14, 15] [] (kL_acts l D ct g bp bc bq bn kc v b r y o x ap ac aq an z1 z0 _ hw) (va_cwS 7 X.1.2.2.2.2 gL_law_L_acts rfl rfl rfl (by decide +kernel) ⟨Nat.le_of_ble_eq_true rfl, Nat.le_of_ble_eq_true rfl⟩) dL_law_156 rfl rfl (Nat.le_of_ble_eq_true rfl) ⟨by show _ ≤ 600172; omega, by show _ ≤ 7300668; omega⟩ rfl rfl rfl (by decide) (fun _ => rfl) (fun _ => rfl) (fun _ => rfl) (fun _ => rfl) (fun r12 u13 hw => ?_)
  obtain ⟨v14, hv14⟩ : ∃ z : Mem, z = u13.1 := ⟨_, rfl⟩
  rw [← hv14] at hw
  rw [← hv14]
  obtain ⟨b15, hb15⟩ : ∃ z : Mem, z = u13.2.1 := ⟨_, rfl⟩
  rw [← hb15] at hw
  rw [← hb15]
  obtain ⟨r16, hr16⟩ : ∃ z : Nat → Mem, z = u13.2.2.1 := ⟨_, rfl⟩
  rw [← hr16] at hw
  rw [← hr16]
  obtain ⟨y17, hy17⟩ : ∃ z : Mem, z = u13.2.2.2.1 := ⟨_, rfl⟩
  rw [← hy17] at hw
  rw [← hy17]
  obtain ⟨o18, ho18⟩ : ∃ z : Mem, z = u13.2.2.2.2.1 := ⟨_, rfl⟩
  rw [← ho18] at hw
  rw [← ho18]
  obtain ⟨x19, hx19⟩ : ∃ z : Mem, z = u13.2.2.2.2.2.1 := ⟨_, rfl⟩
  rw [← hx19] at hw
  rw [← hx19]
  obtain ⟨ap20, hap20⟩ : ∃ z : Mem, z = u13.2.2.2.2.2.2.1 := ⟨_, rfl⟩
  rw [← hap20] at hw
  rw [← hap20]
  obtain ⟨ac21, hac21⟩ : ∃ z : Mem, z = u13.2.2.2.2.2.2.2.1 := ⟨_, rfl⟩
  rw [← hac21] at hw
  rw [← hac21]
  obtain ⟨aq22, haq22⟩ : ∃ z : Mem, z = u13.2.2.2.2.2.2.2.2.1 := ⟨_, rfl⟩
  rw [← haq22] at hw
  rw [← haq22]
  obtain ⟨an23, han23⟩ : ∃ z : Mem, z = u13.2.2.2.2.2.2.2.2.2 := ⟨_, rfl⟩
  rw [← han23] at hw
  rw [← han23]
  refine g_if_eq X 226 dL_law_159 (by decide) (fun c24 => ?_) (fun c24 => ?_)
  · replace hw := hw.1 c24
    refine g_iconst (v := 0) X rfl dL_law_226 ?_
    refine g_istore X [(6, .int 0), (0, .ref sb), (1, .ref (g 0 0)), (2, .ref bp), (3, .ref bc), (4, .ref bq), (5, .ref bn), (7, .int x7), (8, .int x8)] dL_law_227 (by decide) rfl ?_
    refine g_iinc X [(7, .int (x7 + 1)), (6, .int 0), (0, .ref sb), (1, .ref (g 0 0)), (2, .ref bp), (3, .ref bc), (4, .ref bq), (5, .ref bn), (8, .int x8)] 7 dL_law_229 rfl rfl (by decide) rfl ?_
    refine g_goto X 83 dL_law_232 (by decide) ?_
    refine g_sub [(0, .ref sb), (1, .ref (g 0 0)), (2, .ref bp), (3, .ref bc), (4, .ref bq), (5, .ref bn), (6, .int 0), (7, .int (x7 + 1))] [2, 3, 4, 5, 6, 7, 1, 0] rfl ?_
    refine g_wide (k2 := kq + 3) (j2 := jq + 72) (by omega) (by omega) ?_
    exact hK83 _ _ _ _ _ _ _ _ _ _ _ _ _ hw
  · replace hw := hw.2 c24
    refine g_aload_n X 1 dL_law_162 rfl rfl ?_
    refine g_aload_n X 2 dL_law_163 rfl rfl ?_
    refine g_aload_n X 3 dL_law_164 rfl rfl ?_
    refine g_aload X 4 dL_law_165 rfl ?_
    refine g_aload X 5 dL_law_167 rfl ?_
    refine g_ciS X [wC ct g kc, wS ct (g 1) v14, wV ct g b15, wS ct (g 5) (r16 0), wS ct (g 6) (r16 1), wS ct (g 7) (r16 2), wS ct (g 8) (r16 3), wS ct (g 9) (r16 4), wS ct (g 10) (r16 5), wL ct (g 12) y17, wO ct (g 13) o18, wR ct (g 14) x19, wI 40 ct bp ap20, wI 20 ct bc ac21, wI 24 ct bq aq22, wI 7 ct bn an23] (fun (u26 : Mem) => [wC ct g kc, wS ct (g 1) v14, wV ct g b15, wS ct (g 5) (r16 0), wS ct (g 6) (r16 1), wS ct (g 7) (r16 2), wS ct (g 8) (r16 3), wS ct (g 9) (r16 4), wS ct (g 10) (r16 5), wL ct (g 12) u26, wO ct (g 13) o18, wR ct (g 14) x19, wI 40 ct bp ap20, wI 20 ct bc ac21, wI 24 ct bq aq22, wI 7 ct bn an23]) (fun (u26 : Mem) => fl [wC ct g kc, wS ct (g 1) v14, wV ct g b15, wS ct (g 5) (r16 0), wS ct (g 6) (r16 1), wS ct (g 7) (r16 2), wS ct (g 8) (r16 3), wS ct (g 9) (r16 4), wS ct (g 10) (r16 5), wL ct (g 12) u26, wO ct (g 13) o18, wR ct (g 14) x19, wI 40 ct bp ap20, wI 20 ct bc ac21, wI 24 ct bq aq22, wI 7 ct bn an23]) 16 [0, 1, 2, 9, 12, 13, 14, 15] [3, 4, 5, 6, 7, 8, 10, 11] (kL_arePeople l D ct g bp bc bq bn kc v14 b15 y17 ap20 ac21 aq22 an23 _ hw) (va_cwS 5 X.1.2.2.2.2 gL_law_L_arePeople rfl rfl rfl (by decide +kernel) ⟨Nat.le_of_ble_eq_true rfl, Nat.le_of_ble_eq_true rfl⟩) dL_law_169 rfl rfl (Nat.le_of_ble_eq_true rfl) ⟨by show _ ≤ 600172; omega, by show _ ≤ 7300668; omega⟩ rfl rfl rfl (by decide) (fun _ => rfl) (fun _ => lq16_0_1_2_9_12_13_14_15) (fun _ => rfl) (fun _ => rfl) (fun r25 u26 hw => ?_)
    obtain ⟨y27, hy27⟩ : ∃ z : Mem, z = u26 := ⟨_, rfl⟩
    rw [← hy27] at hw
    rw [← hy27]
    refine g_if_eq X 226 dL_law_172 (by decide) (fun c28 => ?_) (fun c28 => ?_)
    · replace hw := hw.1 c28
      refine g_iconst (v := 0) X rfl dL_law_226 ?_
      refine g_istore X [(6, .int 0), (0, .ref sb), (1, .ref (g 0 0)), (2, .ref bp), (3, .ref bc), (4, .ref bq), (5, .ref bn), (7, .int x7), (8, .int x8)] dL_law_227 (by decide) rfl ?_
      refine g_iinc X [(7, .int (x7 + 1)), (6, .int 0), (0, .ref sb), (1, .ref (g 0 0)), (2, .ref bp), (3, .ref bc), (4, .ref bq), (5, .ref bn), (8, .int x8)] 7 dL_law_229 rfl rfl (by decide) rfl ?_
      refine g_goto X 83 dL_law_232 (by decide) ?_
      refine g_sub [(0, .ref sb), (1, .ref (g 0 0)), (2, .ref bp), (3, .ref bc), (4, .ref bq), (5, .ref bn), (6, .int 0), (7, .int (x7 + 1))] [2, 3, 4, 5, 6, 7, 1, 0] rfl ?_
      refine g_wide (k2 := kq + 3) (j2 := jq + 72) (by omega) (by omega) ?_
      exact hK83 _ _ _ _ _ _ _ _ _ _ _ _ _ hw
    · replace hw := hw.2 c28
      refine g_aload_n X 1 dL_law_175 rfl rfl ?_
      refine g_aload_n X 2 dL_law_176 rfl rfl ?_
      refine g_aload_n X 3 dL_law_177 rfl rfl ?_
      refine g_aload X 4 dL_law_178 rfl ?_
      refine g_aload X 5 dL_law_180 rfl ?_
      refine g_ciS X [wC ct g kc, wS ct (g 1) v14, wV ct g b15, wS ct (g 5) (r16 0), wS ct (g 6) (r16 1), wS ct (g 7) (r16 2), wS ct (g 8) (r16 3), wS ct (g 9) (r16 4), wS ct (g 10) (r16 5), wL ct (g 12) y27, wO ct (g 13) o18, wR ct (g 14) x19, wI 40 ct bp ap20, wI 20 ct bc ac21, wI 24 ct bq aq22, wI 7 ct bn an23] (fun (u30 : Mem) => [wC ct g kc, wS ct (g 1) v14, wV ct g b15, wS ct (g 5) (r16 0), wS ct (g 6) (r16 1), wS ct (g 7) (r16 2), wS ct (g 8) (r16 3), wS ct (g 9) (r16 4), wS ct (g 10) (r16 5), wL ct (g 12) u30, wO ct (g 13) o18, wR ct (g 14) x19, wI 40 ct bp ap20, wI 20 ct bc ac21, wI 24 ct bq aq22, wI 7 ct bn an23]) (fun (u30 : Mem) => fl [wC ct g kc, wS ct (g 1) v14, wV ct g b15, wS ct (g 5) (r16 0), wS ct (g 6) (r16 1), wS ct (g 7) (r16 2), wS ct (g 8) (r16 3), wS ct (g 9) (r16 4), wS ct (g 10) (r16 5), wL ct (g 12) u30, wO ct (g 13) o18, wR ct (g 14) x19, wI 40 ct bp ap20, wI 20 ct bc ac21, wI 24 ct bq aq22, wI 7 ct bn an23]) 16 [0, 1, 2, 9, 12, 13, 14, 15] [3, 4, 5, 6, 7, 8, 10, 11] (kL_areRows l D ct g bp bc bq bn kc v14 b15 y27 ap20 ac21 aq22 an23 _ hw) (va_cwS 5 X.1.2.2.2.2 gL_law_L_areRows rfl rfl rfl (by decide +kernel) ⟨Nat.le_of_ble_eq_true rfl, Nat.le_of_ble_eq_true rfl⟩) dL_law_182 rfl rfl (Nat.le_of_ble_eq_true rfl) ⟨by show _ ≤ 600172; omega, by show _ ≤ 7300668; omega⟩ rfl rfl rfl (by decide) (fun _ => rfl) (fun _ => lq16_0_1_2_9_12_13_14_15) (fun _ => rfl) (fun _ => rfl) (fun r29 u30 hw => ?_)
      obtain ⟨y31, hy31⟩ : ∃ z : Mem, z = u30 := ⟨_, rfl⟩
      rw [← hy31] at hw
      rw [← hy31]
      refine g_if_eq X 226 dL_law_185 (by decide) (fun c32 => ?_) (fun c32 => ?_)
      · replace hw := hw.1 c32
        refine g_iconst (v := 0) X rfl dL_law_226 ?_
        refine g_istore X [(6, .int 0), (0, .ref sb), (1, .ref (g 0 0)), (2, .ref bp), (3, .ref bc), (4, .ref bq), (5, .ref bn), (7, .int x7), (8, .int x8)] dL_law_227 (by decide) rfl ?_
        refine g_iinc X [(7, .int (x7 + 1)), (6, .int 0), (0, .ref sb), (1, .ref (g 0 0)), (2, .ref bp), (3, .ref bc), (4, .ref bq), (5, .ref bn), (8, .int x8)] 7 dL_law_229 rfl rfl (by decide) rfl ?_
        refine g_goto X 83 dL_law_232 (by decide) ?_
        refine g_sub [(0, .ref sb), (1, .ref (g 0 0)), (2, .ref bp), (3, .ref bc), (4, .ref bq), (5, .ref bn), (6, .int 0), (7, .int (x7 + 1))] [2, 3, 4, 5, 6, 7, 1, 0] rfl ?_
        refine g_wide (k2 := kq + 3) (j2 := jq + 72) (by omega) (by omega) ?_
        exact hK83 _ _ _ _ _ _ _ _ _ _ _ _ _ hw
      · replace hw := hw.2 c32
        refine g_iload X 6 dL_law_188 rfl ?_
        refine g_bipush (v := 6) X rfl dL_law_190 ?_
        refine g_irem X (by decide) dL_law_192 ?_
        refine g_iconst (v := 4) X rfl dL_law_193 ?_
        refine g_icmp_ne X 222 dL_law_194 (by decide) (fun c33 => ?_) (fun c33 => ?_)
        · replace hw := hw.1 c33
          refine g_iconst (v := 1) X rfl dL_law_222 ?_
          refine g_goto X 227 dL_law_223 (by decide) ?_
          refine g_istore X [(6, .int 1), (0, .ref sb), (1, .ref (g 0 0)), (2, .ref bp), (3, .ref bc), (4, .ref bq), (5, .ref bn), (7, .int x7), (8, .int x8)] dL_law_227 (by decide) rfl ?_
          refine g_iinc X [(7, .int (x7 + 1)), (6, .int 1), (0, .ref sb), (1, .ref (g 0 0)), (2, .ref bp), (3, .ref bc), (4, .ref bq), (5, .ref bn), (8, .int x8)] 7 dL_law_229 rfl rfl (by decide) rfl ?_
          refine g_goto X 83 dL_law_232 (by decide) ?_
          refine g_sub [(0, .ref sb), (1, .ref (g 0 0)), (2, .ref bp), (3, .ref bc), (4, .ref bq), (5, .ref bn), (6, .int 1), (7, .int (x7 + 1))] [2, 3, 4, 5, 6, 7, 1, 0] rfl ?_
          refine g_wide (k2 := kq + 3) (j2 := jq + 72) (by omega) (by omega) ?_
          exact hK83 _ _ _ _ _ _ _ _ _ _ _ _ _ hw
        · replace hw := hw.2 c33
          refine g_aload_n X 1 dL_law_197 rfl rfl ?_
          refine g_aload_n X 2 dL_law_198 rfl rfl ?_
          refine g_aload_n X 3 dL_law_199 rfl rfl ?_
          refine g_aload X 4 dL_law_200 rfl ?_
          refine g_aload X 5 dL_law_202 rfl ?_
          refine g_iload X 7 dL_law_204 rfl ?_
          refine g_iconst (v := 3) X rfl dL_law_206 ?_
          refine g_ishr X dL_law_207 ?_
          refine g_iconst (v := 4) X rfl dL_law_208 ?_
          refine g_ciS X [wC ct g kc, wS ct (g 1) v14, wV ct g b15, wS ct (g 5) (r16 0), wS ct (g 6) (r16 1), wS ct (g 7) (r16 2), wS ct (g 8) (r16 3), wS ct (g 9) (r16 4), wS ct (g 10) (r16 5), wL ct (g 12) y31, wO ct (g 13) o18, wR ct (g 14) x19, wI 40 ct bp ap20, wI 20 ct bc ac21, wI 24 ct bq aq22, wI 7 ct bn an23] (fun (_ : Unit) => [wC ct g kc, wS ct (g 1) v14, wV ct g b15, wS ct (g 5) (r16 0), wS ct (g 6) (r16 1), wS ct (g 7) (r16 2), wS ct (g 8) (r16 3), wS ct (g 9) (r16 4), wS ct (g 10) (r16 5), wL ct (g 12) y31, wO ct (g 13) o18, wR ct (g 14) x19, wI 40 ct bp ap20, wI 20 ct bc ac21, wI 24 ct bq aq22, wI 7 ct bn an23]) (fun _ => fl [wC ct g kc, wS ct (g 1) v14, wV ct g b15, wS ct (g 5) (r16 0), wS ct (g 6) (r16 1), wS ct (g 7) (r16 2), wS ct (g 8) (r16 3), wS ct (g 9) (r16 4), wS ct (g 10) (r16 5), wL ct (g 12) y31, wO ct (g 13) o18, wR ct (g 14) x19, wI 40 ct bp ap20, wI 20 ct bc ac21, wI 24 ct bq aq22, wI 7 ct bn an23]) 16 [] [0, 1, 2, 3, 4, 5, 6, 7, 8, 9, 10, 11, 12, 13, 14, 15] (kL_low l D ct  (x8 >>> (3 &&& 31)) 4 _ hw) (va_cwS 2 X.1.2.2.2.2 gL_law_L_low rfl rfl rfl (by decide +kernel) ⟨Nat.le_of_ble_eq_true rfl, Nat.le_of_ble_eq_true rfl⟩) dL_law_209 rfl rfl (Nat.le_of_ble_eq_true rfl) ⟨by show _ ≤ 600172; omega, by show _ ≤ 7300668; omega⟩ rfl rfl rfl (by decide) (fun _ => rfl) (fun _ => rfl) (fun _ => rfl) (fun _ => rfl) (fun r34 _ hw => ?_)
          refine g_iload X 7 dL_law_212 rfl ?_
          refine g_iconst (v := 5) X rfl dL_law_214 ?_
          refine g_ishr X dL_law_215 ?_
          refine g_ciS X [wC ct g kc, wS ct (g 1) v14, wV ct g b15, wS ct (g 5) (r16 0), wS ct (g 6) (r16 1), wS ct (g 7) (r16 2), wS ct (g 8) (r16 3), wS ct (g 9) (r16 4), wS ct (g 10) (r16 5), wL ct (g 12) y31, wO ct (g 13) o18, wR ct (g 14) x19, wI 40 ct bp ap20, wI 20 ct bc ac21, wI 24 ct bq aq22, wI 7 ct bn an23] (fun (u37 : Mem × Mem × Mem) => [wC ct g kc, wS ct (g 1) u37.1, wV ct g b15, wS ct (g 5) (r16 0), wS ct (g 6) (r16 1), wS ct (g 7) (r16 2), wS ct (g 8) (r16 3), wS ct (g 9) (r16 4), wS ct (g 10) (r16 5), wL ct (g 12) u37.2.1, wO ct (g 13) o18, wR ct (g 14) u37.2.2, wI 40 ct bp ap20, wI 20 ct bc ac21, wI 24 ct bq aq22, wI 7 ct bn an23]) (fun (u37 : Mem × Mem × Mem) => fl [wC ct g kc, wS ct (g 1) u37.1, wV ct g b15, wS ct (g 5) (r16 0), wS ct (g 6) (r16 1), wS ct (g 7) (r16 2), wS ct (g 8) (r16 3), wS ct (g 9) (r16 4), wS ct (g 10) (r16 5), wL ct (g 12) u37.2.1, wO ct (g 13) o18, wR ct (g 14) u37.2.2, wI 40 ct bp ap20, wI 20 ct bc ac21, wI 24 ct bq aq22, wI 7 ct bn an23]) 16 [0, 1, 9, 11, 12, 13, 14, 15] [2, 3, 4, 5, 6, 7, 8, 10] (kL_isLeast l D ct g bp bc bq bn kc v14 y31 x19 ap20 ac21 aq22 an23 r34 (x8 >>> (5 &&& 31)) _ hw) (va_cwS 7 X.1.2.2.2.2 gL_law_L_isLeast rfl rfl rfl (by decide +kernel) ⟨Nat.le_of_ble_eq_true rfl, Nat.le_of_ble_eq_true rfl⟩) dL_law_216 rfl rfl (Nat.le_of_ble_eq_true rfl) ⟨by show _ ≤ 600172; omega, by show _ ≤ 7300668; omega⟩ rfl rfl rfl (by decide) (fun _ => rfl) (fun _ => lq16_0_1_9_11_12_13_14_15) (fun _ => rfl) (fun _ => rfl) (fun r36 u37 hw => ?_)
          obtain ⟨v38, hv38⟩ : ∃ z : Mem, z = u37.1 := ⟨_, rfl⟩
          rw [← hv38] at hw
          rw [← hv38]
          obtain ⟨y39, hy39⟩ : ∃ z : Mem, z = u37.2.1 := ⟨_, rfl⟩
          rw [← hy39] at hw
          rw [← hy39]
          obtain ⟨x40, hx40⟩ : ∃ z : Mem, z = u37.2.2 := ⟨_, rfl⟩
          rw [← hx40] at hw
          rw [← hx40]
          refine g_if_eq X 226 dL_law_219 (by decide) (fun c41 => ?_) (fun c41 => ?_)
          · replace hw := hw.1 c41
            refine g_iconst (v := 0) X rfl dL_law_226 ?_
            refine g_istore X [(6, .int 0), (0, .ref sb), (1, .ref (g 0 0)), (2, .ref bp), (3, .ref bc), (4, .ref bq), (5, .ref bn), (7, .int x7), (8, .int x8)] dL_law_227 (by decide) rfl ?_
            refine g_iinc X [(7, .int (x7 + 1)), (6, .int 0), (0, .ref sb), (1, .ref (g 0 0)), (2, .ref bp), (3, .ref bc), (4, .ref bq), (5, .ref bn), (8, .int x8)] 7 dL_law_229 rfl rfl (by decide) rfl ?_
            refine g_goto X 83 dL_law_232 (by decide) ?_
            refine g_sub [(0, .ref sb), (1, .ref (g 0 0)), (2, .ref bp), (3, .ref bc), (4, .ref bq), (5, .ref bn), (6, .int 0), (7, .int (x7 + 1))] [2, 3, 4, 5, 6, 7, 1, 0] rfl ?_
            refine g_wide (k2 := kq + 3) (j2 := jq + 72) (by omega) (by omega) ?_
            exact hK83 _ _ _ _ _ _ _ _ _ _ _ _ _ hw
          · replace hw := hw.2 c41
            refine g_iconst (v := 1) X rfl dL_law_222 ?_
            refine g_goto X 227 dL_law_223 (by decide) ?_
            refine g_istore X [(6, .int 1), (0, .ref sb), (1, .ref (g 0 0)), (2, .ref bp), (3, .ref bc), (4, .ref bq), (5, .ref bn), (7, .int x7), (8, .int x8)] dL_law_227 (by decide) rfl ?_
            refine g_iinc X [(7, .int (x7 + 1)), (6, .int 1), (0, .ref sb), (1, .ref (g 0 0)), (2, .ref bp), (3, .ref bc), (4, .ref bq), (5, .ref bn), (8, .int x8)] 7 dL_law_229 rfl rfl (by decide) rfl ?_
            refine g_goto X 83 dL_law_232 (by decide) ?_
            refine g_sub [(0, .ref sb), (1, .ref (g 0 0)), (2, .ref bp), (3, .ref bc), (4, .ref bq), (5, .ref bn), (6, .int 1), (7, .int (x7 + 1))] [2, 3, 4, 5, 6, 7, 1, 0] rfl ?_
            refine g_wide (k2 := kq + 3) (j2 := jq + 72) (by omega) (by omega) ?_
            exact hK83 _ _ _ _ _ _ _ _ _ _ _ _ _ hw

set_option maxHeartbeats 20000000 in
set_option maxRecDepth 20000 in
theorem kL_law_130 {p : Program} {l : Launch} {e : Env} {s : State} {m : MethodId} {args : Array Value} {below : List Frame} {meth : Method} {c : Code} {D : va_G} {ct : Nat → ClassId} {A : Nat → Prop} {Q : State → Prop} {sb L : Nat} {xs : Nat → Int32} {g : Nat → Nat → Nat} {bp bc bq bn : Nat} (hX : va_X sb L xs s s.heap) (hbl : sb < s.heap.size) (hbA : ¬ A sb) (hend : ∀ (k j : Nat) (w : va_W) (lv : List (Nat × Value)), k ≤ 600172 → j ≤ 7300668 → GG p l e room_1 s m args below meth c D A s.heap 9 Q (w) (k) (j) lv 237 [.int 1]) (X : Cx p s m args meth c cL_law 9 RL wsL_law D (tyz ct) A s.heap ret) {kq jq : Nat} (hkq : kq + 3 ≤ 600172) (hjq : jq + 72 ≤ 7300668) {K83 : Mem → Mem → Mem → (Nat → Mem) → Mem → Mem → Mem → Mem → Mem → Mem → Mem → Int32 → Int32 → Prop} (hK83 : ∀ (kc : Mem) (v : Mem) (b : Mem) (r : Nat → Mem) (y : Mem) (o : Mem) (x : Mem) (ap : Mem) (ac : Mem) (aq : Mem) (an : Mem) (x6 : Int32) (x7 : Int32), K83 kc v b r y o x ap ac aq an x6 x7 → GG p l e room_1 s m args below meth c D A s.heap 9 Q (fl [wC ct g kc, wS ct (g 1) v, wV ct g b, wS ct (g 5) (r 0), wS ct (g 6) (r 1), wS ct (g 7) (r 2), wS ct (g 8) (r 3), wS ct (g 9) (r 4), wS ct (g 10) (r 5), wL ct (g 12) y, wO ct (g 13) o, wR ct (g 14) x, wI 40 ct bp ap, wI 20 ct bc ac, wI 24 ct bq aq, wI 7 ct bn an]) (kq + 3) (jq + 72) [(0, .ref sb), (1, .ref (g 0 0)), (2, .ref bp), (3, .ref bc), (4, .ref bq), (5, .ref bn), (6, .int x6), (7, .int x7)] 83 []) :
    ∀ (kc : Mem) (v : Mem) (b : Mem) (r : Nat → Mem) (y : Mem) (o : Mem) (x : Mem) (ap : Mem) (ac : Mem) (aq : Mem) (an : Mem) (x7 : Int32) (x8 : Int32) (z0 : Int32), PL_law_130 xs L K83 kc v b r y o x ap ac aq an x7 x8 z0 → GG p l e room_1 s m args below meth c D A s.heap 9 Q (fl [wC ct g kc, wS ct (g 1) v, wV ct g b, wS ct (g 5) (r 0), wS ct (g 6) (r 1), wS ct (g 7) (r 2), wS ct (g 8) (r 3), wS ct (g 9) (r 4), wS ct (g 10) (r 5), wL ct (g 12) y, wO ct (g 13) o, wR ct (g 14) x, wI 40 ct bp ap, wI 20 ct bc ac, wI 24 ct bq aq, wI 7 ct bn an]) (kq) (jq) [(0, .ref sb), (1, .ref (g 0 0)), (2, .ref bp), (3, .ref bc), (4, .ref bq), (5, .ref bn), (7, .int x7), (8, .int x8)] 130 [.int z0, .ref bn, .ref bq, .ref bc, .ref bp, .ref (g 0 0)] := by
  intro kc v b r y o x ap ac aq an x7 x8 z0 hw
  unfold PL_law_130 at hw
  refine g_iload X 6 dL_law_130 rfl ?_
  refine g_iconst (v := 5) X rfl dL_law_132 ?_
  refine g_icmp_ge X 154 dL_law_133 (by decide) (fun c11 => ?_) (fun c11 => ?_)
  · replace hw := hw.1 c11
    refine g_iload X 7 dL_law_154 rfl ?_
    refine g_sub [(0, .ref sb), (1, .ref (g 0 0)), (2, .ref bp), (3, .ref bc), (4, .ref bq), (5, .ref bn), (7, .int x7), (8, .int x8)] [0, 1, 2, 3, 4, 5, 6, 7] rfl ?_
    exact kL_law_156 hX hbl hbA hend X hkq hjq hK83 _ _ _ _ _ _ _ _ _ _ _ _ _ _ _ hw
  · replace hw := hw.2 c11
    refine g_iload X 7 dL_law_136 rfl ?_
    refine g_bipush (v := (-4)) X rfl dL_law_138 ?_
    refine g_iand X dL_law_140 ?_
    refine g_iload X 7 dL_law_141 rfl ?_
    refine g_bipush (v := 8) X rfl dL_law_143 ?_
    refine g_ishr X dL_law_145 ?_
    refine g_iconst (v := 2) X rfl dL_law_146 ?_
    refine g_ciS X [wC ct g kc, wS ct (g 1) v, wV ct g b, wS ct (g 5) (r 0), wS ct (g 6) (r 1), wS ct (g 7) (r 2), wS ct (g 8) (r 3), wS ct (g 9) (r 4), wS ct (g 10) (r 5), wL ct (g 12) y, wO ct (g 13) o, wR ct (g 14) x, wI 40 ct bp ap, wI 20 ct bc ac, wI 24 ct bq aq, wI 7 ct bn an] (fun (_ : Unit) => [wC ct g kc, wS ct (g 1) v, wV ct g b, wS ct (g 5) (r 0), wS ct (g 6) (r 1), wS ct (g 7) (r 2), wS ct (g 8) (r 3), wS ct (g 9) (r 4), wS ct (g 10) (r 5), wL ct (g 12) y, wO ct (g 13) o, wR ct (g 14) x, wI 40 ct bp ap, wI 20 ct bc ac, wI 24 ct bq aq, wI 7 ct bn an]) (fun _ => fl [wC ct g kc, wS ct (g 1) v, wV ct g b, wS ct (g 5) (r 0), wS ct (g 6) (r 1), wS ct (g 7) (r 2), wS ct (g 8) (r 3), wS ct (g 9) (r 4), wS ct (g 10) (r 5), wL ct (g 12) y, wO ct (g 13) o, wR ct (g 14) x, wI 40 ct bp ap, wI 20 ct bc ac, wI 24 ct bq aq, wI 7 ct bn an]) 16 [] [0, 1, 2, 3, 4, 5, 6, 7, 8, 9, 10, 11, 12, 13, 14, 15] (kL_low l D ct  (x8 >>> (8 &&& 31)) 2 _ hw) (va_cwS 2 X.1.2.2.2.2 gL_law_L_low rfl rfl rfl (by decide +kernel) ⟨Nat.le_of_ble_eq_true rfl, Nat.le_of_ble_eq_true rfl⟩) dL_law_147 rfl rfl (Nat.le_of_ble_eq_true rfl) ⟨by show _ ≤ 600172; omega, by show _ ≤ 7300668; omega⟩ rfl rfl rfl (by decide) (fun _ => rfl) (fun _ => rfl) (fun _ => rfl) (fun _ => rfl) (fun r42 _ hw => ?_)
    refine g_ior X dL_law_150 ?_
    refine g_goto X 156 dL_law_151 (by decide) ?_
    refine g_sub [(0, .ref sb), (1, .ref (g 0 0)), (2, .ref bp), (3, .ref bc), (4, .ref bq), (5, .ref bn), (7, .int x7), (8, .int x8)] [0, 1, 2, 3, 4, 5, 6, 7] rfl ?_
    exact kL_law_156 hX hbl hbA hend X hkq hjq hK83 _ _ _ _ _ _ _ _ _ _ _ _ _ _ _ hw

set_option maxHeartbeats 20000000 in
set_option maxRecDepth 20000 in
theorem kL_law_83 {p : Program} {l : Launch} {e : Env} {s : State} {m : MethodId} {args : Array Value} {below : List Frame} {meth : Method} {c : Code} {D : va_G} {ct : Nat → ClassId} {A : Nat → Prop} {Q : State → Prop} {sb L : Nat} {xs : Nat → Int32} {g : Nat → Nat → Nat} {bp bc bq bn : Nat} (hX : va_X sb L xs s s.heap) (hbl : sb < s.heap.size) (hbA : ¬ A sb) (hend : ∀ (k j : Nat) (w : va_W) (lv : List (Nat × Value)), k ≤ 600172 → j ≤ 7300668 → GG p l e room_1 s m args below meth c D A s.heap 9 Q (w) (k) (j) lv 237 [.int 1]) (X : Cx p s m args meth c cL_law 9 RL wsL_law D (tyz ct) A s.heap ret) :
    ∀ n : Nat, n ≤ 41 → ∀ (kc : Mem) (v : Mem) (b : Mem) (r : Nat → Mem) (y : Mem) (o : Mem) (x : Mem) (ap : Mem) (ac : Mem) (aq : Mem) (an : Mem) (x6 : Int32) (x7 : Int32), PL_law_83 xs L n kc v b r y o x ap ac aq an x6 x7 → GG p l e room_1 s m args below meth c D A s.heap 9 Q (fl [wC ct g kc, wS ct (g 1) v, wV ct g b, wS ct (g 5) (r 0), wS ct (g 6) (r 1), wS ct (g 7) (r 2), wS ct (g 8) (r 3), wS ct (g 9) (r 4), wS ct (g 10) (r 5), wL ct (g 12) y, wO ct (g 13) o, wR ct (g 14) x, wI 40 ct bp ap, wI 20 ct bc ac, wI 24 ct bq aq, wI 7 ct bn an]) (106 + 3 * (41 - n)) (1406 + 72 * (41 - n)) [(0, .ref sb), (1, .ref (g 0 0)), (2, .ref bp), (3, .ref bc), (4, .ref bq), (5, .ref bn), (6, .int x6), (7, .int x7)] 83 [] := by
  intro n
  induction n with
  | zero =>
    intro _ kc v b r y o x ap ac aq an x6 x7 hw
    exact hw.elim
  | succ n ih =>
    intro hn9 kc v b r y o x ap ac aq an x6 x7 hw
    unfold PL_law_83 at hw
    obtain ⟨kq, hk9⟩ : ∃ z, z = 106 + 3 * (41 - (n + 1)) := ⟨_, rfl⟩
    obtain ⟨jq, hj9⟩ : ∃ z, z = 1406 + 72 * (41 - (n + 1)) := ⟨_, rfl⟩
    rw [← hk9, ← hj9]
    have hkq : kq + 3 ≤ 600172 := by omega
    have hjq : jq + 72 ≤ 7300668 := by omega
    have hK83 : ∀ (kc : Mem) (v : Mem) (b : Mem) (r : Nat → Mem) (y : Mem) (o : Mem) (x : Mem) (ap : Mem) (ac : Mem) (aq : Mem) (an : Mem) (x6 : Int32) (x7 : Int32), PL_law_83 xs L n kc v b r y o x ap ac aq an x6 x7 → GG p l e room_1 s m args below meth c D A s.heap 9 Q (fl [wC ct g kc, wS ct (g 1) v, wV ct g b, wS ct (g 5) (r 0), wS ct (g 6) (r 1), wS ct (g 7) (r 2), wS ct (g 8) (r 3), wS ct (g 9) (r 4), wS ct (g 10) (r 5), wL ct (g 12) y, wO ct (g 13) o, wR ct (g 14) x, wI 40 ct bp ap, wI 20 ct bc ac, wI 24 ct bq aq, wI 7 ct bn an]) (kq + 3) (jq + 72) [(0, .ref sb), (1, .ref (g 0 0)), (2, .ref bp), (3, .ref bc), (4, .ref bq), (5, .ref bn), (6, .int x6), (7, .int x7)] 83 [] := by
      intro kc v b r y o x ap ac aq an x6 x7 hw
      have h9 := ih (by omega) kc v b r y o x ap ac aq an x6 x7 hw
      rw [show 106 + 3 * (41 - n) = kq + 3 by omega, show 1406 + 72 * (41 - n) = jq + 72 by omega] at h9
      exact h9
    refine g_iload X 7 dL_law_83 rfl ?_
    refine g_bipush (v := 40) X rfl dL_law_85 ?_
    refine g_icmp_ge X 235 dL_law_87 (by decide) (fun c5 => ?_) (fun c5 => ?_)
    · replace hw := hw.1 c5
      refine g_iload X 6 dL_law_235 rfl ?_
      rw [hw]
      exact hend _ _ _ _ (by omega) (by omega)
    · replace hw := hw.2 c5
      refine g_iload X 6 dL_law_90 rfl ?_
      refine g_if_eq X 235 dL_law_92 (by decide) (fun c6 => ?_) (fun c6 => ?_)
      · replace hw := hw.1 c6
        refine g_iload X 6 dL_law_235 rfl ?_
        rw [hw]
        exact hend _ _ _ _ (by omega) (by omega)
      · replace hw := hw.2 c6
        refine g_aload_n X 0 dL_law_95 rfl rfl ?_
        refine g_iload X 7 dL_law_96 rfl ?_
        refine g_ccS X hX hbl hbA (kL_cell l D ct sb L xs x7 _ hw) (va_cwS 2 X.1.2.2.2.2 gL_law_L_cell rfl rfl rfl (by decide +kernel) ⟨(Nat.le_of_ble_eq_true rfl), (Nat.le_of_ble_eq_true rfl)⟩) dL_law_98 rfl rfl (Nat.le_of_ble_eq_true rfl) ⟨by show _ ≤ 600172; omega, by show _ ≤ 7300668; omega⟩ (fun r7 hw => ?_)
        refine g_istore X [(8, .int r7), (0, .ref sb), (1, .ref (g 0 0)), (2, .ref bp), (3, .ref bc), (4, .ref bq), (5, .ref bn), (6, .int x6), (7, .int x7)] dL_law_101 (by decide) rfl ?_
        refine g_aload_n X 2 dL_law_103 rfl rfl ?_
        refine g_aload_n X 3 dL_law_104 rfl rfl ?_
        refine g_aload_n X 4 dL_law_105 rfl rfl ?_
        refine g_aload X 5 dL_law_106 rfl ?_
        refine g_aload X 6 dL_law_108 rfl ?_
        refine g_iload X 8 dL_law_110 rfl ?_
        refine g_iconst (v := 5) X rfl dL_law_112 ?_
        refine g_icmp_ge X 120 dL_law_113 (by decide) (fun c8 => ?_) (fun c8 => ?_)
        · replace hw := hw.1 c8
          refine g_iload X 0 dL_law_120 rfl ?_
          refine g_bipush (v := 18) X rfl dL_law_122 ?_
          refine g_ishr X dL_law_124 ?_
          refine g_bipush (v := 14) X rfl dL_law_125 ?_
          refine g_ciS X [wC ct g kc, wS ct (g 1) v, wV ct g b, wS ct (g 5) (r 0), wS ct (g 6) (r 1), wS ct (g 7) (r 2), wS ct (g 8) (r 3), wS ct (g 9) (r 4), wS ct (g 10) (r 5), wL ct (g 12) y, wO ct (g 13) o, wR ct (g 14) x, wI 40 ct bp ap, wI 20 ct bc ac, wI 24 ct bq aq, wI 7 ct bn an] (fun (_ : Unit) => [wC ct g kc, wS ct (g 1) v, wV ct g b, wS ct (g 5) (r 0), wS ct (g 6) (r 1), wS ct (g 7) (r 2), wS ct (g 8) (r 3), wS ct (g 9) (r 4), wS ct (g 10) (r 5), wL ct (g 12) y, wO ct (g 13) o, wR ct (g 14) x, wI 40 ct bp ap, wI 20 ct bc ac, wI 24 ct bq aq, wI 7 ct bn an]) (fun _ => fl [wC ct g kc, wS ct (g 1) v, wV ct g b, wS ct (g 5) (r 0), wS ct (g 6) (r 1), wS ct (g 7) (r 2), wS ct (g 8) (r 3), wS ct (g 9) (r 4), wS ct (g 10) (r 5), wL ct (g 12) y, wO ct (g 13) o, wR ct (g 14) x, wI 40 ct bp ap, wI 20 ct bc ac, wI 24 ct bq aq, wI 7 ct bn an]) 16 [] [0, 1, 2, 3, 4, 5, 6, 7, 8, 9, 10, 11, 12, 13, 14, 15] (kL_low l D ct  (r7 >>> (18 &&& 31)) 14 _ hw) (va_cwS 2 X.1.2.2.2.2 gL_law_L_low rfl rfl rfl (by decide +kernel) ⟨Nat.le_of_ble_eq_true rfl, Nat.le_of_ble_eq_true rfl⟩) dL_law_127 rfl rfl (Nat.le_of_ble_eq_true rfl) ⟨by show _ ≤ 600172; omega, by show _ ≤ 7300668; omega⟩ rfl rfl rfl (by decide) (fun _ => rfl) (fun _ => rfl) (fun _ => rfl) (fun _ => rfl) (fun r9 _ hw => ?_)
          refine g_sub [(0, .ref sb), (1, .ref (g 0 0)), (2, .ref bp), (3, .ref bc), (4, .ref bq), (5, .ref bn), (7, .int x7), (8, .int r7)] [1, 2, 3, 4, 5, 6, 8, 0] rfl ?_
          exact kL_law_130 hX hbl hbA hend X hkq hjq hK83 _ _ _ _ _ _ _ _ _ _ _ _ _ _ hw
        · replace hw := hw.2 c8
          refine g_iconst (v := 0) X rfl dL_law_116 ?_
          refine g_goto X 130 dL_law_117 (by decide) ?_
          refine g_sub [(0, .ref sb), (1, .ref (g 0 0)), (2, .ref bp), (3, .ref bc), (4, .ref bq), (5, .ref bn), (7, .int x7), (8, .int r7)] [1, 2, 3, 4, 5, 6, 8, 0] rfl ?_
          exact kL_law_130 hX hbl hbA hend X hkq hjq hK83 _ _ _ _ _ _ _ _ _ _ _ _ _ _ hw

set_option maxHeartbeats 20000000 in
set_option maxRecDepth 20000 in
theorem kL_law_30 {p : Program} {l : Launch} {e : Env} {s : State} {m : MethodId} {args : Array Value} {below : List Frame} {meth : Method} {c : Code} {D : va_G} {ct : Nat → ClassId} {A : Nat → Prop} {Q : State → Prop} {sb L : Nat} {xs : Nat → Int32} {g : Nat → Nat → Nat} {bp bc bq bn : Nat} (hX : va_X sb L xs s s.heap) (hbl : sb < s.heap.size) (hbA : ¬ A sb) (hend : ∀ (k j : Nat) (w : va_W) (lv : List (Nat × Value)), k ≤ 600172 → j ≤ 7300668 → GG p l e room_1 s m args below meth c D A s.heap 9 Q (w) (k) (j) lv 237 [.int 1]) (X : Cx p s m args meth c cL_law 9 RL wsL_law D (tyz ct) A s.heap ret) (kc : Mem) (v : Mem) (b : Mem) (r : Nat → Mem) (y : Mem) (o : Mem) (x : Mem) (ap : Mem) (ac : Mem) (aq : Mem) (an : Mem) (hw : PL_law_30 xs L kc v b r y o x ap ac aq an) : GG p l e room_1 s m args below meth c D A s.heap 9 Q (fl [wC ct g kc, wS ct (g 1) v, wV ct g b, wS ct (g 5) (r 0), wS ct (g 6) (r 1), wS ct (g 7) (r 2), wS ct (g 8) (r 3), wS ct (g 9) (r 4), wS ct (g 10) (r 5), wL ct (g 12) y, wO ct (g 13) o, wR ct (g 14) x, wI 40 ct bp ap, wI 20 ct bc ac, wI 24 ct bq aq, wI 7 ct bn an]) (106) (1406) [(0, .ref sb), (1, .ref (g 0 0)), (2, .ref bp), (3, .ref bc), (4, .ref bq), (5, .ref bn)] 30 [] := by
  unfold PL_law_30 at hw
  refine g_aload_n X 1 dL_law_30 rfl rfl ?_
  refine g_aload_n X 2 dL_law_31 rfl rfl ?_
  refine g_aload_n X 3 dL_law_32 rfl rfl ?_
  refine g_aload X 4 dL_law_33 rfl ?_
  refine g_aload X 5 dL_law_35 rfl ?_
  refine g_ciS X [wC ct g kc, wS ct (g 1) v, wV ct g b, wS ct (g 5) (r 0), wS ct (g 6) (r 1), wS ct (g 7) (r 2), wS ct (g 8) (r 3), wS ct (g 9) (r 4), wS ct (g 10) (r 5), wL ct (g 12) y, wO ct (g 13) o, wR ct (g 14) x, wI 40 ct bp ap, wI 20 ct bc ac, wI 24 ct bq aq, wI 7 ct bn an] (fun (u2 : Mem) => [wC ct g kc, wS ct (g 1) v, wV ct g b, wS ct (g 5) (r 0), wS ct (g 6) (r 1), wS ct (g 7) (r 2), wS ct (g 8) (r 3), wS ct (g 9) (r 4), wS ct (g 10) (r 5), wL ct (g 12) u2, wO ct (g 13) o, wR ct (g 14) x, wI 40 ct bp ap, wI 20 ct bc ac, wI 24 ct bq aq, wI 7 ct bn an]) (fun (u2 : Mem) => fl [wC ct g kc, wS ct (g 1) v, wV ct g b, wS ct (g 5) (r 0), wS ct (g 6) (r 1), wS ct (g 7) (r 2), wS ct (g 8) (r 3), wS ct (g 9) (r 4), wS ct (g 10) (r 5), wL ct (g 12) u2, wO ct (g 13) o, wR ct (g 14) x, wI 40 ct bp ap, wI 20 ct bc ac, wI 24 ct bq aq, wI 7 ct bn an]) 16 [0, 1, 2, 9, 12, 13, 14, 15] [3, 4, 5, 6, 7, 8, 10, 11] (kL_arePeople l D ct g bp bc bq bn kc v b y ap ac aq an _ hw) (va_cwS 5 X.1.2.2.2.2 gL_law_L_arePeople rfl rfl rfl (by decide +kernel) ⟨Nat.le_of_ble_eq_true rfl, Nat.le_of_ble_eq_true rfl⟩) dL_law_37 rfl rfl (Nat.le_of_ble_eq_true rfl) ⟨(Nat.le_of_ble_eq_true rfl), (Nat.le_of_ble_eq_true rfl)⟩ rfl rfl rfl (by decide) (fun _ => rfl) (fun _ => lq16_0_1_2_9_12_13_14_15) (fun _ => rfl) (fun _ => rfl) (fun r1 u2 hw => ?_)
  obtain ⟨y3, hy3⟩ : ∃ z : Mem, z = u2 := ⟨_, rfl⟩
  rw [← hy3] at hw
  rw [← hy3]
  refine g_if_eq X 77 dL_law_40 (by decide) (fun c4 => ?_) (fun c4 => ?_)
  · replace hw := hw.1 c4
    refine g_iconst (v := 0) X rfl dL_law_77 ?_
    refine g_istore X [(6, .int 0), (0, .ref sb), (1, .ref (g 0 0)), (2, .ref bp), (3, .ref bc), (4, .ref bq), (5, .ref bn)] dL_law_78 (by decide) rfl ?_
    refine g_iconst (v := 0) X rfl dL_law_80 ?_
    refine g_istore X [(7, .int 0), (6, .int 0), (0, .ref sb), (1, .ref (g 0 0)), (2, .ref bp), (3, .ref bc), (4, .ref bq), (5, .ref bn)] dL_law_81 (by decide) rfl ?_
    refine g_sub [(0, .ref sb), (1, .ref (g 0 0)), (2, .ref bp), (3, .ref bc), (4, .ref bq), (5, .ref bn), (6, .int 0), (7, .int 0)] [2, 3, 4, 5, 6, 7, 1, 0] rfl ?_
    exact kL_law_83 hX hbl hbA hend X 41 (Nat.le_refl _) _ _ _ _ _ _ _ _ _ _ _ _ _ hw
  · replace hw := hw.2 c4
    refine g_aload_n X 1 dL_law_43 rfl rfl ?_
    refine g_aload_n X 2 dL_law_44 rfl rfl ?_
    refine g_aload_n X 3 dL_law_45 rfl rfl ?_
    refine g_aload X 4 dL_law_46 rfl ?_
    refine g_aload X 5 dL_law_48 rfl ?_
    refine g_ciS X [wC ct g kc, wS ct (g 1) v, wV ct g b, wS ct (g 5) (r 0), wS ct (g 6) (r 1), wS ct (g 7) (r 2), wS ct (g 8) (r 3), wS ct (g 9) (r 4), wS ct (g 10) (r 5), wL ct (g 12) y3, wO ct (g 13) o, wR ct (g 14) x, wI 40 ct bp ap, wI 20 ct bc ac, wI 24 ct bq aq, wI 7 ct bn an] (fun (u45 : Mem) => [wC ct g kc, wS ct (g 1) v, wV ct g b, wS ct (g 5) (r 0), wS ct (g 6) (r 1), wS ct (g 7) (r 2), wS ct (g 8) (r 3), wS ct (g 9) (r 4), wS ct (g 10) (r 5), wL ct (g 12) u45, wO ct (g 13) o, wR ct (g 14) x, wI 40 ct bp ap, wI 20 ct bc ac, wI 24 ct bq aq, wI 7 ct bn an]) (fun (u45 : Mem) => fl [wC ct g kc, wS ct (g 1) v, wV ct g b, wS ct (g 5) (r 0), wS ct (g 6) (r 1), wS ct (g 7) (r 2), wS ct (g 8) (r 3), wS ct (g 9) (r 4), wS ct (g 10) (r 5), wL ct (g 12) u45, wO ct (g 13) o, wR ct (g 14) x, wI 40 ct bp ap, wI 20 ct bc ac, wI 24 ct bq aq, wI 7 ct bn an]) 16 [0, 1, 2, 9, 12, 13, 14, 15] [3, 4, 5, 6, 7, 8, 10, 11] (kL_areRows l D ct g bp bc bq bn kc v b y3 ap ac aq an _ hw) (va_cwS 5 X.1.2.2.2.2 gL_law_L_areRows rfl rfl rfl (by decide +kernel) ⟨Nat.le_of_ble_eq_true rfl, Nat.le_of_ble_eq_true rfl⟩) dL_law_50 rfl rfl (Nat.le_of_ble_eq_true rfl) ⟨(Nat.le_of_ble_eq_true rfl), (Nat.le_of_ble_eq_true rfl)⟩ rfl rfl rfl (by decide) (fun _ => rfl) (fun _ => lq16_0_1_2_9_12_13_14_15) (fun _ => rfl) (fun _ => rfl) (fun r44 u45 hw => ?_)
    obtain ⟨y46, hy46⟩ : ∃ z : Mem, z = u45 := ⟨_, rfl⟩
    rw [← hy46] at hw
    rw [← hy46]
    refine g_if_eq X 77 dL_law_53 (by decide) (fun c47 => ?_) (fun c47 => ?_)
    · replace hw := hw.1 c47
      refine g_iconst (v := 0) X rfl dL_law_77 ?_
      refine g_istore X [(6, .int 0), (0, .ref sb), (1, .ref (g 0 0)), (2, .ref bp), (3, .ref bc), (4, .ref bq), (5, .ref bn)] dL_law_78 (by decide) rfl ?_
      refine g_iconst (v := 0) X rfl dL_law_80 ?_
      refine g_istore X [(7, .int 0), (6, .int 0), (0, .ref sb), (1, .ref (g 0 0)), (2, .ref bp), (3, .ref bc), (4, .ref bq), (5, .ref bn)] dL_law_81 (by decide) rfl ?_
      refine g_sub [(0, .ref sb), (1, .ref (g 0 0)), (2, .ref bp), (3, .ref bc), (4, .ref bq), (5, .ref bn), (6, .int 0), (7, .int 0)] [2, 3, 4, 5, 6, 7, 1, 0] rfl ?_
      exact kL_law_83 hX hbl hbA hend X 41 (Nat.le_refl _) _ _ _ _ _ _ _ _ _ _ _ _ _ hw
    · replace hw := hw.2 c47
      refine g_aload_n X 1 dL_law_56 rfl rfl ?_
      refine g_ciV X [wC ct g kc, wS ct (g 1) v, wV ct g b, wS ct (g 5) (r 0), wS ct (g 6) (r 1), wS ct (g 7) (r 2), wS ct (g 8) (r 3), wS ct (g 9) (r 4), wS ct (g 10) (r 5), wL ct (g 12) y46, wO ct (g 13) o, wR ct (g 14) x, wI 40 ct bp ap, wI 20 ct bc ac, wI 24 ct bq aq, wI 7 ct bn an] (fun (u49 : Mem × Mem) => [wC ct g kc, wS ct (g 1) u49.1, wV ct g b, wS ct (g 5) (r 0), wS ct (g 6) (r 1), wS ct (g 7) (r 2), wS ct (g 8) (r 3), wS ct (g 9) (r 4), wS ct (g 10) (r 5), wL ct (g 12) u49.2, wO ct (g 13) o, wR ct (g 14) x, wI 40 ct bp ap, wI 20 ct bc ac, wI 24 ct bq aq, wI 7 ct bn an]) (fun (u49 : Mem × Mem) => fl [wC ct g kc, wS ct (g 1) u49.1, wV ct g b, wS ct (g 5) (r 0), wS ct (g 6) (r 1), wS ct (g 7) (r 2), wS ct (g 8) (r 3), wS ct (g 9) (r 4), wS ct (g 10) (r 5), wL ct (g 12) u49.2, wO ct (g 13) o, wR ct (g 14) x, wI 40 ct bp ap, wI 20 ct bc ac, wI 24 ct bq aq, wI 7 ct bn an]) 16 [0, 1, 9] [2, 3, 4, 5, 6, 7, 8, 10, 11, 12, 13, 14, 15] 0 (kX7_bestSwap l D ct g kc v y46 _ hw) (cwV 0 X.1.2.2.2.2 gL_law_X7_bestSwap rfl rfl rfl (by decide +kernel) ⟨Nat.le_of_ble_eq_true rfl, Nat.le_of_ble_eq_true rfl⟩) dL_law_57 rfl rfl (Nat.le_of_ble_eq_true rfl) ⟨(Nat.le_of_ble_eq_true rfl), (Nat.le_of_ble_eq_true rfl)⟩ rfl rfl rfl (by decide) (fun _ => rfl) (fun _ => lq16_0_1_9) (fun _ => rfl) (fun _ => rfl) rfl rfl rfl (fun r48 u49 hw => ?_)
      obtain ⟨v50, hv50⟩ : ∃ z : Mem, z = u49.1 := ⟨_, rfl⟩
      rw [← hv50] at hw
      rw [← hv50]
      obtain ⟨y51, hy51⟩ : ∃ z : Mem, z = u49.2 := ⟨_, rfl⟩
      rw [← hy51] at hw
      rw [← hy51]
      refine g_iconst (v := (-1)) X rfl dL_law_60 ?_
      refine g_icmp_ne X 77 dL_law_61 (by decide) (fun c52 => ?_) (fun c52 => ?_)
      · replace hw := hw.1 c52
        refine g_iconst (v := 0) X rfl dL_law_77 ?_
        refine g_istore X [(6, .int 0), (0, .ref sb), (1, .ref (g 0 0)), (2, .ref bp), (3, .ref bc), (4, .ref bq), (5, .ref bn)] dL_law_78 (by decide) rfl ?_
        refine g_iconst (v := 0) X rfl dL_law_80 ?_
        refine g_istore X [(7, .int 0), (6, .int 0), (0, .ref sb), (1, .ref (g 0 0)), (2, .ref bp), (3, .ref bc), (4, .ref bq), (5, .ref bn)] dL_law_81 (by decide) rfl ?_
        refine g_sub [(0, .ref sb), (1, .ref (g 0 0)), (2, .ref bp), (3, .ref bc), (4, .ref bq), (5, .ref bn), (6, .int 0), (7, .int 0)] [2, 3, 4, 5, 6, 7, 1, 0] rfl ?_
        exact kL_law_83 hX hbl hbA hend X 41 (Nat.le_refl _) _ _ _ _ _ _ _ _ _ _ _ _ _ hw
      · replace hw := hw.2 c52
        refine g_aload_n X 1 dL_law_64 rfl rfl ?_
        refine g_iconst (v := 3) X rfl dL_law_65 ?_
        refine g_iconst (v := 1) X rfl dL_law_66 ?_
        refine g_ciV X [wC ct g kc, wS ct (g 1) v50, wV ct g b, wS ct (g 5) (r 0), wS ct (g 6) (r 1), wS ct (g 7) (r 2), wS ct (g 8) (r 3), wS ct (g 9) (r 4), wS ct (g 10) (r 5), wL ct (g 12) y51, wO ct (g 13) o, wR ct (g 14) x, wI 40 ct bp ap, wI 20 ct bc ac, wI 24 ct bq aq, wI 7 ct bn an] (fun (u54 : Mem) => [wC ct g kc, wS ct (g 1) v50, wV ct g b, wS ct (g 5) (r 0), wS ct (g 6) (r 1), wS ct (g 7) (r 2), wS ct (g 8) (r 3), wS ct (g 9) (r 4), wS ct (g 10) (r 5), wL ct (g 12) y51, wO ct (g 13) o, wR ct (g 14) u54, wI 40 ct bp ap, wI 20 ct bc ac, wI 24 ct bq aq, wI 7 ct bn an]) (fun (u54 : Mem) => fl [wC ct g kc, wS ct (g 1) v50, wV ct g b, wS ct (g 5) (r 0), wS ct (g 6) (r 1), wS ct (g 7) (r 2), wS ct (g 8) (r 3), wS ct (g 9) (r 4), wS ct (g 10) (r 5), wL ct (g 12) y51, wO ct (g 13) o, wR ct (g 14) u54, wI 40 ct bp ap, wI 20 ct bc ac, wI 24 ct bq aq, wI 7 ct bn an]) 16 [0, 1, 11] [2, 3, 4, 5, 6, 7, 8, 9, 10, 12, 13, 14, 15] 0 (kX7_least_nt l D ct g kc v50 x 3 1 _ hw) (cwV 2 X.1.2.2.2.2 gL_law_X7_least rfl rfl rfl (by decide +kernel) ⟨Nat.le_of_ble_eq_true rfl, Nat.le_of_ble_eq_true rfl⟩) dL_law_67 rfl rfl (Nat.le_of_ble_eq_true rfl) ⟨(Nat.le_of_ble_eq_true rfl), (Nat.le_of_ble_eq_true rfl)⟩ rfl rfl rfl (by decide) (fun _ => rfl) (fun _ => lq16_0_1_11) (fun _ => rfl) (fun _ => rfl) rfl rfl rfl (fun r53 u54 hw => ?_)
        obtain ⟨x55, hx55⟩ : ∃ z : Mem, z = u54 := ⟨_, rfl⟩
        rw [← hx55] at hw
        rw [← hx55]
        refine g_if_ne X 77 dL_law_70 (by decide) (fun c56 => ?_) (fun c56 => ?_)
        · replace hw := hw.1 c56
          refine g_iconst (v := 0) X rfl dL_law_77 ?_
          refine g_istore X [(6, .int 0), (0, .ref sb), (1, .ref (g 0 0)), (2, .ref bp), (3, .ref bc), (4, .ref bq), (5, .ref bn)] dL_law_78 (by decide) rfl ?_
          refine g_iconst (v := 0) X rfl dL_law_80 ?_
          refine g_istore X [(7, .int 0), (6, .int 0), (0, .ref sb), (1, .ref (g 0 0)), (2, .ref bp), (3, .ref bc), (4, .ref bq), (5, .ref bn)] dL_law_81 (by decide) rfl ?_
          refine g_sub [(0, .ref sb), (1, .ref (g 0 0)), (2, .ref bp), (3, .ref bc), (4, .ref bq), (5, .ref bn), (6, .int 0), (7, .int 0)] [2, 3, 4, 5, 6, 7, 1, 0] rfl ?_
          exact kL_law_83 hX hbl hbA hend X 41 (Nat.le_refl _) _ _ _ _ _ _ _ _ _ _ _ _ _ hw
        · replace hw := hw.2 c56
          refine g_iconst (v := 1) X rfl dL_law_73 ?_
          refine g_goto X 78 dL_law_74 (by decide) ?_
          refine g_istore X [(6, .int 1), (0, .ref sb), (1, .ref (g 0 0)), (2, .ref bp), (3, .ref bc), (4, .ref bq), (5, .ref bn)] dL_law_78 (by decide) rfl ?_
          refine g_iconst (v := 0) X rfl dL_law_80 ?_
          refine g_istore X [(7, .int 0), (6, .int 1), (0, .ref sb), (1, .ref (g 0 0)), (2, .ref bp), (3, .ref bc), (4, .ref bq), (5, .ref bn)] dL_law_81 (by decide) rfl ?_
          refine g_sub [(0, .ref sb), (1, .ref (g 0 0)), (2, .ref bp), (3, .ref bc), (4, .ref bq), (5, .ref bn), (6, .int 1), (7, .int 0)] [2, 3, 4, 5, 6, 7, 1, 0] rfl ?_
          exact kL_law_83 hX hbl hbA hend X 41 (Nat.le_refl _) _ _ _ _ _ _ _ _ _ _ _ _ _ hw
