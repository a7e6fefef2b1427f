abbrev rmX4_size : Room := { frames := 0, cells := 0, slots := 0, locals := 0 }

abbrev GX4_size (l : Launch) (D : va_G) (ct : Nat → ClassId) (g : Nat → Nat → Nat) (b : Mem) (post : Int32 → Prop) (p : Program) (e : Env) (s : State) (m : MethodId) (args : Array Value) (below : List Frame) (meth : Method) (c : Code) (A : Nat → Prop) (w9 : va_W) (lv : List (Nat × Value)) (pc : Nat) (st : List Value) : Prop :=
  GG p l e rmX4_size s m args below meth c D A s.heap 1 (MQ below (va_Qi (fun r (_ : Unit) => post r) (fun u9 t9 => Af D (tyz ct) A ((fun _ => wV ct g b) u9) t9) A)  args s 0 0 A) w9 0 0 lv pc st

set_option maxHeartbeats 4000000 in
set_option maxRecDepth 20000 in
theorem kX4_size (l : Launch) (D : va_G) (ct : Nat → ClassId) (g : Nat → Nat → Nat) (b : Mem) (post : Int32 → Prop) (hw : PX4_size b post) : Ci (S := Unit) l yX4_size wsX4_size rmX4_size D (tyz ct) [.ref (g 4 0)] (wV ct g b) (fun r (_ : Unit) => post r) (fun _ => wV ct g b) 0 0 := by
  intro sz
  refine g_of (own := RX4) (by decide) rfl rfl (Nat.le_of_ble_eq_true rfl) [(0, .ref (g 4 0))] rfl (fun p e s m args below meth c hsz X => ?_)
  subst hsz
  unfold PX4_size at hw
  refine g_aload_n X 0 dX4_size_0 rfl rfl ?_
  refine g_get (T := TX4) (C := RX4) (N := 3) (v := .int (b 2 0)) X 0 2 (fun _ h => (List.mem_cons_of_mem _ (List.mem_append_right _ h))) (List.mem_of_getElem? (i := 1) rfl) dX4_size_1 rfl rfl (by decide) rfl rfl ?_
  exact g_iret X () hw rfl (Nat.le_of_ble_eq_true rfl) (Nat.le_of_ble_eq_true rfl) dX4_size_4

abbrev rmX4_push : Room := { frames := 2, cells := 0, slots := 0, locals := 81 }

abbrev GX4_push (l : Launch) (D : va_G) (ct : Nat → ClassId) (g : Nat → Nat → Nat) (a : Nat → Nat) (v : Mem) (post : Mem → (Nat → Mem) → Prop) (p : Program) (e : Env) (s : State) (m : MethodId) (args : Array Value) (below : List Frame) (meth : Method) (c : Code) (A : Nat → Prop) (w9 : va_W) (lv : List (Nat × Value)) (pc : Nat) (st : List Value) : Prop :=
  GG p l e rmX4_push s m args below meth c D A s.heap 2 (MQ below (va_Qv (fun (u9 : Mem × (Nat → Mem)) => post u9.1 u9.2) (fun u9 t9 => Af D (tyz ct) A ((fun u9 => fl [wV ct g u9.1, wS ct (g 5) (u9.2 0), wS ct (g 6) (u9.2 1), wS ct (g 7) (u9.2 2), wS ct (g 8) (u9.2 3), wS ct (g 9) (u9.2 4), wS ct (g 10) (u9.2 5), wS ct a v]) u9) t9) A)  args s 0 0 A) w9 0 0 lv pc st

set_option maxHeartbeats 4000000 in
set_option maxRecDepth 20000 in
theorem kX4_push (l : Launch) (D : va_G) (ct : Nat → ClassId) (g : Nat → Nat → Nat) (a : Nat → Nat) (b : Mem) (r : Nat → Mem) (v : Mem) (post : Mem → (Nat → Mem) → Prop) (hw : PX4_push b r v post) : Cv (S := Mem × (Nat → Mem)) l yX4_push wsX4_push rmX4_push D (tyz ct) [.ref (g 4 0), .ref (a 0)] (fl [wV ct g b, wS ct (g 5) (r 0), wS ct (g 6) (r 1), wS ct (g 7) (r 2), wS ct (g 8) (r 3), wS ct (g 9) (r 4), wS ct (g 10) (r 5), wS ct a v]) (fun (u9 : Mem × (Nat → Mem)) => post u9.1 u9.2) (fun u9 => fl [wV ct g u9.1, wS ct (g 5) (u9.2 0), wS ct (g 6) (u9.2 1), wS ct (g 7) (u9.2 2), wS ct (g 8) (u9.2 3), wS ct (g 9) (u9.2 4), wS ct (g 10) (u9.2 5), wS ct a v]) 0 0 := by
  intro sz
  refine g_of (own := RX4) (by decide) rfl rfl (Nat.le_of_ble_eq_true rfl) [(0, .ref (g 4 0)), (1, .ref (a 0))] rfl (fun p e s m args below meth c hsz X => ?_)
  subst hsz
  unfold PX4_push at hw
  refine g_aload_n X 0 dX4_push_0 rfl rfl ?_
  refine g_get (T := TX4) (C := RX4) (N := 3) (v := .ref (g 4 1)) X 0 0 (fun _ h => (List.mem_cons_of_mem _ (List.mem_append_left _ (List.mem_append_right _ h)))) (List.mem_of_getElem? (i := 1) rfl) dX4_push_1 rfl rfl (by decide) rfl rfl ?_
  refine g_aload_n X 0 dX4_push_4 rfl rfl ?_
  refine g_get (T := TX4) (C := RX4) (N := 3) (v := .int (b 1 0)) X 0 1 (fun _ h => (List.mem_cons_of_mem _ (List.mem_append_left _ (List.mem_append_right _ h)))) (List.mem_of_getElem? (i := 2) rfl) dX4_push_5 rfl rfl (by decide) rfl rfl ?_
  refine g_aload_n X 0 dX4_push_8 rfl rfl ?_
  refine g_get (T := TX4) (C := RX4) (N := 3) (v := .int (b 2 0)) X 0 2 (fun _ h => (List.mem_cons_of_mem _ (List.mem_append_left _ (List.mem_append_right _ h)))) (List.mem_of_getElem? (i := 3) rfl) dX4_push_9 rfl rfl (by decide) rfl rfl ?_
  refine g_iadd X dX4_push_12 ?_
  refine g_bipush (v := 6) X rfl dX4_push_13 ?_
  refine g_irem X (by decide) dX4_push_15 ?_
  obtain ⟨h1, hw⟩ := hw
  rcases vp_c6 h1 with e2 | e2 | e2 | e2 | e2 | e2
  · refine g_aldq (b := g 5 0) X 1 1 dX4_push_16 rfl rfl h1 (by show (if ix (((b 1 0) + (b 2 0)) - ((b 1 0) + (b 2 0)) / 6 * 6) < 6 then some (g (5 + ix (((b 1 0) + (b 2 0)) - ((b 1 0) + (b 2 0)) / 6 * 6)) 0) else none) = _; rw [e2]; rfl) ?_
    refine g_aload_n X 1 dX4_push_17 rfl rfl ?_
    rw [e2] at hw
    refine g_cvV X [wV ct g b, wS ct (g 5) (r 0), wS ct (g 6) (r 1), wS ct (g 7) (r 2), wS ct (g 8) (r 3), wS ct (g 9) (r 4), wS ct (g 10) (r 5), wS ct a v] (fun (u3 : Mem) => [wV ct g b, wS ct (g 5) ((rset r 0 u3) 0), wS ct (g 6) ((rset r 0 u3) 1), wS ct (g 7) ((rset r 0 u3) 2), wS ct (g 8) ((rset r 0 u3) 3), wS ct (g 9) ((rset r 0 u3) 4), wS ct (g 10) ((rset r 0 u3) 5), wS ct a v]) (fun (u3 : Mem) => fl [wV ct g b, wS ct (g 5) ((rset r 0 u3) 0), wS ct (g 6) ((rset r 0 u3) 1), wS ct (g 7) ((rset r 0 u3) 2), wS ct (g 8) ((rset r 0 u3) 3), wS ct (g 9) ((rset r 0 u3) 4), wS ct (g 10) ((rset r 0 u3) 5), wS ct a v]) 8 [1, 7] [0, 2, 3, 4, 5, 6] 0 (kX5_copyFrom l D ct (g 5) a (r 0) v _ hw) (cwV 1 X.1.2.2.2.2 gX4_push_X5_copyFrom rfl rfl rfl (by decide +kernel) ⟨Nat.le_of_ble_eq_true rfl, Nat.le_of_ble_eq_true rfl⟩) dX4_push_18 rfl rfl (Nat.le_of_ble_eq_true rfl) ⟨Nat.le_of_ble_eq_true rfl, Nat.le_of_ble_eq_true rfl⟩ rfl rfl rfl (by decide) (fun _ => rfl) (fun _ => rfl) (fun _ => rfl) (fun _ => rfl) rfl rfl rfl (fun u3 hw => ?_)
    obtain ⟨r5, hr5⟩ : ∃ z : Nat → Mem, z = rset r 0 u3 := ⟨_, rfl⟩
    rw [← hr5]
    replace hw := hw r5 hr5
    refine g_aload_n X 0 dX4_push_21 rfl rfl ?_
    refine g_get (T := TX4) (C := RX4) (N := 3) (v := .int (b 2 0)) X 0 2 (fun _ h => (List.mem_cons_of_mem _ (List.mem_append_left _ (List.mem_append_right _ h)))) (List.mem_of_getElem? (i := 3) rfl) dX4_push_22 rfl rfl (by decide) rfl rfl ?_
    refine g_bipush (v := 6) X rfl dX4_push_25 ?_
    refine g_icmp_ge X 43 dX4_push_27 (by decide) (fun c6 => ?_) (fun c6 => ?_)
    · replace hw := hw.1 c6
      refine g_aload_n X 0 dX4_push_43 rfl rfl ?_
      refine g_aload_n X 0 dX4_push_44 rfl rfl ?_
      refine g_get (T := TX4) (C := RX4) (N := 3) (v := .int (b 1 0)) X 0 1 (fun _ h => (List.mem_cons_of_mem _ (List.mem_append_left _ (List.mem_append_right _ h)))) (List.mem_of_getElem? (i := 2) rfl) dX4_push_45 rfl rfl (by decide) rfl rfl ?_
      refine g_iconst (v := 1) X rfl dX4_push_48 ?_
      refine g_iadd X dX4_push_49 ?_
      refine g_bipush (v := 6) X rfl dX4_push_50 ?_
      refine g_irem X (by decide) dX4_push_52 ?_
      refine g_put (T := TX4) (C := RX4) (N := 3) X (fun z => fl [wV ct g z, wS ct (g 5) (r5 0), wS ct (g 6) (r5 1), wS ct (g 7) (r5 2), wS ct (g 8) (r5 3), wS ct (g 9) (r5 4), wS ct (g 10) (r5 5), wS ct a v]) b 0 1 tyX4 tyX4_ok nmX4 (fun _ h => (List.mem_cons_of_mem _ (List.mem_append_left _ (List.mem_append_right _ h)))) (List.mem_of_getElem? (i := 2) rfl) dX4_push_53 rfl rfl (by decide) rfl rfl (by decide +kernel) (Nat.le_of_ble_eq_true rfl) rfl (fun b7 hb7 => ?_)
      replace hw := hw b7 hb7
      exact g_vret X (b7, r5) hw rfl (Nat.le_of_ble_eq_true rfl) (Nat.le_of_ble_eq_true rfl) dX4_push_56
    · replace hw := hw.2 c6
      refine g_aload_n X 0 dX4_push_30 rfl rfl ?_
      refine g_dup X dX4_push_31 rfl ?_
      refine g_get (T := TX4) (C := RX4) (N := 3) (v := .int (b 2 0)) X 0 2 (fun _ h => (List.mem_cons_of_mem _ (List.mem_append_left _ (List.mem_append_right _ h)))) (List.mem_of_getElem? (i := 3) rfl) dX4_push_32 rfl rfl (by decide) rfl rfl ?_
      refine g_iconst (v := 1) X rfl dX4_push_35 ?_
      refine g_iadd X dX4_push_36 ?_
      refine g_put (T := TX4) (C := RX4) (N := 3) X (fun z => fl [wV ct g z, wS ct (g 5) (r5 0), wS ct (g 6) (r5 1), wS ct (g 7) (r5 2), wS ct (g 8) (r5 3), wS ct (g 9) (r5 4), wS ct (g 10) (r5 5), wS ct a v]) b 0 2 tyX4 tyX4_ok nmX4 (fun _ h => (List.mem_cons_of_mem _ (List.mem_append_left _ (List.mem_append_right _ h)))) (List.mem_of_getElem? (i := 3) rfl) dX4_push_37 rfl rfl (by decide) rfl rfl (by decide +kernel) (Nat.le_of_ble_eq_true rfl) rfl (fun b8 hb8 => ?_)
      replace hw := hw b8 hb8
      refine g_goto X 56 dX4_push_40 (by decide) ?_
      exact g_vret X (b8, r5) hw rfl (Nat.le_of_ble_eq_true rfl) (Nat.le_of_ble_eq_true rfl) dX4_push_56
  · refine g_aldq (b := g 6 0) X 1 1 dX4_push_16 rfl rfl h1 (by show (if ix (((b 1 0) + (b 2 0)) - ((b 1 0) + (b 2 0)) / 6 * 6) < 6 then some (g (5 + ix (((b 1 0) + (b 2 0)) - ((b 1 0) + (b 2 0)) / 6 * 6)) 0) else none) = _; rw [e2]; rfl) ?_
    refine g_aload_n X 1 dX4_push_17 rfl rfl ?_
    rw [e2] at hw
    refine g_cvV X [wV ct g b, wS ct (g 5) (r 0), wS ct (g 6) (r 1), wS ct (g 7) (r 2), wS ct (g 8) (r 3), wS ct (g 9) (r 4), wS ct (g 10) (r 5), wS ct a v] (fun (u9 : Mem) => [wV ct g b, wS ct (g 5) ((rset r 1 u9) 0), wS ct (g 6) ((rset r 1 u9) 1), wS ct (g 7) ((rset r 1 u9) 2), wS ct (g 8) ((rset r 1 u9) 3), wS ct (g 9) ((rset r 1 u9) 4), wS ct (g 10) ((rset r 1 u9) 5), wS ct a v]) (fun (u9 : Mem) => fl [wV ct g b, wS ct (g 5) ((rset r 1 u9) 0), wS ct (g 6) ((rset r 1 u9) 1), wS ct (g 7) ((rset r 1 u9) 2), wS ct (g 8) ((rset r 1 u9) 3), wS ct (g 9) ((rset r 1 u9) 4), wS ct (g 10) ((rset r 1 u9) 5), wS ct a v]) 8 [2, 7] [0, 1, 3, 4, 5, 6] 0 (kX5_copyFrom l D ct (g 6) a (r 1) v _ hw) (cwV 1 X.1.2.2.2.2 gX4_push_X5_copyFrom rfl rfl rfl (by decide +kernel) ⟨Nat.le_of_ble_eq_true rfl, Nat.le_of_ble_eq_true rfl⟩) dX4_push_18 rfl rfl (Nat.le_of_ble_eq_true rfl) ⟨Nat.le_of_ble_eq_true rfl, Nat.le_of_ble_eq_true rfl⟩ rfl rfl rfl (by decide) (fun _ => rfl) (fun _ => rfl) (fun _ => rfl) (fun _ => rfl) rfl rfl rfl (fun u9 hw => ?_)
    obtain ⟨r11, hr11⟩ : ∃ z : Nat → Mem, z = rset r 1 u9 := ⟨_, rfl⟩
    rw [← hr11]
    replace hw := hw r11 hr11
    refine g_aload_n X 0 dX4_push_21 rfl rfl ?_
    refine g_get (T := TX4) (C := RX4) (N := 3) (v := .int (b 2 0)) X 0 2 (fun _ h => (List.mem_cons_of_mem _ (List.mem_append_left _ (List.mem_append_right _ h)))) (List.mem_of_getElem? (i := 3) rfl) dX4_push_22 rfl rfl (by decide) rfl rfl ?_
    refine g_bipush (v := 6) X rfl dX4_push_25 ?_
    refine g_icmp_ge X 43 dX4_push_27 (by decide) (fun c12 => ?_) (fun c12 => ?_)
    · replace hw := hw.1 c12
      refine g_aload_n X 0 dX4_push_43 rfl rfl ?_
      refine g_aload_n X 0 dX4_push_44 rfl rfl ?_
      refine g_get (T := TX4) (C := RX4) (N := 3) (v := .int (b 1 0)) X 0 1 (fun _ h => (List.mem_cons_of_mem _ (List.mem_append_left _ (List.mem_append_right _ h)))) (List.mem_of_getElem? (i := 2) rfl) dX4_push_45 rfl rfl (by decide) rfl rfl ?_
      refine g_iconst (v := 1) X rfl dX4_push_48 ?_
      refine g_iadd X dX4_push_49 ?_
      refine g_bipush (v := 6) X rfl dX4_push_50 ?_
      refine g_irem X (by decide) dX4_push_52 ?_
      refine g_put (T := TX4) (C := RX4) (N := 3) X (fun z => fl [wV ct g z, wS ct (g 5) (r11 0), wS ct (g 6) (r11 1), wS ct (g 7) (r11 2), wS ct (g 8) (r11 3), wS ct (g 9) (r11 4), wS ct (g 10) (r11 5), wS ct a v]) b 0 1 tyX4 tyX4_ok nmX4 (fun _ h => (List.mem_cons_of_mem _ (List.mem_append_left _ (List.mem_append_right _ h)))) (List.mem_of_getElem? (i := 2) rfl) dX4_push_53 rfl rfl (by decide) rfl rfl (by decide +kernel) (Nat.le_of_ble_eq_true rfl) rfl (fun b13 hb13 => ?_)
      replace hw := hw b13 hb13
      exact g_vret X (b13, r11) hw rfl (Nat.le_of_ble_eq_true rfl) (Nat.le_of_ble_eq_true rfl) dX4_push_56
    · replace hw := hw.2 c12
      refine g_aload_n X 0 dX4_push_30 rfl rfl ?_
      refine g_dup X dX4_push_31 rfl ?_
      refine g_get (T := TX4) (C := RX4) (N := 3) (v := .int (b 2 0)) X 0 2 (fun _ h => (List.mem_cons_of_mem _ (List.mem_append_left _ (List.mem_append_right _ h)))) (List.mem_of_getElem? (i := 3) rfl) dX4_push_32 rfl rfl (by decide) rfl rfl ?_
      refine g_iconst (v := 1) X rfl dX4_push_35 ?_
      refine g_iadd X dX4_push_36 ?_
      refine g_put (T := TX4) (C := RX4) (N := 3) X (fun z => fl [wV ct g z, wS ct (g 5) (r11 0), wS ct (g 6) (r11 1), wS ct (g 7) (r11 2), wS ct (g 8) (r11 3), wS ct (g 9) (r11 4), wS ct (g 10) (r11 5), wS ct a v]) b 0 2 tyX4 tyX4_ok nmX4 (fun _ h => (List.mem_cons_of_mem _ (List.mem_append_left _ (List.mem_append_right _ h)))) (List.mem_of_getElem? (i := 3) rfl) dX4_push_37 rfl rfl (by decide) rfl rfl (by decide +kernel) (Nat.le_of_ble_eq_true rfl) rfl (fun b14 hb14 => ?_)
      replace hw := hw b14 hb14
      refine g_goto X 56 dX4_push_40 (by decide) ?_
      exact g_vret X (b14, r11) hw rfl (Nat.le_of_ble_eq_true rfl) (Nat.le_of_ble_eq_true rfl) dX4_push_56
  · refine g_aldq (b := g 7 0) X 1 1 dX4_push_16 rfl rfl h1 (by show (if ix (((b 1 0) + (b 2 0)) - ((b 1 0) + (b 2 0)) / 6 * 6) < 6 then some (g (5 + ix (((b 1 0) + (b 2 0)) - ((b 1 0) + (b 2 0)) / 6 * 6)) 0) else none) = _; rw [e2]; rfl) ?_
    refine g_aload_n X 1 dX4_push_17 rfl rfl ?_
    rw [e2] at hw
    refine g_cvV X [wV ct g b, wS ct (g 5) (r 0), wS ct (g 6) (r 1), wS ct (g 7) (r 2), wS ct (g 8) (r 3), wS ct (g 9) (r 4), wS ct (g 10) (r 5), wS ct a v] (fun (u15 : Mem) => [wV ct g b, wS ct (g 5) ((rset r 2 u15) 0), wS ct (g 6) ((rset r 2 u15) 1), wS ct (g 7) ((rset r 2 u15) 2), wS ct (g 8) ((rset r 2 u15) 3), wS ct (g 9) ((rset r 2 u15) 4), wS ct (g 10) ((rset r 2 u15) 5), wS ct a v]) (fun (u15 : Mem) => fl [wV ct g b, wS ct (g 5) ((rset r 2 u15) 0), wS ct (g 6) ((rset r 2 u15) 1), wS ct (g 7) ((rset r 2 u15) 2), wS ct (g 8) ((rset r 2 u15) 3), wS ct (g 9) ((rset r 2 u15) 4), wS ct (g 10) ((rset r 2 u15) 5), wS ct a v]) 8 [3, 7] [0, 1, 2, 4, 5, 6] 0 (kX5_copyFrom l D ct (g 7) a (r 2) v _ hw) (cwV 1 X.1.2.2.2.2 gX4_push_X5_copyFrom rfl rfl rfl (by decide +kernel) ⟨Nat.le_of_ble_eq_true rfl, Nat.le_of_ble_eq_true rfl⟩) dX4_push_18 rfl rfl (Nat.le_of_ble_eq_true rfl) ⟨Nat.le_of_ble_eq_true rfl, Nat.le_of_ble_eq_true rfl⟩ rfl rfl rfl (by decide) (fun _ => rfl) (fun _ => rfl) (fun _ => rfl) (fun _ => rfl) rfl rfl rfl (fun u15 hw => ?_)
    obtain ⟨r17, hr17⟩ : ∃ z : Nat → Mem, z = rset r 2 u15 := ⟨_, rfl⟩
    rw [← hr17]
    replace hw := hw r17 hr17
    refine g_aload_n X 0 dX4_push_21 rfl rfl ?_
    refine g_get (T := TX4) (C := RX4) (N := 3) (v := .int (b 2 0)) X 0 2 (fun _ h => (List.mem_cons_of_mem _ (List.mem_append_left _ (List.mem_append_right _ h)))) (List.mem_of_getElem? (i := 3) rfl) dX4_push_22 rfl rfl (by decide) rfl rfl ?_
    refine g_bipush (v := 6) X rfl dX4_push_25 ?_
    refine g_icmp_ge X 43 dX4_push_27 (by decide) (fun c18 => ?_) (fun c18 => ?_)
    · replace hw := hw.1 c18
      refine g_aload_n X 0 dX4_push_43 rfl rfl ?_
      refine g_aload_n X 0 dX4_push_44 rfl rfl ?_
      refine g_get (T := TX4) (C := RX4) (N := 3) (v := .int (b 1 0)) X 0 1 (fun _ h => (List.mem_cons_of_mem _ (List.mem_append_left _ (List.mem_append_right _ h)))) (List.mem_of_getElem? (i := 2) rfl) dX4_push_45 rfl rfl (by decide) rfl rfl ?_
      refine g_iconst (v := 1) X rfl dX4_push_48 ?_
      refine g_iadd X dX4_push_49 ?_
      refine g_bipush (v := 6) X rfl dX4_push_50 ?_
      refine g_irem X (by decide) dX4_push_52 ?_
      refine g_put (T := TX4) (C := RX4) (N := 3) X (fun z => fl [wV ct g z, wS ct (g 5) (r17 0), wS ct (g 6) (r17 1), wS ct (g 7) (r17 2), wS ct (g 8) (r17 3), wS ct (g 9) (r17 4), wS ct (g 10) (r17 5), wS ct a v]) b 0 1 tyX4 tyX4_ok nmX4 (fun _ h => (List.mem_cons_of_mem _ (List.mem_append_left _ (List.mem_append_right _ h)))) (List.mem_of_getElem? (i := 2) rfl) dX4_push_53 rfl rfl (by decide) rfl rfl (by decide +kernel) (Nat.le_of_ble_eq_true rfl) rfl (fun b19 hb19 => ?_)
      replace hw := hw b19 hb19
      exact g_vret X (b19, r17) hw rfl (Nat.le_of_ble_eq_true rfl) (Nat.le_of_ble_eq_true rfl) dX4_push_56
    · replace hw := hw.2 c18
      refine g_aload_n X 0 dX4_push_30 rfl rfl ?_
      refine g_dup X dX4_push_31 rfl ?_
      refine g_get (T := TX4) (C := RX4) (N := 3) (v := .int (b 2 0)) X 0 2 (fun _ h => (List.mem_cons_of_mem _ (List.mem_append_left _ (List.mem_append_right _ h)))) (List.mem_of_getElem? (i := 3) rfl) dX4_push_32 rfl rfl (by decide) rfl rfl ?_
      refine g_iconst (v := 1) X rfl dX4_push_35 ?_
      refine g_iadd X dX4_push_36 ?_
      refine g_put (T := TX4) (C := RX4) (N := 3) X (fun z => fl [wV ct g z, wS ct (g 5) (r17 0), wS ct (g 6) (r17 1), wS ct (g 7) (r17 2), wS ct (g 8) (r17 3), wS ct (g 9) (r17 4), wS ct (g 10) (r17 5), wS ct a v]) b 0 2 tyX4 tyX4_ok nmX4 (fun _ h => (List.mem_cons_of_mem _ (List.mem_append_left _ (List.mem_append_right _ h)))) (List.mem_of_getElem? (i := 3) rfl) dX4_push_37 rfl rfl (by decide) rfl rfl (by decide +kernel) (Nat.le_of_ble_eq_true rfl) rfl (fun b20 hb20 => ?_)
      replace hw := hw b20 hb20
      refine g_goto X 56 dX4_push_40 (by decide) ?_
      exact g_vret X (b20, r17) hw rfl (Nat.le_of_ble_eq_true rfl) (Nat.le_of_ble_eq_true rfl) dX4_push_56
  · refine g_aldq (b := g 8 0) X 1 1 dX4_push_16 rfl rfl h1 (by show (if ix (((b 1 0) + (b 2 0)) - ((b 1 0) + (b 2 0)) / 6 * 6) < 6 then some (g (5 + ix (((b 1 0) + (b 2 0)) - ((b 1 0) + (b 2 0)) / 6 * 6)) 0) else none) = _; rw [e2]; rfl) ?_
    refine g_aload_n X 1 dX4_push_17 rfl rfl ?_
    rw [e2] at hw
    refine g_cvV X [wV ct g b, wS ct (g 5) (r 0), wS ct (g 6) (r 1), wS ct (g 7) (r 2), wS ct (g 8) (r 3), wS ct (g 9) (r 4), wS ct (g 10) (r 5), wS ct a v] (fun (u21 : Mem) => [wV ct g b, wS ct (g 5) ((rset r 3 u21) 0), wS ct (g 6) ((rset r 3 u21) 1), wS ct (g 7) ((rset r 3 u21) 2), wS ct (g 8) ((rset r 3 u21) 3), wS ct (g 9) ((rset r 3 u21) 4), wS ct (g 10) ((rset r 3 u21) 5), wS ct a v]) (fun (u21 : Mem) => fl [wV ct g b, wS ct (g 5) ((rset r 3 u21) 0), wS ct (g 6) ((rset r 3 u21) 1), wS ct (g 7) ((rset r 3 u21) 2), wS ct (g 8) ((rset r 3 u21) 3), wS ct (g 9) ((rset r 3 u21) 4), wS ct (g 10) ((rset r 3 u21) 5), wS ct a v]) 8 [4, 7] [0, 1, 2, 3, 5, 6] 0 (kX5_copyFrom l D ct (g 8) a (r 3) v _ hw) (cwV 1 X.1.2.2.2.2 gX4_push_X5_copyFrom rfl rfl rfl (by decide +kernel) ⟨Nat.le_of_ble_eq_true rfl, Nat.le_of_ble_eq_true rfl⟩) dX4_push_18 rfl rfl (Nat.le_of_ble_eq_true rfl) ⟨Nat.le_of_ble_eq_true rfl, Nat.le_of_ble_eq_true rfl⟩ rfl rfl rfl (by decide) (fun _ => rfl) (fun _ => rfl) (fun _ => rfl) (fun _ => rfl) rfl rfl rfl (fun u21 hw => ?_)
    obtain ⟨r23, hr23⟩ : ∃ z : Nat → Mem, z = rset r 3 u21 := ⟨_, rfl⟩
    rw [← hr23]
    replace hw := hw r23 hr23
    refine g_aload_n X 0 dX4_push_21 rfl rfl ?_
    refine g_get (T := TX4) (C := RX4) (N := 3) (v := .int (b 2 0)) X 0 2 (fun _ h => (List.mem_cons_of_mem _ (List.mem_append_left _ (List.mem_append_right _ h)))) (List.mem_of_getElem? (i := 3) rfl) dX4_push_22 rfl rfl (by decide) rfl rfl ?_
    refine g_bipush (v := 6) X rfl dX4_push_25 ?_
    refine g_icmp_ge X 43 dX4_push_27 (by decide) (fun c24 => ?_) (fun c24 => ?_)
    · replace hw := hw.1 c24
      refine g_aload_n X 0 dX4_push_43 rfl rfl ?_
      refine g_aload_n X 0 dX4_push_44 rfl rfl ?_
      refine g_get (T := TX4) (C := RX4) (N := 3) (v := .int (b 1 0)) X 0 1 (fun _ h => (List.mem_cons_of_mem _ (List.mem_append_left _ (List.mem_append_right _ h)))) (List.mem_of_getElem? (i := 2) rfl) dX4_push_45 rfl rfl (by decide) rfl rfl ?_
      refine g_iconst (v := 1) X rfl dX4_push_48 ?_
      refine g_iadd X dX4_push_49 ?_
      refine g_bipush (v := 6) X rfl dX4_push_50 ?_
      refine g_irem X (by decide) dX4_push_52 ?_
      refine g_put (T := TX4) (C := RX4) (N := 3) X (fun z => fl [wV ct g z, wS ct (g 5) (r23 0), wS ct (g 6) (r23 1), wS ct (g 7) (r23 2), wS ct (g 8) (r23 3), wS ct (g 9) (r23 4), wS ct (g 10) (r23 5), wS ct a v]) b 0 1 tyX4 tyX4_ok nmX4 (fun _ h => (List.mem_cons_of_mem _ (List.mem_append_left _ (List.mem_append_right _ h)))) (List.mem_of_getElem? (i := 2) rfl) dX4_push_53 rfl rfl (by decide) rfl rfl (by decide +kernel) (Nat.le_of_ble_eq_true rfl) rfl (fun b25 hb25 => ?_)
      replace hw := hw b25 hb25
      exact g_vret X (b25, r23) hw rfl (Nat.le_of_ble_eq_true rfl) (Nat.le_of_ble_eq_true rfl) dX4_push_56
    · replace hw := hw.2 c24
      refine g_aload_n X 0 dX4_push_30 rfl rfl ?_
      refine g_dup X dX4_push_31 rfl ?_
      refine g_get (T := TX4) (C := RX4) (N := 3) (v := .int (b 2 0)) X 0 2 (fun _ h => (List.mem_cons_of_mem _ (List.mem_append_left _ (List.mem_append_right _ h)))) (List.mem_of_getElem? (i := 3) rfl) dX4_push_32 rfl rfl (by decide) rfl rfl ?_
      refine g_iconst (v := 1) X rfl dX4_push_35 ?_
      refine g_iadd X dX4_push_36 ?_
      refine g_put (T := TX4) (C := RX4) (N := 3) X (fun z => fl [wV ct g z, wS ct (g 5) (r23 0), wS ct (g 6) (r23 1), wS ct (g 7) (r23 2), wS ct (g 8) (r23 3), wS ct (g 9) (r23 4), wS ct (g 10) (r23 5), wS ct a v]) b 0 2 tyX4 tyX4_ok nmX4 (fun _ h => (List.mem_cons_of_mem _ (List.mem_append_left _ (List.mem_append_right _ h)))) (List.mem_of_getElem? (i := 3) rfl) dX4_push_37 rfl rfl (by decide) rfl rfl (by decide +kernel) (Nat.le_of_ble_eq_true rfl) rfl (fun b26 hb26 => ?_)
      replace hw := hw b26 hb26
      refine g_goto X 56 dX4_push_40 (by decide) ?_
      exact g_vret X (b26, r23) hw rfl (Nat.le_of_ble_eq_true rfl) (Nat.le_of_ble_eq_true rfl) dX4_push_56
  · refine g_aldq (b := g 9 0) X 1 1 dX4_push_16 rfl rfl h1 (by show (if ix (((b 1 0) + (b 2 0)) - ((b 1 0) + (b 2 0)) / 6 * 6) < 6 then some (g (5 + ix (((b 1 0) + (b 2 0)) - ((b 1 0) + (b 2 0)) / 6 * 6)) 0) else none) = _; rw [e2]; rfl) ?_
    refine g_aload_n X 1 dX4_push_17 rfl rfl ?_
    rw [e2] at hw
    refine g_cvV X [wV ct g b, wS ct (g 5) (r 0), wS ct (g 6) (r 1), wS ct (g 7) (r 2), wS ct (g 8) (r 3), wS ct (g 9) (r 4), wS ct (g 10) (r 5), wS ct a v] (fun (u27 : Mem) => [wV ct g b, wS ct (g 5) ((rset r 4 u27) 0), wS ct (g 6) ((rset r 4 u27) 1), wS ct (g 7) ((rset r 4 u27) 2), wS ct (g 8) ((rset r 4 u27) 3), wS ct (g 9) ((rset r 4 u27) 4), wS ct (g 10) ((rset r 4 u27) 5), wS ct a v]) (fun (u27 : Mem) => fl [wV ct g b, wS ct (g 5) ((rset r 4 u27) 0), wS ct (g 6) ((rset r 4 u27) 1), wS ct (g 7) ((rset r 4 u27) 2), wS ct (g 8) ((rset r 4 u27) 3), wS ct (g 9) ((rset r 4 u27) 4), wS ct (g 10) ((rset r 4 u27) 5), wS ct a v]) 8 [5, 7] [0, 1, 2, 3, 4, 6] 0 (kX5_copyFrom l D ct (g 9) a (r 4) v _ hw) (cwV 1 X.1.2.2.2.2 gX4_push_X5_copyFrom rfl rfl rfl (by decide +kernel) ⟨Nat.le_of_ble_eq_true rfl, Nat.le_of_ble_eq_true rfl⟩) dX4_push_18 rfl rfl (Nat.le_of_ble_eq_true rfl) ⟨Nat.le_of_ble_eq_true rfl, Nat.le_of_ble_eq_true rfl⟩ rfl rfl rfl (by decide) (fun _ => rfl) (fun _ => rfl) (fun _ => rfl) (fun _ => rfl) rfl rfl rfl (fun u27 hw => ?_)
    obtain ⟨r29, hr29⟩ : ∃ z : Nat → Mem, z = rset r 4 u27 := ⟨_, rfl⟩
    rw [← hr29]
    replace hw := hw r29 hr29
    refine g_aload_n X 0 dX4_push_21 rfl rfl ?_
    refine g_get (T := TX4) (C := RX4) (N := 3) (v := .int (b 2 0)) X 0 2 (fun _ h => (List.mem_cons_of_mem _ (List.mem_append_left _ (List.mem_append_right _ h)))) (List.mem_of_getElem? (i := 3) rfl) dX4_push_22 rfl rfl (by decide) rfl rfl ?_
    refine g_bipush (v := 6) X rfl dX4_push_25 ?_
    refine g_icmp_ge X 43 dX4_push_27 (by decide) (fun c30 => ?_) (fun c30 => ?_)
    · replace hw := hw.1 c30
      refine g_aload_n X 0 dX4_push_43 rfl rfl ?_
      refine g_aload_n X 0 dX4_push_44 rfl rfl ?_
      refine g_get (T := TX4) (C := RX4) (N := 3) (v := .int (b 1 0)) X 0 1 (fun _ h => (List.mem_cons_of_mem _ (List.mem_append_left _ (List.mem_append_right _ h)))) (List.mem_of_getElem? (i := 2) rfl) dX4_push_45 rfl rfl (by decide) rfl rfl ?_
      refine g_iconst (v := 1) X rfl dX4_push_48 ?_
      refine g_iadd X dX4_push_49 ?_
      refine g_bipush (v := 6) X rfl dX4_push_50 ?_
      refine g_irem X (by decide) dX4_push_52 ?_
      refine g_put (T := TX4) (C := RX4) (N := 3) X (fun z => fl [wV ct g z, wS ct (g 5) (r29 0), wS ct (g 6) (r29 1), wS ct (g 7) (r29 2), wS ct (g 8) (r29 3), wS ct (g 9) (r29 4), wS ct (g 10) (r29 5), wS ct a v]) b 0 1 tyX4 tyX4_ok nmX4 (fun _ h => (List.mem_cons_of_mem _ (List.mem_append_left _ (List.mem_append_right _ h)))) (List.mem_of_getElem? (i := 2) rfl) dX4_push_53 rfl rfl (by decide) rfl rfl (by decide +kernel) (Nat.le_of_ble_eq_true rfl) rfl (fun b31 hb31 => ?_)
      replace hw := hw b31 hb31
      exact g_vret X (b31, r29) hw rfl (Nat.le_of_ble_eq_true rfl) (Nat.le_of_ble_eq_true rfl) dX4_push_56
    · replace hw := hw.2 c30
      refine g_aload_n X 0 dX4_push_30 rfl rfl ?_
      refine g_dup X dX4_push_31 rfl ?_
      refine g_get (T := TX4) (C := RX4) (N := 3) (v := .int (b 2 0)) X 0 2 (fun _ h => (List.mem_cons_of_mem _ (List.mem_append_left _ (List.mem_append_right _ h)))) (List.mem_of_getElem? (i := 3) rfl) dX4_push_32 rfl rfl (by decide) rfl rfl ?_
      refine g_iconst (v := 1) X rfl dX4_push_35 ?_
      refine g_iadd X dX4_push_36 ?_
      refine g_put (T := TX4) (C := RX4) (N := 3) X (fun z => fl [wV ct g z, wS ct (g 5) (r29 0), wS ct (g 6) (r29 1), wS ct (g 7) (r29 2), wS ct (g 8) (r29 3), wS ct (g 9) (r29 4), wS ct (g 10) (r29 5), wS ct a v]) b 0 2 tyX4 tyX4_ok nmX4 (fun _ h => (List.mem_cons_of_mem _ (List.mem_append_left _ (List.mem_append_right _ h)))) (List.mem_of_getElem? (i := 3) rfl) dX4_push_37 rfl rfl (by decide) rfl rfl (by decide +kernel) (Nat.le_of_ble_eq_true rfl) rfl (fun b32 hb32 => ?_)
      replace hw := hw b32 hb32
      refine g_goto X 56 dX4_push_40 (by decide) ?_
      exact g_vret X (b32, r29) hw rfl (Nat.le_of_ble_eq_true rfl) (Nat.le_of_ble_eq_true rfl) dX4_push_56
  · refine g_aldq (b := g 10 0) X 1 1 dX4_push_16 rfl rfl h1 (by show (if ix (((b 1 0) + (b 2 0)) - ((b 1 0) + (b 2 0)) / 6 * 6) < 6 then some (g (5 + ix (((b 1 0) + (b 2 0)) - ((b 1 0) + (b 2 0)) / 6 * 6)) 0) else none) = _; rw [e2]; rfl) ?_
    refine g_aload_n X 1 dX4_push_17 rfl rfl ?_
    rw [e2] at hw
    refine g_cvV X [wV ct g b, wS ct (g 5) (r 0), wS ct (g 6) (r 1), wS ct (g 7) (r 2), wS ct (g 8) (r 3), wS ct (g 9) (r 4), wS ct (g 10) (r 5), wS ct a v] (fun (u33 : Mem) => [wV ct g b, wS ct (g 5) ((rset r 5 u33) 0), wS ct (g 6) ((rset r 5 u33) 1), wS ct (g 7) ((rset r 5 u33) 2), wS ct (g 8) ((rset r 5 u33) 3), wS ct (g 9) ((rset r 5 u33) 4), wS ct (g 10) ((rset r 5 u33) 5), wS ct a v]) (fun (u33 : Mem) => fl [wV ct g b, wS ct (g 5) ((rset r 5 u33) 0), wS ct (g 6) ((rset r 5 u33) 1), wS ct (g 7) ((rset r 5 u33) 2), wS ct (g 8) ((rset r 5 u33) 3), wS ct (g 9) ((rset r 5 u33) 4), wS ct (g 10) ((rset r 5 u33) 5), wS ct a v]) 8 [6, 7] [0, 1, 2, 3, 4, 5] 0 (kX5_copyFrom l D ct (g 10) a (r 5) v _ hw) (cwV 1 X.1.2.2.2.2 gX4_push_X5_copyFrom rfl rfl rfl (by decide +kernel) ⟨Nat.le_of_ble_eq_true rfl, Nat.le_of_ble_eq_true rfl⟩) dX4_push_18 rfl rfl (Nat.le_of_ble_eq_true rfl) ⟨Nat.le_of_ble_eq_true rfl, Nat.le_of_ble_eq_true rfl⟩ rfl rfl rfl (by decide) (fun _ => rfl) (fun _ => rfl) (fun _ => rfl) (fun _ => rfl) rfl rfl rfl (fun u33 hw => ?_)
    obtain ⟨r35, hr35⟩ : ∃ z : Nat → Mem, z = rset r 5 u33 := ⟨_, rfl⟩
    rw [← hr35]
    replace hw := hw r35 hr35
    refine g_aload_n X 0 dX4_push_21 rfl rfl ?_
    refine g_get (T := TX4) (C := RX4) (N := 3) (v := .int (b 2 0)) X 0 2 (fun _ h => (List.mem_cons_of_mem _ (List.mem_append_left _ (List.mem_append_right _ h)))) (List.mem_of_getElem? (i := 3) rfl) dX4_push_22 rfl rfl (by decide) rfl rfl ?_
    refine g_bipush (v := 6) X rfl dX4_push_25 ?_
    refine g_icmp_ge X 43 dX4_push_27 (by decide) (fun c36 => ?_) (fun c36 => ?_)
    · replace hw := hw.1 c36
      refine g_aload_n X 0 dX4_push_43 rfl rfl ?_
      refine g_aload_n X 0 dX4_push_44 rfl rfl ?_
      refine g_get (T := TX4) (C := RX4) (N := 3) (v := .int (b 1 0)) X 0 1 (fun _ h => (List.mem_cons_of_mem _ (List.mem_append_left _ (List.mem_append_right _ h)))) (List.mem_of_getElem? (i := 2) rfl) dX4_push_45 rfl rfl (by decide) rfl rfl ?_
      refine g_iconst (v := 1) X rfl dX4_push_48 ?_
      refine g_iadd X dX4_push_49 ?_
      refine g_bipush (v := 6) X rfl dX4_push_50 ?_
      refine g_irem X (by decide) dX4_push_52 ?_
      refine g_put (T := TX4) (C := RX4) (N := 3) X (fun z => fl [wV ct g z, wS ct (g 5) (r35 0), wS ct (g 6) (r35 1), wS ct (g 7) (r35 2), wS ct (g 8) (r35 3), wS ct (g 9) (r35 4), wS ct (g 10) (r35 5), wS ct a v]) b 0 1 tyX4 tyX4_ok nmX4 (fun _ h => (List.mem_cons_of_mem _ (List.mem_append_left _ (List.mem_append_right _ h)))) (List.mem_of_getElem? (i := 2) rfl) dX4_push_53 rfl rfl (by decide) rfl rfl (by decide +kernel) (Nat.le_of_ble_eq_true rfl) rfl (fun b37 hb37 => ?_)
      replace hw := hw b37 hb37
      exact g_vret X (b37, r35) hw rfl (Nat.le_of_ble_eq_true rfl) (Nat.le_of_ble_eq_true rfl) dX4_push_56
    · replace hw := hw.2 c36
      refine g_aload_n X 0 dX4_push_30 rfl rfl ?_
      refine g_dup X dX4_push_31 rfl ?_
      refine g_get (T := TX4) (C := RX4) (N := 3) (v := .int (b 2 0)) X 0 2 (fun _ h => (List.mem_cons_of_mem _ (List.mem_append_left _ (List.mem_append_right _ h)))) (List.mem_of_getElem? (i := 3) rfl) dX4_push_32 rfl rfl (by decide) rfl rfl ?_
      refine g_iconst (v := 1) X rfl dX4_push_35 ?_
      refine g_iadd X dX4_push_36 ?_
      refine g_put (T := TX4) (C := RX4) (N := 3) X (fun z => fl [wV ct g z, wS ct (g 5) (r35 0), wS ct (g 6) (r35 1), wS ct (g 7) (r35 2), wS ct (g 8) (r35 3), wS ct (g 9) (r35 4), wS ct (g 10) (r35 5), wS ct a v]) b 0 2 tyX4 tyX4_ok nmX4 (fun _ h => (List.mem_cons_of_mem _ (List.mem_append_left _ (List.mem_append_right _ h)))) (List.mem_of_getElem? (i := 3) rfl) dX4_push_37 rfl rfl (by decide) rfl rfl (by decide +kernel) (Nat.le_of_ble_eq_true rfl) rfl (fun b38 hb38 => ?_)
      replace hw := hw b38 hb38
      refine g_goto X 56 dX4_push_40 (by decide) ?_
      exact g_vret X (b38, r35) hw rfl (Nat.le_of_ble_eq_true rfl) (Nat.le_of_ble_eq_true rfl) dX4_push_56
