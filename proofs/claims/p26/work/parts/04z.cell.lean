def PL_cell (xs : Nat → Int32) (L : Nat) (p1 : Int32) (post : Int32 → Prop) : Prop := ((nI L ≤ p1) → post (1739704803 * (p1 + 1))) ∧ ((¬ nI L ≤ p1) → vp_in p1 L ∧ post (xs (ix p1)))
abbrev rmL_cell : Room := { frames := 0, cells := 0, slots := 0, locals := 0 }
set_option maxHeartbeats 4000000 in
set_option maxRecDepth 20000 in
theorem kL_cell (l : Launch) (D : va_G) (ct : Nat → ClassId) (b L : Nat) (xs : Nat → Int32) (p1 : Int32) (post : Int32 → Prop) (hw : PL_cell xs L p1 post) : Cs l yL_cell wsL_cell rmL_cell D (tyz ct) b L xs [.ref b, .int p1] (fun r _ => post r) := by
  intro sz
  refine g_ofs (own := RL) (by decide) rfl rfl (Nat.le_of_ble_eq_true rfl) [(0, .ref b), (1, .int p1)] rfl (fun p e s m args below meth c hsz hX hbl hbA X => ?_)
  subst hsz
  unfold PL_cell at hw
  refine g_iload_n X 1 dL_cell_0 rfl rfl ?_
  refine g_aload_n X 0 dL_cell_1 rfl rfl ?_
  refine g_slen X hX hbl hbA dL_cell_2 ?_
  refine g_icmp_ge X 12 dL_cell_3 (by decide) (fun c1 => ?_) (fun c1 => ?_)
  · replace hw := hw.1 c1
    refine g_ldc (v := 1739704803) X (List.mem_of_getElem? (i := 1) rfl) dL_cell_12 ?_
    refine g_iload_n X 1 dL_cell_14 rfl rfl ?_
    refine g_iconst (v := 1) X rfl dL_cell_15 ?_
    refine g_iadd X dL_cell_16 ?_
    refine g_imul X dL_cell_17 ?_
    exact g_iret X () hw rfl (Nat.le_of_ble_eq_true rfl) (Nat.le_of_ble_eq_true rfl) dL_cell_18
  · replace hw := hw.2 c1
    obtain ⟨h1, hw⟩ := hw
    refine g_aload_n X 0 dL_cell_6 rfl rfl ?_
    refine g_iload_n X 1 dL_cell_7 rfl rfl ?_
    refine g_sld X hX hbl hbA h1 dL_cell_8 ?_
    refine g_goto X 18 dL_cell_9 (by decide) ?_
    exact g_iret X () hw rfl (Nat.le_of_ble_eq_true rfl) (Nat.le_of_ble_eq_true rfl) dL_cell_18
