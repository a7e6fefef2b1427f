section
-- ===== PART A: goes FIRST, ahead of the names: the tables' words, and 'selects' of the private methods out of them =====
/-- a private method of a class that the tables say can be made, by its rows of tables_1 -/
def lw_okq (q : MethodName × Nat) : Prop := (q.1.cls ≠ "java/lang/invoke/MethodHandle" ∧ q.1.cls ≠ "java/lang/invoke/VarHandle") ∧ Cond.instantiable q.1.cls q.2 ∈ tables_1 ∧ Cond.privateMethod q.1 ∈ tables_1 ∧ Cond.instanceMethod q.1 ∈ tables_1
theorem lw_p0 : lw_okq (⟨"java/lang/Throwable", "fillInStackTrace", "(I)Ljava/lang/Throwable;"⟩, 6) := ⟨⟨by decide +kernel, by decide +kernel⟩, List.mem_of_getElem? (i := 250) (by decide +kernel), List.mem_of_getElem? (i := 248) (by decide +kernel), List.mem_of_getElem? (i := 249) (by decide +kernel)⟩
theorem lw_p1 : lw_okq (⟨"ChronicleRows$RowSearch", "listPeople", "(LChronicleRows$State;I)V"⟩, 13) := ⟨⟨by decide +kernel, by decide +kernel⟩, List.mem_of_getElem? (i := 133) (by decide +kernel), List.mem_of_getElem? (i := 300) (by decide +kernel), List.mem_of_getElem? (i := 301) (by decide +kernel)⟩
theorem lw_p2 : lw_okq (⟨"ChronicleRows$RowSearch", "noteLinesTo", "(LChronicleRows$State;)V"⟩, 13) := ⟨⟨by decide +kernel, by decide +kernel⟩, List.mem_of_getElem? (i := 133) (by decide +kernel), List.mem_of_getElem? (i := 316) (by decide +kernel), List.mem_of_getElem? (i := 317) (by decide +kernel)⟩
theorem lw_p3 : lw_okq (⟨"ChronicleRows$RowSearch", "listCouples", "(LChronicleRows$State;I)V"⟩, 13) := ⟨⟨by decide +kernel, by decide +kernel⟩, List.mem_of_getElem? (i := 133) (by decide +kernel), List.mem_of_getElem? (i := 340) (by decide +kernel), List.mem_of_getElem? (i := 341) (by decide +kernel)⟩
theorem lw_p4 : lw_okq (⟨"ChronicleRows$RowSearch", "indexOfCouple", "(LChronicleRows$State;I)I"⟩, 13) := ⟨⟨by decide +kernel, by decide +kernel⟩, List.mem_of_getElem? (i := 133) (by decide +kernel), List.mem_of_getElem? (i := 354) (by decide +kernel), List.mem_of_getElem? (i := 355) (by decide +kernel)⟩
theorem lw_p5 : lw_okq (⟨"ChronicleRows$RowSearch", "noteLinesFrom", "(I)V"⟩, 13) := ⟨⟨by decide +kernel, by decide +kernel⟩, List.mem_of_getElem? (i := 133) (by decide +kernel), List.mem_of_getElem? (i := 366) (by decide +kernel), List.mem_of_getElem? (i := 367) (by decide +kernel)⟩
theorem lw_p6 : lw_okq (⟨"ChronicleRows$RowSearch", "crossingsOfFirst", "(I)I"⟩, 13) := ⟨⟨by decide +kernel, by decide +kernel⟩, List.mem_of_getElem? (i := 133) (by decide +kernel), List.mem_of_getElem? (i := 374) (by decide +kernel), List.mem_of_getElem? (i := 375) (by decide +kernel)⟩
theorem lw_p7 : lw_okq (⟨"ChronicleRows$RowSearch", "crossingsFrom", "(I)I"⟩, 13) := ⟨⟨by decide +kernel, by decide +kernel⟩, List.mem_of_getElem? (i := 133) (by decide +kernel), List.mem_of_getElem? (i := 384) (by decide +kernel), List.mem_of_getElem? (i := 385) (by decide +kernel)⟩
theorem lw_p8 : lw_okq (⟨"ChronicleRows$RowSearch", "goToNextOrder", "()Z"⟩, 13) := ⟨⟨by decide +kernel, by decide +kernel⟩, List.mem_of_getElem? (i := 133) (by decide +kernel), List.mem_of_getElem? (i := 391) (by decide +kernel), List.mem_of_getElem? (i := 392) (by decide +kernel)⟩
theorem lw_p9 : lw_okq (⟨"ChronicleRows$RowSearch", "exchange", "(II)V"⟩, 13) := ⟨⟨by decide +kernel, by decide +kernel⟩, List.mem_of_getElem? (i := 133) (by decide +kernel), List.mem_of_getElem? (i := 395) (by decide +kernel), List.mem_of_getElem? (i := 396) (by decide +kernel)⟩
theorem lw_p10 : lw_okq (⟨"ChronicleRows", "allCrossings", "()I"⟩, 8) := ⟨⟨by decide +kernel, by decide +kernel⟩, List.mem_of_getElem? (i := 18) (by decide +kernel), List.mem_of_getElem? (i := 410) (by decide +kernel), List.mem_of_getElem? (i := 411) (by decide +kernel)⟩
theorem lw_p11 : lw_okq (⟨"ChronicleRows$State", "isDouble", "(I)Z"⟩, 10) := ⟨⟨by decide +kernel, by decide +kernel⟩, List.mem_of_getElem? (i := 26) (by decide +kernel), List.mem_of_getElem? (i := 472) (by decide +kernel), List.mem_of_getElem? (i := 473) (by decide +kernel)⟩
theorem lw_p12 : lw_okq (⟨"ChronicleRows$RowLines", "sortByMiddles", "()V"⟩, 3) := ⟨⟨by decide +kernel, by decide +kernel⟩, List.mem_of_getElem? (i := 104) (by decide +kernel), List.mem_of_getElem? (i := 574) (by decide +kernel), List.mem_of_getElem? (i := 575) (by decide +kernel)⟩
theorem lw_p13 : lw_okq (⟨"ChronicleRows$State", "reasonAgainst", "(II)I"⟩, 10) := ⟨⟨by decide +kernel, by decide +kernel⟩, List.mem_of_getElem? (i := 26) (by decide +kernel), List.mem_of_getElem? (i := 639) (by decide +kernel), List.mem_of_getElem? (i := 640) (by decide +kernel)⟩
theorem lw_p14 : lw_okq (⟨"ChronicleRows$State", "areCouple", "(II)Z"⟩, 10) := ⟨⟨by decide +kernel, by decide +kernel⟩, List.mem_of_getElem? (i := 26) (by decide +kernel), List.mem_of_getElem? (i := 650) (by decide +kernel), List.mem_of_getElem? (i := 651) (by decide +kernel)⟩
theorem lw_p15 : lw_okq (⟨"ChronicleRows$ParentOrder", "placeByKey", "(II)I"⟩, 2) := ⟨⟨by decide +kernel, by decide +kernel⟩, List.mem_of_getElem? (i := 120) (by decide +kernel), List.mem_of_getElem? (i := 684) (by decide +kernel), List.mem_of_getElem? (i := 685) (by decide +kernel)⟩
def lw_privs_1 : List (MethodName × Nat) := [(⟨"java/lang/Throwable", "fillInStackTrace", "(I)Ljava/lang/Throwable;"⟩, 6), (⟨"ChronicleRows$RowSearch", "listPeople", "(LChronicleRows$State;I)V"⟩, 13), (⟨"ChronicleRows$RowSearch", "noteLinesTo", "(LChronicleRows$State;)V"⟩, 13), (⟨"ChronicleRows$RowSearch", "listCouples", "(LChronicleRows$State;I)V"⟩, 13), (⟨"ChronicleRows$RowSearch", "indexOfCouple", "(LChronicleRows$State;I)I"⟩, 13), (⟨"ChronicleRows$RowSearch", "noteLinesFrom", "(I)V"⟩, 13), (⟨"ChronicleRows$RowSearch", "crossingsOfFirst", "(I)I"⟩, 13), (⟨"ChronicleRows$RowSearch", "crossingsFrom", "(I)I"⟩, 13), (⟨"ChronicleRows$RowSearch", "goToNextOrder", "()Z"⟩, 13), (⟨"ChronicleRows$RowSearch", "exchange", "(II)V"⟩, 13), (⟨"ChronicleRows", "allCrossings", "()I"⟩, 8), (⟨"ChronicleRows$State", "isDouble", "(I)Z"⟩, 10), (⟨"ChronicleRows$RowLines", "sortByMiddles", "()V"⟩, 3), (⟨"ChronicleRows$State", "reasonAgainst", "(II)I"⟩, 10), (⟨"ChronicleRows$State", "areCouple", "(II)Z"⟩, 10), (⟨"ChronicleRows$ParentOrder", "placeByKey", "(II)I"⟩, 2)]
theorem lw_r1 : ∀ q ∈ lw_privs_1, lw_okq q := List.forall_mem_cons.mpr ⟨lw_p0, List.forall_mem_cons.mpr ⟨lw_p1, List.forall_mem_cons.mpr ⟨lw_p2, List.forall_mem_cons.mpr ⟨lw_p3, List.forall_mem_cons.mpr ⟨lw_p4, List.forall_mem_cons.mpr ⟨lw_p5, List.forall_mem_cons.mpr ⟨lw_p6, List.forall_mem_cons.mpr ⟨lw_p7, List.forall_mem_cons.mpr ⟨lw_p8, List.forall_mem_cons.mpr ⟨lw_p9, List.forall_mem_cons.mpr ⟨lw_p10, List.forall_mem_cons.mpr ⟨lw_p11, List.forall_mem_cons.mpr ⟨lw_p12, List.forall_mem_cons.mpr ⟨lw_p13, List.forall_mem_cons.mpr ⟨lw_p14, List.forall_mem_cons.mpr ⟨lw_p15, fun _ h => absurd h List.not_mem_nil⟩⟩⟩⟩⟩⟩⟩⟩⟩⟩⟩⟩⟩⟩⟩⟩
def lw_privs : List (MethodName × Nat) := lw_privs_1
def lw_tbl : List Cond := k2_sels lw_privs ++ tables_1
theorem lw_privs_ok : ∀ q ∈ lw_privs, lw_okq q := lw_r1
/-- the streams that the claim lets the run draw from -/
abbrev lw_cs : List Choice := [Jvm.Choice.named "NaN.bits"]
theorem lw_bits : nanBits ∈ lw_cs := by first | decide | exact List.mem_cons_self | simp [lw_cs, nanBits]
end
section
/-- the tables have the class of arrays of arrays of t (a word that the printed rows below use and that the kit does not hold) -/
def va_AOA (t : FieldType) (U : State) : Prop := (Cond.arrayOver (.array t)).before #[] U = true
theorem va_AOA.use {t : FieldType} {A : Array Value} {U : State} (h : va_AOA t U) : (Cond.arrayOver (.array t)).before A U = true := h
theorem va_AOA.of {t : FieldType} {A : Array Value} {U : State} (h : (Cond.arrayOver (.array t)).before A U = true) : va_AOA t U := h
/-! ===== BEGIN words of one list among another's, by their places ===== -/
theorem goodIn_r {big : List Cond} (ws : List Cond) (ps : List Nat) (hp : ws = ps.filterMap (fun i => big[i]?)) (h : ws.all goodWord = true) : GoodIn big ws := by
  intro w hw
  have h1 := List.all_eq_true.mp h w hw
  rw [hp] at hw
  obtain ⟨i, -, hi⟩ := List.mem_filterMap.mp hw
  have hm : w ∈ big := by first | exact List.mem_of_getElem? hi | exact List.getElem?_mem hi
  exact ⟨hm, good_of_word h1⟩
theorem goodIn_app {big a b : List Cond} (ha : GoodIn big a) (hb : GoodIn big b) : GoodIn big (a ++ b) := fun w h => (List.mem_append.mp h).elim (ha w) (hb w)
theorem goodIn_ca {big a b : List Cond} {c : Cond} (ha : GoodIn big (c :: a)) (hb : GoodIn big b) : GoodIn big (c :: (a ++ b)) := fun w h => (List.mem_cons.mp h).elim (fun e => ha w (List.mem_cons.mpr (Or.inl e))) (fun h => (List.mem_append.mp h).elim (fun h => ha w (List.mem_cons.mpr (Or.inr h))) (hb w))
theorem goodIn_sub {big ws : List Cond} (hm : ∀ w ∈ ws, w ∈ big) (h : ws.all goodWord = true) : GoodIn big ws := fun w hw => ⟨hm w hw, good_of_word (List.all_eq_true.mp h w hw)⟩
/-! ===== END ===== -/

/-! ===== BEGIN new T[n][m]: the outer array a place, the inner ones among the pooled ===== -/
/-- f, but v at every address of l -/
def vr_up {α : Type} (f : Nat → α) (l : List Nat) (v : α) : Nat → α := fun a => if a ∈ l then v else f a
theorem vr_up_in {α : Type} {f : Nat → α} {l : List Nat} {v : α} {a : Nat} (h : a ∈ l) : vr_up f l v a = v := if_pos h
theorem vr_up_ne {α : Type} {f : Nat → α} {l : List Nat} {v : α} {a : Nat} (h : a ∉ l) : vr_up f l v a = f a := if_neg h
theorem vr_rows {L l : List Nat} {f : Nat → va_E} {e : va_E} (h : ∀ a, a ∈ l → a ∉ L) : va_pl L f ++ l.map (fun a => (a, e)) = va_pl (L ++ l) (vr_up f l e) := by
  unfold va_pl
  rw [List.map_append]
  congr 1
  · apply List.map_congr_left
    intro a ha
    rw [vr_up_ne (fun q => h a q ha)]
  · apply List.map_congr_left
    intro a ha
    rw [vr_up_in ha]
theorem vr_lay {X rows : va_W} {x : Nat × va_E} {pl : va_W} {D : va_G} {cl : List vw_C} {H : Heap} (hP : va_P D cl (((X ++ pl) ++ [x]) ++ rows) H) : va_P D cl ((X ++ [x]) ++ (pl ++ rows)) H := by
  rw [List.append_assoc (X ++ pl)] at hP
  have h := va_P.swap hP
  rw [← List.append_assoc X] at h
  have h2 := va_P.swap h
  rw [List.append_assoc (X ++ [x])] at h2
  exact h2
theorem vr_layD {X rows : va_W} {x : Nat × va_E} {pl : va_W} {A : Nat → Prop} (hD : va_D A (((X ++ pl) ++ [x]) ++ rows)) : va_D A ((X ++ [x]) ++ (pl ++ rows)) := by
  rw [List.append_assoc (X ++ pl)] at hD
  have h := va_D.swap hD
  rw [← List.append_assoc X] at h
  have h2 := va_D.swap h
  rw [List.append_assoc (X ++ [x])] at h2
  exact h2
theorem vr_outer (c : ClassId) (N h0 : Nat) : ∀ i : Nat, Jvm.Free.Multi.outerC c N h0 i = arrV c N (fun j => va_rf (if j < i then some (h0 + 1 + j) else none))
  | 0 => by
    show ({ cls := c, slots := Array.replicate N .null, vm := .none } : Cell) = _
    rw [arrV_new]
    refine congrArg (arrV c N) (funext fun j => ?_)
    simp [va_rf]
  | i + 1 => by
    show (Jvm.Free.Multi.outerC c N h0 i).setSlot i (.ref (h0 + 1 + i)) = _
    rw [vr_outer c N h0 i, arrV_store]
    refine congrArg (arrV c N) (funext fun j => ?_)
    by_cases e : j = i
    · subst e
      simp [updV, va_rf]
    · by_cases h : j < i
      · simp [updV, e, h, Nat.lt_succ_of_lt h]
      · simp [updV, e, h, show ¬ j < i + 1 by omega]
section VGM
variable {p : Program} {l : Launch} {e : Env} {R : Room} {s : State} {m : MethodId} {args : Array Value} {below : List Frame} {meth : Method} {c : Code} {H : Heap} {locs : List Loc} {cells slots : Nat} {Q : State → Prop}
variable {cc : ByteArray} {pc : Nat} {ls : Array Slot} {rest : List Value} {D : va_G} {cl : List vw_C} {A : Nat → Prop} {a : Nat} {tys : List (ClassId × FieldType)} {ws : va_W} {H0 : Heap}
theorem va_mna {X : va_W} {L : List Nat} {f : Nat → va_E} {cc : ByteArray} (hexec : p.tables.exec = Jvm.exec) (hb : c.code = cc) {own : String} {index : Nat} {ty : FieldType} {cy : ClassId} (hown : s.vm.findClass own = some m.cls) (hclink : (Cond.classLink own index ("[" ++ (FieldType.array ty).toString)).before args s = true) (hover : va_AOA ty s) (harr : (Cond.arrayClass ty).before args s = true) (hcy : s.vm.findClass (FieldType.array ty).toString = some cy)
    (hK : va_K D cl tys s) (hP : va_P D cl (X ++ va_pl L f) H) (hD : va_D A (X ++ va_pl L f)) (hS : va_S A H0 H locs) (hA : ∀ q, H0.size ≤ q → A q) {n k : Int32} {N' K' : Nat} {z : vp_A} (hn : ¬ n < 0) (hk : ¬ k < 0) (hN : n.toNatClampNeg = N') (hM : k.toNatClampNeg = K')
    (hb1 : N' * 4 ≤ 536870912) (hb2 : K' * componentBytes ty ≤ 536870912) (hb3 : K' ≤ 536870912) (hdf : fits ty (defaultValue ty) = true) (hdd : (defaultValue ty).isDefault = true) (hcells : cells + (1 + N') ≤ R.cells) (hslots : slots + (N' + N' * K') ≤ R.slots) (hz : ∀ c : ClassId, Jvm.Free.Multi.innerC c K' (defaultValue ty) = vp_cell c z) (hdg : decode cc pc = .ok (.multianewarray index 2, 4))
    (kk : ∀ (q : Nat) (r : Nat → Nat) (cA : ClassId) (H1 : Heap), (∀ i j : Nat, i < N' → j < N' → r i = r j → i = j) → (∀ i : Nat, i < N' → r i ∉ L) → va_K D cl (tys ++ [(cA, .array ty)]) s →
      va_P D cl ((X ++ [(q, .inl (cA, N', .inr (.inr (.inr (.inr (fun i => if i < N' then some (r i) else none))))))]) ++ va_pl (L ++ (List.range N').map r) (vr_up f ((List.range N').map r) (.inl (cy, z)))) H1 → va_D A ((X ++ [(q, .inl (cA, N', .inr (.inr (.inr (.inr (fun i => if i < N' then some (r i) else none))))))]) ++ va_pl (L ++ (List.range N').map r) (vr_up f ((List.range N').map r) (.inl (cy, z)))) → va_S A H0 H1 locs →
      W p l e R s m args below meth c H1 locs (cells + 1 + N') (slots + N' + N' * K') Q (F0 m (pc + 4) ls (.ref q :: rest))) : W p l e R s m args below meth c H locs cells slots Q (F0 m pc ls (.int k :: .int n :: rest)) := by
  subst hN
  subst hM
  intro T hT Xs
  obtain ⟨vm₁, cA, comp, -, fA, fC, hO, -, X', step⟩ := Xs.multianewarray2F hexec hown hclink (va_AOA.use hover) harr (g := F0 m pc ls (.int k :: .int n :: rest)) rfl (by rw [hb]; exact hdg) rfl hn hk hb1 hb2 hb3 hdf hdd hcells hslots
  have ec : some cy = some comp := hcy.symm.trans fC
  cases ec
  generalize hF : Jvm.Free.Multi.fill (T.setVm vm₁) cA cy n.toNatClampNeg k.toNatClampNeg (defaultValue ty) n.toNatClampNeg = F at X' step
  have hTh : (T.setVm vm₁).heap = H := hT
  obtain ⟨f1, f2, -, -⟩ := Jvm.Free.Multi.fill_facts (T.setVm vm₁) cA cy n.toNatClampNeg k.toNatClampNeg (defaultValue ty) n.toNatClampNeg
  rw [hF, hTh] at f1 f2
  have hold : ∀ x : Nat, x < H.size → F.heap[x]? = H[x]? := fun x hx => by
    have := Jvm.Free.Multi.fill_old (T.setVm vm₁) cA cy n.toNatClampNeg k.toNatClampNeg (defaultValue ty) (a := x) (by rw [hTh]; exact hx) n.toNatClampNeg
    rw [hF, hTh] at this
    exact this
  have hrow : ∀ j : Nat, j < n.toNatClampNeg → F.heap[H.size + 1 + j]? = some (vp_cell cy z) := fun j hj => by
    have := Jvm.Free.Multi.fill_inner (T.setVm vm₁) cA cy n.toNatClampNeg k.toNatClampNeg (defaultValue ty) n.toNatClampNeg j hj
    rw [hF, hTh, hz] at this
    exact this
  have hout : Jvm.Free.Multi.outerC cA n.toNatClampNeg H.size n.toNatClampNeg = vp_cell cA (n.toNatClampNeg, .inr (.inr (.inr (.inr (fun i => if i < n.toNatClampNeg then some (H.size + 1 + i) else none))))) := by
    rw [vp_cell_q]
    exact vr_outer cA n.toNatClampNeg H.size n.toNatClampNeg
  rw [hout] at f2
  have hlt : ∀ a, a ∈ L → a < H.size := fun a ha => by
    obtain ⟨k9, hk9⟩ := va_pl_get (X := X) (f := f) ha
    exact (hP k9 _ hk9).lt
  have hnl : ∀ i : Nat, i < n.toNatClampNeg → H.size + 1 + i ∉ L := fun i _ h => by
    have := hlt _ h
    omega
  have hnm : ∀ a, a ∈ (List.range n.toNatClampNeg).map (fun i => H.size + 1 + i) → a ∉ L := fun a ha h => by
    obtain ⟨i, -, rfl⟩ := List.mem_map.mp ha
    have := hlt _ h
    omega
  have hP0 : va_P D cl (X ++ va_pl L f) F.heap := hP.kept (fun k9 x hx => hold x.1 ((hP k9 x hx).lt))
  have hP1 : va_P D cl ((X ++ va_pl L f) ++ [(H.size, .inl (cA, n.toNatClampNeg, .inr (.inr (.inr (.inr (fun i => if i < n.toNatClampNeg then some (H.size + 1 + i) else none))))))]) F.heap := hP0.app (fun k9 x hx => by
    have h0 : k9 < 1 := (List.getElem?_eq_some_iff.mp hx).1
    rw [show k9 = 0 by omega] at hx
    cases hx
    exact f2)
  have hP2 : va_P D cl (((X ++ va_pl L f) ++ [(H.size, .inl (cA, n.toNatClampNeg, .inr (.inr (.inr (.inr (fun i => if i < n.toNatClampNeg then some (H.size + 1 + i) else none))))))]) ++ ((List.range n.toNatClampNeg).map (fun i => H.size + 1 + i)).map (fun a => (a, .inl (cy, z)))) F.heap := hP1.app (fun k9 x hx => by
    obtain ⟨a, ha, rfl⟩ := List.mem_map.mp (List.mem_of_getElem? hx)
    obtain ⟨i, hi, rfl⟩ := List.mem_map.mp ha
    exact hrow i (List.mem_range.mp hi))
  have hD2 : va_D A (((X ++ va_pl L f) ++ [(H.size, .inl (cA, n.toNatClampNeg, .inr (.inr (.inr (.inr (fun i => if i < n.toNatClampNeg then some (H.size + 1 + i) else none))))))]) ++ ((List.range n.toNatClampNeg).map (fun i => H.size + 1 + i)).map (fun a => (a, .inl (cy, z)))) := by
    have hD1 := hD.push (e := .inl (cA, n.toNatClampNeg, .inr (.inr (.inr (.inr (fun i => if i < n.toNatClampNeg then some (H.size + 1 + i) else none)))))) hP rfl (hA _ hS.1)
    generalize hW1 : (X ++ va_pl L f) ++ [(H.size, .inl (cA, n.toNatClampNeg, .inr (.inr (.inr (.inr (fun i => if i < n.toNatClampNeg then some (H.size + 1 + i) else none))))))] = W1 at hD1 hP1 ⊢
    have hle : ∀ (k9 : Nat) (x : Nat × va_E), W1[k9]? = some x → x.1 ≤ H.size := fun k9 x hx => by
      rw [← hW1] at hx
      by_cases hl : k9 < (X ++ va_pl L f).length
      · rw [List.getElem?_append_left hl] at hx
        exact Nat.le_of_lt ((hP k9 x hx).lt)
      · rw [List.getElem?_append_right (by omega)] at hx
        have h0 : k9 - (X ++ va_pl L f).length < 1 := (List.getElem?_eq_some_iff.mp hx).1
        rw [show k9 - (X ++ va_pl L f).length = 0 by omega] at hx
        cases hx
        exact Nat.le_refl _
    have hr : ∀ (k9 : Nat) (x : Nat × va_E), (((List.range n.toNatClampNeg).map (fun i => H.size + 1 + i)).map (fun a => ((a, .inl (cy, z)) : Nat × va_E)))[k9]? = some x → x.1 = H.size + 1 + k9 := fun k9 x hx => by
      rw [List.getElem?_map, List.getElem?_map] at hx
      by_cases h9 : k9 < n.toNatClampNeg
      · rw [List.getElem?_range h9] at hx
        cases hx
        rfl
      · have hn0 : (List.range n.toNatClampNeg)[k9]? = none := List.getElem?_eq_none (by rw [List.length_range]; omega)
        rw [hn0] at hx
        cases hx
    refine ⟨fun i j x y hi hj hxy => ?_, fun k9 x hx => ?_⟩
    · by_cases h1 : i < W1.length <;> by_cases h2 : j < W1.length
      · rw [List.getElem?_append_left h1] at hi
        rw [List.getElem?_append_left h2] at hj
        exact hD1.1 i j x y hi hj hxy
      · rw [List.getElem?_append_left h1] at hi
        rw [List.getElem?_append_right (by omega)] at hj
        have := hle _ _ hi
        have := hr _ _ hj
        omega
      · rw [List.getElem?_append_right (by omega)] at hi
        rw [List.getElem?_append_left h2] at hj
        have := hle _ _ hj
        have := hr _ _ hi
        omega
      · rw [List.getElem?_append_right (by omega)] at hi hj
        have := hr _ _ hi
        have := hr _ _ hj
        omega
    · by_cases h1 : k9 < W1.length
      · rw [List.getElem?_append_left h1] at hx
        exact hD1.2 k9 x hx
      · rw [List.getElem?_append_right (by omega)] at hx
        have := hr _ _ hx
        exact hA _ (by have := hS.1; omega)
  have hAr : ArrOfT s cA (.array ty) := fun N9 z9 => by
    obtain ⟨-, k9, hk9, cm9, hkk9⟩ := (hO 0 0 0).1
    exact ⟨(fun q hq => by cases hq), k9, hk9, cm9, hkk9⟩
  have hK2 : va_K D cl (tys ++ [(cA, .array ty)]) s := ⟨hK.1, fun k9 x hx => by
    by_cases hl : k9 < tys.length
    · rw [List.getElem?_append_left hl] at hx
      exact hK.2 k9 x hx
    · rw [List.getElem?_append_right (by omega)] at hx
      have h0 : k9 - tys.length < 1 := (List.getElem?_eq_some_iff.mp hx).1
      rw [show k9 - tys.length = 0 by omega] at hx
      cases hx
      exact ⟨hAr, fA⟩⟩
  obtain ⟨t, a1, b1⟩ := kk H.size (fun i => H.size + 1 + i) cA F.heap (fun i j _ _ h => by have h9 : H.size + 1 + i = H.size + 1 + j := h; omega) hnl hK2 (by rw [← vr_rows hnm]; exact vr_lay hP2) (by rw [← vr_rows hnm]; exact vr_layD hD2) ⟨by rw [f1]; have := hS.1; omega, fun x h1 h2 => (hold x (Nat.lt_of_lt_of_le h1 hS.1)).trans (hS.2.1 x h1 h2), hS.2.2⟩ F rfl X'
  refine ⟨t, step t ?_, b1⟩
  have e : T.heap.size = H.size := by rw [hT]
  rw [e]
  exact a1
end VGM
/-! ===== END ===== -/

/-! ===== BEGIN exceptions that leave a method, and their catching by the caller (launches without stack traces) ===== -/
section VXA
/-! The laws vx_back, vx_callV, vx_callS, vx_callSW, vx_throw0, vx_throwS follow proofs of the library, with one case more: JvmDerived/Free/Laws.lean (Back.of_free), Shelf42/LK1.lean (callV, callS), Shelf/KitTraced.lean (throwNew0V, throwNewS). -/
/-- where a method has thrown q: the class by its name, the cell, what was written, the world -/
def vx_T (XC : String → State → State → Prop) (st : State) (q : Addr) (t : State) (mc ms : Nat) (free : Addr → Prop) : Prop :=
  ∃ (E : String) (ce : Cell) (L : List Loc), XC E st t ∧ t.heap[q]? = some ce ∧ ce.vm = .none ∧ st.vm.findClass E = some ce.cls ∧ st.WarmedH t.vm ∧ st.sameButNew ({ t with vm := st.vm } : State) L mc ms ∧ ∀ z ∈ L, free z.base
def vx_Q (Qc : Array Value → State → Outcome → State → Prop) (XC : String → State → State → Prop) (mc ms : Nat) (free : Addr → Prop) : Array Value → State → Outcome → State → Prop := fun a st o t =>
  (Qc a st o t ∧ ∃ L, FrameEnd st o t L mc ms ∧ ∀ q ∈ L, free q.base) ∨ ∃ q, o = .threw q ∧ vx_T XC st q t mc ms free
/-- a callee that returns or throws -/
def vx_Met (l : Launch) (y : MethodName) (ws : List Cond) (rm : Room) (Pc : Array Value → State → Prop) (Qc : Array Value → State → Outcome → State → Prop) (XC : String → State → State → Prop) (mc ms : Nat) (free : Addr → Prop) : Prop :=
  MetFree l y (headSpec ws rm) Pc (fun _ _ _ _ _ => True) (vx_Q Qc XC mc ms free)
def vx_Post (XC : String → State → State → Prop) (mc ms : Nat) (free : Addr → Prop) : Pt → Array Value → Addr → Pt → Prop := fun A a q B =>
  ∃ (g : JFrame) (mk : MethodId) (t : State) (L : List Loc) (E : String) (ce : Cell), B.U.heap = t.heap ∧ B.U.vm = t.vm ∧ XC E (A.U.calling g mk a) t ∧ t.heap[q]? = some ce ∧ ce.vm = .none ∧ A.U.vm.findClass E = some ce.cls ∧ B.locs = A.locs ++ L ∧ (∀ z ∈ L, free z.base) ∧ B.cells = A.cells + mc ∧ B.slots = A.slots + ms
def vx_Back (l : Launch) (R : Room) (p : Program) (e : Env) (below : List Frame) (s : State) (sargs : Array Value) (y : MethodName) (len W9 : Nat)
    (Pre : Pt → Array Value → Prop) (Post : Pt → Array Value → Option Value → Pt → Prop) (PostX : Pt → Array Value → Addr → Pt → Prop) : Prop :=
  ∀ (m : MethodId) (meth : Method) (c : Code) (A : Pt) (g : JFrame) (ig : Instr) (mk : MethodId) (a : Array Value),
    Stand p l e R s m sargs below meth c A.U A.locs A.cells A.slots → g.method = m → g.locals.size = c.maxLocals → decode c.code g.pc = .ok (ig, len) →
    2 * g.monitorRoom + (g.stack.map fun v => v.category).sum ≤ W9 → A.U.methodNamed? y = some mk → Pre A a →
    (∃ (v : Option Value) (B : Pt), Stand p l e R s m sargs below meth c B.U B.locs B.cells B.slots ∧ Post A a v B ∧
      Steps p.tables e below (doInvoke e (A.U.setTop g) [] mk a).1 (B.U.setTop { g with pc := g.pc + len, stack := v.toList ++ g.stack })) ∨
    (∃ (q : Addr) (B : Pt), Stand p l e R s m sargs below meth c B.U B.locs B.cells B.slots ∧ PostX A a q B ∧
      Steps p.tables e below (doInvoke e (A.U.setTop g) [] mk a).1 ((B.U.setTop g).pushFrame (.throwing q)))
section Payer
variable {l : Launch} {R : Room} {p : Program} {e : Env} {below : List Frame} {s : State} {sargs : Array Value} {y : MethodName} {len W9 : Nat}
theorem vx_back {ws : List Cond} {rm : Room} {Pc : Array Value → State → Prop} {Qc : Array Value → State → Outcome → State → Prop} {XC : String → State → State → Prop} {mc ms : Nat} {free : Addr → Prop} {bytes : ByteArray} {maxL : Nat} {ret : Option FieldType}
    (hM : vx_Met l y ws rm Pc Qc XC mc ms free) (hblind : FrameBlind Pc) (hrc : rm.cells = mc) (hrs : rm.slots = ms)
    (hframes : rm.frames + 1 ≤ R.frames) (hlocals : W9 + (maxL + 11) + rm.locals ≤ R.locals)
    (hws : ∀ w ∈ ws, ∀ a' U, s.WarmedH U.vm → w.before a' U = true) (hcode : Cond.code y bytes maxL ret ∈ ws) (hinit : ∀ a' U, s.WarmedH U.vm → (Cond.initialized y.cls).before a' U = true) :
    vx_Back l R p e below s sargs y len W9 (PreOf R mc ms Pc) (PostOf Qc mc ms free) (vx_Post XC mc ms free) := by
  intro m meth c A g ig mk a X hg hsize hdg hW hn hp
  have h1 : (headSpec ws rm).pre.before a A.U = true := atoms_intro fun w hw => hws w hw _ _ X.warmed
  have h2 : (Cond.code y bytes maxL ret).before a A.U = true := hws _ hcode _ _ X.warmed
  have h3 : (Cond.initialized y.cls).before a A.U = true := hinit _ _ X.warmed
  have h4 : A.cells + (headSpec ws rm).room.cells ≤ R.cells := by rw [show (headSpec ws rm).room.cells = mc from hrc]; exact hp.1
  have h5 : A.slots + (headSpec ws rm).room.slots ≤ R.slots := by rw [show (headSpec ws rm).room.slots = ms from hrs]; exact hp.2.1
  have hPc : Pc a (A.U.calling g mk a) := hblind _ _ _ _ hp.2.2
  obtain ⟨U, Ls, c0, s0⟩ := A
  dsimp only [Pt.U, Pt.locs, Pt.cells, Pt.slots] at h1 h2 h3 h4 h5 X hn hPc ⊢
  obtain ⟨methY, cY, hmY, hcY, -, hlY, -, -, -, -⟩ := Cond.code_spec hn h2
  obtain ⟨kY, hkY, -⟩ := className_of_methodNamed hn
  have hinitY : kY.init = .initialized := Cond.initialized_spec (findClass_of_methodNamed hn) hkY h3
  have h : At U g.method c below := by rw [hg]; exact X.here
  have hlocals9 : W9 + (maxL + 11) + (headSpec ws rm).room.locals ≤ R.locals := hlocals
  have happ : (headSpec ws rm).appliesLoose y e.platform (U.calling g mk a) = true :=
    Spec.appliesLoose_calling (g := g) h hdg hn hkY hinitY
      (X.room_calling (g := g) (R' := (headSpec ws rm).room) hsize hmY hcY hframes (by rw [hlY]; omega) h4 h5) h1
  obtain ⟨mid, hmid⟩ := h.above
  have hfr : (U.setTop g).frames = (.java g :: mid) ++ below := by rw [State.frames_setTop' g h.top, hmid]; rfl
  obtain ⟨o, s₂, hsteps, -, hend, hq⟩ := Steps.callFree hM p X.admits X.cas X.clock (acts := []) hfr happ hPc trivial
  have hq' : vx_Q Qc XC mc ms free a (U.calling g mk a) o s₂ := hq
  rw [State.frames_setTop' g h.top] at hend
  obtain ⟨g₀, hg0⟩ := Option.isSome_iff_exists.mp h.top
  obtain ⟨r, hr⟩ := State.topJava?_eq_some.mp hg0
  have hr' : (({ U with heap := s₂.heap, slotsUsed := s₂.slotsUsed } : State).setVm s₂.vm).frames = .java g₀ :: r := hr
  rcases hq' with ⟨hqc, L, hfe, hL⟩ | ⟨q, rfl, E, ce, L, hx, hce, hcv, hcl, hW₂, hsm, hL⟩
  · obtain ⟨⟨v, rfl⟩, hW₂, e2, q2, q3, q4, q5, q6⟩ := id hfe
    have e3 : s₂ = ({ (U.calling g mk a).setFrames s₂.frames with heap := s₂.heap, slotsUsed := s₂.slotsUsed } : State).setVm s₂.vm := by
      have : s₂ = ({ s₂ with vm := (U.calling g mk a).vm } : State).setVm s₂.vm := rfl
      rw [e2] at this
      exact this
    obtain ⟨c₂, i₂, len₂, hc₂, hd₂, hf₂⟩ := hend
    have hW' : U.WarmedH s₂.vm := hW₂
    have hcc : c₂ = c := by
      have h1 : s₂.code? g.method = U.code? g.method := by
        rw [State.code?_eq, State.code?_eq, hW'.alike.method?]
      exact Option.some.inj (hc₂.symm.trans (h1.trans h.code))
    subst hcc
    have hlen : len₂ = len := by rw [hdg] at hd₂; cases hd₂; rfl
    subst hlen
    have hs₂ : s₂ = (({ U with heap := s₂.heap, slotsUsed := s₂.slotsUsed } : State).setVm s₂.vm).setTop { g with pc := g.pc + len₂, stack := v.toList ++ g.stack } := by
      refine e3.trans ?_
      rw [hf₂, State.calling_eq h.top, State.setFrames_setFrames, State.setTop_of_frames _ hr', hr]
      rfl
    have hsame : U.sameButNew ({ U with heap := s₂.heap, slotsUsed := s₂.slotsUsed } : State) L mc ms := by
      refine ⟨?_, q2, q3, q4, q5, q6⟩
      obtain ⟨t, ht, -⟩ := State.frames_cons hr
      show ({ U with heap := s₂.heap, slotsUsed := s₂.slotsUsed } : State) = { U.setFrames U.frames with heap := s₂.heap, slotsUsed := s₂.slotsUsed }
      rw [State.setFrames_self ht]
    subst hg
    refine Or.inl ⟨v, ⟨(({ U with heap := s₂.heap, slotsUsed := s₂.slotsUsed } : State).setVm s₂.vm), Ls ++ L, c0 + mc, s0 + ms⟩,
      ⟨X.admits, X.cas, X.clock, X.frames, X.room, X.hears, X.method, X.code, (X.here.setHeapUsed s₂.heap s₂.slotsUsed).setVm hW'.alike, X.tail, State.WarmedH.trans X.warmed hW', X.limits, X.bytes, X.same.trans (hsame.setVm s.vm)⟩,
      ⟨g, mk, s₂, L, rfl, rfl, hqc, rfl, hL, rfl, rfl⟩, ?_⟩
    show Steps p.tables e below _ ((({ U with heap := s₂.heap, slotsUsed := s₂.slotsUsed } : State).setVm s₂.vm).setTop { g with pc := g.pc + len₂, stack := v.toList ++ g.stack })
    rw [← hs₂]
    exact hsteps
  · obtain ⟨e2, q2, q3, q4, q5, q6⟩ := id hsm
    have e3 : s₂ = ({ (U.calling g mk a).setFrames s₂.frames with heap := s₂.heap, slotsUsed := s₂.slotsUsed } : State).setVm s₂.vm := by
      have : s₂ = ({ s₂ with vm := (U.calling g mk a).vm } : State).setVm s₂.vm := rfl
      rw [e2] at this
      exact this
    have hf₂ : s₂.frames = .throwing q :: .java g :: U.frames.tail := hend
    have hW' : U.WarmedH s₂.vm := hW₂
    have hs₂ : s₂ = ((({ U with heap := s₂.heap, slotsUsed := s₂.slotsUsed } : State).setVm s₂.vm).setTop g).pushFrame (.throwing q) := by
      refine e3.trans ?_
      rw [hf₂, State.calling_eq h.top, State.setFrames_setFrames, State.pushFrame, State.frames_setTop _ hr', State.setTop_of_frames _ hr', State.setFrames_setFrames, hr]
      rfl
    have hsame : U.sameButNew ({ U with heap := s₂.heap, slotsUsed := s₂.slotsUsed } : State) L mc ms := by
      refine ⟨?_, q2, q3, q4, q5, q6⟩
      obtain ⟨t, ht, -⟩ := State.frames_cons hr
      show ({ U with heap := s₂.heap, slotsUsed := s₂.slotsUsed } : State) = { U.setFrames U.frames with heap := s₂.heap, slotsUsed := s₂.slotsUsed }
      rw [State.setFrames_self ht]
    subst hg
    refine Or.inr ⟨q, ⟨(({ U with heap := s₂.heap, slotsUsed := s₂.slotsUsed } : State).setVm s₂.vm), Ls ++ L, c0 + mc, s0 + ms⟩,
      ⟨X.admits, X.cas, X.clock, X.frames, X.room, X.hears, X.method, X.code, (X.here.setHeapUsed s₂.heap s₂.slotsUsed).setVm hW'.alike, X.tail, State.WarmedH.trans X.warmed hW', X.limits, X.bytes, X.same.trans (hsame.setVm s.vm)⟩,
      ⟨g, mk, s₂, L, E, ce, rfl, rfl, hx, hce, hcv, hcl, rfl, hL, rfl, rfl⟩, ?_⟩
    show Steps p.tables e below _ (((({ U with heap := s₂.heap, slotsUsed := s₂.slotsUsed } : State).setVm s₂.vm).setTop g).pushFrame (.throwing q))
    rw [← hs₂]
    exact hsteps
end Payer
section Calls
variable {p : Program} {l : Launch} {e : Env} {R : Room} {s : State} {m : MethodId} {args : Array Value} {below : List Frame} {meth : Method} {c : Code} {T : State} {locs : List Loc} {cells slots : Nat}
theorem vx_callV (X : Stand p l e R s m args below meth c T locs cells slots) (hexec : p.tables.exec = Jvm.exec) {own C : String} {index : Nat} {y : MethodName} {bytes : ByteArray} {maxL : Nat} {ret : Option FieldType}
    (hown : s.vm.findClass own = some m.cls) (hlink : (Cond.methodLink own index y).before args s = true) (hinst : (Cond.instanceMethod y).before args s = true) (hsel : (Cond.selects C y y).before args s = true)
    (hcode : (Cond.code y bytes maxL ret).before args s = true) (hy : y.cls ≠ "java/lang/invoke/MethodHandle" ∧ y.cls ≠ "java/lang/invoke/VarHandle")
    {W9 : Nat} {Pre : Pt → Array Value → Prop} {Post : Pt → Array Value → Option Value → Pt → Prop} {PostX : Pt → Array Value → Addr → Pt → Prop} (hK : vx_Back l R p e below s args y 3 W9 Pre Post PostX)
    {b : Addr} {cellB : Cell} (hcell : T.heap[b]? = some cellB) (hobj : cellB.vm.isStatics = false) (hcls : s.vm.findClass C = some cellB.cls)
    {g : JFrame} (hg : g.method = m) (hsize : g.locals.size = c.maxLocals) {argsL rest : List Value} (hlen : ∀ sig, parseMethodDescriptor y.desc = some sig → argsL.length = sig.parameters.length)
    (hstack : g.stack = argsL.reverse ++ .ref b :: rest) (hW : 2 * g.monitorRoom + (rest.map fun v => v.category).sum ≤ W9) (hdg : decode c.code g.pc = .ok (.invokevirtual index, 3))
    (hpre : ∀ vm₁, s.WarmedH vm₁ → Pre ⟨T.setVm vm₁, locs, cells, slots⟩ (Value.ref b :: argsL).toArray) :
    (∃ (v : Option Value) (vm₁ : Vm) (B : Pt), s.WarmedH vm₁ ∧ Stand p l e R s m args below meth c B.U B.locs B.cells B.slots ∧ Post ⟨T.setVm vm₁, locs, cells, slots⟩ (Value.ref b :: argsL).toArray v B ∧
      ∀ target, Steps p.tables e below (B.U.setTop { g with pc := g.pc + 3, stack := v.toList ++ rest }) target → Steps p.tables e below (T.setTop g) target) ∨
    (∃ (q : Addr) (vm₁ : Vm) (B : Pt), s.WarmedH vm₁ ∧ Stand p l e R s m args below meth c B.U B.locs B.cells B.slots ∧ PostX ⟨T.setVm vm₁, locs, cells, slots⟩ (Value.ref b :: argsL).toArray q B ∧
      Steps p.tables e below (T.setTop g) ((B.U.setTop { g with stack := rest }).pushFrame (.throwing q))) := by
  obtain ⟨mk, methM, hnamed, hmethM, hstM, habM⟩ := Cond.instanceMethod_spec hinst
  obtain ⟨methM', cM, hmethM', -, -, -, -, -, -, hsigM⟩ := Cond.code_spec hnamed hcode
  cases hmethM.symm.trans hmethM'
  obtain ⟨c2, r2, m2, q1, q2, q3, q4, kP, hkP, hkPi⟩ := Cond.selects_spec hsel
  cases hcls.symm.trans q1
  cases (State.methodFound?_of_named hnamed hy).symm.trans q2
  cases hnamed.symm.trans q3
  have hselP : selectMethod e.platform s.vm cellB.cls mk = .method mk := by rw [Launch.admits_selectMethod X.admits]; exact q4
  obtain ⟨vm₁, X₁, hstep₁⟩ := X.invokevirtual hexec hown hlink hnamed hmethM hstM hkP hkPi hy (a := b) (cell := cellB) hcell
    (fun z h => by rw [h] at hobj; cases hobj) hselP hmethM habM hkP hkPi (g := g) hg (argsL := argsL) (rest := rest) (hlen _ hsigM) hstack hdg
  rcases hK m meth c ⟨T.setVm vm₁, locs, cells, slots⟩ { g with stack := rest } (.invokevirtual index) mk (Value.ref b :: argsL).toArray X₁ hg hsize hdg hW (X₁.named hnamed) (hpre vm₁ X₁.warmed) with ⟨v, B, X', hpost, hsteps⟩ | ⟨q, B, X', hpost, hsteps⟩
  · exact Or.inl ⟨v, vm₁, B, X₁.warmed, X', hpost, fun target h => hstep₁ _ fun acts => by rw [doInvoke_state]; exact hsteps.trans h⟩
  · exact Or.inr ⟨q, vm₁, B, X₁.warmed, X', hpost, hstep₁ _ fun acts => by rw [doInvoke_state]; exact hsteps⟩
theorem vx_callS (X : Stand p l e R s m args below meth c T locs cells slots) (hexec : p.tables.exec = Jvm.exec) {own : String} {index : Nat} {y : MethodName} {bytes : ByteArray} {maxL : Nat} {ret : Option FieldType}
    (hown : s.vm.findClass own = some m.cls) (hlink : (Cond.methodLink own index y).before args s = true) (hstat : (Cond.static y).before args s = true) (hinit : (Cond.initialized y.cls).before args s = true)
    (hcode : (Cond.code y bytes maxL ret).before args s = true) (hy : y.cls ≠ "java/lang/invoke/MethodHandle" ∧ y.cls ≠ "java/lang/invoke/VarHandle")
    {W9 : Nat} {Pre : Pt → Array Value → Prop} {Post : Pt → Array Value → Option Value → Pt → Prop} {PostX : Pt → Array Value → Addr → Pt → Prop} (hK : vx_Back l R p e below s args y 3 W9 Pre Post PostX)
    {g : JFrame} (hg : g.method = m) (hsize : g.locals.size = c.maxLocals) {argsL rest : List Value} (hlen : ∀ sig, parseMethodDescriptor y.desc = some sig → argsL.length = sig.parameters.length)
    (hstack : g.stack = argsL.reverse ++ rest) (hW : 2 * g.monitorRoom + (rest.map fun v => v.category).sum ≤ W9) (hdg : decode c.code g.pc = .ok (.invokestatic index, 3))
    (hpre : ∀ vm₁, s.WarmedH vm₁ → Pre ⟨T.setVm vm₁, locs, cells, slots⟩ argsL.toArray) :
    (∃ (v : Option Value) (vm₁ : Vm) (B : Pt), s.WarmedH vm₁ ∧ Stand p l e R s m args below meth c B.U B.locs B.cells B.slots ∧ Post ⟨T.setVm vm₁, locs, cells, slots⟩ argsL.toArray v B ∧
      ∀ target, Steps p.tables e below (B.U.setTop { g with pc := g.pc + 3, stack := v.toList ++ rest }) target → Steps p.tables e below (T.setTop g) target) ∨
    (∃ (q : Addr) (vm₁ : Vm) (B : Pt), s.WarmedH vm₁ ∧ Stand p l e R s m args below meth c B.U B.locs B.cells B.slots ∧ PostX ⟨T.setVm vm₁, locs, cells, slots⟩ argsL.toArray q B ∧
      Steps p.tables e below (T.setTop g) ((B.U.setTop { g with stack := rest }).pushFrame (.throwing q))) := by
  obtain ⟨mk, hnamed⟩ := Cond.code_named hcode
  obtain ⟨methM, cM, hmethM, -, -, -, -, -, -, hsigM⟩ := Cond.code_spec hnamed hcode
  have hstatic : methM.isStatic = true := Cond.static_spec hnamed hmethM hstat
  obtain ⟨kP, hkP, -⟩ := className_of_methodNamed hnamed
  have hinitP : kP.init = .initialized := Cond.initialized_spec (findClass_of_methodNamed hnamed) hkP hinit
  obtain ⟨vm₁, X₁, hstep₁⟩ := X.invokestatic hexec hown hlink hnamed hmethM hstatic hkP hinitP hy (g := g) hg (argsL := argsL) (rest := rest) (hlen _ hsigM) hstack hdg
  rcases hK m meth c ⟨T.setVm vm₁, locs, cells, slots⟩ { g with stack := rest } (.invokestatic index) mk argsL.toArray X₁ hg hsize hdg hW (X₁.named hnamed) (hpre vm₁ X₁.warmed) with ⟨v, B, X', hpost, hsteps⟩ | ⟨q, B, X', hpost, hsteps⟩
  · exact Or.inl ⟨v, vm₁, B, X₁.warmed, X', hpost, fun target h => hstep₁ _ fun acts => by rw [doInvoke_state]; exact hsteps.trans h⟩
  · exact Or.inr ⟨q, vm₁, B, X₁.warmed, X', hpost, hstep₁ _ fun acts => by rw [doInvoke_state]; exact hsteps⟩
end Calls
theorem vx_cls {s : State} {T : State} {vm₁ : Vm} {E : String} {k : ClassId} (hW : s.WarmedH vm₁) (h : (T.setVm vm₁).vm.findClass E = some k) : s.vm.findClass E = some k := by
  have h1 : vm₁.findClass E = some k := h
  rw [hW.alike.findClass] at h1
  exact h1
/-- the method's frame g, with q thrown over it -/
def vx_W (p : Program) (l : Launch) (e : Env) (R : Room) (s : State) (m : MethodId) (args : Array Value) (below : List Frame) (meth : Method) (c : Code) (H : Heap) (locs : List Loc) (cells slots : Nat) (Q : State → Prop) (g : JFrame) (q : Addr) : Prop :=
  ∀ T : State, T.heap = H → Stand p l e R s m args below meth c T locs cells slots → ∃ t, Steps p.tables e below ((T.setTop g).pushFrame (.throwing q)) t ∧ Q t
def vx_Run (p : Program) (l : Launch) (e : Env) (R : Room) (s : State) (m : MethodId) (args : Array Value) (below : List Frame) (meth : Method) (c : Code) (H : Heap) (locs : List Loc) (cells slots mc ms : Nat) (g : JFrame) (rest : List Value) (Qa : State → Outcome → State → Prop) (XC : String → State → State → Prop) (free : Addr → Prop) : Prop :=
  ∀ T : State, T.heap = H → Stand p l e R s m args below meth c T locs cells slots →
    (∃ (v : Option Value) (st₀ t T' : State) (L : List Loc), st₀.heap = H ∧ Stand p l e R s m args below meth c T' (locs ++ L) (cells + mc) (slots + ms) ∧ (∀ q ∈ L, free q.base) ∧ T'.heap = t.heap ∧ T'.vm = t.vm ∧ Qa st₀ (.returned v) t ∧
      Goes p e below T g T' { g with pc := g.pc + 3, stack := v.toList ++ rest }) ∨
    (∃ (q : Addr) (st₀ t T' : State) (L : List Loc) (E : String) (ce : Cell), st₀.heap = H ∧ Stand p l e R s m args below meth c T' (locs ++ L) (cells + mc) (slots + ms) ∧ (∀ z ∈ L, free z.base) ∧ T'.heap = t.heap ∧ T'.vm = t.vm ∧ XC E st₀ t ∧ t.heap[q]? = some ce ∧ ce.vm = .none ∧ s.vm.findClass E = some ce.cls ∧
      Steps p.tables e below (T.setTop g) ((T'.setTop { g with stack := rest }).pushFrame (.throwing q)))
def vx_X {S : Type} (px : S → Prop) (B : String → S → State → Prop) (A : Nat → Prop) : String → State → State → Prop := fun E st t => ∃ u : S, px u ∧ B E u t ∧ va_F A st t
section Runs
variable {p : Program} {l : Launch} {e : Env} {R : Room} {s : State} {m : MethodId} {args : Array Value} {below : List Frame} {meth : Method} {c : Code} {H : Heap} {locs : List Loc} {cells slots : Nat}
variable {y : MethodName} {bytes cc : ByteArray} {maxL nL mc ms n index : Nat} {ret : Option FieldType} {ws : List Cond} {rm : Room} {Pc : Array Value → State → Prop} {Qc : Array Value → State → Outcome → State → Prop} {XC : String → State → State → Prop} {free : Addr → Prop} {Ts : List Cond} {own C : String} {b : Addr} {As rest : List Value} {g : JFrame}
theorem vx_callBack (cb : CallB R s args own index y bytes maxL ret ws rm mc ms n) (hM : vx_Met l y ws rm Pc Qc XC mc ms free) (hbl : FrameBlind Pc) : vx_Back l R p e below s args y 3 8 (PreOf R mc ms Pc) (PostOf Qc mc ms free) (vx_Post XC mc ms free) := by
  obtain ⟨hrc, hrs, hfr, hlo, hws, hcw, -, hini, -⟩ := cb
  exact vx_back (bytes := bytes) (maxL := maxL) (ret := ret) hM hbl hrc hrs hfr hlo hws hcw (fun a' U hW => word_at hW (Or.inl (by first | rfl | simp [Cond.onTables, Cond.keeps, Cond.steady])) hini)
theorem vx_runV (S : CallFix p m c cc nL s args Ts own) (hM : vx_Met l y ws rm Pc Qc XC mc ms free) (cw : CallW R s args own C index y bytes maxL ret ws rm mc ms n) (hp : PreV s H C b Pc As)
    (hg : g.method = m) (hn : As.length = n) (hsize : g.locals.size = nL) (hstack : g.stack = As.reverse ++ .ref b :: rest) (hW : 2 * g.monitorRoom + (rest.map fun v => v.category).sum ≤ 8) (hdg : decode cc g.pc = .ok (.invokevirtual index, 3)) (hf : cells + mc ≤ R.cells ∧ slots + ms ≤ R.slots) :
    vx_Run p l e R s m args below meth c H locs cells slots mc ms g rest (Qc (Value.ref b :: As).toArray) XC free := by
  have hK : vx_Back l R p e below s args y 3 8 (PreOf R mc ms Pc) (PostOf Qc mc ms free) (vx_Post XC mc ms free) := vx_callBack cw.1 hM hp.1
  obtain ⟨⟨-, -, -, -, -, -, hcode, -, hy, hlen, hl⟩, hin, hse⟩ := cw
  obtain ⟨hx, hb, hml, ho, -⟩ := S
  obtain ⟨-, ⟨cellB, hcB, hoB, hclB⟩, hPc⟩ := hp
  intro T hT X
  rcases vx_callV X hx (C := C) (bytes := bytes) (maxL := maxL) (ret := ret) ho hl hin hse hcode hy hK (by rw [hT]; exact hcB) hoB hclB hg (hsize.trans hml.symm) (argsL := As) (rest := rest) (fun sig h => hn.trans (hlen sig h)) hstack hW (by rw [hb]; exact hdg)
    (fun vm₁ hW₁ => ⟨hf.1, hf.2, hPc (T.setVm vm₁) hT hW₁⟩) with ⟨v, vm₁, ⟨U', l2, c2, s2⟩, hW₁, X', ⟨g', mk, t, L, e1, e2, hq, h1, hL, h2, h3⟩, st⟩ | ⟨q, vm₁, ⟨U', l2, c2, s2⟩, hW₁, X', ⟨g', mk, t, L, E, ce, e1, e2, hq, hce, hcv, hcl, h1, hL, h2, h3⟩, st⟩
  · dsimp only [Pt.U, Pt.locs, Pt.cells, Pt.slots] at X' e1 e2 h1 h2 h3 st
    subst h1; subst h2; subst h3
    exact Or.inl ⟨v, (T.setVm vm₁).calling g' mk (Value.ref b :: As).toArray, t, U', L, hT, X', hL, e1, e2, hq, st⟩
  · dsimp only [Pt.U, Pt.locs, Pt.cells, Pt.slots] at X' e1 e2 h1 h2 h3 st hcl
    subst h1; subst h2; subst h3
    exact Or.inr ⟨q, (T.setVm vm₁).calling g' mk (Value.ref b :: As).toArray, t, U', L, E, ce, hT, X', hL, e1, e2, hq, hce, hcv, vx_cls hW₁ hcl, st⟩
theorem vx_runS (S : CallFix p m c cc nL s args Ts own) (hM : vx_Met l y ws rm Pc Qc XC mc ms free) (cw : CallB R s args own index y bytes maxL ret ws rm mc ms n ∧ (Cond.static y).before args s = true) (hp : PreS s H Pc As)
    (hg : g.method = m) (hn : As.length = n) (hsize : g.locals.size = nL) (hstack : g.stack = As.reverse ++ rest) (hW : 2 * g.monitorRoom + (rest.map fun v => v.category).sum ≤ 8) (hdg : decode cc g.pc = .ok (.invokestatic index, 3)) (hf : cells + mc ≤ R.cells ∧ slots + ms ≤ R.slots) :
    vx_Run p l e R s m args below meth c H locs cells slots mc ms g rest (Qc As.toArray) XC free := by
  have hK : vx_Back l R p e below s args y 3 8 (PreOf R mc ms Pc) (PostOf Qc mc ms free) (vx_Post XC mc ms free) := vx_callBack cw.1 hM hp.1
  obtain ⟨⟨-, -, -, -, -, -, hcode, hini, hy, hlen, hl⟩, hstt⟩ := cw
  obtain ⟨hx, hb, hml, ho, -⟩ := S
  intro T hT X
  rcases vx_callS X hx (bytes := bytes) (maxL := maxL) (ret := ret) ho hl hstt hini hcode hy hK hg (hsize.trans hml.symm) (argsL := As) (rest := rest) (fun sig h => hn.trans (hlen sig h)) hstack hW (by rw [hb]; exact hdg)
    (fun vm₁ hW₁ => ⟨hf.1, hf.2, hp.2 (T.setVm vm₁) hT hW₁⟩) with ⟨v, vm₁, ⟨U', l2, c2, s2⟩, hW₁, X', ⟨g', mk, t, L, e1, e2, hq, h1, hL, h2, h3⟩, st⟩ | ⟨q, vm₁, ⟨U', l2, c2, s2⟩, hW₁, X', ⟨g', mk, t, L, E, ce, e1, e2, hq, hce, hcv, hcl, h1, hL, h2, h3⟩, st⟩
  · dsimp only [Pt.U, Pt.locs, Pt.cells, Pt.slots] at X' e1 e2 h1 h2 h3 st
    subst h1; subst h2; subst h3
    exact Or.inl ⟨v, (T.setVm vm₁).calling g' mk As.toArray, t, U', L, hT, X', hL, e1, e2, hq, st⟩
  · dsimp only [Pt.U, Pt.locs, Pt.cells, Pt.slots] at X' e1 e2 h1 h2 h3 st hcl
    subst h1; subst h2; subst h3
    exact Or.inr ⟨q, (T.setVm vm₁).calling g' mk As.toArray, t, U', L, E, ce, hT, X', hL, e1, e2, hq, hce, hcv, vx_cls hW₁ hcl, st⟩
end Runs
section Rows
variable {p : Program} {l : Launch} {e : Env} {R : Room} {s : State} {m : MethodId} {args : Array Value} {below : List Frame} {meth : Method} {c : Code} {H : Heap} {locs : List Loc} {cells slots : Nat} {Q : State → Prop}
variable {mc ms : Nat} {free : Addr → Prop} {A0 A1 : Nat → Prop} {H0 : Heap} {a : Array Value} {pc : Nat} {ls : Array Slot} {st0 rest : List Value}
theorem vx_keep {st₀ t T' : State} {L : List Loc} (h0 : st₀.heap = H) (e1 : T'.heap = t.heap) (hS : va_S A0 H0 H locs) (hA : ∀ q, q < H.size → A1 q → A0 q) (hf : ∀ q, free q → A0 q) (hL : ∀ q ∈ L, free q.base) (hF : va_F A1 st₀ t) :
    H.size ≤ T'.heap.size ∧ (∀ q : Nat, q < H.size → ¬ A1 q → T'.heap[q]? = H[q]?) ∧ va_S A0 H0 T'.heap (locs ++ L) := by
  obtain ⟨hz, hk⟩ := hF
  rw [h0] at hz hk
  exact ⟨by rw [e1]; exact hz, fun q h1 h2 => by rw [e1]; exact hk q h1 h2,
    ⟨Nat.le_trans hS.1 (by rw [e1]; exact hz), fun q h1 h2 => by rw [e1, hk q (Nat.lt_of_lt_of_le h1 hS.1) (fun z => h2 (hA q (Nat.lt_of_lt_of_le h1 hS.1) z))]; exact hS.2.1 q h1 h2, fun q hq => by
      rcases List.mem_append.mp hq with h | h
      · exact hS.2.2 q h
      · exact hf _ (hL q h)⟩⟩
theorem vx_calli {S SX : Type} {post : Int32 → S → Prop} {px : SX → Prop} {B : S → State → Prop} {BX : String → SX → State → Prop} {AX : Nat → Prop} (hr : vx_Run p l e R s m args below meth c H locs cells slots mc ms (F0 m pc ls st0) rest (va_Qi post B A1 a) (vx_X px BX AX) free) (hS : va_S A0 H0 H locs) (hA : ∀ q, q < H.size → A1 q → A0 q) (hf : ∀ q, free q → A0 q) (hAX : ∀ q, q < H.size → AX q → A0 q)
    (kx : ∀ (E : String) (ce : Cell) (q9 : Addr) (u : SX) (t : State) (H1 : Heap) (locs1 : List Loc), t.heap = H1 → s.vm.Alike t.vm → px u → BX E u t → H.size ≤ H1.size → (∀ q : Nat, q < H.size → ¬ AX q → H1[q]? = H[q]?) → va_S A0 H0 H1 locs1 → H1[q9]? = some ce → ce.vm = .none → s.vm.findClass E = some ce.cls → vx_W p l e R s m args below meth c H1 locs1 (cells + mc) (slots + ms) Q (F0 m pc ls rest) q9)
    (kk : ∀ (r : Int32) (u : S) (t : State) (H1 : Heap) (locs1 : List Loc), t.heap = H1 → s.vm.Alike t.vm → post r u → B u t → H.size ≤ H1.size → (∀ q : Nat, q < H.size → ¬ A1 q → H1[q]? = H[q]?) → va_S A0 H0 H1 locs1 → W p l e R s m args below meth c H1 locs1 (cells + mc) (slots + ms) Q (F0 m (pc + 3) ls (.int r :: rest))) : W p l e R s m args below meth c H locs cells slots Q (F0 m pc ls st0) := by
  intro T hT X
  rcases hr T hT X with ⟨v, st₀, t, T', L, h0, X', hL, e1, e2, ⟨⟨r, u, hv, hp, hb⟩, hF⟩, st⟩ | ⟨q, st₀, t, T', L, E, ce, h0, X', hL, e1, e2, ⟨u, hp, hb, hF⟩, hce, hcv, hcl, st⟩
  · cases hv
    obtain ⟨k1, k2, k3⟩ := vx_keep h0 e1 hS hA hf hL hF
    obtain ⟨t2, a1, b1⟩ := kk r u t T'.heap (locs ++ L) e1.symm (by rw [← e2]; exact X'.warmed.alike) hp hb k1 k2 k3 T' rfl X'
    exact ⟨t2, st t2 a1, b1⟩
  · obtain ⟨k1, k2, k3⟩ := vx_keep h0 e1 hS hAX hf hL hF
    obtain ⟨t2, a1, b1⟩ := kx E ce q u t T'.heap (locs ++ L) e1.symm (by rw [← e2]; exact X'.warmed.alike) hp hb k1 k2 k3 (by rw [e1]; exact hce) hcv hcl T' rfl X'
    exact ⟨t2, st.trans a1, b1⟩
theorem vx_calll {S SX : Type} {post : Int64 → S → Prop} {px : SX → Prop} {B : S → State → Prop} {BX : String → SX → State → Prop} {AX : Nat → Prop} (hr : vx_Run p l e R s m args below meth c H locs cells slots mc ms (F0 m pc ls st0) rest (va_Ql post B A1 a) (vx_X px BX AX) free) (hS : va_S A0 H0 H locs) (hA : ∀ q, q < H.size → A1 q → A0 q) (hf : ∀ q, free q → A0 q) (hAX : ∀ q, q < H.size → AX q → A0 q)
    (kx : ∀ (E : String) (ce : Cell) (q9 : Addr) (u : SX) (t : State) (H1 : Heap) (locs1 : List Loc), t.heap = H1 → s.vm.Alike t.vm → px u → BX E u t → H.size ≤ H1.size → (∀ q : Nat, q < H.size → ¬ AX q → H1[q]? = H[q]?) → va_S A0 H0 H1 locs1 → H1[q9]? = some ce → ce.vm = .none → s.vm.findClass E = some ce.cls → vx_W p l e R s m args below meth c H1 locs1 (cells + mc) (slots + ms) Q (F0 m pc ls rest) q9)
    (kk : ∀ (r : Int64) (u : S) (t : State) (H1 : Heap) (locs1 : List Loc), t.heap = H1 → s.vm.Alike t.vm → post r u → B u t → H.size ≤ H1.size → (∀ q : Nat, q < H.size → ¬ A1 q → H1[q]? = H[q]?) → va_S A0 H0 H1 locs1 → W p l e R s m args below meth c H1 locs1 (cells + mc) (slots + ms) Q (F0 m (pc + 3) ls (.long r :: rest))) : W p l e R s m args below meth c H locs cells slots Q (F0 m pc ls st0) := by
  intro T hT X
  rcases hr T hT X with ⟨v, st₀, t, T', L, h0, X', hL, e1, e2, ⟨⟨r, u, hv, hp, hb⟩, hF⟩, st⟩ | ⟨q, st₀, t, T', L, E, ce, h0, X', hL, e1, e2, ⟨u, hp, hb, hF⟩, hce, hcv, hcl, st⟩
  · cases hv
    obtain ⟨k1, k2, k3⟩ := vx_keep h0 e1 hS hA hf hL hF
    obtain ⟨t2, a1, b1⟩ := kk r u t T'.heap (locs ++ L) e1.symm (by rw [← e2]; exact X'.warmed.alike) hp hb k1 k2 k3 T' rfl X'
    exact ⟨t2, st t2 a1, b1⟩
  · obtain ⟨k1, k2, k3⟩ := vx_keep h0 e1 hS hAX hf hL hF
    obtain ⟨t2, a1, b1⟩ := kx E ce q u t T'.heap (locs ++ L) e1.symm (by rw [← e2]; exact X'.warmed.alike) hp hb k1 k2 k3 (by rw [e1]; exact hce) hcv hcl T' rfl X'
    exact ⟨t2, st.trans a1, b1⟩
theorem vx_callf {S SX : Type} {post : UInt32 → S → Prop} {px : SX → Prop} {B : S → State → Prop} {BX : String → SX → State → Prop} {AX : Nat → Prop} (hr : vx_Run p l e R s m args below meth c H locs cells slots mc ms (F0 m pc ls st0) rest (va_Qf post B A1 a) (vx_X px BX AX) free) (hS : va_S A0 H0 H locs) (hA : ∀ q, q < H.size → A1 q → A0 q) (hf : ∀ q, free q → A0 q) (hAX : ∀ q, q < H.size → AX q → A0 q)
    (kx : ∀ (E : String) (ce : Cell) (q9 : Addr) (u : SX) (t : State) (H1 : Heap) (locs1 : List Loc), t.heap = H1 → s.vm.Alike t.vm → px u → BX E u t → H.size ≤ H1.size → (∀ q : Nat, q < H.size → ¬ AX q → H1[q]? = H[q]?) → va_S A0 H0 H1 locs1 → H1[q9]? = some ce → ce.vm = .none → s.vm.findClass E = some ce.cls → vx_W p l e R s m args below meth c H1 locs1 (cells + mc) (slots + ms) Q (F0 m pc ls rest) q9)
    (kk : ∀ (r : UInt32) (u : S) (t : State) (H1 : Heap) (locs1 : List Loc), t.heap = H1 → s.vm.Alike t.vm → post r u → B u t → H.size ≤ H1.size → (∀ q : Nat, q < H.size → ¬ A1 q → H1[q]? = H[q]?) → va_S A0 H0 H1 locs1 → W p l e R s m args below meth c H1 locs1 (cells + mc) (slots + ms) Q (F0 m (pc + 3) ls (.float r :: rest))) : W p l e R s m args below meth c H locs cells slots Q (F0 m pc ls st0) := by
  intro T hT X
  rcases hr T hT X with ⟨v, st₀, t, T', L, h0, X', hL, e1, e2, ⟨⟨r, u, hv, hp, hb⟩, hF⟩, st⟩ | ⟨q, st₀, t, T', L, E, ce, h0, X', hL, e1, e2, ⟨u, hp, hb, hF⟩, hce, hcv, hcl, st⟩
  · cases hv
    obtain ⟨k1, k2, k3⟩ := vx_keep h0 e1 hS hA hf hL hF
    obtain ⟨t2, a1, b1⟩ := kk r u t T'.heap (locs ++ L) e1.symm (by rw [← e2]; exact X'.warmed.alike) hp hb k1 k2 k3 T' rfl X'
    exact ⟨t2, st t2 a1, b1⟩
  · obtain ⟨k1, k2, k3⟩ := vx_keep h0 e1 hS hAX hf hL hF
    obtain ⟨t2, a1, b1⟩ := kx E ce q u t T'.heap (locs ++ L) e1.symm (by rw [← e2]; exact X'.warmed.alike) hp hb k1 k2 k3 (by rw [e1]; exact hce) hcv hcl T' rfl X'
    exact ⟨t2, st.trans a1, b1⟩
theorem vx_calld {S SX : Type} {post : UInt64 → S → Prop} {px : SX → Prop} {B : S → State → Prop} {BX : String → SX → State → Prop} {AX : Nat → Prop} (hr : vx_Run p l e R s m args below meth c H locs cells slots mc ms (F0 m pc ls st0) rest (va_Qd post B A1 a) (vx_X px BX AX) free) (hS : va_S A0 H0 H locs) (hA : ∀ q, q < H.size → A1 q → A0 q) (hf : ∀ q, free q → A0 q) (hAX : ∀ q, q < H.size → AX q → A0 q)
    (kx : ∀ (E : String) (ce : Cell) (q9 : Addr) (u : SX) (t : State) (H1 : Heap) (locs1 : List Loc), t.heap = H1 → s.vm.Alike t.vm → px u → BX E u t → H.size ≤ H1.size → (∀ q : Nat, q < H.size → ¬ AX q → H1[q]? = H[q]?) → va_S A0 H0 H1 locs1 → H1[q9]? = some ce → ce.vm = .none → s.vm.findClass E = some ce.cls → vx_W p l e R s m args below meth c H1 locs1 (cells + mc) (slots + ms) Q (F0 m pc ls rest) q9)
    (kk : ∀ (r : UInt64) (u : S) (t : State) (H1 : Heap) (locs1 : List Loc), t.heap = H1 → s.vm.Alike t.vm → post r u → B u t → H.size ≤ H1.size → (∀ q : Nat, q < H.size → ¬ A1 q → H1[q]? = H[q]?) → va_S A0 H0 H1 locs1 → W p l e R s m args below meth c H1 locs1 (cells + mc) (slots + ms) Q (F0 m (pc + 3) ls (.double r :: rest))) : W p l e R s m args below meth c H locs cells slots Q (F0 m pc ls st0) := by
  intro T hT X
  rcases hr T hT X with ⟨v, st₀, t, T', L, h0, X', hL, e1, e2, ⟨⟨r, u, hv, hp, hb⟩, hF⟩, st⟩ | ⟨q, st₀, t, T', L, E, ce, h0, X', hL, e1, e2, ⟨u, hp, hb, hF⟩, hce, hcv, hcl, st⟩
  · cases hv
    obtain ⟨k1, k2, k3⟩ := vx_keep h0 e1 hS hA hf hL hF
    obtain ⟨t2, a1, b1⟩ := kk r u t T'.heap (locs ++ L) e1.symm (by rw [← e2]; exact X'.warmed.alike) hp hb k1 k2 k3 T' rfl X'
    exact ⟨t2, st t2 a1, b1⟩
  · obtain ⟨k1, k2, k3⟩ := vx_keep h0 e1 hS hAX hf hL hF
    obtain ⟨t2, a1, b1⟩ := kx E ce q u t T'.heap (locs ++ L) e1.symm (by rw [← e2]; exact X'.warmed.alike) hp hb k1 k2 k3 (by rw [e1]; exact hce) hcv hcl T' rfl X'
    exact ⟨t2, st.trans a1, b1⟩
theorem vx_callv {S SX : Type} {post : S → Prop} {px : SX → Prop} {B : S → State → Prop} {BX : String → SX → State → Prop} {AX : Nat → Prop} (hr : vx_Run p l e R s m args below meth c H locs cells slots mc ms (F0 m pc ls st0) rest (va_Qv post B A1 a) (vx_X px BX AX) free) (hS : va_S A0 H0 H locs) (hA : ∀ q, q < H.size → A1 q → A0 q) (hf : ∀ q, free q → A0 q) (hAX : ∀ q, q < H.size → AX q → A0 q)
    (kx : ∀ (E : String) (ce : Cell) (q9 : Addr) (u : SX) (t : State) (H1 : Heap) (locs1 : List Loc), t.heap = H1 → s.vm.Alike t.vm → px u → BX E u t → H.size ≤ H1.size → (∀ q : Nat, q < H.size → ¬ AX q → H1[q]? = H[q]?) → va_S A0 H0 H1 locs1 → H1[q9]? = some ce → ce.vm = .none → s.vm.findClass E = some ce.cls → vx_W p l e R s m args below meth c H1 locs1 (cells + mc) (slots + ms) Q (F0 m pc ls rest) q9)
    (kk : ∀ (u : S) (t : State) (H1 : Heap) (locs1 : List Loc), t.heap = H1 → s.vm.Alike t.vm → post u → B u t → H.size ≤ H1.size → (∀ q : Nat, q < H.size → ¬ A1 q → H1[q]? = H[q]?) → va_S A0 H0 H1 locs1 → W p l e R s m args below meth c H1 locs1 (cells + mc) (slots + ms) Q (F0 m (pc + 3) ls (rest))) : W p l e R s m args below meth c H locs cells slots Q (F0 m pc ls st0) := by
  intro T hT X
  rcases hr T hT X with ⟨v, st₀, t, T', L, h0, X', hL, e1, e2, ⟨⟨u, hv, hp, hb⟩, hF⟩, st⟩ | ⟨q, st₀, t, T', L, E, ce, h0, X', hL, e1, e2, ⟨u, hp, hb, hF⟩, hce, hcv, hcl, st⟩
  · cases hv
    obtain ⟨k1, k2, k3⟩ := vx_keep h0 e1 hS hA hf hL hF
    obtain ⟨t2, a1, b1⟩ := kk u t T'.heap (locs ++ L) e1.symm (by rw [← e2]; exact X'.warmed.alike) hp hb k1 k2 k3 T' rfl X'
    exact ⟨t2, st t2 a1, b1⟩
  · obtain ⟨k1, k2, k3⟩ := vx_keep h0 e1 hS hAX hf hL hF
    obtain ⟨t2, a1, b1⟩ := kx E ce q u t T'.heap (locs ++ L) e1.symm (by rw [← e2]; exact X'.warmed.alike) hp hb k1 k2 k3 (by rw [e1]; exact hce) hcv hcl T' rfl X'
    exact ⟨t2, st.trans a1, b1⟩
/-- caught by the row x of this method's table; the rows ahead don't take it -/
theorem vx_catch {own name : String} {E : String} {ce : Cell} {q : Addr} (hown : s.vm.findClass own = some m.cls) (pre : List ExceptionTableEntry) (x : ExceptionTableEntry) (suf : List ExceptionTableEntry) (hsplit : c.exceptionTable.toList = pre ++ x :: suf)
    (hpass : ∀ z ∈ pre, covers z pc = false ∨ (z.catchType ≠ 0 ∧ ∃ nm : String, (Cond.classLink own z.catchType nm).before args s = true ∧ va_Nc E nm s)) (hx : covers x pc = true) (h0 : x.catchType ≠ 0)
    (hlink : (Cond.classLink own x.catchType name).before args s = true) (hcast : (Cond.castable E name).before args s = true) (hcell : H[q]? = some ce) (hv : ce.vm = .none) (hcl : s.vm.findClass E = some ce.cls)
    (kk : W p l e R s m args below meth c H locs cells slots Q (F0 m x.handlerPc ls [.ref q])) : vx_W p l e R s m args below meth c H locs cells slots Q (F0 m pc ls rest) q := by
  intro T hT X
  have hpl : e.platform.magicAccessors = ({} : Platform).magicAccessors := by rw [X.admits.platform]
  obtain ⟨c3, c4, hc3, hc4, hasg⟩ := Cond.castable_spec hcast
  cases Option.some.inj (hc3.symm.trans hcl)
  obtain ⟨c5, hc5, hcl5⟩ := Cond.classLink_spec hown hlink e.platform hpl
  cases Option.some.inj (hc4.symm.trans hc5)
  obtain ⟨vm', X', st⟩ := X.thenCaughtThrough q (g := F0 m pc ls rest) rfl (Steps.refl _) (by rw [hT]; exact hcell) (by rw [hv]; rfl) (by obtain ⟨k9, h9, -⟩ := Vm.findClass_spec hcl; exact ⟨k9, h9⟩) pre x suf hsplit
    (fun z hz => by
      rcases hpass z hz with h | ⟨hz0, nm, hl1, hn1⟩
      · exact Or.inl h
      · obtain ⟨c6, hc6, hcl6⟩ := Cond.classLink_spec hown hl1 e.platform hpl
        obtain ⟨a8, b8, h1, h2, h3⟩ := hn1
        cases Option.some.inj (h1.symm.trans hcl)
        cases Option.some.inj (h2.symm.trans hc6)
        exact Or.inr ⟨hz0, _, hcl6, h3⟩) hx (Or.inr ⟨h0, c4, hcl5, hasg⟩)
  obtain ⟨t, a1, b1⟩ := kk (T.setVm vm') hT X'
  exact ⟨t, st.trans a1, b1⟩
end Rows
section Ends
variable {p : Program} {l : Launch} {e : Env} {R : Room} {s : State} {m : MethodId} {args : Array Value} {below : List Frame} {meth : Method} {c : Code} {H : Heap} {locs : List Loc} {cells slots : Nat} {Q : State → Prop}
variable {mc ms : Nat} {free : Addr → Prop} {A0 A1 : Nat → Prop} {H0 : Heap} {a : Array Value} {ls : Array Slot} {st0 rest : List Value}
variable {Qc : Array Value → State → Outcome → State → Prop} {XC : String → State → State → Prop}
/-- what a body that may throw owes at its end -/
def vx_MQ (below : List Frame) (Qc : Array Value → State → Outcome → State → Prop) (XC : String → State → State → Prop) (a : Array Value) (s : State) (mc ms : Nat) (free : Addr → Prop) : State → Prop := fun t =>
  ∃ o, t.status = .running ∧ Ended t below o ∧ vx_Q Qc XC mc ms free a s o t
theorem vx_ret {g : JFrame} {mc ms : Nat} (k : W p l e R s m args below meth c H locs cells slots (MQ below Qc args s mc ms free) g) : W p l e R s m args below meth c H locs cells slots (vx_MQ below Qc XC args s mc ms free) g := by
  intro T hT X
  obtain ⟨t, a1, o, b1, b2, b3, b4⟩ := k T hT X
  exact ⟨t, a1, o, b1, b2, Or.inl ⟨b3, b4⟩⟩
/-- not caught here: it goes on to the caller -/
theorem vx_widen {g : JFrame} {q : Addr} {k n : Nat} (h1 : cells ≤ k) (h2 : slots ≤ n) (kk : vx_W p l e R s m args below meth c H locs k n Q g q) : vx_W p l e R s m args below meth c H locs cells slots Q g q := fun T hT X => kk T hT (stand_widen X h1 h2)
theorem vx_out {pc : Nat} {E : String} {ce : Cell} {q : Addr} {mc ms : Nat} (hout : ∀ x ∈ c.exceptionTable.toList, covers x pc = false) (hlocks : meth.locks = false) (hcell : H[q]? = some ce) (hv : ce.vm = .none) (hcl : s.vm.findClass E = some ce.cls)
    (hx : ∀ t : State, t.heap = H → s.vm.Alike t.vm → XC E s t) (hf : ∀ z ∈ locs, free z.base) (hc : cells ≤ mc) (hs : slots ≤ ms) :
    vx_W p l e R s m args below meth c H locs cells slots (vx_MQ below Qc XC args s mc ms free) (F0 m pc ls rest) q := by
  intro T hT X
  obtain ⟨st1, hrun, hend, hW, hsm⟩ := X.leaveThrown q (g := F0 m pc ls rest) rfl rfl rfl hout hlocks
  have hcell9 : (T.setFrames (.throwing q :: below)).heap[q]? = some ce := by
    show T.heap[q]? = some ce
    rw [hT]; exact hcell
  exact ⟨_, st1, .threw q, hrun, hend, Or.inr ⟨q, rfl, E, ce, locs, hx _ hT hW.alike, hcell9, hv, hcl, hW, hsm.mono hc hs, hf⟩⟩
theorem vx_frame {U : State} {k n : Nat} (h : s.sameButNew ({ U with vm := s.vm } : State) locs k n) : s.heap.size ≤ U.heap.size ∧ ∀ q : Nat, q < s.heap.size → (∀ z ∈ locs, z.base ≠ q) → U.heap[q]? = s.heap[q]? := by
  obtain ⟨-, h2, -, -, -, h6⟩ := h
  refine ⟨h2, fun q hq hz => ?_⟩
  obtain ⟨c9, e1, e2, e3, e4⟩ := h6 q _ (Array.getElem?_eq_getElem hq)
  have hs : c9.slots = (s.heap[q]).slots := Array.ext_getElem? fun i => e4 i fun hm => hz _ hm rfl
  have h9 : c9 = s.heap[q] := by
    rw [hs] at e2
    exact e2
  have e5 : U.heap[q]? = some c9 := e1
  rw [e5, h9, Array.getElem?_eq_getElem hq]
/-- the words of a throw but the four that speak of the heap -/
def vx_no (w : Cond) : Bool := decide (w ≠ .isRef (.static Bundle.tN "UNASSIGNED_STACK" Bundle.steD)) && decide (w ≠ .isRef (.static Bundle.tN "SUPPRESSED_SENTINEL" Bundle.listD)) && decide (w ≠ .laysStatic Bundle.tN "UNASSIGNED_STACK" Bundle.steD) && decide (w ≠ .laysStatic Bundle.tN "SUPPRESSED_SENTINEL" Bundle.listD)
def vx_at0 (own : String) (ic : Nat) (X : String) (names : List String) : List Cond := (Bundle.ownAtoms0 own ic X names).filter vx_no
def vx_atS (own : String) (ic : Nat) (X : String) (names : List String) : List Cond := (Bundle.ownAtoms own ic X names).filter vx_no
/-- a word that the tables alone decide, or a good one -/
def vx_ot (w : Cond) : Bool := w.onTables || goodWord w
theorem vx_ot_at {args a' : Array Value} {s U : State} {w : Cond} (hW : s.WarmedH U.vm) (hvm : s.vm = U.vm) (hg : vx_ot w = true) (h : w.before args s = true) : w.before a' U = true := by
  simp only [vx_ot, Bool.or_eq_true] at hg
  rcases hg with hg | hg
  · exact va_tabs hg hvm h
  · exact word_at hW (good_of_word hg) h
/-- a list's words: the good ones out of the method's own list, the others by premises of their own -/
theorem vx_hat {args : Array Value} {s : State} {L B : List Cond} (h1 : ∀ w ∈ L.filter goodWord, w.before args s = true) (h2 : ∀ w ∈ L.filter (fun w => !goodWord w), w ∈ B) (h3 : ∀ w ∈ B, w.before args s = true) : ∀ w ∈ L, w.before args s = true := by
  intro w hw
  by_cases g : goodWord w = true
  · exact h1 w (List.mem_filter.mpr ⟨hw, g⟩)
  · refine h3 w (h2 w (List.mem_filter.mpr ⟨hw, ?_⟩))
    show (!goodWord w) = true
    cases hgw : goodWord w
    · rfl
    · exact absurd hgw g
theorem vx_c {args : Array Value} {s : State} {w : Cond} {B : List Cond} (h : w.before args s = true) (t : ∀ w ∈ B, w.before args s = true) : ∀ w' ∈ w :: B, w'.before args s = true := fun w' h' => (List.mem_cons.mp h').elim (fun e => by rw [e]; exact h) (t w')
theorem vx_n {args : Array Value} {s : State} : ∀ w ∈ ([] : List Cond), w.before args s = true := fun _ h => nomatch h
theorem vx_own {args : Array Value} {s : State} {L : List Cond} (h1 : ∀ w ∈ L.filter vx_no, w.before args s = true)
    (hU : (Cond.isRef (.static Bundle.tN "UNASSIGNED_STACK" Bundle.steD)).before args s = true) (hN : (Cond.isRef (.static Bundle.tN "SUPPRESSED_SENTINEL" Bundle.listD)).before args s = true)
    (lU : (Cond.laysStatic Bundle.tN "UNASSIGNED_STACK" Bundle.steD).before args s = true) (lN : (Cond.laysStatic Bundle.tN "SUPPRESSED_SENTINEL" Bundle.listD).before args s = true) : ∀ w ∈ L, w.before args s = true := by
  intro w hw
  by_cases e1 : w = .isRef (.static Bundle.tN "UNASSIGNED_STACK" Bundle.steD)
  · rw [e1]; exact hU
  · by_cases e2 : w = .isRef (.static Bundle.tN "SUPPRESSED_SENTINEL" Bundle.listD)
    · rw [e2]; exact hN
    · by_cases e3 : w = .laysStatic Bundle.tN "UNASSIGNED_STACK" Bundle.steD
      · rw [e3]; exact lU
      · by_cases e4 : w = .laysStatic Bundle.tN "SUPPRESSED_SENTINEL" Bundle.listD
        · rw [e4]; exact lN
        · exact h1 w (List.mem_filter.mpr ⟨hw, by unfold vx_no; rw [decide_eq_true e1, decide_eq_true e2, decide_eq_true e3, decide_eq_true e4]; rfl⟩)
/-- where a static field lies, its class's statics cell in H -/
def vx_L (C n d : String) (A : Nat → Prop) (U : State) (H : Heap) : Prop := ∃ (c : ClassId) (k : Class) (i : Nat) (f : Field) (a : Nat) (cell : Cell), U.vm.findClass C = some c ∧ U.fieldFound? C n d = some (c, k, i, f) ∧ f.isStatic = true ∧ k.statics = some a ∧ H[a]? = some cell ∧ cell.vm.isStatics = true ∧ cell.cls = c ∧ f.slot < cell.slots.size ∧ k.staticTypes[f.slot]? = some f.type ∧ ¬ A a
theorem vx_L.moved {C n d : String} {A : Nat → Prop} {u U : State} {H : Heap} (hvm : u.vm.Alike U.vm) (h : vx_L C n d A u H) : vx_L C n d A U H := by
  obtain ⟨c, k, i, f, a, cell, h1, h2, h3, h4, h5, h6, h7, h8, h9, h10⟩ := h
  obtain ⟨k', hi', he⟩ := State.fieldFound?_setVm hvm h2
  exact ⟨c, k', i, f, a, cell, by rw [hvm.findClass]; exact h1, hi', h3, by rw [he]; exact h4, h5, h6, h7, h8, by rw [he]; exact h9, h10⟩
theorem vx_L.kept {C n d : String} {A : Nat → Prop} {U : State} {H H1 : Heap} (h : vx_L C n d A U H) (hq : ∀ a : Nat, a < H.size → ¬ A a → H1[a]? = H[a]?) : vx_L C n d A U H1 := by
  obtain ⟨c, k, i, f, a, cell, h1, h2, h3, h4, h5, h6, h7, h8, h9, h10⟩ := h
  exact ⟨c, k, i, f, a, cell, h1, h2, h3, h4, by rw [hq a (Array.getElem?_eq_some_iff.mp h5).1 h10]; exact h5, h6, h7, h8, h9, h10⟩
theorem vx_L.narrow {C n d : String} {A B : Nat → Prop} {U : State} {H : Heap} (h : vx_L C n d A U H) (hAB : ∀ q, B q → A q) : vx_L C n d B U H := by
  obtain ⟨c, k, i, f, a, cell, h1, h2, h3, h4, h5, h6, h7, h8, h9, h10⟩ := h
  exact ⟨c, k, i, f, a, cell, h1, h2, h3, h4, h5, h6, h7, h8, h9, fun z => h10 (hAB _ z)⟩
theorem vx_L.word {C n d : String} {A : Nat → Prop} {s : State} {args : Array Value} (h : vx_L C n d A s s.heap) : (Cond.laysStatic C n d).before args s = true := by
  obtain ⟨c, k, i, f, a, cell, h1, h2, h3, h4, h5, h6, h7, h8, h9, -⟩ := h
  show (Cond.laysStatic C n d).holds args s none s [] = true
  exact Cond.laysStatic_of h1 h2 h3 h4 h5 h6 h7 h8 h9
/-- .. and what it holds: null or some reference -/
def vx_Zq (C n d : String) (A : Nat → Prop) (U : State) (H : Heap) : Prop := va_Zq C n d A U H ∧ vx_L C n d A U H
theorem vx_Zq.moved {C n d : String} {A : Nat → Prop} {u U : State} {H : Heap} (hvm : u.vm.Alike U.vm) (h : vx_Zq C n d A u H) : vx_Zq C n d A U H := ⟨va_Zq.moved hvm h.1, vx_L.moved hvm h.2⟩
theorem vx_Zq.kept {C n d : String} {A : Nat → Prop} {U : State} {H H1 : Heap} (h : vx_Zq C n d A U H) (hq : ∀ a : Nat, a < H.size → ¬ A a → H1[a]? = H[a]?) : vx_Zq C n d A U H1 := ⟨va_Zq.kept h.1 hq, vx_L.kept h.2 hq⟩
theorem vx_Zq.narrow {C n d : String} {A B : Nat → Prop} {U : State} {H : Heap} (h : vx_Zq C n d A U H) (hAB : ∀ q, B q → A q) : vx_Zq C n d B U H := ⟨va_Zq.narrow h.1 hAB, vx_L.narrow h.2 hAB⟩
theorem vx_Zqof {args : Array Value} {s : State} {C n d : String} {A : Nat → Prop} (hl : (Cond.laysStatic C n d).before args s = true) (hini : (Cond.initialized C).before args s = true) (h : (Cond.isRef (.static C n d)).before args s = true) (hA : ∀ a : Nat, a < s.heap.size → ¬ A a) : vx_Zq C n d A s s.heap := by
  refine ⟨va_Zqof hl hini h hA, ?_⟩
  obtain ⟨c, k, i, f, a, cell, h1, h2, h3, h4, h5, h6, h7, h8, h9⟩ := Cond.laysStatic_spec hl
  exact ⟨c, k, i, f, a, cell, h1, h2, h3, h4, h5, h6, h7, h8, h9, hA a (Array.getElem?_eq_some_iff.mp h5).1⟩
theorem vx_isRef {C n d : String} {v : Value} {A : Nat → Prop} {s : State} {args : Array Value} (h : va_Z C n d v A s s.heap) (hv : v.isRef = true) : (Cond.isRef (.static C n d)).before args s = true := by
  obtain ⟨cf, kf, fi, f, a, cell, h1, h2, h3, h4, h5, h6, h7, -⟩ := h
  have he : (Term.static C n d).eval args s none [] s = some v := by
    simp [Term.eval, State.fieldNamed?, h1, h2, h4, h5, h6, h7]
  simp only [Cond.before, Cond.holds, Cond.value, he]
  cases v <;> simp_all [Value.isRef]
theorem vx_isRefq {C n d : String} {A : Nat → Prop} {s : State} {args : Array Value} (h : va_Zq C n d A s s.heap) : (Cond.isRef (.static C n d)).before args s = true := by
  rcases h with h | ⟨t, h⟩
  · exact vx_isRef h rfl
  · exact vx_isRef h rfl
/-- the same frame, seen from here: as if the method were called anew in this heap -/
theorem vx_rebase {T : State} (X : Stand p l e R s m args below meth c T locs cells slots) {R' : Room} (hf : R'.frames ≤ R.frames) (hl : R'.locals ≤ R.locals) (hc : cells + R'.cells ≤ R.cells) (hs : slots + R'.slots ≤ R.slots) :
    Stand p l e R' ((T.setVm s.vm).setFrames (.invoking m args :: below)) m args below meth c T [] 0 0 := by
  have htop : (T.setVm s.vm).topJava?.isSome := X.here.top
  have hF : ((T.setVm s.vm).setFrames (.invoking m args :: below)).frames = .invoking m args :: below := State.frames_setFrames _ (State.cur_lt_of_top htop)
  obtain ⟨g₀, hg0⟩ := Option.isSome_iff_exists.mp htop
  obtain ⟨r, hr⟩ := State.topJava?_eq_some.mp hg0
  have hl9 : e.platform.stackLimits (T.setVm s.vm).me = e.platform.stackLimits s.me := X.limits
  have hb9 : (T.setVm s.vm).me.stackBytes = s.me.stackBytes := X.bytes
  refine ⟨X.admits, X.cas, X.clock, hF, ?_, X.hears, X.method, X.code, X.here, X.tail, X.warmed, ?_, ?_, ?_⟩
  · have h := X.room
    have hU : ((T.setVm s.vm).setFrames (.invoking m args :: below)).localsInUse = s.localsInUse := by
      rw [State.localsInUse_invoking hF (meth := meth) (c := c) X.method X.code, State.localsInUse_invoking X.frames X.method X.code]
    simp only [State.hasRoom, Bool.and_eq_true, decide_eq_true_eq] at h ⊢
    obtain ⟨⟨⟨⟨h1, h2, h3, h4, h5, h6⟩, h7⟩, h8⟩, h9⟩ := h
    rw [X.frames, List.length_cons] at h2 h3
    have q1 := X.heapSize
    have q2 := X.used
    simp only [hF, hU, List.length_cons, State.stackLimits_setFrames, State.stackBytes_setFrames, hl9, hb9]
    refine ⟨⟨⟨⟨by omega, by omega, by omega, by omega, by omega, h6⟩, ?_⟩, ?_⟩, X.book⟩
    · show T.heap.size + R'.cells ≤ e.platform.maxCells
      omega
    · show T.slotsUsed + R'.slots ≤ e.platform.maxSlots
      omega
  · rw [State.stackLimits_setFrames]; rfl
  · rw [State.stackBytes_setFrames]; rfl
  · refine ⟨?_, Nat.le_refl _, Nat.le_refl _, ?_, ?_, fun a c9 h9 => ⟨c9, h9, rfl, rfl, fun _ _ => rfl⟩⟩
    · obtain ⟨t, ht, -⟩ := State.frames_cons hr
      show T.setVm s.vm = { ((T.setVm s.vm).setFrames (.invoking m args :: below)).setFrames (T.setVm s.vm).frames with heap := T.heap, slotsUsed := T.slotsUsed }
      rw [State.setFrames_setFrames, State.setFrames_self ht]
      rfl
    · show T.slotsUsed = T.slotsUsed + ((T.heap.toList.drop T.heap.size).map (·.slots.size)).sum
      rw [List.drop_eq_nil_of_le (Nat.le_of_eq Array.length_toList)]
      rfl
    · show ((T.heap.toList.drop T.heap.size).map (·.slots.size)).sum ≤ 0
      rw [List.drop_eq_nil_of_le (Nat.le_of_eq Array.length_toList)]
      exact Nat.le_refl _
/-- 'throw new E()': new; dup; invokespecial; athrow -/
theorem vx_throw0 {cc : ByteArray} {pc : Nat} (hexec : p.tables.exec = Jvm.exec) (hb : c.code = cc) (hl : l.stackTraces = false) {own cls : String} {names : List String} {ik ic mc ms : Nat} {A : Nat → Prop}
    (hown : s.vm.findClass own = some m.cls) (hcls : Bundle.fit cls = true) (hnames : ∀ n ∈ names, Bundle.fit n = true)
    (hk : (Cond.classLink own ik cls).before args s = true) (hini : (Cond.initialized cls).before args s = true) (hat : ∀ w ∈ vx_at0 own ic cls names, w.before args s = true)
    (hgood : ∀ w ∈ Cond.classLink own ik cls :: Cond.initialized cls :: vx_at0 own ic cls names, vx_ot w = true)
    (hU : vx_Zq Bundle.tN "UNASSIGNED_STACK" Bundle.steD A s s.heap) (hN : vx_Zq Bundle.tN "SUPPRESSED_SENTINEL" Bundle.listD A s s.heap) (hS : va_S A s.heap H locs) (hsize : ls.size = c.maxLocals)
    (d0 : decode cc pc = .ok (.new ik, 3)) (d3 : decode cc (pc + 3) = .ok (.dup, 1)) (d4 : decode cc (pc + 4) = .ok (.invokespecial ic, 3)) (d7 : decode cc (pc + 7) = .ok (.athrow, 1))
    (hout : ∀ x ∈ c.exceptionTable.toList, covers x (pc + 7) = false)
    (hRframes : names.length + 3 < R.frames) (hRlocals : (rest.map fun v => v.category).sum + (13 * (names.length + 1) + 42) ≤ R.locals) (hRcells : cells + 1 ≤ R.cells) (hRslots : slots + 6 ≤ R.slots) (hlocks : meth.locks = false)
    (hx : ∀ t : State, s.vm.Alike t.vm → H.size ≤ t.heap.size → (∀ q : Nat, q < H.size → t.heap[q]? = H[q]?) → XC cls s t)
    (hf : ∀ z ∈ locs, free z.base) (hc : cells + 1 ≤ mc) (hs : slots + 6 ≤ ms) :
    W p l e R s m args below meth c H locs cells slots (vx_MQ below Qc XC args s mc ms free) (F0 m pc ls rest) := by
  intro T hT X
  have htr : e.platform.stackTraces = false := (show e.platform.stackTraces = l.stackTraces by rw [X.admits.platform]).trans hl
  have Y := vx_rebase X (R' := { frames := R.frames, locals := R.locals, cells := 1, slots := 6 }) (Nat.le_refl _) (Nat.le_refl _) hRcells hRslots
  obtain ⟨s', hA⟩ : ∃ z, z = (T.setVm s.vm).setFrames (.invoking m args :: below) := ⟨_, rfl⟩
  rw [← hA] at Y
  have hvm : s'.vm = s.vm := by rw [hA]; rfl
  have hhp : s'.heap = H := by rw [hA]; exact hT
  have hW0 : s.WarmedH s'.vm := by rw [hvm]; exact State.WarmedH.refl s
  have hat' : ∀ w ∈ vx_at0 own ic cls names, w.before args s' = true := fun w hw => vx_ot_at hW0 hvm.symm (hgood w (List.mem_cons_of_mem _ (List.mem_cons_of_mem _ hw))) (hat w hw)
  have hk' : (Cond.classLink own ik cls).before args s' = true := vx_ot_at hW0 hvm.symm (hgood _ List.mem_cons_self) hk
  have hini' : (Cond.initialized cls).before args s' = true := vx_ot_at hW0 hvm.symm (hgood _ (List.mem_cons_of_mem _ List.mem_cons_self)) hini
  have hU' : vx_Zq Bundle.tN "UNASSIGNED_STACK" Bundle.steD A s' s'.heap := by rw [hhp]; exact vx_Zq.moved hW0.alike (hU.kept hS.2.1)
  have hN' : vx_Zq Bundle.tN "SUPPRESSED_SENTINEL" Bundle.listD A s' s'.heap := by rw [hhp]; exact vx_Zq.moved hW0.alike (hN.kept hS.2.1)
  have h : ∀ w ∈ Bundle.ownAtoms0 own ic cls names, w.before args s' = true := vx_own hat' (vx_isRefq hU'.1) (vx_isRefq hN'.1) hU'.2.word hN'.2.word
  have hown' : s'.vm.findClass own = some m.cls := by rw [hvm]; exact hown
  have hins : (Cond.instantiable cls 6).before args s' = true := h _ (by simp [Bundle.ownAtoms0])
  obtain ⟨vm₁, cX, kX, hfX, hkX, -, -, X₁, st1⟩ := Y.newCold hexec (own := own) (C := cls) (index := ik) (n := 6) hown' hk' hins hini'
    (g := F0 m pc ls rest) rfl (by rw [hb]; exact d0) (Nat.le_refl _) (Nat.le_refl _)
  generalize hT1 : (T.setVm vm₁).pushCell { cls := cX, slots := kX.instanceTypes.map defaultValue, vm := .none } = T1 at X₁ st1
  have hcat : (Value.ref T.heap.size).category = 1 := rfl
  have hcellA : T1.heap[T.heap.size]? = some (freshCell cX kX) := by rw [← hT1]; exact State.heap_pushCell_size _ _
  have d3' : decode c.code (pc + 3) = .ok (.dup, 1) := by rw [hb]; exact d3
  obtain ⟨U, hsteps, hrun, hend, hW, hsame, ce, hce, hO⟩ := X₁.ctorThrow0 hexec htr (own := own) (cls := cls) (names := names) (ic := ic) hown' hcls hnames h (fun x hx => nomatch hx) hfX hkX hcellA (by rw [hhp, hT]; exact Nat.le_refl _)
    (g := { method := m, pc := pc + 4, locals := ls, stack := .ref T.heap.size :: .ref T.heap.size :: rest, locked := none }) rfl hsize rfl rfl (rest := rest) rfl
    (by rw [hb]; exact d4) (by rw [hb]; exact d7) hout hRframes (by simp only [List.map_cons, List.sum_cons, hcat]; omega) hlocks
  obtain ⟨f1, f2⟩ := vx_frame hsame
  rw [hhp] at f1 f2
  have hWs : s.WarmedH U.vm := State.WarmedH.trans hW0 hW
  have hcl : s.vm.findClass cls = some ce.cls := by
    have h9 := hO.cls
    rw [hvm] at h9
    exact h9
  have hall : s.sameButNew ({ U with vm := s.vm } : State) locs mc ms := by
    subst hA
    obtain ⟨e1, e2⟩ := hsame
    rw [State.setFrames_setFrames] at e1
    have h2 : (T.setVm s.vm).sameButNew ({ U with vm := s.vm } : State) [] (0 + 1) (0 + 6) := ⟨e1, e2⟩
    have h3 := X.same.trans h2
    rw [List.append_nil] at h3
    exact h3.mono hc hs
  refine ⟨U, ?_, .threw T.heap.size, hrun, hend, Or.inr ⟨T.heap.size, rfl, cls, ce, locs, hx U hWs.alike f1 (fun q hq => f2 q hq (fun z hz => nomatch hz)), hce, hO.vm, hcl, hWs, hall, hf⟩⟩
  refine st1 _ ?_
  show Steps p.tables e below (T1.setTop { method := m, pc := pc + 3, locals := ls, stack := .ref T.heap.size :: rest, locked := none }) _
  jvm_step X₁.here [X₁.here.top, hexec, d3', Value.category]
  exact hsteps
/-- 'throw new E("text")': new; dup; ldc; invokespecial; athrow -/
theorem vx_throwS {cc : ByteArray} {pc : Nat} (hexec : p.tables.exec = Jvm.exec) (hb : c.code = cc) (hl : l.stackTraces = false) {own cls text : String} {names : List String} {ik is ic mc ms sa : Nat} {A : Nat → Prop}
    (hown : s.vm.findClass own = some m.cls) (hcls : Bundle.fit cls = true) (hnames : ∀ n ∈ names, Bundle.fit n = true)
    (hk : (Cond.classLink own ik cls).before args s = true) (hini : (Cond.initialized cls).before args s = true) (hstr : vk_R own is text sa s) (hat : ∀ w ∈ vx_atS own ic cls names, w.before args s = true)
    (hgood : ∀ w ∈ Cond.classLink own ik cls :: Cond.initialized cls :: vx_atS own ic cls names, vx_ot w = true)
    (hU : vx_Zq Bundle.tN "UNASSIGNED_STACK" Bundle.steD A s s.heap) (hN : vx_Zq Bundle.tN "SUPPRESSED_SENTINEL" Bundle.listD A s s.heap) (hS : va_S A s.heap H locs) (hsize : ls.size = c.maxLocals)
    (d0 : decode cc pc = .ok (.new ik, 3)) (d3 : decode cc (pc + 3) = .ok (.dup, 1)) (d4 : decode cc (pc + 4) = .ok (.ldc is, 2)) (d6 : decode cc (pc + 6) = .ok (.invokespecial ic, 3)) (d9 : decode cc (pc + 9) = .ok (.athrow, 1))
    (hout : ∀ x ∈ c.exceptionTable.toList, covers x (pc + 9) = false)
    (hRframes : names.length + 3 < R.frames) (hRlocals : (rest.map fun v => v.category).sum + (13 * (names.length + 1) + 43) ≤ R.locals) (hRcells : cells + 1 ≤ R.cells) (hRslots : slots + 6 ≤ R.slots) (hlocks : meth.locks = false)
    (hx : ∀ t : State, s.vm.Alike t.vm → H.size ≤ t.heap.size → (∀ q : Nat, q < H.size → t.heap[q]? = H[q]?) → XC cls s t)
    (hf : ∀ z ∈ locs, free z.base) (hc : cells + 1 ≤ mc) (hs : slots + 6 ≤ ms) :
    W p l e R s m args below meth c H locs cells slots (vx_MQ below Qc XC args s mc ms free) (F0 m pc ls rest) := by
  intro T hT X
  have htr : e.platform.stackTraces = false := (show e.platform.stackTraces = l.stackTraces by rw [X.admits.platform]).trans hl
  have Y := vx_rebase X (R' := { frames := R.frames, locals := R.locals, cells := 1, slots := 6 }) (Nat.le_refl _) (Nat.le_refl _) hRcells hRslots
  obtain ⟨s', hA⟩ : ∃ z, z = (T.setVm s.vm).setFrames (.invoking m args :: below) := ⟨_, rfl⟩
  rw [← hA] at Y
  have hvm : s'.vm = s.vm := by rw [hA]; rfl
  have hhp : s'.heap = H := by rw [hA]; exact hT
  have hW0 : s.WarmedH s'.vm := by rw [hvm]; exact State.WarmedH.refl s
  have hat' : ∀ w ∈ vx_atS own ic cls names, w.before args s' = true := fun w hw => vx_ot_at hW0 hvm.symm (hgood w (List.mem_cons_of_mem _ (List.mem_cons_of_mem _ hw))) (hat w hw)
  have hk' : (Cond.classLink own ik cls).before args s' = true := vx_ot_at hW0 hvm.symm (hgood _ List.mem_cons_self) hk
  have hini' : (Cond.initialized cls).before args s' = true := vx_ot_at hW0 hvm.symm (hgood _ (List.mem_cons_of_mem _ List.mem_cons_self)) hini
  have hU' : vx_Zq Bundle.tN "UNASSIGNED_STACK" Bundle.steD A s' s'.heap := by rw [hhp]; exact vx_Zq.moved hW0.alike (hU.kept hS.2.1)
  have hN' : vx_Zq Bundle.tN "SUPPRESSED_SENTINEL" Bundle.listD A s' s'.heap := by rw [hhp]; exact vx_Zq.moved hW0.alike (hN.kept hS.2.1)
  have h : ∀ w ∈ Bundle.ownAtoms own ic cls names, w.before args s' = true := vx_own hat' (vx_isRefq hU'.1) (vx_isRefq hN'.1) hU'.2.word hN'.2.word
  have hown' : s'.vm.findClass own = some m.cls := by rw [hvm]; exact hown
  have hins : (Cond.instantiable cls 6).before args s' = true := h _ (by simp [Bundle.ownAtoms])
  obtain ⟨vm₁, cX, kX, hfX, hkX, -, -, X₁, st1⟩ := Y.newCold hexec (own := own) (C := cls) (index := ik) (n := 6) hown' hk' hins hini'
    (g := F0 m pc ls rest) rfl (by rw [hb]; exact d0) (Nat.le_refl _) (Nat.le_refl _)
  generalize hT1 : (T.setVm vm₁).pushCell { cls := cX, slots := kX.instanceTypes.map defaultValue, vm := .none } = T1 at X₁ st1
  have hcat : (Value.ref T.heap.size).category = 1 := rfl
  have hcellA : T1.heap[T.heap.size]? = some (freshCell cX kX) := by rw [← hT1]; exact State.heap_pushCell_size _ _
  have d3' : decode c.code (pc + 3) = .ok (.dup, 1) := by rw [hb]; exact d3
  have d4' : decode c.code (pc + 4) = .ok (.ldc is, 2) := by rw [hb]; exact d4
  have hstr' : vk_R own is text sa s' := vk_R.warm hW0 hstr
  obtain ⟨U, hsteps, hrun, hend, hW, hsame, ce, hce, hO⟩ := X₁.ctorThrowS hexec htr (own := own) (cls := cls) (names := names) (ic := ic) hown' hcls hnames h (fun x hx => nomatch hx) hfX hkX hcellA (by rw [hhp, hT]; exact Nat.le_refl _) (msg := .ref sa) rfl
    (g := { method := m, pc := pc + 6, locals := ls, stack := .ref sa :: .ref T.heap.size :: .ref T.heap.size :: rest, locked := none }) rfl hsize rfl rfl (rest := rest) rfl
    (by rw [hb]; exact d6) (by rw [hb]; exact d9) hout hRframes (by simp only [List.map_cons, List.sum_cons, hcat]; omega) hlocks
  obtain ⟨f1, f2⟩ := vx_frame hsame
  rw [hhp] at f1 f2
  have hWs : s.WarmedH U.vm := State.WarmedH.trans hW0 hW
  have hcl : s.vm.findClass cls = some ce.cls := by
    have h9 := hO.cls
    rw [hvm] at h9
    exact h9
  have hall : s.sameButNew ({ U with vm := s.vm } : State) locs mc ms := by
    subst hA
    obtain ⟨e1, e2⟩ := hsame
    rw [State.setFrames_setFrames] at e1
    have h2 : (T.setVm s.vm).sameButNew ({ U with vm := s.vm } : State) [] (0 + 1) (0 + 6) := ⟨e1, e2⟩
    have h3 := X.same.trans h2
    rw [List.append_nil] at h3
    exact h3.mono hc hs
  refine ⟨U, ?_, .threw T.heap.size, hrun, hend, Or.inr ⟨T.heap.size, rfl, cls, ce, locs, hx U hWs.alike f1 (fun q hq => f2 q hq (fun z hz => nomatch hz)), hce, hO.vm, hcl, hWs, hall, hf⟩⟩
  refine st1 _ ?_
  show Steps p.tables e below (T1.setTop { method := m, pc := pc + 3, locals := ls, stack := .ref T.heap.size :: rest, locked := none }) _
  jvm_step X₁.here [X₁.here.top, hexec, d3', Value.category]
  exact X₁.ldcString hexec (own := own) (text := text) (index := is) (a := sa) hown' hstr'.1 hstr'.2
    (g := { method := m, pc := pc + 4, locals := ls, stack := .ref T.heap.size :: .ref T.heap.size :: rest, locked := none }) rfl d4' _ hsteps
/-- 'throw new E("text")', the text by a wide index -/
theorem vx_throwSW {cc : ByteArray} {pc : Nat} (hexec : p.tables.exec = Jvm.exec) (hb : c.code = cc) (hl : l.stackTraces = false) {own cls text : String} {names : List String} {ik is ic mc ms sa : Nat} {A : Nat → Prop}
    (hown : s.vm.findClass own = some m.cls) (hcls : Bundle.fit cls = true) (hnames : ∀ n ∈ names, Bundle.fit n = true)
    (hk : (Cond.classLink own ik cls).before args s = true) (hini : (Cond.initialized cls).before args s = true) (hstr : vk_R own is text sa s) (hat : ∀ w ∈ vx_atS own ic cls names, w.before args s = true)
    (hgood : ∀ w ∈ Cond.classLink own ik cls :: Cond.initialized cls :: vx_atS own ic cls names, vx_ot w = true)
    (hU : vx_Zq Bundle.tN "UNASSIGNED_STACK" Bundle.steD A s s.heap) (hN : vx_Zq Bundle.tN "SUPPRESSED_SENTINEL" Bundle.listD A s s.heap) (hS : va_S A s.heap H locs) (hsize : ls.size = c.maxLocals)
    (d0 : decode cc pc = .ok (.new ik, 3)) (d3 : decode cc (pc + 3) = .ok (.dup, 1)) (d4 : decode cc (pc + 4) = .ok (.ldc_w is, 3)) (d7 : decode cc (pc + 7) = .ok (.invokespecial ic, 3)) (d10 : decode cc (pc + 10) = .ok (.athrow, 1))
    (hout : ∀ x ∈ c.exceptionTable.toList, covers x (pc + 10) = false)
    (hRframes : names.length + 3 < R.frames) (hRlocals : (rest.map fun v => v.category).sum + (13 * (names.length + 1) + 43) ≤ R.locals) (hRcells : cells + 1 ≤ R.cells) (hRslots : slots + 6 ≤ R.slots) (hlocks : meth.locks = false)
    (hx : ∀ t : State, s.vm.Alike t.vm → H.size ≤ t.heap.size → (∀ q : Nat, q < H.size → t.heap[q]? = H[q]?) → XC cls s t)
    (hf : ∀ z ∈ locs, free z.base) (hc : cells + 1 ≤ mc) (hs : slots + 6 ≤ ms) :
    W p l e R s m args below meth c H locs cells slots (vx_MQ below Qc XC args s mc ms free) (F0 m pc ls rest) := by
  intro T hT X
  have htr : e.platform.stackTraces = false := (show e.platform.stackTraces = l.stackTraces by rw [X.admits.platform]).trans hl
  have Y := vx_rebase X (R' := { frames := R.frames, locals := R.locals, cells := 1, slots := 6 }) (Nat.le_refl _) (Nat.le_refl _) hRcells hRslots
  obtain ⟨s', hA⟩ : ∃ z, z = (T.setVm s.vm).setFrames (.invoking m args :: below) := ⟨_, rfl⟩
  rw [← hA] at Y
  have hvm : s'.vm = s.vm := by rw [hA]; rfl
  have hhp : s'.heap = H := by rw [hA]; exact hT
  have hW0 : s.WarmedH s'.vm := by rw [hvm]; exact State.WarmedH.refl s
  have hat' : ∀ w ∈ vx_atS own ic cls names, w.before args s' = true := fun w hw => vx_ot_at hW0 hvm.symm (hgood w (List.mem_cons_of_mem _ (List.mem_cons_of_mem _ hw))) (hat w hw)
  have hk' : (Cond.classLink own ik cls).before args s' = true := vx_ot_at hW0 hvm.symm (hgood _ List.mem_cons_self) hk
  have hini' : (Cond.initialized cls).before args s' = true := vx_ot_at hW0 hvm.symm (hgood _ (List.mem_cons_of_mem _ List.mem_cons_self)) hini
  have hU' : vx_Zq Bundle.tN "UNASSIGNED_STACK" Bundle.steD A s' s'.heap := by rw [hhp]; exact vx_Zq.moved hW0.alike (hU.kept hS.2.1)
  have hN' : vx_Zq Bundle.tN "SUPPRESSED_SENTINEL" Bundle.listD A s' s'.heap := by rw [hhp]; exact vx_Zq.moved hW0.alike (hN.kept hS.2.1)
  have h : ∀ w ∈ Bundle.ownAtoms own ic cls names, w.before args s' = true := vx_own hat' (vx_isRefq hU'.1) (vx_isRefq hN'.1) hU'.2.word hN'.2.word
  have hown' : s'.vm.findClass own = some m.cls := by rw [hvm]; exact hown
  have hins : (Cond.instantiable cls 6).before args s' = true := h _ (by simp [Bundle.ownAtoms])
  obtain ⟨vm₁, cX, kX, hfX, hkX, -, -, X₁, st1⟩ := Y.newCold hexec (own := own) (C := cls) (index := ik) (n := 6) hown' hk' hins hini'
    (g := F0 m pc ls rest) rfl (by rw [hb]; exact d0) (Nat.le_refl _) (Nat.le_refl _)
  generalize hT1 : (T.setVm vm₁).pushCell { cls := cX, slots := kX.instanceTypes.map defaultValue, vm := .none } = T1 at X₁ st1
  have hcat : (Value.ref T.heap.size).category = 1 := rfl
  have hcellA : T1.heap[T.heap.size]? = some (freshCell cX kX) := by rw [← hT1]; exact State.heap_pushCell_size _ _
  have d3' : decode c.code (pc + 3) = .ok (.dup, 1) := by rw [hb]; exact d3
  have d4' : decode c.code (pc + 4) = .ok (.ldc_w is, 3) := by rw [hb]; exact d4
  have hstr' : vk_R own is text sa s' := vk_R.warm hW0 hstr
  obtain ⟨U, hsteps, hrun, hend, hW, hsame, ce, hce, hO⟩ := X₁.ctorThrowS hexec htr (own := own) (cls := cls) (names := names) (ic := ic) hown' hcls hnames h (fun x hx => nomatch hx) hfX hkX hcellA (by rw [hhp, hT]; exact Nat.le_refl _) (msg := .ref sa) rfl
    (g := { method := m, pc := pc + 7, locals := ls, stack := .ref sa :: .ref T.heap.size :: .ref T.heap.size :: rest, locked := none }) rfl hsize rfl rfl (rest := rest) rfl
    (by rw [hb]; exact d7) (by rw [hb]; exact d10) hout hRframes (by simp only [List.map_cons, List.sum_cons, hcat]; omega) hlocks
  obtain ⟨f1, f2⟩ := vx_frame hsame
  rw [hhp] at f1 f2
  have hWs : s.WarmedH U.vm := State.WarmedH.trans hW0 hW
  have hcl : s.vm.findClass cls = some ce.cls := by
    have h9 := hO.cls
    rw [hvm] at h9
    exact h9
  have hall : s.sameButNew ({ U with vm := s.vm } : State) locs mc ms := by
    subst hA
    obtain ⟨e1, e2⟩ := hsame
    rw [State.setFrames_setFrames] at e1
    have h2 : (T.setVm s.vm).sameButNew ({ U with vm := s.vm } : State) [] (0 + 1) (0 + 6) := ⟨e1, e2⟩
    have h3 := X.same.trans h2
    rw [List.append_nil] at h3
    exact h3.mono hc hs
  refine ⟨U, ?_, .threw T.heap.size, hrun, hend, Or.inr ⟨T.heap.size, rfl, cls, ce, locs, hx U hWs.alike f1 (fun q hq => f2 q hq (fun z hz => nomatch hz)), hce, hO.vm, hcl, hWs, hall, hf⟩⟩
  refine st1 _ ?_
  show Steps p.tables e below (T1.setTop { method := m, pc := pc + 3, locals := ls, stack := .ref T.heap.size :: rest, locked := none }) _
  jvm_step X₁.here [X₁.here.top, hexec, d3', Value.category]
  exact X₁.ldcStringW hexec (own := own) (text := text) (index := is) (a := sa) hown' hstr'.1 hstr'.2
    (g := { method := m, pc := pc + 4, locals := ls, stack := .ref T.heap.size :: .ref T.heap.size :: rest, locked := none }) rfl d4' _ hsteps
end Ends
section Bodies
variable {l : Launch}
theorem vx_ofW {y : MethodName} {ws ws' : List Cond} {rm : Room} {Pc : Array Value → State → Prop} {Qc : Array Value → State → Outcome → State → Prop} {XC : String → State → State → Prop} {mc ms : Nat} {free : Addr → Prop} {cc : ByteArray} {maxL : Nat} {ret : Option FieldType}
    (hy : plainName y.cls = true) (hw : ws = Cond.code y cc maxL ret :: ws')
    (body : ∀ p e s m args below meth c s₁, BodyLoose p l y (headSpec ws rm) cc maxL ret e s m args below meth c s₁ → c.maxLocals = maxL → (∀ x ∈ c.exceptionTable.toList, False) → Pc args s →
      W p l e (headSpec ws rm).room s m args below meth c s.heap [] 0 0 (vx_MQ below Qc XC args s mc ms free) (entryFrame m args maxL)) : vx_Met l y ws rm Pc Qc XC mc ms free := by
  refine MetFree.of_bodyS (code := cc) (maxLocals := maxL) (ret := ret) hy ?_ ?_
  · intro args s m h hn
    obtain ⟨meth, c, h1, h2, h3, h4, h5, h6, -, -⟩ := Cond.code_spec hn (atoms_spec (ws := ws) h _ (by rw [hw]; exact List.mem_cons_self))
    exact ⟨meth, c, h1, h2, h3, h4, h5, h6⟩
  · intro p e s m args below meth c s₁ B hml hP _
    have hh0 : s₁.heap = s.heap := by rw [B.state]; rfl
    have ht : ∀ x ∈ c.exceptionTable.toList, False := by
      obtain ⟨meth9, c9, h1, h2, -, -, -, -, h7, -⟩ := Cond.code_spec B.named (atoms_spec (ws := ws) B.pre _ (by rw [hw]; exact List.mem_cons_self))
      cases Option.some.inj (h1.symm.trans B.method)
      cases Option.some.inj (h2.symm.trans (Stand.of_body B).code)
      intro x hx
      rw [Array.isEmpty_iff.mp h7] at hx
      cases hx
    obtain ⟨t, a1, o, b1, b2, b3⟩ := body p e s m args below meth c s₁ B hml ht hP s₁ hh0 (Stand.of_body B)
    exact ⟨t, o, a1, b1, b2, b3⟩
/-- the table of a body with handlers -/
theorem vx_table {p : Program} {x y : MethodName} {S : Spec} {cc bytes : ByteArray} {maxL maxL' : Nat} {ret ret' : Option FieldType} {e : Env} {s s₁ : State} {m : MethodId} {args : Array Value} {below : List Frame} {meth : Method} {c : Code} {hh : List (Nat × Nat × Nat × Nat)}
    (B : BodyLoose p l y S cc maxL ret e s m args below meth c s₁) (h : (Cond.codeWith y bytes maxL' ret' hh).before args s = true) : c.exceptionTable.toList = tableOf hh := by
  obtain ⟨m9, meth9, c9, hn9, h1, h2, -, -, h6, -⟩ := Cond.codeWith_spec h
  cases Option.some.inj (hn9.symm.trans B.named)
  cases Option.some.inj (h1.symm.trans B.method)
  cases Option.some.inj (h2.symm.trans (Stand.of_body B).code)
  rw [← h6, table_eq]
end Bodies
end VXA
/-! ===== END ===== -/
/-! ===== BEGIN a static call of a method with an exception table ===== -/
section VXS
variable {p : Program} {l : Launch} {e : Env} {R : Room} {s : State} {m : MethodId} {args : Array Value} {below : List Frame} {meth : Method} {c : Code} {T : State} {H : Heap} {locs : List Loc} {cells slots : Nat}
abbrev vx_CSW (R : Room) (s : State) (args : Array Value) (own : String) (index : Nat) (y : MethodName) (bytes : ByteArray) (maxL : Nat) (ret : Option FieldType) (hh : List (Nat × Nat × Nat × Nat)) (ws : List Cond) (rm : Room) (mc ms n : Nat) : Prop :=
  (rm.cells = mc ∧ rm.slots = ms ∧ rm.frames + 1 ≤ R.frames ∧ 8 + (maxL + 11) + rm.locals ≤ R.locals ∧ (∀ w ∈ ws, ∀ (a' : Array Value) (U : State), s.WarmedH U.vm → w.before a' U = true) ∧ Cond.codeWith y bytes maxL ret hh ∈ ws) ∧
  (Cond.codeWith y bytes maxL ret hh).before args s = true ∧ (Cond.initialized y.cls).before args s = true ∧ (y.cls ≠ "java/lang/invoke/MethodHandle" ∧ y.cls ≠ "java/lang/invoke/VarHandle") ∧
  (∀ sig, parseMethodDescriptor y.desc = some sig → n = sig.parameters.length) ∧ (Cond.methodLink own index y).before args s = true ∧ (Cond.static y).before args s = true
theorem vx_cwSW {own : String} {index maxL mc ms : Nat} {y : MethodName} {bytes : ByteArray} {ret : Option FieldType} {hh : List (Nat × Nat × Nat × Nat)} {Ts ws ws' : List Cond} {rm : Room} (n : Nat) (ht : ∀ w ∈ Ts, w.before args s = true) (hT : GoodIn Ts (va_wsS own index y ws)) (hw : ws = Cond.codeWith y bytes maxL ret hh :: ws') (hrc : rm.cells = mc) (hrs : rm.slots = ms)
    (hd : y.cls ≠ "java/lang/invoke/MethodHandle" ∧ y.cls ≠ "java/lang/invoke/VarHandle" ∧ (parseMethodDescriptor y.desc).map (fun d => d.parameters.length) = some n) (hR : rm.frames + 1 ≤ R.frames ∧ 8 + (maxL + 11) + rm.locals ≤ R.locals) :
    vx_CSW R s args own index y bytes maxL ret hh ws rm mc ms n := by
  have ok : ∀ w ∈ va_wsS own index y ws, w.before args s = true := fun w h => ht w (hT w h).1
  have hG : GoodIn Ts ws := fun w h => hT w (by unfold va_wsS; exact List.mem_append_right _ h)
  have hc : Cond.codeWith y bytes maxL ret hh ∈ ws := by rw [hw]; exact List.mem_cons_self
  refine ⟨⟨hrc, hrs, hR.1, hR.2, pay_in ht hG, hc⟩, ht _ (hG _ hc).1, ok _ (by simp [va_wsS]), ⟨hd.1, hd.2.1⟩, fun sig h => ?_, ok _ (by simp [va_wsS]), ok _ (by simp [va_wsS])⟩
  have h2 := hd.2.2
  rw [h] at h2
  exact (Option.some.inj h2).symm
theorem vx_callSW (X : Stand p l e R s m args below meth c T locs cells slots) (hexec : p.tables.exec = Jvm.exec) {own : String} {index : Nat} {y : MethodName} {bytes : ByteArray} {maxL : Nat} {ret : Option FieldType} {hh : List (Nat × Nat × Nat × Nat)}
    (hown : s.vm.findClass own = some m.cls) (hlink : (Cond.methodLink own index y).before args s = true) (hstat : (Cond.static y).before args s = true) (hinit : (Cond.initialized y.cls).before args s = true)
    (hcode : (Cond.codeWith y bytes maxL ret hh).before args s = true) (hy : y.cls ≠ "java/lang/invoke/MethodHandle" ∧ y.cls ≠ "java/lang/invoke/VarHandle")
    {W9 : Nat} {Pre : Pt → Array Value → Prop} {Post : Pt → Array Value → Option Value → Pt → Prop} (hK : Back l R p e below s args y 3 W9 Pre Post)
    {g : JFrame} (hg : g.method = m) (hsize : g.locals.size = c.maxLocals) {argsL rest : List Value} (hlen : ∀ sig, parseMethodDescriptor y.desc = some sig → argsL.length = sig.parameters.length)
    (hstack : g.stack = argsL.reverse ++ rest) (hW : 2 * g.monitorRoom + (rest.map fun v => v.category).sum ≤ W9) (hdg : decode c.code g.pc = .ok (.invokestatic index, 3))
    (hpre : ∀ vm₁, s.WarmedH vm₁ → Pre ⟨T.setVm vm₁, locs, cells, slots⟩ argsL.toArray) :
    ∃ (v : Option Value) (vm₁ : Vm) (B : Pt), s.WarmedH vm₁ ∧ Stand p l e R s m args below meth c B.U B.locs B.cells B.slots ∧ Post ⟨T.setVm vm₁, locs, cells, slots⟩ argsL.toArray v B ∧
      ∀ target, Steps p.tables e below (B.U.setTop { g with pc := g.pc + 3, stack := v.toList ++ rest }) target → Steps p.tables e below (T.setTop g) target := by
  obtain ⟨mk, methM, cM, hnamed, hmethM, -, -, -, -, -, -, hsigM⟩ := Cond.codeWith_spec hcode
  have hstatic : methM.isStatic = true := Cond.static_spec hnamed hmethM hstat
  obtain ⟨kP, hkP, -⟩ := className_of_methodNamed hnamed
  have hinitP : kP.init = .initialized := Cond.initialized_spec (findClass_of_methodNamed hnamed) hkP hinit
  obtain ⟨vm₁, X₁, hstep₁⟩ := X.invokestatic hexec hown hlink hnamed hmethM hstatic hkP hinitP hy (g := g) hg (argsL := argsL) (rest := rest) (hlen _ hsigM) hstack hdg
  obtain ⟨v, B, X', hpost, hsteps⟩ := hK m meth c ⟨T.setVm vm₁, locs, cells, slots⟩ { g with stack := rest } (.invokestatic index) mk argsL.toArray X₁ hg hsize hdg hW (X₁.named hnamed) (hpre vm₁ X₁.warmed)
  exact ⟨v, vm₁, B, X₁.warmed, X', hpost, fun target h => hstep₁ _ fun acts => by rw [doInvoke_state]; exact hsteps.trans h⟩
theorem vx_runSW {y : MethodName} {bytes cc : ByteArray} {maxL nL mc ms n index : Nat} {ret : Option FieldType} {hh : List (Nat × Nat × Nat × Nat)} {ws : List Cond} {rm : Room} {Pc : Array Value → State → Prop} {Qc : Array Value → State → Outcome → State → Prop} {free : Addr → Prop} {Ts : List Cond} {own : String} {As rest : List Value} {g : JFrame}
    (S : CallFix p m c cc nL s args Ts own) (hM : Met l y ws rm Pc Qc mc ms free) (cw : vx_CSW R s args own index y bytes maxL ret hh ws rm mc ms n) (hp : PreS s H Pc As)
    (hg : g.method = m) (hn : As.length = n) (hsize : g.locals.size = nL) (hstack : g.stack = As.reverse ++ rest) (hW : 2 * g.monitorRoom + (rest.map fun v => v.category).sum ≤ 8) (hdg : decode cc g.pc = .ok (.invokestatic index, 3)) (hf : cells + mc ≤ R.cells ∧ slots + ms ≤ R.slots) :
    va_Run p l e R s m args below meth c H locs cells slots mc ms g rest (Qc As.toArray) (free) := by
  obtain ⟨⟨hrc, hrs, hfr, hlo, hws, hcw⟩, hcode, hini, hy, hlen, hl, hstt⟩ := cw
  have hK : Back l R p e below s args y 3 8 (PreOf R mc ms Pc) (PostOf Qc mc ms free) := va_backW (hh := hh) (bytes := bytes) (maxL := maxL) (ret := ret) hM hp.1 hrc hrs hfr hlo hws hcw (fun a' U hW => word_at hW (Or.inl (by first | rfl | simp [Cond.onTables, Cond.keeps, Cond.steady])) hini)
  obtain ⟨hx, hb, hml, ho, -⟩ := S
  intro T hT X
  obtain ⟨v, vm₁, ⟨U', l2, c2, s2⟩, hW₁, X', ⟨g', mk, t, L, e1, e2, hq, h1, hL, h2, h3⟩, st⟩ := vx_callSW X hx (hh := hh) (bytes := bytes) (maxL := maxL) (ret := ret) ho hl hstt hini hcode hy hK hg (hsize.trans hml.symm) (argsL := As) (rest := rest) (fun sig h => hn.trans (hlen sig h)) hstack hW (by rw [hb]; exact hdg)
    (fun vm₁ hW₁ => ⟨hf.1, hf.2, hp.2 (T.setVm vm₁) hT hW₁⟩)
  dsimp only [Pt.U, Pt.locs, Pt.cells, Pt.slots] at X' e1 e2 h1 h2 h3 st
  subst h1; subst h2; subst h3
  exact ⟨v, (T.setVm vm₁).calling g' mk As.toArray, t, U', L, hT, X', hL, e1, e2, hq, st⟩
/-- not caught here, past rows that name other classes: it goes on to the caller -/
theorem vx_outP {p : Program} {l : Launch} {e : Env} {R : Room} {s : State} {m : MethodId} {args : Array Value} {below : List Frame} {meth : Method} {c : Code} {H : Heap} {locs : List Loc} {cells slots : Nat} {free : Addr → Prop} {ls : Array Slot} {rest : List Value} {Qc : Array Value → State → Outcome → State → Prop} {XC : String → State → State → Prop}
    {pc : Nat} {own E : String} {ce : Cell} {q : Addr} {mc ms : Nat} (hown : s.vm.findClass own = some m.cls) (hlocks : meth.locks = false)
    (hpass : ∀ z ∈ c.exceptionTable.toList, covers z pc = false ∨ (z.catchType ≠ 0 ∧ ∃ nm : String, (Cond.classLink own z.catchType nm).before args s = true ∧ va_Nc E nm s)) (hcell : H[q]? = some ce) (hv : ce.vm = .none) (hcl : s.vm.findClass E = some ce.cls)
    (hx : ∀ t : State, t.heap = H → s.vm.Alike t.vm → XC E s t) (hf : ∀ z ∈ locs, free z.base) (hc : cells ≤ mc) (hs : slots ≤ ms) :
    vx_W p l e R s m args below meth c H locs cells slots (vx_MQ below Qc XC args s mc ms free) (F0 m pc ls rest) q := by
  intro T hT X
  have hpl : e.platform.magicAccessors = ({} : Platform).magicAccessors := by rw [X.admits.platform]
  obtain ⟨vm', hW', X', st⟩ := X.outThrough hlocks q (g := F0 m pc ls rest) rfl rfl rfl (cell := ce) (by rw [hT]; exact hcell) (by rw [hv]; rfl)
    (by obtain ⟨k9, h9, -⟩ := Vm.findClass_spec hcl; exact ⟨k9, h9⟩) (fun z hz => by
      rcases hpass z hz with h | ⟨hz0, nm, hl1, hn1⟩
      · exact Or.inl h
      · obtain ⟨c6, hc6, hcl6⟩ := Cond.classLink_spec hown hl1 e.platform hpl
        obtain ⟨a8, b8, h1, h2, h3⟩ := hn1
        cases Option.some.inj (h1.symm.trans hcl)
        cases Option.some.inj (h2.symm.trans hc6)
        exact Or.inr ⟨hz0, _, hcl6, h3⟩)
  obtain ⟨g₀, hfr⟩ := X'.frames_eq
  have hcell9 : ((T.setVm vm').setFrames (.throwing q :: below)).heap[q]? = some ce := by
    show T.heap[q]? = some ce
    rw [hT]; exact hcell
  have hend : Ended ((T.setVm vm').setFrames (.throwing q :: below)) below (.threw q) := State.frames_setFrames _ (State.cur_lt_of_frames hfr)
  refine ⟨(T.setVm vm').setFrames (.throwing q :: below), ?_, .threw q, X'.here.running, hend, Or.inr ⟨q, rfl, E, ce, locs, hx _ hT (X'.ends _).1.alike, hcell9, hv, hcl, (X'.ends _).1, (X'.ends _).2.mono hc hs, hf⟩⟩
  rw [X.pushThrowing_eq]
  exact st
/-- a thing of a world lies in the heap -/
theorem vx_lt {D : va_G} {cl : List vw_C} {ws : va_W} {H1 : Heap} (h : va_P D cl ws H1) {k : Nat} {q : Nat × va_E} (hk : ws[k]? = some q) : q.1 < H1.size := (h k q hk).lt
end VXS
/-! ===== END ===== -/
/-! ===== BEGIN methods with a table of their own: called by a name, returning or throwing ===== -/
section VXH
/-! vx_backW, vx_callVX, vx_callSX, vx_callVW, vx_runVW, vx_runVX, vx_runSX, vx_ofWH follow the same proofs as their sisters above (Free/Laws.lean, Shelf42/LK1.lean); vx_outP calls Shelf42/NT130.lean (outThrough). -/
section
variable {l : Launch} {R : Room} {p : Program} {e : Env} {below : List Frame} {s : State} {sargs : Array Value} {y : MethodName} {len W9 : Nat}
theorem vx_backW {ws : List Cond} {rm : Room} {Pc : Array Value → State → Prop} {Qc : Array Value → State → Outcome → State → Prop} {XC : String → State → State → Prop} {mc ms : Nat} {free : Addr → Prop} {bytes : ByteArray} {maxL : Nat} {ret : Option FieldType} {hh : List (Nat × Nat × Nat × Nat)}
    (hM : vx_Met l y ws rm Pc Qc XC mc ms free) (hblind : FrameBlind Pc) (hrc : rm.cells = mc) (hrs : rm.slots = ms)
    (hframes : rm.frames + 1 ≤ R.frames) (hlocals : W9 + (maxL + 11) + rm.locals ≤ R.locals)
    (hws : ∀ w ∈ ws, ∀ a' U, s.WarmedH U.vm → w.before a' U = true) (hcode : Cond.codeWith y bytes maxL ret hh ∈ ws) (hinit : ∀ a' U, s.WarmedH U.vm → (Cond.initialized y.cls).before a' U = true) :
    vx_Back l R p e below s sargs y len W9 (PreOf R mc ms Pc) (PostOf Qc mc ms free) (vx_Post XC mc ms free) := by
  intro m meth c A g ig mk a X hg hsize hdg hW hn hp
  have h1 : (headSpec ws rm).pre.before a A.U = true := atoms_intro fun w hw => hws w hw _ _ X.warmed
  have h2 : (Cond.codeWith y bytes maxL ret hh).before a A.U = true := hws _ hcode _ _ X.warmed
  have h3 : (Cond.initialized y.cls).before a A.U = true := hinit _ _ X.warmed
  have h4 : A.cells + (headSpec ws rm).room.cells ≤ R.cells := by rw [show (headSpec ws rm).room.cells = mc from hrc]; exact hp.1
  have h5 : A.slots + (headSpec ws rm).room.slots ≤ R.slots := by rw [show (headSpec ws rm).room.slots = ms from hrs]; exact hp.2.1
  have hPc : Pc a (A.U.calling g mk a) := hblind _ _ _ _ hp.2.2
  obtain ⟨U, Ls, c0, s0⟩ := A
  dsimp only [Pt.U, Pt.locs, Pt.cells, Pt.slots] at h1 h2 h3 h4 h5 X hn hPc ⊢
  obtain ⟨m9, methY, cY, hn9, hmY, hcY, -, hlY, -⟩ := Cond.codeWith_spec h2
  cases Option.some.inj (hn9.symm.trans hn)
  obtain ⟨kY, hkY, -⟩ := className_of_methodNamed hn
  have hinitY : kY.init = .initialized := Cond.initialized_spec (findClass_of_methodNamed hn) hkY h3
  have h : At U g.method c below := by rw [hg]; exact X.here
  have hlocals9 : W9 + (maxL + 11) + (headSpec ws rm).room.locals ≤ R.locals := hlocals
  have happ : (headSpec ws rm).appliesLoose y e.platform (U.calling g mk a) = true :=
    Spec.appliesLoose_calling (g := g) h hdg hn hkY hinitY
      (X.room_calling (g := g) (R' := (headSpec ws rm).room) hsize hmY hcY hframes (by rw [hlY]; omega) h4 h5) h1
  obtain ⟨mid, hmid⟩ := h.above
  have hfr : (U.setTop g).frames = (.java g :: mid) ++ below := by rw [State.frames_setTop' g h.top, hmid]; rfl
  obtain ⟨o, s₂, hsteps, -, hend, hq⟩ := Steps.callFree hM p X.admits X.cas X.clock (acts := []) hfr happ hPc trivial
  have hq' : vx_Q Qc XC mc ms free a (U.calling g mk a) o s₂ := hq
  rw [State.frames_setTop' g h.top] at hend
  obtain ⟨g₀, hg0⟩ := Option.isSome_iff_exists.mp h.top
  obtain ⟨r, hr⟩ := State.topJava?_eq_some.mp hg0
  have hr' : (({ U with heap := s₂.heap, slotsUsed := s₂.slotsUsed } : State).setVm s₂.vm).frames = .java g₀ :: r := hr
  rcases hq' with ⟨hqc, L, hfe, hL⟩ | ⟨q, rfl, E, ce, L, hx, hce, hcv, hcl, hW₂, hsm, hL⟩
  · obtain ⟨⟨v, rfl⟩, hW₂, e2, q2, q3, q4, q5, q6⟩ := id hfe
    have e3 : s₂ = ({ (U.calling g mk a).setFrames s₂.frames with heap := s₂.heap, slotsUsed := s₂.slotsUsed } : State).setVm s₂.vm := by
      have : s₂ = ({ s₂ with vm := (U.calling g mk a).vm } : State).setVm s₂.vm := rfl
      rw [e2] at this
      exact this
    obtain ⟨c₂, i₂, len₂, hc₂, hd₂, hf₂⟩ := hend
    have hW' : U.WarmedH s₂.vm := hW₂
    have hcc : c₂ = c := by
      have h1 : s₂.code? g.method = U.code? g.method := by
        rw [State.code?_eq, State.code?_eq, hW'.alike.method?]
      exact Option.some.inj (hc₂.symm.trans (h1.trans h.code))
    subst hcc
    have hlen : len₂ = len := by rw [hdg] at hd₂; cases hd₂; rfl
    subst hlen
    have hs₂ : s₂ = (({ U with heap := s₂.heap, slotsUsed := s₂.slotsUsed } : State).setVm s₂.vm).setTop { g with pc := g.pc + len₂, stack := v.toList ++ g.stack } := by
      refine e3.trans ?_
      rw [hf₂, State.calling_eq h.top, State.setFrames_setFrames, State.setTop_of_frames _ hr', hr]
      rfl
    have hsame : U.sameButNew ({ U with heap := s₂.heap, slotsUsed := s₂.slotsUsed } : State) L mc ms := by
      refine ⟨?_, q2, q3, q4, q5, q6⟩
      obtain ⟨t, ht, -⟩ := State.frames_cons hr
      show ({ U with heap := s₂.heap, slotsUsed := s₂.slotsUsed } : State) = { U.setFrames U.frames with heap := s₂.heap, slotsUsed := s₂.slotsUsed }
      rw [State.setFrames_self ht]
    subst hg
    refine Or.inl ⟨v, ⟨(({ U with heap := s₂.heap, slotsUsed := s₂.slotsUsed } : State).setVm s₂.vm), Ls ++ L, c0 + mc, s0 + ms⟩,
      ⟨X.admits, X.cas, X.clock, X.frames, X.room, X.hears, X.method, X.code, (X.here.setHeapUsed s₂.heap s₂.slotsUsed).setVm hW'.alike, X.tail, State.WarmedH.trans X.warmed hW', X.limits, X.bytes, X.same.trans (hsame.setVm s.vm)⟩,
      ⟨g, mk, s₂, L, rfl, rfl, hqc, rfl, hL, rfl, rfl⟩, ?_⟩
    show Steps p.tables e below _ ((({ U with heap := s₂.heap, slotsUsed := s₂.slotsUsed } : State).setVm s₂.vm).setTop { g with pc := g.pc + len₂, stack := v.toList ++ g.stack })
    rw [← hs₂]
    exact hsteps
  · obtain ⟨e2, q2, q3, q4, q5, q6⟩ := id hsm
    have e3 : s₂ = ({ (U.calling g mk a).setFrames s₂.frames with heap := s₂.heap, slotsUsed := s₂.slotsUsed } : State).setVm s₂.vm := by
      have : s₂ = ({ s₂ with vm := (U.calling g mk a).vm } : State).setVm s₂.vm := rfl
      rw [e2] at this
      exact this
    have hf₂ : s₂.frames = .throwing q :: .java g :: U.frames.tail := hend
    have hW' : U.WarmedH s₂.vm := hW₂
    have hs₂ : s₂ = ((({ U with heap := s₂.heap, slotsUsed := s₂.slotsUsed } : State).setVm s₂.vm).setTop g).pushFrame (.throwing q) := by
      refine e3.trans ?_
      rw [hf₂, State.calling_eq h.top, State.setFrames_setFrames, State.pushFrame, State.frames_setTop _ hr', State.setTop_of_frames _ hr', State.setFrames_setFrames, hr]
      rfl
    have hsame : U.sameButNew ({ U with heap := s₂.heap, slotsUsed := s₂.slotsUsed } : State) L mc ms := by
      refine ⟨?_, q2, q3, q4, q5, q6⟩
      obtain ⟨t, ht, -⟩ := State.frames_cons hr
      show ({ U with heap := s₂.heap, slotsUsed := s₂.slotsUsed } : State) = { U.setFrames U.frames with heap := s₂.heap, slotsUsed := s₂.slotsUsed }
      rw [State.setFrames_self ht]
    subst hg
    refine Or.inr ⟨q, ⟨(({ U with heap := s₂.heap, slotsUsed := s₂.slotsUsed } : State).setVm s₂.vm), Ls ++ L, c0 + mc, s0 + ms⟩,
      ⟨X.admits, X.cas, X.clock, X.frames, X.room, X.hears, X.method, X.code, (X.here.setHeapUsed s₂.heap s₂.slotsUsed).setVm hW'.alike, X.tail, State.WarmedH.trans X.warmed hW', X.limits, X.bytes, X.same.trans (hsame.setVm s.vm)⟩,
      ⟨g, mk, s₂, L, E, ce, rfl, rfl, hx, hce, hcv, hcl, rfl, hL, rfl, rfl⟩, ?_⟩
    show Steps p.tables e below _ (((({ U with heap := s₂.heap, slotsUsed := s₂.slotsUsed } : State).setVm s₂.vm).setTop g).pushFrame (.throwing q))
    rw [← hs₂]
    exact hsteps
end
variable {p : Program} {l : Launch} {e : Env} {R : Room} {s : State} {m : MethodId} {args : Array Value} {below : List Frame} {meth : Method} {c : Code} {T : State} {H : Heap} {locs : List Loc} {cells slots : Nat}
theorem vx_callVX (X : Stand p l e R s m args below meth c T locs cells slots) (hexec : p.tables.exec = Jvm.exec) {own C : String} {index : Nat} {y : MethodName} {bytes : ByteArray} {maxL : Nat} {ret : Option FieldType} {hh : List (Nat × Nat × Nat × Nat)}
    (hown : s.vm.findClass own = some m.cls) (hlink : (Cond.methodLink own index y).before args s = true) (hinst : (Cond.instanceMethod y).before args s = true) (hsel : (Cond.selects C y y).before args s = true)
    (hcode : (Cond.codeWith y bytes maxL ret hh).before args s = true) (hy : y.cls ≠ "java/lang/invoke/MethodHandle" ∧ y.cls ≠ "java/lang/invoke/VarHandle")
    {W9 : Nat} {Pre : Pt → Array Value → Prop} {Post : Pt → Array Value → Option Value → Pt → Prop} {PostX : Pt → Array Value → Addr → Pt → Prop} (hK : vx_Back l R p e below s args y 3 W9 Pre Post PostX)
    {b : Addr} {cellB : Cell} (hcell : T.heap[b]? = some cellB) (hobj : cellB.vm.isStatics = false) (hcls : s.vm.findClass C = some cellB.cls)
    {g : JFrame} (hg : g.method = m) (hsize : g.locals.size = c.maxLocals) {argsL rest : List Value} (hlen : ∀ sig, parseMethodDescriptor y.desc = some sig → argsL.length = sig.parameters.length)
    (hstack : g.stack = argsL.reverse ++ .ref b :: rest) (hW : 2 * g.monitorRoom + (rest.map fun v => v.category).sum ≤ W9) (hdg : decode c.code g.pc = .ok (.invokevirtual index, 3))
    (hpre : ∀ vm₁, s.WarmedH vm₁ → Pre ⟨T.setVm vm₁, locs, cells, slots⟩ (Value.ref b :: argsL).toArray) :
    (∃ (v : Option Value) (vm₁ : Vm) (B : Pt), s.WarmedH vm₁ ∧ Stand p l e R s m args below meth c B.U B.locs B.cells B.slots ∧ Post ⟨T.setVm vm₁, locs, cells, slots⟩ (Value.ref b :: argsL).toArray v B ∧
      ∀ target, Steps p.tables e below (B.U.setTop { g with pc := g.pc + 3, stack := v.toList ++ rest }) target → Steps p.tables e below (T.setTop g) target) ∨
    (∃ (q : Addr) (vm₁ : Vm) (B : Pt), s.WarmedH vm₁ ∧ Stand p l e R s m args below meth c B.U B.locs B.cells B.slots ∧ PostX ⟨T.setVm vm₁, locs, cells, slots⟩ (Value.ref b :: argsL).toArray q B ∧
      Steps p.tables e below (T.setTop g) ((B.U.setTop { g with stack := rest }).pushFrame (.throwing q))) := by
  obtain ⟨mk, methM, hnamed, hmethM, hstM, habM⟩ := Cond.instanceMethod_spec hinst
  obtain ⟨m8, methM', cM, hn8, hmethM', -, -, -, -, -, -, hsigM⟩ := Cond.codeWith_spec hcode
  cases Option.some.inj (hn8.symm.trans hnamed)
  cases hmethM.symm.trans hmethM'
  obtain ⟨c2, r2, m2, q1, q2, q3, q4, kP, hkP, hkPi⟩ := Cond.selects_spec hsel
  cases hcls.symm.trans q1
  cases (State.methodFound?_of_named hnamed hy).symm.trans q2
  cases hnamed.symm.trans q3
  have hselP : selectMethod e.platform s.vm cellB.cls mk = .method mk := by rw [Launch.admits_selectMethod X.admits]; exact q4
  obtain ⟨vm₁, X₁, hstep₁⟩ := X.invokevirtual hexec hown hlink hnamed hmethM hstM hkP hkPi hy (a := b) (cell := cellB) hcell
    (fun z h => by rw [h] at hobj; cases hobj) hselP hmethM habM hkP hkPi (g := g) hg (argsL := argsL) (rest := rest) (hlen _ hsigM) hstack hdg
  rcases hK m meth c ⟨T.setVm vm₁, locs, cells, slots⟩ { g with stack := rest } (.invokevirtual index) mk (Value.ref b :: argsL).toArray X₁ hg hsize hdg hW (X₁.named hnamed) (hpre vm₁ X₁.warmed) with ⟨v, B, X', hpost, hsteps⟩ | ⟨q, B, X', hpost, hsteps⟩
  · exact Or.inl ⟨v, vm₁, B, X₁.warmed, X', hpost, fun target h => hstep₁ _ fun acts => by rw [doInvoke_state]; exact hsteps.trans h⟩
  · exact Or.inr ⟨q, vm₁, B, X₁.warmed, X', hpost, hstep₁ _ fun acts => by rw [doInvoke_state]; exact hsteps⟩
theorem vx_callSX (X : Stand p l e R s m args below meth c T locs cells slots) (hexec : p.tables.exec = Jvm.exec) {own : String} {index : Nat} {y : MethodName} {bytes : ByteArray} {maxL : Nat} {ret : Option FieldType} {hh : List (Nat × Nat × Nat × Nat)}
    (hown : s.vm.findClass own = some m.cls) (hlink : (Cond.methodLink own index y).before args s = true) (hstat : (Cond.static y).before args s = true) (hinit : (Cond.initialized y.cls).before args s = true)
    (hcode : (Cond.codeWith y bytes maxL ret hh).before args s = true) (hy : y.cls ≠ "java/lang/invoke/MethodHandle" ∧ y.cls ≠ "java/lang/invoke/VarHandle")
    {W9 : Nat} {Pre : Pt → Array Value → Prop} {Post : Pt → Array Value → Option Value → Pt → Prop} {PostX : Pt → Array Value → Addr → Pt → Prop} (hK : vx_Back l R p e below s args y 3 W9 Pre Post PostX)
    {g : JFrame} (hg : g.method = m) (hsize : g.locals.size = c.maxLocals) {argsL rest : List Value} (hlen : ∀ sig, parseMethodDescriptor y.desc = some sig → argsL.length = sig.parameters.length)
    (hstack : g.stack = argsL.reverse ++ rest) (hW : 2 * g.monitorRoom + (rest.map fun v => v.category).sum ≤ W9) (hdg : decode c.code g.pc = .ok (.invokestatic index, 3))
    (hpre : ∀ vm₁, s.WarmedH vm₁ → Pre ⟨T.setVm vm₁, locs, cells, slots⟩ argsL.toArray) :
    (∃ (v : Option Value) (vm₁ : Vm) (B : Pt), s.WarmedH vm₁ ∧ Stand p l e R s m args below meth c B.U B.locs B.cells B.slots ∧ Post ⟨T.setVm vm₁, locs, cells, slots⟩ argsL.toArray v B ∧
      ∀ target, Steps p.tables e below (B.U.setTop { g with pc := g.pc + 3, stack := v.toList ++ rest }) target → Steps p.tables e below (T.setTop g) target) ∨
    (∃ (q : Addr) (vm₁ : Vm) (B : Pt), s.WarmedH vm₁ ∧ Stand p l e R s m args below meth c B.U B.locs B.cells B.slots ∧ PostX ⟨T.setVm vm₁, locs, cells, slots⟩ argsL.toArray q B ∧
      Steps p.tables e below (T.setTop g) ((B.U.setTop { g with stack := rest }).pushFrame (.throwing q))) := by
  obtain ⟨mk, methM, cM, hnamed, hmethM, -, -, -, -, -, -, hsigM⟩ := Cond.codeWith_spec hcode
  have hstatic : methM.isStatic = true := Cond.static_spec hnamed hmethM hstat
  obtain ⟨kP, hkP, -⟩ := className_of_methodNamed hnamed
  have hinitP : kP.init = .initialized := Cond.initialized_spec (findClass_of_methodNamed hnamed) hkP hinit
  obtain ⟨vm₁, X₁, hstep₁⟩ := X.invokestatic hexec hown hlink hnamed hmethM hstatic hkP hinitP hy (g := g) hg (argsL := argsL) (rest := rest) (hlen _ hsigM) hstack hdg
  rcases hK m meth c ⟨T.setVm vm₁, locs, cells, slots⟩ { g with stack := rest } (.invokestatic index) mk argsL.toArray X₁ hg hsize hdg hW (X₁.named hnamed) (hpre vm₁ X₁.warmed) with ⟨v, B, X', hpost, hsteps⟩ | ⟨q, B, X', hpost, hsteps⟩
  · exact Or.inl ⟨v, vm₁, B, X₁.warmed, X', hpost, fun target h => hstep₁ _ fun acts => by rw [doInvoke_state]; exact hsteps.trans h⟩
  · exact Or.inr ⟨q, vm₁, B, X₁.warmed, X', hpost, hstep₁ _ fun acts => by rw [doInvoke_state]; exact hsteps⟩
theorem vx_callVW (X : Stand p l e R s m args below meth c T locs cells slots) (hexec : p.tables.exec = Jvm.exec) {own C : String} {index : Nat} {y : MethodName} {bytes : ByteArray} {maxL : Nat} {ret : Option FieldType} {hh : List (Nat × Nat × Nat × Nat)}
    (hown : s.vm.findClass own = some m.cls) (hlink : (Cond.methodLink own index y).before args s = true) (hinst : (Cond.instanceMethod y).before args s = true) (hsel : (Cond.selects C y y).before args s = true)
    (hcode : (Cond.codeWith y bytes maxL ret hh).before args s = true) (hy : y.cls ≠ "java/lang/invoke/MethodHandle" ∧ y.cls ≠ "java/lang/invoke/VarHandle")
    {W9 : Nat} {Pre : Pt → Array Value → Prop} {Post : Pt → Array Value → Option Value → Pt → Prop} (hK : Back l R p e below s args y 3 W9 Pre Post)
    {b : Addr} {cellB : Cell} (hcell : T.heap[b]? = some cellB) (hobj : cellB.vm.isStatics = false) (hcls : s.vm.findClass C = some cellB.cls)
    {g : JFrame} (hg : g.method = m) (hsize : g.locals.size = c.maxLocals) {argsL rest : List Value} (hlen : ∀ sig, parseMethodDescriptor y.desc = some sig → argsL.length = sig.parameters.length)
    (hstack : g.stack = argsL.reverse ++ .ref b :: rest) (hW : 2 * g.monitorRoom + (rest.map fun v => v.category).sum ≤ W9) (hdg : decode c.code g.pc = .ok (.invokevirtual index, 3))
    (hpre : ∀ vm₁, s.WarmedH vm₁ → Pre ⟨T.setVm vm₁, locs, cells, slots⟩ (Value.ref b :: argsL).toArray) :
    ∃ (v : Option Value) (vm₁ : Vm) (B : Pt), s.WarmedH vm₁ ∧ Stand p l e R s m args below meth c B.U B.locs B.cells B.slots ∧ Post ⟨T.setVm vm₁, locs, cells, slots⟩ (Value.ref b :: argsL).toArray v B ∧
      ∀ target, Steps p.tables e below (B.U.setTop { g with pc := g.pc + 3, stack := v.toList ++ rest }) target → Steps p.tables e below (T.setTop g) target := by
  obtain ⟨mk, methM, hnamed, hmethM, hstM, habM⟩ := Cond.instanceMethod_spec hinst
  obtain ⟨m8, methM', cM, hn8, hmethM', -, -, -, -, -, -, hsigM⟩ := Cond.codeWith_spec hcode
  cases Option.some.inj (hn8.symm.trans hnamed)
  cases hmethM.symm.trans hmethM'
  obtain ⟨c2, r2, m2, q1, q2, q3, q4, kP, hkP, hkPi⟩ := Cond.selects_spec hsel
  cases hcls.symm.trans q1
  cases (State.methodFound?_of_named hnamed hy).symm.trans q2
  cases hnamed.symm.trans q3
  have hselP : selectMethod e.platform s.vm cellB.cls mk = .method mk := by rw [Launch.admits_selectMethod X.admits]; exact q4
  obtain ⟨vm₁, X₁, hstep₁⟩ := X.invokevirtual hexec hown hlink hnamed hmethM hstM hkP hkPi hy (a := b) (cell := cellB) hcell
    (fun z h => by rw [h] at hobj; cases hobj) hselP hmethM habM hkP hkPi (g := g) hg (argsL := argsL) (rest := rest) (hlen _ hsigM) hstack hdg
  obtain ⟨v, B, X', hpost, hsteps⟩ := hK m meth c ⟨T.setVm vm₁, locs, cells, slots⟩ { g with stack := rest } (.invokevirtual index) mk (Value.ref b :: argsL).toArray X₁ hg hsize hdg hW (X₁.named hnamed) (hpre vm₁ X₁.warmed)
  exact ⟨v, vm₁, B, X₁.warmed, X', hpost, fun target h => hstep₁ _ fun acts => by rw [doInvoke_state]; exact hsteps.trans h⟩
abbrev vx_CVW (R : Room) (s : State) (args : Array Value) (own C : String) (index : Nat) (y : MethodName) (bytes : ByteArray) (maxL : Nat) (ret : Option FieldType) (hh : List (Nat × Nat × Nat × Nat)) (ws : List Cond) (rm : Room) (mc ms n : Nat) : Prop :=
  (rm.cells = mc ∧ rm.slots = ms ∧ rm.frames + 1 ≤ R.frames ∧ 8 + (maxL + 11) + rm.locals ≤ R.locals ∧ (∀ w ∈ ws, ∀ (a' : Array Value) (U : State), s.WarmedH U.vm → w.before a' U = true) ∧ Cond.codeWith y bytes maxL ret hh ∈ ws) ∧
  (Cond.codeWith y bytes maxL ret hh).before args s = true ∧ (Cond.initialized y.cls).before args s = true ∧ (y.cls ≠ "java/lang/invoke/MethodHandle" ∧ y.cls ≠ "java/lang/invoke/VarHandle") ∧
  (∀ sig, parseMethodDescriptor y.desc = some sig → n = sig.parameters.length) ∧ (Cond.methodLink own index y).before args s = true ∧ (Cond.instanceMethod y).before args s = true ∧ (Cond.selects C y y).before args s = true
theorem vx_cwVW {own C : String} {index maxL mc ms : Nat} {y : MethodName} {bytes : ByteArray} {ret : Option FieldType} {hh : List (Nat × Nat × Nat × Nat)} {Ts ws ws' : List Cond} {rm : Room} (n : Nat) (ht : ∀ w ∈ Ts, w.before args s = true) (hT : GoodIn Ts (wsV own index C y ws)) (hw : ws = Cond.codeWith y bytes maxL ret hh :: ws') (hrc : rm.cells = mc) (hrs : rm.slots = ms)
    (hd : y.cls = C ∧ y.cls ≠ "java/lang/invoke/MethodHandle" ∧ y.cls ≠ "java/lang/invoke/VarHandle" ∧ (parseMethodDescriptor y.desc).map (fun d => d.parameters.length) = some n) (hR : rm.frames + 1 ≤ R.frames ∧ 8 + (maxL + 11) + rm.locals ≤ R.locals) :
    vx_CVW R s args own C index y bytes maxL ret hh ws rm mc ms n := by
  obtain ⟨hC, hd⟩ := hd
  subst hC
  have ok : ∀ w ∈ wsV own index y.cls y ws, w.before args s = true := fun w h => ht w (hT w h).1
  have hG : GoodIn Ts ws := fun w h => hT w (by unfold wsV; exact List.mem_append_right _ h)
  have hc : Cond.codeWith y bytes maxL ret hh ∈ ws := by rw [hw]; exact List.mem_cons_self
  refine ⟨⟨hrc, hrs, hR.1, hR.2, pay_in ht hG, hc⟩, ht _ (hG _ hc).1, ok _ (by simp [wsV]), ⟨hd.1, hd.2.1⟩, fun sig h => ?_, ok _ (by simp [wsV]), ok _ (by simp [wsV]), ok _ (by simp [wsV])⟩
  have h2 := hd.2.2
  rw [h] at h2
  exact (Option.some.inj h2).symm
theorem vx_runVW {y : MethodName} {bytes cc : ByteArray} {maxL nL mc ms n index : Nat} {ret : Option FieldType} {hh : List (Nat × Nat × Nat × Nat)} {ws : List Cond} {rm : Room} {Pc : Array Value → State → Prop} {Qc : Array Value → State → Outcome → State → Prop} {free : Addr → Prop} {Ts : List Cond} {own C : String} {b : Addr} {As rest : List Value} {g : JFrame}
    (S : CallFix p m c cc nL s args Ts own) (hM : Met l y ws rm Pc Qc mc ms free) (cw : vx_CVW R s args own C index y bytes maxL ret hh ws rm mc ms n) (hp : PreV s H C b Pc As)
    (hg : g.method = m) (hn : As.length = n) (hsize : g.locals.size = nL) (hstack : g.stack = As.reverse ++ .ref b :: rest) (hW : 2 * g.monitorRoom + (rest.map fun v => v.category).sum ≤ 8) (hdg : decode cc g.pc = .ok (.invokevirtual index, 3)) (hf : cells + mc ≤ R.cells ∧ slots + ms ≤ R.slots) :
    va_Run p l e R s m args below meth c H locs cells slots mc ms g rest (Qc (Value.ref b :: As).toArray) free := by
  obtain ⟨⟨hrc, hrs, hfr, hlo, hws, hcw⟩, hcode, hini, hy, hlen, hl, hin, hse⟩ := cw
  have hK : Back l R p e below s args y 3 8 (PreOf R mc ms Pc) (PostOf Qc mc ms free) := va_backW (hh := hh) (bytes := bytes) (maxL := maxL) (ret := ret) hM hp.1 hrc hrs hfr hlo hws hcw (fun a' U hW => word_at hW (Or.inl (by first | rfl | simp [Cond.onTables, Cond.keeps, Cond.steady])) hini)
  obtain ⟨hx, hb, hml, ho, -⟩ := S
  obtain ⟨-, ⟨cellB, hcB, hoB, hclB⟩, hPc⟩ := hp
  intro T hT X
  obtain ⟨v, vm₁, ⟨U', l2, c2, s2⟩, hW₁, X', ⟨g', mk, t, L, e1, e2, hq, h1, hL, h2, h3⟩, st⟩ := vx_callVW X hx (C := C) (hh := hh) (bytes := bytes) (maxL := maxL) (ret := ret) ho hl hin hse hcode hy hK (by rw [hT]; exact hcB) hoB hclB hg (hsize.trans hml.symm) (argsL := As) (rest := rest) (fun sig h => hn.trans (hlen sig h)) hstack hW (by rw [hb]; exact hdg)
    (fun vm₁ hW₁ => ⟨hf.1, hf.2, hPc (T.setVm vm₁) hT hW₁⟩)
  dsimp only [Pt.U, Pt.locs, Pt.cells, Pt.slots] at X' e1 e2 h1 h2 h3 st
  subst h1; subst h2; subst h3
  exact ⟨v, (T.setVm vm₁).calling g' mk (Value.ref b :: As).toArray, t, U', L, hT, X', hL, e1, e2, hq, st⟩
section
variable {y : MethodName} {bytes cc : ByteArray} {maxL nL mc ms n index : Nat} {ret : Option FieldType} {ws : List Cond} {rm : Room} {Pc : Array Value → State → Prop} {Qc : Array Value → State → Outcome → State → Prop} {XC : String → State → State → Prop} {free : Addr → Prop} {Ts : List Cond} {own C : String} {b : Addr} {As rest : List Value} {g : JFrame}
theorem vx_runVX {hh : List (Nat × Nat × Nat × Nat)} (S : CallFix p m c cc nL s args Ts own) (hM : vx_Met l y ws rm Pc Qc XC mc ms free) (cw : vx_CVW R s args own C index y bytes maxL ret hh ws rm mc ms n) (hp : PreV s H C b Pc As)
    (hg : g.method = m) (hn : As.length = n) (hsize : g.locals.size = nL) (hstack : g.stack = As.reverse ++ .ref b :: rest) (hW : 2 * g.monitorRoom + (rest.map fun v => v.category).sum ≤ 8) (hdg : decode cc g.pc = .ok (.invokevirtual index, 3)) (hf : cells + mc ≤ R.cells ∧ slots + ms ≤ R.slots) :
    vx_Run p l e R s m args below meth c H locs cells slots mc ms g rest (Qc (Value.ref b :: As).toArray) XC free := by
  obtain ⟨⟨hrc, hrs, hfr, hlo, hws, hcw⟩, hcode, hini, hy, hlen, hl, hin, hse⟩ := cw
  have hK : vx_Back l R p e below s args y 3 8 (PreOf R mc ms Pc) (PostOf Qc mc ms free) (vx_Post XC mc ms free) := vx_backW (hh := hh) (bytes := bytes) (maxL := maxL) (ret := ret) hM hp.1 hrc hrs hfr hlo hws hcw (fun a' U hW => word_at hW (Or.inl (by first | rfl | simp [Cond.onTables, Cond.keeps, Cond.steady])) hini)
  obtain ⟨hx, hb, hml, ho, -⟩ := S
  obtain ⟨-, ⟨cellB, hcB, hoB, hclB⟩, hPc⟩ := hp
  intro T hT X
  rcases vx_callVX X hx (C := C) (hh := hh) (bytes := bytes) (maxL := maxL) (ret := ret) ho hl hin hse hcode hy hK (by rw [hT]; exact hcB) hoB hclB hg (hsize.trans hml.symm) (argsL := As) (rest := rest) (fun sig h => hn.trans (hlen sig h)) hstack hW (by rw [hb]; exact hdg)
    (fun vm₁ hW₁ => ⟨hf.1, hf.2, hPc (T.setVm vm₁) hT hW₁⟩) with ⟨v, vm₁, ⟨U', l2, c2, s2⟩, hW₁, X', ⟨g', mk, t, L, e1, e2, hq, h1, hL, h2, h3⟩, st⟩ | ⟨q, vm₁, ⟨U', l2, c2, s2⟩, hW₁, X', ⟨g', mk, t, L, E, ce, e1, e2, hq, hce, hcv, hcl, h1, hL, h2, h3⟩, st⟩
  · dsimp only [Pt.U, Pt.locs, Pt.cells, Pt.slots] at X' e1 e2 h1 h2 h3 st
    subst h1; subst h2; subst h3
    exact Or.inl ⟨v, (T.setVm vm₁).calling g' mk (Value.ref b :: As).toArray, t, U', L, hT, X', hL, e1, e2, hq, st⟩
  · dsimp only [Pt.U, Pt.locs, Pt.cells, Pt.slots] at X' e1 e2 h1 h2 h3 st hcl
    subst h1; subst h2; subst h3
    exact Or.inr ⟨q, (T.setVm vm₁).calling g' mk (Value.ref b :: As).toArray, t, U', L, E, ce, hT, X', hL, e1, e2, hq, hce, hcv, vx_cls hW₁ hcl, st⟩
theorem vx_runSX {hh : List (Nat × Nat × Nat × Nat)} (S : CallFix p m c cc nL s args Ts own) (hM : vx_Met l y ws rm Pc Qc XC mc ms free) (cw : vx_CSW R s args own index y bytes maxL ret hh ws rm mc ms n) (hp : PreS s H Pc As)
    (hg : g.method = m) (hn : As.length = n) (hsize : g.locals.size = nL) (hstack : g.stack = As.reverse ++ rest) (hW : 2 * g.monitorRoom + (rest.map fun v => v.category).sum ≤ 8) (hdg : decode cc g.pc = .ok (.invokestatic index, 3)) (hf : cells + mc ≤ R.cells ∧ slots + ms ≤ R.slots) :
    vx_Run p l e R s m args below meth c H locs cells slots mc ms g rest (Qc As.toArray) XC free := by
  obtain ⟨⟨hrc, hrs, hfr, hlo, hws, hcw⟩, hcode, hini, hy, hlen, hl, hstt⟩ := cw
  have hK : vx_Back l R p e below s args y 3 8 (PreOf R mc ms Pc) (PostOf Qc mc ms free) (vx_Post XC mc ms free) := vx_backW (hh := hh) (bytes := bytes) (maxL := maxL) (ret := ret) hM hp.1 hrc hrs hfr hlo hws hcw (fun a' U hW => word_at hW (Or.inl (by first | rfl | simp [Cond.onTables, Cond.keeps, Cond.steady])) hini)
  obtain ⟨hx, hb, hml, ho, -⟩ := S
  intro T hT X
  rcases vx_callSX X hx (hh := hh) (bytes := bytes) (maxL := maxL) (ret := ret) ho hl hstt hini hcode hy hK hg (hsize.trans hml.symm) (argsL := As) (rest := rest) (fun sig h => hn.trans (hlen sig h)) hstack hW (by rw [hb]; exact hdg)
    (fun vm₁ hW₁ => ⟨hf.1, hf.2, hp.2 (T.setVm vm₁) hT hW₁⟩) with ⟨v, vm₁, ⟨U', l2, c2, s2⟩, hW₁, X', ⟨g', mk, t, L, e1, e2, hq, h1, hL, h2, h3⟩, st⟩ | ⟨q, vm₁, ⟨U', l2, c2, s2⟩, hW₁, X', ⟨g', mk, t, L, E, ce, e1, e2, hq, hce, hcv, hcl, h1, hL, h2, h3⟩, st⟩
  · dsimp only [Pt.U, Pt.locs, Pt.cells, Pt.slots] at X' e1 e2 h1 h2 h3 st
    subst h1; subst h2; subst h3
    exact Or.inl ⟨v, (T.setVm vm₁).calling g' mk As.toArray, t, U', L, hT, X', hL, e1, e2, hq, st⟩
  · dsimp only [Pt.U, Pt.locs, Pt.cells, Pt.slots] at X' e1 e2 h1 h2 h3 st hcl
    subst h1; subst h2; subst h3
    exact Or.inr ⟨q, (T.setVm vm₁).calling g' mk As.toArray, t, U', L, E, ce, hT, X', hL, e1, e2, hq, hce, hcv, vx_cls hW₁ hcl, st⟩
end
end VXH
theorem vx_ofWH {l : Launch} {y : MethodName} {ws ws' : List Cond} {rm : Room} {Pc : Array Value → State → Prop} {Qc : Array Value → State → Outcome → State → Prop} {XC : String → State → State → Prop} {mc ms : Nat} {free : Addr → Prop} {cc : ByteArray} {maxL : Nat} {ret : Option FieldType} {hh : List (Nat × Nat × Nat × Nat)}
    (hy : plainName y.cls = true) (hw : ws = Cond.codeWith y cc maxL ret hh :: ws')
    (body : ∀ p e s m args below meth c s₁, BodyLoose p l y (headSpec ws rm) cc maxL ret e s m args below meth c s₁ → c.maxLocals = maxL → Pc args s →
      W p l e (headSpec ws rm).room s m args below meth c s.heap [] 0 0 (vx_MQ below Qc XC args s mc ms free) (entryFrame m args maxL)) : vx_Met l y ws rm Pc Qc XC mc ms free := by
  refine MetFree.of_bodyS (code := cc) (maxLocals := maxL) (ret := ret) hy ?_ ?_
  · intro args s m h hn
    obtain ⟨m9, meth, c, hn9, h1, h2, h3, h4, -, h5, h6, -⟩ := Cond.codeWith_spec (atoms_spec (ws := ws) h _ (by rw [hw]; exact List.mem_cons_self))
    cases hn.symm.trans hn9
    exact ⟨meth, c, h1, h2, h3, h4, h5, h6⟩
  · intro p e s m args below meth c s₁ B hml hP _
    have hh0 : s₁.heap = s.heap := by rw [B.state]; rfl
    obtain ⟨t, a1, o, b1, b2, b3⟩ := body p e s m args below meth c s₁ B hml hP s₁ hh0 (Stand.of_body B)
    exact ⟨t, o, a1, b1, b2, b3⟩
/-! ===== END ===== -/
end
section
def RX0 : String := "ChronicleRows$Descent"
def TX0 : u_T := fun k => match k with
  | _ => ("", "", "", false)
def tyX0 : Nat → FieldType := fun k => match k with
  | _ => .int
abbrev wsX00 : List Cond := u_ws RX0 TX0 0
theorem nmX0 : ∀ a, a < 0 → ∀ b, b < 0 → a ≠ b → (TX0 a).2.1 ≠ (TX0 b).2.1 := by decide +kernel
theorem tyX0_ok : ∀ k, k < 0 → parseFieldDescriptor (TX0 k).2.2.1 = some (tyX0 k) := by decide +kernel
abbrev cX0_parentBits : ByteArray := prog_2_method_2_code
def yX0_parentBits : MethodName := ⟨RX0, "parentBits", "(LChronicleRows$State;I)I"⟩
abbrev cX0_ancestors : ByteArray := prog_2_method_3_code
def yX0_ancestors : MethodName := ⟨RX0, "ancestors", "(LChronicleRows$State;I)I"⟩
abbrev cX0_descendants : ByteArray := prog_2_method_4_code
def yX0_descendants : MethodName := ⟨RX0, "descendants", "(LChronicleRows$State;I)I"⟩
abbrev cX0_commonAncestors : ByteArray := prog_2_method_5_code
def yX0_commonAncestors : MethodName := ⟨RX0, "commonAncestors", "(LChronicleRows$State;I)I"⟩
abbrev cX0_kinCouples : ByteArray := prog_2_method_6_code
def yX0_kinCouples : MethodName := ⟨RX0, "kinCouples", "(LChronicleRows$State;)I"⟩
abbrev cX0_fewestLines : ByteArray := prog_2_method_7_code
def yX0_fewestLines : MethodName := ⟨RX0, "fewestLines", "(LChronicleRows$State;II)I"⟩
def RX1 : String := "ChronicleRows$ParentOrder"
def TX1 : u_T := fun k => match k with
  | 0 => ("ChronicleRows$ParentOrder", "keys", "[I", true)
  | _ => ("ChronicleRows$ParentOrder", "order", "[I", true)
def tyX1 : Nat → FieldType := fun k => match k with
  | 0 => .array .int
  | _ => .array .int
abbrev wsX10 : List Cond := u_ws RX1 TX1 2
theorem nmX1 : ∀ a, a < 2 → ∀ b, b < 2 → a ≠ b → (TX1 a).2.1 ≠ (TX1 b).2.1 := by decide +kernel
theorem tyX1_ok : ∀ k, k < 2 → parseFieldDescriptor (TX1 k).2.2.1 = some (tyX1 k) := by decide +kernel
abbrev cX1_init : ByteArray := prog_3_method_1_code
def yX1_init : MethodName := ⟨RX1, "<init>", "()V"⟩
abbrev cX1_lay : ByteArray := prog_3_method_2_code
def yX1_lay : MethodName := ⟨RX1, "lay", "(LChronicleRows$State;I)I"⟩
abbrev cX1_placeByKey : ByteArray := prog_3_method_3_code
def yX1_placeByKey : MethodName := ⟨RX1, "placeByKey", "(II)I"⟩
def RX2 : String := "ChronicleRows$RowLines"
def TX2 : u_T := fun k => match k with
  | 0 => ("ChronicleRows$RowLines", "middles", "[I", true)
  | 1 => ("ChronicleRows$RowLines", "places", "[I", true)
  | _ => ("ChronicleRows$RowLines", "size", "I", false)
def tyX2 : Nat → FieldType := fun k => match k with
  | 0 => .array .int
  | 1 => .array .int
  | _ => .int
abbrev wsX20 : List Cond := u_ws RX2 TX2 3
theorem nmX2 : ∀ a, a < 3 → ∀ b, b < 3 → a ≠ b → (TX2 a).2.1 ≠ (TX2 b).2.1 := by decide +kernel
theorem tyX2_ok : ∀ k, k < 3 → parseFieldDescriptor (TX2 k).2.2.1 = some (tyX2 k) := by decide +kernel
abbrev cX2_init : ByteArray := prog_4_method_1_code
def yX2_init : MethodName := ⟨RX2, "<init>", "()V"⟩
abbrev cX2_collect : ByteArray := prog_4_method_2_code
def yX2_collect : MethodName := ⟨RX2, "collect", "(LChronicleRows$State;I)V"⟩
abbrev cX2_crossedPairs : ByteArray := prog_4_method_3_code
def yX2_crossedPairs : MethodName := ⟨RX2, "crossedPairs", "()I"⟩
abbrev cX2_crossedOneByOne : ByteArray := prog_4_method_4_code
def yX2_crossedOneByOne : MethodName := ⟨RX2, "crossedOneByOne", "()I"⟩
abbrev cX2_sortByMiddles : ByteArray := prog_4_method_5_code
def yX2_sortByMiddles : MethodName := ⟨RX2, "sortByMiddles", "()V"⟩
def RX3 : String := "ChronicleRows$RowSearch"
def TX3 : u_T := fun k => match k with
  | 0 => ("ChronicleRows$RowSearch", "order", "[I", true)
  | 1 => ("ChronicleRows$RowSearch", "bestOrder", "[I", true)
  | 2 => ("ChronicleRows$RowSearch", "places", "[I", true)
  | 3 => ("ChronicleRows$RowSearch", "crossedFromLeft", "[I", true)
  | 4 => ("ChronicleRows$RowSearch", "couples", "[I", true)
  | 5 => ("ChronicleRows$RowSearch", "lessers", "[I", true)
  | 6 => ("ChronicleRows$RowSearch", "greaters", "[I", true)
  | 7 => ("ChronicleRows$RowSearch", "middles", "[I", true)
  | 8 => ("ChronicleRows$RowSearch", "parentIndexes", "[I", true)
  | 9 => ("ChronicleRows$RowSearch", "crossedIfLess", "[[I", true)
  | 10 => ("ChronicleRows$RowSearch", "size", "I", false)
  | 11 => ("ChronicleRows$RowSearch", "coupleCount", "I", false)
  | _ => ("ChronicleRows$RowSearch", "fewest", "I", false)
def tyX3 : Nat → FieldType := fun k => match k with
  | 0 => .array .int
  | 1 => .array .int
  | 2 => .array .int
  | 3 => .array .int
  | 4 => .array .int
  | 5 => .array .int
  | 6 => .array .int
  | 7 => .array .int
  | 8 => .array .int
  | 9 => .array (.array .int)
  | 10 => .int
  | 11 => .int
  | _ => .int
abbrev wsX30 : List Cond := u_ws RX3 TX3 13
theorem nmX3 : ∀ a, a < 13 → ∀ b, b < 13 → a ≠ b → (TX3 a).2.1 ≠ (TX3 b).2.1 := by decide +kernel
theorem tyX3_ok : ∀ k, k < 13 → parseFieldDescriptor (TX3 k).2.2.1 = some (tyX3 k) := by decide +kernel
abbrev cX3_init : ByteArray := prog_5_method_1_code
def yX3_init : MethodName := ⟨RX3, "<init>", "()V"⟩
abbrev cX3_prepare : ByteArray := prog_5_method_2_code
def yX3_prepare : MethodName := ⟨RX3, "prepare", "(LChronicleRows$State;I)V"⟩
abbrev cX3_listPeople : ByteArray := prog_5_method_3_code
def yX3_listPeople : MethodName := ⟨RX3, "listPeople", "(LChronicleRows$State;I)V"⟩
abbrev cX3_noteLinesTo : ByteArray := prog_5_method_4_code
def yX3_noteLinesTo : MethodName := ⟨RX3, "noteLinesTo", "(LChronicleRows$State;)V"⟩
abbrev cX3_listCouples : ByteArray := prog_5_method_5_code
def yX3_listCouples : MethodName := ⟨RX3, "listCouples", "(LChronicleRows$State;I)V"⟩
abbrev cX3_indexOfCouple : ByteArray := prog_5_method_6_code
def yX3_indexOfCouple : MethodName := ⟨RX3, "indexOfCouple", "(LChronicleRows$State;I)I"⟩
abbrev cX3_noteLinesFrom : ByteArray := prog_5_method_7_code
def yX3_noteLinesFrom : MethodName := ⟨RX3, "noteLinesFrom", "(I)V"⟩
abbrev cX3_leastByAllOrders : ByteArray := prog_5_method_8_code
def yX3_leastByAllOrders : MethodName := ⟨RX3, "leastByAllOrders", "()I"⟩
abbrev cX3_layBest : ByteArray := prog_5_method_9_code
def yX3_layBest : MethodName := ⟨RX3, "layBest", "(LChronicleRows$State;I)V"⟩
abbrev cX3_goToNextOrder : ByteArray := prog_5_method_10_code
def yX3_goToNextOrder : MethodName := ⟨RX3, "goToNextOrder", "()Z"⟩
abbrev cX3_leastByLaying : ByteArray := prog_5_method_11_code
def yX3_leastByLaying : MethodName := ⟨RX3, "leastByLaying", "()I"⟩
abbrev cX3_layOn : ByteArray := prog_5_method_12_code
def yX3_layOn : MethodName := ⟨RX3, "layOn", "(LChronicleRows$RowSearch;I)V"⟩
abbrev cX3_exchange : ByteArray := prog_5_method_13_code
def yX3_exchange : MethodName := ⟨RX3, "exchange", "(II)V"⟩
abbrev cX3_crossingsOfFirst : ByteArray := prog_5_method_14_code
def yX3_crossingsOfFirst : MethodName := ⟨RX3, "crossingsOfFirst", "(I)I"⟩
abbrev cX3_crossingsFrom : ByteArray := prog_5_method_15_code
def yX3_crossingsFrom : MethodName := ⟨RX3, "crossingsFrom", "(I)I"⟩
def RX4 : String := "ChronicleRows$SavedStates"
def TX4 : u_T := fun k => match k with
  | 0 => ("ChronicleRows$SavedStates", "ring", "[LChronicleRows$State;", true)
  | 1 => ("ChronicleRows$SavedStates", "oldest", "I", false)
  | _ => ("ChronicleRows$SavedStates", "size", "I", false)
def tyX4 : Nat → FieldType := fun k => match k with
  | 0 => .array (.object "ChronicleRows$State")
  | 1 => .int
  | _ => .int
abbrev wsX40 : List Cond := u_ws RX4 TX4 3
theorem nmX4 : ∀ a, a < 3 → ∀ b, b < 3 → a ≠ b → (TX4 a).2.1 ≠ (TX4 b).2.1 := by decide +kernel
theorem tyX4_ok : ∀ k, k < 3 → parseFieldDescriptor (TX4 k).2.2.1 = some (tyX4 k) := by decide +kernel
abbrev cX4_init : ByteArray := prog_6_method_1_code
def yX4_init : MethodName := ⟨RX4, "<init>", "()V"⟩
abbrev cX4_size : ByteArray := prog_6_method_2_code
def yX4_size : MethodName := ⟨RX4, "size", "()I"⟩
abbrev cX4_push : ByteArray := prog_6_method_3_code
def yX4_push : MethodName := ⟨RX4, "push", "(LChronicleRows$State;)V"⟩
def RX5 : String := "ChronicleRows$State"
def TX5 : u_T := fun k => match k with
  | 0 => ("ChronicleRows$State", "rows", "[I", true)
  | 1 => ("ChronicleRows$State", "places", "[I", true)
  | 2 => ("ChronicleRows$State", "parents", "[I", true)
  | 3 => ("ChronicleRows$State", "lessers", "[I", true)
  | 4 => ("ChronicleRows$State", "greaters", "[I", true)
  | 5 => ("ChronicleRows$State", "orders", "[I", true)
  | 6 => ("ChronicleRows$State", "sizes", "[I", true)
  | 7 => ("ChronicleRows$State", "people", "I", false)
  | 8 => ("ChronicleRows$State", "couples", "I", false)
  | _ => ("ChronicleRows$State", "refused", "I", false)
def tyX5 : Nat → FieldType := fun k => match k with
  | 0 => .array .int
  | 1 => .array .int
  | 2 => .array .int
  | 3 => .array .int
  | 4 => .array .int
  | 5 => .array .int
  | 6 => .array .int
  | 7 => .int
  | 8 => .int
  | _ => .int
abbrev wsX50 : List Cond := u_ws RX5 TX5 10
theorem nmX5 : ∀ a, a < 10 → ∀ b, b < 10 → a ≠ b → (TX5 a).2.1 ≠ (TX5 b).2.1 := by decide +kernel
theorem tyX5_ok : ∀ k, k < 10 → parseFieldDescriptor (TX5 k).2.2.1 = some (tyX5 k) := by decide +kernel
abbrev cX5_init : ByteArray := prog_7_method_1_code
def yX5_init : MethodName := ⟨RX5, "<init>", "()V"⟩
abbrev cX5_copyFrom : ByteArray := prog_7_method_2_code
def yX5_copyFrom : MethodName := ⟨RX5, "copyFrom", "(LChronicleRows$State;)V"⟩
abbrev cX5_people : ByteArray := prog_7_method_3_code
def yX5_people : MethodName := ⟨RX5, "people", "()I"⟩
abbrev cX5_couples : ByteArray := prog_7_method_4_code
def yX5_couples : MethodName := ⟨RX5, "couples", "()I"⟩
abbrev cX5_refused : ByteArray := prog_7_method_5_code
def yX5_refused : MethodName := ⟨RX5, "refused", "()I"⟩
abbrev cX5_isPerson : ByteArray := prog_7_method_6_code
def yX5_isPerson : MethodName := ⟨RX5, "isPerson", "(I)Z"⟩
abbrev cX5_isCouple : ByteArray := prog_7_method_7_code
def yX5_isCouple : MethodName := ⟨RX5, "isCouple", "(I)Z"⟩
abbrev cX5_sizeOf : ByteArray := prog_7_method_8_code
def yX5_sizeOf : MethodName := ⟨RX5, "sizeOf", "(I)I"⟩
abbrev cX5_rowOf : ByteArray := prog_7_method_9_code
def yX5_rowOf : MethodName := ⟨RX5, "rowOf", "(I)I"⟩
abbrev cX5_placeOf : ByteArray := prog_7_method_10_code
def yX5_placeOf : MethodName := ⟨RX5, "placeOf", "(I)I"⟩
abbrev cX5_parentsOf : ByteArray := prog_7_method_11_code
def yX5_parentsOf : MethodName := ⟨RX5, "parentsOf", "(I)I"⟩
abbrev cX5_lesserOf : ByteArray := prog_7_method_12_code
def yX5_lesserOf : MethodName := ⟨RX5, "lesserOf", "(I)I"⟩
abbrev cX5_greaterOf : ByteArray := prog_7_method_13_code
def yX5_greaterOf : MethodName := ⟨RX5, "greaterOf", "(I)I"⟩
abbrev cX5_personAt : ByteArray := prog_7_method_14_code
def yX5_personAt : MethodName := ⟨RX5, "personAt", "(II)I"⟩
abbrev cX5_middleOf : ByteArray := prog_7_method_15_code
def yX5_middleOf : MethodName := ⟨RX5, "middleOf", "(I)I"⟩
abbrev cX5_middleAbove : ByteArray := prog_7_method_16_code
def yX5_middleAbove : MethodName := ⟨RX5, "middleAbove", "(I)I"⟩
abbrev cX5_addPerson : ByteArray := prog_7_method_17_code
def yX5_addPerson : MethodName := ⟨RX5, "addPerson", "(II)I"⟩
abbrev cX5_addChild : ByteArray := prog_7_method_18_code
def yX5_addChild : MethodName := ⟨RX5, "addChild", "(I)I"⟩
abbrev cX5_addCouple : ByteArray := prog_7_method_19_code
def yX5_addCouple : MethodName := ⟨RX5, "addCouple", "(II)I"⟩
abbrev cX5_reasonAgainst : ByteArray := prog_7_method_20_code
def yX5_reasonAgainst : MethodName := ⟨RX5, "reasonAgainst", "(II)I"⟩
abbrev cX5_areCouple : ByteArray := prog_7_method_21_code
def yX5_areCouple : MethodName := ⟨RX5, "areCouple", "(II)Z"⟩
abbrev cX5_isDouble : ByteArray := prog_7_method_22_code
def yX5_isDouble : MethodName := ⟨RX5, "isDouble", "(I)Z"⟩
abbrev cX5_lay : ByteArray := prog_7_method_23_code
def yX5_lay : MethodName := ⟨RX5, "lay", "(III)V"⟩
abbrev cX5_exchange : ByteArray := prog_7_method_24_code
def yX5_exchange : MethodName := ⟨RX5, "exchange", "(II)V"⟩
abbrev cX5_couplesWith : ByteArray := prog_7_method_25_code
def yX5_couplesWith : MethodName := ⟨RX5, "couplesWith", "(I)I"⟩
abbrev cX5_childrenOf : ByteArray := prog_7_method_26_code
def yX5_childrenOf : MethodName := ⟨RX5, "childrenOf", "(I)I"⟩
abbrev cX5_childrenWith : ByteArray := prog_7_method_27_code
def yX5_childrenWith : MethodName := ⟨RX5, "childrenWith", "(I)I"⟩
abbrev cX5_lines : ByteArray := prog_7_method_28_code
def yX5_lines : MethodName := ⟨RX5, "lines", "()I"⟩
abbrev cX5_bentLines : ByteArray := prog_7_method_29_code
def yX5_bentLines : MethodName := ⟨RX5, "bentLines", "()I"⟩
abbrev cX5_doubles : ByteArray := prog_7_method_30_code
def yX5_doubles : MethodName := ⟨RX5, "doubles", "()I"⟩
def RX6 : String := "ChronicleRows$TextBuffer"
def TX6 : u_T := fun k => match k with
  | 0 => ("ChronicleRows$TextBuffer", "codes", "[I", true)
  | 1 => ("ChronicleRows$TextBuffer", "length", "I", false)
  | 2 => ("ChronicleRows$TextBuffer", "reading", "I", false)
  | 3 => ("ChronicleRows$TextBuffer", "kind", "I", false)
  | 4 => ("ChronicleRows$TextBuffer", "first", "I", false)
  | _ => ("ChronicleRows$TextBuffer", "second", "I", false)
def tyX6 : Nat → FieldType := fun k => match k with
  | 0 => .array .int
  | 1 => .int
  | 2 => .int
  | 3 => .int
  | 4 => .int
  | _ => .int
abbrev wsX60 : List Cond := u_ws RX6 TX6 6
theorem nmX6 : ∀ a, a < 6 → ∀ b, b < 6 → a ≠ b → (TX6 a).2.1 ≠ (TX6 b).2.1 := by decide +kernel
theorem tyX6_ok : ∀ k, k < 6 → parseFieldDescriptor (TX6 k).2.2.1 = some (tyX6 k) := by decide +kernel
abbrev cX6_init : ByteArray := prog_8_method_1_code
def yX6_init : MethodName := ⟨RX6, "<init>", "()V"⟩
def RX7 : String := "ChronicleRows"
def TX7 : u_T := fun k => match k with
  | 0 => ("ChronicleRows", "now", "LChronicleRows$State;", true)
  | 1 => ("ChronicleRows", "slots", "[LChronicleRows$State;", true)
  | 2 => ("ChronicleRows", "kept", "[Z", true)
  | 3 => ("ChronicleRows", "saved", "LChronicleRows$SavedStates;", true)
  | 4 => ("ChronicleRows", "text", "LChronicleRows$TextBuffer;", true)
  | 5 => ("ChronicleRows", "lines", "LChronicleRows$RowLines;", true)
  | 6 => ("ChronicleRows", "parentOrder", "LChronicleRows$ParentOrder;", true)
  | _ => ("ChronicleRows", "search", "LChronicleRows$RowSearch;", true)
def tyX7 : Nat → FieldType := fun k => match k with
  | 0 => .object "ChronicleRows$State"
  | 1 => .array (.object "ChronicleRows$State")
  | 2 => .array .boolean
  | 3 => .object "ChronicleRows$SavedStates"
  | 4 => .object "ChronicleRows$TextBuffer"
  | 5 => .object "ChronicleRows$RowLines"
  | 6 => .object "ChronicleRows$ParentOrder"
  | _ => .object "ChronicleRows$RowSearch"
abbrev wsX70 : List Cond := u_ws RX7 TX7 8
theorem nmX7 : ∀ a, a < 8 → ∀ b, b < 8 → a ≠ b → (TX7 a).2.1 ≠ (TX7 b).2.1 := by decide +kernel
theorem tyX7_ok : ∀ k, k < 8 → parseFieldDescriptor (TX7 k).2.2.1 = some (tyX7 k) := by decide +kernel
abbrev cX7_init : ByteArray := prog_1_method_1_code
def yX7_init : MethodName := ⟨RX7, "<init>", "()V"⟩
abbrev cX7_person : ByteArray := prog_1_method_2_code
def yX7_person : MethodName := ⟨RX7, "person", "(I)I"⟩
abbrev cX7_marry : ByteArray := prog_1_method_3_code
def yX7_marry : MethodName := ⟨RX7, "marry", "(II)I"⟩
abbrev cX7_child : ByteArray := prog_1_method_4_code
def yX7_child : MethodName := ⟨RX7, "child", "(I)I"⟩
abbrev cX7_swap : ByteArray := prog_1_method_5_code
def yX7_swap : MethodName := ⟨RX7, "swap", "(II)I"⟩
abbrev cX7_byParents : ByteArray := prog_1_method_6_code
def yX7_byParents : MethodName := ⟨RX7, "byParents", "(I)I"⟩
abbrev cX7_untangle : ByteArray := prog_1_method_7_code
def yX7_untangle : MethodName := ⟨RX7, "untangle", "(I)I"⟩
abbrev cX7_personOf : ByteArray := prog_1_method_15_code
def yX7_personOf : MethodName := ⟨RX7, "personOf", "(II)I"⟩
abbrev cX7_coupleOf : ByteArray := prog_1_method_16_code
def yX7_coupleOf : MethodName := ⟨RX7, "coupleOf", "(II)I"⟩
abbrev cX7_at : ByteArray := prog_1_method_17_code
def yX7_at : MethodName := ⟨RX7, "at", "(II)I"⟩
abbrev cX7_crossings : ByteArray := prog_1_method_18_code
def yX7_crossings : MethodName := ⟨RX7, "crossings", "(II)I"⟩
abbrev cX7_count : ByteArray := prog_1_method_19_code
def yX7_count : MethodName := ⟨RX7, "count", "(I)I"⟩
abbrev cX7_least : ByteArray := prog_1_method_20_code
def yX7_least : MethodName := ⟨RX7, "least", "(II)I"⟩
abbrev cX7_bestSwap : ByteArray := prog_1_method_21_code
def yX7_bestSwap : MethodName := ⟨RX7, "bestSwap", "()I"⟩
abbrev cX7_nearness : ByteArray := prog_1_method_22_code
def yX7_nearness : MethodName := ⟨RX7, "nearness", "(II)I"⟩
abbrev cX7_straightShare : ByteArray := prog_1_method_23_code
def yX7_straightShare : MethodName := ⟨RX7, "straightShare", "()D"⟩
abbrev cX7_isRow : ByteArray := prog_1_method_28_code
def yX7_isRow : MethodName := ⟨RX7, "isRow", "(I)Z"⟩
abbrev cX7_allCrossings : ByteArray := prog_1_method_30_code
def yX7_allCrossings : MethodName := ⟨RX7, "allCrossings", "()I"⟩
def RX8 : String := "ChronicleRowsModel"
def TX8 : u_T := fun k => match k with
  | _ => ("", "", "", false)
def tyX8 : Nat → FieldType := fun k => match k with
  | _ => .int
abbrev wsX80 : List Cond := u_ws RX8 TX8 0
theorem nmX8 : ∀ a, a < 0 → ∀ b, b < 0 → a ≠ b → (TX8 a).2.1 ≠ (TX8 b).2.1 := by decide +kernel
theorem tyX8_ok : ∀ k, k < 0 → parseFieldDescriptor (TX8 k).2.2.1 = some (tyX8 k) := by decide +kernel
def RJ6 : String := "java/lang/Integer"
def TJ6 : u_T := fun k => match k with
  | _ => ("", "", "", false)
def tyJ6 : Nat → FieldType := fun k => match k with
  | _ => .int
abbrev wsJ60 : List Cond := u_ws RJ6 TJ6 0
theorem nmJ6 : ∀ a, a < 0 → ∀ b, b < 0 → a ≠ b → (TJ6 a).2.1 ≠ (TJ6 b).2.1 := by decide +kernel
theorem tyJ6_ok : ∀ k, k < 0 → parseFieldDescriptor (TJ6 k).2.2.1 = some (tyJ6 k) := by decide +kernel
abbrev cJ6_bitCount_0f7a4 : ByteArray := prog_14_method_49_code
def yJ6_bitCount_0f7a4 : MethodName := ⟨RJ6, "bitCount", "(I)I"⟩
def RJ9 : String := "java/lang/Math"
def TJ9 : u_T := fun k => match k with
  | _ => ("", "", "", false)
def tyJ9 : Nat → FieldType := fun k => match k with
  | _ => .int
abbrev wsJ90 : List Cond := u_ws RJ9 TJ9 0
theorem nmJ9 : ∀ a, a < 0 → ∀ b, b < 0 → a ≠ b → (TJ9 a).2.1 ≠ (TJ9 b).2.1 := by decide +kernel
theorem tyJ9_ok : ∀ k, k < 0 → parseFieldDescriptor (TJ9 k).2.2.1 = some (tyJ9 k) := by decide +kernel
abbrev cJ9_max_7cf53 : ByteArray := prog_15_method_65_code
def yJ9_max_7cf53 : MethodName := ⟨RJ9, "max", "(II)I"⟩
abbrev cJ9_min_7cf53 : ByteArray := prog_15_method_69_code
def yJ9_min_7cf53 : MethodName := ⟨RJ9, "min", "(II)I"⟩
def RJ0 : String := "java/lang/String"
def TJ0 : u_T := fun k => match k with
  | _ => ("", "", "", false)
def tyJ0 : Nat → FieldType := fun k => match k with
  | _ => .int
abbrev wsJ00 : List Cond := u_ws RJ0 TJ0 0
theorem nmJ0 : ∀ a, a < 0 → ∀ b, b < 0 → a ≠ b → (TJ0 a).2.1 ≠ (TJ0 b).2.1 := by decide +kernel
theorem tyJ0_ok : ∀ k, k < 0 → parseFieldDescriptor (TJ0 k).2.2.1 = some (tyJ0 k) := by decide +kernel
def RJ10 : String := "java/lang/System"
def TJ10 : u_T := fun k => match k with
  | _ => ("", "", "", false)
def tyJ10 : Nat → FieldType := fun k => match k with
  | _ => .int
abbrev wsJ100 : List Cond := u_ws RJ10 TJ10 0
theorem nmJ10 : ∀ a, a < 0 → ∀ b, b < 0 → a ≠ b → (TJ10 a).2.1 ≠ (TJ10 b).2.1 := by decide +kernel
theorem tyJ10_ok : ∀ k, k < 0 → parseFieldDescriptor (TJ10 k).2.2.1 = some (tyJ10 k) := by decide +kernel
def RL : String := "ChronicleRowsLaw"
abbrev cL_cell : ByteArray := method_2_code
def yL_cell : MethodName := ⟨RL, "cell", "([II)I"⟩
abbrev cL_low : ByteArray := method_3_code
def yL_low : MethodName := ⟨RL, "low", "(II)I"⟩
abbrev cL_place : ByteArray := method_4_code
def yL_place : MethodName := ⟨RL, "place", "([I[II)I"⟩
abbrev cL_middle : ByteArray := method_5_code
def yL_middle : MethodName := ⟨RL, "middle", "([I[I[II)I"⟩
abbrev cL_crosses : ByteArray := method_6_code
def yL_crosses : MethodName := ⟨RL, "crosses", "([I[I[I[II)I"⟩
abbrev cL_all : ByteArray := method_7_code
def yL_all : MethodName := ⟨RL, "all", "([I[I[I[I)I"⟩
abbrev cL_ofTwo : ByteArray := method_8_code
def yL_ofTwo : MethodName := ⟨RL, "ofTwo", "([I[I[I[II)I"⟩
abbrev cL_couples : ByteArray := method_9_code
def yL_couples : MethodName := ⟨RL, "couples", "([I[II)I"⟩
abbrev cL_ancestors : ByteArray := method_10_code
def yL_ancestors : MethodName := ⟨RL, "ancestors", "([I[I[II)I"⟩
abbrev cL_ones : ByteArray := method_11_code
def yL_ones : MethodName := ⟨RL, "ones", "(I)I"⟩
abbrev cL_lays : ByteArray := method_12_code
def yL_lays : MethodName := ⟨RL, "lays", "([I[III)V"⟩
abbrev cL_copy : ByteArray := method_13_code
def yL_copy : MethodName := ⟨RL, "copy", "([I[I)V"⟩
abbrev cL_best : ByteArray := method_14_code
def yL_best : MethodName := ⟨RL, "best", "([I[I[I[II)I"⟩
abbrev cL_arePeople : ByteArray := method_15_code
def yL_arePeople : MethodName := ⟨RL, "arePeople", "(LChronicleRows;[I[I[I[I)Z"⟩
abbrev cL_areRows : ByteArray := method_16_code
def yL_areRows : MethodName := ⟨RL, "areRows", "(LChronicleRows;[I[I[I[I)Z"⟩
abbrev cL_isLeast : ByteArray := method_17_code
def yL_isLeast : MethodName := ⟨RL, "isLeast", "(LChronicleRows;[I[I[I[III)Z"⟩
abbrev cL_comes : ByteArray := method_18_code
def yL_comes : MethodName := ⟨RL, "comes", "([I[I[III)I"⟩
abbrev cL_marries : ByteArray := method_19_code
def yL_marries : MethodName := ⟨RL, "marries", "([I[I[III)I"⟩
abbrev cL_acts : ByteArray := method_20_code
def yL_acts : MethodName := ⟨RL, "acts", "(LChronicleRows;[I[I[I[III)Z"⟩
abbrev cL_law : ByteArray := code
def yL_law : MethodName := ⟨RL, "law", "([I)Z"⟩
def wsX5_isPerson : List Cond := .code yX5_isPerson cX5_isPerson 2 (some .boolean) :: ([.fieldLink RX5 39 "ChronicleRows$State" "people" "I"] ++ wsX50)
def wsX5_parentsOf : List Cond := .code yX5_parentsOf cX5_parentsOf 2 (some .int) :: ([.fieldLink RX5 18 "ChronicleRows$State" "parents" "[I", .methodLink RX5 49 yX5_isPerson, .instanceMethod yX5_isPerson, .selects RX5 yX5_isPerson yX5_isPerson, .initialized RX5, .code yX5_isPerson cX5_isPerson 2 (some .boolean), .fieldLink RX5 39 "ChronicleRows$State" "people" "I"] ++ wsX50)
def wsX5_isCouple : List Cond := .code yX5_isCouple cX5_isCouple 2 (some .boolean) :: ([.fieldLink RX5 43 "ChronicleRows$State" "couples" "I"] ++ wsX50)
def wsX5_lesserOf : List Cond := .code yX5_lesserOf cX5_lesserOf 2 (some .int) :: ([.fieldLink RX5 21 "ChronicleRows$State" "lessers" "[I", .methodLink RX5 53 yX5_isCouple, .instanceMethod yX5_isCouple, .selects RX5 yX5_isCouple yX5_isCouple, .initialized RX5, .code yX5_isCouple cX5_isCouple 2 (some .boolean), .fieldLink RX5 43 "ChronicleRows$State" "couples" "I"] ++ wsX50)
def wsX5_greaterOf : List Cond := .code yX5_greaterOf cX5_greaterOf 2 (some .int) :: ([.fieldLink RX5 24 "ChronicleRows$State" "greaters" "[I", .methodLink RX5 53 yX5_isCouple, .instanceMethod yX5_isCouple, .selects RX5 yX5_isCouple yX5_isCouple, .initialized RX5, .code yX5_isCouple cX5_isCouple 2 (some .boolean), .fieldLink RX5 43 "ChronicleRows$State" "couples" "I"] ++ wsX50)
def wsX0_parentBits_r1 : List Cond := [Cond.methodLink RX0 9 yX5_parentsOf, Cond.instanceMethod yX5_parentsOf, Cond.selects RX5 yX5_parentsOf yX5_parentsOf, Cond.initialized RX5, Cond.code yX5_parentsOf cX5_parentsOf 2 (some .int), Cond.fieldLink RX5 18 "ChronicleRows$State" "parents" "[I", Cond.methodLink RX5 49 yX5_isPerson, Cond.instanceMethod yX5_isPerson, Cond.selects RX5 yX5_isPerson yX5_isPerson, Cond.code yX5_isPerson cX5_isPerson 2 (some .boolean), Cond.fieldLink RX5 39 "ChronicleRows$State" "people" "I", Cond.methodLink RX0 15 yX5_lesserOf, Cond.instanceMethod yX5_lesserOf, Cond.selects RX5 yX5_lesserOf yX5_lesserOf, Cond.code yX5_lesserOf cX5_lesserOf 2 (some .int), Cond.fieldLink RX5 21 "ChronicleRows$State" "lessers" "[I", Cond.methodLink RX5 53 yX5_isCouple, Cond.instanceMethod yX5_isCouple, Cond.selects RX5 yX5_isCouple yX5_isCouple, Cond.code yX5_isCouple cX5_isCouple 2 (some .boolean), Cond.fieldLink RX5 43 "ChronicleRows$State" "couples" "I", Cond.methodLink RX0 18 yX5_greaterOf, Cond.instanceMethod yX5_greaterOf, Cond.selects RX5 yX5_greaterOf yX5_greaterOf]
def wsX0_parentBits_r2 : List Cond := [Cond.code yX5_greaterOf cX5_greaterOf 2 (some .int), Cond.fieldLink RX5 24 "ChronicleRows$State" "greaters" "[I"]
def wsX0_parentBits : List Cond := .code yX0_parentBits cX0_parentBits 3 (some .int) :: ((wsX0_parentBits_r1 ++ wsX0_parentBits_r2) ++ wsX50)
def wsX0_ancestors_r1 : List Cond := [Cond.methodLink RX0 21 yX0_parentBits, Cond.static yX0_parentBits, Cond.initialized RX0, Cond.code yX0_parentBits cX0_parentBits 3 (some .int), Cond.methodLink RX0 9 yX5_parentsOf, Cond.instanceMethod yX5_parentsOf, Cond.selects RX5 yX5_parentsOf yX5_parentsOf, Cond.initialized RX5, Cond.code yX5_parentsOf cX5_parentsOf 2 (some .int), Cond.fieldLink RX5 18 "ChronicleRows$State" "parents" "[I", Cond.methodLink RX5 49 yX5_isPerson, Cond.instanceMethod yX5_isPerson, Cond.selects RX5 yX5_isPerson yX5_isPerson, Cond.code yX5_isPerson cX5_isPerson 2 (some .boolean), Cond.fieldLink RX5 39 "ChronicleRows$State" "people" "I", Cond.methodLink RX0 15 yX5_lesserOf, Cond.instanceMethod yX5_lesserOf, Cond.selects RX5 yX5_lesserOf yX5_lesserOf, Cond.code yX5_lesserOf cX5_lesserOf 2 (some .int), Cond.fieldLink RX5 21 "ChronicleRows$State" "lessers" "[I", Cond.methodLink RX5 53 yX5_isCouple, Cond.instanceMethod yX5_isCouple, Cond.selects RX5 yX5_isCouple yX5_isCouple, Cond.code yX5_isCouple cX5_isCouple 2 (some .boolean)]
def wsX0_ancestors_r2 : List Cond := [Cond.fieldLink RX5 43 "ChronicleRows$State" "couples" "I", Cond.methodLink RX0 18 yX5_greaterOf, Cond.instanceMethod yX5_greaterOf, Cond.selects RX5 yX5_greaterOf yX5_greaterOf, Cond.code yX5_greaterOf cX5_greaterOf 2 (some .int), Cond.fieldLink RX5 24 "ChronicleRows$State" "greaters" "[I"]
def wsX0_ancestors : List Cond := .code yX0_ancestors cX0_ancestors 4 (some .int) :: ((wsX0_ancestors_r1 ++ wsX0_ancestors_r2) ++ wsX50)
def wsX5_people : List Cond := .code yX5_people cX5_people 1 (some .int) :: ([.fieldLink RX5 39 "ChronicleRows$State" "people" "I"] ++ wsX50)
def wsX0_descendants_r1 : List Cond := [Cond.methodLink RX0 27 yX5_people, Cond.instanceMethod yX5_people, Cond.selects RX5 yX5_people yX5_people, Cond.initialized RX5, Cond.code yX5_people cX5_people 1 (some .int), Cond.fieldLink RX5 39 "ChronicleRows$State" "people" "I", Cond.methodLink RX0 21 yX0_parentBits, Cond.static yX0_parentBits, Cond.initialized RX0, Cond.code yX0_parentBits cX0_parentBits 3 (some .int), Cond.methodLink RX0 9 yX5_parentsOf, Cond.instanceMethod yX5_parentsOf, Cond.selects RX5 yX5_parentsOf yX5_parentsOf, Cond.code yX5_parentsOf cX5_parentsOf 2 (some .int), Cond.fieldLink RX5 18 "ChronicleRows$State" "parents" "[I", Cond.methodLink RX5 49 yX5_isPerson, Cond.instanceMethod yX5_isPerson, Cond.selects RX5 yX5_isPerson yX5_isPerson, Cond.code yX5_isPerson cX5_isPerson 2 (some .boolean), Cond.methodLink RX0 15 yX5_lesserOf, Cond.instanceMethod yX5_lesserOf, Cond.selects RX5 yX5_lesserOf yX5_lesserOf, Cond.code yX5_lesserOf cX5_lesserOf 2 (some .int), Cond.fieldLink RX5 21 "ChronicleRows$State" "lessers" "[I"]
def wsX0_descendants_r2 : List Cond := [Cond.methodLink RX5 53 yX5_isCouple, Cond.instanceMethod yX5_isCouple, Cond.selects RX5 yX5_isCouple yX5_isCouple, Cond.code yX5_isCouple cX5_isCouple 2 (some .boolean), Cond.fieldLink RX5 43 "ChronicleRows$State" "couples" "I", Cond.methodLink RX0 18 yX5_greaterOf, Cond.instanceMethod yX5_greaterOf, Cond.selects RX5 yX5_greaterOf yX5_greaterOf, Cond.code yX5_greaterOf cX5_greaterOf 2 (some .int), Cond.fieldLink RX5 24 "ChronicleRows$State" "greaters" "[I"]
def wsX0_descendants : List Cond := .code yX0_descendants cX0_descendants 4 (some .int) :: ((wsX0_descendants_r1 ++ wsX0_descendants_r2) ++ wsX50)
def wsX0_commonAncestors_r1 : List Cond := [Cond.methodLink RX0 15 yX5_lesserOf, Cond.instanceMethod yX5_lesserOf, Cond.selects RX5 yX5_lesserOf yX5_lesserOf, Cond.initialized RX5, Cond.code yX5_lesserOf cX5_lesserOf 2 (some .int), Cond.fieldLink RX5 21 "ChronicleRows$State" "lessers" "[I", Cond.methodLink RX5 53 yX5_isCouple, Cond.instanceMethod yX5_isCouple, Cond.selects RX5 yX5_isCouple yX5_isCouple, Cond.code yX5_isCouple cX5_isCouple 2 (some .boolean), Cond.fieldLink RX5 43 "ChronicleRows$State" "couples" "I", Cond.methodLink RX0 31 yX0_ancestors, Cond.static yX0_ancestors, Cond.initialized RX0, Cond.code yX0_ancestors cX0_ancestors 4 (some .int), Cond.methodLink RX0 21 yX0_parentBits, Cond.static yX0_parentBits, Cond.code yX0_parentBits cX0_parentBits 3 (some .int), Cond.methodLink RX0 9 yX5_parentsOf, Cond.instanceMethod yX5_parentsOf, Cond.selects RX5 yX5_parentsOf yX5_parentsOf, Cond.code yX5_parentsOf cX5_parentsOf 2 (some .int), Cond.fieldLink RX5 18 "ChronicleRows$State" "parents" "[I", Cond.methodLink RX5 49 yX5_isPerson]
def wsX0_commonAncestors_r2 : List Cond := [Cond.instanceMethod yX5_isPerson, Cond.selects RX5 yX5_isPerson yX5_isPerson, Cond.code yX5_isPerson cX5_isPerson 2 (some .boolean), Cond.fieldLink RX5 39 "ChronicleRows$State" "people" "I", Cond.methodLink RX0 18 yX5_greaterOf, Cond.instanceMethod yX5_greaterOf, Cond.selects RX5 yX5_greaterOf yX5_greaterOf, Cond.code yX5_greaterOf cX5_greaterOf 2 (some .int), Cond.fieldLink RX5 24 "ChronicleRows$State" "greaters" "[I"]
def wsX0_commonAncestors : List Cond := .code yX0_commonAncestors cX0_commonAncestors 2 (some .int) :: ((wsX0_commonAncestors_r1 ++ wsX0_commonAncestors_r2) ++ wsX50)
def wsX5_couples : List Cond := .code yX5_couples cX5_couples 1 (some .int) :: ([.fieldLink RX5 43 "ChronicleRows$State" "couples" "I"] ++ wsX50)
def wsX0_kinCouples_r1 : List Cond := [Cond.methodLink RX0 34 yX5_couples, Cond.instanceMethod yX5_couples, Cond.selects RX5 yX5_couples yX5_couples, Cond.initialized RX5, Cond.code yX5_couples cX5_couples 1 (some .int), Cond.fieldLink RX5 43 "ChronicleRows$State" "couples" "I", Cond.methodLink RX0 37 yX0_commonAncestors, Cond.static yX0_commonAncestors, Cond.initialized RX0, Cond.code yX0_commonAncestors cX0_commonAncestors 2 (some .int), Cond.methodLink RX0 15 yX5_lesserOf, Cond.instanceMethod yX5_lesserOf, Cond.selects RX5 yX5_lesserOf yX5_lesserOf, Cond.code yX5_lesserOf cX5_lesserOf 2 (some .int), Cond.fieldLink RX5 21 "ChronicleRows$State" "lessers" "[I", Cond.methodLink RX5 53 yX5_isCouple, Cond.instanceMethod yX5_isCouple, Cond.selects RX5 yX5_isCouple yX5_isCouple, Cond.code yX5_isCouple cX5_isCouple 2 (some .boolean), Cond.methodLink RX0 31 yX0_ancestors, Cond.static yX0_ancestors, Cond.code yX0_ancestors cX0_ancestors 4 (some .int), Cond.methodLink RX0 21 yX0_parentBits, Cond.static yX0_parentBits]
def wsX0_kinCouples_r2 : List Cond := [Cond.code yX0_parentBits cX0_parentBits 3 (some .int), Cond.methodLink RX0 9 yX5_parentsOf, Cond.instanceMethod yX5_parentsOf, Cond.selects RX5 yX5_parentsOf yX5_parentsOf, Cond.code yX5_parentsOf cX5_parentsOf 2 (some .int), Cond.fieldLink RX5 18 "ChronicleRows$State" "parents" "[I", Cond.methodLink RX5 49 yX5_isPerson, Cond.instanceMethod yX5_isPerson, Cond.selects RX5 yX5_isPerson yX5_isPerson, Cond.code yX5_isPerson cX5_isPerson 2 (some .boolean), Cond.fieldLink RX5 39 "ChronicleRows$State" "people" "I", Cond.methodLink RX0 18 yX5_greaterOf, Cond.instanceMethod yX5_greaterOf, Cond.selects RX5 yX5_greaterOf yX5_greaterOf, Cond.code yX5_greaterOf cX5_greaterOf 2 (some .int), Cond.fieldLink RX5 24 "ChronicleRows$State" "greaters" "[I"]
def wsX0_kinCouples : List Cond := .code yX0_kinCouples cX0_kinCouples 3 (some .int) :: ((wsX0_kinCouples_r1 ++ wsX0_kinCouples_r2) ++ wsX50)
def wsX5_rowOf : List Cond := .code yX5_rowOf cX5_rowOf 2 (some .int) :: ([.fieldLink RX5 9 "ChronicleRows$State" "rows" "[I", .methodLink RX5 49 yX5_isPerson, .instanceMethod yX5_isPerson, .selects RX5 yX5_isPerson yX5_isPerson, .initialized RX5, .code yX5_isPerson cX5_isPerson 2 (some .boolean), .fieldLink RX5 39 "ChronicleRows$State" "people" "I"] ++ wsX50)
def wsX0_fewestLines_r1 : List Cond := [Cond.methodLink RX0 31 yX0_ancestors, Cond.static yX0_ancestors, Cond.initialized RX0, Cond.code yX0_ancestors cX0_ancestors 4 (some .int), Cond.methodLink RX0 21 yX0_parentBits, Cond.static yX0_parentBits, Cond.code yX0_parentBits cX0_parentBits 3 (some .int), Cond.methodLink RX0 9 yX5_parentsOf, Cond.instanceMethod yX5_parentsOf, Cond.selects RX5 yX5_parentsOf yX5_parentsOf, Cond.initialized RX5, Cond.code yX5_parentsOf cX5_parentsOf 2 (some .int), Cond.fieldLink RX5 18 "ChronicleRows$State" "parents" "[I", Cond.methodLink RX5 49 yX5_isPerson, Cond.instanceMethod yX5_isPerson, Cond.selects RX5 yX5_isPerson yX5_isPerson, Cond.code yX5_isPerson cX5_isPerson 2 (some .boolean), Cond.fieldLink RX5 39 "ChronicleRows$State" "people" "I", Cond.methodLink RX0 15 yX5_lesserOf, Cond.instanceMethod yX5_lesserOf, Cond.selects RX5 yX5_lesserOf yX5_lesserOf, Cond.code yX5_lesserOf cX5_lesserOf 2 (some .int), Cond.fieldLink RX5 21 "ChronicleRows$State" "lessers" "[I", Cond.methodLink RX5 53 yX5_isCouple]
def wsX0_fewestLines_r2 : List Cond := [Cond.instanceMethod yX5_isCouple, Cond.selects RX5 yX5_isCouple yX5_isCouple, Cond.code yX5_isCouple cX5_isCouple 2 (some .boolean), Cond.fieldLink RX5 43 "ChronicleRows$State" "couples" "I", Cond.methodLink RX0 18 yX5_greaterOf, Cond.instanceMethod yX5_greaterOf, Cond.selects RX5 yX5_greaterOf yX5_greaterOf, Cond.code yX5_greaterOf cX5_greaterOf 2 (some .int), Cond.fieldLink RX5 24 "ChronicleRows$State" "greaters" "[I", Cond.methodLink RX0 27 yX5_people, Cond.instanceMethod yX5_people, Cond.selects RX5 yX5_people yX5_people, Cond.code yX5_people cX5_people 1 (some .int), Cond.methodLink RX0 40 yX5_rowOf, Cond.instanceMethod yX5_rowOf, Cond.selects RX5 yX5_rowOf yX5_rowOf, Cond.code yX5_rowOf cX5_rowOf 2 (some .int), Cond.fieldLink RX5 9 "ChronicleRows$State" "rows" "[I"]
def wsX0_fewestLines : List Cond := .code yX0_fewestLines cX0_fewestLines 7 (some .int) :: ((wsX0_fewestLines_r1 ++ wsX0_fewestLines_r2) ++ wsX50)
def wsX1_init : List Cond := .code yX1_init cX1_init 1 none :: ([.methodLink RX1 3 objectInit, .instanceMethod objectInit, .code objectInit ⟨#[0xb1]⟩ 1 none, .arrayClass .int, .fieldLink RX1 9 "ChronicleRows$ParentOrder" "keys" "[I", .fieldLink RX1 15 "ChronicleRows$ParentOrder" "order" "[I"] ++ wsX10)
def wsX5_sizeOf : List Cond := .code yX5_sizeOf cX5_sizeOf 2 (some .int) :: ([.fieldLink RX5 30 "ChronicleRows$State" "sizes" "[I"] ++ wsX50)
def wsX5_personAt : List Cond := .code yX5_personAt cX5_personAt 3 (some .int) :: ([.fieldLink RX5 27 "ChronicleRows$State" "orders" "[I", .methodLink RX5 56 yX5_sizeOf, .instanceMethod yX5_sizeOf, .selects RX5 yX5_sizeOf yX5_sizeOf, .initialized RX5, .code yX5_sizeOf cX5_sizeOf 2 (some .int), .fieldLink RX5 30 "ChronicleRows$State" "sizes" "[I"] ++ wsX50)
def wsX5_placeOf : List Cond := .code yX5_placeOf cX5_placeOf 2 (some .int) :: ([.fieldLink RX5 15 "ChronicleRows$State" "places" "[I", .methodLink RX5 49 yX5_isPerson, .instanceMethod yX5_isPerson, .selects RX5 yX5_isPerson yX5_isPerson, .initialized RX5, .code yX5_isPerson cX5_isPerson 2 (some .boolean), .fieldLink RX5 39 "ChronicleRows$State" "people" "I"] ++ wsX50)
def wsX5_middleOf : List Cond := .code yX5_middleOf cX5_middleOf 2 (some .int) :: ([.fieldLink RX5 21 "ChronicleRows$State" "lessers" "[I", .fieldLink RX5 24 "ChronicleRows$State" "greaters" "[I", .methodLink RX5 53 yX5_isCouple, .instanceMethod yX5_isCouple, .selects RX5 yX5_isCouple yX5_isCouple, .initialized RX5, .code yX5_isCouple cX5_isCouple 2 (some .boolean), .fieldLink RX5 43 "ChronicleRows$State" "couples" "I", .methodLink RX5 60 yX5_placeOf, .instanceMethod yX5_placeOf, .selects RX5 yX5_placeOf yX5_placeOf, .code yX5_placeOf cX5_placeOf 2 (some .int), .fieldLink RX5 15 "ChronicleRows$State" "places" "[I", .methodLink RX5 49 yX5_isPerson, .instanceMethod yX5_isPerson, .selects RX5 yX5_isPerson yX5_isPerson, .code yX5_isPerson cX5_isPerson 2 (some .boolean), .fieldLink RX5 39 "ChronicleRows$State" "people" "I"] ++ wsX50)
def wsX5_middleAbove_r1 : List Cond := [Cond.methodLink RX5 63 yX5_parentsOf, Cond.instanceMethod yX5_parentsOf, Cond.selects RX5 yX5_parentsOf yX5_parentsOf, Cond.initialized RX5, Cond.code yX5_parentsOf cX5_parentsOf 2 (some .int), Cond.fieldLink RX5 18 "ChronicleRows$State" "parents" "[I", Cond.methodLink RX5 49 yX5_isPerson, Cond.instanceMethod yX5_isPerson, Cond.selects RX5 yX5_isPerson yX5_isPerson, Cond.code yX5_isPerson cX5_isPerson 2 (some .boolean), Cond.fieldLink RX5 39 "ChronicleRows$State" "people" "I", Cond.methodLink RX5 66 yX5_middleOf, Cond.instanceMethod yX5_middleOf, Cond.selects RX5 yX5_middleOf yX5_middleOf, Cond.code yX5_middleOf cX5_middleOf 2 (some .int), Cond.fieldLink RX5 21 "ChronicleRows$State" "lessers" "[I", Cond.fieldLink RX5 24 "ChronicleRows$State" "greaters" "[I", Cond.methodLink RX5 53 yX5_isCouple, Cond.instanceMethod yX5_isCouple, Cond.selects RX5 yX5_isCouple yX5_isCouple, Cond.code yX5_isCouple cX5_isCouple 2 (some .boolean), Cond.fieldLink RX5 43 "ChronicleRows$State" "couples" "I", Cond.methodLink RX5 60 yX5_placeOf, Cond.instanceMethod yX5_placeOf]
def wsX5_middleAbove_r2 : List Cond := [Cond.selects RX5 yX5_placeOf yX5_placeOf, Cond.code yX5_placeOf cX5_placeOf 2 (some .int), Cond.fieldLink RX5 15 "ChronicleRows$State" "places" "[I"]
def wsX5_middleAbove : List Cond := .code yX5_middleAbove cX5_middleAbove 2 (some .int) :: ((wsX5_middleAbove_r1 ++ wsX5_middleAbove_r2) ++ wsX50)
def wsX1_placeByKey : List Cond := .code yX1_placeByKey cX1_placeByKey 5 (some .int) :: ([.fieldLink RX1 9 "ChronicleRows$ParentOrder" "keys" "[I"] ++ wsX10)
def wsX5_lay : List Cond := .code yX5_lay cX5_lay 4 none :: ([.fieldLink RX5 27 "ChronicleRows$State" "orders" "[I", .fieldLink RX5 15 "ChronicleRows$State" "places" "[I", .methodLink RX5 49 yX5_isPerson, .instanceMethod yX5_isPerson, .selects RX5 yX5_isPerson yX5_isPerson, .initialized RX5, .code yX5_isPerson cX5_isPerson 2 (some .boolean), .fieldLink RX5 39 "ChronicleRows$State" "people" "I", .methodLink RX5 56 yX5_sizeOf, .instanceMethod yX5_sizeOf, .selects RX5 yX5_sizeOf yX5_sizeOf, .code yX5_sizeOf cX5_sizeOf 2 (some .int), .fieldLink RX5 30 "ChronicleRows$State" "sizes" "[I"] ++ wsX50)
def wsX1_lay_r1 : List Cond := [Cond.methodLink RX1 24 Lib.Math.min.name, Cond.static Lib.Math.min.name, Cond.initialized "java/lang/Math", Cond.code Lib.Math.min.name Lib.Math.min.code 2 (some .int), Cond.fieldLink RX1 9 "ChronicleRows$ParentOrder" "keys" "[I", Cond.fieldLink RX1 15 "ChronicleRows$ParentOrder" "order" "[I", Cond.methodLink RX1 18 yX5_sizeOf, Cond.instanceMethod yX5_sizeOf, Cond.selects RX5 yX5_sizeOf yX5_sizeOf, Cond.initialized RX5, Cond.code yX5_sizeOf cX5_sizeOf 2 (some .int), Cond.fieldLink RX5 30 "ChronicleRows$State" "sizes" "[I", Cond.methodLink RX1 30 yX5_personAt, Cond.instanceMethod yX5_personAt, Cond.selects RX5 yX5_personAt yX5_personAt, Cond.code yX5_personAt cX5_personAt 3 (some .int), Cond.fieldLink RX5 27 "ChronicleRows$State" "orders" "[I", Cond.methodLink RX5 56 yX5_sizeOf, Cond.methodLink RX1 33 yX5_middleAbove, Cond.instanceMethod yX5_middleAbove, Cond.selects RX5 yX5_middleAbove yX5_middleAbove, Cond.code yX5_middleAbove cX5_middleAbove 2 (some .int), Cond.methodLink RX5 63 yX5_parentsOf, Cond.instanceMethod yX5_parentsOf]
def wsX1_lay_r2 : List Cond := [Cond.selects RX5 yX5_parentsOf yX5_parentsOf, Cond.code yX5_parentsOf cX5_parentsOf 2 (some .int), Cond.fieldLink RX5 18 "ChronicleRows$State" "parents" "[I", Cond.methodLink RX5 49 yX5_isPerson, Cond.instanceMethod yX5_isPerson, Cond.selects RX5 yX5_isPerson yX5_isPerson, Cond.code yX5_isPerson cX5_isPerson 2 (some .boolean), Cond.fieldLink RX5 39 "ChronicleRows$State" "people" "I", Cond.methodLink RX5 66 yX5_middleOf, Cond.instanceMethod yX5_middleOf, Cond.selects RX5 yX5_middleOf yX5_middleOf, Cond.code yX5_middleOf cX5_middleOf 2 (some .int), Cond.fieldLink RX5 21 "ChronicleRows$State" "lessers" "[I", Cond.fieldLink RX5 24 "ChronicleRows$State" "greaters" "[I", Cond.methodLink RX5 53 yX5_isCouple, Cond.instanceMethod yX5_isCouple, Cond.selects RX5 yX5_isCouple yX5_isCouple, Cond.code yX5_isCouple cX5_isCouple 2 (some .boolean), Cond.fieldLink RX5 43 "ChronicleRows$State" "couples" "I", Cond.methodLink RX5 60 yX5_placeOf, Cond.instanceMethod yX5_placeOf, Cond.selects RX5 yX5_placeOf yX5_placeOf, Cond.code yX5_placeOf cX5_placeOf 2 (some .int), Cond.fieldLink RX5 15 "ChronicleRows$State" "places" "[I"]
def wsX1_lay_r3 : List Cond := [Cond.methodLink RX1 36 yX1_placeByKey, Cond.instanceMethod yX1_placeByKey, Cond.selects RX1 yX1_placeByKey yX1_placeByKey, Cond.initialized RX1, Cond.code yX1_placeByKey cX1_placeByKey 5 (some .int), Cond.methodLink RX1 39 yX5_lay, Cond.instanceMethod yX5_lay, Cond.selects RX5 yX5_lay yX5_lay, Cond.code yX5_lay cX5_lay 4 none]
def wsX1_lay : List Cond := .code yX1_lay cX1_lay 7 (some .int) :: ((wsX1_lay_r1 ++ (wsX1_lay_r2 ++ wsX1_lay_r3)) ++ wsX10 ++ wsX50)
def wsX2_init : List Cond := .code yX2_init cX2_init 1 none :: ([.methodLink RX2 3 objectInit, .instanceMethod objectInit, .code objectInit ⟨#[0xb1]⟩ 1 none, .arrayClass .int, .fieldLink RX2 9 "ChronicleRows$RowLines" "middles" "[I", .fieldLink RX2 15 "ChronicleRows$RowLines" "places" "[I"] ++ wsX20)
def wsX2_collect_r1 : List Cond := [Cond.fieldLink RX2 18 "ChronicleRows$RowLines" "size" "I", Cond.fieldLink RX2 9 "ChronicleRows$RowLines" "middles" "[I", Cond.fieldLink RX2 15 "ChronicleRows$RowLines" "places" "[I", Cond.methodLink RX2 22 yX5_sizeOf, Cond.instanceMethod yX5_sizeOf, Cond.selects RX5 yX5_sizeOf yX5_sizeOf, Cond.initialized RX5, Cond.code yX5_sizeOf cX5_sizeOf 2 (some .int), Cond.fieldLink RX5 30 "ChronicleRows$State" "sizes" "[I", Cond.methodLink RX2 28 yX5_personAt, Cond.instanceMethod yX5_personAt, Cond.selects RX5 yX5_personAt yX5_personAt, Cond.code yX5_personAt cX5_personAt 3 (some .int), Cond.fieldLink RX5 27 "ChronicleRows$State" "orders" "[I", Cond.methodLink RX5 56 yX5_sizeOf, Cond.methodLink RX2 32 yX5_middleAbove, Cond.instanceMethod yX5_middleAbove, Cond.selects RX5 yX5_middleAbove yX5_middleAbove, Cond.code yX5_middleAbove cX5_middleAbove 2 (some .int), Cond.methodLink RX5 63 yX5_parentsOf, Cond.instanceMethod yX5_parentsOf, Cond.selects RX5 yX5_parentsOf yX5_parentsOf, Cond.code yX5_parentsOf cX5_parentsOf 2 (some .int), Cond.fieldLink RX5 18 "ChronicleRows$State" "parents" "[I"]
def wsX2_collect_r2 : List Cond := [Cond.methodLink RX5 49 yX5_isPerson, Cond.instanceMethod yX5_isPerson, Cond.selects RX5 yX5_isPerson yX5_isPerson, Cond.code yX5_isPerson cX5_isPerson 2 (some .boolean), Cond.fieldLink RX5 39 "ChronicleRows$State" "people" "I", Cond.methodLink RX5 66 yX5_middleOf, Cond.instanceMethod yX5_middleOf, Cond.selects RX5 yX5_middleOf yX5_middleOf, Cond.code yX5_middleOf cX5_middleOf 2 (some .int), Cond.fieldLink RX5 21 "ChronicleRows$State" "lessers" "[I", Cond.fieldLink RX5 24 "ChronicleRows$State" "greaters" "[I", Cond.methodLink RX5 53 yX5_isCouple, Cond.instanceMethod yX5_isCouple, Cond.selects RX5 yX5_isCouple yX5_isCouple, Cond.code yX5_isCouple cX5_isCouple 2 (some .boolean), Cond.fieldLink RX5 43 "ChronicleRows$State" "couples" "I", Cond.methodLink RX5 60 yX5_placeOf, Cond.instanceMethod yX5_placeOf, Cond.selects RX5 yX5_placeOf yX5_placeOf, Cond.code yX5_placeOf cX5_placeOf 2 (some .int), Cond.fieldLink RX5 15 "ChronicleRows$State" "places" "[I"]
def wsX2_collect : List Cond := .code yX2_collect cX2_collect 5 none :: ((wsX2_collect_r1 ++ wsX2_collect_r2) ++ wsX20 ++ wsX50)
def wsX2_crossedPairs : List Cond := .code yX2_crossedPairs cX2_crossedPairs 4 (some .int) :: ([.fieldLink RX2 18 "ChronicleRows$RowLines" "size" "I", .fieldLink RX2 9 "ChronicleRows$RowLines" "middles" "[I"] ++ wsX20)
def wsX2_sortByMiddles : List Cond := .code yX2_sortByMiddles cX2_sortByMiddles 5 none :: ([.fieldLink RX2 18 "ChronicleRows$RowLines" "size" "I", .fieldLink RX2 9 "ChronicleRows$RowLines" "middles" "[I", .fieldLink RX2 15 "ChronicleRows$RowLines" "places" "[I"] ++ wsX20)
def wsX2_crossedOneByOne : List Cond := .code yX2_crossedOneByOne cX2_crossedOneByOne 4 (some .int) :: ([.fieldLink RX2 18 "ChronicleRows$RowLines" "size" "I", .fieldLink RX2 9 "ChronicleRows$RowLines" "middles" "[I", .fieldLink RX2 15 "ChronicleRows$RowLines" "places" "[I", .methodLink RX2 35 yX2_sortByMiddles, .instanceMethod yX2_sortByMiddles, .selects RX2 yX2_sortByMiddles yX2_sortByMiddles, .initialized RX2, .code yX2_sortByMiddles cX2_sortByMiddles 5 none] ++ wsX20)
def wsX3_init : List Cond := .code yX3_init cX3_init 1 none :: ([.methodLink RX3 3 objectInit, .instanceMethod objectInit, .code objectInit ⟨#[0xb1]⟩ 1 none, .arrayClass .int, .fieldLink RX3 9 "ChronicleRows$RowSearch" "order" "[I", .fieldLink RX3 15 "ChronicleRows$RowSearch" "bestOrder" "[I", .fieldLink RX3 18 "ChronicleRows$RowSearch" "places" "[I", .fieldLink RX3 21 "ChronicleRows$RowSearch" "crossedFromLeft" "[I", .fieldLink RX3 24 "ChronicleRows$RowSearch" "couples" "[I", .fieldLink RX3 27 "ChronicleRows$RowSearch" "lessers" "[I", .fieldLink RX3 30 "ChronicleRows$RowSearch" "greaters" "[I", .fieldLink RX3 33 "ChronicleRows$RowSearch" "middles" "[I", .fieldLink RX3 36 "ChronicleRows$RowSearch" "parentIndexes" "[I", .classLink RX3 39 "[[I", .fieldLink RX3 41 "ChronicleRows$RowSearch" "crossedIfLess" "[[I"] ++ wsX30)
def wsX3_listPeople : List Cond := .code yX3_listPeople cX3_listPeople 4 none :: ([.fieldLink RX3 65 "ChronicleRows$RowSearch" "size" "I", .fieldLink RX3 9 "ChronicleRows$RowSearch" "order" "[I", .methodLink RX3 69 yX5_people, .instanceMethod yX5_people, .selects RX5 yX5_people yX5_people, .initialized RX5, .code yX5_people cX5_people 1 (some .int), .fieldLink RX5 39 "ChronicleRows$State" "people" "I", .methodLink RX3 73 yX5_rowOf, .instanceMethod yX5_rowOf, .selects RX5 yX5_rowOf yX5_rowOf, .code yX5_rowOf cX5_rowOf 2 (some .int), .fieldLink RX5 9 "ChronicleRows$State" "rows" "[I", .methodLink RX5 49 yX5_isPerson, .instanceMethod yX5_isPerson, .selects RX5 yX5_isPerson yX5_isPerson, .code yX5_isPerson cX5_isPerson 2 (some .boolean)] ++ wsX30 ++ wsX50)
def wsX3_noteLinesTo_r1 : List Cond := [Cond.fieldLink RX3 65 "ChronicleRows$RowSearch" "size" "I", Cond.fieldLink RX3 9 "ChronicleRows$RowSearch" "order" "[I", Cond.fieldLink RX3 21 "ChronicleRows$RowSearch" "crossedFromLeft" "[I", Cond.methodLink RX3 76 yX5_middleAbove, Cond.instanceMethod yX5_middleAbove, Cond.selects RX5 yX5_middleAbove yX5_middleAbove, Cond.initialized RX5, Cond.code yX5_middleAbove cX5_middleAbove 2 (some .int), Cond.methodLink RX5 63 yX5_parentsOf, Cond.instanceMethod yX5_parentsOf, Cond.selects RX5 yX5_parentsOf yX5_parentsOf, Cond.code yX5_parentsOf cX5_parentsOf 2 (some .int), Cond.fieldLink RX5 18 "ChronicleRows$State" "parents" "[I", Cond.methodLink RX5 49 yX5_isPerson, Cond.instanceMethod yX5_isPerson, Cond.selects RX5 yX5_isPerson yX5_isPerson, Cond.code yX5_isPerson cX5_isPerson 2 (some .boolean), Cond.fieldLink RX5 39 "ChronicleRows$State" "people" "I", Cond.methodLink RX5 66 yX5_middleOf, Cond.instanceMethod yX5_middleOf, Cond.selects RX5 yX5_middleOf yX5_middleOf, Cond.code yX5_middleOf cX5_middleOf 2 (some .int), Cond.fieldLink RX5 21 "ChronicleRows$State" "lessers" "[I", Cond.fieldLink RX5 24 "ChronicleRows$State" "greaters" "[I"]
def wsX3_noteLinesTo_r2 : List Cond := [Cond.methodLink RX5 53 yX5_isCouple, Cond.instanceMethod yX5_isCouple, Cond.selects RX5 yX5_isCouple yX5_isCouple, Cond.code yX5_isCouple cX5_isCouple 2 (some .boolean), Cond.fieldLink RX5 43 "ChronicleRows$State" "couples" "I", Cond.methodLink RX5 60 yX5_placeOf, Cond.instanceMethod yX5_placeOf, Cond.selects RX5 yX5_placeOf yX5_placeOf, Cond.code yX5_placeOf cX5_placeOf 2 (some .int), Cond.fieldLink RX5 15 "ChronicleRows$State" "places" "[I"]
def wsX3_noteLinesTo : List Cond := .code yX3_noteLinesTo cX3_noteLinesTo 6 none :: ((wsX3_noteLinesTo_r1 ++ wsX3_noteLinesTo_r2) ++ wsX30 ++ wsX50)
def wsX3_indexOfCouple : List Cond := .code yX3_indexOfCouple cX3_indexOfCouple 4 (some .int) :: ([.fieldLink RX3 79 "ChronicleRows$RowSearch" "coupleCount" "I", .fieldLink RX3 24 "ChronicleRows$RowSearch" "couples" "[I", .fieldLink RX3 27 "ChronicleRows$RowSearch" "lessers" "[I", .fieldLink RX3 30 "ChronicleRows$RowSearch" "greaters" "[I", .methodLink RX3 93 yX5_lesserOf, .instanceMethod yX5_lesserOf, .selects RX5 yX5_lesserOf yX5_lesserOf, .initialized RX5, .code yX5_lesserOf cX5_lesserOf 2 (some .int), .fieldLink RX5 21 "ChronicleRows$State" "lessers" "[I", .methodLink RX5 53 yX5_isCouple, .instanceMethod yX5_isCouple, .selects RX5 yX5_isCouple yX5_isCouple, .code yX5_isCouple cX5_isCouple 2 (some .boolean), .fieldLink RX5 43 "ChronicleRows$State" "couples" "I", .methodLink RX3 96 yX5_greaterOf, .instanceMethod yX5_greaterOf, .selects RX5 yX5_greaterOf yX5_greaterOf, .code yX5_greaterOf cX5_greaterOf 2 (some .int), .fieldLink RX5 24 "ChronicleRows$State" "greaters" "[I"] ++ wsX30 ++ wsX50)
def wsX3_listCouples_r1 : List Cond := [Cond.fieldLink RX3 79 "ChronicleRows$RowSearch" "coupleCount" "I", Cond.fieldLink RX3 36 "ChronicleRows$RowSearch" "parentIndexes" "[I", Cond.methodLink RX3 55 yX5_sizeOf, Cond.instanceMethod yX5_sizeOf, Cond.selects RX5 yX5_sizeOf yX5_sizeOf, Cond.initialized RX5, Cond.code yX5_sizeOf cX5_sizeOf 2 (some .int), Cond.fieldLink RX5 30 "ChronicleRows$State" "sizes" "[I", Cond.methodLink RX3 82 yX5_personAt, Cond.instanceMethod yX5_personAt, Cond.selects RX5 yX5_personAt yX5_personAt, Cond.code yX5_personAt cX5_personAt 3 (some .int), Cond.fieldLink RX5 27 "ChronicleRows$State" "orders" "[I", Cond.methodLink RX5 56 yX5_sizeOf, Cond.methodLink RX3 86 yX5_parentsOf, Cond.instanceMethod yX5_parentsOf, Cond.selects RX5 yX5_parentsOf yX5_parentsOf, Cond.code yX5_parentsOf cX5_parentsOf 2 (some .int), Cond.fieldLink RX5 18 "ChronicleRows$State" "parents" "[I", Cond.methodLink RX5 49 yX5_isPerson, Cond.instanceMethod yX5_isPerson, Cond.selects RX5 yX5_isPerson yX5_isPerson, Cond.code yX5_isPerson cX5_isPerson 2 (some .boolean), Cond.fieldLink RX5 39 "ChronicleRows$State" "people" "I"]
def wsX3_listCouples_r2 : List Cond := [Cond.methodLink RX3 89 yX3_indexOfCouple, Cond.instanceMethod yX3_indexOfCouple, Cond.selects RX3 yX3_indexOfCouple yX3_indexOfCouple, Cond.initialized RX3, Cond.code yX3_indexOfCouple cX3_indexOfCouple 4 (some .int), Cond.fieldLink RX3 24 "ChronicleRows$RowSearch" "couples" "[I", Cond.fieldLink RX3 27 "ChronicleRows$RowSearch" "lessers" "[I", Cond.fieldLink RX3 30 "ChronicleRows$RowSearch" "greaters" "[I", Cond.methodLink RX3 93 yX5_lesserOf, Cond.instanceMethod yX5_lesserOf, Cond.selects RX5 yX5_lesserOf yX5_lesserOf, Cond.code yX5_lesserOf cX5_lesserOf 2 (some .int), Cond.fieldLink RX5 21 "ChronicleRows$State" "lessers" "[I", Cond.methodLink RX5 53 yX5_isCouple, Cond.instanceMethod yX5_isCouple, Cond.selects RX5 yX5_isCouple yX5_isCouple, Cond.code yX5_isCouple cX5_isCouple 2 (some .boolean), Cond.fieldLink RX5 43 "ChronicleRows$State" "couples" "I", Cond.methodLink RX3 96 yX5_greaterOf, Cond.instanceMethod yX5_greaterOf, Cond.selects RX5 yX5_greaterOf yX5_greaterOf, Cond.code yX5_greaterOf cX5_greaterOf 2 (some .int), Cond.fieldLink RX5 24 "ChronicleRows$State" "greaters" "[I"]
def wsX3_listCouples : List Cond := .code yX3_listCouples cX3_listCouples 5 none :: ((wsX3_listCouples_r1 ++ wsX3_listCouples_r2) ++ wsX30 ++ wsX50)
def wsX3_noteLinesFrom : List Cond := .code yX3_noteLinesFrom cX3_noteLinesFrom 4 none :: ([.fieldLink RX3 79 "ChronicleRows$RowSearch" "coupleCount" "I", .fieldLink RX3 41 "ChronicleRows$RowSearch" "crossedIfLess" "[[I", .fieldLink RX3 36 "ChronicleRows$RowSearch" "parentIndexes" "[I"] ++ wsX30)
def wsX3_prepare_r1 : List Cond := [Cond.methodLink RX3 44 yX3_listPeople, Cond.instanceMethod yX3_listPeople, Cond.selects RX3 yX3_listPeople yX3_listPeople, Cond.initialized RX3, Cond.code yX3_listPeople cX3_listPeople 4 none, Cond.fieldLink RX3 65 "ChronicleRows$RowSearch" "size" "I", Cond.fieldLink RX3 9 "ChronicleRows$RowSearch" "order" "[I", Cond.methodLink RX3 69 yX5_people, Cond.instanceMethod yX5_people, Cond.selects RX5 yX5_people yX5_people, Cond.initialized RX5, Cond.code yX5_people cX5_people 1 (some .int), Cond.fieldLink RX5 39 "ChronicleRows$State" "people" "I", Cond.methodLink RX3 73 yX5_rowOf, Cond.instanceMethod yX5_rowOf, Cond.selects RX5 yX5_rowOf yX5_rowOf, Cond.code yX5_rowOf cX5_rowOf 2 (some .int), Cond.fieldLink RX5 9 "ChronicleRows$State" "rows" "[I", Cond.methodLink RX5 49 yX5_isPerson, Cond.instanceMethod yX5_isPerson, Cond.selects RX5 yX5_isPerson yX5_isPerson, Cond.code yX5_isPerson cX5_isPerson 2 (some .boolean), Cond.methodLink RX3 48 yX3_noteLinesTo, Cond.instanceMethod yX3_noteLinesTo]
def wsX3_prepare_r2 : List Cond := [Cond.selects RX3 yX3_noteLinesTo yX3_noteLinesTo, Cond.code yX3_noteLinesTo cX3_noteLinesTo 6 none, Cond.fieldLink RX3 21 "ChronicleRows$RowSearch" "crossedFromLeft" "[I", Cond.methodLink RX3 76 yX5_middleAbove, Cond.instanceMethod yX5_middleAbove, Cond.selects RX5 yX5_middleAbove yX5_middleAbove, Cond.code yX5_middleAbove cX5_middleAbove 2 (some .int), Cond.methodLink RX5 63 yX5_parentsOf, Cond.instanceMethod yX5_parentsOf, Cond.selects RX5 yX5_parentsOf yX5_parentsOf, Cond.code yX5_parentsOf cX5_parentsOf 2 (some .int), Cond.fieldLink RX5 18 "ChronicleRows$State" "parents" "[I", Cond.methodLink RX5 66 yX5_middleOf, Cond.instanceMethod yX5_middleOf, Cond.selects RX5 yX5_middleOf yX5_middleOf, Cond.code yX5_middleOf cX5_middleOf 2 (some .int), Cond.fieldLink RX5 21 "ChronicleRows$State" "lessers" "[I", Cond.fieldLink RX5 24 "ChronicleRows$State" "greaters" "[I", Cond.methodLink RX5 53 yX5_isCouple, Cond.instanceMethod yX5_isCouple, Cond.selects RX5 yX5_isCouple yX5_isCouple, Cond.code yX5_isCouple cX5_isCouple 2 (some .boolean), Cond.fieldLink RX5 43 "ChronicleRows$State" "couples" "I", Cond.methodLink RX5 60 yX5_placeOf]
def wsX3_prepare_r3 : List Cond := [Cond.instanceMethod yX5_placeOf, Cond.selects RX5 yX5_placeOf yX5_placeOf, Cond.code yX5_placeOf cX5_placeOf 2 (some .int), Cond.fieldLink RX5 15 "ChronicleRows$State" "places" "[I", Cond.methodLink RX3 52 yX3_listCouples, Cond.instanceMethod yX3_listCouples, Cond.selects RX3 yX3_listCouples yX3_listCouples, Cond.code yX3_listCouples cX3_listCouples 5 none, Cond.fieldLink RX3 79 "ChronicleRows$RowSearch" "coupleCount" "I", Cond.fieldLink RX3 36 "ChronicleRows$RowSearch" "parentIndexes" "[I", Cond.methodLink RX3 55 yX5_sizeOf, Cond.instanceMethod yX5_sizeOf, Cond.selects RX5 yX5_sizeOf yX5_sizeOf, Cond.code yX5_sizeOf cX5_sizeOf 2 (some .int), Cond.fieldLink RX5 30 "ChronicleRows$State" "sizes" "[I", Cond.methodLink RX3 82 yX5_personAt, Cond.instanceMethod yX5_personAt, Cond.selects RX5 yX5_personAt yX5_personAt, Cond.code yX5_personAt cX5_personAt 3 (some .int), Cond.fieldLink RX5 27 "ChronicleRows$State" "orders" "[I", Cond.methodLink RX5 56 yX5_sizeOf, Cond.methodLink RX3 86 yX5_parentsOf, Cond.methodLink RX3 89 yX3_indexOfCouple, Cond.instanceMethod yX3_indexOfCouple]
def wsX3_prepare_r4 : List Cond := [Cond.selects RX3 yX3_indexOfCouple yX3_indexOfCouple, Cond.code yX3_indexOfCouple cX3_indexOfCouple 4 (some .int), Cond.fieldLink RX3 24 "ChronicleRows$RowSearch" "couples" "[I", Cond.fieldLink RX3 27 "ChronicleRows$RowSearch" "lessers" "[I", Cond.fieldLink RX3 30 "ChronicleRows$RowSearch" "greaters" "[I", Cond.methodLink RX3 93 yX5_lesserOf, Cond.instanceMethod yX5_lesserOf, Cond.selects RX5 yX5_lesserOf yX5_lesserOf, Cond.code yX5_lesserOf cX5_lesserOf 2 (some .int), Cond.methodLink RX3 96 yX5_greaterOf, Cond.instanceMethod yX5_greaterOf, Cond.selects RX5 yX5_greaterOf yX5_greaterOf, Cond.code yX5_greaterOf cX5_greaterOf 2 (some .int), Cond.methodLink RX3 61 yX3_noteLinesFrom, Cond.instanceMethod yX3_noteLinesFrom, Cond.selects RX3 yX3_noteLinesFrom yX3_noteLinesFrom, Cond.code yX3_noteLinesFrom cX3_noteLinesFrom 4 none, Cond.fieldLink RX3 41 "ChronicleRows$RowSearch" "crossedIfLess" "[[I"]
def wsX3_prepare : List Cond := .code yX3_prepare cX3_prepare 3 none :: ((wsX3_prepare_r1 ++ (wsX3_prepare_r2 ++ (wsX3_prepare_r3 ++ wsX3_prepare_r4))) ++ wsX30 ++ wsX50)
def wsJ6_bitCount_0f7a4 : List Cond := .code yJ6_bitCount_0f7a4 cJ6_bitCount_0f7a4 1 (some .int) :: ([.constant RJ6 265 (1431655765), .constant RJ6 266 (858993459), .constant RJ6 267 (252645135)])
def wsX3_crossingsFrom : List Cond := .code yX3_crossingsFrom cX3_crossingsFrom 6 (some .int) :: ([.fieldLink RX3 79 "ChronicleRows$RowSearch" "coupleCount" "I", .fieldLink RX3 27 "ChronicleRows$RowSearch" "lessers" "[I", .fieldLink RX3 30 "ChronicleRows$RowSearch" "greaters" "[I", .fieldLink RX3 33 "ChronicleRows$RowSearch" "middles" "[I", .fieldLink RX3 18 "ChronicleRows$RowSearch" "places" "[I", .fieldLink RX3 41 "ChronicleRows$RowSearch" "crossedIfLess" "[[I"] ++ wsX30)
def wsX3_crossingsOfFirst : List Cond := .code yX3_crossingsOfFirst cX3_crossingsOfFirst 6 (some .int) :: ([.fieldLink RX3 9 "ChronicleRows$RowSearch" "order" "[I", .fieldLink RX3 21 "ChronicleRows$RowSearch" "crossedFromLeft" "[I", .fieldLink RX3 18 "ChronicleRows$RowSearch" "places" "[I", .methodLink RX3 127 yJ6_bitCount_0f7a4, .static yJ6_bitCount_0f7a4, .initialized RJ6, .code yJ6_bitCount_0f7a4 cJ6_bitCount_0f7a4 1 (some .int), .constant RJ6 265 (1431655765), .constant RJ6 266 (858993459), .constant RJ6 267 (252645135), .methodLink RX3 132 yX3_crossingsFrom, .instanceMethod yX3_crossingsFrom, .selects RX3 yX3_crossingsFrom yX3_crossingsFrom, .initialized RX3, .code yX3_crossingsFrom cX3_crossingsFrom 6 (some .int), .fieldLink RX3 79 "ChronicleRows$RowSearch" "coupleCount" "I", .fieldLink RX3 27 "ChronicleRows$RowSearch" "lessers" "[I", .fieldLink RX3 30 "ChronicleRows$RowSearch" "greaters" "[I", .fieldLink RX3 33 "ChronicleRows$RowSearch" "middles" "[I", .fieldLink RX3 41 "ChronicleRows$RowSearch" "crossedIfLess" "[[I"] ++ wsX30)
def wsX3_exchange : List Cond := .code yX3_exchange cX3_exchange 4 none :: ([.fieldLink RX3 9 "ChronicleRows$RowSearch" "order" "[I"] ++ wsX30)
def wsX3_goToNextOrder : List Cond := .code yX3_goToNextOrder cX3_goToNextOrder 5 (some .boolean) :: ([.fieldLink RX3 65 "ChronicleRows$RowSearch" "size" "I", .fieldLink RX3 9 "ChronicleRows$RowSearch" "order" "[I", .methodLink RX3 119 yX3_exchange, .instanceMethod yX3_exchange, .selects RX3 yX3_exchange yX3_exchange, .initialized RX3, .code yX3_exchange cX3_exchange 4 none] ++ wsX30)
def wsX3_leastByAllOrders_r1 : List Cond := [Cond.fieldLink RX3 99 "ChronicleRows$RowSearch" "fewest" "I", Cond.fieldLink RX3 65 "ChronicleRows$RowSearch" "size" "I", Cond.fieldLink RX3 9 "ChronicleRows$RowSearch" "order" "[I", Cond.fieldLink RX3 15 "ChronicleRows$RowSearch" "bestOrder" "[I", Cond.methodLink RX3 105 arraycopyName, Cond.native arraycopyName, Cond.static arraycopyName, Cond.initialized "java/lang/System", Cond.methodLink RX3 102 yX3_crossingsOfFirst, Cond.instanceMethod yX3_crossingsOfFirst, Cond.selects RX3 yX3_crossingsOfFirst yX3_crossingsOfFirst, Cond.initialized RX3, Cond.code yX3_crossingsOfFirst cX3_crossingsOfFirst 6 (some .int), Cond.fieldLink RX3 21 "ChronicleRows$RowSearch" "crossedFromLeft" "[I", Cond.fieldLink RX3 18 "ChronicleRows$RowSearch" "places" "[I", Cond.methodLink RX3 127 yJ6_bitCount_0f7a4, Cond.static yJ6_bitCount_0f7a4, Cond.initialized RJ6, Cond.code yJ6_bitCount_0f7a4 cJ6_bitCount_0f7a4 1 (some .int), Cond.constant RJ6 265 (1431655765), Cond.constant RJ6 266 (858993459), Cond.constant RJ6 267 (252645135), Cond.methodLink RX3 132 yX3_crossingsFrom, Cond.instanceMethod yX3_crossingsFrom]
def wsX3_leastByAllOrders_r2 : List Cond := [Cond.selects RX3 yX3_crossingsFrom yX3_crossingsFrom, Cond.code yX3_crossingsFrom cX3_crossingsFrom 6 (some .int), Cond.fieldLink RX3 79 "ChronicleRows$RowSearch" "coupleCount" "I", Cond.fieldLink RX3 27 "ChronicleRows$RowSearch" "lessers" "[I", Cond.fieldLink RX3 30 "ChronicleRows$RowSearch" "greaters" "[I", Cond.fieldLink RX3 33 "ChronicleRows$RowSearch" "middles" "[I", Cond.fieldLink RX3 41 "ChronicleRows$RowSearch" "crossedIfLess" "[[I", Cond.methodLink RX3 111 yX3_goToNextOrder, Cond.instanceMethod yX3_goToNextOrder, Cond.selects RX3 yX3_goToNextOrder yX3_goToNextOrder, Cond.code yX3_goToNextOrder cX3_goToNextOrder 5 (some .boolean), Cond.methodLink RX3 119 yX3_exchange, Cond.instanceMethod yX3_exchange, Cond.selects RX3 yX3_exchange yX3_exchange, Cond.code yX3_exchange cX3_exchange 4 none]
def wsX3_leastByAllOrders : List Cond := .code yX3_leastByAllOrders cX3_leastByAllOrders 4 (some .int) :: ((wsX3_leastByAllOrders_r1 ++ wsX3_leastByAllOrders_r2) ++ wsX30)
def wsX3_layBest : List Cond := .code yX3_layBest cX3_layBest 4 none :: ([.fieldLink RX3 65 "ChronicleRows$RowSearch" "size" "I", .fieldLink RX3 15 "ChronicleRows$RowSearch" "bestOrder" "[I", .methodLink RX3 115 yX5_lay, .instanceMethod yX5_lay, .selects RX5 yX5_lay yX5_lay, .initialized RX5, .code yX5_lay cX5_lay 4 none, .fieldLink RX5 27 "ChronicleRows$State" "orders" "[I", .fieldLink RX5 15 "ChronicleRows$State" "places" "[I", .methodLink RX5 49 yX5_isPerson, .instanceMethod yX5_isPerson, .selects RX5 yX5_isPerson yX5_isPerson, .code yX5_isPerson cX5_isPerson 2 (some .boolean), .fieldLink RX5 39 "ChronicleRows$State" "people" "I", .methodLink RX5 56 yX5_sizeOf, .instanceMethod yX5_sizeOf, .selects RX5 yX5_sizeOf yX5_sizeOf, .code yX5_sizeOf cX5_sizeOf 2 (some .int), .fieldLink RX5 30 "ChronicleRows$State" "sizes" "[I"] ++ wsX30 ++ wsX50)
def wsX3_layOn_r1 : List Cond := [Cond.fieldLink RX3 99 "ChronicleRows$RowSearch" "fewest" "I", Cond.fieldLink RX3 65 "ChronicleRows$RowSearch" "size" "I", Cond.methodLink RX3 102 yX3_crossingsOfFirst, Cond.instanceMethod yX3_crossingsOfFirst, Cond.selects RX3 yX3_crossingsOfFirst yX3_crossingsOfFirst, Cond.initialized RX3, Cond.code yX3_crossingsOfFirst cX3_crossingsOfFirst 6 (some .int), Cond.fieldLink RX3 9 "ChronicleRows$RowSearch" "order" "[I", Cond.fieldLink RX3 21 "ChronicleRows$RowSearch" "crossedFromLeft" "[I", Cond.fieldLink RX3 18 "ChronicleRows$RowSearch" "places" "[I", Cond.methodLink RX3 127 yJ6_bitCount_0f7a4, Cond.static yJ6_bitCount_0f7a4, Cond.initialized RJ6, Cond.code yJ6_bitCount_0f7a4 cJ6_bitCount_0f7a4 1 (some .int), Cond.constant RJ6 265 (1431655765), Cond.constant RJ6 266 (858993459), Cond.constant RJ6 267 (252645135), Cond.methodLink RX3 132 yX3_crossingsFrom, Cond.instanceMethod yX3_crossingsFrom, Cond.selects RX3 yX3_crossingsFrom yX3_crossingsFrom, Cond.code yX3_crossingsFrom cX3_crossingsFrom 6 (some .int), Cond.fieldLink RX3 79 "ChronicleRows$RowSearch" "coupleCount" "I", Cond.fieldLink RX3 27 "ChronicleRows$RowSearch" "lessers" "[I", Cond.fieldLink RX3 30 "ChronicleRows$RowSearch" "greaters" "[I"]
def wsX3_layOn_r2 : List Cond := [Cond.fieldLink RX3 33 "ChronicleRows$RowSearch" "middles" "[I", Cond.fieldLink RX3 41 "ChronicleRows$RowSearch" "crossedIfLess" "[[I", Cond.methodLink RX3 119 yX3_exchange, Cond.instanceMethod yX3_exchange, Cond.selects RX3 yX3_exchange yX3_exchange, Cond.code yX3_exchange cX3_exchange 4 none, Cond.methodLink RX3 123 yX3_layOn, Cond.static yX3_layOn]
def wsX3_layOn : List Cond := .code yX3_layOn cX3_layOn 4 none :: ((wsX3_layOn_r1 ++ wsX3_layOn_r2) ++ wsX30)
def wsX3_leastByLaying_r1 : List Cond := [Cond.fieldLink RX3 99 "ChronicleRows$RowSearch" "fewest" "I", Cond.methodLink RX3 123 yX3_layOn, Cond.static yX3_layOn, Cond.initialized RX3, Cond.code yX3_layOn cX3_layOn 4 none, Cond.fieldLink RX3 65 "ChronicleRows$RowSearch" "size" "I", Cond.methodLink RX3 102 yX3_crossingsOfFirst, Cond.instanceMethod yX3_crossingsOfFirst, Cond.selects RX3 yX3_crossingsOfFirst yX3_crossingsOfFirst, Cond.code yX3_crossingsOfFirst cX3_crossingsOfFirst 6 (some .int), Cond.fieldLink RX3 9 "ChronicleRows$RowSearch" "order" "[I", Cond.fieldLink RX3 21 "ChronicleRows$RowSearch" "crossedFromLeft" "[I", Cond.fieldLink RX3 18 "ChronicleRows$RowSearch" "places" "[I", Cond.methodLink RX3 127 yJ6_bitCount_0f7a4, Cond.static yJ6_bitCount_0f7a4, Cond.initialized RJ6, Cond.code yJ6_bitCount_0f7a4 cJ6_bitCount_0f7a4 1 (some .int), Cond.constant RJ6 265 (1431655765), Cond.constant RJ6 266 (858993459), Cond.constant RJ6 267 (252645135), Cond.methodLink RX3 132 yX3_crossingsFrom, Cond.instanceMethod yX3_crossingsFrom, Cond.selects RX3 yX3_crossingsFrom yX3_crossingsFrom, Cond.code yX3_crossingsFrom cX3_crossingsFrom 6 (some .int)]
def wsX3_leastByLaying_r2 : List Cond := [Cond.fieldLink RX3 79 "ChronicleRows$RowSearch" "coupleCount" "I", Cond.fieldLink RX3 27 "ChronicleRows$RowSearch" "lessers" "[I", Cond.fieldLink RX3 30 "ChronicleRows$RowSearch" "greaters" "[I", Cond.fieldLink RX3 33 "ChronicleRows$RowSearch" "middles" "[I", Cond.fieldLink RX3 41 "ChronicleRows$RowSearch" "crossedIfLess" "[[I", Cond.methodLink RX3 119 yX3_exchange, Cond.instanceMethod yX3_exchange, Cond.selects RX3 yX3_exchange yX3_exchange, Cond.code yX3_exchange cX3_exchange 4 none]
def wsX3_leastByLaying : List Cond := .code yX3_leastByLaying cX3_leastByLaying 1 (some .int) :: ((wsX3_leastByLaying_r1 ++ wsX3_leastByLaying_r2) ++ wsX30)
def wsX5_init : List Cond := .code yX5_init cX5_init 1 none :: ([.methodLink RX5 3 objectInit, .instanceMethod objectInit, .code objectInit ⟨#[0xb1]⟩ 1 none, .arrayClass .int, .fieldLink RX5 9 "ChronicleRows$State" "rows" "[I", .fieldLink RX5 15 "ChronicleRows$State" "places" "[I", .fieldLink RX5 18 "ChronicleRows$State" "parents" "[I", .fieldLink RX5 21 "ChronicleRows$State" "lessers" "[I", .fieldLink RX5 24 "ChronicleRows$State" "greaters" "[I", .fieldLink RX5 27 "ChronicleRows$State" "orders" "[I", .fieldLink RX5 30 "ChronicleRows$State" "sizes" "[I"] ++ wsX50)
def wsX4_init : List Cond := .code yX4_init cX4_init 2 none :: ([.methodLink RX4 3 objectInit, .instanceMethod objectInit, .code objectInit ⟨#[0xb1]⟩ 1 none, .classLink RX4 9 RX5, .fieldLink RX4 11 "ChronicleRows$SavedStates" "ring" "[LChronicleRows$State;", .instantiable RX5 10, .initialized RX5, .instanceMethod yX5_init, .code yX5_init cX5_init 1 none, .methodLink RX5 3 objectInit, .arrayClass .int, .fieldLink RX5 9 "ChronicleRows$State" "rows" "[I", .fieldLink RX5 15 "ChronicleRows$State" "places" "[I", .fieldLink RX5 18 "ChronicleRows$State" "parents" "[I", .fieldLink RX5 21 "ChronicleRows$State" "lessers" "[I", .fieldLink RX5 24 "ChronicleRows$State" "greaters" "[I", .fieldLink RX5 27 "ChronicleRows$State" "orders" "[I", .fieldLink RX5 30 "ChronicleRows$State" "sizes" "[I"] ++ wsX40 ++ wsX50)
def wsX4_size : List Cond := .code yX4_size cX4_size 1 (some .int) :: ([.fieldLink RX4 18 "ChronicleRows$SavedStates" "size" "I"] ++ wsX40)
def wsX5_copyFrom : List Cond := .code yX5_copyFrom cX5_copyFrom 2 none :: ([.fieldLink RX5 9 "ChronicleRows$State" "rows" "[I", .methodLink RX5 33 arraycopyName, .native arraycopyName, .static arraycopyName, .initialized "java/lang/System", .fieldLink RX5 15 "ChronicleRows$State" "places" "[I", .fieldLink RX5 18 "ChronicleRows$State" "parents" "[I", .fieldLink RX5 21 "ChronicleRows$State" "lessers" "[I", .fieldLink RX5 24 "ChronicleRows$State" "greaters" "[I", .fieldLink RX5 27 "ChronicleRows$State" "orders" "[I", .fieldLink RX5 30 "ChronicleRows$State" "sizes" "[I", .fieldLink RX5 39 "ChronicleRows$State" "people" "I", .fieldLink RX5 43 "ChronicleRows$State" "couples" "I", .fieldLink RX5 46 "ChronicleRows$State" "refused" "I"] ++ wsX50)
def wsX4_push : List Cond := .code yX4_push cX4_push 2 none :: ([.fieldLink RX4 11 "ChronicleRows$SavedStates" "ring" "[LChronicleRows$State;", .fieldLink RX4 22 "ChronicleRows$SavedStates" "oldest" "I", .fieldLink RX4 18 "ChronicleRows$SavedStates" "size" "I", .methodLink RX4 25 yX5_copyFrom, .instanceMethod yX5_copyFrom, .selects RX5 yX5_copyFrom yX5_copyFrom, .initialized RX5, .code yX5_copyFrom cX5_copyFrom 2 none, .fieldLink RX5 9 "ChronicleRows$State" "rows" "[I", .methodLink RX5 33 arraycopyName, .native arraycopyName, .static arraycopyName, .initialized "java/lang/System", .fieldLink RX5 15 "ChronicleRows$State" "places" "[I", .fieldLink RX5 18 "ChronicleRows$State" "parents" "[I", .fieldLink RX5 21 "ChronicleRows$State" "lessers" "[I", .fieldLink RX5 24 "ChronicleRows$State" "greaters" "[I", .fieldLink RX5 27 "ChronicleRows$State" "orders" "[I", .fieldLink RX5 30 "ChronicleRows$State" "sizes" "[I", .fieldLink RX5 39 "ChronicleRows$State" "people" "I", .fieldLink RX5 43 "ChronicleRows$State" "couples" "I", .fieldLink RX5 46 "ChronicleRows$State" "refused" "I"] ++ wsX40 ++ wsX50)
def wsX5_refused : List Cond := .code yX5_refused cX5_refused 1 (some .int) :: ([.fieldLink RX5 46 "ChronicleRows$State" "refused" "I"] ++ wsX50)
def wsX5_addPerson : List Cond := .code yX5_addPerson cX5_addPerson 5 (some .int) :: ([.fieldLink RX5 39 "ChronicleRows$State" "people" "I", .fieldLink RX5 46 "ChronicleRows$State" "refused" "I", .fieldLink RX5 30 "ChronicleRows$State" "sizes" "[I", .fieldLink RX5 9 "ChronicleRows$State" "rows" "[I", .fieldLink RX5 18 "ChronicleRows$State" "parents" "[I", .methodLink RX5 56 yX5_sizeOf, .instanceMethod yX5_sizeOf, .selects RX5 yX5_sizeOf yX5_sizeOf, .initialized RX5, .code yX5_sizeOf cX5_sizeOf 2 (some .int), .methodLink RX5 69 yX5_lay, .instanceMethod yX5_lay, .selects RX5 yX5_lay yX5_lay, .code yX5_lay cX5_lay 4 none, .fieldLink RX5 27 "ChronicleRows$State" "orders" "[I", .fieldLink RX5 15 "ChronicleRows$State" "places" "[I", .methodLink RX5 49 yX5_isPerson, .instanceMethod yX5_isPerson, .selects RX5 yX5_isPerson yX5_isPerson, .code yX5_isPerson cX5_isPerson 2 (some .boolean)] ++ wsX50)
def wsX5_addChild_r1 : List Cond := [Cond.methodLink RX5 73 yX5_lesserOf, Cond.instanceMethod yX5_lesserOf, Cond.selects RX5 yX5_lesserOf yX5_lesserOf, Cond.initialized RX5, Cond.code yX5_lesserOf cX5_lesserOf 2 (some .int), Cond.fieldLink RX5 21 "ChronicleRows$State" "lessers" "[I", Cond.methodLink RX5 53 yX5_isCouple, Cond.instanceMethod yX5_isCouple, Cond.selects RX5 yX5_isCouple yX5_isCouple, Cond.code yX5_isCouple cX5_isCouple 2 (some .boolean), Cond.fieldLink RX5 43 "ChronicleRows$State" "couples" "I", Cond.methodLink RX5 76 yX5_rowOf, Cond.instanceMethod yX5_rowOf, Cond.selects RX5 yX5_rowOf yX5_rowOf, Cond.code yX5_rowOf cX5_rowOf 2 (some .int), Cond.fieldLink RX5 9 "ChronicleRows$State" "rows" "[I", Cond.methodLink RX5 49 yX5_isPerson, Cond.instanceMethod yX5_isPerson, Cond.selects RX5 yX5_isPerson yX5_isPerson, Cond.code yX5_isPerson cX5_isPerson 2 (some .boolean), Cond.fieldLink RX5 39 "ChronicleRows$State" "people" "I", Cond.methodLink RX5 79 yX5_addPerson, Cond.instanceMethod yX5_addPerson, Cond.selects RX5 yX5_addPerson yX5_addPerson]
def wsX5_addChild_r2 : List Cond := [Cond.code yX5_addPerson cX5_addPerson 5 (some .int), Cond.fieldLink RX5 46 "ChronicleRows$State" "refused" "I", Cond.fieldLink RX5 30 "ChronicleRows$State" "sizes" "[I", Cond.fieldLink RX5 18 "ChronicleRows$State" "parents" "[I", Cond.methodLink RX5 56 yX5_sizeOf, Cond.instanceMethod yX5_sizeOf, Cond.selects RX5 yX5_sizeOf yX5_sizeOf, Cond.code yX5_sizeOf cX5_sizeOf 2 (some .int), Cond.methodLink RX5 69 yX5_lay, Cond.instanceMethod yX5_lay, Cond.selects RX5 yX5_lay yX5_lay, Cond.code yX5_lay cX5_lay 4 none, Cond.fieldLink RX5 27 "ChronicleRows$State" "orders" "[I", Cond.fieldLink RX5 15 "ChronicleRows$State" "places" "[I"]
def wsX5_addChild : List Cond := .code yX5_addChild cX5_addChild 2 (some .int) :: ((wsX5_addChild_r1 ++ wsX5_addChild_r2) ++ wsX50)
def wsX5_areCouple : List Cond := .code yX5_areCouple cX5_areCouple 4 (some .boolean) :: ([.fieldLink RX5 43 "ChronicleRows$State" "couples" "I", .fieldLink RX5 21 "ChronicleRows$State" "lessers" "[I", .fieldLink RX5 24 "ChronicleRows$State" "greaters" "[I"] ++ wsX50)
def wsX5_couplesWith : List Cond := .code yX5_couplesWith cX5_couplesWith 4 (some .int) :: ([.fieldLink RX5 43 "ChronicleRows$State" "couples" "I", .fieldLink RX5 21 "ChronicleRows$State" "lessers" "[I", .fieldLink RX5 24 "ChronicleRows$State" "greaters" "[I"] ++ wsX50)
def wsX5_isDouble : List Cond := .code yX5_isDouble cX5_isDouble 2 (some .boolean) :: ([.methodLink RX5 101 yX5_couplesWith, .instanceMethod yX5_couplesWith, .selects RX5 yX5_couplesWith yX5_couplesWith, .initialized RX5, .code yX5_couplesWith cX5_couplesWith 4 (some .int), .fieldLink RX5 43 "ChronicleRows$State" "couples" "I", .fieldLink RX5 21 "ChronicleRows$State" "lessers" "[I", .fieldLink RX5 24 "ChronicleRows$State" "greaters" "[I"] ++ wsX50)
def wsX5_reasonAgainst_r1 : List Cond := [Cond.fieldLink RX5 43 "ChronicleRows$State" "couples" "I", Cond.methodLink RX5 86 Lib.Math.min.name, Cond.static Lib.Math.min.name, Cond.initialized "java/lang/Math", Cond.code Lib.Math.min.name Lib.Math.min.code 2 (some .int), Cond.methodLink RX5 91 Lib.Math.max.name, Cond.static Lib.Math.max.name, Cond.code Lib.Math.max.name Lib.Math.max.code 2 (some .int), Cond.methodLink RX5 76 yX5_rowOf, Cond.instanceMethod yX5_rowOf, Cond.selects RX5 yX5_rowOf yX5_rowOf, Cond.initialized RX5, Cond.code yX5_rowOf cX5_rowOf 2 (some .int), Cond.fieldLink RX5 9 "ChronicleRows$State" "rows" "[I", Cond.methodLink RX5 49 yX5_isPerson, Cond.instanceMethod yX5_isPerson, Cond.selects RX5 yX5_isPerson yX5_isPerson, Cond.code yX5_isPerson cX5_isPerson 2 (some .boolean), Cond.fieldLink RX5 39 "ChronicleRows$State" "people" "I", Cond.methodLink RX5 94 yX5_areCouple, Cond.instanceMethod yX5_areCouple, Cond.selects RX5 yX5_areCouple yX5_areCouple, Cond.code yX5_areCouple cX5_areCouple 4 (some .boolean), Cond.fieldLink RX5 21 "ChronicleRows$State" "lessers" "[I"]
def wsX5_reasonAgainst_r2 : List Cond := [Cond.fieldLink RX5 24 "ChronicleRows$State" "greaters" "[I", Cond.methodLink RX5 98 yX5_isDouble, Cond.instanceMethod yX5_isDouble, Cond.selects RX5 yX5_isDouble yX5_isDouble, Cond.code yX5_isDouble cX5_isDouble 2 (some .boolean), Cond.methodLink RX5 101 yX5_couplesWith, Cond.instanceMethod yX5_couplesWith, Cond.selects RX5 yX5_couplesWith yX5_couplesWith, Cond.code yX5_couplesWith cX5_couplesWith 4 (some .int)]
def wsX5_reasonAgainst : List Cond := .code yX5_reasonAgainst cX5_reasonAgainst 3 (some .int) :: ((wsX5_reasonAgainst_r1 ++ wsX5_reasonAgainst_r2) ++ wsX50)
def wsX5_addCouple_r1 : List Cond := [Cond.fieldLink RX5 46 "ChronicleRows$State" "refused" "I", Cond.fieldLink RX5 43 "ChronicleRows$State" "couples" "I", Cond.fieldLink RX5 21 "ChronicleRows$State" "lessers" "[I", Cond.methodLink RX5 86 Lib.Math.min.name, Cond.static Lib.Math.min.name, Cond.initialized "java/lang/Math", Cond.code Lib.Math.min.name Lib.Math.min.code 2 (some .int), Cond.fieldLink RX5 24 "ChronicleRows$State" "greaters" "[I", Cond.methodLink RX5 91 Lib.Math.max.name, Cond.static Lib.Math.max.name, Cond.code Lib.Math.max.name Lib.Math.max.code 2 (some .int), Cond.methodLink RX5 83 yX5_reasonAgainst, Cond.instanceMethod yX5_reasonAgainst, Cond.selects RX5 yX5_reasonAgainst yX5_reasonAgainst, Cond.initialized RX5, Cond.code yX5_reasonAgainst cX5_reasonAgainst 3 (some .int), Cond.methodLink RX5 76 yX5_rowOf, Cond.instanceMethod yX5_rowOf, Cond.selects RX5 yX5_rowOf yX5_rowOf, Cond.code yX5_rowOf cX5_rowOf 2 (some .int), Cond.fieldLink RX5 9 "ChronicleRows$State" "rows" "[I", Cond.methodLink RX5 49 yX5_isPerson, Cond.instanceMethod yX5_isPerson, Cond.selects RX5 yX5_isPerson yX5_isPerson]
def wsX5_addCouple_r2 : List Cond := [Cond.code yX5_isPerson cX5_isPerson 2 (some .boolean), Cond.fieldLink RX5 39 "ChronicleRows$State" "people" "I", Cond.methodLink RX5 94 yX5_areCouple, Cond.instanceMethod yX5_areCouple, Cond.selects RX5 yX5_areCouple yX5_areCouple, Cond.code yX5_areCouple cX5_areCouple 4 (some .boolean), Cond.methodLink RX5 98 yX5_isDouble, Cond.instanceMethod yX5_isDouble, Cond.selects RX5 yX5_isDouble yX5_isDouble, Cond.code yX5_isDouble cX5_isDouble 2 (some .boolean), Cond.methodLink RX5 101 yX5_couplesWith, Cond.instanceMethod yX5_couplesWith, Cond.selects RX5 yX5_couplesWith yX5_couplesWith, Cond.code yX5_couplesWith cX5_couplesWith 4 (some .int)]
def wsX5_addCouple : List Cond := .code yX5_addCouple cX5_addCouple 5 (some .int) :: ((wsX5_addCouple_r1 ++ wsX5_addCouple_r2) ++ wsX50)
def wsX5_exchange : List Cond := .code yX5_exchange cX5_exchange 5 none :: ([.methodLink RX5 104 yX5_personAt, .instanceMethod yX5_personAt, .selects RX5 yX5_personAt yX5_personAt, .initialized RX5, .code yX5_personAt cX5_personAt 3 (some .int), .fieldLink RX5 27 "ChronicleRows$State" "orders" "[I", .methodLink RX5 56 yX5_sizeOf, .instanceMethod yX5_sizeOf, .selects RX5 yX5_sizeOf yX5_sizeOf, .code yX5_sizeOf cX5_sizeOf 2 (some .int), .fieldLink RX5 30 "ChronicleRows$State" "sizes" "[I", .methodLink RX5 69 yX5_lay, .instanceMethod yX5_lay, .selects RX5 yX5_lay yX5_lay, .code yX5_lay cX5_lay 4 none, .fieldLink RX5 15 "ChronicleRows$State" "places" "[I", .methodLink RX5 49 yX5_isPerson, .instanceMethod yX5_isPerson, .selects RX5 yX5_isPerson yX5_isPerson, .code yX5_isPerson cX5_isPerson 2 (some .boolean), .fieldLink RX5 39 "ChronicleRows$State" "people" "I"] ++ wsX50)
def wsX5_childrenOf : List Cond := .code yX5_childrenOf cX5_childrenOf 4 (some .int) :: ([.fieldLink RX5 39 "ChronicleRows$State" "people" "I", .fieldLink RX5 18 "ChronicleRows$State" "parents" "[I"] ++ wsX50)
def wsX5_childrenWith : List Cond := .code yX5_childrenWith cX5_childrenWith 4 (some .int) :: ([.fieldLink RX5 43 "ChronicleRows$State" "couples" "I", .fieldLink RX5 21 "ChronicleRows$State" "lessers" "[I", .fieldLink RX5 24 "ChronicleRows$State" "greaters" "[I", .methodLink RX5 107 yX5_childrenOf, .instanceMethod yX5_childrenOf, .selects RX5 yX5_childrenOf yX5_childrenOf, .initialized RX5, .code yX5_childrenOf cX5_childrenOf 4 (some .int), .fieldLink RX5 39 "ChronicleRows$State" "people" "I", .fieldLink RX5 18 "ChronicleRows$State" "parents" "[I"] ++ wsX50)
def wsX5_lines : List Cond := .code yX5_lines cX5_lines 1 (some .int) :: ([.fieldLink RX5 39 "ChronicleRows$State" "people" "I", .methodLink RX5 107 yX5_childrenOf, .instanceMethod yX5_childrenOf, .selects RX5 yX5_childrenOf yX5_childrenOf, .initialized RX5, .code yX5_childrenOf cX5_childrenOf 4 (some .int), .fieldLink RX5 18 "ChronicleRows$State" "parents" "[I"] ++ wsX50)
def wsX5_bentLines_r1 : List Cond := [Cond.fieldLink RX5 39 "ChronicleRows$State" "people" "I", Cond.fieldLink RX5 18 "ChronicleRows$State" "parents" "[I", Cond.fieldLink RX5 15 "ChronicleRows$State" "places" "[I", Cond.methodLink RX5 110 yX5_middleAbove, Cond.instanceMethod yX5_middleAbove, Cond.selects RX5 yX5_middleAbove yX5_middleAbove, Cond.initialized RX5, Cond.code yX5_middleAbove cX5_middleAbove 2 (some .int), Cond.methodLink RX5 63 yX5_parentsOf, Cond.instanceMethod yX5_parentsOf, Cond.selects RX5 yX5_parentsOf yX5_parentsOf, Cond.code yX5_parentsOf cX5_parentsOf 2 (some .int), Cond.methodLink RX5 49 yX5_isPerson, Cond.instanceMethod yX5_isPerson, Cond.selects RX5 yX5_isPerson yX5_isPerson, Cond.code yX5_isPerson cX5_isPerson 2 (some .boolean), Cond.methodLink RX5 66 yX5_middleOf, Cond.instanceMethod yX5_middleOf, Cond.selects RX5 yX5_middleOf yX5_middleOf, Cond.code yX5_middleOf cX5_middleOf 2 (some .int), Cond.fieldLink RX5 21 "ChronicleRows$State" "lessers" "[I", Cond.fieldLink RX5 24 "ChronicleRows$State" "greaters" "[I", Cond.methodLink RX5 53 yX5_isCouple, Cond.instanceMethod yX5_isCouple]
def wsX5_bentLines_r2 : List Cond := [Cond.selects RX5 yX5_isCouple yX5_isCouple, Cond.code yX5_isCouple cX5_isCouple 2 (some .boolean), Cond.fieldLink RX5 43 "ChronicleRows$State" "couples" "I", Cond.methodLink RX5 60 yX5_placeOf, Cond.instanceMethod yX5_placeOf, Cond.selects RX5 yX5_placeOf yX5_placeOf, Cond.code yX5_placeOf cX5_placeOf 2 (some .int)]
def wsX5_bentLines : List Cond := .code yX5_bentLines cX5_bentLines 3 (some .int) :: ((wsX5_bentLines_r1 ++ wsX5_bentLines_r2) ++ wsX50)
def wsX5_doubles : List Cond := .code yX5_doubles cX5_doubles 3 (some .int) :: ([.fieldLink RX5 39 "ChronicleRows$State" "people" "I", .methodLink RX5 98 yX5_isDouble, .instanceMethod yX5_isDouble, .selects RX5 yX5_isDouble yX5_isDouble, .initialized RX5, .code yX5_isDouble cX5_isDouble 2 (some .boolean), .methodLink RX5 101 yX5_couplesWith, .instanceMethod yX5_couplesWith, .selects RX5 yX5_couplesWith yX5_couplesWith, .code yX5_couplesWith cX5_couplesWith 4 (some .int), .fieldLink RX5 43 "ChronicleRows$State" "couples" "I", .fieldLink RX5 21 "ChronicleRows$State" "lessers" "[I", .fieldLink RX5 24 "ChronicleRows$State" "greaters" "[I"] ++ wsX50)
def wsX6_init : List Cond := .code yX6_init cX6_init 1 none :: ([.methodLink RX6 3 objectInit, .instanceMethod objectInit, .code objectInit ⟨#[0xb1]⟩ 1 none, .arrayClass .int, .fieldLink RX6 9 "ChronicleRows$TextBuffer" "codes" "[I"] ++ wsX60)
def wsX7_init_r1 : List Cond := [Cond.methodLink RX7 1 objectInit, Cond.instanceMethod objectInit, Cond.code objectInit ⟨#[0xb1]⟩ 1 none, Cond.classLink RX7 7 RX5, Cond.instantiable RX5 10, Cond.initialized RX5, Cond.fieldLink RX7 10 "ChronicleRows" "now" "LChronicleRows$State;", Cond.fieldLink RX7 16 "ChronicleRows" "slots" "[LChronicleRows$State;", Cond.arrayClass .boolean, Cond.fieldLink RX7 20 "ChronicleRows" "kept" "[Z", Cond.classLink RX7 24 RX4, Cond.instantiable RX4 3, Cond.initialized RX4, Cond.fieldLink RX7 27 "ChronicleRows" "saved" "LChronicleRows$SavedStates;", Cond.classLink RX7 31 RX6, Cond.instantiable RX6 6, Cond.initialized RX6, Cond.fieldLink RX7 34 "ChronicleRows" "text" "LChronicleRows$TextBuffer;", Cond.classLink RX7 38 RX2, Cond.instantiable RX2 3, Cond.initialized RX2, Cond.fieldLink RX7 41 "ChronicleRows" "lines" "LChronicleRows$RowLines;", Cond.classLink RX7 45 RX1, Cond.instantiable RX1 2]
def wsX7_init_r2 : List Cond := [Cond.initialized RX1, Cond.fieldLink RX7 48 "ChronicleRows" "parentOrder" "LChronicleRows$ParentOrder;", Cond.classLink RX7 52 RX3, Cond.instantiable RX3 13, Cond.initialized RX3, Cond.fieldLink RX7 55 "ChronicleRows" "search" "LChronicleRows$RowSearch;", Cond.instanceMethod yX5_init, Cond.code yX5_init cX5_init 1 none, Cond.methodLink RX5 3 objectInit, Cond.arrayClass .int, Cond.fieldLink RX5 9 "ChronicleRows$State" "rows" "[I", Cond.fieldLink RX5 15 "ChronicleRows$State" "places" "[I", Cond.fieldLink RX5 18 "ChronicleRows$State" "parents" "[I", Cond.fieldLink RX5 21 "ChronicleRows$State" "lessers" "[I", Cond.fieldLink RX5 24 "ChronicleRows$State" "greaters" "[I", Cond.fieldLink RX5 27 "ChronicleRows$State" "orders" "[I", Cond.fieldLink RX5 30 "ChronicleRows$State" "sizes" "[I", Cond.methodLink RX7 26 yX4_init, Cond.instanceMethod yX4_init, Cond.code yX4_init cX4_init 2 none, Cond.methodLink RX4 3 objectInit, Cond.classLink RX4 9 RX5, Cond.fieldLink RX4 11 "ChronicleRows$SavedStates" "ring" "[LChronicleRows$State;", Cond.instanceMethod yX6_init]
def wsX7_init_r3 : List Cond := [Cond.code yX6_init cX6_init 1 none, Cond.methodLink RX6 3 objectInit, Cond.fieldLink RX6 9 "ChronicleRows$TextBuffer" "codes" "[I", Cond.instanceMethod yX2_init, Cond.code yX2_init cX2_init 1 none, Cond.methodLink RX2 3 objectInit, Cond.fieldLink RX2 9 "ChronicleRows$RowLines" "middles" "[I", Cond.fieldLink RX2 15 "ChronicleRows$RowLines" "places" "[I", Cond.instanceMethod yX1_init, Cond.code yX1_init cX1_init 1 none, Cond.methodLink RX1 3 objectInit, Cond.fieldLink RX1 9 "ChronicleRows$ParentOrder" "keys" "[I", Cond.fieldLink RX1 15 "ChronicleRows$ParentOrder" "order" "[I", Cond.instanceMethod yX3_init, Cond.code yX3_init cX3_init 1 none, Cond.methodLink RX3 3 objectInit, Cond.fieldLink RX3 9 "ChronicleRows$RowSearch" "order" "[I", Cond.fieldLink RX3 15 "ChronicleRows$RowSearch" "bestOrder" "[I", Cond.fieldLink RX3 18 "ChronicleRows$RowSearch" "places" "[I", Cond.fieldLink RX3 21 "ChronicleRows$RowSearch" "crossedFromLeft" "[I", Cond.fieldLink RX3 24 "ChronicleRows$RowSearch" "couples" "[I", Cond.fieldLink RX3 27 "ChronicleRows$RowSearch" "lessers" "[I", Cond.fieldLink RX3 30 "ChronicleRows$RowSearch" "greaters" "[I", Cond.fieldLink RX3 33 "ChronicleRows$RowSearch" "middles" "[I"]
def wsX7_init_r4 : List Cond := [Cond.fieldLink RX3 36 "ChronicleRows$RowSearch" "parentIndexes" "[I", Cond.classLink RX3 39 "[[I", Cond.fieldLink RX3 41 "ChronicleRows$RowSearch" "crossedIfLess" "[[I"]
def wsX7_init : List Cond := .code yX7_init cX7_init 2 none :: ((wsX7_init_r1 ++ (wsX7_init_r2 ++ (wsX7_init_r3 ++ wsX7_init_r4))) ++ wsX50 ++ wsX70 ++ wsX40 ++ wsX60 ++ wsX20 ++ wsX10 ++ wsX30)
def wsX7_isRow : List Cond := .code yX7_isRow cX7_isRow 1 (some .boolean) :: ([])
def wsX7_person_r1 : List Cond := [Cond.classLink RX7 63 "java/lang/IndexOutOfBoundsException", Cond.initialized "java/lang/IndexOutOfBoundsException", Cond.fieldLink RX7 27 "ChronicleRows" "saved" "LChronicleRows$SavedStates;", Cond.fieldLink RX7 10 "ChronicleRows" "now" "LChronicleRows$State;", Cond.methodLink RX7 59 yX7_isRow, Cond.static yX7_isRow, Cond.initialized RX7, Cond.code yX7_isRow cX7_isRow 1 (some .boolean), Cond.methodLink RX7 70 yX4_push, Cond.instanceMethod yX4_push, Cond.selects RX4 yX4_push yX4_push, Cond.initialized RX4, Cond.code yX4_push cX4_push 2 none, Cond.fieldLink RX4 11 "ChronicleRows$SavedStates" "ring" "[LChronicleRows$State;", Cond.fieldLink RX4 22 "ChronicleRows$SavedStates" "oldest" "I", Cond.fieldLink RX4 18 "ChronicleRows$SavedStates" "size" "I", Cond.methodLink RX4 25 yX5_copyFrom, Cond.instanceMethod yX5_copyFrom, Cond.selects RX5 yX5_copyFrom yX5_copyFrom, Cond.initialized RX5, Cond.code yX5_copyFrom cX5_copyFrom 2 none, Cond.fieldLink RX5 9 "ChronicleRows$State" "rows" "[I", Cond.methodLink RX5 33 arraycopyName, Cond.native arraycopyName]
def wsX7_person_r2 : List Cond := [Cond.static arraycopyName, Cond.initialized "java/lang/System", Cond.fieldLink RX5 15 "ChronicleRows$State" "places" "[I", Cond.fieldLink RX5 18 "ChronicleRows$State" "parents" "[I", Cond.fieldLink RX5 21 "ChronicleRows$State" "lessers" "[I", Cond.fieldLink RX5 24 "ChronicleRows$State" "greaters" "[I", Cond.fieldLink RX5 27 "ChronicleRows$State" "orders" "[I", Cond.fieldLink RX5 30 "ChronicleRows$State" "sizes" "[I", Cond.fieldLink RX5 39 "ChronicleRows$State" "people" "I", Cond.fieldLink RX5 43 "ChronicleRows$State" "couples" "I", Cond.fieldLink RX5 46 "ChronicleRows$State" "refused" "I", Cond.methodLink RX7 74 yX5_addPerson, Cond.instanceMethod yX5_addPerson, Cond.selects RX5 yX5_addPerson yX5_addPerson, Cond.code yX5_addPerson cX5_addPerson 5 (some .int), Cond.methodLink RX5 56 yX5_sizeOf, Cond.instanceMethod yX5_sizeOf, Cond.selects RX5 yX5_sizeOf yX5_sizeOf, Cond.code yX5_sizeOf cX5_sizeOf 2 (some .int), Cond.methodLink RX5 69 yX5_lay, Cond.instanceMethod yX5_lay, Cond.selects RX5 yX5_lay yX5_lay, Cond.code yX5_lay cX5_lay 4 none, Cond.methodLink RX5 49 yX5_isPerson]
def wsX7_person_r3 : List Cond := [Cond.instanceMethod yX5_isPerson, Cond.selects RX5 yX5_isPerson yX5_isPerson, Cond.code yX5_isPerson cX5_isPerson 2 (some .boolean)]
def wsX7_person : List Cond := .code yX7_person cX7_person 2 (some .int) :: ((wsX7_person_r1 ++ (wsX7_person_r2 ++ wsX7_person_r3)) ++ wsX70 ++ wsX40 ++ wsX50 ++ (vx_atS RX7 67 "java/lang/IndexOutOfBoundsException" ["java/lang/RuntimeException", "java/lang/Exception"]).filter goodWord)
def wsX7_marry_r1 : List Cond := [Cond.classLink RX7 63 "java/lang/IndexOutOfBoundsException", Cond.initialized "java/lang/IndexOutOfBoundsException", Cond.classLink RX7 83 "java/lang/IllegalArgumentException", Cond.initialized "java/lang/IllegalArgumentException", Cond.fieldLink RX7 10 "ChronicleRows" "now" "LChronicleRows$State;", Cond.fieldLink RX7 27 "ChronicleRows" "saved" "LChronicleRows$SavedStates;", Cond.methodLink RX7 78 yX5_isPerson, Cond.instanceMethod yX5_isPerson, Cond.selects RX5 yX5_isPerson yX5_isPerson, Cond.initialized RX5, Cond.code yX5_isPerson cX5_isPerson 2 (some .boolean), Cond.fieldLink RX5 39 "ChronicleRows$State" "people" "I", Cond.methodLink RX7 70 yX4_push, Cond.instanceMethod yX4_push, Cond.selects RX4 yX4_push yX4_push, Cond.initialized RX4, Cond.code yX4_push cX4_push 2 none, Cond.fieldLink RX4 11 "ChronicleRows$SavedStates" "ring" "[LChronicleRows$State;", Cond.fieldLink RX4 22 "ChronicleRows$SavedStates" "oldest" "I", Cond.fieldLink RX4 18 "ChronicleRows$SavedStates" "size" "I", Cond.methodLink RX4 25 yX5_copyFrom, Cond.instanceMethod yX5_copyFrom, Cond.selects RX5 yX5_copyFrom yX5_copyFrom, Cond.code yX5_copyFrom cX5_copyFrom 2 none]
def wsX7_marry_r2 : List Cond := [Cond.fieldLink RX5 9 "ChronicleRows$State" "rows" "[I", Cond.methodLink RX5 33 arraycopyName, Cond.native arraycopyName, Cond.static arraycopyName, Cond.initialized "java/lang/System", Cond.fieldLink RX5 15 "ChronicleRows$State" "places" "[I", Cond.fieldLink RX5 18 "ChronicleRows$State" "parents" "[I", Cond.fieldLink RX5 21 "ChronicleRows$State" "lessers" "[I", Cond.fieldLink RX5 24 "ChronicleRows$State" "greaters" "[I", Cond.fieldLink RX5 27 "ChronicleRows$State" "orders" "[I", Cond.fieldLink RX5 30 "ChronicleRows$State" "sizes" "[I", Cond.fieldLink RX5 43 "ChronicleRows$State" "couples" "I", Cond.fieldLink RX5 46 "ChronicleRows$State" "refused" "I", Cond.methodLink RX7 88 yX5_addCouple, Cond.instanceMethod yX5_addCouple, Cond.selects RX5 yX5_addCouple yX5_addCouple, Cond.code yX5_addCouple cX5_addCouple 5 (some .int), Cond.methodLink RX5 86 Lib.Math.min.name, Cond.static Lib.Math.min.name, Cond.initialized "java/lang/Math", Cond.code Lib.Math.min.name Lib.Math.min.code 2 (some .int), Cond.methodLink RX5 91 Lib.Math.max.name, Cond.static Lib.Math.max.name, Cond.code Lib.Math.max.name Lib.Math.max.code 2 (some .int)]
def wsX7_marry_r3 : List Cond := [Cond.methodLink RX5 83 yX5_reasonAgainst, Cond.instanceMethod yX5_reasonAgainst, Cond.selects RX5 yX5_reasonAgainst yX5_reasonAgainst, Cond.code yX5_reasonAgainst cX5_reasonAgainst 3 (some .int), Cond.methodLink RX5 76 yX5_rowOf, Cond.instanceMethod yX5_rowOf, Cond.selects RX5 yX5_rowOf yX5_rowOf, Cond.code yX5_rowOf cX5_rowOf 2 (some .int), Cond.methodLink RX5 49 yX5_isPerson, Cond.methodLink RX5 94 yX5_areCouple, Cond.instanceMethod yX5_areCouple, Cond.selects RX5 yX5_areCouple yX5_areCouple, Cond.code yX5_areCouple cX5_areCouple 4 (some .boolean), Cond.methodLink RX5 98 yX5_isDouble, Cond.instanceMethod yX5_isDouble, Cond.selects RX5 yX5_isDouble yX5_isDouble, Cond.code yX5_isDouble cX5_isDouble 2 (some .boolean), Cond.methodLink RX5 101 yX5_couplesWith, Cond.instanceMethod yX5_couplesWith, Cond.selects RX5 yX5_couplesWith yX5_couplesWith, Cond.code yX5_couplesWith cX5_couplesWith 4 (some .int)]
def wsX7_marry : List Cond := .code yX7_marry cX7_marry 3 (some .int) :: ((wsX7_marry_r1 ++ (wsX7_marry_r2 ++ wsX7_marry_r3)) ++ wsX70 ++ wsX50 ++ wsX40 ++ (vx_atS RX7 67 "java/lang/IndexOutOfBoundsException" ["java/lang/RuntimeException", "java/lang/Exception"]).filter goodWord ++ (vx_atS RX7 87 "java/lang/IllegalArgumentException" ["java/lang/RuntimeException", "java/lang/Exception"]).filter goodWord)
def wsX7_child_r1 : List Cond := [Cond.classLink RX7 63 "java/lang/IndexOutOfBoundsException", Cond.initialized "java/lang/IndexOutOfBoundsException", Cond.fieldLink RX7 10 "ChronicleRows" "now" "LChronicleRows$State;", Cond.fieldLink RX7 27 "ChronicleRows" "saved" "LChronicleRows$SavedStates;", Cond.methodLink RX7 91 yX5_isCouple, Cond.instanceMethod yX5_isCouple, Cond.selects RX5 yX5_isCouple yX5_isCouple, Cond.initialized RX5, Cond.code yX5_isCouple cX5_isCouple 2 (some .boolean), Cond.fieldLink RX5 43 "ChronicleRows$State" "couples" "I", Cond.methodLink RX7 70 yX4_push, Cond.instanceMethod yX4_push, Cond.selects RX4 yX4_push yX4_push, Cond.initialized RX4, Cond.code yX4_push cX4_push 2 none, Cond.fieldLink RX4 11 "ChronicleRows$SavedStates" "ring" "[LChronicleRows$State;", Cond.fieldLink RX4 22 "ChronicleRows$SavedStates" "oldest" "I", Cond.fieldLink RX4 18 "ChronicleRows$SavedStates" "size" "I", Cond.methodLink RX4 25 yX5_copyFrom, Cond.instanceMethod yX5_copyFrom, Cond.selects RX5 yX5_copyFrom yX5_copyFrom, Cond.code yX5_copyFrom cX5_copyFrom 2 none, Cond.fieldLink RX5 9 "ChronicleRows$State" "rows" "[I", Cond.methodLink RX5 33 arraycopyName]
def wsX7_child_r2 : List Cond := [Cond.native arraycopyName, Cond.static arraycopyName, Cond.initialized "java/lang/System", Cond.fieldLink RX5 15 "ChronicleRows$State" "places" "[I", Cond.fieldLink RX5 18 "ChronicleRows$State" "parents" "[I", Cond.fieldLink RX5 21 "ChronicleRows$State" "lessers" "[I", Cond.fieldLink RX5 24 "ChronicleRows$State" "greaters" "[I", Cond.fieldLink RX5 27 "ChronicleRows$State" "orders" "[I", Cond.fieldLink RX5 30 "ChronicleRows$State" "sizes" "[I", Cond.fieldLink RX5 39 "ChronicleRows$State" "people" "I", Cond.fieldLink RX5 46 "ChronicleRows$State" "refused" "I", Cond.methodLink RX7 96 yX5_addChild, Cond.instanceMethod yX5_addChild, Cond.selects RX5 yX5_addChild yX5_addChild, Cond.code yX5_addChild cX5_addChild 2 (some .int), Cond.methodLink RX5 73 yX5_lesserOf, Cond.instanceMethod yX5_lesserOf, Cond.selects RX5 yX5_lesserOf yX5_lesserOf, Cond.code yX5_lesserOf cX5_lesserOf 2 (some .int), Cond.methodLink RX5 53 yX5_isCouple, Cond.methodLink RX5 76 yX5_rowOf, Cond.instanceMethod yX5_rowOf, Cond.selects RX5 yX5_rowOf yX5_rowOf, Cond.code yX5_rowOf cX5_rowOf 2 (some .int)]
def wsX7_child_r3 : List Cond := [Cond.methodLink RX5 49 yX5_isPerson, Cond.instanceMethod yX5_isPerson, Cond.selects RX5 yX5_isPerson yX5_isPerson, Cond.code yX5_isPerson cX5_isPerson 2 (some .boolean), Cond.methodLink RX5 79 yX5_addPerson, Cond.instanceMethod yX5_addPerson, Cond.selects RX5 yX5_addPerson yX5_addPerson, Cond.code yX5_addPerson cX5_addPerson 5 (some .int), Cond.methodLink RX5 56 yX5_sizeOf, Cond.instanceMethod yX5_sizeOf, Cond.selects RX5 yX5_sizeOf yX5_sizeOf, Cond.code yX5_sizeOf cX5_sizeOf 2 (some .int), Cond.methodLink RX5 69 yX5_lay, Cond.instanceMethod yX5_lay, Cond.selects RX5 yX5_lay yX5_lay, Cond.code yX5_lay cX5_lay 4 none]
def wsX7_child : List Cond := .code yX7_child cX7_child 2 (some .int) :: ((wsX7_child_r1 ++ (wsX7_child_r2 ++ wsX7_child_r3)) ++ wsX70 ++ wsX50 ++ wsX40 ++ (vx_atS RX7 67 "java/lang/IndexOutOfBoundsException" ["java/lang/RuntimeException", "java/lang/Exception"]).filter goodWord)
def wsX7_allCrossings_r1 : List Cond := [Cond.fieldLink RX7 41 "ChronicleRows" "lines" "LChronicleRows$RowLines;", Cond.fieldLink RX7 10 "ChronicleRows" "now" "LChronicleRows$State;", Cond.methodLink RX7 236 yX2_collect, Cond.instanceMethod yX2_collect, Cond.selects RX2 yX2_collect yX2_collect, Cond.initialized RX2, Cond.code yX2_collect cX2_collect 5 none, Cond.fieldLink RX2 18 "ChronicleRows$RowLines" "size" "I", Cond.fieldLink RX2 9 "ChronicleRows$RowLines" "middles" "[I", Cond.fieldLink RX2 15 "ChronicleRows$RowLines" "places" "[I", Cond.methodLink RX2 22 yX5_sizeOf, Cond.instanceMethod yX5_sizeOf, Cond.selects RX5 yX5_sizeOf yX5_sizeOf, Cond.initialized RX5, Cond.code yX5_sizeOf cX5_sizeOf 2 (some .int), Cond.fieldLink RX5 30 "ChronicleRows$State" "sizes" "[I", Cond.methodLink RX2 28 yX5_personAt, Cond.instanceMethod yX5_personAt, Cond.selects RX5 yX5_personAt yX5_personAt, Cond.code yX5_personAt cX5_personAt 3 (some .int), Cond.fieldLink RX5 27 "ChronicleRows$State" "orders" "[I", Cond.methodLink RX5 56 yX5_sizeOf, Cond.methodLink RX2 32 yX5_middleAbove, Cond.instanceMethod yX5_middleAbove]
def wsX7_allCrossings_r2 : List Cond := [Cond.selects RX5 yX5_middleAbove yX5_middleAbove, Cond.code yX5_middleAbove cX5_middleAbove 2 (some .int), Cond.methodLink RX5 63 yX5_parentsOf, Cond.instanceMethod yX5_parentsOf, Cond.selects RX5 yX5_parentsOf yX5_parentsOf, Cond.code yX5_parentsOf cX5_parentsOf 2 (some .int), Cond.fieldLink RX5 18 "ChronicleRows$State" "parents" "[I", Cond.methodLink RX5 49 yX5_isPerson, Cond.instanceMethod yX5_isPerson, Cond.selects RX5 yX5_isPerson yX5_isPerson, Cond.code yX5_isPerson cX5_isPerson 2 (some .boolean), Cond.fieldLink RX5 39 "ChronicleRows$State" "people" "I", Cond.methodLink RX5 66 yX5_middleOf, Cond.instanceMethod yX5_middleOf, Cond.selects RX5 yX5_middleOf yX5_middleOf, Cond.code yX5_middleOf cX5_middleOf 2 (some .int), Cond.fieldLink RX5 21 "ChronicleRows$State" "lessers" "[I", Cond.fieldLink RX5 24 "ChronicleRows$State" "greaters" "[I", Cond.methodLink RX5 53 yX5_isCouple, Cond.instanceMethod yX5_isCouple, Cond.selects RX5 yX5_isCouple yX5_isCouple, Cond.code yX5_isCouple cX5_isCouple 2 (some .boolean), Cond.fieldLink RX5 43 "ChronicleRows$State" "couples" "I", Cond.methodLink RX5 60 yX5_placeOf]
def wsX7_allCrossings_r3 : List Cond := [Cond.instanceMethod yX5_placeOf, Cond.selects RX5 yX5_placeOf yX5_placeOf, Cond.code yX5_placeOf cX5_placeOf 2 (some .int), Cond.fieldLink RX5 15 "ChronicleRows$State" "places" "[I", Cond.methodLink RX7 239 yX2_crossedPairs, Cond.instanceMethod yX2_crossedPairs, Cond.selects RX2 yX2_crossedPairs yX2_crossedPairs, Cond.code yX2_crossedPairs cX2_crossedPairs 4 (some .int)]
def wsX7_allCrossings : List Cond := .code yX7_allCrossings cX7_allCrossings 3 (some .int) :: ((wsX7_allCrossings_r1 ++ (wsX7_allCrossings_r2 ++ wsX7_allCrossings_r3)) ++ wsX70 ++ wsX20 ++ wsX50)
def wsX7_swap_r1 : List Cond := [Cond.classLink RX7 63 "java/lang/IndexOutOfBoundsException", Cond.initialized "java/lang/IndexOutOfBoundsException", Cond.classLink RX7 83 "java/lang/IllegalArgumentException", Cond.initialized "java/lang/IllegalArgumentException", Cond.fieldLink RX7 10 "ChronicleRows" "now" "LChronicleRows$State;", Cond.fieldLink RX7 27 "ChronicleRows" "saved" "LChronicleRows$SavedStates;", Cond.methodLink RX7 59 yX7_isRow, Cond.static yX7_isRow, Cond.initialized RX7, Cond.code yX7_isRow cX7_isRow 1 (some .boolean), Cond.methodLink RX7 100 yX5_sizeOf, Cond.instanceMethod yX5_sizeOf, Cond.selects RX5 yX5_sizeOf yX5_sizeOf, Cond.initialized RX5, Cond.code yX5_sizeOf cX5_sizeOf 2 (some .int), Cond.fieldLink RX5 30 "ChronicleRows$State" "sizes" "[I", Cond.methodLink RX7 70 yX4_push, Cond.instanceMethod yX4_push, Cond.selects RX4 yX4_push yX4_push, Cond.initialized RX4, Cond.code yX4_push cX4_push 2 none, Cond.fieldLink RX4 11 "ChronicleRows$SavedStates" "ring" "[LChronicleRows$State;", Cond.fieldLink RX4 22 "ChronicleRows$SavedStates" "oldest" "I", Cond.fieldLink RX4 18 "ChronicleRows$SavedStates" "size" "I"]
def wsX7_swap_r2 : List Cond := [Cond.methodLink RX4 25 yX5_copyFrom, Cond.instanceMethod yX5_copyFrom, Cond.selects RX5 yX5_copyFrom yX5_copyFrom, Cond.code yX5_copyFrom cX5_copyFrom 2 none, Cond.fieldLink RX5 9 "ChronicleRows$State" "rows" "[I", Cond.methodLink RX5 33 arraycopyName, Cond.native arraycopyName, Cond.static arraycopyName, Cond.initialized "java/lang/System", Cond.fieldLink RX5 15 "ChronicleRows$State" "places" "[I", Cond.fieldLink RX5 18 "ChronicleRows$State" "parents" "[I", Cond.fieldLink RX5 21 "ChronicleRows$State" "lessers" "[I", Cond.fieldLink RX5 24 "ChronicleRows$State" "greaters" "[I", Cond.fieldLink RX5 27 "ChronicleRows$State" "orders" "[I", Cond.fieldLink RX5 39 "ChronicleRows$State" "people" "I", Cond.fieldLink RX5 43 "ChronicleRows$State" "couples" "I", Cond.fieldLink RX5 46 "ChronicleRows$State" "refused" "I", Cond.methodLink RX7 105 yX7_allCrossings, Cond.instanceMethod yX7_allCrossings, Cond.selects RX7 yX7_allCrossings yX7_allCrossings, Cond.code yX7_allCrossings cX7_allCrossings 3 (some .int), Cond.fieldLink RX7 41 "ChronicleRows" "lines" "LChronicleRows$RowLines;", Cond.methodLink RX7 236 yX2_collect, Cond.instanceMethod yX2_collect]
def wsX7_swap_r3 : List Cond := [Cond.selects RX2 yX2_collect yX2_collect, Cond.initialized RX2, Cond.code yX2_collect cX2_collect 5 none, Cond.fieldLink RX2 18 "ChronicleRows$RowLines" "size" "I", Cond.fieldLink RX2 9 "ChronicleRows$RowLines" "middles" "[I", Cond.fieldLink RX2 15 "ChronicleRows$RowLines" "places" "[I", Cond.methodLink RX2 22 yX5_sizeOf, Cond.methodLink RX2 28 yX5_personAt, Cond.instanceMethod yX5_personAt, Cond.selects RX5 yX5_personAt yX5_personAt, Cond.code yX5_personAt cX5_personAt 3 (some .int), Cond.methodLink RX5 56 yX5_sizeOf, Cond.methodLink RX2 32 yX5_middleAbove, Cond.instanceMethod yX5_middleAbove, Cond.selects RX5 yX5_middleAbove yX5_middleAbove, Cond.code yX5_middleAbove cX5_middleAbove 2 (some .int), Cond.methodLink RX5 63 yX5_parentsOf, Cond.instanceMethod yX5_parentsOf, Cond.selects RX5 yX5_parentsOf yX5_parentsOf, Cond.code yX5_parentsOf cX5_parentsOf 2 (some .int), Cond.methodLink RX5 49 yX5_isPerson, Cond.instanceMethod yX5_isPerson, Cond.selects RX5 yX5_isPerson yX5_isPerson, Cond.code yX5_isPerson cX5_isPerson 2 (some .boolean)]
def wsX7_swap_r4 : List Cond := [Cond.methodLink RX5 66 yX5_middleOf, Cond.instanceMethod yX5_middleOf, Cond.selects RX5 yX5_middleOf yX5_middleOf, Cond.code yX5_middleOf cX5_middleOf 2 (some .int), Cond.methodLink RX5 53 yX5_isCouple, Cond.instanceMethod yX5_isCouple, Cond.selects RX5 yX5_isCouple yX5_isCouple, Cond.code yX5_isCouple cX5_isCouple 2 (some .boolean), Cond.methodLink RX5 60 yX5_placeOf, Cond.instanceMethod yX5_placeOf, Cond.selects RX5 yX5_placeOf yX5_placeOf, Cond.code yX5_placeOf cX5_placeOf 2 (some .int), Cond.methodLink RX7 239 yX2_crossedPairs, Cond.instanceMethod yX2_crossedPairs, Cond.selects RX2 yX2_crossedPairs yX2_crossedPairs, Cond.code yX2_crossedPairs cX2_crossedPairs 4 (some .int), Cond.methodLink RX7 109 yX5_exchange, Cond.instanceMethod yX5_exchange, Cond.selects RX5 yX5_exchange yX5_exchange, Cond.code yX5_exchange cX5_exchange 5 none, Cond.methodLink RX5 104 yX5_personAt, Cond.methodLink RX5 69 yX5_lay, Cond.instanceMethod yX5_lay, Cond.selects RX5 yX5_lay yX5_lay]
def wsX7_swap_r5 : List Cond := [Cond.code yX5_lay cX5_lay 4 none]
def wsX7_swap : List Cond := .code yX7_swap cX7_swap 4 (some .int) :: ((wsX7_swap_r1 ++ (wsX7_swap_r2 ++ (wsX7_swap_r3 ++ (wsX7_swap_r4 ++ wsX7_swap_r5)))) ++ wsX70 ++ wsX50 ++ wsX40 ++ wsX20 ++ (vx_atS RX7 67 "java/lang/IndexOutOfBoundsException" ["java/lang/RuntimeException", "java/lang/Exception"]).filter goodWord ++ (vx_atS RX7 87 "java/lang/IllegalArgumentException" ["java/lang/RuntimeException", "java/lang/Exception"]).filter goodWord)
def wsX7_byParents_r1 : List Cond := [Cond.classLink RX7 63 "java/lang/IndexOutOfBoundsException", Cond.initialized "java/lang/IndexOutOfBoundsException", Cond.fieldLink RX7 27 "ChronicleRows" "saved" "LChronicleRows$SavedStates;", Cond.fieldLink RX7 10 "ChronicleRows" "now" "LChronicleRows$State;", Cond.fieldLink RX7 48 "ChronicleRows" "parentOrder" "LChronicleRows$ParentOrder;", Cond.methodLink RX7 59 yX7_isRow, Cond.static yX7_isRow, Cond.initialized RX7, Cond.code yX7_isRow cX7_isRow 1 (some .boolean), Cond.methodLink RX7 70 yX4_push, Cond.instanceMethod yX4_push, Cond.selects RX4 yX4_push yX4_push, Cond.initialized RX4, Cond.code yX4_push cX4_push 2 none, Cond.fieldLink RX4 11 "ChronicleRows$SavedStates" "ring" "[LChronicleRows$State;", Cond.fieldLink RX4 22 "ChronicleRows$SavedStates" "oldest" "I", Cond.fieldLink RX4 18 "ChronicleRows$SavedStates" "size" "I", Cond.methodLink RX4 25 yX5_copyFrom, Cond.instanceMethod yX5_copyFrom, Cond.selects RX5 yX5_copyFrom yX5_copyFrom, Cond.initialized RX5, Cond.code yX5_copyFrom cX5_copyFrom 2 none, Cond.fieldLink RX5 9 "ChronicleRows$State" "rows" "[I", Cond.methodLink RX5 33 arraycopyName]
def wsX7_byParents_r2 : List Cond := [Cond.native arraycopyName, Cond.static arraycopyName, Cond.initialized "java/lang/System", Cond.fieldLink RX5 15 "ChronicleRows$State" "places" "[I", Cond.fieldLink RX5 18 "ChronicleRows$State" "parents" "[I", Cond.fieldLink RX5 21 "ChronicleRows$State" "lessers" "[I", Cond.fieldLink RX5 24 "ChronicleRows$State" "greaters" "[I", Cond.fieldLink RX5 27 "ChronicleRows$State" "orders" "[I", Cond.fieldLink RX5 30 "ChronicleRows$State" "sizes" "[I", Cond.fieldLink RX5 39 "ChronicleRows$State" "people" "I", Cond.fieldLink RX5 43 "ChronicleRows$State" "couples" "I", Cond.fieldLink RX5 46 "ChronicleRows$State" "refused" "I", Cond.methodLink RX7 113 yX1_lay, Cond.instanceMethod yX1_lay, Cond.selects RX1 yX1_lay yX1_lay, Cond.initialized RX1, Cond.code yX1_lay cX1_lay 7 (some .int), Cond.methodLink RX1 24 Lib.Math.min.name, Cond.static Lib.Math.min.name, Cond.initialized "java/lang/Math", Cond.code Lib.Math.min.name Lib.Math.min.code 2 (some .int), Cond.fieldLink RX1 9 "ChronicleRows$ParentOrder" "keys" "[I", Cond.fieldLink RX1 15 "ChronicleRows$ParentOrder" "order" "[I", Cond.methodLink RX1 18 yX5_sizeOf]
def wsX7_byParents_r3 : List Cond := [Cond.instanceMethod yX5_sizeOf, Cond.selects RX5 yX5_sizeOf yX5_sizeOf, Cond.code yX5_sizeOf cX5_sizeOf 2 (some .int), Cond.methodLink RX1 30 yX5_personAt, Cond.instanceMethod yX5_personAt, Cond.selects RX5 yX5_personAt yX5_personAt, Cond.code yX5_personAt cX5_personAt 3 (some .int), Cond.methodLink RX5 56 yX5_sizeOf, Cond.methodLink RX1 33 yX5_middleAbove, Cond.instanceMethod yX5_middleAbove, Cond.selects RX5 yX5_middleAbove yX5_middleAbove, Cond.code yX5_middleAbove cX5_middleAbove 2 (some .int), Cond.methodLink RX5 63 yX5_parentsOf, Cond.instanceMethod yX5_parentsOf, Cond.selects RX5 yX5_parentsOf yX5_parentsOf, Cond.code yX5_parentsOf cX5_parentsOf 2 (some .int), Cond.methodLink RX5 49 yX5_isPerson, Cond.instanceMethod yX5_isPerson, Cond.selects RX5 yX5_isPerson yX5_isPerson, Cond.code yX5_isPerson cX5_isPerson 2 (some .boolean), Cond.methodLink RX5 66 yX5_middleOf, Cond.instanceMethod yX5_middleOf, Cond.selects RX5 yX5_middleOf yX5_middleOf, Cond.code yX5_middleOf cX5_middleOf 2 (some .int)]
def wsX7_byParents_r4 : List Cond := [Cond.methodLink RX5 53 yX5_isCouple, Cond.instanceMethod yX5_isCouple, Cond.selects RX5 yX5_isCouple yX5_isCouple, Cond.code yX5_isCouple cX5_isCouple 2 (some .boolean), Cond.methodLink RX5 60 yX5_placeOf, Cond.instanceMethod yX5_placeOf, Cond.selects RX5 yX5_placeOf yX5_placeOf, Cond.code yX5_placeOf cX5_placeOf 2 (some .int), Cond.methodLink RX1 36 yX1_placeByKey, Cond.instanceMethod yX1_placeByKey, Cond.selects RX1 yX1_placeByKey yX1_placeByKey, Cond.code yX1_placeByKey cX1_placeByKey 5 (some .int), Cond.methodLink RX1 39 yX5_lay, Cond.instanceMethod yX5_lay, Cond.selects RX5 yX5_lay yX5_lay, Cond.code yX5_lay cX5_lay 4 none]
def wsX7_byParents : List Cond := .code yX7_byParents cX7_byParents 2 (some .int) :: ((wsX7_byParents_r1 ++ (wsX7_byParents_r2 ++ (wsX7_byParents_r3 ++ wsX7_byParents_r4))) ++ wsX70 ++ wsX40 ++ wsX50 ++ wsX10 ++ (vx_atS RX7 67 "java/lang/IndexOutOfBoundsException" ["java/lang/RuntimeException", "java/lang/Exception"]).filter goodWord)
def wsX7_untangle_r1 : List Cond := [Cond.classLink RX7 63 "java/lang/IndexOutOfBoundsException", Cond.initialized "java/lang/IndexOutOfBoundsException", Cond.fieldLink RX7 27 "ChronicleRows" "saved" "LChronicleRows$SavedStates;", Cond.fieldLink RX7 10 "ChronicleRows" "now" "LChronicleRows$State;", Cond.fieldLink RX7 55 "ChronicleRows" "search" "LChronicleRows$RowSearch;", Cond.methodLink RX7 59 yX7_isRow, Cond.static yX7_isRow, Cond.initialized RX7, Cond.code yX7_isRow cX7_isRow 1 (some .boolean), Cond.methodLink RX7 70 yX4_push, Cond.instanceMethod yX4_push, Cond.selects RX4 yX4_push yX4_push, Cond.initialized RX4, Cond.code yX4_push cX4_push 2 none, Cond.fieldLink RX4 11 "ChronicleRows$SavedStates" "ring" "[LChronicleRows$State;", Cond.fieldLink RX4 22 "ChronicleRows$SavedStates" "oldest" "I", Cond.fieldLink RX4 18 "ChronicleRows$SavedStates" "size" "I", Cond.methodLink RX4 25 yX5_copyFrom, Cond.instanceMethod yX5_copyFrom, Cond.selects RX5 yX5_copyFrom yX5_copyFrom, Cond.initialized RX5, Cond.code yX5_copyFrom cX5_copyFrom 2 none, Cond.fieldLink RX5 9 "ChronicleRows$State" "rows" "[I", Cond.methodLink RX5 33 arraycopyName]
def wsX7_untangle_r2 : List Cond := [Cond.native arraycopyName, Cond.static arraycopyName, Cond.initialized "java/lang/System", Cond.fieldLink RX5 15 "ChronicleRows$State" "places" "[I", Cond.fieldLink RX5 18 "ChronicleRows$State" "parents" "[I", Cond.fieldLink RX5 21 "ChronicleRows$State" "lessers" "[I", Cond.fieldLink RX5 24 "ChronicleRows$State" "greaters" "[I", Cond.fieldLink RX5 27 "ChronicleRows$State" "orders" "[I", Cond.fieldLink RX5 30 "ChronicleRows$State" "sizes" "[I", Cond.fieldLink RX5 39 "ChronicleRows$State" "people" "I", Cond.fieldLink RX5 43 "ChronicleRows$State" "couples" "I", Cond.fieldLink RX5 46 "ChronicleRows$State" "refused" "I", Cond.methodLink RX7 117 yX3_prepare, Cond.instanceMethod yX3_prepare, Cond.selects RX3 yX3_prepare yX3_prepare, Cond.initialized RX3, Cond.code yX3_prepare cX3_prepare 3 none, Cond.methodLink RX3 44 yX3_listPeople, Cond.instanceMethod yX3_listPeople, Cond.selects RX3 yX3_listPeople yX3_listPeople, Cond.code yX3_listPeople cX3_listPeople 4 none, Cond.fieldLink RX3 65 "ChronicleRows$RowSearch" "size" "I", Cond.fieldLink RX3 9 "ChronicleRows$RowSearch" "order" "[I", Cond.methodLink RX3 69 yX5_people]
def wsX7_untangle_r3 : List Cond := [Cond.instanceMethod yX5_people, Cond.selects RX5 yX5_people yX5_people, Cond.code yX5_people cX5_people 1 (some .int), Cond.methodLink RX3 73 yX5_rowOf, Cond.instanceMethod yX5_rowOf, Cond.selects RX5 yX5_rowOf yX5_rowOf, Cond.code yX5_rowOf cX5_rowOf 2 (some .int), Cond.methodLink RX5 49 yX5_isPerson, Cond.instanceMethod yX5_isPerson, Cond.selects RX5 yX5_isPerson yX5_isPerson, Cond.code yX5_isPerson cX5_isPerson 2 (some .boolean), Cond.methodLink RX3 48 yX3_noteLinesTo, Cond.instanceMethod yX3_noteLinesTo, Cond.selects RX3 yX3_noteLinesTo yX3_noteLinesTo, Cond.code yX3_noteLinesTo cX3_noteLinesTo 6 none, Cond.fieldLink RX3 21 "ChronicleRows$RowSearch" "crossedFromLeft" "[I", Cond.methodLink RX3 76 yX5_middleAbove, Cond.instanceMethod yX5_middleAbove, Cond.selects RX5 yX5_middleAbove yX5_middleAbove, Cond.code yX5_middleAbove cX5_middleAbove 2 (some .int), Cond.methodLink RX5 63 yX5_parentsOf, Cond.instanceMethod yX5_parentsOf, Cond.selects RX5 yX5_parentsOf yX5_parentsOf, Cond.code yX5_parentsOf cX5_parentsOf 2 (some .int)]
def wsX7_untangle_r4 : List Cond := [Cond.methodLink RX5 66 yX5_middleOf, Cond.instanceMethod yX5_middleOf, Cond.selects RX5 yX5_middleOf yX5_middleOf, Cond.code yX5_middleOf cX5_middleOf 2 (some .int), Cond.methodLink RX5 53 yX5_isCouple, Cond.instanceMethod yX5_isCouple, Cond.selects RX5 yX5_isCouple yX5_isCouple, Cond.code yX5_isCouple cX5_isCouple 2 (some .boolean), Cond.methodLink RX5 60 yX5_placeOf, Cond.instanceMethod yX5_placeOf, Cond.selects RX5 yX5_placeOf yX5_placeOf, Cond.code yX5_placeOf cX5_placeOf 2 (some .int), Cond.methodLink RX3 52 yX3_listCouples, Cond.instanceMethod yX3_listCouples, Cond.selects RX3 yX3_listCouples yX3_listCouples, Cond.code yX3_listCouples cX3_listCouples 5 none, Cond.fieldLink RX3 79 "ChronicleRows$RowSearch" "coupleCount" "I", Cond.fieldLink RX3 36 "ChronicleRows$RowSearch" "parentIndexes" "[I", Cond.methodLink RX3 55 yX5_sizeOf, Cond.instanceMethod yX5_sizeOf, Cond.selects RX5 yX5_sizeOf yX5_sizeOf, Cond.code yX5_sizeOf cX5_sizeOf 2 (some .int), Cond.methodLink RX3 82 yX5_personAt, Cond.instanceMethod yX5_personAt]
def wsX7_untangle_r5 : List Cond := [Cond.selects RX5 yX5_personAt yX5_personAt, Cond.code yX5_personAt cX5_personAt 3 (some .int), Cond.methodLink RX5 56 yX5_sizeOf, Cond.methodLink RX3 86 yX5_parentsOf, Cond.methodLink RX3 89 yX3_indexOfCouple, Cond.instanceMethod yX3_indexOfCouple, Cond.selects RX3 yX3_indexOfCouple yX3_indexOfCouple, Cond.code yX3_indexOfCouple cX3_indexOfCouple 4 (some .int), Cond.fieldLink RX3 24 "ChronicleRows$RowSearch" "couples" "[I", Cond.fieldLink RX3 27 "ChronicleRows$RowSearch" "lessers" "[I", Cond.fieldLink RX3 30 "ChronicleRows$RowSearch" "greaters" "[I", Cond.methodLink RX3 93 yX5_lesserOf, Cond.instanceMethod yX5_lesserOf, Cond.selects RX5 yX5_lesserOf yX5_lesserOf, Cond.code yX5_lesserOf cX5_lesserOf 2 (some .int), Cond.methodLink RX3 96 yX5_greaterOf, Cond.instanceMethod yX5_greaterOf, Cond.selects RX5 yX5_greaterOf yX5_greaterOf, Cond.code yX5_greaterOf cX5_greaterOf 2 (some .int), Cond.methodLink RX3 61 yX3_noteLinesFrom, Cond.instanceMethod yX3_noteLinesFrom, Cond.selects RX3 yX3_noteLinesFrom yX3_noteLinesFrom, Cond.code yX3_noteLinesFrom cX3_noteLinesFrom 4 none, Cond.fieldLink RX3 41 "ChronicleRows$RowSearch" "crossedIfLess" "[[I"]
def wsX7_untangle_r6 : List Cond := [Cond.methodLink RX7 121 yX3_leastByAllOrders, Cond.instanceMethod yX3_leastByAllOrders, Cond.selects RX3 yX3_leastByAllOrders yX3_leastByAllOrders, Cond.code yX3_leastByAllOrders cX3_leastByAllOrders 4 (some .int), Cond.fieldLink RX3 99 "ChronicleRows$RowSearch" "fewest" "I", Cond.fieldLink RX3 15 "ChronicleRows$RowSearch" "bestOrder" "[I", Cond.methodLink RX3 105 arraycopyName, Cond.methodLink RX3 102 yX3_crossingsOfFirst, Cond.instanceMethod yX3_crossingsOfFirst, Cond.selects RX3 yX3_crossingsOfFirst yX3_crossingsOfFirst, Cond.code yX3_crossingsOfFirst cX3_crossingsOfFirst 6 (some .int), Cond.fieldLink RX3 18 "ChronicleRows$RowSearch" "places" "[I", Cond.methodLink RX3 127 yJ6_bitCount_0f7a4, Cond.static yJ6_bitCount_0f7a4, Cond.initialized RJ6, Cond.code yJ6_bitCount_0f7a4 cJ6_bitCount_0f7a4 1 (some .int), Cond.constant RJ6 265 (1431655765), Cond.constant RJ6 266 (858993459), Cond.constant RJ6 267 (252645135), Cond.methodLink RX3 132 yX3_crossingsFrom, Cond.instanceMethod yX3_crossingsFrom, Cond.selects RX3 yX3_crossingsFrom yX3_crossingsFrom, Cond.code yX3_crossingsFrom cX3_crossingsFrom 6 (some .int), Cond.fieldLink RX3 33 "ChronicleRows$RowSearch" "middles" "[I"]
def wsX7_untangle_r7 : List Cond := [Cond.methodLink RX3 111 yX3_goToNextOrder, Cond.instanceMethod yX3_goToNextOrder, Cond.selects RX3 yX3_goToNextOrder yX3_goToNextOrder, Cond.code yX3_goToNextOrder cX3_goToNextOrder 5 (some .boolean), Cond.methodLink RX3 119 yX3_exchange, Cond.instanceMethod yX3_exchange, Cond.selects RX3 yX3_exchange yX3_exchange, Cond.code yX3_exchange cX3_exchange 4 none, Cond.methodLink RX7 124 yX3_layBest, Cond.instanceMethod yX3_layBest, Cond.selects RX3 yX3_layBest yX3_layBest, Cond.code yX3_layBest cX3_layBest 4 none, Cond.methodLink RX3 115 yX5_lay, Cond.instanceMethod yX5_lay, Cond.selects RX5 yX5_lay yX5_lay, Cond.code yX5_lay cX5_lay 4 none]
def wsX7_untangle : List Cond := .code yX7_untangle cX7_untangle 3 (some .int) :: ((wsX7_untangle_r1 ++ (wsX7_untangle_r2 ++ (wsX7_untangle_r3 ++ (wsX7_untangle_r4 ++ (wsX7_untangle_r5 ++ (wsX7_untangle_r6 ++ wsX7_untangle_r7)))))) ++ wsX70 ++ wsX40 ++ wsX50 ++ wsX30 ++ (vx_atS RX7 67 "java/lang/IndexOutOfBoundsException" ["java/lang/RuntimeException", "java/lang/Exception"]).filter goodWord)
def wsX7_personOf_r1 : List Cond := [Cond.classLink RX7 63 "java/lang/IndexOutOfBoundsException", Cond.initialized "java/lang/IndexOutOfBoundsException", Cond.classLink RX7 83 "java/lang/IllegalArgumentException", Cond.initialized "java/lang/IllegalArgumentException", Cond.fieldLink RX7 10 "ChronicleRows" "now" "LChronicleRows$State;", Cond.methodLink RX7 78 yX5_isPerson, Cond.instanceMethod yX5_isPerson, Cond.selects RX5 yX5_isPerson yX5_isPerson, Cond.initialized RX5, Cond.code yX5_isPerson cX5_isPerson 2 (some .boolean), Cond.fieldLink RX5 39 "ChronicleRows$State" "people" "I", Cond.methodLink RX7 182 yX5_rowOf, Cond.instanceMethod yX5_rowOf, Cond.selects RX5 yX5_rowOf yX5_rowOf, Cond.code yX5_rowOf cX5_rowOf 2 (some .int), Cond.fieldLink RX5 9 "ChronicleRows$State" "rows" "[I", Cond.methodLink RX5 49 yX5_isPerson, Cond.methodLink RX7 185 yX5_placeOf, Cond.instanceMethod yX5_placeOf, Cond.selects RX5 yX5_placeOf yX5_placeOf, Cond.code yX5_placeOf cX5_placeOf 2 (some .int), Cond.fieldLink RX5 15 "ChronicleRows$State" "places" "[I", Cond.methodLink RX7 188 yX5_parentsOf, Cond.instanceMethod yX5_parentsOf]
def wsX7_personOf_r2 : List Cond := [Cond.selects RX5 yX5_parentsOf yX5_parentsOf, Cond.code yX5_parentsOf cX5_parentsOf 2 (some .int), Cond.fieldLink RX5 18 "ChronicleRows$State" "parents" "[I", Cond.methodLink RX7 191 yX5_couplesWith, Cond.instanceMethod yX5_couplesWith, Cond.selects RX5 yX5_couplesWith yX5_couplesWith, Cond.code yX5_couplesWith cX5_couplesWith 4 (some .int), Cond.fieldLink RX5 43 "ChronicleRows$State" "couples" "I", Cond.fieldLink RX5 21 "ChronicleRows$State" "lessers" "[I", Cond.fieldLink RX5 24 "ChronicleRows$State" "greaters" "[I", Cond.methodLink RX7 194 yX5_childrenWith, Cond.instanceMethod yX5_childrenWith, Cond.selects RX5 yX5_childrenWith yX5_childrenWith, Cond.code yX5_childrenWith cX5_childrenWith 4 (some .int), Cond.methodLink RX5 107 yX5_childrenOf, Cond.instanceMethod yX5_childrenOf, Cond.selects RX5 yX5_childrenOf yX5_childrenOf, Cond.code yX5_childrenOf cX5_childrenOf 4 (some .int), Cond.methodLink RX7 197 yX0_descendants, Cond.static yX0_descendants, Cond.initialized RX0, Cond.code yX0_descendants cX0_descendants 4 (some .int), Cond.methodLink RX0 27 yX5_people, Cond.instanceMethod yX5_people]
def wsX7_personOf_r3 : List Cond := [Cond.selects RX5 yX5_people yX5_people, Cond.code yX5_people cX5_people 1 (some .int), Cond.methodLink RX0 21 yX0_parentBits, Cond.static yX0_parentBits, Cond.code yX0_parentBits cX0_parentBits 3 (some .int), Cond.methodLink RX0 9 yX5_parentsOf, Cond.methodLink RX0 15 yX5_lesserOf, Cond.instanceMethod yX5_lesserOf, Cond.selects RX5 yX5_lesserOf yX5_lesserOf, Cond.code yX5_lesserOf cX5_lesserOf 2 (some .int), Cond.methodLink RX5 53 yX5_isCouple, Cond.instanceMethod yX5_isCouple, Cond.selects RX5 yX5_isCouple yX5_isCouple, Cond.code yX5_isCouple cX5_isCouple 2 (some .boolean), Cond.methodLink RX0 18 yX5_greaterOf, Cond.instanceMethod yX5_greaterOf, Cond.selects RX5 yX5_greaterOf yX5_greaterOf, Cond.code yX5_greaterOf cX5_greaterOf 2 (some .int), Cond.methodLink RX7 202 yJ6_bitCount_0f7a4, Cond.static yJ6_bitCount_0f7a4, Cond.initialized RJ6, Cond.code yJ6_bitCount_0f7a4 cJ6_bitCount_0f7a4 1 (some .int), Cond.constant RJ6 265 (1431655765), Cond.constant RJ6 266 (858993459)]
def wsX7_personOf_r4 : List Cond := [Cond.constant RJ6 267 (252645135), Cond.methodLink RX7 207 yX0_ancestors, Cond.static yX0_ancestors, Cond.code yX0_ancestors cX0_ancestors 4 (some .int)]
def wsX7_personOf : List Cond := .code yX7_personOf cX7_personOf 3 (some .int) :: ((wsX7_personOf_r1 ++ (wsX7_personOf_r2 ++ (wsX7_personOf_r3 ++ wsX7_personOf_r4))) ++ wsX70 ++ wsX50 ++ (vx_atS RX7 67 "java/lang/IndexOutOfBoundsException" ["java/lang/RuntimeException", "java/lang/Exception"]).filter goodWord ++ (vx_atS RX7 87 "java/lang/IllegalArgumentException" ["java/lang/RuntimeException", "java/lang/Exception"]).filter goodWord)
def wsX7_coupleOf_r1 : List Cond := [Cond.classLink RX7 63 "java/lang/IndexOutOfBoundsException", Cond.initialized "java/lang/IndexOutOfBoundsException", Cond.classLink RX7 83 "java/lang/IllegalArgumentException", Cond.initialized "java/lang/IllegalArgumentException", Cond.fieldLink RX7 10 "ChronicleRows" "now" "LChronicleRows$State;", Cond.methodLink RX7 91 yX5_isCouple, Cond.instanceMethod yX5_isCouple, Cond.selects RX5 yX5_isCouple yX5_isCouple, Cond.initialized RX5, Cond.code yX5_isCouple cX5_isCouple 2 (some .boolean), Cond.fieldLink RX5 43 "ChronicleRows$State" "couples" "I", Cond.methodLink RX7 212 yX5_lesserOf, Cond.instanceMethod yX5_lesserOf, Cond.selects RX5 yX5_lesserOf yX5_lesserOf, Cond.code yX5_lesserOf cX5_lesserOf 2 (some .int), Cond.fieldLink RX5 21 "ChronicleRows$State" "lessers" "[I", Cond.methodLink RX5 53 yX5_isCouple, Cond.methodLink RX7 215 yX5_greaterOf, Cond.instanceMethod yX5_greaterOf, Cond.selects RX5 yX5_greaterOf yX5_greaterOf, Cond.code yX5_greaterOf cX5_greaterOf 2 (some .int), Cond.fieldLink RX5 24 "ChronicleRows$State" "greaters" "[I", Cond.methodLink RX7 182 yX5_rowOf, Cond.instanceMethod yX5_rowOf]
def wsX7_coupleOf_r2 : List Cond := [Cond.selects RX5 yX5_rowOf yX5_rowOf, Cond.code yX5_rowOf cX5_rowOf 2 (some .int), Cond.fieldLink RX5 9 "ChronicleRows$State" "rows" "[I", Cond.methodLink RX5 49 yX5_isPerson, Cond.instanceMethod yX5_isPerson, Cond.selects RX5 yX5_isPerson yX5_isPerson, Cond.code yX5_isPerson cX5_isPerson 2 (some .boolean), Cond.fieldLink RX5 39 "ChronicleRows$State" "people" "I", Cond.methodLink RX7 218 yX5_middleOf, Cond.instanceMethod yX5_middleOf, Cond.selects RX5 yX5_middleOf yX5_middleOf, Cond.code yX5_middleOf cX5_middleOf 2 (some .int), Cond.methodLink RX5 60 yX5_placeOf, Cond.instanceMethod yX5_placeOf, Cond.selects RX5 yX5_placeOf yX5_placeOf, Cond.code yX5_placeOf cX5_placeOf 2 (some .int), Cond.fieldLink RX5 15 "ChronicleRows$State" "places" "[I", Cond.methodLink RX7 221 yX5_childrenOf, Cond.instanceMethod yX5_childrenOf, Cond.selects RX5 yX5_childrenOf yX5_childrenOf, Cond.code yX5_childrenOf cX5_childrenOf 4 (some .int), Cond.fieldLink RX5 18 "ChronicleRows$State" "parents" "[I", Cond.methodLink RX7 224 yX0_commonAncestors, Cond.static yX0_commonAncestors]
def wsX7_coupleOf_r3 : List Cond := [Cond.initialized RX0, Cond.code yX0_commonAncestors cX0_commonAncestors 2 (some .int), Cond.methodLink RX0 15 yX5_lesserOf, Cond.methodLink RX0 31 yX0_ancestors, Cond.static yX0_ancestors, Cond.code yX0_ancestors cX0_ancestors 4 (some .int), Cond.methodLink RX0 21 yX0_parentBits, Cond.static yX0_parentBits, Cond.code yX0_parentBits cX0_parentBits 3 (some .int), Cond.methodLink RX0 9 yX5_parentsOf, Cond.instanceMethod yX5_parentsOf, Cond.selects RX5 yX5_parentsOf yX5_parentsOf, Cond.code yX5_parentsOf cX5_parentsOf 2 (some .int), Cond.methodLink RX0 18 yX5_greaterOf, Cond.methodLink RX7 202 yJ6_bitCount_0f7a4, Cond.static yJ6_bitCount_0f7a4, Cond.initialized RJ6, Cond.code yJ6_bitCount_0f7a4 cJ6_bitCount_0f7a4 1 (some .int), Cond.constant RJ6 265 (1431655765), Cond.constant RJ6 266 (858993459), Cond.constant RJ6 267 (252645135)]
def wsX7_coupleOf : List Cond := .code yX7_coupleOf cX7_coupleOf 3 (some .int) :: ((wsX7_coupleOf_r1 ++ (wsX7_coupleOf_r2 ++ wsX7_coupleOf_r3)) ++ wsX70 ++ wsX50 ++ (vx_atS RX7 67 "java/lang/IndexOutOfBoundsException" ["java/lang/RuntimeException", "java/lang/Exception"]).filter goodWord ++ (vx_atS RX7 87 "java/lang/IllegalArgumentException" ["java/lang/RuntimeException", "java/lang/Exception"]).filter goodWord)
def wsX7_at : List Cond := .code yX7_at cX7_at 3 (some .int) :: ([.classLink RX7 63 "java/lang/IndexOutOfBoundsException", .initialized "java/lang/IndexOutOfBoundsException", .classLink RX7 83 "java/lang/IllegalArgumentException", .initialized "java/lang/IllegalArgumentException", .fieldLink RX7 10 "ChronicleRows" "now" "LChronicleRows$State;", .methodLink RX7 59 yX7_isRow, .static yX7_isRow, .initialized RX7, .code yX7_isRow cX7_isRow 1 (some .boolean), .methodLink RX7 231 yX5_personAt, .instanceMethod yX5_personAt, .selects RX5 yX5_personAt yX5_personAt, .initialized RX5, .code yX5_personAt cX5_personAt 3 (some .int), .fieldLink RX5 27 "ChronicleRows$State" "orders" "[I", .methodLink RX5 56 yX5_sizeOf, .instanceMethod yX5_sizeOf, .selects RX5 yX5_sizeOf yX5_sizeOf, .code yX5_sizeOf cX5_sizeOf 2 (some .int), .fieldLink RX5 30 "ChronicleRows$State" "sizes" "[I"] ++ wsX70 ++ wsX50 ++ (vx_atS RX7 67 "java/lang/IndexOutOfBoundsException" ["java/lang/RuntimeException", "java/lang/Exception"]).filter goodWord ++ (vx_atS RX7 87 "java/lang/IllegalArgumentException" ["java/lang/RuntimeException", "java/lang/Exception"]).filter goodWord)
def wsX7_crossings_r1 : List Cond := [Cond.classLink RX7 63 "java/lang/IndexOutOfBoundsException", Cond.initialized "java/lang/IndexOutOfBoundsException", Cond.classLink RX7 83 "java/lang/IllegalArgumentException", Cond.initialized "java/lang/IllegalArgumentException", Cond.fieldLink RX7 41 "ChronicleRows" "lines" "LChronicleRows$RowLines;", Cond.fieldLink RX7 10 "ChronicleRows" "now" "LChronicleRows$State;", Cond.methodLink RX7 59 yX7_isRow, Cond.static yX7_isRow, Cond.initialized RX7, Cond.code yX7_isRow cX7_isRow 1 (some .boolean), Cond.methodLink RX7 236 yX2_collect, Cond.instanceMethod yX2_collect, Cond.selects RX2 yX2_collect yX2_collect, Cond.initialized RX2, Cond.code yX2_collect cX2_collect 5 none, Cond.fieldLink RX2 18 "ChronicleRows$RowLines" "size" "I", Cond.fieldLink RX2 9 "ChronicleRows$RowLines" "middles" "[I", Cond.fieldLink RX2 15 "ChronicleRows$RowLines" "places" "[I", Cond.methodLink RX2 22 yX5_sizeOf, Cond.instanceMethod yX5_sizeOf, Cond.selects RX5 yX5_sizeOf yX5_sizeOf, Cond.initialized RX5, Cond.code yX5_sizeOf cX5_sizeOf 2 (some .int), Cond.fieldLink RX5 30 "ChronicleRows$State" "sizes" "[I"]
def wsX7_crossings_r2 : List Cond := [Cond.methodLink RX2 28 yX5_personAt, Cond.instanceMethod yX5_personAt, Cond.selects RX5 yX5_personAt yX5_personAt, Cond.code yX5_personAt cX5_personAt 3 (some .int), Cond.fieldLink RX5 27 "ChronicleRows$State" "orders" "[I", Cond.methodLink RX5 56 yX5_sizeOf, Cond.methodLink RX2 32 yX5_middleAbove, Cond.instanceMethod yX5_middleAbove, Cond.selects RX5 yX5_middleAbove yX5_middleAbove, Cond.code yX5_middleAbove cX5_middleAbove 2 (some .int), Cond.methodLink RX5 63 yX5_parentsOf, Cond.instanceMethod yX5_parentsOf, Cond.selects RX5 yX5_parentsOf yX5_parentsOf, Cond.code yX5_parentsOf cX5_parentsOf 2 (some .int), Cond.fieldLink RX5 18 "ChronicleRows$State" "parents" "[I", Cond.methodLink RX5 49 yX5_isPerson, Cond.instanceMethod yX5_isPerson, Cond.selects RX5 yX5_isPerson yX5_isPerson, Cond.code yX5_isPerson cX5_isPerson 2 (some .boolean), Cond.fieldLink RX5 39 "ChronicleRows$State" "people" "I", Cond.methodLink RX5 66 yX5_middleOf, Cond.instanceMethod yX5_middleOf, Cond.selects RX5 yX5_middleOf yX5_middleOf, Cond.code yX5_middleOf cX5_middleOf 2 (some .int)]
def wsX7_crossings_r3 : List Cond := [Cond.fieldLink RX5 21 "ChronicleRows$State" "lessers" "[I", Cond.fieldLink RX5 24 "ChronicleRows$State" "greaters" "[I", Cond.methodLink RX5 53 yX5_isCouple, Cond.instanceMethod yX5_isCouple, Cond.selects RX5 yX5_isCouple yX5_isCouple, Cond.code yX5_isCouple cX5_isCouple 2 (some .boolean), Cond.fieldLink RX5 43 "ChronicleRows$State" "couples" "I", Cond.methodLink RX5 60 yX5_placeOf, Cond.instanceMethod yX5_placeOf, Cond.selects RX5 yX5_placeOf yX5_placeOf, Cond.code yX5_placeOf cX5_placeOf 2 (some .int), Cond.fieldLink RX5 15 "ChronicleRows$State" "places" "[I", Cond.methodLink RX7 239 yX2_crossedPairs, Cond.instanceMethod yX2_crossedPairs, Cond.selects RX2 yX2_crossedPairs yX2_crossedPairs, Cond.code yX2_crossedPairs cX2_crossedPairs 4 (some .int), Cond.methodLink RX7 242 yX2_crossedOneByOne, Cond.instanceMethod yX2_crossedOneByOne, Cond.selects RX2 yX2_crossedOneByOne yX2_crossedOneByOne, Cond.code yX2_crossedOneByOne cX2_crossedOneByOne 4 (some .int), Cond.methodLink RX2 35 yX2_sortByMiddles, Cond.instanceMethod yX2_sortByMiddles, Cond.selects RX2 yX2_sortByMiddles yX2_sortByMiddles, Cond.code yX2_sortByMiddles cX2_sortByMiddles 5 none]
def wsX7_crossings : List Cond := .code yX7_crossings cX7_crossings 3 (some .int) :: ((wsX7_crossings_r1 ++ (wsX7_crossings_r2 ++ wsX7_crossings_r3)) ++ wsX70 ++ wsX20 ++ wsX50 ++ (vx_atS RX7 67 "java/lang/IndexOutOfBoundsException" ["java/lang/RuntimeException", "java/lang/Exception"]).filter goodWord ++ (vx_atS RX7 87 "java/lang/IllegalArgumentException" ["java/lang/RuntimeException", "java/lang/Exception"]).filter goodWord)
def wsX7_count_r1 : List Cond := [Cond.classLink RX7 83 "java/lang/IllegalArgumentException", Cond.initialized "java/lang/IllegalArgumentException", Cond.fieldLink RX7 10 "ChronicleRows" "now" "LChronicleRows$State;", Cond.fieldLink RX7 27 "ChronicleRows" "saved" "LChronicleRows$SavedStates;", Cond.methodLink RX7 169 yX5_people, Cond.instanceMethod yX5_people, Cond.selects RX5 yX5_people yX5_people, Cond.initialized RX5, Cond.code yX5_people cX5_people 1 (some .int), Cond.fieldLink RX5 39 "ChronicleRows$State" "people" "I", Cond.methodLink RX7 245 yX5_couples, Cond.instanceMethod yX5_couples, Cond.selects RX5 yX5_couples yX5_couples, Cond.code yX5_couples cX5_couples 1 (some .int), Cond.fieldLink RX5 43 "ChronicleRows$State" "couples" "I", Cond.methodLink RX7 248 yX5_lines, Cond.instanceMethod yX5_lines, Cond.selects RX5 yX5_lines yX5_lines, Cond.code yX5_lines cX5_lines 1 (some .int), Cond.methodLink RX5 107 yX5_childrenOf, Cond.instanceMethod yX5_childrenOf, Cond.selects RX5 yX5_childrenOf yX5_childrenOf, Cond.code yX5_childrenOf cX5_childrenOf 4 (some .int), Cond.fieldLink RX5 18 "ChronicleRows$State" "parents" "[I"]
def wsX7_count_r2 : List Cond := [Cond.methodLink RX7 105 yX7_allCrossings, Cond.instanceMethod yX7_allCrossings, Cond.selects RX7 yX7_allCrossings yX7_allCrossings, Cond.initialized RX7, Cond.code yX7_allCrossings cX7_allCrossings 3 (some .int), Cond.fieldLink RX7 41 "ChronicleRows" "lines" "LChronicleRows$RowLines;", Cond.methodLink RX7 236 yX2_collect, Cond.instanceMethod yX2_collect, Cond.selects RX2 yX2_collect yX2_collect, Cond.initialized RX2, Cond.code yX2_collect cX2_collect 5 none, Cond.fieldLink RX2 18 "ChronicleRows$RowLines" "size" "I", Cond.fieldLink RX2 9 "ChronicleRows$RowLines" "middles" "[I", Cond.fieldLink RX2 15 "ChronicleRows$RowLines" "places" "[I", Cond.methodLink RX2 22 yX5_sizeOf, Cond.instanceMethod yX5_sizeOf, Cond.selects RX5 yX5_sizeOf yX5_sizeOf, Cond.code yX5_sizeOf cX5_sizeOf 2 (some .int), Cond.fieldLink RX5 30 "ChronicleRows$State" "sizes" "[I", Cond.methodLink RX2 28 yX5_personAt, Cond.instanceMethod yX5_personAt, Cond.selects RX5 yX5_personAt yX5_personAt, Cond.code yX5_personAt cX5_personAt 3 (some .int), Cond.fieldLink RX5 27 "ChronicleRows$State" "orders" "[I"]
def wsX7_count_r3 : List Cond := [Cond.methodLink RX5 56 yX5_sizeOf, Cond.methodLink RX2 32 yX5_middleAbove, Cond.instanceMethod yX5_middleAbove, Cond.selects RX5 yX5_middleAbove yX5_middleAbove, Cond.code yX5_middleAbove cX5_middleAbove 2 (some .int), Cond.methodLink RX5 63 yX5_parentsOf, Cond.instanceMethod yX5_parentsOf, Cond.selects RX5 yX5_parentsOf yX5_parentsOf, Cond.code yX5_parentsOf cX5_parentsOf 2 (some .int), Cond.methodLink RX5 49 yX5_isPerson, Cond.instanceMethod yX5_isPerson, Cond.selects RX5 yX5_isPerson yX5_isPerson, Cond.code yX5_isPerson cX5_isPerson 2 (some .boolean), Cond.methodLink RX5 66 yX5_middleOf, Cond.instanceMethod yX5_middleOf, Cond.selects RX5 yX5_middleOf yX5_middleOf, Cond.code yX5_middleOf cX5_middleOf 2 (some .int), Cond.fieldLink RX5 21 "ChronicleRows$State" "lessers" "[I", Cond.fieldLink RX5 24 "ChronicleRows$State" "greaters" "[I", Cond.methodLink RX5 53 yX5_isCouple, Cond.instanceMethod yX5_isCouple, Cond.selects RX5 yX5_isCouple yX5_isCouple, Cond.code yX5_isCouple cX5_isCouple 2 (some .boolean), Cond.methodLink RX5 60 yX5_placeOf]
def wsX7_count_r4 : List Cond := [Cond.instanceMethod yX5_placeOf, Cond.selects RX5 yX5_placeOf yX5_placeOf, Cond.code yX5_placeOf cX5_placeOf 2 (some .int), Cond.fieldLink RX5 15 "ChronicleRows$State" "places" "[I", Cond.methodLink RX7 239 yX2_crossedPairs, Cond.instanceMethod yX2_crossedPairs, Cond.selects RX2 yX2_crossedPairs yX2_crossedPairs, Cond.code yX2_crossedPairs cX2_crossedPairs 4 (some .int), Cond.methodLink RX7 250 yX5_bentLines, Cond.instanceMethod yX5_bentLines, Cond.selects RX5 yX5_bentLines yX5_bentLines, Cond.code yX5_bentLines cX5_bentLines 3 (some .int), Cond.methodLink RX5 110 yX5_middleAbove, Cond.methodLink RX7 253 yX5_doubles, Cond.instanceMethod yX5_doubles, Cond.selects RX5 yX5_doubles yX5_doubles, Cond.code yX5_doubles cX5_doubles 3 (some .int), Cond.methodLink RX5 98 yX5_isDouble, Cond.instanceMethod yX5_isDouble, Cond.selects RX5 yX5_isDouble yX5_isDouble, Cond.code yX5_isDouble cX5_isDouble 2 (some .boolean), Cond.methodLink RX5 101 yX5_couplesWith, Cond.instanceMethod yX5_couplesWith, Cond.selects RX5 yX5_couplesWith yX5_couplesWith]
def wsX7_count_r5 : List Cond := [Cond.code yX5_couplesWith cX5_couplesWith 4 (some .int), Cond.methodLink RX7 256 yX0_kinCouples, Cond.static yX0_kinCouples, Cond.initialized RX0, Cond.code yX0_kinCouples cX0_kinCouples 3 (some .int), Cond.methodLink RX0 34 yX5_couples, Cond.methodLink RX0 37 yX0_commonAncestors, Cond.static yX0_commonAncestors, Cond.code yX0_commonAncestors cX0_commonAncestors 2 (some .int), Cond.methodLink RX0 15 yX5_lesserOf, Cond.instanceMethod yX5_lesserOf, Cond.selects RX5 yX5_lesserOf yX5_lesserOf, Cond.code yX5_lesserOf cX5_lesserOf 2 (some .int), Cond.methodLink RX0 31 yX0_ancestors, Cond.static yX0_ancestors, Cond.code yX0_ancestors cX0_ancestors 4 (some .int), Cond.methodLink RX0 21 yX0_parentBits, Cond.static yX0_parentBits, Cond.code yX0_parentBits cX0_parentBits 3 (some .int), Cond.methodLink RX0 9 yX5_parentsOf, Cond.methodLink RX0 18 yX5_greaterOf, Cond.instanceMethod yX5_greaterOf, Cond.selects RX5 yX5_greaterOf yX5_greaterOf, Cond.code yX5_greaterOf cX5_greaterOf 2 (some .int)]
def wsX7_count_r6 : List Cond := [Cond.methodLink RX7 260 yX5_refused, Cond.instanceMethod yX5_refused, Cond.selects RX5 yX5_refused yX5_refused, Cond.code yX5_refused cX5_refused 1 (some .int), Cond.fieldLink RX5 46 "ChronicleRows$State" "refused" "I", Cond.methodLink RX7 174 yX4_size, Cond.instanceMethod yX4_size, Cond.selects RX4 yX4_size yX4_size, Cond.initialized RX4, Cond.code yX4_size cX4_size 1 (some .int), Cond.fieldLink RX4 18 "ChronicleRows$SavedStates" "size" "I"]
def wsX7_count : List Cond := .code yX7_count cX7_count 2 (some .int) :: ((wsX7_count_r1 ++ (wsX7_count_r2 ++ (wsX7_count_r3 ++ (wsX7_count_r4 ++ (wsX7_count_r5 ++ wsX7_count_r6))))) ++ wsX70 ++ wsX50 ++ wsX20 ++ wsX40 ++ (vx_atS RX7 87 "java/lang/IllegalArgumentException" ["java/lang/RuntimeException", "java/lang/Exception"]).filter goodWord)
def wsX7_least_r1 : List Cond := [Cond.classLink RX7 63 "java/lang/IndexOutOfBoundsException", Cond.initialized "java/lang/IndexOutOfBoundsException", Cond.classLink RX7 83 "java/lang/IllegalArgumentException", Cond.initialized "java/lang/IllegalArgumentException", Cond.fieldLink RX7 55 "ChronicleRows" "search" "LChronicleRows$RowSearch;", Cond.fieldLink RX7 10 "ChronicleRows" "now" "LChronicleRows$State;", Cond.methodLink RX7 59 yX7_isRow, Cond.static yX7_isRow, Cond.initialized RX7, Cond.code yX7_isRow cX7_isRow 1 (some .boolean), Cond.methodLink RX7 117 yX3_prepare, Cond.instanceMethod yX3_prepare, Cond.selects RX3 yX3_prepare yX3_prepare, Cond.initialized RX3, Cond.code yX3_prepare cX3_prepare 3 none, Cond.methodLink RX3 44 yX3_listPeople, Cond.instanceMethod yX3_listPeople, Cond.selects RX3 yX3_listPeople yX3_listPeople, Cond.code yX3_listPeople cX3_listPeople 4 none, Cond.fieldLink RX3 65 "ChronicleRows$RowSearch" "size" "I", Cond.fieldLink RX3 9 "ChronicleRows$RowSearch" "order" "[I", Cond.methodLink RX3 69 yX5_people, Cond.instanceMethod yX5_people, Cond.selects RX5 yX5_people yX5_people]
def wsX7_least_r2 : List Cond := [Cond.initialized RX5, Cond.code yX5_people cX5_people 1 (some .int), Cond.fieldLink RX5 39 "ChronicleRows$State" "people" "I", Cond.methodLink RX3 73 yX5_rowOf, Cond.instanceMethod yX5_rowOf, Cond.selects RX5 yX5_rowOf yX5_rowOf, Cond.code yX5_rowOf cX5_rowOf 2 (some .int), Cond.fieldLink RX5 9 "ChronicleRows$State" "rows" "[I", Cond.methodLink RX5 49 yX5_isPerson, Cond.instanceMethod yX5_isPerson, Cond.selects RX5 yX5_isPerson yX5_isPerson, Cond.code yX5_isPerson cX5_isPerson 2 (some .boolean), Cond.methodLink RX3 48 yX3_noteLinesTo, Cond.instanceMethod yX3_noteLinesTo, Cond.selects RX3 yX3_noteLinesTo yX3_noteLinesTo, Cond.code yX3_noteLinesTo cX3_noteLinesTo 6 none, Cond.fieldLink RX3 21 "ChronicleRows$RowSearch" "crossedFromLeft" "[I", Cond.methodLink RX3 76 yX5_middleAbove, Cond.instanceMethod yX5_middleAbove, Cond.selects RX5 yX5_middleAbove yX5_middleAbove, Cond.code yX5_middleAbove cX5_middleAbove 2 (some .int), Cond.methodLink RX5 63 yX5_parentsOf, Cond.instanceMethod yX5_parentsOf, Cond.selects RX5 yX5_parentsOf yX5_parentsOf]
def wsX7_least_r3 : List Cond := [Cond.code yX5_parentsOf cX5_parentsOf 2 (some .int), Cond.fieldLink RX5 18 "ChronicleRows$State" "parents" "[I", Cond.methodLink RX5 66 yX5_middleOf, Cond.instanceMethod yX5_middleOf, Cond.selects RX5 yX5_middleOf yX5_middleOf, Cond.code yX5_middleOf cX5_middleOf 2 (some .int), Cond.fieldLink RX5 21 "ChronicleRows$State" "lessers" "[I", Cond.fieldLink RX5 24 "ChronicleRows$State" "greaters" "[I", Cond.methodLink RX5 53 yX5_isCouple, Cond.instanceMethod yX5_isCouple, Cond.selects RX5 yX5_isCouple yX5_isCouple, Cond.code yX5_isCouple cX5_isCouple 2 (some .boolean), Cond.fieldLink RX5 43 "ChronicleRows$State" "couples" "I", Cond.methodLink RX5 60 yX5_placeOf, Cond.instanceMethod yX5_placeOf, Cond.selects RX5 yX5_placeOf yX5_placeOf, Cond.code yX5_placeOf cX5_placeOf 2 (some .int), Cond.fieldLink RX5 15 "ChronicleRows$State" "places" "[I", Cond.methodLink RX3 52 yX3_listCouples, Cond.instanceMethod yX3_listCouples, Cond.selects RX3 yX3_listCouples yX3_listCouples, Cond.code yX3_listCouples cX3_listCouples 5 none, Cond.fieldLink RX3 79 "ChronicleRows$RowSearch" "coupleCount" "I", Cond.fieldLink RX3 36 "ChronicleRows$RowSearch" "parentIndexes" "[I"]
def wsX7_least_r4 : List Cond := [Cond.methodLink RX3 55 yX5_sizeOf, Cond.instanceMethod yX5_sizeOf, Cond.selects RX5 yX5_sizeOf yX5_sizeOf, Cond.code yX5_sizeOf cX5_sizeOf 2 (some .int), Cond.fieldLink RX5 30 "ChronicleRows$State" "sizes" "[I", Cond.methodLink RX3 82 yX5_personAt, Cond.instanceMethod yX5_personAt, Cond.selects RX5 yX5_personAt yX5_personAt, Cond.code yX5_personAt cX5_personAt 3 (some .int), Cond.fieldLink RX5 27 "ChronicleRows$State" "orders" "[I", Cond.methodLink RX5 56 yX5_sizeOf, Cond.methodLink RX3 86 yX5_parentsOf, Cond.methodLink RX3 89 yX3_indexOfCouple, Cond.instanceMethod yX3_indexOfCouple, Cond.selects RX3 yX3_indexOfCouple yX3_indexOfCouple, Cond.code yX3_indexOfCouple cX3_indexOfCouple 4 (some .int), Cond.fieldLink RX3 24 "ChronicleRows$RowSearch" "couples" "[I", Cond.fieldLink RX3 27 "ChronicleRows$RowSearch" "lessers" "[I", Cond.fieldLink RX3 30 "ChronicleRows$RowSearch" "greaters" "[I", Cond.methodLink RX3 93 yX5_lesserOf, Cond.instanceMethod yX5_lesserOf, Cond.selects RX5 yX5_lesserOf yX5_lesserOf, Cond.code yX5_lesserOf cX5_lesserOf 2 (some .int), Cond.methodLink RX3 96 yX5_greaterOf]
def wsX7_least_r5 : List Cond := [Cond.instanceMethod yX5_greaterOf, Cond.selects RX5 yX5_greaterOf yX5_greaterOf, Cond.code yX5_greaterOf cX5_greaterOf 2 (some .int), Cond.methodLink RX3 61 yX3_noteLinesFrom, Cond.instanceMethod yX3_noteLinesFrom, Cond.selects RX3 yX3_noteLinesFrom yX3_noteLinesFrom, Cond.code yX3_noteLinesFrom cX3_noteLinesFrom 4 none, Cond.fieldLink RX3 41 "ChronicleRows$RowSearch" "crossedIfLess" "[[I", Cond.methodLink RX7 121 yX3_leastByAllOrders, Cond.instanceMethod yX3_leastByAllOrders, Cond.selects RX3 yX3_leastByAllOrders yX3_leastByAllOrders, Cond.code yX3_leastByAllOrders cX3_leastByAllOrders 4 (some .int), Cond.fieldLink RX3 99 "ChronicleRows$RowSearch" "fewest" "I", Cond.fieldLink RX3 15 "ChronicleRows$RowSearch" "bestOrder" "[I", Cond.methodLink RX3 105 arraycopyName, Cond.native arraycopyName, Cond.static arraycopyName, Cond.initialized "java/lang/System", Cond.methodLink RX3 102 yX3_crossingsOfFirst, Cond.instanceMethod yX3_crossingsOfFirst, Cond.selects RX3 yX3_crossingsOfFirst yX3_crossingsOfFirst, Cond.code yX3_crossingsOfFirst cX3_crossingsOfFirst 6 (some .int), Cond.fieldLink RX3 18 "ChronicleRows$RowSearch" "places" "[I", Cond.methodLink RX3 127 yJ6_bitCount_0f7a4]
def wsX7_least_r6 : List Cond := [Cond.static yJ6_bitCount_0f7a4, Cond.initialized RJ6, Cond.code yJ6_bitCount_0f7a4 cJ6_bitCount_0f7a4 1 (some .int), Cond.constant RJ6 265 (1431655765), Cond.constant RJ6 266 (858993459), Cond.constant RJ6 267 (252645135), Cond.methodLink RX3 132 yX3_crossingsFrom, Cond.instanceMethod yX3_crossingsFrom, Cond.selects RX3 yX3_crossingsFrom yX3_crossingsFrom, Cond.code yX3_crossingsFrom cX3_crossingsFrom 6 (some .int), Cond.fieldLink RX3 33 "ChronicleRows$RowSearch" "middles" "[I", Cond.methodLink RX3 111 yX3_goToNextOrder, Cond.instanceMethod yX3_goToNextOrder, Cond.selects RX3 yX3_goToNextOrder yX3_goToNextOrder, Cond.code yX3_goToNextOrder cX3_goToNextOrder 5 (some .boolean), Cond.methodLink RX3 119 yX3_exchange, Cond.instanceMethod yX3_exchange, Cond.selects RX3 yX3_exchange yX3_exchange, Cond.code yX3_exchange cX3_exchange 4 none, Cond.methodLink RX7 265 yX3_leastByLaying, Cond.instanceMethod yX3_leastByLaying, Cond.selects RX3 yX3_leastByLaying yX3_leastByLaying, Cond.code yX3_leastByLaying cX3_leastByLaying 1 (some .int), Cond.methodLink RX3 123 yX3_layOn]
def wsX7_least_r7 : List Cond := [Cond.static yX3_layOn, Cond.code yX3_layOn cX3_layOn 4 none]
def wsX7_least : List Cond := .code yX7_least cX7_least 3 (some .int) :: ((wsX7_least_r1 ++ (wsX7_least_r2 ++ (wsX7_least_r3 ++ (wsX7_least_r4 ++ (wsX7_least_r5 ++ (wsX7_least_r6 ++ wsX7_least_r7)))))) ++ wsX70 ++ wsX30 ++ wsX50 ++ (vx_atS RX7 67 "java/lang/IndexOutOfBoundsException" ["java/lang/RuntimeException", "java/lang/Exception"]).filter goodWord ++ (vx_atS RX7 87 "java/lang/IllegalArgumentException" ["java/lang/RuntimeException", "java/lang/Exception"]).filter goodWord)
def wsX7_bestSwap_r1 : List Cond := [Cond.fieldLink RX7 10 "ChronicleRows" "now" "LChronicleRows$State;", Cond.methodLink RX7 105 yX7_allCrossings, Cond.instanceMethod yX7_allCrossings, Cond.selects RX7 yX7_allCrossings yX7_allCrossings, Cond.initialized RX7, Cond.code yX7_allCrossings cX7_allCrossings 3 (some .int), Cond.fieldLink RX7 41 "ChronicleRows" "lines" "LChronicleRows$RowLines;", Cond.methodLink RX7 236 yX2_collect, Cond.instanceMethod yX2_collect, Cond.selects RX2 yX2_collect yX2_collect, Cond.initialized RX2, Cond.code yX2_collect cX2_collect 5 none, Cond.fieldLink RX2 18 "ChronicleRows$RowLines" "size" "I", Cond.fieldLink RX2 9 "ChronicleRows$RowLines" "middles" "[I", Cond.fieldLink RX2 15 "ChronicleRows$RowLines" "places" "[I", Cond.methodLink RX2 22 yX5_sizeOf, Cond.instanceMethod yX5_sizeOf, Cond.selects RX5 yX5_sizeOf yX5_sizeOf, Cond.initialized RX5, Cond.code yX5_sizeOf cX5_sizeOf 2 (some .int), Cond.fieldLink RX5 30 "ChronicleRows$State" "sizes" "[I", Cond.methodLink RX2 28 yX5_personAt, Cond.instanceMethod yX5_personAt, Cond.selects RX5 yX5_personAt yX5_personAt]
def wsX7_bestSwap_r2 : List Cond := [Cond.code yX5_personAt cX5_personAt 3 (some .int), Cond.fieldLink RX5 27 "ChronicleRows$State" "orders" "[I", Cond.methodLink RX5 56 yX5_sizeOf, Cond.methodLink RX2 32 yX5_middleAbove, Cond.instanceMethod yX5_middleAbove, Cond.selects RX5 yX5_middleAbove yX5_middleAbove, Cond.code yX5_middleAbove cX5_middleAbove 2 (some .int), Cond.methodLink RX5 63 yX5_parentsOf, Cond.instanceMethod yX5_parentsOf, Cond.selects RX5 yX5_parentsOf yX5_parentsOf, Cond.code yX5_parentsOf cX5_parentsOf 2 (some .int), Cond.fieldLink RX5 18 "ChronicleRows$State" "parents" "[I", Cond.methodLink RX5 49 yX5_isPerson, Cond.instanceMethod yX5_isPerson, Cond.selects RX5 yX5_isPerson yX5_isPerson, Cond.code yX5_isPerson cX5_isPerson 2 (some .boolean), Cond.fieldLink RX5 39 "ChronicleRows$State" "people" "I", Cond.methodLink RX5 66 yX5_middleOf, Cond.instanceMethod yX5_middleOf, Cond.selects RX5 yX5_middleOf yX5_middleOf, Cond.code yX5_middleOf cX5_middleOf 2 (some .int), Cond.fieldLink RX5 21 "ChronicleRows$State" "lessers" "[I", Cond.fieldLink RX5 24 "ChronicleRows$State" "greaters" "[I", Cond.methodLink RX5 53 yX5_isCouple]
def wsX7_bestSwap_r3 : List Cond := [Cond.instanceMethod yX5_isCouple, Cond.selects RX5 yX5_isCouple yX5_isCouple, Cond.code yX5_isCouple cX5_isCouple 2 (some .boolean), Cond.fieldLink RX5 43 "ChronicleRows$State" "couples" "I", Cond.methodLink RX5 60 yX5_placeOf, Cond.instanceMethod yX5_placeOf, Cond.selects RX5 yX5_placeOf yX5_placeOf, Cond.code yX5_placeOf cX5_placeOf 2 (some .int), Cond.fieldLink RX5 15 "ChronicleRows$State" "places" "[I", Cond.methodLink RX7 239 yX2_crossedPairs, Cond.instanceMethod yX2_crossedPairs, Cond.selects RX2 yX2_crossedPairs yX2_crossedPairs, Cond.code yX2_crossedPairs cX2_crossedPairs 4 (some .int), Cond.methodLink RX7 100 yX5_sizeOf, Cond.methodLink RX7 109 yX5_exchange, Cond.instanceMethod yX5_exchange, Cond.selects RX5 yX5_exchange yX5_exchange, Cond.code yX5_exchange cX5_exchange 5 none, Cond.methodLink RX5 104 yX5_personAt, Cond.methodLink RX5 69 yX5_lay, Cond.instanceMethod yX5_lay, Cond.selects RX5 yX5_lay yX5_lay, Cond.code yX5_lay cX5_lay 4 none]
def wsX7_bestSwap : List Cond := .code yX7_bestSwap cX7_bestSwap 6 (some .int) :: ((wsX7_bestSwap_r1 ++ (wsX7_bestSwap_r2 ++ wsX7_bestSwap_r3)) ++ wsX70 ++ wsX20 ++ wsX50)
def wsX7_nearness_r1 : List Cond := [Cond.classLink RX7 63 "java/lang/IndexOutOfBoundsException", Cond.initialized "java/lang/IndexOutOfBoundsException", Cond.fieldLink RX7 10 "ChronicleRows" "now" "LChronicleRows$State;", Cond.methodLink RX7 78 yX5_isPerson, Cond.instanceMethod yX5_isPerson, Cond.selects RX5 yX5_isPerson yX5_isPerson, Cond.initialized RX5, Cond.code yX5_isPerson cX5_isPerson 2 (some .boolean), Cond.fieldLink RX5 39 "ChronicleRows$State" "people" "I", Cond.methodLink RX7 268 yX0_fewestLines, Cond.static yX0_fewestLines, Cond.initialized RX0, Cond.code yX0_fewestLines cX0_fewestLines 7 (some .int), Cond.methodLink RX0 31 yX0_ancestors, Cond.static yX0_ancestors, Cond.code yX0_ancestors cX0_ancestors 4 (some .int), Cond.methodLink RX0 21 yX0_parentBits, Cond.static yX0_parentBits, Cond.code yX0_parentBits cX0_parentBits 3 (some .int), Cond.methodLink RX0 9 yX5_parentsOf, Cond.instanceMethod yX5_parentsOf, Cond.selects RX5 yX5_parentsOf yX5_parentsOf, Cond.code yX5_parentsOf cX5_parentsOf 2 (some .int), Cond.fieldLink RX5 18 "ChronicleRows$State" "parents" "[I"]
def wsX7_nearness_r2 : List Cond := [Cond.methodLink RX5 49 yX5_isPerson, Cond.methodLink RX0 15 yX5_lesserOf, Cond.instanceMethod yX5_lesserOf, Cond.selects RX5 yX5_lesserOf yX5_lesserOf, Cond.code yX5_lesserOf cX5_lesserOf 2 (some .int), Cond.fieldLink RX5 21 "ChronicleRows$State" "lessers" "[I", Cond.methodLink RX5 53 yX5_isCouple, Cond.instanceMethod yX5_isCouple, Cond.selects RX5 yX5_isCouple yX5_isCouple, Cond.code yX5_isCouple cX5_isCouple 2 (some .boolean), Cond.fieldLink RX5 43 "ChronicleRows$State" "couples" "I", Cond.methodLink RX0 18 yX5_greaterOf, Cond.instanceMethod yX5_greaterOf, Cond.selects RX5 yX5_greaterOf yX5_greaterOf, Cond.code yX5_greaterOf cX5_greaterOf 2 (some .int), Cond.fieldLink RX5 24 "ChronicleRows$State" "greaters" "[I", Cond.methodLink RX0 27 yX5_people, Cond.instanceMethod yX5_people, Cond.selects RX5 yX5_people yX5_people, Cond.code yX5_people cX5_people 1 (some .int), Cond.methodLink RX0 40 yX5_rowOf, Cond.instanceMethod yX5_rowOf, Cond.selects RX5 yX5_rowOf yX5_rowOf, Cond.code yX5_rowOf cX5_rowOf 2 (some .int)]
def wsX7_nearness_r3 : List Cond := [Cond.fieldLink RX5 9 "ChronicleRows$State" "rows" "[I"]
def wsX7_nearness : List Cond := .code yX7_nearness cX7_nearness 3 (some .int) :: ((wsX7_nearness_r1 ++ (wsX7_nearness_r2 ++ wsX7_nearness_r3)) ++ wsX70 ++ wsX50 ++ (vx_atS RX7 67 "java/lang/IndexOutOfBoundsException" ["java/lang/RuntimeException", "java/lang/Exception"]).filter goodWord)
def wsX7_straightShare_r1 : List Cond := [Cond.fieldLink RX7 10 "ChronicleRows" "now" "LChronicleRows$State;", Cond.methodLink RX7 248 yX5_lines, Cond.instanceMethod yX5_lines, Cond.selects RX5 yX5_lines yX5_lines, Cond.initialized RX5, Cond.code yX5_lines cX5_lines 1 (some .int), Cond.fieldLink RX5 39 "ChronicleRows$State" "people" "I", Cond.methodLink RX5 107 yX5_childrenOf, Cond.instanceMethod yX5_childrenOf, Cond.selects RX5 yX5_childrenOf yX5_childrenOf, Cond.code yX5_childrenOf cX5_childrenOf 4 (some .int), Cond.fieldLink RX5 18 "ChronicleRows$State" "parents" "[I", Cond.methodLink RX7 250 yX5_bentLines, Cond.instanceMethod yX5_bentLines, Cond.selects RX5 yX5_bentLines yX5_bentLines, Cond.code yX5_bentLines cX5_bentLines 3 (some .int), Cond.fieldLink RX5 15 "ChronicleRows$State" "places" "[I", Cond.methodLink RX5 110 yX5_middleAbove, Cond.instanceMethod yX5_middleAbove, Cond.selects RX5 yX5_middleAbove yX5_middleAbove, Cond.code yX5_middleAbove cX5_middleAbove 2 (some .int), Cond.methodLink RX5 63 yX5_parentsOf, Cond.instanceMethod yX5_parentsOf, Cond.selects RX5 yX5_parentsOf yX5_parentsOf]
def wsX7_straightShare_r2 : List Cond := [Cond.code yX5_parentsOf cX5_parentsOf 2 (some .int), Cond.methodLink RX5 49 yX5_isPerson, Cond.instanceMethod yX5_isPerson, Cond.selects RX5 yX5_isPerson yX5_isPerson, Cond.code yX5_isPerson cX5_isPerson 2 (some .boolean), Cond.methodLink RX5 66 yX5_middleOf, Cond.instanceMethod yX5_middleOf, Cond.selects RX5 yX5_middleOf yX5_middleOf, Cond.code yX5_middleOf cX5_middleOf 2 (some .int), Cond.fieldLink RX5 21 "ChronicleRows$State" "lessers" "[I", Cond.fieldLink RX5 24 "ChronicleRows$State" "greaters" "[I", Cond.methodLink RX5 53 yX5_isCouple, Cond.instanceMethod yX5_isCouple, Cond.selects RX5 yX5_isCouple yX5_isCouple, Cond.code yX5_isCouple cX5_isCouple 2 (some .boolean), Cond.fieldLink RX5 43 "ChronicleRows$State" "couples" "I", Cond.methodLink RX5 60 yX5_placeOf, Cond.instanceMethod yX5_placeOf, Cond.selects RX5 yX5_placeOf yX5_placeOf, Cond.code yX5_placeOf cX5_placeOf 2 (some .int)]
def wsX7_straightShare : List Cond := .code yX7_straightShare cX7_straightShare 2 (some .double) :: ((wsX7_straightShare_r1 ++ wsX7_straightShare_r2) ++ wsX70 ++ wsX50)
def wsJ9_max_7cf53 : List Cond := .code yJ9_max_7cf53 cJ9_max_7cf53 2 (some .int) :: ([])
def wsJ9_min_7cf53 : List Cond := .code yJ9_min_7cf53 cJ9_min_7cf53 2 (some .int) :: ([])
def wsL_cell : List Cond := .code yL_cell cL_cell 2 (some .int) :: ([.constant RL 7 (1739704803)])
def wsL_low : List Cond := .code yL_low cL_low 2 (some .int) :: ([.constant RL 8 (2147483647)])
def wsL_place : List Cond := .code yL_place cL_place 4 (some .int) :: ([])
def wsL_middle : List Cond := .code yL_middle cL_middle 4 (some .int) :: ([.methodLink RL 9 yL_place, .static yL_place, .initialized RL, .code yL_place cL_place 4 (some .int)])
def wsL_crosses : List Cond := .code yL_crosses cL_crosses 10 (some .int) :: ([.methodLink RL 15 yL_middle, .static yL_middle, .initialized RL, .code yL_middle cL_middle 4 (some .int), .methodLink RL 9 yL_place, .static yL_place, .code yL_place cL_place 4 (some .int)])
def wsL_all : List Cond := .code yL_all cL_all 4 (some .int) :: ([.methodLink RL 19 yL_crosses, .static yL_crosses, .initialized RL, .code yL_crosses cL_crosses 10 (some .int), .methodLink RL 15 yL_middle, .static yL_middle, .code yL_middle cL_middle 4 (some .int), .methodLink RL 9 yL_place, .static yL_place, .code yL_place cL_place 4 (some .int)])
def wsL_ofTwo : List Cond := .code yL_ofTwo cL_ofTwo 5 (some .int) :: ([.methodLink RL 19 yL_crosses, .static yL_crosses, .initialized RL, .code yL_crosses cL_crosses 10 (some .int), .methodLink RL 15 yL_middle, .static yL_middle, .code yL_middle cL_middle 4 (some .int), .methodLink RL 9 yL_place, .static yL_place, .code yL_place cL_place 4 (some .int)])
def wsL_couples : List Cond := .code yL_couples cL_couples 5 (some .int) :: ([])
def wsL_ancestors : List Cond := .code yL_ancestors cL_ancestors 8 (some .int) :: ([])
def wsL_ones : List Cond := .code yL_ones cL_ones 3 (some .int) :: ([])
def wsL_lays : List Cond := .code yL_lays cL_lays 12 none :: ([.methodLink RL 23 yL_ones, .static yL_ones, .initialized RL, .code yL_ones cL_ones 3 (some .int)])
def wsL_copy : List Cond := .code yL_copy cL_copy 3 none :: ([])
def wsL_best : List Cond := .code yL_best cL_best 11 (some .int) :: ([.arrayClass .int, .methodLink RL 27 yL_copy, .static yL_copy, .initialized RL, .code yL_copy cL_copy 3 none, .methodLink RL 31 yL_lays, .static yL_lays, .code yL_lays cL_lays 12 none, .methodLink RL 23 yL_ones, .static yL_ones, .code yL_ones cL_ones 3 (some .int), .methodLink RL 35 yL_ofTwo, .static yL_ofTwo, .code yL_ofTwo cL_ofTwo 5 (some .int), .methodLink RL 19 yL_crosses, .static yL_crosses, .code yL_crosses cL_crosses 10 (some .int), .methodLink RL 15 yL_middle, .static yL_middle, .code yL_middle cL_middle 4 (some .int), .methodLink RL 9 yL_place, .static yL_place, .code yL_place cL_place 4 (some .int)])
def wsL_arePeople_r1 : List Cond := [Cond.methodLink RL 38 yX7_count, Cond.instanceMethod yX7_count, Cond.selects RX7 yX7_count yX7_count, Cond.initialized RX7, Cond.code yX7_count cX7_count 2 (some .int), Cond.classLink RX7 83 "java/lang/IllegalArgumentException", Cond.initialized "java/lang/IllegalArgumentException", Cond.fieldLink RX7 10 "ChronicleRows" "now" "LChronicleRows$State;", Cond.fieldLink RX7 27 "ChronicleRows" "saved" "LChronicleRows$SavedStates;", Cond.methodLink RX7 169 yX5_people, Cond.instanceMethod yX5_people, Cond.selects RX5 yX5_people yX5_people, Cond.initialized RX5, Cond.code yX5_people cX5_people 1 (some .int), Cond.fieldLink RX5 39 "ChronicleRows$State" "people" "I", Cond.methodLink RX7 245 yX5_couples, Cond.instanceMethod yX5_couples, Cond.selects RX5 yX5_couples yX5_couples, Cond.code yX5_couples cX5_couples 1 (some .int), Cond.fieldLink RX5 43 "ChronicleRows$State" "couples" "I", Cond.methodLink RX7 248 yX5_lines, Cond.instanceMethod yX5_lines, Cond.selects RX5 yX5_lines yX5_lines, Cond.code yX5_lines cX5_lines 1 (some .int)]
def wsL_arePeople_r2 : List Cond := [Cond.methodLink RX5 107 yX5_childrenOf, Cond.instanceMethod yX5_childrenOf, Cond.selects RX5 yX5_childrenOf yX5_childrenOf, Cond.code yX5_childrenOf cX5_childrenOf 4 (some .int), Cond.fieldLink RX5 18 "ChronicleRows$State" "parents" "[I", Cond.methodLink RX7 105 yX7_allCrossings, Cond.instanceMethod yX7_allCrossings, Cond.selects RX7 yX7_allCrossings yX7_allCrossings, Cond.code yX7_allCrossings cX7_allCrossings 3 (some .int), Cond.fieldLink RX7 41 "ChronicleRows" "lines" "LChronicleRows$RowLines;", Cond.methodLink RX7 236 yX2_collect, Cond.instanceMethod yX2_collect, Cond.selects RX2 yX2_collect yX2_collect, Cond.initialized RX2, Cond.code yX2_collect cX2_collect 5 none, Cond.fieldLink RX2 18 "ChronicleRows$RowLines" "size" "I", Cond.fieldLink RX2 9 "ChronicleRows$RowLines" "middles" "[I", Cond.fieldLink RX2 15 "ChronicleRows$RowLines" "places" "[I", Cond.methodLink RX2 22 yX5_sizeOf, Cond.instanceMethod yX5_sizeOf, Cond.selects RX5 yX5_sizeOf yX5_sizeOf, Cond.code yX5_sizeOf cX5_sizeOf 2 (some .int), Cond.fieldLink RX5 30 "ChronicleRows$State" "sizes" "[I", Cond.methodLink RX2 28 yX5_personAt]
def wsL_arePeople_r3 : List Cond := [Cond.instanceMethod yX5_personAt, Cond.selects RX5 yX5_personAt yX5_personAt, Cond.code yX5_personAt cX5_personAt 3 (some .int), Cond.fieldLink RX5 27 "ChronicleRows$State" "orders" "[I", Cond.methodLink RX5 56 yX5_sizeOf, Cond.methodLink RX2 32 yX5_middleAbove, Cond.instanceMethod yX5_middleAbove, Cond.selects RX5 yX5_middleAbove yX5_middleAbove, Cond.code yX5_middleAbove cX5_middleAbove 2 (some .int), Cond.methodLink RX5 63 yX5_parentsOf, Cond.instanceMethod yX5_parentsOf, Cond.selects RX5 yX5_parentsOf yX5_parentsOf, Cond.code yX5_parentsOf cX5_parentsOf 2 (some .int), Cond.methodLink RX5 49 yX5_isPerson, Cond.instanceMethod yX5_isPerson, Cond.selects RX5 yX5_isPerson yX5_isPerson, Cond.code yX5_isPerson cX5_isPerson 2 (some .boolean), Cond.methodLink RX5 66 yX5_middleOf, Cond.instanceMethod yX5_middleOf, Cond.selects RX5 yX5_middleOf yX5_middleOf, Cond.code yX5_middleOf cX5_middleOf 2 (some .int), Cond.fieldLink RX5 21 "ChronicleRows$State" "lessers" "[I", Cond.fieldLink RX5 24 "ChronicleRows$State" "greaters" "[I", Cond.methodLink RX5 53 yX5_isCouple]
def wsL_arePeople_r4 : List Cond := [Cond.instanceMethod yX5_isCouple, Cond.selects RX5 yX5_isCouple yX5_isCouple, Cond.code yX5_isCouple cX5_isCouple 2 (some .boolean), Cond.methodLink RX5 60 yX5_placeOf, Cond.instanceMethod yX5_placeOf, Cond.selects RX5 yX5_placeOf yX5_placeOf, Cond.code yX5_placeOf cX5_placeOf 2 (some .int), Cond.fieldLink RX5 15 "ChronicleRows$State" "places" "[I", Cond.methodLink RX7 239 yX2_crossedPairs, Cond.instanceMethod yX2_crossedPairs, Cond.selects RX2 yX2_crossedPairs yX2_crossedPairs, Cond.code yX2_crossedPairs cX2_crossedPairs 4 (some .int), Cond.methodLink RX7 250 yX5_bentLines, Cond.instanceMethod yX5_bentLines, Cond.selects RX5 yX5_bentLines yX5_bentLines, Cond.code yX5_bentLines cX5_bentLines 3 (some .int), Cond.methodLink RX5 110 yX5_middleAbove, Cond.methodLink RX7 253 yX5_doubles, Cond.instanceMethod yX5_doubles, Cond.selects RX5 yX5_doubles yX5_doubles, Cond.code yX5_doubles cX5_doubles 3 (some .int), Cond.methodLink RX5 98 yX5_isDouble, Cond.instanceMethod yX5_isDouble, Cond.selects RX5 yX5_isDouble yX5_isDouble]
def wsL_arePeople_r5 : List Cond := [Cond.code yX5_isDouble cX5_isDouble 2 (some .boolean), Cond.methodLink RX5 101 yX5_couplesWith, Cond.instanceMethod yX5_couplesWith, Cond.selects RX5 yX5_couplesWith yX5_couplesWith, Cond.code yX5_couplesWith cX5_couplesWith 4 (some .int), Cond.methodLink RX7 256 yX0_kinCouples, Cond.static yX0_kinCouples, Cond.initialized RX0, Cond.code yX0_kinCouples cX0_kinCouples 3 (some .int), Cond.methodLink RX0 34 yX5_couples, Cond.methodLink RX0 37 yX0_commonAncestors, Cond.static yX0_commonAncestors, Cond.code yX0_commonAncestors cX0_commonAncestors 2 (some .int), Cond.methodLink RX0 15 yX5_lesserOf, Cond.instanceMethod yX5_lesserOf, Cond.selects RX5 yX5_lesserOf yX5_lesserOf, Cond.code yX5_lesserOf cX5_lesserOf 2 (some .int), Cond.methodLink RX0 31 yX0_ancestors, Cond.static yX0_ancestors, Cond.code yX0_ancestors cX0_ancestors 4 (some .int), Cond.methodLink RX0 21 yX0_parentBits, Cond.static yX0_parentBits, Cond.code yX0_parentBits cX0_parentBits 3 (some .int), Cond.methodLink RX0 9 yX5_parentsOf]
def wsL_arePeople_r6 : List Cond := [Cond.methodLink RX0 18 yX5_greaterOf, Cond.instanceMethod yX5_greaterOf, Cond.selects RX5 yX5_greaterOf yX5_greaterOf, Cond.code yX5_greaterOf cX5_greaterOf 2 (some .int), Cond.methodLink RX7 260 yX5_refused, Cond.instanceMethod yX5_refused, Cond.selects RX5 yX5_refused yX5_refused, Cond.code yX5_refused cX5_refused 1 (some .int), Cond.fieldLink RX5 46 "ChronicleRows$State" "refused" "I", Cond.methodLink RX7 174 yX4_size, Cond.instanceMethod yX4_size, Cond.selects RX4 yX4_size yX4_size, Cond.initialized RX4, Cond.code yX4_size cX4_size 1 (some .int), Cond.fieldLink RX4 18 "ChronicleRows$SavedStates" "size" "I", Cond.methodLink RL 43 yL_ancestors, Cond.static yL_ancestors, Cond.initialized RL, Cond.code yL_ancestors cL_ancestors 8 (some .int), Cond.methodLink RL 46 yX7_personOf, Cond.instanceMethod yX7_personOf, Cond.selects RX7 yX7_personOf yX7_personOf, Cond.code yX7_personOf cX7_personOf 3 (some .int), Cond.classLink RX7 63 "java/lang/IndexOutOfBoundsException"]
def wsL_arePeople_r7 : List Cond := [Cond.initialized "java/lang/IndexOutOfBoundsException", Cond.methodLink RX7 78 yX5_isPerson, Cond.methodLink RX7 182 yX5_rowOf, Cond.instanceMethod yX5_rowOf, Cond.selects RX5 yX5_rowOf yX5_rowOf, Cond.code yX5_rowOf cX5_rowOf 2 (some .int), Cond.fieldLink RX5 9 "ChronicleRows$State" "rows" "[I", Cond.methodLink RX7 185 yX5_placeOf, Cond.methodLink RX7 188 yX5_parentsOf, Cond.methodLink RX7 191 yX5_couplesWith, Cond.methodLink RX7 194 yX5_childrenWith, Cond.instanceMethod yX5_childrenWith, Cond.selects RX5 yX5_childrenWith yX5_childrenWith, Cond.code yX5_childrenWith cX5_childrenWith 4 (some .int), Cond.methodLink RX7 197 yX0_descendants, Cond.static yX0_descendants, Cond.code yX0_descendants cX0_descendants 4 (some .int), Cond.methodLink RX0 27 yX5_people, Cond.methodLink RX7 202 yJ6_bitCount_0f7a4, Cond.static yJ6_bitCount_0f7a4, Cond.initialized RJ6, Cond.code yJ6_bitCount_0f7a4 cJ6_bitCount_0f7a4 1 (some .int), Cond.constant RJ6 265 (1431655765), Cond.constant RJ6 266 (858993459)]
def wsL_arePeople_r8 : List Cond := [Cond.constant RJ6 267 (252645135), Cond.methodLink RX7 207 yX0_ancestors, Cond.methodLink RL 9 yL_place, Cond.static yL_place, Cond.code yL_place cL_place 4 (some .int), Cond.methodLink RL 50 yL_couples, Cond.static yL_couples, Cond.code yL_couples cL_couples 5 (some .int), Cond.methodLink RL 23 yL_ones, Cond.static yL_ones, Cond.code yL_ones cL_ones 3 (some .int), Cond.methodLink RL 15 yL_middle, Cond.static yL_middle, Cond.code yL_middle cL_middle 4 (some .int), Cond.methodLink RL 53 yX7_straightShare, Cond.instanceMethod yX7_straightShare, Cond.selects RX7 yX7_straightShare yX7_straightShare, Cond.code yX7_straightShare cX7_straightShare 2 (some .double)]
def wsL_arePeople : List Cond := .code yL_arePeople cL_arePeople 14 (some .boolean) :: ((wsL_arePeople_r1 ++ (wsL_arePeople_r2 ++ (wsL_arePeople_r3 ++ (wsL_arePeople_r4 ++ (wsL_arePeople_r5 ++ (wsL_arePeople_r6 ++ (wsL_arePeople_r7 ++ wsL_arePeople_r8))))))) ++ wsX70 ++ wsX50 ++ wsX20 ++ wsX40 ++ (vx_atS RX7 87 "java/lang/IllegalArgumentException" ["java/lang/RuntimeException", "java/lang/Exception"]).filter goodWord ++ (vx_atS RX7 67 "java/lang/IndexOutOfBoundsException" ["java/lang/RuntimeException", "java/lang/Exception"]).filter goodWord)
def wsL_areRows_r1 : List Cond := [Cond.methodLink RL 38 yX7_count, Cond.instanceMethod yX7_count, Cond.selects RX7 yX7_count yX7_count, Cond.initialized RX7, Cond.code yX7_count cX7_count 2 (some .int), Cond.classLink RX7 83 "java/lang/IllegalArgumentException", Cond.initialized "java/lang/IllegalArgumentException", Cond.fieldLink RX7 10 "ChronicleRows" "now" "LChronicleRows$State;", Cond.fieldLink RX7 27 "ChronicleRows" "saved" "LChronicleRows$SavedStates;", Cond.methodLink RX7 169 yX5_people, Cond.instanceMethod yX5_people, Cond.selects RX5 yX5_people yX5_people, Cond.initialized RX5, Cond.code yX5_people cX5_people 1 (some .int), Cond.fieldLink RX5 39 "ChronicleRows$State" "people" "I", Cond.methodLink RX7 245 yX5_couples, Cond.instanceMethod yX5_couples, Cond.selects RX5 yX5_couples yX5_couples, Cond.code yX5_couples cX5_couples 1 (some .int), Cond.fieldLink RX5 43 "ChronicleRows$State" "couples" "I", Cond.methodLink RX7 248 yX5_lines, Cond.instanceMethod yX5_lines, Cond.selects RX5 yX5_lines yX5_lines, Cond.code yX5_lines cX5_lines 1 (some .int)]
def wsL_areRows_r2 : List Cond := [Cond.methodLink RX5 107 yX5_childrenOf, Cond.instanceMethod yX5_childrenOf, Cond.selects RX5 yX5_childrenOf yX5_childrenOf, Cond.code yX5_childrenOf cX5_childrenOf 4 (some .int), Cond.fieldLink RX5 18 "ChronicleRows$State" "parents" "[I", Cond.methodLink RX7 105 yX7_allCrossings, Cond.instanceMethod yX7_allCrossings, Cond.selects RX7 yX7_allCrossings yX7_allCrossings, Cond.code yX7_allCrossings cX7_allCrossings 3 (some .int), Cond.fieldLink RX7 41 "ChronicleRows" "lines" "LChronicleRows$RowLines;", Cond.methodLink RX7 236 yX2_collect, Cond.instanceMethod yX2_collect, Cond.selects RX2 yX2_collect yX2_collect, Cond.initialized RX2, Cond.code yX2_collect cX2_collect 5 none, Cond.fieldLink RX2 18 "ChronicleRows$RowLines" "size" "I", Cond.fieldLink RX2 9 "ChronicleRows$RowLines" "middles" "[I", Cond.fieldLink RX2 15 "ChronicleRows$RowLines" "places" "[I", Cond.methodLink RX2 22 yX5_sizeOf, Cond.instanceMethod yX5_sizeOf, Cond.selects RX5 yX5_sizeOf yX5_sizeOf, Cond.code yX5_sizeOf cX5_sizeOf 2 (some .int), Cond.fieldLink RX5 30 "ChronicleRows$State" "sizes" "[I", Cond.methodLink RX2 28 yX5_personAt]
def wsL_areRows_r3 : List Cond := [Cond.instanceMethod yX5_personAt, Cond.selects RX5 yX5_personAt yX5_personAt, Cond.code yX5_personAt cX5_personAt 3 (some .int), Cond.fieldLink RX5 27 "ChronicleRows$State" "orders" "[I", Cond.methodLink RX5 56 yX5_sizeOf, Cond.methodLink RX2 32 yX5_middleAbove, Cond.instanceMethod yX5_middleAbove, Cond.selects RX5 yX5_middleAbove yX5_middleAbove, Cond.code yX5_middleAbove cX5_middleAbove 2 (some .int), Cond.methodLink RX5 63 yX5_parentsOf, Cond.instanceMethod yX5_parentsOf, Cond.selects RX5 yX5_parentsOf yX5_parentsOf, Cond.code yX5_parentsOf cX5_parentsOf 2 (some .int), Cond.methodLink RX5 49 yX5_isPerson, Cond.instanceMethod yX5_isPerson, Cond.selects RX5 yX5_isPerson yX5_isPerson, Cond.code yX5_isPerson cX5_isPerson 2 (some .boolean), Cond.methodLink RX5 66 yX5_middleOf, Cond.instanceMethod yX5_middleOf, Cond.selects RX5 yX5_middleOf yX5_middleOf, Cond.code yX5_middleOf cX5_middleOf 2 (some .int), Cond.fieldLink RX5 21 "ChronicleRows$State" "lessers" "[I", Cond.fieldLink RX5 24 "ChronicleRows$State" "greaters" "[I", Cond.methodLink RX5 53 yX5_isCouple]
def wsL_areRows_r4 : List Cond := [Cond.instanceMethod yX5_isCouple, Cond.selects RX5 yX5_isCouple yX5_isCouple, Cond.code yX5_isCouple cX5_isCouple 2 (some .boolean), Cond.methodLink RX5 60 yX5_placeOf, Cond.instanceMethod yX5_placeOf, Cond.selects RX5 yX5_placeOf yX5_placeOf, Cond.code yX5_placeOf cX5_placeOf 2 (some .int), Cond.fieldLink RX5 15 "ChronicleRows$State" "places" "[I", Cond.methodLink RX7 239 yX2_crossedPairs, Cond.instanceMethod yX2_crossedPairs, Cond.selects RX2 yX2_crossedPairs yX2_crossedPairs, Cond.code yX2_crossedPairs cX2_crossedPairs 4 (some .int), Cond.methodLink RX7 250 yX5_bentLines, Cond.instanceMethod yX5_bentLines, Cond.selects RX5 yX5_bentLines yX5_bentLines, Cond.code yX5_bentLines cX5_bentLines 3 (some .int), Cond.methodLink RX5 110 yX5_middleAbove, Cond.methodLink RX7 253 yX5_doubles, Cond.instanceMethod yX5_doubles, Cond.selects RX5 yX5_doubles yX5_doubles, Cond.code yX5_doubles cX5_doubles 3 (some .int), Cond.methodLink RX5 98 yX5_isDouble, Cond.instanceMethod yX5_isDouble, Cond.selects RX5 yX5_isDouble yX5_isDouble]
def wsL_areRows_r5 : List Cond := [Cond.code yX5_isDouble cX5_isDouble 2 (some .boolean), Cond.methodLink RX5 101 yX5_couplesWith, Cond.instanceMethod yX5_couplesWith, Cond.selects RX5 yX5_couplesWith yX5_couplesWith, Cond.code yX5_couplesWith cX5_couplesWith 4 (some .int), Cond.methodLink RX7 256 yX0_kinCouples, Cond.static yX0_kinCouples, Cond.initialized RX0, Cond.code yX0_kinCouples cX0_kinCouples 3 (some .int), Cond.methodLink RX0 34 yX5_couples, Cond.methodLink RX0 37 yX0_commonAncestors, Cond.static yX0_commonAncestors, Cond.code yX0_commonAncestors cX0_commonAncestors 2 (some .int), Cond.methodLink RX0 15 yX5_lesserOf, Cond.instanceMethod yX5_lesserOf, Cond.selects RX5 yX5_lesserOf yX5_lesserOf, Cond.code yX5_lesserOf cX5_lesserOf 2 (some .int), Cond.methodLink RX0 31 yX0_ancestors, Cond.static yX0_ancestors, Cond.code yX0_ancestors cX0_ancestors 4 (some .int), Cond.methodLink RX0 21 yX0_parentBits, Cond.static yX0_parentBits, Cond.code yX0_parentBits cX0_parentBits 3 (some .int), Cond.methodLink RX0 9 yX5_parentsOf]
def wsL_areRows_r6 : List Cond := [Cond.methodLink RX0 18 yX5_greaterOf, Cond.instanceMethod yX5_greaterOf, Cond.selects RX5 yX5_greaterOf yX5_greaterOf, Cond.code yX5_greaterOf cX5_greaterOf 2 (some .int), Cond.methodLink RX7 260 yX5_refused, Cond.instanceMethod yX5_refused, Cond.selects RX5 yX5_refused yX5_refused, Cond.code yX5_refused cX5_refused 1 (some .int), Cond.fieldLink RX5 46 "ChronicleRows$State" "refused" "I", Cond.methodLink RX7 174 yX4_size, Cond.instanceMethod yX4_size, Cond.selects RX4 yX4_size yX4_size, Cond.initialized RX4, Cond.code yX4_size cX4_size 1 (some .int), Cond.fieldLink RX4 18 "ChronicleRows$SavedStates" "size" "I", Cond.methodLink RL 57 yL_all, Cond.static yL_all, Cond.initialized RL, Cond.code yL_all cL_all 4 (some .int), Cond.methodLink RL 19 yL_crosses, Cond.static yL_crosses, Cond.code yL_crosses cL_crosses 10 (some .int), Cond.methodLink RL 15 yL_middle, Cond.static yL_middle]
def wsL_areRows_r7 : List Cond := [Cond.code yL_middle cL_middle 4 (some .int), Cond.methodLink RL 9 yL_place, Cond.static yL_place, Cond.code yL_place cL_place 4 (some .int), Cond.methodLink RL 43 yL_ancestors, Cond.static yL_ancestors, Cond.code yL_ancestors cL_ancestors 8 (some .int), Cond.methodLink RL 23 yL_ones, Cond.static yL_ones, Cond.code yL_ones cL_ones 3 (some .int), Cond.methodLink RL 61 yX7_coupleOf, Cond.instanceMethod yX7_coupleOf, Cond.selects RX7 yX7_coupleOf yX7_coupleOf, Cond.code yX7_coupleOf cX7_coupleOf 3 (some .int), Cond.classLink RX7 63 "java/lang/IndexOutOfBoundsException", Cond.initialized "java/lang/IndexOutOfBoundsException", Cond.methodLink RX7 91 yX5_isCouple, Cond.methodLink RX7 212 yX5_lesserOf, Cond.methodLink RX7 215 yX5_greaterOf, Cond.methodLink RX7 182 yX5_rowOf, Cond.instanceMethod yX5_rowOf, Cond.selects RX5 yX5_rowOf yX5_rowOf, Cond.code yX5_rowOf cX5_rowOf 2 (some .int), Cond.fieldLink RX5 9 "ChronicleRows$State" "rows" "[I"]
def wsL_areRows_r8 : List Cond := [Cond.methodLink RX7 218 yX5_middleOf, Cond.methodLink RX7 221 yX5_childrenOf, Cond.methodLink RX7 224 yX0_commonAncestors, Cond.methodLink RX7 202 yJ6_bitCount_0f7a4, Cond.static yJ6_bitCount_0f7a4, Cond.initialized RJ6, Cond.code yJ6_bitCount_0f7a4 cJ6_bitCount_0f7a4 1 (some .int), Cond.constant RJ6 265 (1431655765), Cond.constant RJ6 266 (858993459), Cond.constant RJ6 267 (252645135), Cond.methodLink RL 64 yX7_crossings, Cond.instanceMethod yX7_crossings, Cond.selects RX7 yX7_crossings yX7_crossings, Cond.code yX7_crossings cX7_crossings 3 (some .int), Cond.methodLink RX7 59 yX7_isRow, Cond.static yX7_isRow, Cond.code yX7_isRow cX7_isRow 1 (some .boolean), Cond.methodLink RX7 242 yX2_crossedOneByOne, Cond.instanceMethod yX2_crossedOneByOne, Cond.selects RX2 yX2_crossedOneByOne yX2_crossedOneByOne, Cond.code yX2_crossedOneByOne cX2_crossedOneByOne 4 (some .int), Cond.methodLink RX2 35 yX2_sortByMiddles, Cond.instanceMethod yX2_sortByMiddles, Cond.selects RX2 yX2_sortByMiddles yX2_sortByMiddles]
def wsL_areRows_r9 : List Cond := [Cond.code yX2_sortByMiddles cX2_sortByMiddles 5 none, Cond.methodLink RL 67 yX7_at, Cond.instanceMethod yX7_at, Cond.selects RX7 yX7_at yX7_at, Cond.code yX7_at cX7_at 3 (some .int), Cond.methodLink RX7 231 yX5_personAt]
def wsL_areRows : List Cond := .code yL_areRows cL_areRows 10 (some .boolean) :: ((wsL_areRows_r1 ++ (wsL_areRows_r2 ++ (wsL_areRows_r3 ++ (wsL_areRows_r4 ++ (wsL_areRows_r5 ++ (wsL_areRows_r6 ++ (wsL_areRows_r7 ++ (wsL_areRows_r8 ++ wsL_areRows_r9)))))))) ++ wsX70 ++ wsX50 ++ wsX20 ++ wsX40 ++ (vx_atS RX7 87 "java/lang/IllegalArgumentException" ["java/lang/RuntimeException", "java/lang/Exception"]).filter goodWord ++ (vx_atS RX7 67 "java/lang/IndexOutOfBoundsException" ["java/lang/RuntimeException", "java/lang/Exception"]).filter goodWord)
def wsL_isLeast_r1 : List Cond := [Cond.arrayClass .int, Cond.methodLink RL 27 yL_copy, Cond.static yL_copy, Cond.initialized RL, Cond.code yL_copy cL_copy 3 none, Cond.methodLink RL 70 yL_best, Cond.static yL_best, Cond.code yL_best cL_best 11 (some .int), Cond.methodLink RL 31 yL_lays, Cond.static yL_lays, Cond.code yL_lays cL_lays 12 none, Cond.methodLink RL 23 yL_ones, Cond.static yL_ones, Cond.code yL_ones cL_ones 3 (some .int), Cond.methodLink RL 35 yL_ofTwo, Cond.static yL_ofTwo, Cond.code yL_ofTwo cL_ofTwo 5 (some .int), Cond.methodLink RL 19 yL_crosses, Cond.static yL_crosses, Cond.code yL_crosses cL_crosses 10 (some .int), Cond.methodLink RL 15 yL_middle, Cond.static yL_middle, Cond.code yL_middle cL_middle 4 (some .int), Cond.methodLink RL 9 yL_place]
def wsL_isLeast_r2 : List Cond := [Cond.static yL_place, Cond.code yL_place cL_place 4 (some .int), Cond.methodLink RL 57 yL_all, Cond.static yL_all, Cond.code yL_all cL_all 4 (some .int), Cond.methodLink RL 73 yX7_least, Cond.instanceMethod yX7_least, Cond.selects RX7 yX7_least yX7_least, Cond.initialized RX7, Cond.code yX7_least cX7_least 3 (some .int), Cond.classLink RX7 63 "java/lang/IndexOutOfBoundsException", Cond.initialized "java/lang/IndexOutOfBoundsException", Cond.classLink RX7 83 "java/lang/IllegalArgumentException", Cond.initialized "java/lang/IllegalArgumentException", Cond.fieldLink RX7 55 "ChronicleRows" "search" "LChronicleRows$RowSearch;", Cond.fieldLink RX7 10 "ChronicleRows" "now" "LChronicleRows$State;", Cond.methodLink RX7 59 yX7_isRow, Cond.static yX7_isRow, Cond.code yX7_isRow cX7_isRow 1 (some .boolean), Cond.methodLink RX7 117 yX3_prepare, Cond.instanceMethod yX3_prepare, Cond.selects RX3 yX3_prepare yX3_prepare, Cond.initialized RX3, Cond.code yX3_prepare cX3_prepare 3 none]
def wsL_isLeast_r3 : List Cond := [Cond.methodLink RX3 44 yX3_listPeople, Cond.instanceMethod yX3_listPeople, Cond.selects RX3 yX3_listPeople yX3_listPeople, Cond.code yX3_listPeople cX3_listPeople 4 none, Cond.fieldLink RX3 65 "ChronicleRows$RowSearch" "size" "I", Cond.fieldLink RX3 9 "ChronicleRows$RowSearch" "order" "[I", Cond.methodLink RX3 69 yX5_people, Cond.instanceMethod yX5_people, Cond.selects RX5 yX5_people yX5_people, Cond.initialized RX5, Cond.code yX5_people cX5_people 1 (some .int), Cond.fieldLink RX5 39 "ChronicleRows$State" "people" "I", Cond.methodLink RX3 73 yX5_rowOf, Cond.instanceMethod yX5_rowOf, Cond.selects RX5 yX5_rowOf yX5_rowOf, Cond.code yX5_rowOf cX5_rowOf 2 (some .int), Cond.fieldLink RX5 9 "ChronicleRows$State" "rows" "[I", Cond.methodLink RX5 49 yX5_isPerson, Cond.instanceMethod yX5_isPerson, Cond.selects RX5 yX5_isPerson yX5_isPerson, Cond.code yX5_isPerson cX5_isPerson 2 (some .boolean), Cond.methodLink RX3 48 yX3_noteLinesTo, Cond.instanceMethod yX3_noteLinesTo, Cond.selects RX3 yX3_noteLinesTo yX3_noteLinesTo]
def wsL_isLeast_r4 : List Cond := [Cond.code yX3_noteLinesTo cX3_noteLinesTo 6 none, Cond.fieldLink RX3 21 "ChronicleRows$RowSearch" "crossedFromLeft" "[I", Cond.methodLink RX3 76 yX5_middleAbove, Cond.instanceMethod yX5_middleAbove, Cond.selects RX5 yX5_middleAbove yX5_middleAbove, Cond.code yX5_middleAbove cX5_middleAbove 2 (some .int), Cond.methodLink RX5 63 yX5_parentsOf, Cond.instanceMethod yX5_parentsOf, Cond.selects RX5 yX5_parentsOf yX5_parentsOf, Cond.code yX5_parentsOf cX5_parentsOf 2 (some .int), Cond.fieldLink RX5 18 "ChronicleRows$State" "parents" "[I", Cond.methodLink RX5 66 yX5_middleOf, Cond.instanceMethod yX5_middleOf, Cond.selects RX5 yX5_middleOf yX5_middleOf, Cond.code yX5_middleOf cX5_middleOf 2 (some .int), Cond.fieldLink RX5 21 "ChronicleRows$State" "lessers" "[I", Cond.fieldLink RX5 24 "ChronicleRows$State" "greaters" "[I", Cond.methodLink RX5 53 yX5_isCouple, Cond.instanceMethod yX5_isCouple, Cond.selects RX5 yX5_isCouple yX5_isCouple, Cond.code yX5_isCouple cX5_isCouple 2 (some .boolean), Cond.fieldLink RX5 43 "ChronicleRows$State" "couples" "I", Cond.methodLink RX5 60 yX5_placeOf, Cond.instanceMethod yX5_placeOf]
def wsL_isLeast_r5 : List Cond := [Cond.selects RX5 yX5_placeOf yX5_placeOf, Cond.code yX5_placeOf cX5_placeOf 2 (some .int), Cond.fieldLink RX5 15 "ChronicleRows$State" "places" "[I", Cond.methodLink RX3 52 yX3_listCouples, Cond.instanceMethod yX3_listCouples, Cond.selects RX3 yX3_listCouples yX3_listCouples, Cond.code yX3_listCouples cX3_listCouples 5 none, Cond.fieldLink RX3 79 "ChronicleRows$RowSearch" "coupleCount" "I", Cond.fieldLink RX3 36 "ChronicleRows$RowSearch" "parentIndexes" "[I", Cond.methodLink RX3 55 yX5_sizeOf, Cond.instanceMethod yX5_sizeOf, Cond.selects RX5 yX5_sizeOf yX5_sizeOf, Cond.code yX5_sizeOf cX5_sizeOf 2 (some .int), Cond.fieldLink RX5 30 "ChronicleRows$State" "sizes" "[I", Cond.methodLink RX3 82 yX5_personAt, Cond.instanceMethod yX5_personAt, Cond.selects RX5 yX5_personAt yX5_personAt, Cond.code yX5_personAt cX5_personAt 3 (some .int), Cond.fieldLink RX5 27 "ChronicleRows$State" "orders" "[I", Cond.methodLink RX5 56 yX5_sizeOf, Cond.methodLink RX3 86 yX5_parentsOf, Cond.methodLink RX3 89 yX3_indexOfCouple, Cond.instanceMethod yX3_indexOfCouple, Cond.selects RX3 yX3_indexOfCouple yX3_indexOfCouple]
def wsL_isLeast_r6 : List Cond := [Cond.code yX3_indexOfCouple cX3_indexOfCouple 4 (some .int), Cond.fieldLink RX3 24 "ChronicleRows$RowSearch" "couples" "[I", Cond.fieldLink RX3 27 "ChronicleRows$RowSearch" "lessers" "[I", Cond.fieldLink RX3 30 "ChronicleRows$RowSearch" "greaters" "[I", Cond.methodLink RX3 93 yX5_lesserOf, Cond.instanceMethod yX5_lesserOf, Cond.selects RX5 yX5_lesserOf yX5_lesserOf, Cond.code yX5_lesserOf cX5_lesserOf 2 (some .int), Cond.methodLink RX3 96 yX5_greaterOf, Cond.instanceMethod yX5_greaterOf, Cond.selects RX5 yX5_greaterOf yX5_greaterOf, Cond.code yX5_greaterOf cX5_greaterOf 2 (some .int), Cond.methodLink RX3 61 yX3_noteLinesFrom, Cond.instanceMethod yX3_noteLinesFrom, Cond.selects RX3 yX3_noteLinesFrom yX3_noteLinesFrom, Cond.code yX3_noteLinesFrom cX3_noteLinesFrom 4 none, Cond.fieldLink RX3 41 "ChronicleRows$RowSearch" "crossedIfLess" "[[I", Cond.methodLink RX7 121 yX3_leastByAllOrders, Cond.instanceMethod yX3_leastByAllOrders, Cond.selects RX3 yX3_leastByAllOrders yX3_leastByAllOrders, Cond.code yX3_leastByAllOrders cX3_leastByAllOrders 4 (some .int), Cond.fieldLink RX3 99 "ChronicleRows$RowSearch" "fewest" "I", Cond.fieldLink RX3 15 "ChronicleRows$RowSearch" "bestOrder" "[I", Cond.methodLink RX3 105 arraycopyName]
def wsL_isLeast_r7 : List Cond := [Cond.native arraycopyName, Cond.static arraycopyName, Cond.initialized "java/lang/System", Cond.methodLink RX3 102 yX3_crossingsOfFirst, Cond.instanceMethod yX3_crossingsOfFirst, Cond.selects RX3 yX3_crossingsOfFirst yX3_crossingsOfFirst, Cond.code yX3_crossingsOfFirst cX3_crossingsOfFirst 6 (some .int), Cond.fieldLink RX3 18 "ChronicleRows$RowSearch" "places" "[I", Cond.methodLink RX3 127 yJ6_bitCount_0f7a4, Cond.static yJ6_bitCount_0f7a4, Cond.initialized RJ6, Cond.code yJ6_bitCount_0f7a4 cJ6_bitCount_0f7a4 1 (some .int), Cond.constant RJ6 265 (1431655765), Cond.constant RJ6 266 (858993459), Cond.constant RJ6 267 (252645135), Cond.methodLink RX3 132 yX3_crossingsFrom, Cond.instanceMethod yX3_crossingsFrom, Cond.selects RX3 yX3_crossingsFrom yX3_crossingsFrom, Cond.code yX3_crossingsFrom cX3_crossingsFrom 6 (some .int), Cond.fieldLink RX3 33 "ChronicleRows$RowSearch" "middles" "[I", Cond.methodLink RX3 111 yX3_goToNextOrder, Cond.instanceMethod yX3_goToNextOrder, Cond.selects RX3 yX3_goToNextOrder yX3_goToNextOrder, Cond.code yX3_goToNextOrder cX3_goToNextOrder 5 (some .boolean)]
def wsL_isLeast_r8 : List Cond := [Cond.methodLink RX3 119 yX3_exchange, Cond.instanceMethod yX3_exchange, Cond.selects RX3 yX3_exchange yX3_exchange, Cond.code yX3_exchange cX3_exchange 4 none, Cond.methodLink RX7 265 yX3_leastByLaying, Cond.instanceMethod yX3_leastByLaying, Cond.selects RX3 yX3_leastByLaying yX3_leastByLaying, Cond.code yX3_leastByLaying cX3_leastByLaying 1 (some .int), Cond.methodLink RX3 123 yX3_layOn, Cond.static yX3_layOn, Cond.code yX3_layOn cX3_layOn 4 none, Cond.methodLink RL 76 yX7_bestSwap, Cond.instanceMethod yX7_bestSwap, Cond.selects RX7 yX7_bestSwap yX7_bestSwap, Cond.code yX7_bestSwap cX7_bestSwap 6 (some .int), Cond.methodLink RX7 105 yX7_allCrossings, Cond.instanceMethod yX7_allCrossings, Cond.selects RX7 yX7_allCrossings yX7_allCrossings, Cond.code yX7_allCrossings cX7_allCrossings 3 (some .int), Cond.fieldLink RX7 41 "ChronicleRows" "lines" "LChronicleRows$RowLines;", Cond.methodLink RX7 236 yX2_collect, Cond.instanceMethod yX2_collect, Cond.selects RX2 yX2_collect yX2_collect, Cond.initialized RX2]
def wsL_isLeast_r9 : List Cond := [Cond.code yX2_collect cX2_collect 5 none, Cond.fieldLink RX2 18 "ChronicleRows$RowLines" "size" "I", Cond.fieldLink RX2 9 "ChronicleRows$RowLines" "middles" "[I", Cond.fieldLink RX2 15 "ChronicleRows$RowLines" "places" "[I", Cond.methodLink RX2 22 yX5_sizeOf, Cond.methodLink RX2 28 yX5_personAt, Cond.methodLink RX2 32 yX5_middleAbove, Cond.methodLink RX7 239 yX2_crossedPairs, Cond.instanceMethod yX2_crossedPairs, Cond.selects RX2 yX2_crossedPairs yX2_crossedPairs, Cond.code yX2_crossedPairs cX2_crossedPairs 4 (some .int), Cond.methodLink RX7 100 yX5_sizeOf, Cond.methodLink RX7 109 yX5_exchange, Cond.instanceMethod yX5_exchange, Cond.selects RX5 yX5_exchange yX5_exchange, Cond.code yX5_exchange cX5_exchange 5 none, Cond.methodLink RX5 104 yX5_personAt, Cond.methodLink RX5 69 yX5_lay, Cond.instanceMethod yX5_lay, Cond.selects RX5 yX5_lay yX5_lay, Cond.code yX5_lay cX5_lay 4 none, Cond.methodLink RL 80 yL_low, Cond.static yL_low, Cond.code yL_low cL_low 2 (some .int)]
def wsL_isLeast_r10 : List Cond := [Cond.constant RL 8 (2147483647), Cond.methodLink RL 43 yL_ancestors, Cond.static yL_ancestors, Cond.code yL_ancestors cL_ancestors 8 (some .int), Cond.methodLink RL 83 yX7_nearness, Cond.instanceMethod yX7_nearness, Cond.selects RX7 yX7_nearness yX7_nearness, Cond.code yX7_nearness cX7_nearness 3 (some .int), Cond.methodLink RX7 78 yX5_isPerson, Cond.methodLink RX7 268 yX0_fewestLines, Cond.static yX0_fewestLines, Cond.initialized RX0, Cond.code yX0_fewestLines cX0_fewestLines 7 (some .int), Cond.methodLink RX0 31 yX0_ancestors, Cond.static yX0_ancestors, Cond.code yX0_ancestors cX0_ancestors 4 (some .int), Cond.methodLink RX0 21 yX0_parentBits, Cond.static yX0_parentBits, Cond.code yX0_parentBits cX0_parentBits 3 (some .int), Cond.methodLink RX0 9 yX5_parentsOf, Cond.methodLink RX0 15 yX5_lesserOf, Cond.methodLink RX0 18 yX5_greaterOf, Cond.methodLink RX0 27 yX5_people, Cond.methodLink RX0 40 yX5_rowOf]
def wsL_isLeast : List Cond := .code yL_isLeast cL_isLeast 18 (some .boolean) :: ((wsL_isLeast_r1 ++ (wsL_isLeast_r2 ++ (wsL_isLeast_r3 ++ (wsL_isLeast_r4 ++ (wsL_isLeast_r5 ++ (wsL_isLeast_r6 ++ (wsL_isLeast_r7 ++ (wsL_isLeast_r8 ++ (wsL_isLeast_r9 ++ wsL_isLeast_r10))))))))) ++ wsX70 ++ wsX30 ++ wsX50 ++ wsX20 ++ (vx_atS RX7 67 "java/lang/IndexOutOfBoundsException" ["java/lang/RuntimeException", "java/lang/Exception"]).filter goodWord ++ (vx_atS RX7 87 "java/lang/IllegalArgumentException" ["java/lang/RuntimeException", "java/lang/Exception"]).filter goodWord)
def wsL_comes : List Cond := .code yL_comes cL_comes 5 (some .int) :: ([])
def wsL_marries : List Cond := .code yL_marries cL_marries 9 (some .int) :: ([.methodLink RL 50 yL_couples, .static yL_couples, .initialized RL, .code yL_couples cL_couples 5 (some .int)])
def wsL_acts_r1 : List Cond := [Cond.arrayClass .int, Cond.methodLink RL 80 yL_low, Cond.static yL_low, Cond.initialized RL, Cond.code yL_low cL_low 2 (some .int), Cond.constant RL 8 (2147483647), Cond.methodLink RL 86 yX7_person, Cond.instanceMethod yX7_person, Cond.selects RX7 yX7_person yX7_person, Cond.initialized RX7, Cond.code yX7_person cX7_person 2 (some .int), Cond.classLink RX7 63 "java/lang/IndexOutOfBoundsException", Cond.initialized "java/lang/IndexOutOfBoundsException", Cond.fieldLink RX7 27 "ChronicleRows" "saved" "LChronicleRows$SavedStates;", Cond.fieldLink RX7 10 "ChronicleRows" "now" "LChronicleRows$State;", Cond.methodLink RX7 59 yX7_isRow, Cond.static yX7_isRow, Cond.code yX7_isRow cX7_isRow 1 (some .boolean), Cond.methodLink RX7 70 yX4_push, Cond.instanceMethod yX4_push, Cond.selects RX4 yX4_push yX4_push, Cond.initialized RX4, Cond.code yX4_push cX4_push 2 none, Cond.fieldLink RX4 11 "ChronicleRows$SavedStates" "ring" "[LChronicleRows$State;"]
def wsL_acts_r2 : List Cond := [Cond.fieldLink RX4 22 "ChronicleRows$SavedStates" "oldest" "I", Cond.fieldLink RX4 18 "ChronicleRows$SavedStates" "size" "I", Cond.methodLink RX4 25 yX5_copyFrom, Cond.instanceMethod yX5_copyFrom, Cond.selects RX5 yX5_copyFrom yX5_copyFrom, Cond.initialized RX5, Cond.code yX5_copyFrom cX5_copyFrom 2 none, Cond.fieldLink RX5 9 "ChronicleRows$State" "rows" "[I", Cond.methodLink RX5 33 arraycopyName, Cond.native arraycopyName, Cond.static arraycopyName, Cond.initialized "java/lang/System", Cond.fieldLink RX5 15 "ChronicleRows$State" "places" "[I", Cond.fieldLink RX5 18 "ChronicleRows$State" "parents" "[I", Cond.fieldLink RX5 21 "ChronicleRows$State" "lessers" "[I", Cond.fieldLink RX5 24 "ChronicleRows$State" "greaters" "[I", Cond.fieldLink RX5 27 "ChronicleRows$State" "orders" "[I", Cond.fieldLink RX5 30 "ChronicleRows$State" "sizes" "[I", Cond.fieldLink RX5 39 "ChronicleRows$State" "people" "I", Cond.fieldLink RX5 43 "ChronicleRows$State" "couples" "I", Cond.fieldLink RX5 46 "ChronicleRows$State" "refused" "I", Cond.methodLink RX7 74 yX5_addPerson, Cond.instanceMethod yX5_addPerson, Cond.selects RX5 yX5_addPerson yX5_addPerson]
def wsL_acts_r3 : List Cond := [Cond.code yX5_addPerson cX5_addPerson 5 (some .int), Cond.methodLink RX5 56 yX5_sizeOf, Cond.instanceMethod yX5_sizeOf, Cond.selects RX5 yX5_sizeOf yX5_sizeOf, Cond.code yX5_sizeOf cX5_sizeOf 2 (some .int), Cond.methodLink RX5 69 yX5_lay, Cond.instanceMethod yX5_lay, Cond.selects RX5 yX5_lay yX5_lay, Cond.code yX5_lay cX5_lay 4 none, Cond.methodLink RX5 49 yX5_isPerson, Cond.instanceMethod yX5_isPerson, Cond.selects RX5 yX5_isPerson yX5_isPerson, Cond.code yX5_isPerson cX5_isPerson 2 (some .boolean), Cond.methodLink RL 89 yL_comes, Cond.static yL_comes, Cond.code yL_comes cL_comes 5 (some .int), Cond.methodLink RL 93 yX7_marry, Cond.instanceMethod yX7_marry, Cond.selects RX7 yX7_marry yX7_marry, Cond.code yX7_marry cX7_marry 3 (some .int), Cond.classLink RX7 83 "java/lang/IllegalArgumentException", Cond.initialized "java/lang/IllegalArgumentException", Cond.methodLink RX7 78 yX5_isPerson, Cond.methodLink RX7 88 yX5_addCouple]
def wsL_acts_r4 : List Cond := [Cond.instanceMethod yX5_addCouple, Cond.selects RX5 yX5_addCouple yX5_addCouple, Cond.code yX5_addCouple cX5_addCouple 5 (some .int), Cond.methodLink RX5 86 Lib.Math.min.name, Cond.static Lib.Math.min.name, Cond.initialized "java/lang/Math", Cond.code Lib.Math.min.name Lib.Math.min.code 2 (some .int), Cond.methodLink RX5 91 Lib.Math.max.name, Cond.static Lib.Math.max.name, Cond.code Lib.Math.max.name Lib.Math.max.code 2 (some .int), Cond.methodLink RX5 83 yX5_reasonAgainst, Cond.instanceMethod yX5_reasonAgainst, Cond.selects RX5 yX5_reasonAgainst yX5_reasonAgainst, Cond.code yX5_reasonAgainst cX5_reasonAgainst 3 (some .int), Cond.methodLink RX5 76 yX5_rowOf, Cond.instanceMethod yX5_rowOf, Cond.selects RX5 yX5_rowOf yX5_rowOf, Cond.code yX5_rowOf cX5_rowOf 2 (some .int), Cond.methodLink RX5 94 yX5_areCouple, Cond.instanceMethod yX5_areCouple, Cond.selects RX5 yX5_areCouple yX5_areCouple, Cond.code yX5_areCouple cX5_areCouple 4 (some .boolean), Cond.methodLink RX5 98 yX5_isDouble, Cond.instanceMethod yX5_isDouble]
def wsL_acts_r5 : List Cond := [Cond.selects RX5 yX5_isDouble yX5_isDouble, Cond.code yX5_isDouble cX5_isDouble 2 (some .boolean), Cond.methodLink RX5 101 yX5_couplesWith, Cond.instanceMethod yX5_couplesWith, Cond.selects RX5 yX5_couplesWith yX5_couplesWith, Cond.code yX5_couplesWith cX5_couplesWith 4 (some .int), Cond.methodLink RL 96 yL_marries, Cond.static yL_marries, Cond.code yL_marries cL_marries 9 (some .int), Cond.methodLink RL 50 yL_couples, Cond.static yL_couples, Cond.code yL_couples cL_couples 5 (some .int), Cond.methodLink RL 99 yX7_child, Cond.instanceMethod yX7_child, Cond.selects RX7 yX7_child yX7_child, Cond.code yX7_child cX7_child 2 (some .int), Cond.methodLink RX7 91 yX5_isCouple, Cond.instanceMethod yX5_isCouple, Cond.selects RX5 yX5_isCouple yX5_isCouple, Cond.code yX5_isCouple cX5_isCouple 2 (some .boolean), Cond.methodLink RX7 96 yX5_addChild, Cond.instanceMethod yX5_addChild, Cond.selects RX5 yX5_addChild yX5_addChild, Cond.code yX5_addChild cX5_addChild 2 (some .int)]
def wsL_acts_r6 : List Cond := [Cond.methodLink RX5 73 yX5_lesserOf, Cond.instanceMethod yX5_lesserOf, Cond.selects RX5 yX5_lesserOf yX5_lesserOf, Cond.code yX5_lesserOf cX5_lesserOf 2 (some .int), Cond.methodLink RX5 53 yX5_isCouple, Cond.methodLink RX5 79 yX5_addPerson, Cond.methodLink RL 67 yX7_at, Cond.instanceMethod yX7_at, Cond.selects RX7 yX7_at yX7_at, Cond.code yX7_at cX7_at 3 (some .int), Cond.methodLink RX7 231 yX5_personAt, Cond.instanceMethod yX5_personAt, Cond.selects RX5 yX5_personAt yX5_personAt, Cond.code yX5_personAt cX5_personAt 3 (some .int), Cond.methodLink RL 57 yL_all, Cond.static yL_all, Cond.code yL_all cL_all 4 (some .int), Cond.methodLink RL 19 yL_crosses, Cond.static yL_crosses, Cond.code yL_crosses cL_crosses 10 (some .int), Cond.methodLink RL 15 yL_middle, Cond.static yL_middle, Cond.code yL_middle cL_middle 4 (some .int), Cond.methodLink RL 9 yL_place]
def wsL_acts_r7 : List Cond := [Cond.static yL_place, Cond.code yL_place cL_place 4 (some .int), Cond.methodLink RL 102 yX7_swap, Cond.instanceMethod yX7_swap, Cond.selects RX7 yX7_swap yX7_swap, Cond.code yX7_swap cX7_swap 4 (some .int), Cond.methodLink RX7 100 yX5_sizeOf, Cond.methodLink RX7 105 yX7_allCrossings, Cond.instanceMethod yX7_allCrossings, Cond.selects RX7 yX7_allCrossings yX7_allCrossings, Cond.code yX7_allCrossings cX7_allCrossings 3 (some .int), Cond.fieldLink RX7 41 "ChronicleRows" "lines" "LChronicleRows$RowLines;", Cond.methodLink RX7 236 yX2_collect, Cond.instanceMethod yX2_collect, Cond.selects RX2 yX2_collect yX2_collect, Cond.initialized RX2, Cond.code yX2_collect cX2_collect 5 none, Cond.fieldLink RX2 18 "ChronicleRows$RowLines" "size" "I", Cond.fieldLink RX2 9 "ChronicleRows$RowLines" "middles" "[I", Cond.fieldLink RX2 15 "ChronicleRows$RowLines" "places" "[I", Cond.methodLink RX2 22 yX5_sizeOf, Cond.methodLink RX2 28 yX5_personAt, Cond.methodLink RX2 32 yX5_middleAbove, Cond.instanceMethod yX5_middleAbove]
def wsL_acts_r8 : List Cond := [Cond.selects RX5 yX5_middleAbove yX5_middleAbove, Cond.code yX5_middleAbove cX5_middleAbove 2 (some .int), Cond.methodLink RX5 63 yX5_parentsOf, Cond.instanceMethod yX5_parentsOf, Cond.selects RX5 yX5_parentsOf yX5_parentsOf, Cond.code yX5_parentsOf cX5_parentsOf 2 (some .int), Cond.methodLink RX5 66 yX5_middleOf, Cond.instanceMethod yX5_middleOf, Cond.selects RX5 yX5_middleOf yX5_middleOf, Cond.code yX5_middleOf cX5_middleOf 2 (some .int), Cond.methodLink RX5 60 yX5_placeOf, Cond.instanceMethod yX5_placeOf, Cond.selects RX5 yX5_placeOf yX5_placeOf, Cond.code yX5_placeOf cX5_placeOf 2 (some .int), Cond.methodLink RX7 239 yX2_crossedPairs, Cond.instanceMethod yX2_crossedPairs, Cond.selects RX2 yX2_crossedPairs yX2_crossedPairs, Cond.code yX2_crossedPairs cX2_crossedPairs 4 (some .int), Cond.methodLink RX7 109 yX5_exchange, Cond.instanceMethod yX5_exchange, Cond.selects RX5 yX5_exchange yX5_exchange, Cond.code yX5_exchange cX5_exchange 5 none, Cond.methodLink RX5 104 yX5_personAt, Cond.methodLink RL 27 yL_copy]
def wsL_acts_r9 : List Cond := [Cond.static yL_copy, Cond.code yL_copy cL_copy 3 none, Cond.methodLink RL 105 yX7_byParents, Cond.instanceMethod yX7_byParents, Cond.selects RX7 yX7_byParents yX7_byParents, Cond.code yX7_byParents cX7_byParents 2 (some .int), Cond.fieldLink RX7 48 "ChronicleRows" "parentOrder" "LChronicleRows$ParentOrder;", Cond.methodLink RX7 113 yX1_lay, Cond.instanceMethod yX1_lay, Cond.selects RX1 yX1_lay yX1_lay, Cond.initialized RX1, Cond.code yX1_lay cX1_lay 7 (some .int), Cond.methodLink RX1 24 Lib.Math.min.name, Cond.fieldLink RX1 9 "ChronicleRows$ParentOrder" "keys" "[I", Cond.fieldLink RX1 15 "ChronicleRows$ParentOrder" "order" "[I", Cond.methodLink RX1 18 yX5_sizeOf, Cond.methodLink RX1 30 yX5_personAt, Cond.methodLink RX1 33 yX5_middleAbove, Cond.methodLink RX1 36 yX1_placeByKey, Cond.instanceMethod yX1_placeByKey, Cond.selects RX1 yX1_placeByKey yX1_placeByKey, Cond.code yX1_placeByKey cX1_placeByKey 5 (some .int), Cond.methodLink RX1 39 yX5_lay, Cond.methodLink RL 70 yL_best]
def wsL_acts_r10 : List Cond := [Cond.static yL_best, Cond.code yL_best cL_best 11 (some .int), Cond.methodLink RL 31 yL_lays, Cond.static yL_lays, Cond.code yL_lays cL_lays 12 none, Cond.methodLink RL 23 yL_ones, Cond.static yL_ones, Cond.code yL_ones cL_ones 3 (some .int), Cond.methodLink RL 35 yL_ofTwo, Cond.static yL_ofTwo, Cond.code yL_ofTwo cL_ofTwo 5 (some .int), Cond.methodLink RL 108 yX7_untangle, Cond.instanceMethod yX7_untangle, Cond.selects RX7 yX7_untangle yX7_untangle, Cond.code yX7_untangle cX7_untangle 3 (some .int), Cond.fieldLink RX7 55 "ChronicleRows" "search" "LChronicleRows$RowSearch;", Cond.methodLink RX7 117 yX3_prepare, Cond.instanceMethod yX3_prepare, Cond.selects RX3 yX3_prepare yX3_prepare, Cond.initialized RX3, Cond.code yX3_prepare cX3_prepare 3 none, Cond.methodLink RX3 44 yX3_listPeople, Cond.instanceMethod yX3_listPeople, Cond.selects RX3 yX3_listPeople yX3_listPeople]
def wsL_acts_r11 : List Cond := [Cond.code yX3_listPeople cX3_listPeople 4 none, Cond.fieldLink RX3 65 "ChronicleRows$RowSearch" "size" "I", Cond.fieldLink RX3 9 "ChronicleRows$RowSearch" "order" "[I", Cond.methodLink RX3 69 yX5_people, Cond.instanceMethod yX5_people, Cond.selects RX5 yX5_people yX5_people, Cond.code yX5_people cX5_people 1 (some .int), Cond.methodLink RX3 73 yX5_rowOf, Cond.methodLink RX3 48 yX3_noteLinesTo, Cond.instanceMethod yX3_noteLinesTo, Cond.selects RX3 yX3_noteLinesTo yX3_noteLinesTo, Cond.code yX3_noteLinesTo cX3_noteLinesTo 6 none, Cond.fieldLink RX3 21 "ChronicleRows$RowSearch" "crossedFromLeft" "[I", Cond.methodLink RX3 76 yX5_middleAbove, Cond.methodLink RX3 52 yX3_listCouples, Cond.instanceMethod yX3_listCouples, Cond.selects RX3 yX3_listCouples yX3_listCouples, Cond.code yX3_listCouples cX3_listCouples 5 none, Cond.fieldLink RX3 79 "ChronicleRows$RowSearch" "coupleCount" "I", Cond.fieldLink RX3 36 "ChronicleRows$RowSearch" "parentIndexes" "[I", Cond.methodLink RX3 55 yX5_sizeOf, Cond.methodLink RX3 82 yX5_personAt, Cond.methodLink RX3 86 yX5_parentsOf, Cond.methodLink RX3 89 yX3_indexOfCouple]
def wsL_acts_r12 : List Cond := [Cond.instanceMethod yX3_indexOfCouple, Cond.selects RX3 yX3_indexOfCouple yX3_indexOfCouple, Cond.code yX3_indexOfCouple cX3_indexOfCouple 4 (some .int), Cond.fieldLink RX3 24 "ChronicleRows$RowSearch" "couples" "[I", Cond.fieldLink RX3 27 "ChronicleRows$RowSearch" "lessers" "[I", Cond.fieldLink RX3 30 "ChronicleRows$RowSearch" "greaters" "[I", Cond.methodLink RX3 93 yX5_lesserOf, Cond.methodLink RX3 96 yX5_greaterOf, Cond.instanceMethod yX5_greaterOf, Cond.selects RX5 yX5_greaterOf yX5_greaterOf, Cond.code yX5_greaterOf cX5_greaterOf 2 (some .int), Cond.methodLink RX3 61 yX3_noteLinesFrom, Cond.instanceMethod yX3_noteLinesFrom, Cond.selects RX3 yX3_noteLinesFrom yX3_noteLinesFrom, Cond.code yX3_noteLinesFrom cX3_noteLinesFrom 4 none, Cond.fieldLink RX3 41 "ChronicleRows$RowSearch" "crossedIfLess" "[[I", Cond.methodLink RX7 121 yX3_leastByAllOrders, Cond.instanceMethod yX3_leastByAllOrders, Cond.selects RX3 yX3_leastByAllOrders yX3_leastByAllOrders, Cond.code yX3_leastByAllOrders cX3_leastByAllOrders 4 (some .int), Cond.fieldLink RX3 99 "ChronicleRows$RowSearch" "fewest" "I", Cond.fieldLink RX3 15 "ChronicleRows$RowSearch" "bestOrder" "[I", Cond.methodLink RX3 105 arraycopyName, Cond.methodLink RX3 102 yX3_crossingsOfFirst]
def wsL_acts_r13 : List Cond := [Cond.instanceMethod yX3_crossingsOfFirst, Cond.selects RX3 yX3_crossingsOfFirst yX3_crossingsOfFirst, Cond.code yX3_crossingsOfFirst cX3_crossingsOfFirst 6 (some .int), Cond.fieldLink RX3 18 "ChronicleRows$RowSearch" "places" "[I", Cond.methodLink RX3 127 yJ6_bitCount_0f7a4, Cond.static yJ6_bitCount_0f7a4, Cond.initialized RJ6, Cond.code yJ6_bitCount_0f7a4 cJ6_bitCount_0f7a4 1 (some .int), Cond.constant RJ6 265 (1431655765), Cond.constant RJ6 266 (858993459), Cond.constant RJ6 267 (252645135), Cond.methodLink RX3 132 yX3_crossingsFrom, Cond.instanceMethod yX3_crossingsFrom, Cond.selects RX3 yX3_crossingsFrom yX3_crossingsFrom, Cond.code yX3_crossingsFrom cX3_crossingsFrom 6 (some .int), Cond.fieldLink RX3 33 "ChronicleRows$RowSearch" "middles" "[I", Cond.methodLink RX3 111 yX3_goToNextOrder, Cond.instanceMethod yX3_goToNextOrder, Cond.selects RX3 yX3_goToNextOrder yX3_goToNextOrder, Cond.code yX3_goToNextOrder cX3_goToNextOrder 5 (some .boolean), Cond.methodLink RX3 119 yX3_exchange, Cond.instanceMethod yX3_exchange, Cond.selects RX3 yX3_exchange yX3_exchange, Cond.code yX3_exchange cX3_exchange 4 none]
def wsL_acts_r14 : List Cond := [Cond.methodLink RX7 124 yX3_layBest, Cond.instanceMethod yX3_layBest, Cond.selects RX3 yX3_layBest yX3_layBest, Cond.code yX3_layBest cX3_layBest 4 none, Cond.methodLink RX3 115 yX5_lay]
def wsL_acts : List Cond := .code yL_acts cL_acts 24 (some .boolean) :: ((wsL_acts_r1 ++ (wsL_acts_r2 ++ (wsL_acts_r3 ++ (wsL_acts_r4 ++ (wsL_acts_r5 ++ (wsL_acts_r6 ++ (wsL_acts_r7 ++ (wsL_acts_r8 ++ (wsL_acts_r9 ++ (wsL_acts_r10 ++ (wsL_acts_r11 ++ (wsL_acts_r12 ++ (wsL_acts_r13 ++ wsL_acts_r14))))))))))))) ++ wsX70 ++ wsX40 ++ wsX50 ++ wsX20 ++ wsX10 ++ wsX30 ++ (vx_atS RX7 67 "java/lang/IndexOutOfBoundsException" ["java/lang/RuntimeException", "java/lang/Exception"]).filter goodWord ++ (vx_atS RX7 87 "java/lang/IllegalArgumentException" ["java/lang/RuntimeException", "java/lang/Exception"]).filter goodWord)
def wsL_law0_r1 : List Cond := [Cond.classLink RL 39 RX7, Cond.instantiable RX7 8, Cond.initialized RX7, Cond.arrayClass .int, Cond.methodLink RL 111 yX7_init, Cond.instanceMethod yX7_init, Cond.code yX7_init cX7_init 2 none, Cond.methodLink RX7 1 objectInit, Cond.instanceMethod objectInit, Cond.code objectInit ⟨#[0xb1]⟩ 1 none, Cond.classLink RX7 7 RX5, Cond.instantiable RX5 10, Cond.initialized RX5, Cond.fieldLink RX7 10 "ChronicleRows" "now" "LChronicleRows$State;", Cond.fieldLink RX7 16 "ChronicleRows" "slots" "[LChronicleRows$State;", Cond.arrayClass .boolean, Cond.fieldLink RX7 20 "ChronicleRows" "kept" "[Z", Cond.classLink RX7 24 RX4, Cond.instantiable RX4 3, Cond.initialized RX4, Cond.fieldLink RX7 27 "ChronicleRows" "saved" "LChronicleRows$SavedStates;", Cond.classLink RX7 31 RX6, Cond.instantiable RX6 6, Cond.initialized RX6]
def wsL_law0_r2 : List Cond := [Cond.fieldLink RX7 34 "ChronicleRows" "text" "LChronicleRows$TextBuffer;", Cond.classLink RX7 38 RX2, Cond.instantiable RX2 3, Cond.initialized RX2, Cond.fieldLink RX7 41 "ChronicleRows" "lines" "LChronicleRows$RowLines;", Cond.classLink RX7 45 RX1, Cond.instantiable RX1 2, Cond.initialized RX1, Cond.fieldLink RX7 48 "ChronicleRows" "parentOrder" "LChronicleRows$ParentOrder;", Cond.classLink RX7 52 RX3, Cond.instantiable RX3 13, Cond.initialized RX3, Cond.fieldLink RX7 55 "ChronicleRows" "search" "LChronicleRows$RowSearch;", Cond.instanceMethod yX5_init, Cond.code yX5_init cX5_init 1 none, Cond.methodLink RX5 3 objectInit, Cond.fieldLink RX5 9 "ChronicleRows$State" "rows" "[I", Cond.fieldLink RX5 15 "ChronicleRows$State" "places" "[I", Cond.fieldLink RX5 18 "ChronicleRows$State" "parents" "[I", Cond.fieldLink RX5 21 "ChronicleRows$State" "lessers" "[I", Cond.fieldLink RX5 24 "ChronicleRows$State" "greaters" "[I", Cond.fieldLink RX5 27 "ChronicleRows$State" "orders" "[I", Cond.fieldLink RX5 30 "ChronicleRows$State" "sizes" "[I", Cond.methodLink RX7 26 yX4_init]
def wsL_law0_r3 : List Cond := [Cond.instanceMethod yX4_init, Cond.code yX4_init cX4_init 2 none, Cond.methodLink RX4 3 objectInit, Cond.classLink RX4 9 RX5, Cond.fieldLink RX4 11 "ChronicleRows$SavedStates" "ring" "[LChronicleRows$State;", Cond.instanceMethod yX6_init, Cond.code yX6_init cX6_init 1 none, Cond.methodLink RX6 3 objectInit, Cond.fieldLink RX6 9 "ChronicleRows$TextBuffer" "codes" "[I", Cond.instanceMethod yX2_init, Cond.code yX2_init cX2_init 1 none, Cond.methodLink RX2 3 objectInit, Cond.fieldLink RX2 9 "ChronicleRows$RowLines" "middles" "[I", Cond.fieldLink RX2 15 "ChronicleRows$RowLines" "places" "[I", Cond.instanceMethod yX1_init, Cond.code yX1_init cX1_init 1 none, Cond.methodLink RX1 3 objectInit, Cond.fieldLink RX1 9 "ChronicleRows$ParentOrder" "keys" "[I", Cond.fieldLink RX1 15 "ChronicleRows$ParentOrder" "order" "[I", Cond.instanceMethod yX3_init, Cond.code yX3_init cX3_init 1 none, Cond.methodLink RX3 3 objectInit, Cond.fieldLink RX3 9 "ChronicleRows$RowSearch" "order" "[I", Cond.fieldLink RX3 15 "ChronicleRows$RowSearch" "bestOrder" "[I"]
def wsL_law0_r4 : List Cond := [Cond.fieldLink RX3 18 "ChronicleRows$RowSearch" "places" "[I", Cond.fieldLink RX3 21 "ChronicleRows$RowSearch" "crossedFromLeft" "[I", Cond.fieldLink RX3 24 "ChronicleRows$RowSearch" "couples" "[I", Cond.fieldLink RX3 27 "ChronicleRows$RowSearch" "lessers" "[I", Cond.fieldLink RX3 30 "ChronicleRows$RowSearch" "greaters" "[I", Cond.fieldLink RX3 33 "ChronicleRows$RowSearch" "middles" "[I", Cond.fieldLink RX3 36 "ChronicleRows$RowSearch" "parentIndexes" "[I", Cond.classLink RX3 39 "[[I", Cond.fieldLink RX3 41 "ChronicleRows$RowSearch" "crossedIfLess" "[[I", Cond.methodLink RL 112 yL_arePeople, Cond.static yL_arePeople, Cond.initialized RL, Cond.code yL_arePeople cL_arePeople 14 (some .boolean), Cond.methodLink RL 38 yX7_count, Cond.instanceMethod yX7_count, Cond.selects RX7 yX7_count yX7_count, Cond.code yX7_count cX7_count 2 (some .int), Cond.classLink RX7 83 "java/lang/IllegalArgumentException", Cond.initialized "java/lang/IllegalArgumentException", Cond.methodLink RX7 169 yX5_people, Cond.instanceMethod yX5_people, Cond.selects RX5 yX5_people yX5_people, Cond.code yX5_people cX5_people 1 (some .int), Cond.fieldLink RX5 39 "ChronicleRows$State" "people" "I"]
def wsL_law0_r5 : List Cond := [Cond.methodLink RX7 245 yX5_couples, Cond.instanceMethod yX5_couples, Cond.selects RX5 yX5_couples yX5_couples, Cond.code yX5_couples cX5_couples 1 (some .int), Cond.fieldLink RX5 43 "ChronicleRows$State" "couples" "I", Cond.methodLink RX7 248 yX5_lines, Cond.instanceMethod yX5_lines, Cond.selects RX5 yX5_lines yX5_lines, Cond.code yX5_lines cX5_lines 1 (some .int), Cond.methodLink RX5 107 yX5_childrenOf, Cond.instanceMethod yX5_childrenOf, Cond.selects RX5 yX5_childrenOf yX5_childrenOf, Cond.code yX5_childrenOf cX5_childrenOf 4 (some .int), Cond.methodLink RX7 105 yX7_allCrossings, Cond.instanceMethod yX7_allCrossings, Cond.selects RX7 yX7_allCrossings yX7_allCrossings, Cond.code yX7_allCrossings cX7_allCrossings 3 (some .int), Cond.methodLink RX7 236 yX2_collect, Cond.instanceMethod yX2_collect, Cond.selects RX2 yX2_collect yX2_collect, Cond.code yX2_collect cX2_collect 5 none, Cond.fieldLink RX2 18 "ChronicleRows$RowLines" "size" "I", Cond.methodLink RX2 22 yX5_sizeOf, Cond.instanceMethod yX5_sizeOf]
def wsL_law0_r6 : List Cond := [Cond.selects RX5 yX5_sizeOf yX5_sizeOf, Cond.code yX5_sizeOf cX5_sizeOf 2 (some .int), Cond.methodLink RX2 28 yX5_personAt, Cond.instanceMethod yX5_personAt, Cond.selects RX5 yX5_personAt yX5_personAt, Cond.code yX5_personAt cX5_personAt 3 (some .int), Cond.methodLink RX5 56 yX5_sizeOf, Cond.methodLink RX2 32 yX5_middleAbove, Cond.instanceMethod yX5_middleAbove, Cond.selects RX5 yX5_middleAbove yX5_middleAbove, Cond.code yX5_middleAbove cX5_middleAbove 2 (some .int), Cond.methodLink RX5 63 yX5_parentsOf, Cond.instanceMethod yX5_parentsOf, Cond.selects RX5 yX5_parentsOf yX5_parentsOf, Cond.code yX5_parentsOf cX5_parentsOf 2 (some .int), Cond.methodLink RX5 49 yX5_isPerson, Cond.instanceMethod yX5_isPerson, Cond.selects RX5 yX5_isPerson yX5_isPerson, Cond.code yX5_isPerson cX5_isPerson 2 (some .boolean), Cond.methodLink RX5 66 yX5_middleOf, Cond.instanceMethod yX5_middleOf, Cond.selects RX5 yX5_middleOf yX5_middleOf, Cond.code yX5_middleOf cX5_middleOf 2 (some .int), Cond.methodLink RX5 53 yX5_isCouple]
def wsL_law0_r7 : List Cond := [Cond.instanceMethod yX5_isCouple, Cond.selects RX5 yX5_isCouple yX5_isCouple, Cond.code yX5_isCouple cX5_isCouple 2 (some .boolean), Cond.methodLink RX5 60 yX5_placeOf, Cond.instanceMethod yX5_placeOf, Cond.selects RX5 yX5_placeOf yX5_placeOf, Cond.code yX5_placeOf cX5_placeOf 2 (some .int), Cond.methodLink RX7 239 yX2_crossedPairs, Cond.instanceMethod yX2_crossedPairs, Cond.selects RX2 yX2_crossedPairs yX2_crossedPairs, Cond.code yX2_crossedPairs cX2_crossedPairs 4 (some .int), Cond.methodLink RX7 250 yX5_bentLines, Cond.instanceMethod yX5_bentLines, Cond.selects RX5 yX5_bentLines yX5_bentLines, Cond.code yX5_bentLines cX5_bentLines 3 (some .int), Cond.methodLink RX5 110 yX5_middleAbove, Cond.methodLink RX7 253 yX5_doubles, Cond.instanceMethod yX5_doubles, Cond.selects RX5 yX5_doubles yX5_doubles, Cond.code yX5_doubles cX5_doubles 3 (some .int), Cond.methodLink RX5 98 yX5_isDouble, Cond.instanceMethod yX5_isDouble, Cond.selects RX5 yX5_isDouble yX5_isDouble, Cond.code yX5_isDouble cX5_isDouble 2 (some .boolean)]
def wsL_law0_r8 : List Cond := [Cond.methodLink RX5 101 yX5_couplesWith, Cond.instanceMethod yX5_couplesWith, Cond.selects RX5 yX5_couplesWith yX5_couplesWith, Cond.code yX5_couplesWith cX5_couplesWith 4 (some .int), Cond.methodLink RX7 256 yX0_kinCouples, Cond.static yX0_kinCouples, Cond.initialized RX0, Cond.code yX0_kinCouples cX0_kinCouples 3 (some .int), Cond.methodLink RX0 34 yX5_couples, Cond.methodLink RX0 37 yX0_commonAncestors, Cond.static yX0_commonAncestors, Cond.code yX0_commonAncestors cX0_commonAncestors 2 (some .int), Cond.methodLink RX0 15 yX5_lesserOf, Cond.instanceMethod yX5_lesserOf, Cond.selects RX5 yX5_lesserOf yX5_lesserOf, Cond.code yX5_lesserOf cX5_lesserOf 2 (some .int), Cond.methodLink RX0 31 yX0_ancestors, Cond.static yX0_ancestors, Cond.code yX0_ancestors cX0_ancestors 4 (some .int), Cond.methodLink RX0 21 yX0_parentBits, Cond.static yX0_parentBits, Cond.code yX0_parentBits cX0_parentBits 3 (some .int), Cond.methodLink RX0 9 yX5_parentsOf, Cond.methodLink RX0 18 yX5_greaterOf]
def wsL_law0_r9 : List Cond := [Cond.instanceMethod yX5_greaterOf, Cond.selects RX5 yX5_greaterOf yX5_greaterOf, Cond.code yX5_greaterOf cX5_greaterOf 2 (some .int), Cond.methodLink RX7 260 yX5_refused, Cond.instanceMethod yX5_refused, Cond.selects RX5 yX5_refused yX5_refused, Cond.code yX5_refused cX5_refused 1 (some .int), Cond.fieldLink RX5 46 "ChronicleRows$State" "refused" "I", Cond.methodLink RX7 174 yX4_size, Cond.instanceMethod yX4_size, Cond.selects RX4 yX4_size yX4_size, Cond.code yX4_size cX4_size 1 (some .int), Cond.fieldLink RX4 18 "ChronicleRows$SavedStates" "size" "I", Cond.methodLink RL 43 yL_ancestors, Cond.static yL_ancestors, Cond.code yL_ancestors cL_ancestors 8 (some .int), Cond.methodLink RL 46 yX7_personOf, Cond.instanceMethod yX7_personOf, Cond.selects RX7 yX7_personOf yX7_personOf, Cond.code yX7_personOf cX7_personOf 3 (some .int), Cond.classLink RX7 63 "java/lang/IndexOutOfBoundsException", Cond.initialized "java/lang/IndexOutOfBoundsException", Cond.methodLink RX7 78 yX5_isPerson, Cond.methodLink RX7 182 yX5_rowOf]
def wsL_law0_r10 : List Cond := [Cond.instanceMethod yX5_rowOf, Cond.selects RX5 yX5_rowOf yX5_rowOf, Cond.code yX5_rowOf cX5_rowOf 2 (some .int), Cond.methodLink RX7 185 yX5_placeOf, Cond.methodLink RX7 188 yX5_parentsOf, Cond.methodLink RX7 191 yX5_couplesWith, Cond.methodLink RX7 194 yX5_childrenWith, Cond.instanceMethod yX5_childrenWith, Cond.selects RX5 yX5_childrenWith yX5_childrenWith, Cond.code yX5_childrenWith cX5_childrenWith 4 (some .int), Cond.methodLink RX7 197 yX0_descendants, Cond.static yX0_descendants, Cond.code yX0_descendants cX0_descendants 4 (some .int), Cond.methodLink RX0 27 yX5_people, Cond.methodLink RX7 202 yJ6_bitCount_0f7a4, Cond.static yJ6_bitCount_0f7a4, Cond.initialized RJ6, Cond.code yJ6_bitCount_0f7a4 cJ6_bitCount_0f7a4 1 (some .int), Cond.constant RJ6 265 (1431655765), Cond.constant RJ6 266 (858993459), Cond.constant RJ6 267 (252645135), Cond.methodLink RX7 207 yX0_ancestors, Cond.methodLink RL 9 yL_place, Cond.static yL_place]
def wsL_law0_r11 : List Cond := [Cond.code yL_place cL_place 4 (some .int), Cond.methodLink RL 50 yL_couples, Cond.static yL_couples, Cond.code yL_couples cL_couples 5 (some .int), Cond.methodLink RL 23 yL_ones, Cond.static yL_ones, Cond.code yL_ones cL_ones 3 (some .int), Cond.methodLink RL 15 yL_middle, Cond.static yL_middle, Cond.code yL_middle cL_middle 4 (some .int), Cond.methodLink RL 53 yX7_straightShare, Cond.instanceMethod yX7_straightShare, Cond.selects RX7 yX7_straightShare yX7_straightShare, Cond.code yX7_straightShare cX7_straightShare 2 (some .double), Cond.methodLink RL 116 yL_areRows, Cond.static yL_areRows, Cond.code yL_areRows cL_areRows 10 (some .boolean), Cond.methodLink RL 57 yL_all, Cond.static yL_all, Cond.code yL_all cL_all 4 (some .int), Cond.methodLink RL 19 yL_crosses, Cond.static yL_crosses, Cond.code yL_crosses cL_crosses 10 (some .int), Cond.methodLink RL 61 yX7_coupleOf]
def wsL_law0_r12 : List Cond := [Cond.instanceMethod yX7_coupleOf, Cond.selects RX7 yX7_coupleOf yX7_coupleOf, Cond.code yX7_coupleOf cX7_coupleOf 3 (some .int), Cond.methodLink RX7 91 yX5_isCouple, Cond.methodLink RX7 212 yX5_lesserOf, Cond.methodLink RX7 215 yX5_greaterOf, Cond.methodLink RX7 218 yX5_middleOf, Cond.methodLink RX7 221 yX5_childrenOf, Cond.methodLink RX7 224 yX0_commonAncestors, Cond.methodLink RL 64 yX7_crossings, Cond.instanceMethod yX7_crossings, Cond.selects RX7 yX7_crossings yX7_crossings, Cond.code yX7_crossings cX7_crossings 3 (some .int), Cond.methodLink RX7 59 yX7_isRow, Cond.static yX7_isRow, Cond.code yX7_isRow cX7_isRow 1 (some .boolean), Cond.methodLink RX7 242 yX2_crossedOneByOne, Cond.instanceMethod yX2_crossedOneByOne, Cond.selects RX2 yX2_crossedOneByOne yX2_crossedOneByOne, Cond.code yX2_crossedOneByOne cX2_crossedOneByOne 4 (some .int), Cond.methodLink RX2 35 yX2_sortByMiddles, Cond.instanceMethod yX2_sortByMiddles, Cond.selects RX2 yX2_sortByMiddles yX2_sortByMiddles, Cond.code yX2_sortByMiddles cX2_sortByMiddles 5 none]
def wsL_law0_r13 : List Cond := [Cond.methodLink RL 67 yX7_at, Cond.instanceMethod yX7_at, Cond.selects RX7 yX7_at yX7_at, Cond.code yX7_at cX7_at 3 (some .int), Cond.methodLink RX7 231 yX5_personAt, Cond.methodLink RL 76 yX7_bestSwap, Cond.instanceMethod yX7_bestSwap, Cond.selects RX7 yX7_bestSwap yX7_bestSwap, Cond.code yX7_bestSwap cX7_bestSwap 6 (some .int), Cond.methodLink RX7 100 yX5_sizeOf, Cond.methodLink RX7 109 yX5_exchange, Cond.instanceMethod yX5_exchange, Cond.selects RX5 yX5_exchange yX5_exchange, Cond.code yX5_exchange cX5_exchange 5 none, Cond.methodLink RX5 104 yX5_personAt, Cond.methodLink RX5 69 yX5_lay, Cond.instanceMethod yX5_lay, Cond.selects RX5 yX5_lay yX5_lay, Cond.code yX5_lay cX5_lay 4 none, Cond.methodLink RL 73 yX7_least, Cond.instanceMethod yX7_least, Cond.selects RX7 yX7_least yX7_least, Cond.code yX7_least cX7_least 3 (some .int), Cond.methodLink RX7 117 yX3_prepare]
def wsL_law0_r14 : List Cond := [Cond.instanceMethod yX3_prepare, Cond.selects RX3 yX3_prepare yX3_prepare, Cond.code yX3_prepare cX3_prepare 3 none, Cond.methodLink RX3 44 yX3_listPeople, Cond.instanceMethod yX3_listPeople, Cond.selects RX3 yX3_listPeople yX3_listPeople, Cond.code yX3_listPeople cX3_listPeople 4 none, Cond.fieldLink RX3 65 "ChronicleRows$RowSearch" "size" "I", Cond.methodLink RX3 69 yX5_people, Cond.methodLink RX3 73 yX5_rowOf, Cond.methodLink RX3 48 yX3_noteLinesTo, Cond.instanceMethod yX3_noteLinesTo, Cond.selects RX3 yX3_noteLinesTo yX3_noteLinesTo, Cond.code yX3_noteLinesTo cX3_noteLinesTo 6 none, Cond.methodLink RX3 76 yX5_middleAbove, Cond.methodLink RX3 52 yX3_listCouples, Cond.instanceMethod yX3_listCouples, Cond.selects RX3 yX3_listCouples yX3_listCouples, Cond.code yX3_listCouples cX3_listCouples 5 none, Cond.fieldLink RX3 79 "ChronicleRows$RowSearch" "coupleCount" "I", Cond.methodLink RX3 55 yX5_sizeOf, Cond.methodLink RX3 82 yX5_personAt, Cond.methodLink RX3 86 yX5_parentsOf, Cond.methodLink RX3 89 yX3_indexOfCouple]
def wsL_law0_r15 : List Cond := [Cond.instanceMethod yX3_indexOfCouple, Cond.selects RX3 yX3_indexOfCouple yX3_indexOfCouple, Cond.code yX3_indexOfCouple cX3_indexOfCouple 4 (some .int), Cond.methodLink RX3 93 yX5_lesserOf, Cond.methodLink RX3 96 yX5_greaterOf, Cond.methodLink RX3 61 yX3_noteLinesFrom, Cond.instanceMethod yX3_noteLinesFrom, Cond.selects RX3 yX3_noteLinesFrom yX3_noteLinesFrom, Cond.code yX3_noteLinesFrom cX3_noteLinesFrom 4 none, Cond.methodLink RX7 121 yX3_leastByAllOrders, Cond.instanceMethod yX3_leastByAllOrders, Cond.selects RX3 yX3_leastByAllOrders yX3_leastByAllOrders, Cond.code yX3_leastByAllOrders cX3_leastByAllOrders 4 (some .int), Cond.fieldLink RX3 99 "ChronicleRows$RowSearch" "fewest" "I", Cond.methodLink RX3 105 arraycopyName, Cond.native arraycopyName, Cond.static arraycopyName, Cond.initialized "java/lang/System", Cond.methodLink RX3 102 yX3_crossingsOfFirst, Cond.instanceMethod yX3_crossingsOfFirst, Cond.selects RX3 yX3_crossingsOfFirst yX3_crossingsOfFirst, Cond.code yX3_crossingsOfFirst cX3_crossingsOfFirst 6 (some .int), Cond.methodLink RX3 127 yJ6_bitCount_0f7a4, Cond.methodLink RX3 132 yX3_crossingsFrom]
def wsL_law0_r16 : List Cond := [Cond.instanceMethod yX3_crossingsFrom, Cond.selects RX3 yX3_crossingsFrom yX3_crossingsFrom, Cond.code yX3_crossingsFrom cX3_crossingsFrom 6 (some .int), Cond.methodLink RX3 111 yX3_goToNextOrder, Cond.instanceMethod yX3_goToNextOrder, Cond.selects RX3 yX3_goToNextOrder yX3_goToNextOrder, Cond.code yX3_goToNextOrder cX3_goToNextOrder 5 (some .boolean), Cond.methodLink RX3 119 yX3_exchange, Cond.instanceMethod yX3_exchange, Cond.selects RX3 yX3_exchange yX3_exchange, Cond.code yX3_exchange cX3_exchange 4 none, Cond.methodLink RX7 265 yX3_leastByLaying, Cond.instanceMethod yX3_leastByLaying, Cond.selects RX3 yX3_leastByLaying yX3_leastByLaying, Cond.code yX3_leastByLaying cX3_leastByLaying 1 (some .int), Cond.methodLink RX3 123 yX3_layOn, Cond.static yX3_layOn, Cond.code yX3_layOn cX3_layOn 4 none, Cond.methodLink RL 119 yL_cell, Cond.static yL_cell, Cond.code yL_cell cL_cell 2 (some .int), Cond.constant RL 7 (1739704803), Cond.methodLink RL 80 yL_low, Cond.static yL_low]
def wsL_law0_r17 : List Cond := [Cond.code yL_low cL_low 2 (some .int), Cond.constant RL 8 (2147483647), Cond.methodLink RL 123 yL_acts, Cond.static yL_acts, Cond.code yL_acts cL_acts 24 (some .boolean), Cond.methodLink RL 86 yX7_person, Cond.instanceMethod yX7_person, Cond.selects RX7 yX7_person yX7_person, Cond.code yX7_person cX7_person 2 (some .int), Cond.methodLink RX7 70 yX4_push, Cond.instanceMethod yX4_push, Cond.selects RX4 yX4_push yX4_push, Cond.code yX4_push cX4_push 2 none, Cond.fieldLink RX4 22 "ChronicleRows$SavedStates" "oldest" "I", Cond.methodLink RX4 25 yX5_copyFrom, Cond.instanceMethod yX5_copyFrom, Cond.selects RX5 yX5_copyFrom yX5_copyFrom, Cond.code yX5_copyFrom cX5_copyFrom 2 none, Cond.methodLink RX5 33 arraycopyName, Cond.methodLink RX7 74 yX5_addPerson, Cond.instanceMethod yX5_addPerson, Cond.selects RX5 yX5_addPerson yX5_addPerson, Cond.code yX5_addPerson cX5_addPerson 5 (some .int), Cond.methodLink RL 89 yL_comes]
def wsL_law0_r18 : List Cond := [Cond.static yL_comes, Cond.code yL_comes cL_comes 5 (some .int), Cond.methodLink RL 93 yX7_marry, Cond.instanceMethod yX7_marry, Cond.selects RX7 yX7_marry yX7_marry, Cond.code yX7_marry cX7_marry 3 (some .int), Cond.methodLink RX7 88 yX5_addCouple, Cond.instanceMethod yX5_addCouple, Cond.selects RX5 yX5_addCouple yX5_addCouple, Cond.code yX5_addCouple cX5_addCouple 5 (some .int), Cond.methodLink RX5 86 Lib.Math.min.name, Cond.static Lib.Math.min.name, Cond.initialized "java/lang/Math", Cond.code Lib.Math.min.name Lib.Math.min.code 2 (some .int), Cond.methodLink RX5 91 Lib.Math.max.name, Cond.static Lib.Math.max.name, Cond.code Lib.Math.max.name Lib.Math.max.code 2 (some .int), Cond.methodLink RX5 83 yX5_reasonAgainst, Cond.instanceMethod yX5_reasonAgainst, Cond.selects RX5 yX5_reasonAgainst yX5_reasonAgainst, Cond.code yX5_reasonAgainst cX5_reasonAgainst 3 (some .int), Cond.methodLink RX5 76 yX5_rowOf, Cond.methodLink RX5 94 yX5_areCouple, Cond.instanceMethod yX5_areCouple]
def wsL_law0_r19 : List Cond := [Cond.selects RX5 yX5_areCouple yX5_areCouple, Cond.code yX5_areCouple cX5_areCouple 4 (some .boolean), Cond.methodLink RL 96 yL_marries, Cond.static yL_marries, Cond.code yL_marries cL_marries 9 (some .int), Cond.methodLink RL 99 yX7_child, Cond.instanceMethod yX7_child, Cond.selects RX7 yX7_child yX7_child, Cond.code yX7_child cX7_child 2 (some .int), Cond.methodLink RX7 96 yX5_addChild, Cond.instanceMethod yX5_addChild, Cond.selects RX5 yX5_addChild yX5_addChild, Cond.code yX5_addChild cX5_addChild 2 (some .int), Cond.methodLink RX5 73 yX5_lesserOf, Cond.methodLink RX5 79 yX5_addPerson, Cond.methodLink RL 102 yX7_swap, Cond.instanceMethod yX7_swap, Cond.selects RX7 yX7_swap yX7_swap, Cond.code yX7_swap cX7_swap 4 (some .int), Cond.methodLink RL 27 yL_copy, Cond.static yL_copy, Cond.code yL_copy cL_copy 3 none, Cond.methodLink RL 105 yX7_byParents, Cond.instanceMethod yX7_byParents]
def wsL_law0_r20 : List Cond := [Cond.selects RX7 yX7_byParents yX7_byParents, Cond.code yX7_byParents cX7_byParents 2 (some .int), Cond.methodLink RX7 113 yX1_lay, Cond.instanceMethod yX1_lay, Cond.selects RX1 yX1_lay yX1_lay, Cond.code yX1_lay cX1_lay 7 (some .int), Cond.methodLink RX1 24 Lib.Math.min.name, Cond.methodLink RX1 18 yX5_sizeOf, Cond.methodLink RX1 30 yX5_personAt, Cond.methodLink RX1 33 yX5_middleAbove, Cond.methodLink RX1 36 yX1_placeByKey, Cond.instanceMethod yX1_placeByKey, Cond.selects RX1 yX1_placeByKey yX1_placeByKey, Cond.code yX1_placeByKey cX1_placeByKey 5 (some .int), Cond.methodLink RX1 39 yX5_lay, Cond.methodLink RL 70 yL_best, Cond.static yL_best, Cond.code yL_best cL_best 11 (some .int), Cond.methodLink RL 31 yL_lays, Cond.static yL_lays, Cond.code yL_lays cL_lays 12 none, Cond.methodLink RL 35 yL_ofTwo, Cond.static yL_ofTwo, Cond.code yL_ofTwo cL_ofTwo 5 (some .int)]
def wsL_law0_r21 : List Cond := [Cond.methodLink RL 108 yX7_untangle, Cond.instanceMethod yX7_untangle, Cond.selects RX7 yX7_untangle yX7_untangle, Cond.code yX7_untangle cX7_untangle 3 (some .int), Cond.methodLink RX7 124 yX3_layBest, Cond.instanceMethod yX3_layBest, Cond.selects RX3 yX3_layBest yX3_layBest, Cond.code yX3_layBest cX3_layBest 4 none, Cond.methodLink RX3 115 yX5_lay, Cond.methodLink RL 127 yL_isLeast, Cond.static yL_isLeast, Cond.code yL_isLeast cL_isLeast 18 (some .boolean), Cond.methodLink RL 83 yX7_nearness, Cond.instanceMethod yX7_nearness, Cond.selects RX7 yX7_nearness yX7_nearness, Cond.code yX7_nearness cX7_nearness 3 (some .int), Cond.methodLink RX7 268 yX0_fewestLines, Cond.static yX0_fewestLines, Cond.code yX0_fewestLines cX0_fewestLines 7 (some .int), Cond.methodLink RX0 40 yX5_rowOf]
def wsL_law0 : List Cond := (wsL_law0_r1 ++ (wsL_law0_r2 ++ (wsL_law0_r3 ++ (wsL_law0_r4 ++ (wsL_law0_r5 ++ (wsL_law0_r6 ++ (wsL_law0_r7 ++ (wsL_law0_r8 ++ (wsL_law0_r9 ++ (wsL_law0_r10 ++ (wsL_law0_r11 ++ (wsL_law0_r12 ++ (wsL_law0_r13 ++ (wsL_law0_r14 ++ (wsL_law0_r15 ++ (wsL_law0_r16 ++ (wsL_law0_r17 ++ (wsL_law0_r18 ++ (wsL_law0_r19 ++ (wsL_law0_r20 ++ wsL_law0_r21)))))))))))))))))))) ++ wsX70 ++ wsX50 ++ wsX40 ++ wsX60 ++ wsX20 ++ wsX10 ++ wsX30 ++ ([] : List Cond)
def wsL_law : List Cond := wsL_law0 ++ (vx_atS RX7 87 "java/lang/IllegalArgumentException" ["java/lang/RuntimeException", "java/lang/Exception"]).filter goodWord ++ (vx_atS RX7 67 "java/lang/IndexOutOfBoundsException" ["java/lang/RuntimeException", "java/lang/Exception"]).filter goodWord
set_option maxRecDepth 20000 in
set_option maxRecDepth 20000 in
theorem ggX0_parentBits_X5_parentsOf : GoodIn wsX0_parentBits wsX5_parentsOf := goodIn_r _ [5, 6, 7, 8, 9, 4, 10, 11, 27, 28, 29, 30, 31, 32, 33, 34, 35, 36] (by decide +kernel) (by decide +kernel)
set_option maxRecDepth 20000 in
theorem gX0_parentBits_X5_parentsOf : GoodIn wsX0_parentBits (wsV RX0 9 RX5 yX5_parentsOf wsX5_parentsOf) := goodIn_app (goodIn_of _ (by decide +kernel)) ggX0_parentBits_X5_parentsOf
set_option maxRecDepth 20000 in
theorem ggX0_parentBits_X5_lesserOf : GoodIn wsX0_parentBits wsX5_lesserOf := goodIn_r _ [15, 16, 17, 18, 19, 4, 20, 21, 27, 28, 29, 30, 31, 32, 33, 34, 35, 36] (by decide +kernel) (by decide +kernel)
set_option maxRecDepth 20000 in
theorem gX0_parentBits_X5_lesserOf : GoodIn wsX0_parentBits (wsV RX0 15 RX5 yX5_lesserOf wsX5_lesserOf) := goodIn_app (goodIn_of _ (by decide +kernel)) ggX0_parentBits_X5_lesserOf
set_option maxRecDepth 20000 in
theorem ggX0_parentBits_X5_greaterOf : GoodIn wsX0_parentBits wsX5_greaterOf := goodIn_r _ [25, 26, 17, 18, 19, 4, 20, 21, 27, 28, 29, 30, 31, 32, 33, 34, 35, 36] (by decide +kernel) (by decide +kernel)
set_option maxRecDepth 20000 in
theorem gX0_parentBits_X5_greaterOf : GoodIn wsX0_parentBits (wsV RX0 18 RX5 yX5_greaterOf wsX5_greaterOf) := goodIn_app (goodIn_of _ (by decide +kernel)) ggX0_parentBits_X5_greaterOf
theorem dX0_parentBits_0 : decode cX0_parentBits 0 = .ok (.aload_n 0, 1) := by decide +kernel
theorem dX0_parentBits_1 : decode cX0_parentBits 1 = .ok (.iload_n 1, 1) := by decide +kernel
theorem dX0_parentBits_2 : decode cX0_parentBits 2 = .ok (.invokevirtual 9, 3) := by decide +kernel
theorem dX0_parentBits_5 : decode cX0_parentBits 5 = .ok (.istore_n 2, 1) := by decide +kernel
theorem dX0_parentBits_6 : decode cX0_parentBits 6 = .ok (.iload_n 2, 1) := by decide +kernel
theorem dX0_parentBits_7 : decode cX0_parentBits 7 = .ok (.iconst (-1), 1) := by decide +kernel
theorem dX0_parentBits_8 : decode cX0_parentBits 8 = .ok (.if_icmp .ne 5, 3) := by decide +kernel
theorem dX0_parentBits_11 : decode cX0_parentBits 11 = .ok (.iconst 0, 1) := by decide +kernel
theorem dX0_parentBits_12 : decode cX0_parentBits 12 = .ok (.ireturn, 1) := by decide +kernel
theorem dX0_parentBits_13 : decode cX0_parentBits 13 = .ok (.iconst 1, 1) := by decide +kernel
theorem dX0_parentBits_14 : decode cX0_parentBits 14 = .ok (.aload_n 0, 1) := by decide +kernel
theorem dX0_parentBits_15 : decode cX0_parentBits 15 = .ok (.iload_n 2, 1) := by decide +kernel
theorem dX0_parentBits_16 : decode cX0_parentBits 16 = .ok (.invokevirtual 15, 3) := by decide +kernel
theorem dX0_parentBits_19 : decode cX0_parentBits 19 = .ok (.ishl, 1) := by decide +kernel
theorem dX0_parentBits_20 : decode cX0_parentBits 20 = .ok (.iconst 1, 1) := by decide +kernel
theorem dX0_parentBits_21 : decode cX0_parentBits 21 = .ok (.aload_n 0, 1) := by decide +kernel
theorem dX0_parentBits_22 : decode cX0_parentBits 22 = .ok (.iload_n 2, 1) := by decide +kernel
theorem dX0_parentBits_23 : decode cX0_parentBits 23 = .ok (.invokevirtual 18, 3) := by decide +kernel
theorem dX0_parentBits_26 : decode cX0_parentBits 26 = .ok (.ishl, 1) := by decide +kernel
theorem dX0_parentBits_27 : decode cX0_parentBits 27 = .ok (.ior, 1) := by decide +kernel
theorem dX0_parentBits_28 : decode cX0_parentBits 28 = .ok (.ireturn, 1) := by decide +kernel
set_option maxRecDepth 20000 in
theorem ggX0_ancestors_X0_parentBits : GoodIn wsX0_ancestors wsX0_parentBits := goodIn_r _ [4, 5, 6, 7, 8, 9, 10, 11, 12, 13, 14, 15, 16, 17, 18, 19, 20, 21, 22, 23, 24, 25, 26, 27, 28, 29, 30, 31, 32, 33, 34, 35, 36, 37, 38, 39, 40] (by decide +kernel) (by decide +kernel)
set_option maxRecDepth 20000 in
theorem gX0_ancestors_X0_parentBits : GoodIn wsX0_ancestors (va_wsS RX0 21 yX0_parentBits wsX0_parentBits) := goodIn_app (goodIn_of _ (by decide +kernel)) ggX0_ancestors_X0_parentBits
theorem dX0_ancestors_0 : decode cX0_ancestors 0 = .ok (.aload_n 0, 1) := by decide +kernel
theorem dX0_ancestors_1 : decode cX0_ancestors 1 = .ok (.iload_n 1, 1) := by decide +kernel
theorem dX0_ancestors_2 : decode cX0_ancestors 2 = .ok (.invokestatic 21, 3) := by decide +kernel
theorem dX0_ancestors_5 : decode cX0_ancestors 5 = .ok (.istore_n 2, 1) := by decide +kernel
theorem dX0_ancestors_6 : decode cX0_ancestors 6 = .ok (.iload_n 1, 1) := by decide +kernel
theorem dX0_ancestors_7 : decode cX0_ancestors 7 = .ok (.iconst 1, 1) := by decide +kernel
theorem dX0_ancestors_8 : decode cX0_ancestors 8 = .ok (.isub, 1) := by decide +kernel
theorem dX0_ancestors_9 : decode cX0_ancestors 9 = .ok (.istore_n 3, 1) := by decide +kernel
theorem dX0_ancestors_10 : decode cX0_ancestors 10 = .ok (.iload_n 3, 1) := by decide +kernel
theorem dX0_ancestors_11 : decode cX0_ancestors 11 = .ok (.ifCond .lt 25, 3) := by decide +kernel
theorem dX0_ancestors_14 : decode cX0_ancestors 14 = .ok (.iload_n 2, 1) := by decide +kernel
theorem dX0_ancestors_15 : decode cX0_ancestors 15 = .ok (.iconst 1, 1) := by decide +kernel
theorem dX0_ancestors_16 : decode cX0_ancestors 16 = .ok (.iload_n 3, 1) := by decide +kernel
theorem dX0_ancestors_17 : decode cX0_ancestors 17 = .ok (.ishl, 1) := by decide +kernel
theorem dX0_ancestors_18 : decode cX0_ancestors 18 = .ok (.iand, 1) := by decide +kernel
theorem dX0_ancestors_19 : decode cX0_ancestors 19 = .ok (.ifCond .eq 11, 3) := by decide +kernel
theorem dX0_ancestors_22 : decode cX0_ancestors 22 = .ok (.iload_n 2, 1) := by decide +kernel
theorem dX0_ancestors_23 : decode cX0_ancestors 23 = .ok (.aload_n 0, 1) := by decide +kernel
theorem dX0_ancestors_24 : decode cX0_ancestors 24 = .ok (.iload_n 3, 1) := by decide +kernel
theorem dX0_ancestors_25 : decode cX0_ancestors 25 = .ok (.invokestatic 21, 3) := by decide +kernel
theorem dX0_ancestors_28 : decode cX0_ancestors 28 = .ok (.ior, 1) := by decide +kernel
theorem dX0_ancestors_29 : decode cX0_ancestors 29 = .ok (.istore_n 2, 1) := by decide +kernel
theorem dX0_ancestors_30 : decode cX0_ancestors 30 = .ok (.iinc 3 (-1), 3) := by decide +kernel
theorem dX0_ancestors_33 : decode cX0_ancestors 33 = .ok (.goto (-23), 3) := by decide +kernel
theorem dX0_ancestors_36 : decode cX0_ancestors 36 = .ok (.iload_n 2, 1) := by decide +kernel
theorem dX0_ancestors_37 : decode cX0_ancestors 37 = .ok (.ireturn, 1) := by decide +kernel
set_option maxRecDepth 20000 in
theorem ggX0_descendants_X5_people : GoodIn wsX0_descendants wsX5_people := goodIn_r _ [5, 6, 35, 36, 37, 38, 39, 40, 41, 42, 43, 44] (by decide +kernel) (by decide +kernel)
set_option maxRecDepth 20000 in
theorem gX0_descendants_X5_people : GoodIn wsX0_descendants (wsV RX0 27 RX5 yX5_people wsX5_people) := goodIn_app (goodIn_of _ (by decide +kernel)) ggX0_descendants_X5_people
set_option maxRecDepth 20000 in
theorem ggX0_descendants_X0_parentBits : GoodIn wsX0_descendants wsX0_parentBits := goodIn_r _ [10, 11, 12, 13, 4, 14, 15, 16, 17, 18, 19, 6, 20, 21, 22, 23, 24, 25, 26, 27, 28, 29, 30, 31, 32, 33, 34, 35, 36, 37, 38, 39, 40, 41, 42, 43, 44] (by decide +kernel) (by decide +kernel)
set_option maxRecDepth 20000 in
theorem gX0_descendants_X0_parentBits : GoodIn wsX0_descendants (va_wsS RX0 21 yX0_parentBits wsX0_parentBits) := goodIn_app (goodIn_of _ (by decide +kernel)) ggX0_descendants_X0_parentBits
theorem dX0_descendants_0 : decode cX0_descendants 0 = .ok (.iconst 1, 1) := by decide +kernel
theorem dX0_descendants_1 : decode cX0_descendants 1 = .ok (.iload_n 1, 1) := by decide +kernel
theorem dX0_descendants_2 : decode cX0_descendants 2 = .ok (.ishl, 1) := by decide +kernel
theorem dX0_descendants_3 : decode cX0_descendants 3 = .ok (.istore_n 2, 1) := by decide +kernel
theorem dX0_descendants_4 : decode cX0_descendants 4 = .ok (.iload_n 1, 1) := by decide +kernel
theorem dX0_descendants_5 : decode cX0_descendants 5 = .ok (.iconst 1, 1) := by decide +kernel
theorem dX0_descendants_6 : decode cX0_descendants 6 = .ok (.iadd, 1) := by decide +kernel
theorem dX0_descendants_7 : decode cX0_descendants 7 = .ok (.istore_n 3, 1) := by decide +kernel
theorem dX0_descendants_8 : decode cX0_descendants 8 = .ok (.iload_n 3, 1) := by decide +kernel
theorem dX0_descendants_9 : decode cX0_descendants 9 = .ok (.aload_n 0, 1) := by decide +kernel
theorem dX0_descendants_10 : decode cX0_descendants 10 = .ok (.invokevirtual 27, 3) := by decide +kernel
theorem dX0_descendants_13 : decode cX0_descendants 13 = .ok (.if_icmp .ge 25, 3) := by decide +kernel
theorem dX0_descendants_16 : decode cX0_descendants 16 = .ok (.aload_n 0, 1) := by decide +kernel
theorem dX0_descendants_17 : decode cX0_descendants 17 = .ok (.iload_n 3, 1) := by decide +kernel
theorem dX0_descendants_18 : decode cX0_descendants 18 = .ok (.invokestatic 21, 3) := by decide +kernel
theorem dX0_descendants_21 : decode cX0_descendants 21 = .ok (.iload_n 2, 1) := by decide +kernel
theorem dX0_descendants_22 : decode cX0_descendants 22 = .ok (.iand, 1) := by decide +kernel
theorem dX0_descendants_23 : decode cX0_descendants 23 = .ok (.ifCond .eq 9, 3) := by decide +kernel
theorem dX0_descendants_26 : decode cX0_descendants 26 = .ok (.iload_n 2, 1) := by decide +kernel
theorem dX0_descendants_27 : decode cX0_descendants 27 = .ok (.iconst 1, 1) := by decide +kernel
theorem dX0_descendants_28 : decode cX0_descendants 28 = .ok (.iload_n 3, 1) := by decide +kernel
theorem dX0_descendants_29 : decode cX0_descendants 29 = .ok (.ishl, 1) := by decide +kernel
theorem dX0_descendants_30 : decode cX0_descendants 30 = .ok (.ior, 1) := by decide +kernel
theorem dX0_descendants_31 : decode cX0_descendants 31 = .ok (.istore_n 2, 1) := by decide +kernel
theorem dX0_descendants_32 : decode cX0_descendants 32 = .ok (.iinc 3 1, 3) := by decide +kernel
theorem dX0_descendants_35 : decode cX0_descendants 35 = .ok (.goto (-27), 3) := by decide +kernel
theorem dX0_descendants_38 : decode cX0_descendants 38 = .ok (.iload_n 2, 1) := by decide +kernel
theorem dX0_descendants_39 : decode cX0_descendants 39 = .ok (.iconst 1, 1) := by decide +kernel
theorem dX0_descendants_40 : decode cX0_descendants 40 = .ok (.iload_n 1, 1) := by decide +kernel
theorem dX0_descendants_41 : decode cX0_descendants 41 = .ok (.ishl, 1) := by decide +kernel
theorem dX0_descendants_42 : decode cX0_descendants 42 = .ok (.iconst (-1), 1) := by decide +kernel
theorem dX0_descendants_43 : decode cX0_descendants 43 = .ok (.ixor, 1) := by decide +kernel
theorem dX0_descendants_44 : decode cX0_descendants 44 = .ok (.iand, 1) := by decide +kernel
theorem dX0_descendants_45 : decode cX0_descendants 45 = .ok (.ireturn, 1) := by decide +kernel
set_option maxRecDepth 20000 in
theorem ggX0_commonAncestors_X5_lesserOf : GoodIn wsX0_commonAncestors wsX5_lesserOf := goodIn_r _ [5, 6, 7, 8, 9, 4, 10, 11, 34, 35, 36, 37, 38, 39, 40, 41, 42, 43] (by decide +kernel) (by decide +kernel)
set_option maxRecDepth 20000 in
theorem gX0_commonAncestors_X5_lesserOf : GoodIn wsX0_commonAncestors (wsV RX0 15 RX5 yX5_lesserOf wsX5_lesserOf) := goodIn_app (goodIn_of _ (by decide +kernel)) ggX0_commonAncestors_X5_lesserOf
set_option maxRecDepth 20000 in
theorem ggX0_commonAncestors_X0_ancestors : GoodIn wsX0_commonAncestors wsX0_ancestors := goodIn_r _ [15, 16, 17, 14, 18, 19, 20, 21, 4, 22, 23, 24, 25, 26, 27, 28, 1, 2, 3, 5, 6, 7, 8, 9, 10, 11, 29, 30, 31, 32, 33, 34, 35, 36, 37, 38, 39, 40, 41, 42, 43] (by decide +kernel) (by decide +kernel)
set_option maxRecDepth 20000 in
theorem gX0_commonAncestors_X0_ancestors : GoodIn wsX0_commonAncestors (va_wsS RX0 31 yX0_ancestors wsX0_ancestors) := goodIn_app (goodIn_of _ (by decide +kernel)) ggX0_commonAncestors_X0_ancestors
set_option maxRecDepth 20000 in
theorem ggX0_commonAncestors_X5_greaterOf : GoodIn wsX0_commonAncestors wsX5_greaterOf := goodIn_r _ [32, 33, 7, 8, 9, 4, 10, 11, 34, 35, 36, 37, 38, 39, 40, 41, 42, 43] (by decide +kernel) (by decide +kernel)
set_option maxRecDepth 20000 in
theorem gX0_commonAncestors_X5_greaterOf : GoodIn wsX0_commonAncestors (wsV RX0 18 RX5 yX5_greaterOf wsX5_greaterOf) := goodIn_app (goodIn_of _ (by decide +kernel)) ggX0_commonAncestors_X5_greaterOf
theorem dX0_commonAncestors_0 : decode cX0_commonAncestors 0 = .ok (.aload_n 0, 1) := by decide +kernel
theorem dX0_commonAncestors_1 : decode cX0_commonAncestors 1 = .ok (.aload_n 0, 1) := by decide +kernel
theorem dX0_commonAncestors_2 : decode cX0_commonAncestors 2 = .ok (.iload_n 1, 1) := by decide +kernel
theorem dX0_commonAncestors_3 : decode cX0_commonAncestors 3 = .ok (.invokevirtual 15, 3) := by decide +kernel
theorem dX0_commonAncestors_6 : decode cX0_commonAncestors 6 = .ok (.invokestatic 31, 3) := by decide +kernel
theorem dX0_commonAncestors_9 : decode cX0_commonAncestors 9 = .ok (.aload_n 0, 1) := by decide +kernel
theorem dX0_commonAncestors_10 : decode cX0_commonAncestors 10 = .ok (.aload_n 0, 1) := by decide +kernel
theorem dX0_commonAncestors_11 : decode cX0_commonAncestors 11 = .ok (.iload_n 1, 1) := by decide +kernel
theorem dX0_commonAncestors_12 : decode cX0_commonAncestors 12 = .ok (.invokevirtual 18, 3) := by decide +kernel
theorem dX0_commonAncestors_15 : decode cX0_commonAncestors 15 = .ok (.invokestatic 31, 3) := by decide +kernel
theorem dX0_commonAncestors_18 : decode cX0_commonAncestors 18 = .ok (.iand, 1) := by decide +kernel
theorem dX0_commonAncestors_19 : decode cX0_commonAncestors 19 = .ok (.ireturn, 1) := by decide +kernel
set_option maxRecDepth 20000 in
theorem ggX0_kinCouples_X5_couples : GoodIn wsX0_kinCouples wsX5_couples := goodIn_r _ [5, 6, 41, 42, 43, 44, 45, 46, 47, 48, 49, 50] (by decide +kernel) (by decide +kernel)
set_option maxRecDepth 20000 in
theorem gX0_kinCouples_X5_couples : GoodIn wsX0_kinCouples (wsV RX0 34 RX5 yX5_couples wsX5_couples) := goodIn_app (goodIn_of _ (by decide +kernel)) ggX0_kinCouples_X5_couples
set_option maxRecDepth 20000 in
theorem ggX0_kinCouples_X0_commonAncestors : GoodIn wsX0_kinCouples wsX0_commonAncestors := goodIn_r _ [10, 11, 12, 13, 4, 14, 15, 16, 17, 18, 19, 6, 20, 21, 9, 22, 23, 24, 25, 26, 27, 28, 29, 30, 31, 32, 33, 34, 35, 36, 37, 38, 39, 40, 41, 42, 43, 44, 45, 46, 47, 48, 49, 50] (by decide +kernel) (by decide +kernel)
set_option maxRecDepth 20000 in
theorem gX0_kinCouples_X0_commonAncestors : GoodIn wsX0_kinCouples (va_wsS RX0 37 yX0_commonAncestors wsX0_commonAncestors) := goodIn_app (goodIn_of _ (by decide +kernel)) ggX0_kinCouples_X0_commonAncestors
theorem dX0_kinCouples_0 : decode cX0_kinCouples 0 = .ok (.iconst 0, 1) := by decide +kernel
theorem dX0_kinCouples_1 : decode cX0_kinCouples 1 = .ok (.istore_n 1, 1) := by decide +kernel
end
section
theorem dX0_kinCouples_2 : decode cX0_kinCouples 2 = .ok (.iconst 0, 1) := by decide +kernel
theorem dX0_kinCouples_3 : decode cX0_kinCouples 3 = .ok (.istore_n 2, 1) := by decide +kernel
theorem dX0_kinCouples_4 : decode cX0_kinCouples 4 = .ok (.iload_n 2, 1) := by decide +kernel
theorem dX0_kinCouples_5 : decode cX0_kinCouples 5 = .ok (.aload_n 0, 1) := by decide +kernel
theorem dX0_kinCouples_6 : decode cX0_kinCouples 6 = .ok (.invokevirtual 34, 3) := by decide +kernel
theorem dX0_kinCouples_9 : decode cX0_kinCouples 9 = .ok (.if_icmp .ge 20, 3) := by decide +kernel
theorem dX0_kinCouples_12 : decode cX0_kinCouples 12 = .ok (.aload_n 0, 1) := by decide +kernel
theorem dX0_kinCouples_13 : decode cX0_kinCouples 13 = .ok (.iload_n 2, 1) := by decide +kernel
theorem dX0_kinCouples_14 : decode cX0_kinCouples 14 = .ok (.invokestatic 37, 3) := by decide +kernel
theorem dX0_kinCouples_17 : decode cX0_kinCouples 17 = .ok (.ifCond .eq 6, 3) := by decide +kernel
theorem dX0_kinCouples_20 : decode cX0_kinCouples 20 = .ok (.iinc 1 1, 3) := by decide +kernel
theorem dX0_kinCouples_23 : decode cX0_kinCouples 23 = .ok (.iinc 2 1, 3) := by decide +kernel
theorem dX0_kinCouples_26 : decode cX0_kinCouples 26 = .ok (.goto (-22), 3) := by decide +kernel
theorem dX0_kinCouples_29 : decode cX0_kinCouples 29 = .ok (.iload_n 1, 1) := by decide +kernel
theorem dX0_kinCouples_30 : decode cX0_kinCouples 30 = .ok (.ireturn, 1) := by decide +kernel
set_option maxRecDepth 20000 in
theorem ggX0_fewestLines_X0_ancestors : GoodIn wsX0_fewestLines wsX0_ancestors := goodIn_r _ [4, 5, 6, 3, 7, 8, 9, 10, 11, 12, 13, 14, 15, 16, 17, 18, 19, 20, 21, 22, 23, 24, 25, 26, 27, 28, 29, 30, 31, 32, 33, 43, 44, 45, 46, 47, 48, 49, 50, 51, 52] (by decide +kernel) (by decide +kernel)
set_option maxRecDepth 20000 in
theorem gX0_fewestLines_X0_ancestors : GoodIn wsX0_fewestLines (va_wsS RX0 31 yX0_ancestors wsX0_ancestors) := goodIn_app (goodIn_of _ (by decide +kernel)) ggX0_fewestLines_X0_ancestors
set_option maxRecDepth 20000 in
theorem ggX0_fewestLines_X5_people : GoodIn wsX0_fewestLines wsX5_people := goodIn_r _ [37, 18, 43, 44, 45, 46, 47, 48, 49, 50, 51, 52] (by decide +kernel) (by decide +kernel)
set_option maxRecDepth 20000 in
theorem gX0_fewestLines_X5_people : GoodIn wsX0_fewestLines (wsV RX0 27 RX5 yX5_people wsX5_people) := goodIn_app (goodIn_of _ (by decide +kernel)) ggX0_fewestLines_X5_people
set_option maxRecDepth 20000 in
theorem ggX0_fewestLines_X5_rowOf : GoodIn wsX0_fewestLines wsX5_rowOf := goodIn_r _ [41, 42, 14, 15, 16, 11, 17, 18, 43, 44, 45, 46, 47, 48, 49, 50, 51, 52] (by decide +kernel) (by decide +kernel)
set_option maxRecDepth 20000 in
theorem gX0_fewestLines_X5_rowOf : GoodIn wsX0_fewestLines (wsV RX0 40 RX5 yX5_rowOf wsX5_rowOf) := goodIn_app (goodIn_of _ (by decide +kernel)) ggX0_fewestLines_X5_rowOf
theorem dX0_fewestLines_0 : decode cX0_fewestLines 0 = .ok (.aload_n 0, 1) := by decide +kernel
theorem dX0_fewestLines_1 : decode cX0_fewestLines 1 = .ok (.iload_n 1, 1) := by decide +kernel
theorem dX0_fewestLines_2 : decode cX0_fewestLines 2 = .ok (.invokestatic 31, 3) := by decide +kernel
theorem dX0_fewestLines_5 : decode cX0_fewestLines 5 = .ok (.iconst 1, 1) := by decide +kernel
theorem dX0_fewestLines_6 : decode cX0_fewestLines 6 = .ok (.iload_n 1, 1) := by decide +kernel
theorem dX0_fewestLines_7 : decode cX0_fewestLines 7 = .ok (.ishl, 1) := by decide +kernel
theorem dX0_fewestLines_8 : decode cX0_fewestLines 8 = .ok (.ior, 1) := by decide +kernel
theorem dX0_fewestLines_9 : decode cX0_fewestLines 9 = .ok (.aload_n 0, 1) := by decide +kernel
theorem dX0_fewestLines_10 : decode cX0_fewestLines 10 = .ok (.iload_n 2, 1) := by decide +kernel
theorem dX0_fewestLines_11 : decode cX0_fewestLines 11 = .ok (.invokestatic 31, 3) := by decide +kernel
theorem dX0_fewestLines_14 : decode cX0_fewestLines 14 = .ok (.iconst 1, 1) := by decide +kernel
theorem dX0_fewestLines_15 : decode cX0_fewestLines 15 = .ok (.iload_n 2, 1) := by decide +kernel
theorem dX0_fewestLines_16 : decode cX0_fewestLines 16 = .ok (.ishl, 1) := by decide +kernel
theorem dX0_fewestLines_17 : decode cX0_fewestLines 17 = .ok (.ior, 1) := by decide +kernel
theorem dX0_fewestLines_18 : decode cX0_fewestLines 18 = .ok (.iand, 1) := by decide +kernel
theorem dX0_fewestLines_19 : decode cX0_fewestLines 19 = .ok (.istore_n 3, 1) := by decide +kernel
theorem dX0_fewestLines_20 : decode cX0_fewestLines 20 = .ok (.iconst (-1), 1) := by decide +kernel
theorem dX0_fewestLines_21 : decode cX0_fewestLines 21 = .ok (.istore 4, 2) := by decide +kernel
theorem dX0_fewestLines_23 : decode cX0_fewestLines 23 = .ok (.iconst 0, 1) := by decide +kernel
theorem dX0_fewestLines_24 : decode cX0_fewestLines 24 = .ok (.istore 5, 2) := by decide +kernel
theorem dX0_fewestLines_26 : decode cX0_fewestLines 26 = .ok (.iload 5, 2) := by decide +kernel
theorem dX0_fewestLines_28 : decode cX0_fewestLines 28 = .ok (.aload_n 0, 1) := by decide +kernel
theorem dX0_fewestLines_29 : decode cX0_fewestLines 29 = .ok (.invokevirtual 27, 3) := by decide +kernel
theorem dX0_fewestLines_32 : decode cX0_fewestLines 32 = .ok (.if_icmp .ge 57, 3) := by decide +kernel
theorem dX0_fewestLines_35 : decode cX0_fewestLines 35 = .ok (.iload_n 3, 1) := by decide +kernel
theorem dX0_fewestLines_36 : decode cX0_fewestLines 36 = .ok (.iconst 1, 1) := by decide +kernel
theorem dX0_fewestLines_37 : decode cX0_fewestLines 37 = .ok (.iload 5, 2) := by decide +kernel
theorem dX0_fewestLines_39 : decode cX0_fewestLines 39 = .ok (.ishl, 1) := by decide +kernel
theorem dX0_fewestLines_40 : decode cX0_fewestLines 40 = .ok (.iand, 1) := by decide +kernel
theorem dX0_fewestLines_41 : decode cX0_fewestLines 41 = .ok (.ifCond .eq 42, 3) := by decide +kernel
theorem dX0_fewestLines_44 : decode cX0_fewestLines 44 = .ok (.aload_n 0, 1) := by decide +kernel
theorem dX0_fewestLines_45 : decode cX0_fewestLines 45 = .ok (.iload_n 1, 1) := by decide +kernel
theorem dX0_fewestLines_46 : decode cX0_fewestLines 46 = .ok (.invokevirtual 40, 3) := by decide +kernel
theorem dX0_fewestLines_49 : decode cX0_fewestLines 49 = .ok (.aload_n 0, 1) := by decide +kernel
theorem dX0_fewestLines_50 : decode cX0_fewestLines 50 = .ok (.iload_n 2, 1) := by decide +kernel
theorem dX0_fewestLines_51 : decode cX0_fewestLines 51 = .ok (.invokevirtual 40, 3) := by decide +kernel
theorem dX0_fewestLines_54 : decode cX0_fewestLines 54 = .ok (.iadd, 1) := by decide +kernel
theorem dX0_fewestLines_55 : decode cX0_fewestLines 55 = .ok (.iconst 2, 1) := by decide +kernel
theorem dX0_fewestLines_56 : decode cX0_fewestLines 56 = .ok (.aload_n 0, 1) := by decide +kernel
theorem dX0_fewestLines_57 : decode cX0_fewestLines 57 = .ok (.iload 5, 2) := by decide +kernel
theorem dX0_fewestLines_59 : decode cX0_fewestLines 59 = .ok (.invokevirtual 40, 3) := by decide +kernel
theorem dX0_fewestLines_62 : decode cX0_fewestLines 62 = .ok (.imul, 1) := by decide +kernel
theorem dX0_fewestLines_63 : decode cX0_fewestLines 63 = .ok (.isub, 1) := by decide +kernel
theorem dX0_fewestLines_64 : decode cX0_fewestLines 64 = .ok (.istore 6, 2) := by decide +kernel
theorem dX0_fewestLines_66 : decode cX0_fewestLines 66 = .ok (.iload 4, 2) := by decide +kernel
theorem dX0_fewestLines_68 : decode cX0_fewestLines 68 = .ok (.iconst (-1), 1) := by decide +kernel
theorem dX0_fewestLines_69 : decode cX0_fewestLines 69 = .ok (.if_icmp .eq 10, 3) := by decide +kernel
theorem dX0_fewestLines_72 : decode cX0_fewestLines 72 = .ok (.iload 6, 2) := by decide +kernel
theorem dX0_fewestLines_74 : decode cX0_fewestLines 74 = .ok (.iload 4, 2) := by decide +kernel
theorem dX0_fewestLines_76 : decode cX0_fewestLines 76 = .ok (.if_icmp .ge 7, 3) := by decide +kernel
theorem dX0_fewestLines_79 : decode cX0_fewestLines 79 = .ok (.iload 6, 2) := by decide +kernel
theorem dX0_fewestLines_81 : decode cX0_fewestLines 81 = .ok (.istore 4, 2) := by decide +kernel
theorem dX0_fewestLines_83 : decode cX0_fewestLines 83 = .ok (.iinc 5 1, 3) := by decide +kernel
theorem dX0_fewestLines_86 : decode cX0_fewestLines 86 = .ok (.goto (-60), 3) := by decide +kernel
theorem dX0_fewestLines_89 : decode cX0_fewestLines 89 = .ok (.iload 4, 2) := by decide +kernel
theorem dX0_fewestLines_91 : decode cX0_fewestLines 91 = .ok (.ireturn, 1) := by decide +kernel
theorem dX1_init_0 : decode cX1_init 0 = .ok (.aload_n 0, 1) := by decide +kernel
theorem dX1_init_1 : decode cX1_init 1 = .ok (.invokespecial 3, 3) := by decide +kernel
theorem dX1_init_4 : decode cX1_init 4 = .ok (.aload_n 0, 1) := by decide +kernel
theorem dX1_init_5 : decode cX1_init 5 = .ok (.bipush 6, 2) := by decide +kernel
theorem dX1_init_7 : decode cX1_init 7 = .ok (.newarray .int, 2) := by decide +kernel
theorem dX1_init_9 : decode cX1_init 9 = .ok (.putfield 9, 3) := by decide +kernel
theorem dX1_init_12 : decode cX1_init 12 = .ok (.aload_n 0, 1) := by decide +kernel
theorem dX1_init_13 : decode cX1_init 13 = .ok (.bipush 6, 2) := by decide +kernel
theorem dX1_init_15 : decode cX1_init 15 = .ok (.newarray .int, 2) := by decide +kernel
theorem dX1_init_17 : decode cX1_init 17 = .ok (.putfield 15, 3) := by decide +kernel
theorem dX1_init_20 : decode cX1_init 20 = .ok (.return_, 1) := by decide +kernel
set_option maxRecDepth 20000 in
theorem ggX1_lay_X5_sizeOf : GoodIn wsX1_lay wsX5_sizeOf := goodIn_r _ [11, 12, 60, 61, 62, 63, 64, 65, 66, 67, 68, 69] (by decide +kernel) (by decide +kernel)
set_option maxRecDepth 20000 in
theorem gX1_lay_X5_sizeOf : GoodIn wsX1_lay (wsV RX1 18 RX5 yX5_sizeOf wsX5_sizeOf) := goodIn_app (goodIn_of _ (by decide +kernel)) ggX1_lay_X5_sizeOf
set_option maxRecDepth 20000 in
theorem ggX1_lay_X5_personAt : GoodIn wsX1_lay wsX5_personAt := goodIn_r _ [16, 17, 18, 8, 9, 10, 11, 12, 60, 61, 62, 63, 64, 65, 66, 67, 68, 69] (by decide +kernel) (by decide +kernel)
set_option maxRecDepth 20000 in
theorem gX1_lay_X5_personAt : GoodIn wsX1_lay (wsV RX1 30 RX5 yX5_personAt wsX5_personAt) := goodIn_app (goodIn_of _ (by decide +kernel)) ggX1_lay_X5_personAt
set_option maxRecDepth 20000 in
theorem ggX1_lay_X5_middleAbove : GoodIn wsX1_lay wsX5_middleAbove := goodIn_r _ [22, 23, 24, 25, 10, 26, 27, 28, 29, 30, 31, 32, 33, 34, 35, 36, 37, 38, 39, 40, 41, 42, 43, 44, 45, 46, 47, 48, 60, 61, 62, 63, 64, 65, 66, 67, 68, 69] (by decide +kernel) (by decide +kernel)
set_option maxRecDepth 20000 in
theorem gX1_lay_X5_middleAbove : GoodIn wsX1_lay (wsV RX1 33 RX5 yX5_middleAbove wsX5_middleAbove) := goodIn_app (goodIn_of _ (by decide +kernel)) ggX1_lay_X5_middleAbove
set_option maxRecDepth 20000 in
theorem ggX1_lay_X1_placeByKey : GoodIn wsX1_lay wsX1_placeByKey := goodIn_r _ [53, 5, 58, 59] (by decide +kernel) (by decide +kernel)
set_option maxRecDepth 20000 in
theorem gX1_lay_X1_placeByKey : GoodIn wsX1_lay (wsV RX1 36 RX1 yX1_placeByKey wsX1_placeByKey) := goodIn_app (goodIn_of _ (by decide +kernel)) ggX1_lay_X1_placeByKey
set_option maxRecDepth 20000 in
theorem ggX1_lay_X5_lay : GoodIn wsX1_lay wsX5_lay := goodIn_r _ [57, 17, 48, 28, 29, 30, 10, 31, 32, 18, 8, 9, 11, 12, 60, 61, 62, 63, 64, 65, 66, 67, 68, 69] (by decide +kernel) (by decide +kernel)
set_option maxRecDepth 20000 in
theorem gX1_lay_X5_lay : GoodIn wsX1_lay (wsV RX1 39 RX5 yX5_lay wsX5_lay) := goodIn_app (goodIn_of _ (by decide +kernel)) ggX1_lay_X5_lay
theorem dX1_lay_0 : decode cX1_lay 0 = .ok (.aload_n 1, 1) := by decide +kernel
theorem dX1_lay_1 : decode cX1_lay 1 = .ok (.iload_n 2, 1) := by decide +kernel
theorem dX1_lay_2 : decode cX1_lay 2 = .ok (.invokevirtual 18, 3) := by decide +kernel
theorem dX1_lay_5 : decode cX1_lay 5 = .ok (.bipush 6, 2) := by decide +kernel
theorem dX1_lay_7 : decode cX1_lay 7 = .ok (.invokestatic 24, 3) := by decide +kernel
theorem dX1_lay_10 : decode cX1_lay 10 = .ok (.istore_n 3, 1) := by decide +kernel
theorem dX1_lay_11 : decode cX1_lay 11 = .ok (.iconst 0, 1) := by decide +kernel
theorem dX1_lay_12 : decode cX1_lay 12 = .ok (.istore 4, 2) := by decide +kernel
theorem dX1_lay_14 : decode cX1_lay 14 = .ok (.iload 4, 2) := by decide +kernel
theorem dX1_lay_16 : decode cX1_lay 16 = .ok (.iload_n 3, 1) := by decide +kernel
theorem dX1_lay_17 : decode cX1_lay 17 = .ok (.if_icmp .ge 43, 3) := by decide +kernel
theorem dX1_lay_20 : decode cX1_lay 20 = .ok (.aload_n 1, 1) := by decide +kernel
theorem dX1_lay_21 : decode cX1_lay 21 = .ok (.aload_n 1, 1) := by decide +kernel
theorem dX1_lay_22 : decode cX1_lay 22 = .ok (.iload_n 2, 1) := by decide +kernel
theorem dX1_lay_23 : decode cX1_lay 23 = .ok (.iload 4, 2) := by decide +kernel
theorem dX1_lay_25 : decode cX1_lay 25 = .ok (.invokevirtual 30, 3) := by decide +kernel
theorem dX1_lay_28 : decode cX1_lay 28 = .ok (.invokevirtual 33, 3) := by decide +kernel
theorem dX1_lay_31 : decode cX1_lay 31 = .ok (.istore 5, 2) := by decide +kernel
theorem dX1_lay_33 : decode cX1_lay 33 = .ok (.aload_n 0, 1) := by decide +kernel
theorem dX1_lay_34 : decode cX1_lay 34 = .ok (.getfield 9, 3) := by decide +kernel
theorem dX1_lay_37 : decode cX1_lay 37 = .ok (.iload 4, 2) := by decide +kernel
theorem dX1_lay_39 : decode cX1_lay 39 = .ok (.iload 5, 2) := by decide +kernel
theorem dX1_lay_41 : decode cX1_lay 41 = .ok (.iconst (-1), 1) := by decide +kernel
theorem dX1_lay_42 : decode cX1_lay 42 = .ok (.if_icmp .ne 9, 3) := by decide +kernel
theorem dX1_lay_45 : decode cX1_lay 45 = .ok (.sipush 1000, 3) := by decide +kernel
theorem dX1_lay_48 : decode cX1_lay 48 = .ok (.goto 5, 3) := by decide +kernel
theorem dX1_lay_51 : decode cX1_lay 51 = .ok (.iload 5, 2) := by decide +kernel
theorem dX1_lay_53 : decode cX1_lay 53 = .ok (.iastore, 1) := by decide +kernel
theorem dX1_lay_54 : decode cX1_lay 54 = .ok (.iinc 4 1, 3) := by decide +kernel
theorem dX1_lay_57 : decode cX1_lay 57 = .ok (.goto (-43), 3) := by decide +kernel
theorem dX1_lay_60 : decode cX1_lay 60 = .ok (.iconst 0, 1) := by decide +kernel
theorem dX1_lay_61 : decode cX1_lay 61 = .ok (.istore 4, 2) := by decide +kernel
theorem dX1_lay_63 : decode cX1_lay 63 = .ok (.iconst 0, 1) := by decide +kernel
theorem dX1_lay_64 : decode cX1_lay 64 = .ok (.istore 5, 2) := by decide +kernel
theorem dX1_lay_66 : decode cX1_lay 66 = .ok (.iload 5, 2) := by decide +kernel
theorem dX1_lay_68 : decode cX1_lay 68 = .ok (.iload_n 3, 1) := by decide +kernel
theorem dX1_lay_69 : decode cX1_lay 69 = .ok (.if_icmp .ge 42, 3) := by decide +kernel
theorem dX1_lay_72 : decode cX1_lay 72 = .ok (.aload_n 0, 1) := by decide +kernel
theorem dX1_lay_73 : decode cX1_lay 73 = .ok (.iload 5, 2) := by decide +kernel
theorem dX1_lay_75 : decode cX1_lay 75 = .ok (.iload_n 3, 1) := by decide +kernel
theorem dX1_lay_76 : decode cX1_lay 76 = .ok (.invokevirtual 36, 3) := by decide +kernel
theorem dX1_lay_79 : decode cX1_lay 79 = .ok (.istore 6, 2) := by decide +kernel
theorem dX1_lay_81 : decode cX1_lay 81 = .ok (.aload_n 0, 1) := by decide +kernel
theorem dX1_lay_82 : decode cX1_lay 82 = .ok (.getfield 15, 3) := by decide +kernel
theorem dX1_lay_85 : decode cX1_lay 85 = .ok (.iload 6, 2) := by decide +kernel
theorem dX1_lay_87 : decode cX1_lay 87 = .ok (.aload_n 1, 1) := by decide +kernel
theorem dX1_lay_88 : decode cX1_lay 88 = .ok (.iload_n 2, 1) := by decide +kernel
theorem dX1_lay_89 : decode cX1_lay 89 = .ok (.iload 5, 2) := by decide +kernel
theorem dX1_lay_91 : decode cX1_lay 91 = .ok (.invokevirtual 30, 3) := by decide +kernel
theorem dX1_lay_94 : decode cX1_lay 94 = .ok (.iastore, 1) := by decide +kernel
theorem dX1_lay_95 : decode cX1_lay 95 = .ok (.iload 6, 2) := by decide +kernel
theorem dX1_lay_97 : decode cX1_lay 97 = .ok (.iload 5, 2) := by decide +kernel
theorem dX1_lay_99 : decode cX1_lay 99 = .ok (.if_icmp .eq 6, 3) := by decide +kernel
theorem dX1_lay_102 : decode cX1_lay 102 = .ok (.iinc 4 1, 3) := by decide +kernel
theorem dX1_lay_105 : decode cX1_lay 105 = .ok (.iinc 5 1, 3) := by decide +kernel
theorem dX1_lay_108 : decode cX1_lay 108 = .ok (.goto (-42), 3) := by decide +kernel
theorem dX1_lay_111 : decode cX1_lay 111 = .ok (.iconst 0, 1) := by decide +kernel
theorem dX1_lay_112 : decode cX1_lay 112 = .ok (.istore 5, 2) := by decide +kernel
theorem dX1_lay_114 : decode cX1_lay 114 = .ok (.iload 5, 2) := by decide +kernel
theorem dX1_lay_116 : decode cX1_lay 116 = .ok (.iload_n 3, 1) := by decide +kernel
theorem dX1_lay_117 : decode cX1_lay 117 = .ok (.if_icmp .ge 23, 3) := by decide +kernel
theorem dX1_lay_120 : decode cX1_lay 120 = .ok (.aload_n 1, 1) := by decide +kernel
theorem dX1_lay_121 : decode cX1_lay 121 = .ok (.iload_n 2, 1) := by decide +kernel
theorem dX1_lay_122 : decode cX1_lay 122 = .ok (.iload 5, 2) := by decide +kernel
theorem dX1_lay_124 : decode cX1_lay 124 = .ok (.aload_n 0, 1) := by decide +kernel
theorem dX1_lay_125 : decode cX1_lay 125 = .ok (.getfield 15, 3) := by decide +kernel
theorem dX1_lay_128 : decode cX1_lay 128 = .ok (.iload 5, 2) := by decide +kernel
theorem dX1_lay_130 : decode cX1_lay 130 = .ok (.iaload, 1) := by decide +kernel
theorem dX1_lay_131 : decode cX1_lay 131 = .ok (.invokevirtual 39, 3) := by decide +kernel
theorem dX1_lay_134 : decode cX1_lay 134 = .ok (.iinc 5 1, 3) := by decide +kernel
theorem dX1_lay_137 : decode cX1_lay 137 = .ok (.goto (-23), 3) := by decide +kernel
theorem dX1_lay_140 : decode cX1_lay 140 = .ok (.iload 4, 2) := by decide +kernel
theorem dX1_lay_142 : decode cX1_lay 142 = .ok (.ireturn, 1) := by decide +kernel
theorem dX1_placeByKey_0 : decode cX1_placeByKey 0 = .ok (.iconst 0, 1) := by decide +kernel
theorem dX1_placeByKey_1 : decode cX1_placeByKey 1 = .ok (.istore_n 3, 1) := by decide +kernel
theorem dX1_placeByKey_2 : decode cX1_placeByKey 2 = .ok (.iconst 0, 1) := by decide +kernel
theorem dX1_placeByKey_3 : decode cX1_placeByKey 3 = .ok (.istore 4, 2) := by decide +kernel
theorem dX1_placeByKey_5 : decode cX1_placeByKey 5 = .ok (.iload 4, 2) := by decide +kernel
theorem dX1_placeByKey_7 : decode cX1_placeByKey 7 = .ok (.iload_n 2, 1) := by decide +kernel
theorem dX1_placeByKey_8 : decode cX1_placeByKey 8 = .ok (.if_icmp .ge 50, 3) := by decide +kernel
theorem dX1_placeByKey_11 : decode cX1_placeByKey 11 = .ok (.aload_n 0, 1) := by decide +kernel
theorem dX1_placeByKey_12 : decode cX1_placeByKey 12 = .ok (.getfield 9, 3) := by decide +kernel
theorem dX1_placeByKey_15 : decode cX1_placeByKey 15 = .ok (.iload 4, 2) := by decide +kernel
theorem dX1_placeByKey_17 : decode cX1_placeByKey 17 = .ok (.iaload, 1) := by decide +kernel
theorem dX1_placeByKey_18 : decode cX1_placeByKey 18 = .ok (.aload_n 0, 1) := by decide +kernel
theorem dX1_placeByKey_19 : decode cX1_placeByKey 19 = .ok (.getfield 9, 3) := by decide +kernel
theorem dX1_placeByKey_22 : decode cX1_placeByKey 22 = .ok (.iload_n 1, 1) := by decide +kernel
theorem dX1_placeByKey_23 : decode cX1_placeByKey 23 = .ok (.iaload, 1) := by decide +kernel
theorem dX1_placeByKey_24 : decode cX1_placeByKey 24 = .ok (.if_icmp .lt 25, 3) := by decide +kernel
theorem dX1_placeByKey_27 : decode cX1_placeByKey 27 = .ok (.aload_n 0, 1) := by decide +kernel
theorem dX1_placeByKey_28 : decode cX1_placeByKey 28 = .ok (.getfield 9, 3) := by decide +kernel
theorem dX1_placeByKey_31 : decode cX1_placeByKey 31 = .ok (.iload 4, 2) := by decide +kernel
theorem dX1_placeByKey_33 : decode cX1_placeByKey 33 = .ok (.iaload, 1) := by decide +kernel
theorem dX1_placeByKey_34 : decode cX1_placeByKey 34 = .ok (.aload_n 0, 1) := by decide +kernel
theorem dX1_placeByKey_35 : decode cX1_placeByKey 35 = .ok (.getfield 9, 3) := by decide +kernel
theorem dX1_placeByKey_38 : decode cX1_placeByKey 38 = .ok (.iload_n 1, 1) := by decide +kernel
theorem dX1_placeByKey_39 : decode cX1_placeByKey 39 = .ok (.iaload, 1) := by decide +kernel
theorem dX1_placeByKey_40 : decode cX1_placeByKey 40 = .ok (.if_icmp .ne 12, 3) := by decide +kernel
theorem dX1_placeByKey_43 : decode cX1_placeByKey 43 = .ok (.iload 4, 2) := by decide +kernel
theorem dX1_placeByKey_45 : decode cX1_placeByKey 45 = .ok (.iload_n 1, 1) := by decide +kernel
theorem dX1_placeByKey_46 : decode cX1_placeByKey 46 = .ok (.if_icmp .ge 6, 3) := by decide +kernel
theorem dX1_placeByKey_49 : decode cX1_placeByKey 49 = .ok (.iinc 3 1, 3) := by decide +kernel
theorem dX1_placeByKey_52 : decode cX1_placeByKey 52 = .ok (.iinc 4 1, 3) := by decide +kernel
theorem dX1_placeByKey_55 : decode cX1_placeByKey 55 = .ok (.goto (-50), 3) := by decide +kernel
theorem dX1_placeByKey_58 : decode cX1_placeByKey 58 = .ok (.iload_n 3, 1) := by decide +kernel
theorem dX1_placeByKey_59 : decode cX1_placeByKey 59 = .ok (.ireturn, 1) := by decide +kernel
theorem dX2_init_0 : decode cX2_init 0 = .ok (.aload_n 0, 1) := by decide +kernel
theorem dX2_init_1 : decode cX2_init 1 = .ok (.invokespecial 3, 3) := by decide +kernel
theorem dX2_init_4 : decode cX2_init 4 = .ok (.aload_n 0, 1) := by decide +kernel
theorem dX2_init_5 : decode cX2_init 5 = .ok (.bipush 6, 2) := by decide +kernel
theorem dX2_init_7 : decode cX2_init 7 = .ok (.newarray .int, 2) := by decide +kernel
theorem dX2_init_9 : decode cX2_init 9 = .ok (.putfield 9, 3) := by decide +kernel
theorem dX2_init_12 : decode cX2_init 12 = .ok (.aload_n 0, 1) := by decide +kernel
theorem dX2_init_13 : decode cX2_init 13 = .ok (.bipush 6, 2) := by decide +kernel
theorem dX2_init_15 : decode cX2_init 15 = .ok (.newarray .int, 2) := by decide +kernel
theorem dX2_init_17 : decode cX2_init 17 = .ok (.putfield 15, 3) := by decide +kernel
theorem dX2_init_20 : decode cX2_init 20 = .ok (.return_, 1) := by decide +kernel
set_option maxRecDepth 20000 in
theorem ggX2_collect_X5_sizeOf : GoodIn wsX2_collect wsX5_sizeOf := goodIn_r _ [8, 9, 49, 50, 51, 52, 53, 54, 55, 56, 57, 58] (by decide +kernel) (by decide +kernel)
set_option maxRecDepth 20000 in
theorem gX2_collect_X5_sizeOf : GoodIn wsX2_collect (wsV RX2 22 RX5 yX5_sizeOf wsX5_sizeOf) := goodIn_app (goodIn_of _ (by decide +kernel)) ggX2_collect_X5_sizeOf
set_option maxRecDepth 20000 in
theorem ggX2_collect_X5_personAt : GoodIn wsX2_collect wsX5_personAt := goodIn_r _ [13, 14, 15, 5, 6, 7, 8, 9, 49, 50, 51, 52, 53, 54, 55, 56, 57, 58] (by decide +kernel) (by decide +kernel)
set_option maxRecDepth 20000 in
theorem gX2_collect_X5_personAt : GoodIn wsX2_collect (wsV RX2 28 RX5 yX5_personAt wsX5_personAt) := goodIn_app (goodIn_of _ (by decide +kernel)) ggX2_collect_X5_personAt
set_option maxRecDepth 20000 in
theorem ggX2_collect_X5_middleAbove : GoodIn wsX2_collect wsX5_middleAbove := goodIn_r _ [19, 20, 21, 22, 7, 23, 24, 25, 26, 27, 28, 29, 30, 31, 32, 33, 34, 35, 36, 37, 38, 39, 40, 41, 42, 43, 44, 45, 49, 50, 51, 52, 53, 54, 55, 56, 57, 58] (by decide +kernel) (by decide +kernel)
set_option maxRecDepth 20000 in
theorem gX2_collect_X5_middleAbove : GoodIn wsX2_collect (wsV RX2 32 RX5 yX5_middleAbove wsX5_middleAbove) := goodIn_app (goodIn_of _ (by decide +kernel)) ggX2_collect_X5_middleAbove
theorem dX2_collect_0 : decode cX2_collect 0 = .ok (.aload_n 0, 1) := by decide +kernel
theorem dX2_collect_1 : decode cX2_collect 1 = .ok (.iconst 0, 1) := by decide +kernel
theorem dX2_collect_2 : decode cX2_collect 2 = .ok (.putfield 18, 3) := by decide +kernel
theorem dX2_collect_5 : decode cX2_collect 5 = .ok (.iconst 0, 1) := by decide +kernel
theorem dX2_collect_6 : decode cX2_collect 6 = .ok (.istore_n 3, 1) := by decide +kernel
theorem dX2_collect_7 : decode cX2_collect 7 = .ok (.iload_n 3, 1) := by decide +kernel
theorem dX2_collect_8 : decode cX2_collect 8 = .ok (.aload_n 1, 1) := by decide +kernel
theorem dX2_collect_9 : decode cX2_collect 9 = .ok (.iload_n 2, 1) := by decide +kernel
theorem dX2_collect_10 : decode cX2_collect 10 = .ok (.invokevirtual 22, 3) := by decide +kernel
theorem dX2_collect_13 : decode cX2_collect 13 = .ok (.if_icmp .ge 64, 3) := by decide +kernel
theorem dX2_collect_16 : decode cX2_collect 16 = .ok (.iload_n 3, 1) := by decide +kernel
theorem dX2_collect_17 : decode cX2_collect 17 = .ok (.bipush 6, 2) := by decide +kernel
theorem dX2_collect_19 : decode cX2_collect 19 = .ok (.if_icmp .ge 58, 3) := by decide +kernel
theorem dX2_collect_22 : decode cX2_collect 22 = .ok (.aload_n 1, 1) := by decide +kernel
theorem dX2_collect_23 : decode cX2_collect 23 = .ok (.aload_n 1, 1) := by decide +kernel
theorem dX2_collect_24 : decode cX2_collect 24 = .ok (.iload_n 2, 1) := by decide +kernel
theorem dX2_collect_25 : decode cX2_collect 25 = .ok (.iload_n 3, 1) := by decide +kernel
theorem dX2_collect_26 : decode cX2_collect 26 = .ok (.invokevirtual 28, 3) := by decide +kernel
theorem dX2_collect_29 : decode cX2_collect 29 = .ok (.invokevirtual 32, 3) := by decide +kernel
theorem dX2_collect_32 : decode cX2_collect 32 = .ok (.istore 4, 2) := by decide +kernel
theorem dX2_collect_34 : decode cX2_collect 34 = .ok (.iload 4, 2) := by decide +kernel
theorem dX2_collect_36 : decode cX2_collect 36 = .ok (.iconst (-1), 1) := by decide +kernel
theorem dX2_collect_37 : decode cX2_collect 37 = .ok (.if_icmp .eq 34, 3) := by decide +kernel
theorem dX2_collect_40 : decode cX2_collect 40 = .ok (.aload_n 0, 1) := by decide +kernel
theorem dX2_collect_41 : decode cX2_collect 41 = .ok (.getfield 9, 3) := by decide +kernel
theorem dX2_collect_44 : decode cX2_collect 44 = .ok (.aload_n 0, 1) := by decide +kernel
theorem dX2_collect_45 : decode cX2_collect 45 = .ok (.getfield 18, 3) := by decide +kernel
theorem dX2_collect_48 : decode cX2_collect 48 = .ok (.iload 4, 2) := by decide +kernel
theorem dX2_collect_50 : decode cX2_collect 50 = .ok (.iastore, 1) := by decide +kernel
theorem dX2_collect_51 : decode cX2_collect 51 = .ok (.aload_n 0, 1) := by decide +kernel
theorem dX2_collect_52 : decode cX2_collect 52 = .ok (.getfield 15, 3) := by decide +kernel
theorem dX2_collect_55 : decode cX2_collect 55 = .ok (.aload_n 0, 1) := by decide +kernel
theorem dX2_collect_56 : decode cX2_collect 56 = .ok (.getfield 18, 3) := by decide +kernel
theorem dX2_collect_59 : decode cX2_collect 59 = .ok (.iload_n 3, 1) := by decide +kernel
theorem dX2_collect_60 : decode cX2_collect 60 = .ok (.iastore, 1) := by decide +kernel
theorem dX2_collect_61 : decode cX2_collect 61 = .ok (.aload_n 0, 1) := by decide +kernel
theorem dX2_collect_62 : decode cX2_collect 62 = .ok (.dup, 1) := by decide +kernel
theorem dX2_collect_63 : decode cX2_collect 63 = .ok (.getfield 18, 3) := by decide +kernel
theorem dX2_collect_66 : decode cX2_collect 66 = .ok (.iconst 1, 1) := by decide +kernel
theorem dX2_collect_67 : decode cX2_collect 67 = .ok (.iadd, 1) := by decide +kernel
theorem dX2_collect_68 : decode cX2_collect 68 = .ok (.putfield 18, 3) := by decide +kernel
theorem dX2_collect_71 : decode cX2_collect 71 = .ok (.iinc 3 1, 3) := by decide +kernel
theorem dX2_collect_74 : decode cX2_collect 74 = .ok (.goto (-67), 3) := by decide +kernel
theorem dX2_collect_77 : decode cX2_collect 77 = .ok (.return_, 1) := by decide +kernel
theorem dX2_crossedPairs_0 : decode cX2_crossedPairs 0 = .ok (.iconst 0, 1) := by decide +kernel
theorem dX2_crossedPairs_1 : decode cX2_crossedPairs 1 = .ok (.istore_n 1, 1) := by decide +kernel
theorem dX2_crossedPairs_2 : decode cX2_crossedPairs 2 = .ok (.iconst 0, 1) := by decide +kernel
theorem dX2_crossedPairs_3 : decode cX2_crossedPairs 3 = .ok (.istore_n 2, 1) := by decide +kernel
theorem dX2_crossedPairs_4 : decode cX2_crossedPairs 4 = .ok (.iload_n 2, 1) := by decide +kernel
theorem dX2_crossedPairs_5 : decode cX2_crossedPairs 5 = .ok (.aload_n 0, 1) := by decide +kernel
theorem dX2_crossedPairs_6 : decode cX2_crossedPairs 6 = .ok (.getfield 18, 3) := by decide +kernel
theorem dX2_crossedPairs_9 : decode cX2_crossedPairs 9 = .ok (.if_icmp .ge 45, 3) := by decide +kernel
theorem dX2_crossedPairs_12 : decode cX2_crossedPairs 12 = .ok (.iload_n 2, 1) := by decide +kernel
theorem dX2_crossedPairs_13 : decode cX2_crossedPairs 13 = .ok (.iconst 1, 1) := by decide +kernel
theorem dX2_crossedPairs_14 : decode cX2_crossedPairs 14 = .ok (.iadd, 1) := by decide +kernel
theorem dX2_crossedPairs_15 : decode cX2_crossedPairs 15 = .ok (.istore_n 3, 1) := by decide +kernel
theorem dX2_crossedPairs_16 : decode cX2_crossedPairs 16 = .ok (.iload_n 3, 1) := by decide +kernel
theorem dX2_crossedPairs_17 : decode cX2_crossedPairs 17 = .ok (.aload_n 0, 1) := by decide +kernel
theorem dX2_crossedPairs_18 : decode cX2_crossedPairs 18 = .ok (.getfield 18, 3) := by decide +kernel
theorem dX2_crossedPairs_21 : decode cX2_crossedPairs 21 = .ok (.if_icmp .ge 27, 3) := by decide +kernel
theorem dX2_crossedPairs_24 : decode cX2_crossedPairs 24 = .ok (.aload_n 0, 1) := by decide +kernel
theorem dX2_crossedPairs_25 : decode cX2_crossedPairs 25 = .ok (.getfield 9, 3) := by decide +kernel
theorem dX2_crossedPairs_28 : decode cX2_crossedPairs 28 = .ok (.iload_n 3, 1) := by decide +kernel
theorem dX2_crossedPairs_29 : decode cX2_crossedPairs 29 = .ok (.iaload, 1) := by decide +kernel
theorem dX2_crossedPairs_30 : decode cX2_crossedPairs 30 = .ok (.aload_n 0, 1) := by decide +kernel
theorem dX2_crossedPairs_31 : decode cX2_crossedPairs 31 = .ok (.getfield 9, 3) := by decide +kernel
theorem dX2_crossedPairs_34 : decode cX2_crossedPairs 34 = .ok (.iload_n 2, 1) := by decide +kernel
theorem dX2_crossedPairs_35 : decode cX2_crossedPairs 35 = .ok (.iaload, 1) := by decide +kernel
theorem dX2_crossedPairs_36 : decode cX2_crossedPairs 36 = .ok (.if_icmp .ge 6, 3) := by decide +kernel
theorem dX2_crossedPairs_39 : decode cX2_crossedPairs 39 = .ok (.iinc 1 1, 3) := by decide +kernel
theorem dX2_crossedPairs_42 : decode cX2_crossedPairs 42 = .ok (.iinc 3 1, 3) := by decide +kernel
theorem dX2_crossedPairs_45 : decode cX2_crossedPairs 45 = .ok (.goto (-29), 3) := by decide +kernel
theorem dX2_crossedPairs_48 : decode cX2_crossedPairs 48 = .ok (.iinc 2 1, 3) := by decide +kernel
theorem dX2_crossedPairs_51 : decode cX2_crossedPairs 51 = .ok (.goto (-47), 3) := by decide +kernel
theorem dX2_crossedPairs_54 : decode cX2_crossedPairs 54 = .ok (.iload_n 1, 1) := by decide +kernel
theorem dX2_crossedPairs_55 : decode cX2_crossedPairs 55 = .ok (.ireturn, 1) := by decide +kernel
set_option maxRecDepth 20000 in
theorem ggX2_crossedOneByOne_X2_sortByMiddles : GoodIn wsX2_crossedOneByOne wsX2_sortByMiddles := goodIn_r _ [8, 1, 2, 3, 9, 10, 11] (by decide +kernel) (by decide +kernel)
set_option maxRecDepth 20000 in
theorem gX2_crossedOneByOne_X2_sortByMiddles : GoodIn wsX2_crossedOneByOne (wsV RX2 35 RX2 yX2_sortByMiddles wsX2_sortByMiddles) := goodIn_app (goodIn_of _ (by decide +kernel)) ggX2_crossedOneByOne_X2_sortByMiddles
theorem dX2_crossedOneByOne_0 : decode cX2_crossedOneByOne 0 = .ok (.aload_n 0, 1) := by decide +kernel
theorem dX2_crossedOneByOne_1 : decode cX2_crossedOneByOne 1 = .ok (.invokevirtual 35, 3) := by decide +kernel
theorem dX2_crossedOneByOne_4 : decode cX2_crossedOneByOne 4 = .ok (.iconst 0, 1) := by decide +kernel
theorem dX2_crossedOneByOne_5 : decode cX2_crossedOneByOne 5 = .ok (.istore_n 1, 1) := by decide +kernel
theorem dX2_crossedOneByOne_6 : decode cX2_crossedOneByOne 6 = .ok (.iconst 0, 1) := by decide +kernel
theorem dX2_crossedOneByOne_7 : decode cX2_crossedOneByOne 7 = .ok (.istore_n 2, 1) := by decide +kernel
theorem dX2_crossedOneByOne_8 : decode cX2_crossedOneByOne 8 = .ok (.iload_n 2, 1) := by decide +kernel
theorem dX2_crossedOneByOne_9 : decode cX2_crossedOneByOne 9 = .ok (.aload_n 0, 1) := by decide +kernel
theorem dX2_crossedOneByOne_10 : decode cX2_crossedOneByOne 10 = .ok (.getfield 18, 3) := by decide +kernel
theorem dX2_crossedOneByOne_13 : decode cX2_crossedOneByOne 13 = .ok (.if_icmp .ge 55, 3) := by decide +kernel
theorem dX2_crossedOneByOne_16 : decode cX2_crossedOneByOne 16 = .ok (.iconst 0, 1) := by decide +kernel
theorem dX2_crossedOneByOne_17 : decode cX2_crossedOneByOne 17 = .ok (.istore_n 3, 1) := by decide +kernel
theorem dX2_crossedOneByOne_18 : decode cX2_crossedOneByOne 18 = .ok (.iload_n 3, 1) := by decide +kernel
theorem dX2_crossedOneByOne_19 : decode cX2_crossedOneByOne 19 = .ok (.iload_n 2, 1) := by decide +kernel
theorem dX2_crossedOneByOne_20 : decode cX2_crossedOneByOne 20 = .ok (.if_icmp .ge 42, 3) := by decide +kernel
theorem dX2_crossedOneByOne_23 : decode cX2_crossedOneByOne 23 = .ok (.aload_n 0, 1) := by decide +kernel
theorem dX2_crossedOneByOne_24 : decode cX2_crossedOneByOne 24 = .ok (.getfield 9, 3) := by decide +kernel
theorem dX2_crossedOneByOne_27 : decode cX2_crossedOneByOne 27 = .ok (.iload_n 3, 1) := by decide +kernel
theorem dX2_crossedOneByOne_28 : decode cX2_crossedOneByOne 28 = .ok (.iaload, 1) := by decide +kernel
theorem dX2_crossedOneByOne_29 : decode cX2_crossedOneByOne 29 = .ok (.aload_n 0, 1) := by decide +kernel
theorem dX2_crossedOneByOne_30 : decode cX2_crossedOneByOne 30 = .ok (.getfield 9, 3) := by decide +kernel
theorem dX2_crossedOneByOne_33 : decode cX2_crossedOneByOne 33 = .ok (.iload_n 2, 1) := by decide +kernel
theorem dX2_crossedOneByOne_34 : decode cX2_crossedOneByOne 34 = .ok (.iaload, 1) := by decide +kernel
theorem dX2_crossedOneByOne_35 : decode cX2_crossedOneByOne 35 = .ok (.if_icmp .ge 21, 3) := by decide +kernel
theorem dX2_crossedOneByOne_38 : decode cX2_crossedOneByOne 38 = .ok (.aload_n 0, 1) := by decide +kernel
theorem dX2_crossedOneByOne_39 : decode cX2_crossedOneByOne 39 = .ok (.getfield 15, 3) := by decide +kernel
theorem dX2_crossedOneByOne_42 : decode cX2_crossedOneByOne 42 = .ok (.iload_n 3, 1) := by decide +kernel
theorem dX2_crossedOneByOne_43 : decode cX2_crossedOneByOne 43 = .ok (.iaload, 1) := by decide +kernel
theorem dX2_crossedOneByOne_44 : decode cX2_crossedOneByOne 44 = .ok (.aload_n 0, 1) := by decide +kernel
theorem dX2_crossedOneByOne_45 : decode cX2_crossedOneByOne 45 = .ok (.getfield 15, 3) := by decide +kernel
theorem dX2_crossedOneByOne_48 : decode cX2_crossedOneByOne 48 = .ok (.iload_n 2, 1) := by decide +kernel
theorem dX2_crossedOneByOne_49 : decode cX2_crossedOneByOne 49 = .ok (.iaload, 1) := by decide +kernel
theorem dX2_crossedOneByOne_50 : decode cX2_crossedOneByOne 50 = .ok (.if_icmp .le 6, 3) := by decide +kernel
theorem dX2_crossedOneByOne_53 : decode cX2_crossedOneByOne 53 = .ok (.iinc 1 1, 3) := by decide +kernel
theorem dX2_crossedOneByOne_56 : decode cX2_crossedOneByOne 56 = .ok (.iinc 3 1, 3) := by decide +kernel
theorem dX2_crossedOneByOne_59 : decode cX2_crossedOneByOne 59 = .ok (.goto (-41), 3) := by decide +kernel
theorem dX2_crossedOneByOne_62 : decode cX2_crossedOneByOne 62 = .ok (.iinc 2 1, 3) := by decide +kernel
theorem dX2_crossedOneByOne_65 : decode cX2_crossedOneByOne 65 = .ok (.goto (-57), 3) := by decide +kernel
theorem dX2_crossedOneByOne_68 : decode cX2_crossedOneByOne 68 = .ok (.iload_n 1, 1) := by decide +kernel
theorem dX2_crossedOneByOne_69 : decode cX2_crossedOneByOne 69 = .ok (.ireturn, 1) := by decide +kernel
theorem dX2_sortByMiddles_0 : decode cX2_sortByMiddles 0 = .ok (.iconst 1, 1) := by decide +kernel
theorem dX2_sortByMiddles_1 : decode cX2_sortByMiddles 1 = .ok (.istore_n 1, 1) := by decide +kernel
theorem dX2_sortByMiddles_2 : decode cX2_sortByMiddles 2 = .ok (.iload_n 1, 1) := by decide +kernel
theorem dX2_sortByMiddles_3 : decode cX2_sortByMiddles 3 = .ok (.aload_n 0, 1) := by decide +kernel
theorem dX2_sortByMiddles_4 : decode cX2_sortByMiddles 4 = .ok (.getfield 18, 3) := by decide +kernel
theorem dX2_sortByMiddles_7 : decode cX2_sortByMiddles 7 = .ok (.if_icmp .ge 98, 3) := by decide +kernel
theorem dX2_sortByMiddles_10 : decode cX2_sortByMiddles 10 = .ok (.aload_n 0, 1) := by decide +kernel
theorem dX2_sortByMiddles_11 : decode cX2_sortByMiddles 11 = .ok (.getfield 9, 3) := by decide +kernel
theorem dX2_sortByMiddles_14 : decode cX2_sortByMiddles 14 = .ok (.iload_n 1, 1) := by decide +kernel
theorem dX2_sortByMiddles_15 : decode cX2_sortByMiddles 15 = .ok (.iaload, 1) := by decide +kernel
theorem dX2_sortByMiddles_16 : decode cX2_sortByMiddles 16 = .ok (.istore_n 2, 1) := by decide +kernel
theorem dX2_sortByMiddles_17 : decode cX2_sortByMiddles 17 = .ok (.aload_n 0, 1) := by decide +kernel
theorem dX2_sortByMiddles_18 : decode cX2_sortByMiddles 18 = .ok (.getfield 15, 3) := by decide +kernel
theorem dX2_sortByMiddles_21 : decode cX2_sortByMiddles 21 = .ok (.iload_n 1, 1) := by decide +kernel
theorem dX2_sortByMiddles_22 : decode cX2_sortByMiddles 22 = .ok (.iaload, 1) := by decide +kernel
theorem dX2_sortByMiddles_23 : decode cX2_sortByMiddles 23 = .ok (.istore_n 3, 1) := by decide +kernel
theorem dX2_sortByMiddles_24 : decode cX2_sortByMiddles 24 = .ok (.iload_n 1, 1) := by decide +kernel
theorem dX2_sortByMiddles_25 : decode cX2_sortByMiddles 25 = .ok (.istore 4, 2) := by decide +kernel
theorem dX2_sortByMiddles_27 : decode cX2_sortByMiddles 27 = .ok (.iload 4, 2) := by decide +kernel
theorem dX2_sortByMiddles_29 : decode cX2_sortByMiddles 29 = .ok (.ifCond .le 54, 3) := by decide +kernel
theorem dX2_sortByMiddles_32 : decode cX2_sortByMiddles 32 = .ok (.aload_n 0, 1) := by decide +kernel
theorem dX2_sortByMiddles_33 : decode cX2_sortByMiddles 33 = .ok (.getfield 9, 3) := by decide +kernel
theorem dX2_sortByMiddles_36 : decode cX2_sortByMiddles 36 = .ok (.iload 4, 2) := by decide +kernel
theorem dX2_sortByMiddles_38 : decode cX2_sortByMiddles 38 = .ok (.iconst 1, 1) := by decide +kernel
theorem dX2_sortByMiddles_39 : decode cX2_sortByMiddles 39 = .ok (.isub, 1) := by decide +kernel
theorem dX2_sortByMiddles_40 : decode cX2_sortByMiddles 40 = .ok (.iaload, 1) := by decide +kernel
theorem dX2_sortByMiddles_41 : decode cX2_sortByMiddles 41 = .ok (.iload_n 2, 1) := by decide +kernel
theorem dX2_sortByMiddles_42 : decode cX2_sortByMiddles 42 = .ok (.if_icmp .le 41, 3) := by decide +kernel
theorem dX2_sortByMiddles_45 : decode cX2_sortByMiddles 45 = .ok (.aload_n 0, 1) := by decide +kernel
theorem dX2_sortByMiddles_46 : decode cX2_sortByMiddles 46 = .ok (.getfield 9, 3) := by decide +kernel
theorem dX2_sortByMiddles_49 : decode cX2_sortByMiddles 49 = .ok (.iload 4, 2) := by decide +kernel
theorem dX2_sortByMiddles_51 : decode cX2_sortByMiddles 51 = .ok (.aload_n 0, 1) := by decide +kernel
theorem dX2_sortByMiddles_52 : decode cX2_sortByMiddles 52 = .ok (.getfield 9, 3) := by decide +kernel
theorem dX2_sortByMiddles_55 : decode cX2_sortByMiddles 55 = .ok (.iload 4, 2) := by decide +kernel
theorem dX2_sortByMiddles_57 : decode cX2_sortByMiddles 57 = .ok (.iconst 1, 1) := by decide +kernel
theorem dX2_sortByMiddles_58 : decode cX2_sortByMiddles 58 = .ok (.isub, 1) := by decide +kernel
theorem dX2_sortByMiddles_59 : decode cX2_sortByMiddles 59 = .ok (.iaload, 1) := by decide +kernel
theorem dX2_sortByMiddles_60 : decode cX2_sortByMiddles 60 = .ok (.iastore, 1) := by decide +kernel
theorem dX2_sortByMiddles_61 : decode cX2_sortByMiddles 61 = .ok (.aload_n 0, 1) := by decide +kernel
theorem dX2_sortByMiddles_62 : decode cX2_sortByMiddles 62 = .ok (.getfield 15, 3) := by decide +kernel
theorem dX2_sortByMiddles_65 : decode cX2_sortByMiddles 65 = .ok (.iload 4, 2) := by decide +kernel
theorem dX2_sortByMiddles_67 : decode cX2_sortByMiddles 67 = .ok (.aload_n 0, 1) := by decide +kernel
theorem dX2_sortByMiddles_68 : decode cX2_sortByMiddles 68 = .ok (.getfield 15, 3) := by decide +kernel
theorem dX2_sortByMiddles_71 : decode cX2_sortByMiddles 71 = .ok (.iload 4, 2) := by decide +kernel
theorem dX2_sortByMiddles_73 : decode cX2_sortByMiddles 73 = .ok (.iconst 1, 1) := by decide +kernel
theorem dX2_sortByMiddles_74 : decode cX2_sortByMiddles 74 = .ok (.isub, 1) := by decide +kernel
theorem dX2_sortByMiddles_75 : decode cX2_sortByMiddles 75 = .ok (.iaload, 1) := by decide +kernel
theorem dX2_sortByMiddles_76 : decode cX2_sortByMiddles 76 = .ok (.iastore, 1) := by decide +kernel
theorem dX2_sortByMiddles_77 : decode cX2_sortByMiddles 77 = .ok (.iinc 4 (-1), 3) := by decide +kernel
theorem dX2_sortByMiddles_80 : decode cX2_sortByMiddles 80 = .ok (.goto (-53), 3) := by decide +kernel
theorem dX2_sortByMiddles_83 : decode cX2_sortByMiddles 83 = .ok (.aload_n 0, 1) := by decide +kernel
theorem dX2_sortByMiddles_84 : decode cX2_sortByMiddles 84 = .ok (.getfield 9, 3) := by decide +kernel
theorem dX2_sortByMiddles_87 : decode cX2_sortByMiddles 87 = .ok (.iload 4, 2) := by decide +kernel
theorem dX2_sortByMiddles_89 : decode cX2_sortByMiddles 89 = .ok (.iload_n 2, 1) := by decide +kernel
theorem dX2_sortByMiddles_90 : decode cX2_sortByMiddles 90 = .ok (.iastore, 1) := by decide +kernel
theorem dX2_sortByMiddles_91 : decode cX2_sortByMiddles 91 = .ok (.aload_n 0, 1) := by decide +kernel
theorem dX2_sortByMiddles_92 : decode cX2_sortByMiddles 92 = .ok (.getfield 15, 3) := by decide +kernel
theorem dX2_sortByMiddles_95 : decode cX2_sortByMiddles 95 = .ok (.iload 4, 2) := by decide +kernel
theorem dX2_sortByMiddles_97 : decode cX2_sortByMiddles 97 = .ok (.iload_n 3, 1) := by decide +kernel
theorem dX2_sortByMiddles_98 : decode cX2_sortByMiddles 98 = .ok (.iastore, 1) := by decide +kernel
theorem dX2_sortByMiddles_99 : decode cX2_sortByMiddles 99 = .ok (.iinc 1 1, 3) := by decide +kernel
theorem dX2_sortByMiddles_102 : decode cX2_sortByMiddles 102 = .ok (.goto (-100), 3) := by decide +kernel
theorem dX2_sortByMiddles_105 : decode cX2_sortByMiddles 105 = .ok (.return_, 1) := by decide +kernel
theorem dX3_init_0 : decode cX3_init 0 = .ok (.aload_n 0, 1) := by decide +kernel
theorem dX3_init_1 : decode cX3_init 1 = .ok (.invokespecial 3, 3) := by decide +kernel
theorem dX3_init_4 : decode cX3_init 4 = .ok (.aload_n 0, 1) := by decide +kernel
theorem dX3_init_5 : decode cX3_init 5 = .ok (.bipush 6, 2) := by decide +kernel
theorem dX3_init_7 : decode cX3_init 7 = .ok (.newarray .int, 2) := by decide +kernel
theorem dX3_init_9 : decode cX3_init 9 = .ok (.putfield 9, 3) := by decide +kernel
theorem dX3_init_12 : decode cX3_init 12 = .ok (.aload_n 0, 1) := by decide +kernel
theorem dX3_init_13 : decode cX3_init 13 = .ok (.bipush 6, 2) := by decide +kernel
theorem dX3_init_15 : decode cX3_init 15 = .ok (.newarray .int, 2) := by decide +kernel
theorem dX3_init_17 : decode cX3_init 17 = .ok (.putfield 15, 3) := by decide +kernel
theorem dX3_init_20 : decode cX3_init 20 = .ok (.aload_n 0, 1) := by decide +kernel
theorem dX3_init_21 : decode cX3_init 21 = .ok (.bipush 20, 2) := by decide +kernel
theorem dX3_init_23 : decode cX3_init 23 = .ok (.newarray .int, 2) := by decide +kernel
theorem dX3_init_25 : decode cX3_init 25 = .ok (.putfield 18, 3) := by decide +kernel
theorem dX3_init_28 : decode cX3_init 28 = .ok (.aload_n 0, 1) := by decide +kernel
theorem dX3_init_29 : decode cX3_init 29 = .ok (.bipush 20, 2) := by decide +kernel
theorem dX3_init_31 : decode cX3_init 31 = .ok (.newarray .int, 2) := by decide +kernel
theorem dX3_init_33 : decode cX3_init 33 = .ok (.putfield 21, 3) := by decide +kernel
theorem dX3_init_36 : decode cX3_init 36 = .ok (.aload_n 0, 1) := by decide +kernel
theorem dX3_init_37 : decode cX3_init 37 = .ok (.bipush 6, 2) := by decide +kernel
theorem dX3_init_39 : decode cX3_init 39 = .ok (.newarray .int, 2) := by decide +kernel
theorem dX3_init_41 : decode cX3_init 41 = .ok (.putfield 24, 3) := by decide +kernel
theorem dX3_init_44 : decode cX3_init 44 = .ok (.aload_n 0, 1) := by decide +kernel
theorem dX3_init_45 : decode cX3_init 45 = .ok (.bipush 6, 2) := by decide +kernel
theorem dX3_init_47 : decode cX3_init 47 = .ok (.newarray .int, 2) := by decide +kernel
theorem dX3_init_49 : decode cX3_init 49 = .ok (.putfield 27, 3) := by decide +kernel
theorem dX3_init_52 : decode cX3_init 52 = .ok (.aload_n 0, 1) := by decide +kernel
theorem dX3_init_53 : decode cX3_init 53 = .ok (.bipush 6, 2) := by decide +kernel
theorem dX3_init_55 : decode cX3_init 55 = .ok (.newarray .int, 2) := by decide +kernel
theorem dX3_init_57 : decode cX3_init 57 = .ok (.putfield 30, 3) := by decide +kernel
theorem dX3_init_60 : decode cX3_init 60 = .ok (.aload_n 0, 1) := by decide +kernel
theorem dX3_init_61 : decode cX3_init 61 = .ok (.bipush 6, 2) := by decide +kernel
theorem dX3_init_63 : decode cX3_init 63 = .ok (.newarray .int, 2) := by decide +kernel
theorem dX3_init_65 : decode cX3_init 65 = .ok (.putfield 33, 3) := by decide +kernel
theorem dX3_init_68 : decode cX3_init 68 = .ok (.aload_n 0, 1) := by decide +kernel
theorem dX3_init_69 : decode cX3_init 69 = .ok (.bipush 6, 2) := by decide +kernel
theorem dX3_init_71 : decode cX3_init 71 = .ok (.newarray .int, 2) := by decide +kernel
theorem dX3_init_73 : decode cX3_init 73 = .ok (.putfield 36, 3) := by decide +kernel
theorem dX3_init_76 : decode cX3_init 76 = .ok (.aload_n 0, 1) := by decide +kernel
theorem dX3_init_77 : decode cX3_init 77 = .ok (.bipush 6, 2) := by decide +kernel
theorem dX3_init_79 : decode cX3_init 79 = .ok (.bipush 6, 2) := by decide +kernel
theorem dX3_init_81 : decode cX3_init 81 = .ok (.multianewarray 39 2, 4) := by decide +kernel
theorem dX3_init_85 : decode cX3_init 85 = .ok (.putfield 41, 3) := by decide +kernel
theorem dX3_init_88 : decode cX3_init 88 = .ok (.return_, 1) := by decide +kernel
set_option maxRecDepth 20000 in
theorem ggX3_prepare_X3_listPeople : GoodIn wsX3_prepare wsX3_listPeople := goodIn_r _ [5, 6, 7, 8, 9, 10, 11, 12, 13, 14, 15, 16, 17, 18, 19, 20, 21, 22, 91, 92, 93, 94, 95, 96, 97, 98, 99, 100, 101, 102, 103, 104, 105, 106, 107, 108, 109, 110, 111, 112, 113] (by decide +kernel) (by decide +kernel)
set_option maxRecDepth 20000 in
theorem gX3_prepare_X3_listPeople : GoodIn wsX3_prepare (wsV RX3 44 RX3 yX3_listPeople wsX3_listPeople) := goodIn_app (goodIn_of _ (by decide +kernel)) ggX3_prepare_X3_listPeople
set_option maxRecDepth 20000 in
theorem ggX3_prepare_X3_noteLinesTo : GoodIn wsX3_prepare wsX3_noteLinesTo := goodIn_r _ [26, 6, 7, 27, 28, 29, 30, 11, 31, 32, 33, 34, 35, 36, 19, 20, 21, 22, 13, 37, 38, 39, 40, 41, 42, 43, 44, 45, 46, 47, 48, 49, 50, 51, 52, 91, 92, 93, 94, 95, 96, 97, 98, 99, 100, 101, 102, 103, 104, 105, 106, 107, 108, 109, 110, 111, 112, 113] (by decide +kernel) (by decide +kernel)
set_option maxRecDepth 20000 in
theorem gX3_prepare_X3_noteLinesTo : GoodIn wsX3_prepare (wsV RX3 48 RX3 yX3_noteLinesTo wsX3_noteLinesTo) := goodIn_app (goodIn_of _ (by decide +kernel)) ggX3_prepare_X3_noteLinesTo
set_option maxRecDepth 20000 in
theorem ggX3_prepare_X3_listCouples : GoodIn wsX3_prepare wsX3_listCouples := goodIn_r _ [56, 57, 58, 59, 60, 61, 11, 62, 63, 64, 65, 66, 67, 68, 69, 70, 33, 34, 35, 36, 19, 20, 21, 22, 13, 71, 72, 73, 4, 74, 75, 76, 77, 78, 79, 80, 81, 41, 43, 44, 45, 46, 47, 82, 83, 84, 85, 42, 91, 92, 93, 94, 95, 96, 97, 98, 99, 100, 101, 102, 103, 104, 105, 106, 107, 108, 109, 110, 111, 112, 113] (by decide +kernel) (by decide +kernel)
set_option maxRecDepth 20000 in
theorem gX3_prepare_X3_listCouples : GoodIn wsX3_prepare (wsV RX3 52 RX3 yX3_listCouples wsX3_listCouples) := goodIn_app (goodIn_of _ (by decide +kernel)) ggX3_prepare_X3_listCouples
set_option maxRecDepth 20000 in
theorem ggX3_prepare_X5_sizeOf : GoodIn wsX3_prepare wsX5_sizeOf := goodIn_r _ [62, 63, 104, 105, 106, 107, 108, 109, 110, 111, 112, 113] (by decide +kernel) (by decide +kernel)
set_option maxRecDepth 20000 in
theorem gX3_prepare_X5_sizeOf : GoodIn wsX3_prepare (wsV RX3 55 RX5 yX5_sizeOf wsX5_sizeOf) := goodIn_app (goodIn_of _ (by decide +kernel)) ggX3_prepare_X5_sizeOf
set_option maxRecDepth 20000 in
theorem ggX3_prepare_X3_noteLinesFrom : GoodIn wsX3_prepare wsX3_noteLinesFrom := goodIn_r _ [89, 57, 90, 58, 91, 92, 93, 94, 95, 96, 97, 98, 99, 100, 101, 102, 103] (by decide +kernel) (by decide +kernel)
set_option maxRecDepth 20000 in
theorem gX3_prepare_X3_noteLinesFrom : GoodIn wsX3_prepare (wsV RX3 61 RX3 yX3_noteLinesFrom wsX3_noteLinesFrom) := goodIn_app (goodIn_of _ (by decide +kernel)) ggX3_prepare_X3_noteLinesFrom
theorem dX3_prepare_0 : decode cX3_prepare 0 = .ok (.aload_n 0, 1) := by decide +kernel
theorem dX3_prepare_1 : decode cX3_prepare 1 = .ok (.aload_n 1, 1) := by decide +kernel
theorem dX3_prepare_2 : decode cX3_prepare 2 = .ok (.iload_n 2, 1) := by decide +kernel
theorem dX3_prepare_3 : decode cX3_prepare 3 = .ok (.invokevirtual 44, 3) := by decide +kernel
theorem dX3_prepare_6 : decode cX3_prepare 6 = .ok (.aload_n 0, 1) := by decide +kernel
theorem dX3_prepare_7 : decode cX3_prepare 7 = .ok (.aload_n 1, 1) := by decide +kernel
theorem dX3_prepare_8 : decode cX3_prepare 8 = .ok (.invokevirtual 48, 3) := by decide +kernel
theorem dX3_prepare_11 : decode cX3_prepare 11 = .ok (.aload_n 0, 1) := by decide +kernel
theorem dX3_prepare_12 : decode cX3_prepare 12 = .ok (.aload_n 1, 1) := by decide +kernel
theorem dX3_prepare_13 : decode cX3_prepare 13 = .ok (.iload_n 2, 1) := by decide +kernel
theorem dX3_prepare_14 : decode cX3_prepare 14 = .ok (.iconst 1, 1) := by decide +kernel
theorem dX3_prepare_15 : decode cX3_prepare 15 = .ok (.iadd, 1) := by decide +kernel
theorem dX3_prepare_16 : decode cX3_prepare 16 = .ok (.invokevirtual 52, 3) := by decide +kernel
theorem dX3_prepare_19 : decode cX3_prepare 19 = .ok (.aload_n 0, 1) := by decide +kernel
theorem dX3_prepare_20 : decode cX3_prepare 20 = .ok (.aload_n 1, 1) := by decide +kernel
theorem dX3_prepare_21 : decode cX3_prepare 21 = .ok (.iload_n 2, 1) := by decide +kernel
theorem dX3_prepare_22 : decode cX3_prepare 22 = .ok (.iconst 1, 1) := by decide +kernel
theorem dX3_prepare_23 : decode cX3_prepare 23 = .ok (.iadd, 1) := by decide +kernel
theorem dX3_prepare_24 : decode cX3_prepare 24 = .ok (.invokevirtual 55, 3) := by decide +kernel
theorem dX3_prepare_27 : decode cX3_prepare 27 = .ok (.invokevirtual 61, 3) := by decide +kernel
theorem dX3_prepare_30 : decode cX3_prepare 30 = .ok (.return_, 1) := by decide +kernel
set_option maxRecDepth 20000 in
theorem ggX3_listPeople_X5_people : GoodIn wsX3_listPeople wsX5_people := goodIn_r _ [7, 8, 31, 32, 33, 34, 35, 36, 37, 38, 39, 40] (by decide +kernel) (by decide +kernel)
set_option maxRecDepth 20000 in
theorem gX3_listPeople_X5_people : GoodIn wsX3_listPeople (wsV RX3 69 RX5 yX5_people wsX5_people) := goodIn_app (goodIn_of _ (by decide +kernel)) ggX3_listPeople_X5_people
set_option maxRecDepth 20000 in
theorem ggX3_listPeople_X5_rowOf : GoodIn wsX3_listPeople wsX5_rowOf := goodIn_r _ [12, 13, 14, 15, 16, 6, 17, 8, 31, 32, 33, 34, 35, 36, 37, 38, 39, 40] (by decide +kernel) (by decide +kernel)
set_option maxRecDepth 20000 in
theorem gX3_listPeople_X5_rowOf : GoodIn wsX3_listPeople (wsV RX3 73 RX5 yX5_rowOf wsX5_rowOf) := goodIn_app (goodIn_of _ (by decide +kernel)) ggX3_listPeople_X5_rowOf
theorem dX3_listPeople_0 : decode cX3_listPeople 0 = .ok (.aload_n 0, 1) := by decide +kernel
theorem dX3_listPeople_1 : decode cX3_listPeople 1 = .ok (.iconst 0, 1) := by decide +kernel
theorem dX3_listPeople_2 : decode cX3_listPeople 2 = .ok (.putfield 65, 3) := by decide +kernel
theorem dX3_listPeople_5 : decode cX3_listPeople 5 = .ok (.iconst 0, 1) := by decide +kernel
theorem dX3_listPeople_6 : decode cX3_listPeople 6 = .ok (.istore_n 3, 1) := by decide +kernel
theorem dX3_listPeople_7 : decode cX3_listPeople 7 = .ok (.iload_n 3, 1) := by decide +kernel
theorem dX3_listPeople_8 : decode cX3_listPeople 8 = .ok (.aload_n 1, 1) := by decide +kernel
theorem dX3_listPeople_9 : decode cX3_listPeople 9 = .ok (.invokevirtual 69, 3) := by decide +kernel
theorem dX3_listPeople_12 : decode cX3_listPeople 12 = .ok (.if_icmp .ge 47, 3) := by decide +kernel
theorem dX3_listPeople_15 : decode cX3_listPeople 15 = .ok (.aload_n 0, 1) := by decide +kernel
theorem dX3_listPeople_16 : decode cX3_listPeople 16 = .ok (.getfield 65, 3) := by decide +kernel
theorem dX3_listPeople_19 : decode cX3_listPeople 19 = .ok (.bipush 6, 2) := by decide +kernel
theorem dX3_listPeople_21 : decode cX3_listPeople 21 = .ok (.if_icmp .ge 38, 3) := by decide +kernel
theorem dX3_listPeople_24 : decode cX3_listPeople 24 = .ok (.aload_n 1, 1) := by decide +kernel
theorem dX3_listPeople_25 : decode cX3_listPeople 25 = .ok (.iload_n 3, 1) := by decide +kernel
theorem dX3_listPeople_26 : decode cX3_listPeople 26 = .ok (.invokevirtual 73, 3) := by decide +kernel
theorem dX3_listPeople_29 : decode cX3_listPeople 29 = .ok (.iload_n 2, 1) := by decide +kernel
theorem dX3_listPeople_30 : decode cX3_listPeople 30 = .ok (.if_icmp .ne 23, 3) := by decide +kernel
theorem dX3_listPeople_33 : decode cX3_listPeople 33 = .ok (.aload_n 0, 1) := by decide +kernel
theorem dX3_listPeople_34 : decode cX3_listPeople 34 = .ok (.getfield 9, 3) := by decide +kernel
theorem dX3_listPeople_37 : decode cX3_listPeople 37 = .ok (.aload_n 0, 1) := by decide +kernel
theorem dX3_listPeople_38 : decode cX3_listPeople 38 = .ok (.getfield 65, 3) := by decide +kernel
theorem dX3_listPeople_41 : decode cX3_listPeople 41 = .ok (.iload_n 3, 1) := by decide +kernel
theorem dX3_listPeople_42 : decode cX3_listPeople 42 = .ok (.iastore, 1) := by decide +kernel
theorem dX3_listPeople_43 : decode cX3_listPeople 43 = .ok (.aload_n 0, 1) := by decide +kernel
theorem dX3_listPeople_44 : decode cX3_listPeople 44 = .ok (.dup, 1) := by decide +kernel
theorem dX3_listPeople_45 : decode cX3_listPeople 45 = .ok (.getfield 65, 3) := by decide +kernel
theorem dX3_listPeople_48 : decode cX3_listPeople 48 = .ok (.iconst 1, 1) := by decide +kernel
theorem dX3_listPeople_49 : decode cX3_listPeople 49 = .ok (.iadd, 1) := by decide +kernel
theorem dX3_listPeople_50 : decode cX3_listPeople 50 = .ok (.putfield 65, 3) := by decide +kernel
theorem dX3_listPeople_53 : decode cX3_listPeople 53 = .ok (.iinc 3 1, 3) := by decide +kernel
theorem dX3_listPeople_56 : decode cX3_listPeople 56 = .ok (.goto (-49), 3) := by decide +kernel
theorem dX3_listPeople_59 : decode cX3_listPeople 59 = .ok (.return_, 1) := by decide +kernel
set_option maxRecDepth 20000 in
theorem ggX3_noteLinesTo_X5_middleAbove : GoodIn wsX3_noteLinesTo wsX5_middleAbove := goodIn_r _ [8, 9, 10, 11, 7, 12, 13, 14, 15, 16, 17, 18, 19, 20, 21, 22, 23, 24, 25, 26, 27, 28, 29, 30, 31, 32, 33, 34, 48, 49, 50, 51, 52, 53, 54, 55, 56, 57] (by decide +kernel) (by decide +kernel)
set_option maxRecDepth 20000 in
theorem gX3_noteLinesTo_X5_middleAbove : GoodIn wsX3_noteLinesTo (wsV RX3 76 RX5 yX5_middleAbove wsX5_middleAbove) := goodIn_app (goodIn_of _ (by decide +kernel)) ggX3_noteLinesTo_X5_middleAbove
theorem dX3_noteLinesTo_0 : decode cX3_noteLinesTo 0 = .ok (.iconst 0, 1) := by decide +kernel
theorem dX3_noteLinesTo_1 : decode cX3_noteLinesTo 1 = .ok (.istore_n 2, 1) := by decide +kernel
theorem dX3_noteLinesTo_2 : decode cX3_noteLinesTo 2 = .ok (.iload_n 2, 1) := by decide +kernel
theorem dX3_noteLinesTo_3 : decode cX3_noteLinesTo 3 = .ok (.aload_n 0, 1) := by decide +kernel
theorem dX3_noteLinesTo_4 : decode cX3_noteLinesTo 4 = .ok (.getfield 65, 3) := by decide +kernel
theorem dX3_noteLinesTo_7 : decode cX3_noteLinesTo 7 = .ok (.if_icmp .ge 88, 3) := by decide +kernel
theorem dX3_noteLinesTo_10 : decode cX3_noteLinesTo 10 = .ok (.aload_n 1, 1) := by decide +kernel
theorem dX3_noteLinesTo_11 : decode cX3_noteLinesTo 11 = .ok (.aload_n 0, 1) := by decide +kernel
theorem dX3_noteLinesTo_12 : decode cX3_noteLinesTo 12 = .ok (.getfield 9, 3) := by decide +kernel
theorem dX3_noteLinesTo_15 : decode cX3_noteLinesTo 15 = .ok (.iload_n 2, 1) := by decide +kernel
theorem dX3_noteLinesTo_16 : decode cX3_noteLinesTo 16 = .ok (.iaload, 1) := by decide +kernel
theorem dX3_noteLinesTo_17 : decode cX3_noteLinesTo 17 = .ok (.invokevirtual 76, 3) := by decide +kernel
theorem dX3_noteLinesTo_20 : decode cX3_noteLinesTo 20 = .ok (.istore_n 3, 1) := by decide +kernel
theorem dX3_noteLinesTo_21 : decode cX3_noteLinesTo 21 = .ok (.iconst 0, 1) := by decide +kernel
theorem dX3_noteLinesTo_22 : decode cX3_noteLinesTo 22 = .ok (.istore 4, 2) := by decide +kernel
theorem dX3_noteLinesTo_24 : decode cX3_noteLinesTo 24 = .ok (.iconst 0, 1) := by decide +kernel
theorem dX3_noteLinesTo_25 : decode cX3_noteLinesTo 25 = .ok (.istore 5, 2) := by decide +kernel
theorem dX3_noteLinesTo_27 : decode cX3_noteLinesTo 27 = .ok (.iload 5, 2) := by decide +kernel
theorem dX3_noteLinesTo_29 : decode cX3_noteLinesTo 29 = .ok (.aload_n 0, 1) := by decide +kernel
theorem dX3_noteLinesTo_30 : decode cX3_noteLinesTo 30 = .ok (.getfield 65, 3) := by decide +kernel
theorem dX3_noteLinesTo_33 : decode cX3_noteLinesTo 33 = .ok (.if_icmp .ge 43, 3) := by decide +kernel
theorem dX3_noteLinesTo_36 : decode cX3_noteLinesTo 36 = .ok (.iload_n 3, 1) := by decide +kernel
theorem dX3_noteLinesTo_37 : decode cX3_noteLinesTo 37 = .ok (.iconst (-1), 1) := by decide +kernel
theorem dX3_noteLinesTo_38 : decode cX3_noteLinesTo 38 = .ok (.if_icmp .eq 38, 3) := by decide +kernel
theorem dX3_noteLinesTo_41 : decode cX3_noteLinesTo 41 = .ok (.aload_n 1, 1) := by decide +kernel
theorem dX3_noteLinesTo_42 : decode cX3_noteLinesTo 42 = .ok (.aload_n 0, 1) := by decide +kernel
theorem dX3_noteLinesTo_43 : decode cX3_noteLinesTo 43 = .ok (.getfield 9, 3) := by decide +kernel
theorem dX3_noteLinesTo_46 : decode cX3_noteLinesTo 46 = .ok (.iload 5, 2) := by decide +kernel
theorem dX3_noteLinesTo_48 : decode cX3_noteLinesTo 48 = .ok (.iaload, 1) := by decide +kernel
theorem dX3_noteLinesTo_49 : decode cX3_noteLinesTo 49 = .ok (.invokevirtual 76, 3) := by decide +kernel
theorem dX3_noteLinesTo_52 : decode cX3_noteLinesTo 52 = .ok (.iload_n 3, 1) := by decide +kernel
theorem dX3_noteLinesTo_53 : decode cX3_noteLinesTo 53 = .ok (.if_icmp .le 17, 3) := by decide +kernel
theorem dX3_noteLinesTo_56 : decode cX3_noteLinesTo 56 = .ok (.iload 4, 2) := by decide +kernel
theorem dX3_noteLinesTo_58 : decode cX3_noteLinesTo 58 = .ok (.iconst 1, 1) := by decide +kernel
theorem dX3_noteLinesTo_59 : decode cX3_noteLinesTo 59 = .ok (.aload_n 0, 1) := by decide +kernel
theorem dX3_noteLinesTo_60 : decode cX3_noteLinesTo 60 = .ok (.getfield 9, 3) := by decide +kernel
theorem dX3_noteLinesTo_63 : decode cX3_noteLinesTo 63 = .ok (.iload 5, 2) := by decide +kernel
theorem dX3_noteLinesTo_65 : decode cX3_noteLinesTo 65 = .ok (.iaload, 1) := by decide +kernel
theorem dX3_noteLinesTo_66 : decode cX3_noteLinesTo 66 = .ok (.ishl, 1) := by decide +kernel
theorem dX3_noteLinesTo_67 : decode cX3_noteLinesTo 67 = .ok (.ior, 1) := by decide +kernel
theorem dX3_noteLinesTo_68 : decode cX3_noteLinesTo 68 = .ok (.istore 4, 2) := by decide +kernel
theorem dX3_noteLinesTo_70 : decode cX3_noteLinesTo 70 = .ok (.iinc 5 1, 3) := by decide +kernel
theorem dX3_noteLinesTo_73 : decode cX3_noteLinesTo 73 = .ok (.goto (-46), 3) := by decide +kernel
theorem dX3_noteLinesTo_76 : decode cX3_noteLinesTo 76 = .ok (.aload_n 0, 1) := by decide +kernel
theorem dX3_noteLinesTo_77 : decode cX3_noteLinesTo 77 = .ok (.getfield 21, 3) := by decide +kernel
theorem dX3_noteLinesTo_80 : decode cX3_noteLinesTo 80 = .ok (.aload_n 0, 1) := by decide +kernel
theorem dX3_noteLinesTo_81 : decode cX3_noteLinesTo 81 = .ok (.getfield 9, 3) := by decide +kernel
theorem dX3_noteLinesTo_84 : decode cX3_noteLinesTo 84 = .ok (.iload_n 2, 1) := by decide +kernel
theorem dX3_noteLinesTo_85 : decode cX3_noteLinesTo 85 = .ok (.iaload, 1) := by decide +kernel
theorem dX3_noteLinesTo_86 : decode cX3_noteLinesTo 86 = .ok (.iload 4, 2) := by decide +kernel
theorem dX3_noteLinesTo_88 : decode cX3_noteLinesTo 88 = .ok (.iastore, 1) := by decide +kernel
theorem dX3_noteLinesTo_89 : decode cX3_noteLinesTo 89 = .ok (.iinc 2 1, 3) := by decide +kernel
theorem dX3_noteLinesTo_92 : decode cX3_noteLinesTo 92 = .ok (.goto (-90), 3) := by decide +kernel
theorem dX3_noteLinesTo_95 : decode cX3_noteLinesTo 95 = .ok (.return_, 1) := by decide +kernel
set_option maxRecDepth 20000 in
theorem ggX3_listCouples_X5_sizeOf : GoodIn wsX3_listCouples wsX5_sizeOf := goodIn_r _ [7, 8, 61, 62, 63, 64, 65, 66, 67, 68, 69, 70] (by decide +kernel) (by decide +kernel)
set_option maxRecDepth 20000 in
theorem gX3_listCouples_X5_sizeOf : GoodIn wsX3_listCouples (wsV RX3 55 RX5 yX5_sizeOf wsX5_sizeOf) := goodIn_app (goodIn_of _ (by decide +kernel)) ggX3_listCouples_X5_sizeOf
set_option maxRecDepth 20000 in
theorem ggX3_listCouples_X5_personAt : GoodIn wsX3_listCouples wsX5_personAt := goodIn_r _ [12, 13, 14, 4, 5, 6, 7, 8, 61, 62, 63, 64, 65, 66, 67, 68, 69, 70] (by decide +kernel) (by decide +kernel)
set_option maxRecDepth 20000 in
theorem gX3_listCouples_X5_personAt : GoodIn wsX3_listCouples (wsV RX3 82 RX5 yX5_personAt wsX5_personAt) := goodIn_app (goodIn_of _ (by decide +kernel)) ggX3_listCouples_X5_personAt
set_option maxRecDepth 20000 in
theorem ggX3_listCouples_X5_parentsOf : GoodIn wsX3_listCouples wsX5_parentsOf := goodIn_r _ [18, 19, 20, 21, 22, 6, 23, 24, 61, 62, 63, 64, 65, 66, 67, 68, 69, 70] (by decide +kernel) (by decide +kernel)
set_option maxRecDepth 20000 in
theorem gX3_listCouples_X5_parentsOf : GoodIn wsX3_listCouples (wsV RX3 86 RX5 yX5_parentsOf wsX5_parentsOf) := goodIn_app (goodIn_of _ (by decide +kernel)) ggX3_listCouples_X5_parentsOf
set_option maxRecDepth 20000 in
theorem ggX3_listCouples_X3_indexOfCouple : GoodIn wsX3_listCouples wsX3_indexOfCouple := goodIn_r _ [29, 1, 30, 31, 32, 33, 34, 35, 6, 36, 37, 38, 39, 40, 41, 42, 43, 44, 45, 46, 47, 48, 49, 50, 51, 52, 53, 54, 55, 56, 57, 58, 59, 60, 61, 62, 63, 64, 65, 66, 67, 68, 69, 70] (by decide +kernel) (by decide +kernel)
set_option maxRecDepth 20000 in
theorem gX3_listCouples_X3_indexOfCouple : GoodIn wsX3_listCouples (wsV RX3 89 RX3 yX3_indexOfCouple wsX3_indexOfCouple) := goodIn_app (goodIn_of _ (by decide +kernel)) ggX3_listCouples_X3_indexOfCouple
theorem dX3_listCouples_0 : decode cX3_listCouples 0 = .ok (.aload_n 0, 1) := by decide +kernel
theorem dX3_listCouples_1 : decode cX3_listCouples 1 = .ok (.iconst 0, 1) := by decide +kernel
theorem dX3_listCouples_2 : decode cX3_listCouples 2 = .ok (.putfield 79, 3) := by decide +kernel
theorem dX3_listCouples_5 : decode cX3_listCouples 5 = .ok (.iconst 0, 1) := by decide +kernel
theorem dX3_listCouples_6 : decode cX3_listCouples 6 = .ok (.istore_n 3, 1) := by decide +kernel
theorem dX3_listCouples_7 : decode cX3_listCouples 7 = .ok (.iload_n 3, 1) := by decide +kernel
theorem dX3_listCouples_8 : decode cX3_listCouples 8 = .ok (.aload_n 1, 1) := by decide +kernel
theorem dX3_listCouples_9 : decode cX3_listCouples 9 = .ok (.iload_n 2, 1) := by decide +kernel
theorem dX3_listCouples_10 : decode cX3_listCouples 10 = .ok (.invokevirtual 55, 3) := by decide +kernel
theorem dX3_listCouples_13 : decode cX3_listCouples 13 = .ok (.if_icmp .ge 50, 3) := by decide +kernel
theorem dX3_listCouples_16 : decode cX3_listCouples 16 = .ok (.iload_n 3, 1) := by decide +kernel
theorem dX3_listCouples_17 : decode cX3_listCouples 17 = .ok (.bipush 6, 2) := by decide +kernel
theorem dX3_listCouples_19 : decode cX3_listCouples 19 = .ok (.if_icmp .ge 44, 3) := by decide +kernel
theorem dX3_listCouples_22 : decode cX3_listCouples 22 = .ok (.aload_n 1, 1) := by decide +kernel
theorem dX3_listCouples_23 : decode cX3_listCouples 23 = .ok (.aload_n 1, 1) := by decide +kernel
theorem dX3_listCouples_24 : decode cX3_listCouples 24 = .ok (.iload_n 2, 1) := by decide +kernel
theorem dX3_listCouples_25 : decode cX3_listCouples 25 = .ok (.iload_n 3, 1) := by decide +kernel
theorem dX3_listCouples_26 : decode cX3_listCouples 26 = .ok (.invokevirtual 82, 3) := by decide +kernel
theorem dX3_listCouples_29 : decode cX3_listCouples 29 = .ok (.invokevirtual 86, 3) := by decide +kernel
theorem dX3_listCouples_32 : decode cX3_listCouples 32 = .ok (.istore 4, 2) := by decide +kernel
theorem dX3_listCouples_34 : decode cX3_listCouples 34 = .ok (.aload_n 0, 1) := by decide +kernel
theorem dX3_listCouples_35 : decode cX3_listCouples 35 = .ok (.getfield 36, 3) := by decide +kernel
theorem dX3_listCouples_38 : decode cX3_listCouples 38 = .ok (.iload_n 3, 1) := by decide +kernel
theorem dX3_listCouples_39 : decode cX3_listCouples 39 = .ok (.iload 4, 2) := by decide +kernel
theorem dX3_listCouples_41 : decode cX3_listCouples 41 = .ok (.iconst (-1), 1) := by decide +kernel
theorem dX3_listCouples_42 : decode cX3_listCouples 42 = .ok (.if_icmp .ne 7, 3) := by decide +kernel
theorem dX3_listCouples_45 : decode cX3_listCouples 45 = .ok (.iconst (-1), 1) := by decide +kernel
theorem dX3_listCouples_46 : decode cX3_listCouples 46 = .ok (.goto 10, 3) := by decide +kernel
theorem dX3_listCouples_49 : decode cX3_listCouples 49 = .ok (.aload_n 0, 1) := by decide +kernel
theorem dX3_listCouples_50 : decode cX3_listCouples 50 = .ok (.aload_n 1, 1) := by decide +kernel
theorem dX3_listCouples_51 : decode cX3_listCouples 51 = .ok (.iload 4, 2) := by decide +kernel
theorem dX3_listCouples_53 : decode cX3_listCouples 53 = .ok (.invokevirtual 89, 3) := by decide +kernel
theorem dX3_listCouples_56 : decode cX3_listCouples 56 = .ok (.iastore, 1) := by decide +kernel
theorem dX3_listCouples_57 : decode cX3_listCouples 57 = .ok (.iinc 3 1, 3) := by decide +kernel
theorem dX3_listCouples_60 : decode cX3_listCouples 60 = .ok (.goto (-53), 3) := by decide +kernel
theorem dX3_listCouples_63 : decode cX3_listCouples 63 = .ok (.return_, 1) := by decide +kernel
set_option maxRecDepth 20000 in
theorem ggX3_indexOfCouple_X5_lesserOf : GoodIn wsX3_indexOfCouple wsX5_lesserOf := goodIn_r _ [9, 10, 11, 12, 13, 8, 14, 15, 34, 35, 36, 37, 38, 39, 40, 41, 42, 43] (by decide +kernel) (by decide +kernel)
set_option maxRecDepth 20000 in
theorem gX3_indexOfCouple_X5_lesserOf : GoodIn wsX3_indexOfCouple (wsV RX3 93 RX5 yX5_lesserOf wsX5_lesserOf) := goodIn_app (goodIn_of _ (by decide +kernel)) ggX3_indexOfCouple_X5_lesserOf
set_option maxRecDepth 20000 in
theorem ggX3_indexOfCouple_X5_greaterOf : GoodIn wsX3_indexOfCouple wsX5_greaterOf := goodIn_r _ [19, 20, 11, 12, 13, 8, 14, 15, 34, 35, 36, 37, 38, 39, 40, 41, 42, 43] (by decide +kernel) (by decide +kernel)
set_option maxRecDepth 20000 in
theorem gX3_indexOfCouple_X5_greaterOf : GoodIn wsX3_indexOfCouple (wsV RX3 96 RX5 yX5_greaterOf wsX5_greaterOf) := goodIn_app (goodIn_of _ (by decide +kernel)) ggX3_indexOfCouple_X5_greaterOf
theorem dX3_indexOfCouple_0 : decode cX3_indexOfCouple 0 = .ok (.iconst 0, 1) := by decide +kernel
theorem dX3_indexOfCouple_1 : decode cX3_indexOfCouple 1 = .ok (.istore_n 3, 1) := by decide +kernel
theorem dX3_indexOfCouple_2 : decode cX3_indexOfCouple 2 = .ok (.iload_n 3, 1) := by decide +kernel
theorem dX3_indexOfCouple_3 : decode cX3_indexOfCouple 3 = .ok (.aload_n 0, 1) := by decide +kernel
theorem dX3_indexOfCouple_4 : decode cX3_indexOfCouple 4 = .ok (.getfield 79, 3) := by decide +kernel
theorem dX3_indexOfCouple_7 : decode cX3_indexOfCouple 7 = .ok (.if_icmp .ge 21, 3) := by decide +kernel
theorem dX3_indexOfCouple_10 : decode cX3_indexOfCouple 10 = .ok (.aload_n 0, 1) := by decide +kernel
theorem dX3_indexOfCouple_11 : decode cX3_indexOfCouple 11 = .ok (.getfield 24, 3) := by decide +kernel
theorem dX3_indexOfCouple_14 : decode cX3_indexOfCouple 14 = .ok (.iload_n 3, 1) := by decide +kernel
theorem dX3_indexOfCouple_15 : decode cX3_indexOfCouple 15 = .ok (.iaload, 1) := by decide +kernel
theorem dX3_indexOfCouple_16 : decode cX3_indexOfCouple 16 = .ok (.iload_n 2, 1) := by decide +kernel
theorem dX3_indexOfCouple_17 : decode cX3_indexOfCouple 17 = .ok (.if_icmp .ne 5, 3) := by decide +kernel
theorem dX3_indexOfCouple_20 : decode cX3_indexOfCouple 20 = .ok (.iload_n 3, 1) := by decide +kernel
theorem dX3_indexOfCouple_21 : decode cX3_indexOfCouple 21 = .ok (.ireturn, 1) := by decide +kernel
theorem dX3_indexOfCouple_22 : decode cX3_indexOfCouple 22 = .ok (.iinc 3 1, 3) := by decide +kernel
theorem dX3_indexOfCouple_25 : decode cX3_indexOfCouple 25 = .ok (.goto (-23), 3) := by decide +kernel
theorem dX3_indexOfCouple_28 : decode cX3_indexOfCouple 28 = .ok (.aload_n 0, 1) := by decide +kernel
theorem dX3_indexOfCouple_29 : decode cX3_indexOfCouple 29 = .ok (.getfield 79, 3) := by decide +kernel
theorem dX3_indexOfCouple_32 : decode cX3_indexOfCouple 32 = .ok (.bipush 6, 2) := by decide +kernel
theorem dX3_indexOfCouple_34 : decode cX3_indexOfCouple 34 = .ok (.if_icmp .lt 5, 3) := by decide +kernel
theorem dX3_indexOfCouple_37 : decode cX3_indexOfCouple 37 = .ok (.iconst (-1), 1) := by decide +kernel
theorem dX3_indexOfCouple_38 : decode cX3_indexOfCouple 38 = .ok (.ireturn, 1) := by decide +kernel
theorem dX3_indexOfCouple_39 : decode cX3_indexOfCouple 39 = .ok (.aload_n 0, 1) := by decide +kernel
theorem dX3_indexOfCouple_40 : decode cX3_indexOfCouple 40 = .ok (.getfield 79, 3) := by decide +kernel
theorem dX3_indexOfCouple_43 : decode cX3_indexOfCouple 43 = .ok (.istore_n 3, 1) := by decide +kernel
theorem dX3_indexOfCouple_44 : decode cX3_indexOfCouple 44 = .ok (.aload_n 0, 1) := by decide +kernel
theorem dX3_indexOfCouple_45 : decode cX3_indexOfCouple 45 = .ok (.dup, 1) := by decide +kernel
theorem dX3_indexOfCouple_46 : decode cX3_indexOfCouple 46 = .ok (.getfield 79, 3) := by decide +kernel
theorem dX3_indexOfCouple_49 : decode cX3_indexOfCouple 49 = .ok (.iconst 1, 1) := by decide +kernel
theorem dX3_indexOfCouple_50 : decode cX3_indexOfCouple 50 = .ok (.iadd, 1) := by decide +kernel
theorem dX3_indexOfCouple_51 : decode cX3_indexOfCouple 51 = .ok (.putfield 79, 3) := by decide +kernel
theorem dX3_indexOfCouple_54 : decode cX3_indexOfCouple 54 = .ok (.aload_n 0, 1) := by decide +kernel
theorem dX3_indexOfCouple_55 : decode cX3_indexOfCouple 55 = .ok (.getfield 24, 3) := by decide +kernel
theorem dX3_indexOfCouple_58 : decode cX3_indexOfCouple 58 = .ok (.iload_n 3, 1) := by decide +kernel
theorem dX3_indexOfCouple_59 : decode cX3_indexOfCouple 59 = .ok (.iload_n 2, 1) := by decide +kernel
theorem dX3_indexOfCouple_60 : decode cX3_indexOfCouple 60 = .ok (.iastore, 1) := by decide +kernel
theorem dX3_indexOfCouple_61 : decode cX3_indexOfCouple 61 = .ok (.aload_n 0, 1) := by decide +kernel
theorem dX3_indexOfCouple_62 : decode cX3_indexOfCouple 62 = .ok (.getfield 27, 3) := by decide +kernel
theorem dX3_indexOfCouple_65 : decode cX3_indexOfCouple 65 = .ok (.iload_n 3, 1) := by decide +kernel
theorem dX3_indexOfCouple_66 : decode cX3_indexOfCouple 66 = .ok (.aload_n 1, 1) := by decide +kernel
theorem dX3_indexOfCouple_67 : decode cX3_indexOfCouple 67 = .ok (.iload_n 2, 1) := by decide +kernel
theorem dX3_indexOfCouple_68 : decode cX3_indexOfCouple 68 = .ok (.invokevirtual 93, 3) := by decide +kernel
theorem dX3_indexOfCouple_71 : decode cX3_indexOfCouple 71 = .ok (.iastore, 1) := by decide +kernel
theorem dX3_indexOfCouple_72 : decode cX3_indexOfCouple 72 = .ok (.aload_n 0, 1) := by decide +kernel
theorem dX3_indexOfCouple_73 : decode cX3_indexOfCouple 73 = .ok (.getfield 30, 3) := by decide +kernel
theorem dX3_indexOfCouple_76 : decode cX3_indexOfCouple 76 = .ok (.iload_n 3, 1) := by decide +kernel
theorem dX3_indexOfCouple_77 : decode cX3_indexOfCouple 77 = .ok (.aload_n 1, 1) := by decide +kernel
theorem dX3_indexOfCouple_78 : decode cX3_indexOfCouple 78 = .ok (.iload_n 2, 1) := by decide +kernel
theorem dX3_indexOfCouple_79 : decode cX3_indexOfCouple 79 = .ok (.invokevirtual 96, 3) := by decide +kernel
theorem dX3_indexOfCouple_82 : decode cX3_indexOfCouple 82 = .ok (.iastore, 1) := by decide +kernel
theorem dX3_indexOfCouple_83 : decode cX3_indexOfCouple 83 = .ok (.iload_n 3, 1) := by decide +kernel
theorem dX3_indexOfCouple_84 : decode cX3_indexOfCouple 84 = .ok (.ireturn, 1) := by decide +kernel
theorem dX3_noteLinesFrom_0 : decode cX3_noteLinesFrom 0 = .ok (.iconst 0, 1) := by decide +kernel
theorem dX3_noteLinesFrom_1 : decode cX3_noteLinesFrom 1 = .ok (.istore_n 2, 1) := by decide +kernel
theorem dX3_noteLinesFrom_2 : decode cX3_noteLinesFrom 2 = .ok (.iload_n 2, 1) := by decide +kernel
theorem dX3_noteLinesFrom_3 : decode cX3_noteLinesFrom 3 = .ok (.aload_n 0, 1) := by decide +kernel
theorem dX3_noteLinesFrom_4 : decode cX3_noteLinesFrom 4 = .ok (.getfield 79, 3) := by decide +kernel
theorem dX3_noteLinesFrom_7 : decode cX3_noteLinesFrom 7 = .ok (.if_icmp .ge 34, 3) := by decide +kernel
theorem dX3_noteLinesFrom_10 : decode cX3_noteLinesFrom 10 = .ok (.iconst 0, 1) := by decide +kernel
theorem dX3_noteLinesFrom_11 : decode cX3_noteLinesFrom 11 = .ok (.istore_n 3, 1) := by decide +kernel
theorem dX3_noteLinesFrom_12 : decode cX3_noteLinesFrom 12 = .ok (.iload_n 3, 1) := by decide +kernel
theorem dX3_noteLinesFrom_13 : decode cX3_noteLinesFrom 13 = .ok (.aload_n 0, 1) := by decide +kernel
theorem dX3_noteLinesFrom_14 : decode cX3_noteLinesFrom 14 = .ok (.getfield 79, 3) := by decide +kernel
theorem dX3_noteLinesFrom_17 : decode cX3_noteLinesFrom 17 = .ok (.if_icmp .ge 18, 3) := by decide +kernel
theorem dX3_noteLinesFrom_20 : decode cX3_noteLinesFrom 20 = .ok (.aload_n 0, 1) := by decide +kernel
theorem dX3_noteLinesFrom_21 : decode cX3_noteLinesFrom 21 = .ok (.getfield 41, 3) := by decide +kernel
theorem dX3_noteLinesFrom_24 : decode cX3_noteLinesFrom 24 = .ok (.iload_n 2, 1) := by decide +kernel
theorem dX3_noteLinesFrom_25 : decode cX3_noteLinesFrom 25 = .ok (.aaload, 1) := by decide +kernel
theorem dX3_noteLinesFrom_26 : decode cX3_noteLinesFrom 26 = .ok (.iload_n 3, 1) := by decide +kernel
theorem dX3_noteLinesFrom_27 : decode cX3_noteLinesFrom 27 = .ok (.iconst 0, 1) := by decide +kernel
theorem dX3_noteLinesFrom_28 : decode cX3_noteLinesFrom 28 = .ok (.iastore, 1) := by decide +kernel
theorem dX3_noteLinesFrom_29 : decode cX3_noteLinesFrom 29 = .ok (.iinc 3 1, 3) := by decide +kernel
theorem dX3_noteLinesFrom_32 : decode cX3_noteLinesFrom 32 = .ok (.goto (-20), 3) := by decide +kernel
theorem dX3_noteLinesFrom_35 : decode cX3_noteLinesFrom 35 = .ok (.iinc 2 1, 3) := by decide +kernel
theorem dX3_noteLinesFrom_38 : decode cX3_noteLinesFrom 38 = .ok (.goto (-36), 3) := by decide +kernel
theorem dX3_noteLinesFrom_41 : decode cX3_noteLinesFrom 41 = .ok (.iconst 0, 1) := by decide +kernel
theorem dX3_noteLinesFrom_42 : decode cX3_noteLinesFrom 42 = .ok (.istore_n 2, 1) := by decide +kernel
theorem dX3_noteLinesFrom_43 : decode cX3_noteLinesFrom 43 = .ok (.iload_n 2, 1) := by decide +kernel
theorem dX3_noteLinesFrom_44 : decode cX3_noteLinesFrom 44 = .ok (.iload_n 1, 1) := by decide +kernel
theorem dX3_noteLinesFrom_45 : decode cX3_noteLinesFrom 45 = .ok (.if_icmp .ge 66, 3) := by decide +kernel
theorem dX3_noteLinesFrom_48 : decode cX3_noteLinesFrom 48 = .ok (.iload_n 2, 1) := by decide +kernel
theorem dX3_noteLinesFrom_49 : decode cX3_noteLinesFrom 49 = .ok (.iconst 1, 1) := by decide +kernel
theorem dX3_noteLinesFrom_50 : decode cX3_noteLinesFrom 50 = .ok (.iadd, 1) := by decide +kernel
theorem dX3_noteLinesFrom_51 : decode cX3_noteLinesFrom 51 = .ok (.istore_n 3, 1) := by decide +kernel
theorem dX3_noteLinesFrom_52 : decode cX3_noteLinesFrom 52 = .ok (.iload_n 3, 1) := by decide +kernel
theorem dX3_noteLinesFrom_53 : decode cX3_noteLinesFrom 53 = .ok (.iload_n 1, 1) := by decide +kernel
theorem dX3_noteLinesFrom_54 : decode cX3_noteLinesFrom 54 = .ok (.if_icmp .ge 51, 3) := by decide +kernel
theorem dX3_noteLinesFrom_57 : decode cX3_noteLinesFrom 57 = .ok (.aload_n 0, 1) := by decide +kernel
theorem dX3_noteLinesFrom_58 : decode cX3_noteLinesFrom 58 = .ok (.getfield 36, 3) := by decide +kernel
theorem dX3_noteLinesFrom_61 : decode cX3_noteLinesFrom 61 = .ok (.iload_n 2, 1) := by decide +kernel
theorem dX3_noteLinesFrom_62 : decode cX3_noteLinesFrom 62 = .ok (.iaload, 1) := by decide +kernel
theorem dX3_noteLinesFrom_63 : decode cX3_noteLinesFrom 63 = .ok (.iconst (-1), 1) := by decide +kernel
theorem dX3_noteLinesFrom_64 : decode cX3_noteLinesFrom 64 = .ok (.if_icmp .eq 35, 3) := by decide +kernel
theorem dX3_noteLinesFrom_67 : decode cX3_noteLinesFrom 67 = .ok (.aload_n 0, 1) := by decide +kernel
theorem dX3_noteLinesFrom_68 : decode cX3_noteLinesFrom 68 = .ok (.getfield 36, 3) := by decide +kernel
theorem dX3_noteLinesFrom_71 : decode cX3_noteLinesFrom 71 = .ok (.iload_n 3, 1) := by decide +kernel
theorem dX3_noteLinesFrom_72 : decode cX3_noteLinesFrom 72 = .ok (.iaload, 1) := by decide +kernel
theorem dX3_noteLinesFrom_73 : decode cX3_noteLinesFrom 73 = .ok (.iconst (-1), 1) := by decide +kernel
theorem dX3_noteLinesFrom_74 : decode cX3_noteLinesFrom 74 = .ok (.if_icmp .eq 25, 3) := by decide +kernel
theorem dX3_noteLinesFrom_77 : decode cX3_noteLinesFrom 77 = .ok (.aload_n 0, 1) := by decide +kernel
theorem dX3_noteLinesFrom_78 : decode cX3_noteLinesFrom 78 = .ok (.getfield 41, 3) := by decide +kernel
theorem dX3_noteLinesFrom_81 : decode cX3_noteLinesFrom 81 = .ok (.aload_n 0, 1) := by decide +kernel
theorem dX3_noteLinesFrom_82 : decode cX3_noteLinesFrom 82 = .ok (.getfield 36, 3) := by decide +kernel
theorem dX3_noteLinesFrom_85 : decode cX3_noteLinesFrom 85 = .ok (.iload_n 3, 1) := by decide +kernel
theorem dX3_noteLinesFrom_86 : decode cX3_noteLinesFrom 86 = .ok (.iaload, 1) := by decide +kernel
theorem dX3_noteLinesFrom_87 : decode cX3_noteLinesFrom 87 = .ok (.aaload, 1) := by decide +kernel
theorem dX3_noteLinesFrom_88 : decode cX3_noteLinesFrom 88 = .ok (.aload_n 0, 1) := by decide +kernel
theorem dX3_noteLinesFrom_89 : decode cX3_noteLinesFrom 89 = .ok (.getfield 36, 3) := by decide +kernel
theorem dX3_noteLinesFrom_92 : decode cX3_noteLinesFrom 92 = .ok (.iload_n 2, 1) := by decide +kernel
theorem dX3_noteLinesFrom_93 : decode cX3_noteLinesFrom 93 = .ok (.iaload, 1) := by decide +kernel
theorem dX3_noteLinesFrom_94 : decode cX3_noteLinesFrom 94 = .ok (.dup2, 1) := by decide +kernel
theorem dX3_noteLinesFrom_95 : decode cX3_noteLinesFrom 95 = .ok (.iaload, 1) := by decide +kernel
theorem dX3_noteLinesFrom_96 : decode cX3_noteLinesFrom 96 = .ok (.iconst 1, 1) := by decide +kernel
theorem dX3_noteLinesFrom_97 : decode cX3_noteLinesFrom 97 = .ok (.iadd, 1) := by decide +kernel
theorem dX3_noteLinesFrom_98 : decode cX3_noteLinesFrom 98 = .ok (.iastore, 1) := by decide +kernel
theorem dX3_noteLinesFrom_99 : decode cX3_noteLinesFrom 99 = .ok (.iinc 3 1, 3) := by decide +kernel
theorem dX3_noteLinesFrom_102 : decode cX3_noteLinesFrom 102 = .ok (.goto (-50), 3) := by decide +kernel
theorem dX3_noteLinesFrom_105 : decode cX3_noteLinesFrom 105 = .ok (.iinc 2 1, 3) := by decide +kernel
theorem dX3_noteLinesFrom_108 : decode cX3_noteLinesFrom 108 = .ok (.goto (-65), 3) := by decide +kernel
theorem dX3_noteLinesFrom_111 : decode cX3_noteLinesFrom 111 = .ok (.return_, 1) := by decide +kernel
set_option maxRecDepth 20000 in
theorem ggX3_leastByAllOrders_X3_crossingsOfFirst : GoodIn wsX3_leastByAllOrders wsX3_crossingsOfFirst := goodIn_r _ [13, 3, 14, 15, 16, 17, 18, 19, 20, 21, 22, 23, 24, 25, 12, 26, 27, 28, 29, 30, 31, 40, 41, 42, 43, 44, 45, 46, 47, 48, 49, 50, 51, 52] (by decide +kernel) (by decide +kernel)
set_option maxRecDepth 20000 in
theorem gX3_leastByAllOrders_X3_crossingsOfFirst : GoodIn wsX3_leastByAllOrders (wsV RX3 102 RX3 yX3_crossingsOfFirst wsX3_crossingsOfFirst) := goodIn_app (goodIn_of _ (by decide +kernel)) ggX3_leastByAllOrders_X3_crossingsOfFirst
set_option maxRecDepth 20000 in
theorem ggX3_leastByAllOrders_X3_goToNextOrder : GoodIn wsX3_leastByAllOrders wsX3_goToNextOrder := goodIn_r _ [35, 2, 3, 36, 37, 38, 12, 39, 40, 41, 42, 43, 44, 45, 46, 47, 48, 49, 50, 51, 52] (by decide +kernel) (by decide +kernel)
set_option maxRecDepth 20000 in
theorem gX3_leastByAllOrders_X3_goToNextOrder : GoodIn wsX3_leastByAllOrders (wsV RX3 111 RX3 yX3_goToNextOrder wsX3_goToNextOrder) := goodIn_app (goodIn_of _ (by decide +kernel)) ggX3_leastByAllOrders_X3_goToNextOrder
theorem dX3_leastByAllOrders_0 : decode cX3_leastByAllOrders 0 = .ok (.aload_n 0, 1) := by decide +kernel
theorem dX3_leastByAllOrders_1 : decode cX3_leastByAllOrders 1 = .ok (.sipush 1000, 3) := by decide +kernel
end
section
theorem dX3_leastByAllOrders_4 : decode cX3_leastByAllOrders 4 = .ok (.putfield 99, 3) := by decide +kernel
theorem dX3_leastByAllOrders_7 : decode cX3_leastByAllOrders 7 = .ok (.iconst 1, 1) := by decide +kernel
theorem dX3_leastByAllOrders_8 : decode cX3_leastByAllOrders 8 = .ok (.istore_n 1, 1) := by decide +kernel
theorem dX3_leastByAllOrders_9 : decode cX3_leastByAllOrders 9 = .ok (.iconst 0, 1) := by decide +kernel
theorem dX3_leastByAllOrders_10 : decode cX3_leastByAllOrders 10 = .ok (.istore_n 2, 1) := by decide +kernel
theorem dX3_leastByAllOrders_11 : decode cX3_leastByAllOrders 11 = .ok (.iload_n 2, 1) := by decide +kernel
theorem dX3_leastByAllOrders_12 : decode cX3_leastByAllOrders 12 = .ok (.sipush 720, 3) := by decide +kernel
theorem dX3_leastByAllOrders_15 : decode cX3_leastByAllOrders 15 = .ok (.if_icmp .ge 55, 3) := by decide +kernel
theorem dX3_leastByAllOrders_18 : decode cX3_leastByAllOrders 18 = .ok (.iload_n 1, 1) := by decide +kernel
theorem dX3_leastByAllOrders_19 : decode cX3_leastByAllOrders 19 = .ok (.ifCond .eq 51, 3) := by decide +kernel
theorem dX3_leastByAllOrders_22 : decode cX3_leastByAllOrders 22 = .ok (.aload_n 0, 1) := by decide +kernel
theorem dX3_leastByAllOrders_23 : decode cX3_leastByAllOrders 23 = .ok (.aload_n 0, 1) := by decide +kernel
theorem dX3_leastByAllOrders_24 : decode cX3_leastByAllOrders 24 = .ok (.getfield 65, 3) := by decide +kernel
theorem dX3_leastByAllOrders_27 : decode cX3_leastByAllOrders 27 = .ok (.invokevirtual 102, 3) := by decide +kernel
theorem dX3_leastByAllOrders_30 : decode cX3_leastByAllOrders 30 = .ok (.istore_n 3, 1) := by decide +kernel
theorem dX3_leastByAllOrders_31 : decode cX3_leastByAllOrders 31 = .ok (.iload_n 3, 1) := by decide +kernel
theorem dX3_leastByAllOrders_32 : decode cX3_leastByAllOrders 32 = .ok (.aload_n 0, 1) := by decide +kernel
theorem dX3_leastByAllOrders_33 : decode cX3_leastByAllOrders 33 = .ok (.getfield 99, 3) := by decide +kernel
theorem dX3_leastByAllOrders_36 : decode cX3_leastByAllOrders 36 = .ok (.if_icmp .ge 23, 3) := by decide +kernel
theorem dX3_leastByAllOrders_39 : decode cX3_leastByAllOrders 39 = .ok (.aload_n 0, 1) := by decide +kernel
theorem dX3_leastByAllOrders_40 : decode cX3_leastByAllOrders 40 = .ok (.iload_n 3, 1) := by decide +kernel
theorem dX3_leastByAllOrders_41 : decode cX3_leastByAllOrders 41 = .ok (.putfield 99, 3) := by decide +kernel
theorem dX3_leastByAllOrders_44 : decode cX3_leastByAllOrders 44 = .ok (.aload_n 0, 1) := by decide +kernel
theorem dX3_leastByAllOrders_45 : decode cX3_leastByAllOrders 45 = .ok (.getfield 9, 3) := by decide +kernel
theorem dX3_leastByAllOrders_48 : decode cX3_leastByAllOrders 48 = .ok (.iconst 0, 1) := by decide +kernel
theorem dX3_leastByAllOrders_49 : decode cX3_leastByAllOrders 49 = .ok (.aload_n 0, 1) := by decide +kernel
theorem dX3_leastByAllOrders_50 : decode cX3_leastByAllOrders 50 = .ok (.getfield 15, 3) := by decide +kernel
theorem dX3_leastByAllOrders_53 : decode cX3_leastByAllOrders 53 = .ok (.iconst 0, 1) := by decide +kernel
theorem dX3_leastByAllOrders_54 : decode cX3_leastByAllOrders 54 = .ok (.bipush 6, 2) := by decide +kernel
theorem dX3_leastByAllOrders_56 : decode cX3_leastByAllOrders 56 = .ok (.invokestatic 105, 3) := by decide +kernel
theorem dX3_leastByAllOrders_59 : decode cX3_leastByAllOrders 59 = .ok (.aload_n 0, 1) := by decide +kernel
theorem dX3_leastByAllOrders_60 : decode cX3_leastByAllOrders 60 = .ok (.invokevirtual 111, 3) := by decide +kernel
theorem dX3_leastByAllOrders_63 : decode cX3_leastByAllOrders 63 = .ok (.istore_n 1, 1) := by decide +kernel
theorem dX3_leastByAllOrders_64 : decode cX3_leastByAllOrders 64 = .ok (.iinc 2 1, 3) := by decide +kernel
theorem dX3_leastByAllOrders_67 : decode cX3_leastByAllOrders 67 = .ok (.goto (-56), 3) := by decide +kernel
theorem dX3_leastByAllOrders_70 : decode cX3_leastByAllOrders 70 = .ok (.aload_n 0, 1) := by decide +kernel
theorem dX3_leastByAllOrders_71 : decode cX3_leastByAllOrders 71 = .ok (.getfield 99, 3) := by decide +kernel
theorem dX3_leastByAllOrders_74 : decode cX3_leastByAllOrders 74 = .ok (.ireturn, 1) := by decide +kernel
set_option maxRecDepth 20000 in
theorem ggX3_layBest_X5_lay : GoodIn wsX3_layBest wsX5_lay := goodIn_r _ [7, 8, 9, 10, 11, 12, 6, 13, 14, 15, 16, 17, 18, 19, 33, 34, 35, 36, 37, 38, 39, 40, 41, 42] (by decide +kernel) (by decide +kernel)
set_option maxRecDepth 20000 in
theorem gX3_layBest_X5_lay : GoodIn wsX3_layBest (wsV RX3 115 RX5 yX5_lay wsX5_lay) := goodIn_app (goodIn_of _ (by decide +kernel)) ggX3_layBest_X5_lay
theorem dX3_layBest_0 : decode cX3_layBest 0 = .ok (.iconst 0, 1) := by decide +kernel
theorem dX3_layBest_1 : decode cX3_layBest 1 = .ok (.istore_n 3, 1) := by decide +kernel
theorem dX3_layBest_2 : decode cX3_layBest 2 = .ok (.iload_n 3, 1) := by decide +kernel
theorem dX3_layBest_3 : decode cX3_layBest 3 = .ok (.aload_n 0, 1) := by decide +kernel
theorem dX3_layBest_4 : decode cX3_layBest 4 = .ok (.getfield 65, 3) := by decide +kernel
theorem dX3_layBest_7 : decode cX3_layBest 7 = .ok (.if_icmp .ge 21, 3) := by decide +kernel
theorem dX3_layBest_10 : decode cX3_layBest 10 = .ok (.aload_n 1, 1) := by decide +kernel
theorem dX3_layBest_11 : decode cX3_layBest 11 = .ok (.iload_n 2, 1) := by decide +kernel
theorem dX3_layBest_12 : decode cX3_layBest 12 = .ok (.iload_n 3, 1) := by decide +kernel
theorem dX3_layBest_13 : decode cX3_layBest 13 = .ok (.aload_n 0, 1) := by decide +kernel
theorem dX3_layBest_14 : decode cX3_layBest 14 = .ok (.getfield 15, 3) := by decide +kernel
theorem dX3_layBest_17 : decode cX3_layBest 17 = .ok (.iload_n 3, 1) := by decide +kernel
theorem dX3_layBest_18 : decode cX3_layBest 18 = .ok (.iaload, 1) := by decide +kernel
theorem dX3_layBest_19 : decode cX3_layBest 19 = .ok (.invokevirtual 115, 3) := by decide +kernel
theorem dX3_layBest_22 : decode cX3_layBest 22 = .ok (.iinc 3 1, 3) := by decide +kernel
theorem dX3_layBest_25 : decode cX3_layBest 25 = .ok (.goto (-23), 3) := by decide +kernel
theorem dX3_layBest_28 : decode cX3_layBest 28 = .ok (.return_, 1) := by decide +kernel
set_option maxRecDepth 20000 in
theorem ggX3_goToNextOrder_X3_exchange : GoodIn wsX3_goToNextOrder wsX3_exchange := goodIn_r _ [7, 2, 8, 9, 10, 11, 12, 13, 14, 15, 16, 17, 18, 19, 20] (by decide +kernel) (by decide +kernel)
set_option maxRecDepth 20000 in
theorem gX3_goToNextOrder_X3_exchange : GoodIn wsX3_goToNextOrder (wsV RX3 119 RX3 yX3_exchange wsX3_exchange) := goodIn_app (goodIn_of _ (by decide +kernel)) ggX3_goToNextOrder_X3_exchange
theorem dX3_goToNextOrder_0 : decode cX3_goToNextOrder 0 = .ok (.aload_n 0, 1) := by decide +kernel
theorem dX3_goToNextOrder_1 : decode cX3_goToNextOrder 1 = .ok (.getfield 65, 3) := by decide +kernel
theorem dX3_goToNextOrder_4 : decode cX3_goToNextOrder 4 = .ok (.iconst 2, 1) := by decide +kernel
theorem dX3_goToNextOrder_5 : decode cX3_goToNextOrder 5 = .ok (.isub, 1) := by decide +kernel
theorem dX3_goToNextOrder_6 : decode cX3_goToNextOrder 6 = .ok (.istore_n 1, 1) := by decide +kernel
theorem dX3_goToNextOrder_7 : decode cX3_goToNextOrder 7 = .ok (.iload_n 1, 1) := by decide +kernel
theorem dX3_goToNextOrder_8 : decode cX3_goToNextOrder 8 = .ok (.ifCond .lt 26, 3) := by decide +kernel
theorem dX3_goToNextOrder_11 : decode cX3_goToNextOrder 11 = .ok (.aload_n 0, 1) := by decide +kernel
theorem dX3_goToNextOrder_12 : decode cX3_goToNextOrder 12 = .ok (.getfield 9, 3) := by decide +kernel
theorem dX3_goToNextOrder_15 : decode cX3_goToNextOrder 15 = .ok (.iload_n 1, 1) := by decide +kernel
theorem dX3_goToNextOrder_16 : decode cX3_goToNextOrder 16 = .ok (.iaload, 1) := by decide +kernel
theorem dX3_goToNextOrder_17 : decode cX3_goToNextOrder 17 = .ok (.aload_n 0, 1) := by decide +kernel
theorem dX3_goToNextOrder_18 : decode cX3_goToNextOrder 18 = .ok (.getfield 9, 3) := by decide +kernel
theorem dX3_goToNextOrder_21 : decode cX3_goToNextOrder 21 = .ok (.iload_n 1, 1) := by decide +kernel
theorem dX3_goToNextOrder_22 : decode cX3_goToNextOrder 22 = .ok (.iconst 1, 1) := by decide +kernel
theorem dX3_goToNextOrder_23 : decode cX3_goToNextOrder 23 = .ok (.iadd, 1) := by decide +kernel
theorem dX3_goToNextOrder_24 : decode cX3_goToNextOrder 24 = .ok (.iaload, 1) := by decide +kernel
theorem dX3_goToNextOrder_25 : decode cX3_goToNextOrder 25 = .ok (.if_icmp .le 9, 3) := by decide +kernel
theorem dX3_goToNextOrder_28 : decode cX3_goToNextOrder 28 = .ok (.iinc 1 (-1), 3) := by decide +kernel
theorem dX3_goToNextOrder_31 : decode cX3_goToNextOrder 31 = .ok (.goto (-24), 3) := by decide +kernel
theorem dX3_goToNextOrder_34 : decode cX3_goToNextOrder 34 = .ok (.iload_n 1, 1) := by decide +kernel
theorem dX3_goToNextOrder_35 : decode cX3_goToNextOrder 35 = .ok (.ifCond .ge 5, 3) := by decide +kernel
theorem dX3_goToNextOrder_38 : decode cX3_goToNextOrder 38 = .ok (.iconst 0, 1) := by decide +kernel
theorem dX3_goToNextOrder_39 : decode cX3_goToNextOrder 39 = .ok (.ireturn, 1) := by decide +kernel
theorem dX3_goToNextOrder_40 : decode cX3_goToNextOrder 40 = .ok (.aload_n 0, 1) := by decide +kernel
theorem dX3_goToNextOrder_41 : decode cX3_goToNextOrder 41 = .ok (.getfield 65, 3) := by decide +kernel
theorem dX3_goToNextOrder_44 : decode cX3_goToNextOrder 44 = .ok (.iconst 1, 1) := by decide +kernel
theorem dX3_goToNextOrder_45 : decode cX3_goToNextOrder 45 = .ok (.isub, 1) := by decide +kernel
theorem dX3_goToNextOrder_46 : decode cX3_goToNextOrder 46 = .ok (.istore_n 2, 1) := by decide +kernel
theorem dX3_goToNextOrder_47 : decode cX3_goToNextOrder 47 = .ok (.iload_n 2, 1) := by decide +kernel
theorem dX3_goToNextOrder_48 : decode cX3_goToNextOrder 48 = .ok (.iload_n 1, 1) := by decide +kernel
theorem dX3_goToNextOrder_49 : decode cX3_goToNextOrder 49 = .ok (.iconst 1, 1) := by decide +kernel
theorem dX3_goToNextOrder_50 : decode cX3_goToNextOrder 50 = .ok (.iadd, 1) := by decide +kernel
theorem dX3_goToNextOrder_51 : decode cX3_goToNextOrder 51 = .ok (.if_icmp .le 24, 3) := by decide +kernel
theorem dX3_goToNextOrder_54 : decode cX3_goToNextOrder 54 = .ok (.aload_n 0, 1) := by decide +kernel
theorem dX3_goToNextOrder_55 : decode cX3_goToNextOrder 55 = .ok (.getfield 9, 3) := by decide +kernel
theorem dX3_goToNextOrder_58 : decode cX3_goToNextOrder 58 = .ok (.iload_n 2, 1) := by decide +kernel
theorem dX3_goToNextOrder_59 : decode cX3_goToNextOrder 59 = .ok (.iaload, 1) := by decide +kernel
theorem dX3_goToNextOrder_60 : decode cX3_goToNextOrder 60 = .ok (.aload_n 0, 1) := by decide +kernel
theorem dX3_goToNextOrder_61 : decode cX3_goToNextOrder 61 = .ok (.getfield 9, 3) := by decide +kernel
theorem dX3_goToNextOrder_64 : decode cX3_goToNextOrder 64 = .ok (.iload_n 1, 1) := by decide +kernel
theorem dX3_goToNextOrder_65 : decode cX3_goToNextOrder 65 = .ok (.iaload, 1) := by decide +kernel
theorem dX3_goToNextOrder_66 : decode cX3_goToNextOrder 66 = .ok (.if_icmp .ge 9, 3) := by decide +kernel
theorem dX3_goToNextOrder_69 : decode cX3_goToNextOrder 69 = .ok (.iinc 2 (-1), 3) := by decide +kernel
theorem dX3_goToNextOrder_72 : decode cX3_goToNextOrder 72 = .ok (.goto (-25), 3) := by decide +kernel
theorem dX3_goToNextOrder_75 : decode cX3_goToNextOrder 75 = .ok (.aload_n 0, 1) := by decide +kernel
theorem dX3_goToNextOrder_76 : decode cX3_goToNextOrder 76 = .ok (.iload_n 1, 1) := by decide +kernel
theorem dX3_goToNextOrder_77 : decode cX3_goToNextOrder 77 = .ok (.iload_n 2, 1) := by decide +kernel
theorem dX3_goToNextOrder_78 : decode cX3_goToNextOrder 78 = .ok (.invokevirtual 119, 3) := by decide +kernel
theorem dX3_goToNextOrder_81 : decode cX3_goToNextOrder 81 = .ok (.iload_n 1, 1) := by decide +kernel
theorem dX3_goToNextOrder_82 : decode cX3_goToNextOrder 82 = .ok (.iconst 1, 1) := by decide +kernel
theorem dX3_goToNextOrder_83 : decode cX3_goToNextOrder 83 = .ok (.iadd, 1) := by decide +kernel
theorem dX3_goToNextOrder_84 : decode cX3_goToNextOrder 84 = .ok (.istore_n 3, 1) := by decide +kernel
theorem dX3_goToNextOrder_85 : decode cX3_goToNextOrder 85 = .ok (.aload_n 0, 1) := by decide +kernel
theorem dX3_goToNextOrder_86 : decode cX3_goToNextOrder 86 = .ok (.getfield 65, 3) := by decide +kernel
theorem dX3_goToNextOrder_89 : decode cX3_goToNextOrder 89 = .ok (.iconst 1, 1) := by decide +kernel
theorem dX3_goToNextOrder_90 : decode cX3_goToNextOrder 90 = .ok (.isub, 1) := by decide +kernel
theorem dX3_goToNextOrder_91 : decode cX3_goToNextOrder 91 = .ok (.istore 4, 2) := by decide +kernel
theorem dX3_goToNextOrder_93 : decode cX3_goToNextOrder 93 = .ok (.iload_n 3, 1) := by decide +kernel
theorem dX3_goToNextOrder_94 : decode cX3_goToNextOrder 94 = .ok (.iload 4, 2) := by decide +kernel
theorem dX3_goToNextOrder_96 : decode cX3_goToNextOrder 96 = .ok (.if_icmp .ge 19, 3) := by decide +kernel
theorem dX3_goToNextOrder_99 : decode cX3_goToNextOrder 99 = .ok (.aload_n 0, 1) := by decide +kernel
theorem dX3_goToNextOrder_100 : decode cX3_goToNextOrder 100 = .ok (.iload_n 3, 1) := by decide +kernel
theorem dX3_goToNextOrder_101 : decode cX3_goToNextOrder 101 = .ok (.iload 4, 2) := by decide +kernel
theorem dX3_goToNextOrder_103 : decode cX3_goToNextOrder 103 = .ok (.invokevirtual 119, 3) := by decide +kernel
theorem dX3_goToNextOrder_106 : decode cX3_goToNextOrder 106 = .ok (.iinc 3 1, 3) := by decide +kernel
theorem dX3_goToNextOrder_109 : decode cX3_goToNextOrder 109 = .ok (.iinc 4 (-1), 3) := by decide +kernel
theorem dX3_goToNextOrder_112 : decode cX3_goToNextOrder 112 = .ok (.goto (-19), 3) := by decide +kernel
theorem dX3_goToNextOrder_115 : decode cX3_goToNextOrder 115 = .ok (.iconst 1, 1) := by decide +kernel
theorem dX3_goToNextOrder_116 : decode cX3_goToNextOrder 116 = .ok (.ireturn, 1) := by decide +kernel
set_option maxRecDepth 20000 in
theorem ggX3_leastByLaying_X3_layOn : GoodIn wsX3_leastByLaying wsX3_layOn := goodIn_r _ [5, 1, 6, 7, 8, 9, 4, 10, 11, 12, 13, 14, 15, 16, 17, 18, 19, 20, 21, 22, 23, 24, 25, 26, 27, 28, 29, 30, 31, 32, 33, 2, 3, 34, 35, 36, 37, 38, 39, 40, 41, 42, 43, 44, 45, 46] (by decide +kernel) (by decide +kernel)
set_option maxRecDepth 20000 in
theorem gX3_leastByLaying_X3_layOn : GoodIn wsX3_leastByLaying (va_wsS RX3 123 yX3_layOn wsX3_layOn) := goodIn_app (goodIn_of _ (by decide +kernel)) ggX3_leastByLaying_X3_layOn
theorem dX3_leastByLaying_0 : decode cX3_leastByLaying 0 = .ok (.aload_n 0, 1) := by decide +kernel
theorem dX3_leastByLaying_1 : decode cX3_leastByLaying 1 = .ok (.sipush 1000, 3) := by decide +kernel
theorem dX3_leastByLaying_4 : decode cX3_leastByLaying 4 = .ok (.putfield 99, 3) := by decide +kernel
theorem dX3_leastByLaying_7 : decode cX3_leastByLaying 7 = .ok (.aload_n 0, 1) := by decide +kernel
theorem dX3_leastByLaying_8 : decode cX3_leastByLaying 8 = .ok (.iconst 0, 1) := by decide +kernel
theorem dX3_leastByLaying_9 : decode cX3_leastByLaying 9 = .ok (.invokestatic 123, 3) := by decide +kernel
theorem dX3_leastByLaying_12 : decode cX3_leastByLaying 12 = .ok (.aload_n 0, 1) := by decide +kernel
theorem dX3_leastByLaying_13 : decode cX3_leastByLaying 13 = .ok (.getfield 99, 3) := by decide +kernel
theorem dX3_leastByLaying_16 : decode cX3_leastByLaying 16 = .ok (.ireturn, 1) := by decide +kernel
set_option maxRecDepth 20000 in
theorem ggX3_layOn_X3_crossingsOfFirst : GoodIn wsX3_layOn wsX3_crossingsOfFirst := goodIn_r _ [7, 8, 9, 10, 11, 12, 13, 14, 15, 16, 17, 18, 19, 20, 6, 21, 22, 23, 24, 25, 26, 33, 34, 35, 36, 37, 38, 39, 40, 41, 42, 43, 44, 45] (by decide +kernel) (by decide +kernel)
set_option maxRecDepth 20000 in
theorem gX3_layOn_X3_crossingsOfFirst : GoodIn wsX3_layOn (wsV RX3 102 RX3 yX3_crossingsOfFirst wsX3_crossingsOfFirst) := goodIn_app (goodIn_of _ (by decide +kernel)) ggX3_layOn_X3_crossingsOfFirst
set_option maxRecDepth 20000 in
theorem ggX3_layOn_X3_exchange : GoodIn wsX3_layOn wsX3_exchange := goodIn_r _ [30, 8, 33, 34, 35, 36, 37, 38, 39, 40, 41, 42, 43, 44, 45] (by decide +kernel) (by decide +kernel)
set_option maxRecDepth 20000 in
theorem gX3_layOn_X3_exchange : GoodIn wsX3_layOn (wsV RX3 119 RX3 yX3_exchange wsX3_exchange) := goodIn_app (goodIn_of _ (by decide +kernel)) ggX3_layOn_X3_exchange
set_option maxRecDepth 20000 in
theorem ggX3_layOn_X3_layOn : GoodIn wsX3_layOn wsX3_layOn := goodIn_r _ [0, 1, 2, 3, 4, 5, 6, 7, 8, 9, 10, 11, 12, 13, 14, 15, 16, 17, 18, 19, 20, 21, 22, 23, 24, 25, 26, 27, 28, 29, 30, 31, 32, 33, 34, 35, 36, 37, 38, 39, 40, 41, 42, 43, 44, 45] (by decide +kernel) (by decide +kernel)
set_option maxRecDepth 20000 in
theorem gX3_layOn_X3_layOn : GoodIn wsX3_layOn (va_wsS RX3 123 yX3_layOn wsX3_layOn) := goodIn_app (goodIn_of _ (by decide +kernel)) ggX3_layOn_X3_layOn
theorem dX3_layOn_0 : decode cX3_layOn 0 = .ok (.aload_n 0, 1) := by decide +kernel
theorem dX3_layOn_1 : decode cX3_layOn 1 = .ok (.iload_n 1, 1) := by decide +kernel
theorem dX3_layOn_2 : decode cX3_layOn 2 = .ok (.invokevirtual 102, 3) := by decide +kernel
theorem dX3_layOn_5 : decode cX3_layOn 5 = .ok (.istore_n 2, 1) := by decide +kernel
theorem dX3_layOn_6 : decode cX3_layOn 6 = .ok (.iload_n 2, 1) := by decide +kernel
theorem dX3_layOn_7 : decode cX3_layOn 7 = .ok (.aload_n 0, 1) := by decide +kernel
theorem dX3_layOn_8 : decode cX3_layOn 8 = .ok (.getfield 99, 3) := by decide +kernel
theorem dX3_layOn_11 : decode cX3_layOn 11 = .ok (.if_icmp .lt 4, 3) := by decide +kernel
theorem dX3_layOn_14 : decode cX3_layOn 14 = .ok (.return_, 1) := by decide +kernel
theorem dX3_layOn_15 : decode cX3_layOn 15 = .ok (.iload_n 1, 1) := by decide +kernel
theorem dX3_layOn_16 : decode cX3_layOn 16 = .ok (.aload_n 0, 1) := by decide +kernel
theorem dX3_layOn_17 : decode cX3_layOn 17 = .ok (.getfield 65, 3) := by decide +kernel
theorem dX3_layOn_20 : decode cX3_layOn 20 = .ok (.if_icmp .ge 9, 3) := by decide +kernel
theorem dX3_layOn_23 : decode cX3_layOn 23 = .ok (.iload_n 1, 1) := by decide +kernel
theorem dX3_layOn_24 : decode cX3_layOn 24 = .ok (.bipush 6, 2) := by decide +kernel
theorem dX3_layOn_26 : decode cX3_layOn 26 = .ok (.if_icmp .lt 9, 3) := by decide +kernel
theorem dX3_layOn_29 : decode cX3_layOn 29 = .ok (.aload_n 0, 1) := by decide +kernel
theorem dX3_layOn_30 : decode cX3_layOn 30 = .ok (.iload_n 2, 1) := by decide +kernel
theorem dX3_layOn_31 : decode cX3_layOn 31 = .ok (.putfield 99, 3) := by decide +kernel
theorem dX3_layOn_34 : decode cX3_layOn 34 = .ok (.return_, 1) := by decide +kernel
theorem dX3_layOn_35 : decode cX3_layOn 35 = .ok (.iload_n 1, 1) := by decide +kernel
theorem dX3_layOn_36 : decode cX3_layOn 36 = .ok (.istore_n 3, 1) := by decide +kernel
theorem dX3_layOn_37 : decode cX3_layOn 37 = .ok (.iload_n 3, 1) := by decide +kernel
theorem dX3_layOn_38 : decode cX3_layOn 38 = .ok (.aload_n 0, 1) := by decide +kernel
theorem dX3_layOn_39 : decode cX3_layOn 39 = .ok (.getfield 65, 3) := by decide +kernel
theorem dX3_layOn_42 : decode cX3_layOn 42 = .ok (.if_icmp .ge 28, 3) := by decide +kernel
theorem dX3_layOn_45 : decode cX3_layOn 45 = .ok (.aload_n 0, 1) := by decide +kernel
theorem dX3_layOn_46 : decode cX3_layOn 46 = .ok (.iload_n 1, 1) := by decide +kernel
theorem dX3_layOn_47 : decode cX3_layOn 47 = .ok (.iload_n 3, 1) := by decide +kernel
theorem dX3_layOn_48 : decode cX3_layOn 48 = .ok (.invokevirtual 119, 3) := by decide +kernel
theorem dX3_layOn_51 : decode cX3_layOn 51 = .ok (.aload_n 0, 1) := by decide +kernel
theorem dX3_layOn_52 : decode cX3_layOn 52 = .ok (.iload_n 1, 1) := by decide +kernel
theorem dX3_layOn_53 : decode cX3_layOn 53 = .ok (.iconst 1, 1) := by decide +kernel
theorem dX3_layOn_54 : decode cX3_layOn 54 = .ok (.iadd, 1) := by decide +kernel
theorem dX3_layOn_55 : decode cX3_layOn 55 = .ok (.invokestatic 123, 3) := by decide +kernel
theorem dX3_layOn_58 : decode cX3_layOn 58 = .ok (.aload_n 0, 1) := by decide +kernel
theorem dX3_layOn_59 : decode cX3_layOn 59 = .ok (.iload_n 1, 1) := by decide +kernel
theorem dX3_layOn_60 : decode cX3_layOn 60 = .ok (.iload_n 3, 1) := by decide +kernel
theorem dX3_layOn_61 : decode cX3_layOn 61 = .ok (.invokevirtual 119, 3) := by decide +kernel
theorem dX3_layOn_64 : decode cX3_layOn 64 = .ok (.iinc 3 1, 3) := by decide +kernel
theorem dX3_layOn_67 : decode cX3_layOn 67 = .ok (.goto (-30), 3) := by decide +kernel
theorem dX3_layOn_70 : decode cX3_layOn 70 = .ok (.return_, 1) := by decide +kernel
theorem dX3_exchange_0 : decode cX3_exchange 0 = .ok (.aload_n 0, 1) := by decide +kernel
theorem dX3_exchange_1 : decode cX3_exchange 1 = .ok (.getfield 9, 3) := by decide +kernel
theorem dX3_exchange_4 : decode cX3_exchange 4 = .ok (.iload_n 1, 1) := by decide +kernel
theorem dX3_exchange_5 : decode cX3_exchange 5 = .ok (.iaload, 1) := by decide +kernel
theorem dX3_exchange_6 : decode cX3_exchange 6 = .ok (.istore_n 3, 1) := by decide +kernel
theorem dX3_exchange_7 : decode cX3_exchange 7 = .ok (.aload_n 0, 1) := by decide +kernel
theorem dX3_exchange_8 : decode cX3_exchange 8 = .ok (.getfield 9, 3) := by decide +kernel
theorem dX3_exchange_11 : decode cX3_exchange 11 = .ok (.iload_n 1, 1) := by decide +kernel
theorem dX3_exchange_12 : decode cX3_exchange 12 = .ok (.aload_n 0, 1) := by decide +kernel
theorem dX3_exchange_13 : decode cX3_exchange 13 = .ok (.getfield 9, 3) := by decide +kernel
theorem dX3_exchange_16 : decode cX3_exchange 16 = .ok (.iload_n 2, 1) := by decide +kernel
theorem dX3_exchange_17 : decode cX3_exchange 17 = .ok (.iaload, 1) := by decide +kernel
theorem dX3_exchange_18 : decode cX3_exchange 18 = .ok (.iastore, 1) := by decide +kernel
theorem dX3_exchange_19 : decode cX3_exchange 19 = .ok (.aload_n 0, 1) := by decide +kernel
theorem dX3_exchange_20 : decode cX3_exchange 20 = .ok (.getfield 9, 3) := by decide +kernel
theorem dX3_exchange_23 : decode cX3_exchange 23 = .ok (.iload_n 2, 1) := by decide +kernel
theorem dX3_exchange_24 : decode cX3_exchange 24 = .ok (.iload_n 3, 1) := by decide +kernel
theorem dX3_exchange_25 : decode cX3_exchange 25 = .ok (.iastore, 1) := by decide +kernel
theorem dX3_exchange_26 : decode cX3_exchange 26 = .ok (.return_, 1) := by decide +kernel
set_option maxRecDepth 20000 in
theorem ggX3_crossingsOfFirst_J6_bitCount_0f7a4 : GoodIn wsX3_crossingsOfFirst wsJ6_bitCount_0f7a4 := goodIn_r _ [7, 8, 9, 10] (by decide +kernel) (by decide +kernel)
set_option maxRecDepth 20000 in
theorem gX3_crossingsOfFirst_J6_bitCount_0f7a4 : GoodIn wsX3_crossingsOfFirst (va_wsS RX3 127 yJ6_bitCount_0f7a4 wsJ6_bitCount_0f7a4) := goodIn_app (goodIn_of _ (by decide +kernel)) ggX3_crossingsOfFirst_J6_bitCount_0f7a4
set_option maxRecDepth 20000 in
theorem ggX3_crossingsOfFirst_X3_crossingsFrom : GoodIn wsX3_crossingsOfFirst wsX3_crossingsFrom := goodIn_r _ [15, 16, 17, 18, 19, 3, 20, 21, 22, 23, 24, 25, 26, 27, 28, 29, 30, 31, 32, 33] (by decide +kernel) (by decide +kernel)
set_option maxRecDepth 20000 in
theorem gX3_crossingsOfFirst_X3_crossingsFrom : GoodIn wsX3_crossingsOfFirst (wsV RX3 132 RX3 yX3_crossingsFrom wsX3_crossingsFrom) := goodIn_app (goodIn_of _ (by decide +kernel)) ggX3_crossingsOfFirst_X3_crossingsFrom
theorem dX3_crossingsOfFirst_0 : decode cX3_crossingsOfFirst 0 = .ok (.iconst 0, 1) := by decide +kernel
theorem dX3_crossingsOfFirst_1 : decode cX3_crossingsOfFirst 1 = .ok (.istore_n 2, 1) := by decide +kernel
theorem dX3_crossingsOfFirst_2 : decode cX3_crossingsOfFirst 2 = .ok (.iconst 0, 1) := by decide +kernel
theorem dX3_crossingsOfFirst_3 : decode cX3_crossingsOfFirst 3 = .ok (.istore_n 3, 1) := by decide +kernel
theorem dX3_crossingsOfFirst_4 : decode cX3_crossingsOfFirst 4 = .ok (.iconst 0, 1) := by decide +kernel
theorem dX3_crossingsOfFirst_5 : decode cX3_crossingsOfFirst 5 = .ok (.istore 4, 2) := by decide +kernel
theorem dX3_crossingsOfFirst_7 : decode cX3_crossingsOfFirst 7 = .ok (.iload 4, 2) := by decide +kernel
theorem dX3_crossingsOfFirst_9 : decode cX3_crossingsOfFirst 9 = .ok (.iload_n 1, 1) := by decide +kernel
theorem dX3_crossingsOfFirst_10 : decode cX3_crossingsOfFirst 10 = .ok (.if_icmp .ge 49, 3) := by decide +kernel
theorem dX3_crossingsOfFirst_13 : decode cX3_crossingsOfFirst 13 = .ok (.aload_n 0, 1) := by decide +kernel
theorem dX3_crossingsOfFirst_14 : decode cX3_crossingsOfFirst 14 = .ok (.getfield 9, 3) := by decide +kernel
theorem dX3_crossingsOfFirst_17 : decode cX3_crossingsOfFirst 17 = .ok (.iload 4, 2) := by decide +kernel
theorem dX3_crossingsOfFirst_19 : decode cX3_crossingsOfFirst 19 = .ok (.iaload, 1) := by decide +kernel
theorem dX3_crossingsOfFirst_20 : decode cX3_crossingsOfFirst 20 = .ok (.istore 5, 2) := by decide +kernel
theorem dX3_crossingsOfFirst_22 : decode cX3_crossingsOfFirst 22 = .ok (.iload_n 2, 1) := by decide +kernel
theorem dX3_crossingsOfFirst_23 : decode cX3_crossingsOfFirst 23 = .ok (.iload_n 3, 1) := by decide +kernel
theorem dX3_crossingsOfFirst_24 : decode cX3_crossingsOfFirst 24 = .ok (.aload_n 0, 1) := by decide +kernel
theorem dX3_crossingsOfFirst_25 : decode cX3_crossingsOfFirst 25 = .ok (.getfield 21, 3) := by decide +kernel
theorem dX3_crossingsOfFirst_28 : decode cX3_crossingsOfFirst 28 = .ok (.iload 5, 2) := by decide +kernel
theorem dX3_crossingsOfFirst_30 : decode cX3_crossingsOfFirst 30 = .ok (.iaload, 1) := by decide +kernel
theorem dX3_crossingsOfFirst_31 : decode cX3_crossingsOfFirst 31 = .ok (.iand, 1) := by decide +kernel
theorem dX3_crossingsOfFirst_32 : decode cX3_crossingsOfFirst 32 = .ok (.invokestatic 127, 3) := by decide +kernel
theorem dX3_crossingsOfFirst_35 : decode cX3_crossingsOfFirst 35 = .ok (.iadd, 1) := by decide +kernel
theorem dX3_crossingsOfFirst_36 : decode cX3_crossingsOfFirst 36 = .ok (.istore_n 2, 1) := by decide +kernel
theorem dX3_crossingsOfFirst_37 : decode cX3_crossingsOfFirst 37 = .ok (.iload_n 3, 1) := by decide +kernel
theorem dX3_crossingsOfFirst_38 : decode cX3_crossingsOfFirst 38 = .ok (.iconst 1, 1) := by decide +kernel
theorem dX3_crossingsOfFirst_39 : decode cX3_crossingsOfFirst 39 = .ok (.iload 5, 2) := by decide +kernel
theorem dX3_crossingsOfFirst_41 : decode cX3_crossingsOfFirst 41 = .ok (.ishl, 1) := by decide +kernel
theorem dX3_crossingsOfFirst_42 : decode cX3_crossingsOfFirst 42 = .ok (.ior, 1) := by decide +kernel
theorem dX3_crossingsOfFirst_43 : decode cX3_crossingsOfFirst 43 = .ok (.istore_n 3, 1) := by decide +kernel
theorem dX3_crossingsOfFirst_44 : decode cX3_crossingsOfFirst 44 = .ok (.aload_n 0, 1) := by decide +kernel
theorem dX3_crossingsOfFirst_45 : decode cX3_crossingsOfFirst 45 = .ok (.getfield 18, 3) := by decide +kernel
theorem dX3_crossingsOfFirst_48 : decode cX3_crossingsOfFirst 48 = .ok (.iload 5, 2) := by decide +kernel
theorem dX3_crossingsOfFirst_50 : decode cX3_crossingsOfFirst 50 = .ok (.iload 4, 2) := by decide +kernel
theorem dX3_crossingsOfFirst_52 : decode cX3_crossingsOfFirst 52 = .ok (.iastore, 1) := by decide +kernel
theorem dX3_crossingsOfFirst_53 : decode cX3_crossingsOfFirst 53 = .ok (.iinc 4 1, 3) := by decide +kernel
theorem dX3_crossingsOfFirst_56 : decode cX3_crossingsOfFirst 56 = .ok (.goto (-49), 3) := by decide +kernel
theorem dX3_crossingsOfFirst_59 : decode cX3_crossingsOfFirst 59 = .ok (.iload_n 2, 1) := by decide +kernel
theorem dX3_crossingsOfFirst_60 : decode cX3_crossingsOfFirst 60 = .ok (.aload_n 0, 1) := by decide +kernel
theorem dX3_crossingsOfFirst_61 : decode cX3_crossingsOfFirst 61 = .ok (.iload_n 3, 1) := by decide +kernel
theorem dX3_crossingsOfFirst_62 : decode cX3_crossingsOfFirst 62 = .ok (.invokevirtual 132, 3) := by decide +kernel
theorem dX3_crossingsOfFirst_65 : decode cX3_crossingsOfFirst 65 = .ok (.iadd, 1) := by decide +kernel
theorem dX3_crossingsOfFirst_66 : decode cX3_crossingsOfFirst 66 = .ok (.ireturn, 1) := by decide +kernel
theorem dX3_crossingsFrom_0 : decode cX3_crossingsFrom 0 = .ok (.iconst 0, 1) := by decide +kernel
theorem dX3_crossingsFrom_1 : decode cX3_crossingsFrom 1 = .ok (.istore_n 2, 1) := by decide +kernel
theorem dX3_crossingsFrom_2 : decode cX3_crossingsFrom 2 = .ok (.iconst 0, 1) := by decide +kernel
theorem dX3_crossingsFrom_3 : decode cX3_crossingsFrom 3 = .ok (.istore_n 3, 1) := by decide +kernel
theorem dX3_crossingsFrom_4 : decode cX3_crossingsFrom 4 = .ok (.iload_n 3, 1) := by decide +kernel
theorem dX3_crossingsFrom_5 : decode cX3_crossingsFrom 5 = .ok (.aload_n 0, 1) := by decide +kernel
theorem dX3_crossingsFrom_6 : decode cX3_crossingsFrom 6 = .ok (.getfield 79, 3) := by decide +kernel
theorem dX3_crossingsFrom_9 : decode cX3_crossingsFrom 9 = .ok (.if_icmp .ge 168, 3) := by decide +kernel
theorem dX3_crossingsFrom_12 : decode cX3_crossingsFrom 12 = .ok (.iconst 1, 1) := by decide +kernel
theorem dX3_crossingsFrom_13 : decode cX3_crossingsFrom 13 = .ok (.aload_n 0, 1) := by decide +kernel
theorem dX3_crossingsFrom_14 : decode cX3_crossingsFrom 14 = .ok (.getfield 27, 3) := by decide +kernel
theorem dX3_crossingsFrom_17 : decode cX3_crossingsFrom 17 = .ok (.iload_n 3, 1) := by decide +kernel
theorem dX3_crossingsFrom_18 : decode cX3_crossingsFrom 18 = .ok (.iaload, 1) := by decide +kernel
theorem dX3_crossingsFrom_19 : decode cX3_crossingsFrom 19 = .ok (.ishl, 1) := by decide +kernel
theorem dX3_crossingsFrom_20 : decode cX3_crossingsFrom 20 = .ok (.iconst 1, 1) := by decide +kernel
theorem dX3_crossingsFrom_21 : decode cX3_crossingsFrom 21 = .ok (.aload_n 0, 1) := by decide +kernel
theorem dX3_crossingsFrom_22 : decode cX3_crossingsFrom 22 = .ok (.getfield 30, 3) := by decide +kernel
theorem dX3_crossingsFrom_25 : decode cX3_crossingsFrom 25 = .ok (.iload_n 3, 1) := by decide +kernel
theorem dX3_crossingsFrom_26 : decode cX3_crossingsFrom 26 = .ok (.iaload, 1) := by decide +kernel
theorem dX3_crossingsFrom_27 : decode cX3_crossingsFrom 27 = .ok (.ishl, 1) := by decide +kernel
theorem dX3_crossingsFrom_28 : decode cX3_crossingsFrom 28 = .ok (.ior, 1) := by decide +kernel
theorem dX3_crossingsFrom_29 : decode cX3_crossingsFrom 29 = .ok (.istore 4, 2) := by decide +kernel
theorem dX3_crossingsFrom_31 : decode cX3_crossingsFrom 31 = .ok (.aload_n 0, 1) := by decide +kernel
theorem dX3_crossingsFrom_32 : decode cX3_crossingsFrom 32 = .ok (.getfield 33, 3) := by decide +kernel
theorem dX3_crossingsFrom_35 : decode cX3_crossingsFrom 35 = .ok (.iload_n 3, 1) := by decide +kernel
theorem dX3_crossingsFrom_36 : decode cX3_crossingsFrom 36 = .ok (.iload_n 1, 1) := by decide +kernel
theorem dX3_crossingsFrom_37 : decode cX3_crossingsFrom 37 = .ok (.iload 4, 2) := by decide +kernel
theorem dX3_crossingsFrom_39 : decode cX3_crossingsFrom 39 = .ok (.iand, 1) := by decide +kernel
theorem dX3_crossingsFrom_40 : decode cX3_crossingsFrom 40 = .ok (.iload 4, 2) := by decide +kernel
theorem dX3_crossingsFrom_42 : decode cX3_crossingsFrom 42 = .ok (.if_icmp .ne 29, 3) := by decide +kernel
theorem dX3_crossingsFrom_45 : decode cX3_crossingsFrom 45 = .ok (.aload_n 0, 1) := by decide +kernel
theorem dX3_crossingsFrom_46 : decode cX3_crossingsFrom 46 = .ok (.getfield 18, 3) := by decide +kernel
theorem dX3_crossingsFrom_49 : decode cX3_crossingsFrom 49 = .ok (.aload_n 0, 1) := by decide +kernel
theorem dX3_crossingsFrom_50 : decode cX3_crossingsFrom 50 = .ok (.getfield 27, 3) := by decide +kernel
theorem dX3_crossingsFrom_53 : decode cX3_crossingsFrom 53 = .ok (.iload_n 3, 1) := by decide +kernel
theorem dX3_crossingsFrom_54 : decode cX3_crossingsFrom 54 = .ok (.iaload, 1) := by decide +kernel
theorem dX3_crossingsFrom_55 : decode cX3_crossingsFrom 55 = .ok (.iaload, 1) := by decide +kernel
theorem dX3_crossingsFrom_56 : decode cX3_crossingsFrom 56 = .ok (.aload_n 0, 1) := by decide +kernel
theorem dX3_crossingsFrom_57 : decode cX3_crossingsFrom 57 = .ok (.getfield 18, 3) := by decide +kernel
theorem dX3_crossingsFrom_60 : decode cX3_crossingsFrom 60 = .ok (.aload_n 0, 1) := by decide +kernel
theorem dX3_crossingsFrom_61 : decode cX3_crossingsFrom 61 = .ok (.getfield 30, 3) := by decide +kernel
theorem dX3_crossingsFrom_64 : decode cX3_crossingsFrom 64 = .ok (.iload_n 3, 1) := by decide +kernel
theorem dX3_crossingsFrom_65 : decode cX3_crossingsFrom 65 = .ok (.iaload, 1) := by decide +kernel
theorem dX3_crossingsFrom_66 : decode cX3_crossingsFrom 66 = .ok (.iaload, 1) := by decide +kernel
theorem dX3_crossingsFrom_67 : decode cX3_crossingsFrom 67 = .ok (.iadd, 1) := by decide +kernel
theorem dX3_crossingsFrom_68 : decode cX3_crossingsFrom 68 = .ok (.goto 4, 3) := by decide +kernel
theorem dX3_crossingsFrom_71 : decode cX3_crossingsFrom 71 = .ok (.iconst (-1), 1) := by decide +kernel
theorem dX3_crossingsFrom_72 : decode cX3_crossingsFrom 72 = .ok (.iastore, 1) := by decide +kernel
theorem dX3_crossingsFrom_73 : decode cX3_crossingsFrom 73 = .ok (.iconst 0, 1) := by decide +kernel
theorem dX3_crossingsFrom_74 : decode cX3_crossingsFrom 74 = .ok (.istore 5, 2) := by decide +kernel
theorem dX3_crossingsFrom_76 : decode cX3_crossingsFrom 76 = .ok (.iload 5, 2) := by decide +kernel
theorem dX3_crossingsFrom_78 : decode cX3_crossingsFrom 78 = .ok (.iload_n 3, 1) := by decide +kernel
theorem dX3_crossingsFrom_79 : decode cX3_crossingsFrom 79 = .ok (.if_icmp .ge 92, 3) := by decide +kernel
theorem dX3_crossingsFrom_82 : decode cX3_crossingsFrom 82 = .ok (.aload_n 0, 1) := by decide +kernel
theorem dX3_crossingsFrom_83 : decode cX3_crossingsFrom 83 = .ok (.getfield 33, 3) := by decide +kernel
theorem dX3_crossingsFrom_86 : decode cX3_crossingsFrom 86 = .ok (.iload_n 3, 1) := by decide +kernel
theorem dX3_crossingsFrom_87 : decode cX3_crossingsFrom 87 = .ok (.iaload, 1) := by decide +kernel
theorem dX3_crossingsFrom_88 : decode cX3_crossingsFrom 88 = .ok (.iconst (-1), 1) := by decide +kernel
theorem dX3_crossingsFrom_89 : decode cX3_crossingsFrom 89 = .ok (.if_icmp .eq 82, 3) := by decide +kernel
theorem dX3_crossingsFrom_92 : decode cX3_crossingsFrom 92 = .ok (.aload_n 0, 1) := by decide +kernel
theorem dX3_crossingsFrom_93 : decode cX3_crossingsFrom 93 = .ok (.getfield 33, 3) := by decide +kernel
theorem dX3_crossingsFrom_96 : decode cX3_crossingsFrom 96 = .ok (.iload 5, 2) := by decide +kernel
theorem dX3_crossingsFrom_98 : decode cX3_crossingsFrom 98 = .ok (.iaload, 1) := by decide +kernel
theorem dX3_crossingsFrom_99 : decode cX3_crossingsFrom 99 = .ok (.iconst (-1), 1) := by decide +kernel
theorem dX3_crossingsFrom_100 : decode cX3_crossingsFrom 100 = .ok (.if_icmp .ne 6, 3) := by decide +kernel
theorem dX3_crossingsFrom_103 : decode cX3_crossingsFrom 103 = .ok (.goto 62, 3) := by decide +kernel
theorem dX3_crossingsFrom_106 : decode cX3_crossingsFrom 106 = .ok (.aload_n 0, 1) := by decide +kernel
theorem dX3_crossingsFrom_107 : decode cX3_crossingsFrom 107 = .ok (.getfield 33, 3) := by decide +kernel
theorem dX3_crossingsFrom_110 : decode cX3_crossingsFrom 110 = .ok (.iload 5, 2) := by decide +kernel
theorem dX3_crossingsFrom_112 : decode cX3_crossingsFrom 112 = .ok (.iaload, 1) := by decide +kernel
theorem dX3_crossingsFrom_113 : decode cX3_crossingsFrom 113 = .ok (.aload_n 0, 1) := by decide +kernel
theorem dX3_crossingsFrom_114 : decode cX3_crossingsFrom 114 = .ok (.getfield 33, 3) := by decide +kernel
theorem dX3_crossingsFrom_117 : decode cX3_crossingsFrom 117 = .ok (.iload_n 3, 1) := by decide +kernel
theorem dX3_crossingsFrom_118 : decode cX3_crossingsFrom 118 = .ok (.iaload, 1) := by decide +kernel
theorem dX3_crossingsFrom_119 : decode cX3_crossingsFrom 119 = .ok (.if_icmp .ge 18, 3) := by decide +kernel
theorem dX3_crossingsFrom_122 : decode cX3_crossingsFrom 122 = .ok (.iload_n 2, 1) := by decide +kernel
theorem dX3_crossingsFrom_123 : decode cX3_crossingsFrom 123 = .ok (.aload_n 0, 1) := by decide +kernel
theorem dX3_crossingsFrom_124 : decode cX3_crossingsFrom 124 = .ok (.getfield 41, 3) := by decide +kernel
theorem dX3_crossingsFrom_127 : decode cX3_crossingsFrom 127 = .ok (.iload 5, 2) := by decide +kernel
theorem dX3_crossingsFrom_129 : decode cX3_crossingsFrom 129 = .ok (.aaload, 1) := by decide +kernel
theorem dX3_crossingsFrom_130 : decode cX3_crossingsFrom 130 = .ok (.iload_n 3, 1) := by decide +kernel
theorem dX3_crossingsFrom_131 : decode cX3_crossingsFrom 131 = .ok (.iaload, 1) := by decide +kernel
theorem dX3_crossingsFrom_132 : decode cX3_crossingsFrom 132 = .ok (.iadd, 1) := by decide +kernel
theorem dX3_crossingsFrom_133 : decode cX3_crossingsFrom 133 = .ok (.istore_n 2, 1) := by decide +kernel
theorem dX3_crossingsFrom_134 : decode cX3_crossingsFrom 134 = .ok (.goto 31, 3) := by decide +kernel
theorem dX3_crossingsFrom_137 : decode cX3_crossingsFrom 137 = .ok (.aload_n 0, 1) := by decide +kernel
theorem dX3_crossingsFrom_138 : decode cX3_crossingsFrom 138 = .ok (.getfield 33, 3) := by decide +kernel
theorem dX3_crossingsFrom_141 : decode cX3_crossingsFrom 141 = .ok (.iload_n 3, 1) := by decide +kernel
theorem dX3_crossingsFrom_142 : decode cX3_crossingsFrom 142 = .ok (.iaload, 1) := by decide +kernel
theorem dX3_crossingsFrom_143 : decode cX3_crossingsFrom 143 = .ok (.aload_n 0, 1) := by decide +kernel
theorem dX3_crossingsFrom_144 : decode cX3_crossingsFrom 144 = .ok (.getfield 33, 3) := by decide +kernel
theorem dX3_crossingsFrom_147 : decode cX3_crossingsFrom 147 = .ok (.iload 5, 2) := by decide +kernel
theorem dX3_crossingsFrom_149 : decode cX3_crossingsFrom 149 = .ok (.iaload, 1) := by decide +kernel
theorem dX3_crossingsFrom_150 : decode cX3_crossingsFrom 150 = .ok (.if_icmp .ge 15, 3) := by decide +kernel
theorem dX3_crossingsFrom_153 : decode cX3_crossingsFrom 153 = .ok (.iload_n 2, 1) := by decide +kernel
theorem dX3_crossingsFrom_154 : decode cX3_crossingsFrom 154 = .ok (.aload_n 0, 1) := by decide +kernel
theorem dX3_crossingsFrom_155 : decode cX3_crossingsFrom 155 = .ok (.getfield 41, 3) := by decide +kernel
theorem dX3_crossingsFrom_158 : decode cX3_crossingsFrom 158 = .ok (.iload_n 3, 1) := by decide +kernel
theorem dX3_crossingsFrom_159 : decode cX3_crossingsFrom 159 = .ok (.aaload, 1) := by decide +kernel
theorem dX3_crossingsFrom_160 : decode cX3_crossingsFrom 160 = .ok (.iload 5, 2) := by decide +kernel
theorem dX3_crossingsFrom_162 : decode cX3_crossingsFrom 162 = .ok (.iaload, 1) := by decide +kernel
theorem dX3_crossingsFrom_163 : decode cX3_crossingsFrom 163 = .ok (.iadd, 1) := by decide +kernel
theorem dX3_crossingsFrom_164 : decode cX3_crossingsFrom 164 = .ok (.istore_n 2, 1) := by decide +kernel
theorem dX3_crossingsFrom_165 : decode cX3_crossingsFrom 165 = .ok (.iinc 5 1, 3) := by decide +kernel
theorem dX3_crossingsFrom_168 : decode cX3_crossingsFrom 168 = .ok (.goto (-92), 3) := by decide +kernel
theorem dX3_crossingsFrom_171 : decode cX3_crossingsFrom 171 = .ok (.iinc 3 1, 3) := by decide +kernel
theorem dX3_crossingsFrom_174 : decode cX3_crossingsFrom 174 = .ok (.goto (-170), 3) := by decide +kernel
theorem dX3_crossingsFrom_177 : decode cX3_crossingsFrom 177 = .ok (.iload_n 2, 1) := by decide +kernel
theorem dX3_crossingsFrom_178 : decode cX3_crossingsFrom 178 = .ok (.ireturn, 1) := by decide +kernel
set_option maxRecDepth 20000 in
theorem ggX4_init_X5_init : GoodIn wsX4_init wsX5_init := goodIn_r _ [9, 10, 2, 3, 11, 12, 13, 14, 15, 16, 17, 18, 22, 23, 24, 25, 26, 27, 28, 29, 30, 31] (by decide +kernel) (by decide +kernel)
set_option maxRecDepth 20000 in
theorem gX4_init_X5_init_n17 : GoodIn wsX4_init (wsX5_init) := ggX4_init_X5_init
theorem dX4_init_0 : decode cX4_init 0 = .ok (.aload_n 0, 1) := by decide +kernel
theorem dX4_init_1 : decode cX4_init 1 = .ok (.invokespecial 3, 3) := by decide +kernel
theorem dX4_init_4 : decode cX4_init 4 = .ok (.aload_n 0, 1) := by decide +kernel
theorem dX4_init_5 : decode cX4_init 5 = .ok (.bipush 6, 2) := by decide +kernel
theorem dX4_init_7 : decode cX4_init 7 = .ok (.anewarray 9, 3) := by decide +kernel
theorem dX4_init_10 : decode cX4_init 10 = .ok (.putfield 11, 3) := by decide +kernel
theorem dX4_init_13 : decode cX4_init 13 = .ok (.iconst 0, 1) := by decide +kernel
theorem dX4_init_14 : decode cX4_init 14 = .ok (.istore_n 1, 1) := by decide +kernel
theorem dX4_init_15 : decode cX4_init 15 = .ok (.iload_n 1, 1) := by decide +kernel
theorem dX4_init_16 : decode cX4_init 16 = .ok (.bipush 6, 2) := by decide +kernel
theorem dX4_init_18 : decode cX4_init 18 = .ok (.if_icmp .ge 22, 3) := by decide +kernel
theorem dX4_init_21 : decode cX4_init 21 = .ok (.aload_n 0, 1) := by decide +kernel
theorem dX4_init_22 : decode cX4_init 22 = .ok (.getfield 11, 3) := by decide +kernel
theorem dX4_init_25 : decode cX4_init 25 = .ok (.iload_n 1, 1) := by decide +kernel
theorem dX4_init_26 : decode cX4_init 26 = .ok (.new 9, 3) := by decide +kernel
theorem dX4_init_29 : decode cX4_init 29 = .ok (.dup, 1) := by decide +kernel
theorem dX4_init_30 : decode cX4_init 30 = .ok (.invokespecial 17, 3) := by decide +kernel
theorem dX4_init_33 : decode cX4_init 33 = .ok (.aastore, 1) := by decide +kernel
theorem dX4_init_34 : decode cX4_init 34 = .ok (.iinc 1 1, 3) := by decide +kernel
theorem dX4_init_37 : decode cX4_init 37 = .ok (.goto (-22), 3) := by decide +kernel
theorem dX4_init_40 : decode cX4_init 40 = .ok (.return_, 1) := by decide +kernel
theorem dX4_size_0 : decode cX4_size 0 = .ok (.aload_n 0, 1) := by decide +kernel
theorem dX4_size_1 : decode cX4_size 1 = .ok (.getfield 18, 3) := by decide +kernel
theorem dX4_size_4 : decode cX4_size 4 = .ok (.ireturn, 1) := by decide +kernel
set_option maxRecDepth 20000 in
theorem ggX4_push_X5_copyFrom : GoodIn wsX4_push wsX5_copyFrom := goodIn_r _ [8, 9, 10, 11, 12, 13, 14, 15, 16, 17, 18, 19, 20, 21, 22, 26, 27, 28, 29, 30, 31, 32, 33, 34, 35] (by decide +kernel) (by decide +kernel)
set_option maxRecDepth 20000 in
theorem gX4_push_X5_copyFrom : GoodIn wsX4_push (wsV RX4 25 RX5 yX5_copyFrom wsX5_copyFrom) := goodIn_app (goodIn_of _ (by decide +kernel)) ggX4_push_X5_copyFrom
theorem dX4_push_0 : decode cX4_push 0 = .ok (.aload_n 0, 1) := by decide +kernel
theorem dX4_push_1 : decode cX4_push 1 = .ok (.getfield 11, 3) := by decide +kernel
theorem dX4_push_4 : decode cX4_push 4 = .ok (.aload_n 0, 1) := by decide +kernel
theorem dX4_push_5 : decode cX4_push 5 = .ok (.getfield 22, 3) := by decide +kernel
theorem dX4_push_8 : decode cX4_push 8 = .ok (.aload_n 0, 1) := by decide +kernel
theorem dX4_push_9 : decode cX4_push 9 = .ok (.getfield 18, 3) := by decide +kernel
theorem dX4_push_12 : decode cX4_push 12 = .ok (.iadd, 1) := by decide +kernel
theorem dX4_push_13 : decode cX4_push 13 = .ok (.bipush 6, 2) := by decide +kernel
theorem dX4_push_15 : decode cX4_push 15 = .ok (.irem, 1) := by decide +kernel
theorem dX4_push_16 : decode cX4_push 16 = .ok (.aaload, 1) := by decide +kernel
theorem dX4_push_17 : decode cX4_push 17 = .ok (.aload_n 1, 1) := by decide +kernel
theorem dX4_push_18 : decode cX4_push 18 = .ok (.invokevirtual 25, 3) := by decide +kernel
theorem dX4_push_21 : decode cX4_push 21 = .ok (.aload_n 0, 1) := by decide +kernel
theorem dX4_push_22 : decode cX4_push 22 = .ok (.getfield 18, 3) := by decide +kernel
theorem dX4_push_25 : decode cX4_push 25 = .ok (.bipush 6, 2) := by decide +kernel
theorem dX4_push_27 : decode cX4_push 27 = .ok (.if_icmp .ge 16, 3) := by decide +kernel
theorem dX4_push_30 : decode cX4_push 30 = .ok (.aload_n 0, 1) := by decide +kernel
theorem dX4_push_31 : decode cX4_push 31 = .ok (.dup, 1) := by decide +kernel
theorem dX4_push_32 : decode cX4_push 32 = .ok (.getfield 18, 3) := by decide +kernel
theorem dX4_push_35 : decode cX4_push 35 = .ok (.iconst 1, 1) := by decide +kernel
theorem dX4_push_36 : decode cX4_push 36 = .ok (.iadd, 1) := by decide +kernel
theorem dX4_push_37 : decode cX4_push 37 = .ok (.putfield 18, 3) := by decide +kernel
theorem dX4_push_40 : decode cX4_push 40 = .ok (.goto 16, 3) := by decide +kernel
theorem dX4_push_43 : decode cX4_push 43 = .ok (.aload_n 0, 1) := by decide +kernel
theorem dX4_push_44 : decode cX4_push 44 = .ok (.aload_n 0, 1) := by decide +kernel
theorem dX4_push_45 : decode cX4_push 45 = .ok (.getfield 22, 3) := by decide +kernel
theorem dX4_push_48 : decode cX4_push 48 = .ok (.iconst 1, 1) := by decide +kernel
theorem dX4_push_49 : decode cX4_push 49 = .ok (.iadd, 1) := by decide +kernel
theorem dX4_push_50 : decode cX4_push 50 = .ok (.bipush 6, 2) := by decide +kernel
theorem dX4_push_52 : decode cX4_push 52 = .ok (.irem, 1) := by decide +kernel
theorem dX4_push_53 : decode cX4_push 53 = .ok (.putfield 22, 3) := by decide +kernel
theorem dX4_push_56 : decode cX4_push 56 = .ok (.return_, 1) := by decide +kernel
theorem dX5_init_0 : decode cX5_init 0 = .ok (.aload_n 0, 1) := by decide +kernel
theorem dX5_init_1 : decode cX5_init 1 = .ok (.invokespecial 3, 3) := by decide +kernel
theorem dX5_init_4 : decode cX5_init 4 = .ok (.aload_n 0, 1) := by decide +kernel
theorem dX5_init_5 : decode cX5_init 5 = .ok (.bipush 20, 2) := by decide +kernel
theorem dX5_init_7 : decode cX5_init 7 = .ok (.newarray .int, 2) := by decide +kernel
theorem dX5_init_9 : decode cX5_init 9 = .ok (.putfield 9, 3) := by decide +kernel
theorem dX5_init_12 : decode cX5_init 12 = .ok (.aload_n 0, 1) := by decide +kernel
theorem dX5_init_13 : decode cX5_init 13 = .ok (.bipush 20, 2) := by decide +kernel
theorem dX5_init_15 : decode cX5_init 15 = .ok (.newarray .int, 2) := by decide +kernel
theorem dX5_init_17 : decode cX5_init 17 = .ok (.putfield 15, 3) := by decide +kernel
theorem dX5_init_20 : decode cX5_init 20 = .ok (.aload_n 0, 1) := by decide +kernel
theorem dX5_init_21 : decode cX5_init 21 = .ok (.bipush 20, 2) := by decide +kernel
theorem dX5_init_23 : decode cX5_init 23 = .ok (.newarray .int, 2) := by decide +kernel
theorem dX5_init_25 : decode cX5_init 25 = .ok (.putfield 18, 3) := by decide +kernel
theorem dX5_init_28 : decode cX5_init 28 = .ok (.aload_n 0, 1) := by decide +kernel
theorem dX5_init_29 : decode cX5_init 29 = .ok (.bipush 10, 2) := by decide +kernel
theorem dX5_init_31 : decode cX5_init 31 = .ok (.newarray .int, 2) := by decide +kernel
theorem dX5_init_33 : decode cX5_init 33 = .ok (.putfield 21, 3) := by decide +kernel
theorem dX5_init_36 : decode cX5_init 36 = .ok (.aload_n 0, 1) := by decide +kernel
theorem dX5_init_37 : decode cX5_init 37 = .ok (.bipush 10, 2) := by decide +kernel
theorem dX5_init_39 : decode cX5_init 39 = .ok (.newarray .int, 2) := by decide +kernel
theorem dX5_init_41 : decode cX5_init 41 = .ok (.putfield 24, 3) := by decide +kernel
theorem dX5_init_44 : decode cX5_init 44 = .ok (.aload_n 0, 1) := by decide +kernel
theorem dX5_init_45 : decode cX5_init 45 = .ok (.bipush 24, 2) := by decide +kernel
theorem dX5_init_47 : decode cX5_init 47 = .ok (.newarray .int, 2) := by decide +kernel
theorem dX5_init_49 : decode cX5_init 49 = .ok (.putfield 27, 3) := by decide +kernel
theorem dX5_init_52 : decode cX5_init 52 = .ok (.aload_n 0, 1) := by decide +kernel
theorem dX5_init_53 : decode cX5_init 53 = .ok (.iconst 4, 1) := by decide +kernel
theorem dX5_init_54 : decode cX5_init 54 = .ok (.newarray .int, 2) := by decide +kernel
theorem dX5_init_56 : decode cX5_init 56 = .ok (.putfield 30, 3) := by decide +kernel
theorem dX5_init_59 : decode cX5_init 59 = .ok (.return_, 1) := by decide +kernel
theorem dX5_copyFrom_0 : decode cX5_copyFrom 0 = .ok (.aload_n 1, 1) := by decide +kernel
theorem dX5_copyFrom_1 : decode cX5_copyFrom 1 = .ok (.getfield 9, 3) := by decide +kernel
theorem dX5_copyFrom_4 : decode cX5_copyFrom 4 = .ok (.iconst 0, 1) := by decide +kernel
theorem dX5_copyFrom_5 : decode cX5_copyFrom 5 = .ok (.aload_n 0, 1) := by decide +kernel
theorem dX5_copyFrom_6 : decode cX5_copyFrom 6 = .ok (.getfield 9, 3) := by decide +kernel
theorem dX5_copyFrom_9 : decode cX5_copyFrom 9 = .ok (.iconst 0, 1) := by decide +kernel
theorem dX5_copyFrom_10 : decode cX5_copyFrom 10 = .ok (.bipush 20, 2) := by decide +kernel
theorem dX5_copyFrom_12 : decode cX5_copyFrom 12 = .ok (.invokestatic 33, 3) := by decide +kernel
theorem dX5_copyFrom_15 : decode cX5_copyFrom 15 = .ok (.aload_n 1, 1) := by decide +kernel
theorem dX5_copyFrom_16 : decode cX5_copyFrom 16 = .ok (.getfield 15, 3) := by decide +kernel
theorem dX5_copyFrom_19 : decode cX5_copyFrom 19 = .ok (.iconst 0, 1) := by decide +kernel
theorem dX5_copyFrom_20 : decode cX5_copyFrom 20 = .ok (.aload_n 0, 1) := by decide +kernel
theorem dX5_copyFrom_21 : decode cX5_copyFrom 21 = .ok (.getfield 15, 3) := by decide +kernel
theorem dX5_copyFrom_24 : decode cX5_copyFrom 24 = .ok (.iconst 0, 1) := by decide +kernel
theorem dX5_copyFrom_25 : decode cX5_copyFrom 25 = .ok (.bipush 20, 2) := by decide +kernel
theorem dX5_copyFrom_27 : decode cX5_copyFrom 27 = .ok (.invokestatic 33, 3) := by decide +kernel
theorem dX5_copyFrom_30 : decode cX5_copyFrom 30 = .ok (.aload_n 1, 1) := by decide +kernel
theorem dX5_copyFrom_31 : decode cX5_copyFrom 31 = .ok (.getfield 18, 3) := by decide +kernel
theorem dX5_copyFrom_34 : decode cX5_copyFrom 34 = .ok (.iconst 0, 1) := by decide +kernel
theorem dX5_copyFrom_35 : decode cX5_copyFrom 35 = .ok (.aload_n 0, 1) := by decide +kernel
theorem dX5_copyFrom_36 : decode cX5_copyFrom 36 = .ok (.getfield 18, 3) := by decide +kernel
theorem dX5_copyFrom_39 : decode cX5_copyFrom 39 = .ok (.iconst 0, 1) := by decide +kernel
theorem dX5_copyFrom_40 : decode cX5_copyFrom 40 = .ok (.bipush 20, 2) := by decide +kernel
theorem dX5_copyFrom_42 : decode cX5_copyFrom 42 = .ok (.invokestatic 33, 3) := by decide +kernel
theorem dX5_copyFrom_45 : decode cX5_copyFrom 45 = .ok (.aload_n 1, 1) := by decide +kernel
theorem dX5_copyFrom_46 : decode cX5_copyFrom 46 = .ok (.getfield 21, 3) := by decide +kernel
theorem dX5_copyFrom_49 : decode cX5_copyFrom 49 = .ok (.iconst 0, 1) := by decide +kernel
theorem dX5_copyFrom_50 : decode cX5_copyFrom 50 = .ok (.aload_n 0, 1) := by decide +kernel
theorem dX5_copyFrom_51 : decode cX5_copyFrom 51 = .ok (.getfield 21, 3) := by decide +kernel
theorem dX5_copyFrom_54 : decode cX5_copyFrom 54 = .ok (.iconst 0, 1) := by decide +kernel
theorem dX5_copyFrom_55 : decode cX5_copyFrom 55 = .ok (.bipush 10, 2) := by decide +kernel
theorem dX5_copyFrom_57 : decode cX5_copyFrom 57 = .ok (.invokestatic 33, 3) := by decide +kernel
theorem dX5_copyFrom_60 : decode cX5_copyFrom 60 = .ok (.aload_n 1, 1) := by decide +kernel
theorem dX5_copyFrom_61 : decode cX5_copyFrom 61 = .ok (.getfield 24, 3) := by decide +kernel
theorem dX5_copyFrom_64 : decode cX5_copyFrom 64 = .ok (.iconst 0, 1) := by decide +kernel
theorem dX5_copyFrom_65 : decode cX5_copyFrom 65 = .ok (.aload_n 0, 1) := by decide +kernel
theorem dX5_copyFrom_66 : decode cX5_copyFrom 66 = .ok (.getfield 24, 3) := by decide +kernel
theorem dX5_copyFrom_69 : decode cX5_copyFrom 69 = .ok (.iconst 0, 1) := by decide +kernel
theorem dX5_copyFrom_70 : decode cX5_copyFrom 70 = .ok (.bipush 10, 2) := by decide +kernel
theorem dX5_copyFrom_72 : decode cX5_copyFrom 72 = .ok (.invokestatic 33, 3) := by decide +kernel
theorem dX5_copyFrom_75 : decode cX5_copyFrom 75 = .ok (.aload_n 1, 1) := by decide +kernel
theorem dX5_copyFrom_76 : decode cX5_copyFrom 76 = .ok (.getfield 27, 3) := by decide +kernel
theorem dX5_copyFrom_79 : decode cX5_copyFrom 79 = .ok (.iconst 0, 1) := by decide +kernel
theorem dX5_copyFrom_80 : decode cX5_copyFrom 80 = .ok (.aload_n 0, 1) := by decide +kernel
theorem dX5_copyFrom_81 : decode cX5_copyFrom 81 = .ok (.getfield 27, 3) := by decide +kernel
theorem dX5_copyFrom_84 : decode cX5_copyFrom 84 = .ok (.iconst 0, 1) := by decide +kernel
theorem dX5_copyFrom_85 : decode cX5_copyFrom 85 = .ok (.bipush 24, 2) := by decide +kernel
theorem dX5_copyFrom_87 : decode cX5_copyFrom 87 = .ok (.invokestatic 33, 3) := by decide +kernel
theorem dX5_copyFrom_90 : decode cX5_copyFrom 90 = .ok (.aload_n 1, 1) := by decide +kernel
theorem dX5_copyFrom_91 : decode cX5_copyFrom 91 = .ok (.getfield 30, 3) := by decide +kernel
theorem dX5_copyFrom_94 : decode cX5_copyFrom 94 = .ok (.iconst 0, 1) := by decide +kernel
theorem dX5_copyFrom_95 : decode cX5_copyFrom 95 = .ok (.aload_n 0, 1) := by decide +kernel
theorem dX5_copyFrom_96 : decode cX5_copyFrom 96 = .ok (.getfield 30, 3) := by decide +kernel
theorem dX5_copyFrom_99 : decode cX5_copyFrom 99 = .ok (.iconst 0, 1) := by decide +kernel
theorem dX5_copyFrom_100 : decode cX5_copyFrom 100 = .ok (.iconst 4, 1) := by decide +kernel
theorem dX5_copyFrom_101 : decode cX5_copyFrom 101 = .ok (.invokestatic 33, 3) := by decide +kernel
theorem dX5_copyFrom_104 : decode cX5_copyFrom 104 = .ok (.aload_n 0, 1) := by decide +kernel
theorem dX5_copyFrom_105 : decode cX5_copyFrom 105 = .ok (.aload_n 1, 1) := by decide +kernel
theorem dX5_copyFrom_106 : decode cX5_copyFrom 106 = .ok (.getfield 39, 3) := by decide +kernel
theorem dX5_copyFrom_109 : decode cX5_copyFrom 109 = .ok (.putfield 39, 3) := by decide +kernel
theorem dX5_copyFrom_112 : decode cX5_copyFrom 112 = .ok (.aload_n 0, 1) := by decide +kernel
theorem dX5_copyFrom_113 : decode cX5_copyFrom 113 = .ok (.aload_n 1, 1) := by decide +kernel
theorem dX5_copyFrom_114 : decode cX5_copyFrom 114 = .ok (.getfield 43, 3) := by decide +kernel
theorem dX5_copyFrom_117 : decode cX5_copyFrom 117 = .ok (.putfield 43, 3) := by decide +kernel
theorem dX5_copyFrom_120 : decode cX5_copyFrom 120 = .ok (.aload_n 0, 1) := by decide +kernel
theorem dX5_copyFrom_121 : decode cX5_copyFrom 121 = .ok (.aload_n 1, 1) := by decide +kernel
theorem dX5_copyFrom_122 : decode cX5_copyFrom 122 = .ok (.getfield 46, 3) := by decide +kernel
theorem dX5_copyFrom_125 : decode cX5_copyFrom 125 = .ok (.putfield 46, 3) := by decide +kernel
theorem dX5_copyFrom_128 : decode cX5_copyFrom 128 = .ok (.return_, 1) := by decide +kernel
theorem dX5_people_0 : decode cX5_people 0 = .ok (.aload_n 0, 1) := by decide +kernel
theorem dX5_people_1 : decode cX5_people 1 = .ok (.getfield 39, 3) := by decide +kernel
theorem dX5_people_4 : decode cX5_people 4 = .ok (.ireturn, 1) := by decide +kernel
theorem dX5_couples_0 : decode cX5_couples 0 = .ok (.aload_n 0, 1) := by decide +kernel
theorem dX5_couples_1 : decode cX5_couples 1 = .ok (.getfield 43, 3) := by decide +kernel
theorem dX5_couples_4 : decode cX5_couples 4 = .ok (.ireturn, 1) := by decide +kernel
theorem dX5_refused_0 : decode cX5_refused 0 = .ok (.aload_n 0, 1) := by decide +kernel
theorem dX5_refused_1 : decode cX5_refused 1 = .ok (.getfield 46, 3) := by decide +kernel
theorem dX5_refused_4 : decode cX5_refused 4 = .ok (.ireturn, 1) := by decide +kernel
theorem dX5_isPerson_0 : decode cX5_isPerson 0 = .ok (.iload_n 1, 1) := by decide +kernel
theorem dX5_isPerson_1 : decode cX5_isPerson 1 = .ok (.ifCond .lt 15, 3) := by decide +kernel
theorem dX5_isPerson_4 : decode cX5_isPerson 4 = .ok (.iload_n 1, 1) := by decide +kernel
theorem dX5_isPerson_5 : decode cX5_isPerson 5 = .ok (.aload_n 0, 1) := by decide +kernel
theorem dX5_isPerson_6 : decode cX5_isPerson 6 = .ok (.getfield 39, 3) := by decide +kernel
theorem dX5_isPerson_9 : decode cX5_isPerson 9 = .ok (.if_icmp .ge 7, 3) := by decide +kernel
theorem dX5_isPerson_12 : decode cX5_isPerson 12 = .ok (.iconst 1, 1) := by decide +kernel
theorem dX5_isPerson_13 : decode cX5_isPerson 13 = .ok (.goto 4, 3) := by decide +kernel
theorem dX5_isPerson_16 : decode cX5_isPerson 16 = .ok (.iconst 0, 1) := by decide +kernel
theorem dX5_isPerson_17 : decode cX5_isPerson 17 = .ok (.ireturn, 1) := by decide +kernel
theorem dX5_isCouple_0 : decode cX5_isCouple 0 = .ok (.iload_n 1, 1) := by decide +kernel
theorem dX5_isCouple_1 : decode cX5_isCouple 1 = .ok (.ifCond .lt 15, 3) := by decide +kernel
theorem dX5_isCouple_4 : decode cX5_isCouple 4 = .ok (.iload_n 1, 1) := by decide +kernel
theorem dX5_isCouple_5 : decode cX5_isCouple 5 = .ok (.aload_n 0, 1) := by decide +kernel
theorem dX5_isCouple_6 : decode cX5_isCouple 6 = .ok (.getfield 43, 3) := by decide +kernel
theorem dX5_isCouple_9 : decode cX5_isCouple 9 = .ok (.if_icmp .ge 7, 3) := by decide +kernel
theorem dX5_isCouple_12 : decode cX5_isCouple 12 = .ok (.iconst 1, 1) := by decide +kernel
theorem dX5_isCouple_13 : decode cX5_isCouple 13 = .ok (.goto 4, 3) := by decide +kernel
theorem dX5_isCouple_16 : decode cX5_isCouple 16 = .ok (.iconst 0, 1) := by decide +kernel
theorem dX5_isCouple_17 : decode cX5_isCouple 17 = .ok (.ireturn, 1) := by decide +kernel
theorem dX5_sizeOf_0 : decode cX5_sizeOf 0 = .ok (.iload_n 1, 1) := by decide +kernel
theorem dX5_sizeOf_1 : decode cX5_sizeOf 1 = .ok (.ifCond .lt 17, 3) := by decide +kernel
theorem dX5_sizeOf_4 : decode cX5_sizeOf 4 = .ok (.iload_n 1, 1) := by decide +kernel
theorem dX5_sizeOf_5 : decode cX5_sizeOf 5 = .ok (.iconst 4, 1) := by decide +kernel
theorem dX5_sizeOf_6 : decode cX5_sizeOf 6 = .ok (.if_icmp .ge 12, 3) := by decide +kernel
theorem dX5_sizeOf_9 : decode cX5_sizeOf 9 = .ok (.aload_n 0, 1) := by decide +kernel
theorem dX5_sizeOf_10 : decode cX5_sizeOf 10 = .ok (.getfield 30, 3) := by decide +kernel
theorem dX5_sizeOf_13 : decode cX5_sizeOf 13 = .ok (.iload_n 1, 1) := by decide +kernel
theorem dX5_sizeOf_14 : decode cX5_sizeOf 14 = .ok (.iaload, 1) := by decide +kernel
theorem dX5_sizeOf_15 : decode cX5_sizeOf 15 = .ok (.goto 4, 3) := by decide +kernel
theorem dX5_sizeOf_18 : decode cX5_sizeOf 18 = .ok (.iconst 0, 1) := by decide +kernel
theorem dX5_sizeOf_19 : decode cX5_sizeOf 19 = .ok (.ireturn, 1) := by decide +kernel
set_option maxRecDepth 20000 in
theorem ggX5_rowOf_X5_isPerson : GoodIn wsX5_rowOf wsX5_isPerson := goodIn_r _ [6, 7, 8, 9, 10, 11, 12, 13, 14, 15, 16, 17] (by decide +kernel) (by decide +kernel)
set_option maxRecDepth 20000 in
theorem gX5_rowOf_X5_isPerson : GoodIn wsX5_rowOf (wsV RX5 49 RX5 yX5_isPerson wsX5_isPerson) := goodIn_app (goodIn_of _ (by decide +kernel)) ggX5_rowOf_X5_isPerson
theorem dX5_rowOf_0 : decode cX5_rowOf 0 = .ok (.aload_n 0, 1) := by decide +kernel
theorem dX5_rowOf_1 : decode cX5_rowOf 1 = .ok (.iload_n 1, 1) := by decide +kernel
theorem dX5_rowOf_2 : decode cX5_rowOf 2 = .ok (.invokevirtual 49, 3) := by decide +kernel
theorem dX5_rowOf_5 : decode cX5_rowOf 5 = .ok (.ifCond .eq 12, 3) := by decide +kernel
theorem dX5_rowOf_8 : decode cX5_rowOf 8 = .ok (.aload_n 0, 1) := by decide +kernel
theorem dX5_rowOf_9 : decode cX5_rowOf 9 = .ok (.getfield 9, 3) := by decide +kernel
theorem dX5_rowOf_12 : decode cX5_rowOf 12 = .ok (.iload_n 1, 1) := by decide +kernel
theorem dX5_rowOf_13 : decode cX5_rowOf 13 = .ok (.iaload, 1) := by decide +kernel
theorem dX5_rowOf_14 : decode cX5_rowOf 14 = .ok (.goto 4, 3) := by decide +kernel
theorem dX5_rowOf_17 : decode cX5_rowOf 17 = .ok (.iconst (-1), 1) := by decide +kernel
theorem dX5_rowOf_18 : decode cX5_rowOf 18 = .ok (.ireturn, 1) := by decide +kernel
set_option maxRecDepth 20000 in
theorem ggX5_placeOf_X5_isPerson : GoodIn wsX5_placeOf wsX5_isPerson := goodIn_r _ [6, 7, 8, 9, 10, 11, 12, 13, 14, 15, 16, 17] (by decide +kernel) (by decide +kernel)
set_option maxRecDepth 20000 in
theorem gX5_placeOf_X5_isPerson : GoodIn wsX5_placeOf (wsV RX5 49 RX5 yX5_isPerson wsX5_isPerson) := goodIn_app (goodIn_of _ (by decide +kernel)) ggX5_placeOf_X5_isPerson
theorem dX5_placeOf_0 : decode cX5_placeOf 0 = .ok (.aload_n 0, 1) := by decide +kernel
theorem dX5_placeOf_1 : decode cX5_placeOf 1 = .ok (.iload_n 1, 1) := by decide +kernel
theorem dX5_placeOf_2 : decode cX5_placeOf 2 = .ok (.invokevirtual 49, 3) := by decide +kernel
theorem dX5_placeOf_5 : decode cX5_placeOf 5 = .ok (.ifCond .eq 12, 3) := by decide +kernel
theorem dX5_placeOf_8 : decode cX5_placeOf 8 = .ok (.aload_n 0, 1) := by decide +kernel
theorem dX5_placeOf_9 : decode cX5_placeOf 9 = .ok (.getfield 15, 3) := by decide +kernel
theorem dX5_placeOf_12 : decode cX5_placeOf 12 = .ok (.iload_n 1, 1) := by decide +kernel
theorem dX5_placeOf_13 : decode cX5_placeOf 13 = .ok (.iaload, 1) := by decide +kernel
theorem dX5_placeOf_14 : decode cX5_placeOf 14 = .ok (.goto 4, 3) := by decide +kernel
theorem dX5_placeOf_17 : decode cX5_placeOf 17 = .ok (.iconst (-1), 1) := by decide +kernel
theorem dX5_placeOf_18 : decode cX5_placeOf 18 = .ok (.ireturn, 1) := by decide +kernel
set_option maxRecDepth 20000 in
theorem ggX5_parentsOf_X5_isPerson : GoodIn wsX5_parentsOf wsX5_isPerson := goodIn_r _ [6, 7, 8, 9, 10, 11, 12, 13, 14, 15, 16, 17] (by decide +kernel) (by decide +kernel)
set_option maxRecDepth 20000 in
theorem gX5_parentsOf_X5_isPerson : GoodIn wsX5_parentsOf (wsV RX5 49 RX5 yX5_isPerson wsX5_isPerson) := goodIn_app (goodIn_of _ (by decide +kernel)) ggX5_parentsOf_X5_isPerson
theorem dX5_parentsOf_0 : decode cX5_parentsOf 0 = .ok (.aload_n 0, 1) := by decide +kernel
theorem dX5_parentsOf_1 : decode cX5_parentsOf 1 = .ok (.iload_n 1, 1) := by decide +kernel
theorem dX5_parentsOf_2 : decode cX5_parentsOf 2 = .ok (.invokevirtual 49, 3) := by decide +kernel
theorem dX5_parentsOf_5 : decode cX5_parentsOf 5 = .ok (.ifCond .eq 12, 3) := by decide +kernel
theorem dX5_parentsOf_8 : decode cX5_parentsOf 8 = .ok (.aload_n 0, 1) := by decide +kernel
theorem dX5_parentsOf_9 : decode cX5_parentsOf 9 = .ok (.getfield 18, 3) := by decide +kernel
theorem dX5_parentsOf_12 : decode cX5_parentsOf 12 = .ok (.iload_n 1, 1) := by decide +kernel
theorem dX5_parentsOf_13 : decode cX5_parentsOf 13 = .ok (.iaload, 1) := by decide +kernel
theorem dX5_parentsOf_14 : decode cX5_parentsOf 14 = .ok (.goto 4, 3) := by decide +kernel
theorem dX5_parentsOf_17 : decode cX5_parentsOf 17 = .ok (.iconst (-1), 1) := by decide +kernel
theorem dX5_parentsOf_18 : decode cX5_parentsOf 18 = .ok (.ireturn, 1) := by decide +kernel
set_option maxRecDepth 20000 in
theorem ggX5_lesserOf_X5_isCouple : GoodIn wsX5_lesserOf wsX5_isCouple := goodIn_r _ [6, 7, 8, 9, 10, 11, 12, 13, 14, 15, 16, 17] (by decide +kernel) (by decide +kernel)
set_option maxRecDepth 20000 in
theorem gX5_lesserOf_X5_isCouple : GoodIn wsX5_lesserOf (wsV RX5 53 RX5 yX5_isCouple wsX5_isCouple) := goodIn_app (goodIn_of _ (by decide +kernel)) ggX5_lesserOf_X5_isCouple
theorem dX5_lesserOf_0 : decode cX5_lesserOf 0 = .ok (.aload_n 0, 1) := by decide +kernel
theorem dX5_lesserOf_1 : decode cX5_lesserOf 1 = .ok (.iload_n 1, 1) := by decide +kernel
theorem dX5_lesserOf_2 : decode cX5_lesserOf 2 = .ok (.invokevirtual 53, 3) := by decide +kernel
theorem dX5_lesserOf_5 : decode cX5_lesserOf 5 = .ok (.ifCond .eq 12, 3) := by decide +kernel
theorem dX5_lesserOf_8 : decode cX5_lesserOf 8 = .ok (.aload_n 0, 1) := by decide +kernel
theorem dX5_lesserOf_9 : decode cX5_lesserOf 9 = .ok (.getfield 21, 3) := by decide +kernel
theorem dX5_lesserOf_12 : decode cX5_lesserOf 12 = .ok (.iload_n 1, 1) := by decide +kernel
theorem dX5_lesserOf_13 : decode cX5_lesserOf 13 = .ok (.iaload, 1) := by decide +kernel
theorem dX5_lesserOf_14 : decode cX5_lesserOf 14 = .ok (.goto 4, 3) := by decide +kernel
theorem dX5_lesserOf_17 : decode cX5_lesserOf 17 = .ok (.iconst (-1), 1) := by decide +kernel
theorem dX5_lesserOf_18 : decode cX5_lesserOf 18 = .ok (.ireturn, 1) := by decide +kernel
set_option maxRecDepth 20000 in
theorem ggX5_greaterOf_X5_isCouple : GoodIn wsX5_greaterOf wsX5_isCouple := goodIn_r _ [6, 7, 8, 9, 10, 11, 12, 13, 14, 15, 16, 17] (by decide +kernel) (by decide +kernel)
set_option maxRecDepth 20000 in
theorem gX5_greaterOf_X5_isCouple : GoodIn wsX5_greaterOf (wsV RX5 53 RX5 yX5_isCouple wsX5_isCouple) := goodIn_app (goodIn_of _ (by decide +kernel)) ggX5_greaterOf_X5_isCouple
theorem dX5_greaterOf_0 : decode cX5_greaterOf 0 = .ok (.aload_n 0, 1) := by decide +kernel
theorem dX5_greaterOf_1 : decode cX5_greaterOf 1 = .ok (.iload_n 1, 1) := by decide +kernel
theorem dX5_greaterOf_2 : decode cX5_greaterOf 2 = .ok (.invokevirtual 53, 3) := by decide +kernel
theorem dX5_greaterOf_5 : decode cX5_greaterOf 5 = .ok (.ifCond .eq 12, 3) := by decide +kernel
theorem dX5_greaterOf_8 : decode cX5_greaterOf 8 = .ok (.aload_n 0, 1) := by decide +kernel
theorem dX5_greaterOf_9 : decode cX5_greaterOf 9 = .ok (.getfield 24, 3) := by decide +kernel
theorem dX5_greaterOf_12 : decode cX5_greaterOf 12 = .ok (.iload_n 1, 1) := by decide +kernel
theorem dX5_greaterOf_13 : decode cX5_greaterOf 13 = .ok (.iaload, 1) := by decide +kernel
theorem dX5_greaterOf_14 : decode cX5_greaterOf 14 = .ok (.goto 4, 3) := by decide +kernel
theorem dX5_greaterOf_17 : decode cX5_greaterOf 17 = .ok (.iconst (-1), 1) := by decide +kernel
theorem dX5_greaterOf_18 : decode cX5_greaterOf 18 = .ok (.ireturn, 1) := by decide +kernel
set_option maxRecDepth 20000 in
theorem ggX5_personAt_X5_sizeOf : GoodIn wsX5_personAt wsX5_sizeOf := goodIn_r _ [6, 7, 8, 9, 10, 11, 12, 13, 14, 15, 16, 17] (by decide +kernel) (by decide +kernel)
set_option maxRecDepth 20000 in
theorem gX5_personAt_X5_sizeOf : GoodIn wsX5_personAt (wsV RX5 56 RX5 yX5_sizeOf wsX5_sizeOf) := goodIn_app (goodIn_of _ (by decide +kernel)) ggX5_personAt_X5_sizeOf
theorem dX5_personAt_0 : decode cX5_personAt 0 = .ok (.iload_n 2, 1) := by decide +kernel
theorem dX5_personAt_1 : decode cX5_personAt 1 = .ok (.ifCond .lt 26, 3) := by decide +kernel
theorem dX5_personAt_4 : decode cX5_personAt 4 = .ok (.iload_n 2, 1) := by decide +kernel
theorem dX5_personAt_5 : decode cX5_personAt 5 = .ok (.aload_n 0, 1) := by decide +kernel
theorem dX5_personAt_6 : decode cX5_personAt 6 = .ok (.iload_n 1, 1) := by decide +kernel
theorem dX5_personAt_7 : decode cX5_personAt 7 = .ok (.invokevirtual 56, 3) := by decide +kernel
theorem dX5_personAt_10 : decode cX5_personAt 10 = .ok (.if_icmp .ge 17, 3) := by decide +kernel
theorem dX5_personAt_13 : decode cX5_personAt 13 = .ok (.aload_n 0, 1) := by decide +kernel
theorem dX5_personAt_14 : decode cX5_personAt 14 = .ok (.getfield 27, 3) := by decide +kernel
theorem dX5_personAt_17 : decode cX5_personAt 17 = .ok (.iload_n 1, 1) := by decide +kernel
theorem dX5_personAt_18 : decode cX5_personAt 18 = .ok (.bipush 6, 2) := by decide +kernel
theorem dX5_personAt_20 : decode cX5_personAt 20 = .ok (.imul, 1) := by decide +kernel
theorem dX5_personAt_21 : decode cX5_personAt 21 = .ok (.iload_n 2, 1) := by decide +kernel
theorem dX5_personAt_22 : decode cX5_personAt 22 = .ok (.iadd, 1) := by decide +kernel
theorem dX5_personAt_23 : decode cX5_personAt 23 = .ok (.iaload, 1) := by decide +kernel
theorem dX5_personAt_24 : decode cX5_personAt 24 = .ok (.goto 4, 3) := by decide +kernel
theorem dX5_personAt_27 : decode cX5_personAt 27 = .ok (.iconst (-1), 1) := by decide +kernel
theorem dX5_personAt_28 : decode cX5_personAt 28 = .ok (.ireturn, 1) := by decide +kernel
set_option maxRecDepth 20000 in
theorem ggX5_middleOf_X5_isCouple : GoodIn wsX5_middleOf wsX5_isCouple := goodIn_r _ [7, 8, 19, 20, 21, 22, 23, 24, 25, 26, 27, 28] (by decide +kernel) (by decide +kernel)
set_option maxRecDepth 20000 in
theorem gX5_middleOf_X5_isCouple : GoodIn wsX5_middleOf (wsV RX5 53 RX5 yX5_isCouple wsX5_isCouple) := goodIn_app (goodIn_of _ (by decide +kernel)) ggX5_middleOf_X5_isCouple
set_option maxRecDepth 20000 in
theorem ggX5_middleOf_X5_placeOf : GoodIn wsX5_middleOf wsX5_placeOf := goodIn_r _ [12, 13, 14, 15, 16, 6, 17, 18, 19, 20, 21, 22, 23, 24, 25, 26, 27, 28] (by decide +kernel) (by decide +kernel)
set_option maxRecDepth 20000 in
theorem gX5_middleOf_X5_placeOf : GoodIn wsX5_middleOf (wsV RX5 60 RX5 yX5_placeOf wsX5_placeOf) := goodIn_app (goodIn_of _ (by decide +kernel)) ggX5_middleOf_X5_placeOf
theorem dX5_middleOf_0 : decode cX5_middleOf 0 = .ok (.aload_n 0, 1) := by decide +kernel
theorem dX5_middleOf_1 : decode cX5_middleOf 1 = .ok (.iload_n 1, 1) := by decide +kernel
theorem dX5_middleOf_2 : decode cX5_middleOf 2 = .ok (.invokevirtual 53, 3) := by decide +kernel
theorem dX5_middleOf_5 : decode cX5_middleOf 5 = .ok (.ifCond .eq 27, 3) := by decide +kernel
theorem dX5_middleOf_8 : decode cX5_middleOf 8 = .ok (.aload_n 0, 1) := by decide +kernel
theorem dX5_middleOf_9 : decode cX5_middleOf 9 = .ok (.aload_n 0, 1) := by decide +kernel
theorem dX5_middleOf_10 : decode cX5_middleOf 10 = .ok (.getfield 21, 3) := by decide +kernel
theorem dX5_middleOf_13 : decode cX5_middleOf 13 = .ok (.iload_n 1, 1) := by decide +kernel
theorem dX5_middleOf_14 : decode cX5_middleOf 14 = .ok (.iaload, 1) := by decide +kernel
theorem dX5_middleOf_15 : decode cX5_middleOf 15 = .ok (.invokevirtual 60, 3) := by decide +kernel
theorem dX5_middleOf_18 : decode cX5_middleOf 18 = .ok (.aload_n 0, 1) := by decide +kernel
theorem dX5_middleOf_19 : decode cX5_middleOf 19 = .ok (.aload_n 0, 1) := by decide +kernel
theorem dX5_middleOf_20 : decode cX5_middleOf 20 = .ok (.getfield 24, 3) := by decide +kernel
theorem dX5_middleOf_23 : decode cX5_middleOf 23 = .ok (.iload_n 1, 1) := by decide +kernel
theorem dX5_middleOf_24 : decode cX5_middleOf 24 = .ok (.iaload, 1) := by decide +kernel
theorem dX5_middleOf_25 : decode cX5_middleOf 25 = .ok (.invokevirtual 60, 3) := by decide +kernel
theorem dX5_middleOf_28 : decode cX5_middleOf 28 = .ok (.iadd, 1) := by decide +kernel
theorem dX5_middleOf_29 : decode cX5_middleOf 29 = .ok (.goto 4, 3) := by decide +kernel
theorem dX5_middleOf_32 : decode cX5_middleOf 32 = .ok (.iconst (-1), 1) := by decide +kernel
theorem dX5_middleOf_33 : decode cX5_middleOf 33 = .ok (.ireturn, 1) := by decide +kernel
set_option maxRecDepth 20000 in
theorem ggX5_middleAbove_X5_parentsOf : GoodIn wsX5_middleAbove wsX5_parentsOf := goodIn_r _ [5, 6, 7, 8, 9, 4, 10, 11, 28, 29, 30, 31, 32, 33, 34, 35, 36, 37] (by decide +kernel) (by decide +kernel)
set_option maxRecDepth 20000 in
theorem gX5_middleAbove_X5_parentsOf : GoodIn wsX5_middleAbove (wsV RX5 63 RX5 yX5_parentsOf wsX5_parentsOf) := goodIn_app (goodIn_of _ (by decide +kernel)) ggX5_middleAbove_X5_parentsOf
set_option maxRecDepth 20000 in
theorem ggX5_middleAbove_X5_middleOf : GoodIn wsX5_middleAbove wsX5_middleOf := goodIn_r _ [15, 16, 17, 18, 19, 20, 4, 21, 22, 23, 24, 25, 26, 27, 7, 8, 9, 10, 11, 28, 29, 30, 31, 32, 33, 34, 35, 36, 37] (by decide +kernel) (by decide +kernel)
set_option maxRecDepth 20000 in
theorem gX5_middleAbove_X5_middleOf : GoodIn wsX5_middleAbove (wsV RX5 66 RX5 yX5_middleOf wsX5_middleOf) := goodIn_app (goodIn_of _ (by decide +kernel)) ggX5_middleAbove_X5_middleOf
theorem dX5_middleAbove_0 : decode cX5_middleAbove 0 = .ok (.aload_n 0, 1) := by decide +kernel
theorem dX5_middleAbove_1 : decode cX5_middleAbove 1 = .ok (.aload_n 0, 1) := by decide +kernel
theorem dX5_middleAbove_2 : decode cX5_middleAbove 2 = .ok (.iload_n 1, 1) := by decide +kernel
theorem dX5_middleAbove_3 : decode cX5_middleAbove 3 = .ok (.invokevirtual 63, 3) := by decide +kernel
theorem dX5_middleAbove_6 : decode cX5_middleAbove 6 = .ok (.invokevirtual 66, 3) := by decide +kernel
theorem dX5_middleAbove_9 : decode cX5_middleAbove 9 = .ok (.ireturn, 1) := by decide +kernel
set_option maxRecDepth 20000 in
theorem ggX5_addPerson_X5_sizeOf : GoodIn wsX5_addPerson wsX5_sizeOf := goodIn_r _ [10, 3, 21, 22, 23, 24, 25, 26, 27, 28, 29, 30] (by decide +kernel) (by decide +kernel)
set_option maxRecDepth 20000 in
theorem gX5_addPerson_X5_sizeOf : GoodIn wsX5_addPerson (wsV RX5 56 RX5 yX5_sizeOf wsX5_sizeOf) := goodIn_app (goodIn_of _ (by decide +kernel)) ggX5_addPerson_X5_sizeOf
set_option maxRecDepth 20000 in
theorem ggX5_addPerson_X5_lay : GoodIn wsX5_addPerson wsX5_lay := goodIn_r _ [14, 15, 16, 17, 18, 19, 9, 20, 1, 6, 7, 8, 10, 3, 21, 22, 23, 24, 25, 26, 27, 28, 29, 30] (by decide +kernel) (by decide +kernel)
set_option maxRecDepth 20000 in
theorem gX5_addPerson_X5_lay : GoodIn wsX5_addPerson (wsV RX5 69 RX5 yX5_lay wsX5_lay) := goodIn_app (goodIn_of _ (by decide +kernel)) ggX5_addPerson_X5_lay
theorem dX5_addPerson_0 : decode cX5_addPerson 0 = .ok (.aload_n 0, 1) := by decide +kernel
theorem dX5_addPerson_1 : decode cX5_addPerson 1 = .ok (.iload_n 1, 1) := by decide +kernel
theorem dX5_addPerson_2 : decode cX5_addPerson 2 = .ok (.invokevirtual 56, 3) := by decide +kernel
theorem dX5_addPerson_5 : decode cX5_addPerson 5 = .ok (.istore_n 3, 1) := by decide +kernel
theorem dX5_addPerson_6 : decode cX5_addPerson 6 = .ok (.iload_n 1, 1) := by decide +kernel
theorem dX5_addPerson_7 : decode cX5_addPerson 7 = .ok (.ifCond .lt 23, 3) := by decide +kernel
theorem dX5_addPerson_10 : decode cX5_addPerson 10 = .ok (.iload_n 1, 1) := by decide +kernel
theorem dX5_addPerson_11 : decode cX5_addPerson 11 = .ok (.iconst 4, 1) := by decide +kernel
theorem dX5_addPerson_12 : decode cX5_addPerson 12 = .ok (.if_icmp .ge 18, 3) := by decide +kernel
theorem dX5_addPerson_15 : decode cX5_addPerson 15 = .ok (.iload_n 3, 1) := by decide +kernel
theorem dX5_addPerson_16 : decode cX5_addPerson 16 = .ok (.bipush 6, 2) := by decide +kernel
theorem dX5_addPerson_18 : decode cX5_addPerson 18 = .ok (.if_icmp .ge 12, 3) := by decide +kernel
theorem dX5_addPerson_21 : decode cX5_addPerson 21 = .ok (.aload_n 0, 1) := by decide +kernel
theorem dX5_addPerson_22 : decode cX5_addPerson 22 = .ok (.getfield 39, 3) := by decide +kernel
theorem dX5_addPerson_25 : decode cX5_addPerson 25 = .ok (.bipush 20, 2) := by decide +kernel
theorem dX5_addPerson_27 : decode cX5_addPerson 27 = .ok (.if_icmp .lt 15, 3) := by decide +kernel
theorem dX5_addPerson_30 : decode cX5_addPerson 30 = .ok (.aload_n 0, 1) := by decide +kernel
theorem dX5_addPerson_31 : decode cX5_addPerson 31 = .ok (.dup, 1) := by decide +kernel
theorem dX5_addPerson_32 : decode cX5_addPerson 32 = .ok (.getfield 46, 3) := by decide +kernel
theorem dX5_addPerson_35 : decode cX5_addPerson 35 = .ok (.iconst 1, 1) := by decide +kernel
theorem dX5_addPerson_36 : decode cX5_addPerson 36 = .ok (.iadd, 1) := by decide +kernel
theorem dX5_addPerson_37 : decode cX5_addPerson 37 = .ok (.putfield 46, 3) := by decide +kernel
theorem dX5_addPerson_40 : decode cX5_addPerson 40 = .ok (.iconst (-1), 1) := by decide +kernel
theorem dX5_addPerson_41 : decode cX5_addPerson 41 = .ok (.ireturn, 1) := by decide +kernel
theorem dX5_addPerson_42 : decode cX5_addPerson 42 = .ok (.aload_n 0, 1) := by decide +kernel
theorem dX5_addPerson_43 : decode cX5_addPerson 43 = .ok (.getfield 39, 3) := by decide +kernel
theorem dX5_addPerson_46 : decode cX5_addPerson 46 = .ok (.istore 4, 2) := by decide +kernel
theorem dX5_addPerson_48 : decode cX5_addPerson 48 = .ok (.aload_n 0, 1) := by decide +kernel
theorem dX5_addPerson_49 : decode cX5_addPerson 49 = .ok (.dup, 1) := by decide +kernel
theorem dX5_addPerson_50 : decode cX5_addPerson 50 = .ok (.getfield 39, 3) := by decide +kernel
theorem dX5_addPerson_53 : decode cX5_addPerson 53 = .ok (.iconst 1, 1) := by decide +kernel
theorem dX5_addPerson_54 : decode cX5_addPerson 54 = .ok (.iadd, 1) := by decide +kernel
theorem dX5_addPerson_55 : decode cX5_addPerson 55 = .ok (.putfield 39, 3) := by decide +kernel
theorem dX5_addPerson_58 : decode cX5_addPerson 58 = .ok (.aload_n 0, 1) := by decide +kernel
theorem dX5_addPerson_59 : decode cX5_addPerson 59 = .ok (.getfield 30, 3) := by decide +kernel
theorem dX5_addPerson_62 : decode cX5_addPerson 62 = .ok (.iload_n 1, 1) := by decide +kernel
theorem dX5_addPerson_63 : decode cX5_addPerson 63 = .ok (.dup2, 1) := by decide +kernel
theorem dX5_addPerson_64 : decode cX5_addPerson 64 = .ok (.iaload, 1) := by decide +kernel
theorem dX5_addPerson_65 : decode cX5_addPerson 65 = .ok (.iconst 1, 1) := by decide +kernel
theorem dX5_addPerson_66 : decode cX5_addPerson 66 = .ok (.iadd, 1) := by decide +kernel
theorem dX5_addPerson_67 : decode cX5_addPerson 67 = .ok (.iastore, 1) := by decide +kernel
theorem dX5_addPerson_68 : decode cX5_addPerson 68 = .ok (.aload_n 0, 1) := by decide +kernel
theorem dX5_addPerson_69 : decode cX5_addPerson 69 = .ok (.getfield 9, 3) := by decide +kernel
theorem dX5_addPerson_72 : decode cX5_addPerson 72 = .ok (.iload 4, 2) := by decide +kernel
theorem dX5_addPerson_74 : decode cX5_addPerson 74 = .ok (.iload_n 1, 1) := by decide +kernel
theorem dX5_addPerson_75 : decode cX5_addPerson 75 = .ok (.iastore, 1) := by decide +kernel
theorem dX5_addPerson_76 : decode cX5_addPerson 76 = .ok (.aload_n 0, 1) := by decide +kernel
theorem dX5_addPerson_77 : decode cX5_addPerson 77 = .ok (.getfield 18, 3) := by decide +kernel
theorem dX5_addPerson_80 : decode cX5_addPerson 80 = .ok (.iload 4, 2) := by decide +kernel
theorem dX5_addPerson_82 : decode cX5_addPerson 82 = .ok (.iload_n 2, 1) := by decide +kernel
theorem dX5_addPerson_83 : decode cX5_addPerson 83 = .ok (.iastore, 1) := by decide +kernel
theorem dX5_addPerson_84 : decode cX5_addPerson 84 = .ok (.aload_n 0, 1) := by decide +kernel
theorem dX5_addPerson_85 : decode cX5_addPerson 85 = .ok (.iload_n 1, 1) := by decide +kernel
theorem dX5_addPerson_86 : decode cX5_addPerson 86 = .ok (.iload_n 3, 1) := by decide +kernel
theorem dX5_addPerson_87 : decode cX5_addPerson 87 = .ok (.iload 4, 2) := by decide +kernel
theorem dX5_addPerson_89 : decode cX5_addPerson 89 = .ok (.invokevirtual 69, 3) := by decide +kernel
theorem dX5_addPerson_92 : decode cX5_addPerson 92 = .ok (.iload 4, 2) := by decide +kernel
theorem dX5_addPerson_94 : decode cX5_addPerson 94 = .ok (.ireturn, 1) := by decide +kernel
set_option maxRecDepth 20000 in
theorem ggX5_addChild_X5_lesserOf : GoodIn wsX5_addChild wsX5_lesserOf := goodIn_r _ [5, 6, 7, 8, 9, 4, 10, 11, 39, 40, 41, 42, 43, 44, 45, 46, 47, 48] (by decide +kernel) (by decide +kernel)
set_option maxRecDepth 20000 in
theorem gX5_addChild_X5_lesserOf : GoodIn wsX5_addChild (wsV RX5 73 RX5 yX5_lesserOf wsX5_lesserOf) := goodIn_app (goodIn_of _ (by decide +kernel)) ggX5_addChild_X5_lesserOf
set_option maxRecDepth 20000 in
theorem ggX5_addChild_X5_rowOf : GoodIn wsX5_addChild wsX5_rowOf := goodIn_r _ [15, 16, 17, 18, 19, 4, 20, 21, 39, 40, 41, 42, 43, 44, 45, 46, 47, 48] (by decide +kernel) (by decide +kernel)
set_option maxRecDepth 20000 in
theorem gX5_addChild_X5_rowOf : GoodIn wsX5_addChild (wsV RX5 76 RX5 yX5_rowOf wsX5_rowOf) := goodIn_app (goodIn_of _ (by decide +kernel)) ggX5_addChild_X5_rowOf
set_option maxRecDepth 20000 in
theorem ggX5_addChild_X5_addPerson : GoodIn wsX5_addChild wsX5_addPerson := goodIn_r _ [25, 21, 26, 27, 16, 28, 29, 30, 31, 4, 32, 33, 34, 35, 36, 37, 38, 17, 18, 19, 20, 39, 40, 41, 42, 43, 44, 45, 46, 47, 48] (by decide +kernel) (by decide +kernel)
set_option maxRecDepth 20000 in
theorem gX5_addChild_X5_addPerson : GoodIn wsX5_addChild (wsV RX5 79 RX5 yX5_addPerson wsX5_addPerson) := goodIn_app (goodIn_of _ (by decide +kernel)) ggX5_addChild_X5_addPerson
end
section
theorem dX5_addChild_0 : decode cX5_addChild 0 = .ok (.aload_n 0, 1) := by decide +kernel
theorem dX5_addChild_1 : decode cX5_addChild 1 = .ok (.aload_n 0, 1) := by decide +kernel
theorem dX5_addChild_2 : decode cX5_addChild 2 = .ok (.aload_n 0, 1) := by decide +kernel
theorem dX5_addChild_3 : decode cX5_addChild 3 = .ok (.iload_n 1, 1) := by decide +kernel
theorem dX5_addChild_4 : decode cX5_addChild 4 = .ok (.invokevirtual 73, 3) := by decide +kernel
theorem dX5_addChild_7 : decode cX5_addChild 7 = .ok (.invokevirtual 76, 3) := by decide +kernel
theorem dX5_addChild_10 : decode cX5_addChild 10 = .ok (.iconst 1, 1) := by decide +kernel
theorem dX5_addChild_11 : decode cX5_addChild 11 = .ok (.iadd, 1) := by decide +kernel
theorem dX5_addChild_12 : decode cX5_addChild 12 = .ok (.iload_n 1, 1) := by decide +kernel
theorem dX5_addChild_13 : decode cX5_addChild 13 = .ok (.invokevirtual 79, 3) := by decide +kernel
theorem dX5_addChild_16 : decode cX5_addChild 16 = .ok (.ireturn, 1) := by decide +kernel
set_option maxRecDepth 20000 in
theorem ggX5_addCouple_X5_reasonAgainst : GoodIn wsX5_addCouple wsX5_reasonAgainst := goodIn_r _ [16, 2, 4, 5, 6, 7, 9, 10, 11, 17, 18, 19, 15, 20, 21, 22, 23, 24, 25, 26, 27, 28, 29, 30, 3, 8, 31, 32, 33, 34, 35, 36, 37, 38, 39, 40, 41, 42, 43, 44, 45, 46, 47, 48] (by decide +kernel) (by decide +kernel)
set_option maxRecDepth 20000 in
theorem gX5_addCouple_X5_reasonAgainst : GoodIn wsX5_addCouple (wsV RX5 83 RX5 yX5_reasonAgainst wsX5_reasonAgainst) := goodIn_app (goodIn_of _ (by decide +kernel)) ggX5_addCouple_X5_reasonAgainst
theorem dX5_addCouple_0 : decode cX5_addCouple 0 = .ok (.aload_n 0, 1) := by decide +kernel
theorem dX5_addCouple_1 : decode cX5_addCouple 1 = .ok (.iload_n 1, 1) := by decide +kernel
theorem dX5_addCouple_2 : decode cX5_addCouple 2 = .ok (.iload_n 2, 1) := by decide +kernel
theorem dX5_addCouple_3 : decode cX5_addCouple 3 = .ok (.invokevirtual 83, 3) := by decide +kernel
theorem dX5_addCouple_6 : decode cX5_addCouple 6 = .ok (.istore_n 3, 1) := by decide +kernel
theorem dX5_addCouple_7 : decode cX5_addCouple 7 = .ok (.iload_n 3, 1) := by decide +kernel
theorem dX5_addCouple_8 : decode cX5_addCouple 8 = .ok (.ifCond .eq 15, 3) := by decide +kernel
theorem dX5_addCouple_11 : decode cX5_addCouple 11 = .ok (.aload_n 0, 1) := by decide +kernel
theorem dX5_addCouple_12 : decode cX5_addCouple 12 = .ok (.dup, 1) := by decide +kernel
theorem dX5_addCouple_13 : decode cX5_addCouple 13 = .ok (.getfield 46, 3) := by decide +kernel
theorem dX5_addCouple_16 : decode cX5_addCouple 16 = .ok (.iconst 1, 1) := by decide +kernel
theorem dX5_addCouple_17 : decode cX5_addCouple 17 = .ok (.iadd, 1) := by decide +kernel
theorem dX5_addCouple_18 : decode cX5_addCouple 18 = .ok (.putfield 46, 3) := by decide +kernel
theorem dX5_addCouple_21 : decode cX5_addCouple 21 = .ok (.iload_n 3, 1) := by decide +kernel
theorem dX5_addCouple_22 : decode cX5_addCouple 22 = .ok (.ireturn, 1) := by decide +kernel
theorem dX5_addCouple_23 : decode cX5_addCouple 23 = .ok (.aload_n 0, 1) := by decide +kernel
theorem dX5_addCouple_24 : decode cX5_addCouple 24 = .ok (.getfield 43, 3) := by decide +kernel
theorem dX5_addCouple_27 : decode cX5_addCouple 27 = .ok (.istore 4, 2) := by decide +kernel
theorem dX5_addCouple_29 : decode cX5_addCouple 29 = .ok (.aload_n 0, 1) := by decide +kernel
theorem dX5_addCouple_30 : decode cX5_addCouple 30 = .ok (.dup, 1) := by decide +kernel
theorem dX5_addCouple_31 : decode cX5_addCouple 31 = .ok (.getfield 43, 3) := by decide +kernel
theorem dX5_addCouple_34 : decode cX5_addCouple 34 = .ok (.iconst 1, 1) := by decide +kernel
theorem dX5_addCouple_35 : decode cX5_addCouple 35 = .ok (.iadd, 1) := by decide +kernel
theorem dX5_addCouple_36 : decode cX5_addCouple 36 = .ok (.putfield 43, 3) := by decide +kernel
theorem dX5_addCouple_39 : decode cX5_addCouple 39 = .ok (.aload_n 0, 1) := by decide +kernel
theorem dX5_addCouple_40 : decode cX5_addCouple 40 = .ok (.getfield 21, 3) := by decide +kernel
theorem dX5_addCouple_43 : decode cX5_addCouple 43 = .ok (.iload 4, 2) := by decide +kernel
theorem dX5_addCouple_45 : decode cX5_addCouple 45 = .ok (.iload_n 1, 1) := by decide +kernel
theorem dX5_addCouple_46 : decode cX5_addCouple 46 = .ok (.iload_n 2, 1) := by decide +kernel
theorem dX5_addCouple_47 : decode cX5_addCouple 47 = .ok (.invokestatic 86, 3) := by decide +kernel
theorem dX5_addCouple_50 : decode cX5_addCouple 50 = .ok (.iastore, 1) := by decide +kernel
theorem dX5_addCouple_51 : decode cX5_addCouple 51 = .ok (.aload_n 0, 1) := by decide +kernel
theorem dX5_addCouple_52 : decode cX5_addCouple 52 = .ok (.getfield 24, 3) := by decide +kernel
theorem dX5_addCouple_55 : decode cX5_addCouple 55 = .ok (.iload 4, 2) := by decide +kernel
theorem dX5_addCouple_57 : decode cX5_addCouple 57 = .ok (.iload_n 1, 1) := by decide +kernel
theorem dX5_addCouple_58 : decode cX5_addCouple 58 = .ok (.iload_n 2, 1) := by decide +kernel
theorem dX5_addCouple_59 : decode cX5_addCouple 59 = .ok (.invokestatic 91, 3) := by decide +kernel
theorem dX5_addCouple_62 : decode cX5_addCouple 62 = .ok (.iastore, 1) := by decide +kernel
theorem dX5_addCouple_63 : decode cX5_addCouple 63 = .ok (.iload 4, 2) := by decide +kernel
theorem dX5_addCouple_65 : decode cX5_addCouple 65 = .ok (.bipush 10, 2) := by decide +kernel
theorem dX5_addCouple_67 : decode cX5_addCouple 67 = .ok (.iadd, 1) := by decide +kernel
theorem dX5_addCouple_68 : decode cX5_addCouple 68 = .ok (.ireturn, 1) := by decide +kernel
set_option maxRecDepth 20000 in
theorem ggX5_reasonAgainst_X5_rowOf : GoodIn wsX5_reasonAgainst wsX5_rowOf := goodIn_r _ [13, 14, 15, 16, 17, 12, 18, 19, 34, 35, 36, 37, 38, 39, 40, 41, 42, 43] (by decide +kernel) (by decide +kernel)
set_option maxRecDepth 20000 in
theorem gX5_reasonAgainst_X5_rowOf : GoodIn wsX5_reasonAgainst (wsV RX5 76 RX5 yX5_rowOf wsX5_rowOf) := goodIn_app (goodIn_of _ (by decide +kernel)) ggX5_reasonAgainst_X5_rowOf
set_option maxRecDepth 20000 in
theorem ggX5_reasonAgainst_X5_areCouple : GoodIn wsX5_reasonAgainst wsX5_areCouple := goodIn_r _ [23, 1, 24, 25, 34, 35, 36, 37, 38, 39, 40, 41, 42, 43] (by decide +kernel) (by decide +kernel)
set_option maxRecDepth 20000 in
theorem gX5_reasonAgainst_X5_areCouple : GoodIn wsX5_reasonAgainst (wsV RX5 94 RX5 yX5_areCouple wsX5_areCouple) := goodIn_app (goodIn_of _ (by decide +kernel)) ggX5_reasonAgainst_X5_areCouple
set_option maxRecDepth 20000 in
theorem ggX5_reasonAgainst_X5_isDouble : GoodIn wsX5_reasonAgainst wsX5_isDouble := goodIn_r _ [29, 30, 31, 32, 12, 33, 1, 24, 25, 34, 35, 36, 37, 38, 39, 40, 41, 42, 43] (by decide +kernel) (by decide +kernel)
set_option maxRecDepth 20000 in
theorem gX5_reasonAgainst_X5_isDouble : GoodIn wsX5_reasonAgainst (wsV RX5 98 RX5 yX5_isDouble wsX5_isDouble) := goodIn_app (goodIn_of _ (by decide +kernel)) ggX5_reasonAgainst_X5_isDouble
theorem dX5_reasonAgainst_0 : decode cX5_reasonAgainst 0 = .ok (.aload_n 0, 1) := by decide +kernel
theorem dX5_reasonAgainst_1 : decode cX5_reasonAgainst 1 = .ok (.getfield 43, 3) := by decide +kernel
theorem dX5_reasonAgainst_4 : decode cX5_reasonAgainst 4 = .ok (.bipush 10, 2) := by decide +kernel
theorem dX5_reasonAgainst_6 : decode cX5_reasonAgainst 6 = .ok (.if_icmp .lt 5, 3) := by decide +kernel
theorem dX5_reasonAgainst_9 : decode cX5_reasonAgainst 9 = .ok (.iconst 1, 1) := by decide +kernel
theorem dX5_reasonAgainst_10 : decode cX5_reasonAgainst 10 = .ok (.ireturn, 1) := by decide +kernel
theorem dX5_reasonAgainst_11 : decode cX5_reasonAgainst 11 = .ok (.aload_n 0, 1) := by decide +kernel
theorem dX5_reasonAgainst_12 : decode cX5_reasonAgainst 12 = .ok (.iload_n 1, 1) := by decide +kernel
theorem dX5_reasonAgainst_13 : decode cX5_reasonAgainst 13 = .ok (.invokevirtual 76, 3) := by decide +kernel
theorem dX5_reasonAgainst_16 : decode cX5_reasonAgainst 16 = .ok (.aload_n 0, 1) := by decide +kernel
theorem dX5_reasonAgainst_17 : decode cX5_reasonAgainst 17 = .ok (.iload_n 2, 1) := by decide +kernel
theorem dX5_reasonAgainst_18 : decode cX5_reasonAgainst 18 = .ok (.invokevirtual 76, 3) := by decide +kernel
theorem dX5_reasonAgainst_21 : decode cX5_reasonAgainst 21 = .ok (.if_icmp .ne 12, 3) := by decide +kernel
theorem dX5_reasonAgainst_24 : decode cX5_reasonAgainst 24 = .ok (.aload_n 0, 1) := by decide +kernel
theorem dX5_reasonAgainst_25 : decode cX5_reasonAgainst 25 = .ok (.iload_n 1, 1) := by decide +kernel
theorem dX5_reasonAgainst_26 : decode cX5_reasonAgainst 26 = .ok (.invokevirtual 76, 3) := by decide +kernel
theorem dX5_reasonAgainst_29 : decode cX5_reasonAgainst 29 = .ok (.iconst 3, 1) := by decide +kernel
theorem dX5_reasonAgainst_30 : decode cX5_reasonAgainst 30 = .ok (.if_icmp .ne 5, 3) := by decide +kernel
theorem dX5_reasonAgainst_33 : decode cX5_reasonAgainst 33 = .ok (.iconst 2, 1) := by decide +kernel
theorem dX5_reasonAgainst_34 : decode cX5_reasonAgainst 34 = .ok (.ireturn, 1) := by decide +kernel
theorem dX5_reasonAgainst_35 : decode cX5_reasonAgainst 35 = .ok (.aload_n 0, 1) := by decide +kernel
theorem dX5_reasonAgainst_36 : decode cX5_reasonAgainst 36 = .ok (.iload_n 1, 1) := by decide +kernel
theorem dX5_reasonAgainst_37 : decode cX5_reasonAgainst 37 = .ok (.iload_n 2, 1) := by decide +kernel
theorem dX5_reasonAgainst_38 : decode cX5_reasonAgainst 38 = .ok (.invokestatic 86, 3) := by decide +kernel
theorem dX5_reasonAgainst_41 : decode cX5_reasonAgainst 41 = .ok (.iload_n 1, 1) := by decide +kernel
theorem dX5_reasonAgainst_42 : decode cX5_reasonAgainst 42 = .ok (.iload_n 2, 1) := by decide +kernel
theorem dX5_reasonAgainst_43 : decode cX5_reasonAgainst 43 = .ok (.invokestatic 91, 3) := by decide +kernel
theorem dX5_reasonAgainst_46 : decode cX5_reasonAgainst 46 = .ok (.invokevirtual 94, 3) := by decide +kernel
theorem dX5_reasonAgainst_49 : decode cX5_reasonAgainst 49 = .ok (.ifCond .eq 5, 3) := by decide +kernel
theorem dX5_reasonAgainst_52 : decode cX5_reasonAgainst 52 = .ok (.iconst 3, 1) := by decide +kernel
theorem dX5_reasonAgainst_53 : decode cX5_reasonAgainst 53 = .ok (.ireturn, 1) := by decide +kernel
theorem dX5_reasonAgainst_54 : decode cX5_reasonAgainst 54 = .ok (.aload_n 0, 1) := by decide +kernel
theorem dX5_reasonAgainst_55 : decode cX5_reasonAgainst 55 = .ok (.iload_n 1, 1) := by decide +kernel
theorem dX5_reasonAgainst_56 : decode cX5_reasonAgainst 56 = .ok (.invokevirtual 98, 3) := by decide +kernel
theorem dX5_reasonAgainst_59 : decode cX5_reasonAgainst 59 = .ok (.ifCond .ne 11, 3) := by decide +kernel
theorem dX5_reasonAgainst_62 : decode cX5_reasonAgainst 62 = .ok (.aload_n 0, 1) := by decide +kernel
theorem dX5_reasonAgainst_63 : decode cX5_reasonAgainst 63 = .ok (.iload_n 2, 1) := by decide +kernel
theorem dX5_reasonAgainst_64 : decode cX5_reasonAgainst 64 = .ok (.invokevirtual 98, 3) := by decide +kernel
theorem dX5_reasonAgainst_67 : decode cX5_reasonAgainst 67 = .ok (.ifCond .eq 5, 3) := by decide +kernel
theorem dX5_reasonAgainst_70 : decode cX5_reasonAgainst 70 = .ok (.iconst 4, 1) := by decide +kernel
theorem dX5_reasonAgainst_71 : decode cX5_reasonAgainst 71 = .ok (.ireturn, 1) := by decide +kernel
theorem dX5_reasonAgainst_72 : decode cX5_reasonAgainst 72 = .ok (.iconst 0, 1) := by decide +kernel
theorem dX5_reasonAgainst_73 : decode cX5_reasonAgainst 73 = .ok (.ireturn, 1) := by decide +kernel
theorem dX5_areCouple_0 : decode cX5_areCouple 0 = .ok (.iconst 0, 1) := by decide +kernel
theorem dX5_areCouple_1 : decode cX5_areCouple 1 = .ok (.istore_n 3, 1) := by decide +kernel
theorem dX5_areCouple_2 : decode cX5_areCouple 2 = .ok (.iload_n 3, 1) := by decide +kernel
theorem dX5_areCouple_3 : decode cX5_areCouple 3 = .ok (.aload_n 0, 1) := by decide +kernel
theorem dX5_areCouple_4 : decode cX5_areCouple 4 = .ok (.getfield 43, 3) := by decide +kernel
theorem dX5_areCouple_7 : decode cX5_areCouple 7 = .ok (.if_icmp .ge 31, 3) := by decide +kernel
theorem dX5_areCouple_10 : decode cX5_areCouple 10 = .ok (.aload_n 0, 1) := by decide +kernel
theorem dX5_areCouple_11 : decode cX5_areCouple 11 = .ok (.getfield 21, 3) := by decide +kernel
theorem dX5_areCouple_14 : decode cX5_areCouple 14 = .ok (.iload_n 3, 1) := by decide +kernel
theorem dX5_areCouple_15 : decode cX5_areCouple 15 = .ok (.iaload, 1) := by decide +kernel
theorem dX5_areCouple_16 : decode cX5_areCouple 16 = .ok (.iload_n 1, 1) := by decide +kernel
theorem dX5_areCouple_17 : decode cX5_areCouple 17 = .ok (.if_icmp .ne 15, 3) := by decide +kernel
theorem dX5_areCouple_20 : decode cX5_areCouple 20 = .ok (.aload_n 0, 1) := by decide +kernel
theorem dX5_areCouple_21 : decode cX5_areCouple 21 = .ok (.getfield 24, 3) := by decide +kernel
theorem dX5_areCouple_24 : decode cX5_areCouple 24 = .ok (.iload_n 3, 1) := by decide +kernel
theorem dX5_areCouple_25 : decode cX5_areCouple 25 = .ok (.iaload, 1) := by decide +kernel
theorem dX5_areCouple_26 : decode cX5_areCouple 26 = .ok (.iload_n 2, 1) := by decide +kernel
theorem dX5_areCouple_27 : decode cX5_areCouple 27 = .ok (.if_icmp .ne 5, 3) := by decide +kernel
theorem dX5_areCouple_30 : decode cX5_areCouple 30 = .ok (.iconst 1, 1) := by decide +kernel
theorem dX5_areCouple_31 : decode cX5_areCouple 31 = .ok (.ireturn, 1) := by decide +kernel
theorem dX5_areCouple_32 : decode cX5_areCouple 32 = .ok (.iinc 3 1, 3) := by decide +kernel
theorem dX5_areCouple_35 : decode cX5_areCouple 35 = .ok (.goto (-33), 3) := by decide +kernel
theorem dX5_areCouple_38 : decode cX5_areCouple 38 = .ok (.iconst 0, 1) := by decide +kernel
theorem dX5_areCouple_39 : decode cX5_areCouple 39 = .ok (.ireturn, 1) := by decide +kernel
set_option maxRecDepth 20000 in
theorem ggX5_isDouble_X5_couplesWith : GoodIn wsX5_isDouble wsX5_couplesWith := goodIn_r _ [5, 6, 7, 8, 9, 10, 11, 12, 13, 14, 15, 16, 17, 18] (by decide +kernel) (by decide +kernel)
set_option maxRecDepth 20000 in
theorem gX5_isDouble_X5_couplesWith : GoodIn wsX5_isDouble (wsV RX5 101 RX5 yX5_couplesWith wsX5_couplesWith) := goodIn_app (goodIn_of _ (by decide +kernel)) ggX5_isDouble_X5_couplesWith
theorem dX5_isDouble_0 : decode cX5_isDouble 0 = .ok (.aload_n 0, 1) := by decide +kernel
theorem dX5_isDouble_1 : decode cX5_isDouble 1 = .ok (.iload_n 1, 1) := by decide +kernel
theorem dX5_isDouble_2 : decode cX5_isDouble 2 = .ok (.invokevirtual 101, 3) := by decide +kernel
theorem dX5_isDouble_5 : decode cX5_isDouble 5 = .ok (.iconst 2, 1) := by decide +kernel
theorem dX5_isDouble_6 : decode cX5_isDouble 6 = .ok (.if_icmp .lt 7, 3) := by decide +kernel
theorem dX5_isDouble_9 : decode cX5_isDouble 9 = .ok (.iconst 1, 1) := by decide +kernel
theorem dX5_isDouble_10 : decode cX5_isDouble 10 = .ok (.goto 4, 3) := by decide +kernel
theorem dX5_isDouble_13 : decode cX5_isDouble 13 = .ok (.iconst 0, 1) := by decide +kernel
theorem dX5_isDouble_14 : decode cX5_isDouble 14 = .ok (.ireturn, 1) := by decide +kernel
set_option maxRecDepth 20000 in
theorem ggX5_lay_X5_isPerson : GoodIn wsX5_lay wsX5_isPerson := goodIn_r _ [7, 8, 14, 15, 16, 17, 18, 19, 20, 21, 22, 23] (by decide +kernel) (by decide +kernel)
set_option maxRecDepth 20000 in
theorem gX5_lay_X5_isPerson : GoodIn wsX5_lay (wsV RX5 49 RX5 yX5_isPerson wsX5_isPerson) := goodIn_app (goodIn_of _ (by decide +kernel)) ggX5_lay_X5_isPerson
set_option maxRecDepth 20000 in
theorem ggX5_lay_X5_sizeOf : GoodIn wsX5_lay wsX5_sizeOf := goodIn_r _ [12, 13, 14, 15, 16, 17, 18, 19, 20, 21, 22, 23] (by decide +kernel) (by decide +kernel)
set_option maxRecDepth 20000 in
theorem gX5_lay_X5_sizeOf : GoodIn wsX5_lay (wsV RX5 56 RX5 yX5_sizeOf wsX5_sizeOf) := goodIn_app (goodIn_of _ (by decide +kernel)) ggX5_lay_X5_sizeOf
theorem dX5_lay_0 : decode cX5_lay 0 = .ok (.aload_n 0, 1) := by decide +kernel
theorem dX5_lay_1 : decode cX5_lay 1 = .ok (.iload_n 3, 1) := by decide +kernel
theorem dX5_lay_2 : decode cX5_lay 2 = .ok (.invokevirtual 49, 3) := by decide +kernel
theorem dX5_lay_5 : decode cX5_lay 5 = .ok (.ifCond .eq 35, 3) := by decide +kernel
theorem dX5_lay_8 : decode cX5_lay 8 = .ok (.iload_n 2, 1) := by decide +kernel
theorem dX5_lay_9 : decode cX5_lay 9 = .ok (.ifCond .lt 31, 3) := by decide +kernel
theorem dX5_lay_12 : decode cX5_lay 12 = .ok (.iload_n 2, 1) := by decide +kernel
theorem dX5_lay_13 : decode cX5_lay 13 = .ok (.aload_n 0, 1) := by decide +kernel
theorem dX5_lay_14 : decode cX5_lay 14 = .ok (.iload_n 1, 1) := by decide +kernel
theorem dX5_lay_15 : decode cX5_lay 15 = .ok (.invokevirtual 56, 3) := by decide +kernel
theorem dX5_lay_18 : decode cX5_lay 18 = .ok (.if_icmp .ge 22, 3) := by decide +kernel
theorem dX5_lay_21 : decode cX5_lay 21 = .ok (.aload_n 0, 1) := by decide +kernel
theorem dX5_lay_22 : decode cX5_lay 22 = .ok (.getfield 27, 3) := by decide +kernel
theorem dX5_lay_25 : decode cX5_lay 25 = .ok (.iload_n 1, 1) := by decide +kernel
theorem dX5_lay_26 : decode cX5_lay 26 = .ok (.bipush 6, 2) := by decide +kernel
theorem dX5_lay_28 : decode cX5_lay 28 = .ok (.imul, 1) := by decide +kernel
theorem dX5_lay_29 : decode cX5_lay 29 = .ok (.iload_n 2, 1) := by decide +kernel
theorem dX5_lay_30 : decode cX5_lay 30 = .ok (.iadd, 1) := by decide +kernel
theorem dX5_lay_31 : decode cX5_lay 31 = .ok (.iload_n 3, 1) := by decide +kernel
theorem dX5_lay_32 : decode cX5_lay 32 = .ok (.iastore, 1) := by decide +kernel
theorem dX5_lay_33 : decode cX5_lay 33 = .ok (.aload_n 0, 1) := by decide +kernel
theorem dX5_lay_34 : decode cX5_lay 34 = .ok (.getfield 15, 3) := by decide +kernel
theorem dX5_lay_37 : decode cX5_lay 37 = .ok (.iload_n 3, 1) := by decide +kernel
theorem dX5_lay_38 : decode cX5_lay 38 = .ok (.iload_n 2, 1) := by decide +kernel
theorem dX5_lay_39 : decode cX5_lay 39 = .ok (.iastore, 1) := by decide +kernel
theorem dX5_lay_40 : decode cX5_lay 40 = .ok (.return_, 1) := by decide +kernel
set_option maxRecDepth 20000 in
theorem ggX5_exchange_X5_personAt : GoodIn wsX5_exchange wsX5_personAt := goodIn_r _ [5, 6, 7, 8, 9, 4, 10, 11, 22, 23, 24, 25, 26, 27, 28, 29, 30, 31] (by decide +kernel) (by decide +kernel)
set_option maxRecDepth 20000 in
theorem gX5_exchange_X5_personAt : GoodIn wsX5_exchange (wsV RX5 104 RX5 yX5_personAt wsX5_personAt) := goodIn_app (goodIn_of _ (by decide +kernel)) ggX5_exchange_X5_personAt
set_option maxRecDepth 20000 in
theorem ggX5_exchange_X5_lay : GoodIn wsX5_exchange wsX5_lay := goodIn_r _ [15, 6, 16, 17, 18, 19, 4, 20, 21, 7, 8, 9, 10, 11, 22, 23, 24, 25, 26, 27, 28, 29, 30, 31] (by decide +kernel) (by decide +kernel)
set_option maxRecDepth 20000 in
theorem gX5_exchange_X5_lay : GoodIn wsX5_exchange (wsV RX5 69 RX5 yX5_lay wsX5_lay) := goodIn_app (goodIn_of _ (by decide +kernel)) ggX5_exchange_X5_lay
theorem dX5_exchange_0 : decode cX5_exchange 0 = .ok (.aload_n 0, 1) := by decide +kernel
theorem dX5_exchange_1 : decode cX5_exchange 1 = .ok (.iload_n 1, 1) := by decide +kernel
theorem dX5_exchange_2 : decode cX5_exchange 2 = .ok (.iload_n 2, 1) := by decide +kernel
theorem dX5_exchange_3 : decode cX5_exchange 3 = .ok (.invokevirtual 104, 3) := by decide +kernel
theorem dX5_exchange_6 : decode cX5_exchange 6 = .ok (.istore_n 3, 1) := by decide +kernel
theorem dX5_exchange_7 : decode cX5_exchange 7 = .ok (.aload_n 0, 1) := by decide +kernel
theorem dX5_exchange_8 : decode cX5_exchange 8 = .ok (.iload_n 1, 1) := by decide +kernel
theorem dX5_exchange_9 : decode cX5_exchange 9 = .ok (.iload_n 2, 1) := by decide +kernel
theorem dX5_exchange_10 : decode cX5_exchange 10 = .ok (.iconst 1, 1) := by decide +kernel
theorem dX5_exchange_11 : decode cX5_exchange 11 = .ok (.iadd, 1) := by decide +kernel
theorem dX5_exchange_12 : decode cX5_exchange 12 = .ok (.invokevirtual 104, 3) := by decide +kernel
theorem dX5_exchange_15 : decode cX5_exchange 15 = .ok (.istore 4, 2) := by decide +kernel
theorem dX5_exchange_17 : decode cX5_exchange 17 = .ok (.iload_n 3, 1) := by decide +kernel
theorem dX5_exchange_18 : decode cX5_exchange 18 = .ok (.iconst (-1), 1) := by decide +kernel
theorem dX5_exchange_19 : decode cX5_exchange 19 = .ok (.if_icmp .eq 26, 3) := by decide +kernel
theorem dX5_exchange_22 : decode cX5_exchange 22 = .ok (.iload 4, 2) := by decide +kernel
theorem dX5_exchange_24 : decode cX5_exchange 24 = .ok (.iconst (-1), 1) := by decide +kernel
theorem dX5_exchange_25 : decode cX5_exchange 25 = .ok (.if_icmp .eq 20, 3) := by decide +kernel
theorem dX5_exchange_28 : decode cX5_exchange 28 = .ok (.aload_n 0, 1) := by decide +kernel
theorem dX5_exchange_29 : decode cX5_exchange 29 = .ok (.iload_n 1, 1) := by decide +kernel
theorem dX5_exchange_30 : decode cX5_exchange 30 = .ok (.iload_n 2, 1) := by decide +kernel
theorem dX5_exchange_31 : decode cX5_exchange 31 = .ok (.iload 4, 2) := by decide +kernel
theorem dX5_exchange_33 : decode cX5_exchange 33 = .ok (.invokevirtual 69, 3) := by decide +kernel
theorem dX5_exchange_36 : decode cX5_exchange 36 = .ok (.aload_n 0, 1) := by decide +kernel
theorem dX5_exchange_37 : decode cX5_exchange 37 = .ok (.iload_n 1, 1) := by decide +kernel
theorem dX5_exchange_38 : decode cX5_exchange 38 = .ok (.iload_n 2, 1) := by decide +kernel
theorem dX5_exchange_39 : decode cX5_exchange 39 = .ok (.iconst 1, 1) := by decide +kernel
theorem dX5_exchange_40 : decode cX5_exchange 40 = .ok (.iadd, 1) := by decide +kernel
theorem dX5_exchange_41 : decode cX5_exchange 41 = .ok (.iload_n 3, 1) := by decide +kernel
theorem dX5_exchange_42 : decode cX5_exchange 42 = .ok (.invokevirtual 69, 3) := by decide +kernel
theorem dX5_exchange_45 : decode cX5_exchange 45 = .ok (.return_, 1) := by decide +kernel
theorem dX5_couplesWith_0 : decode cX5_couplesWith 0 = .ok (.iconst 0, 1) := by decide +kernel
theorem dX5_couplesWith_1 : decode cX5_couplesWith 1 = .ok (.istore_n 2, 1) := by decide +kernel
theorem dX5_couplesWith_2 : decode cX5_couplesWith 2 = .ok (.iconst 0, 1) := by decide +kernel
theorem dX5_couplesWith_3 : decode cX5_couplesWith 3 = .ok (.istore_n 3, 1) := by decide +kernel
theorem dX5_couplesWith_4 : decode cX5_couplesWith 4 = .ok (.iload_n 3, 1) := by decide +kernel
theorem dX5_couplesWith_5 : decode cX5_couplesWith 5 = .ok (.aload_n 0, 1) := by decide +kernel
theorem dX5_couplesWith_6 : decode cX5_couplesWith 6 = .ok (.getfield 43, 3) := by decide +kernel
theorem dX5_couplesWith_9 : decode cX5_couplesWith 9 = .ok (.if_icmp .ge 32, 3) := by decide +kernel
theorem dX5_couplesWith_12 : decode cX5_couplesWith 12 = .ok (.aload_n 0, 1) := by decide +kernel
theorem dX5_couplesWith_13 : decode cX5_couplesWith 13 = .ok (.getfield 21, 3) := by decide +kernel
theorem dX5_couplesWith_16 : decode cX5_couplesWith 16 = .ok (.iload_n 3, 1) := by decide +kernel
theorem dX5_couplesWith_17 : decode cX5_couplesWith 17 = .ok (.iaload, 1) := by decide +kernel
theorem dX5_couplesWith_18 : decode cX5_couplesWith 18 = .ok (.iload_n 1, 1) := by decide +kernel
theorem dX5_couplesWith_19 : decode cX5_couplesWith 19 = .ok (.if_icmp .eq 13, 3) := by decide +kernel
theorem dX5_couplesWith_22 : decode cX5_couplesWith 22 = .ok (.aload_n 0, 1) := by decide +kernel
theorem dX5_couplesWith_23 : decode cX5_couplesWith 23 = .ok (.getfield 24, 3) := by decide +kernel
theorem dX5_couplesWith_26 : decode cX5_couplesWith 26 = .ok (.iload_n 3, 1) := by decide +kernel
theorem dX5_couplesWith_27 : decode cX5_couplesWith 27 = .ok (.iaload, 1) := by decide +kernel
theorem dX5_couplesWith_28 : decode cX5_couplesWith 28 = .ok (.iload_n 1, 1) := by decide +kernel
theorem dX5_couplesWith_29 : decode cX5_couplesWith 29 = .ok (.if_icmp .ne 6, 3) := by decide +kernel
theorem dX5_couplesWith_32 : decode cX5_couplesWith 32 = .ok (.iinc 2 1, 3) := by decide +kernel
theorem dX5_couplesWith_35 : decode cX5_couplesWith 35 = .ok (.iinc 3 1, 3) := by decide +kernel
theorem dX5_couplesWith_38 : decode cX5_couplesWith 38 = .ok (.goto (-34), 3) := by decide +kernel
theorem dX5_couplesWith_41 : decode cX5_couplesWith 41 = .ok (.iload_n 2, 1) := by decide +kernel
theorem dX5_couplesWith_42 : decode cX5_couplesWith 42 = .ok (.ireturn, 1) := by decide +kernel
theorem dX5_childrenOf_0 : decode cX5_childrenOf 0 = .ok (.iconst 0, 1) := by decide +kernel
theorem dX5_childrenOf_1 : decode cX5_childrenOf 1 = .ok (.istore_n 2, 1) := by decide +kernel
theorem dX5_childrenOf_2 : decode cX5_childrenOf 2 = .ok (.iconst 0, 1) := by decide +kernel
theorem dX5_childrenOf_3 : decode cX5_childrenOf 3 = .ok (.istore_n 3, 1) := by decide +kernel
theorem dX5_childrenOf_4 : decode cX5_childrenOf 4 = .ok (.iload_n 3, 1) := by decide +kernel
theorem dX5_childrenOf_5 : decode cX5_childrenOf 5 = .ok (.aload_n 0, 1) := by decide +kernel
theorem dX5_childrenOf_6 : decode cX5_childrenOf 6 = .ok (.getfield 39, 3) := by decide +kernel
theorem dX5_childrenOf_9 : decode cX5_childrenOf 9 = .ok (.if_icmp .ge 22, 3) := by decide +kernel
theorem dX5_childrenOf_12 : decode cX5_childrenOf 12 = .ok (.aload_n 0, 1) := by decide +kernel
theorem dX5_childrenOf_13 : decode cX5_childrenOf 13 = .ok (.getfield 18, 3) := by decide +kernel
theorem dX5_childrenOf_16 : decode cX5_childrenOf 16 = .ok (.iload_n 3, 1) := by decide +kernel
theorem dX5_childrenOf_17 : decode cX5_childrenOf 17 = .ok (.iaload, 1) := by decide +kernel
theorem dX5_childrenOf_18 : decode cX5_childrenOf 18 = .ok (.iload_n 1, 1) := by decide +kernel
theorem dX5_childrenOf_19 : decode cX5_childrenOf 19 = .ok (.if_icmp .ne 6, 3) := by decide +kernel
theorem dX5_childrenOf_22 : decode cX5_childrenOf 22 = .ok (.iinc 2 1, 3) := by decide +kernel
theorem dX5_childrenOf_25 : decode cX5_childrenOf 25 = .ok (.iinc 3 1, 3) := by decide +kernel
theorem dX5_childrenOf_28 : decode cX5_childrenOf 28 = .ok (.goto (-24), 3) := by decide +kernel
theorem dX5_childrenOf_31 : decode cX5_childrenOf 31 = .ok (.iload_n 2, 1) := by decide +kernel
theorem dX5_childrenOf_32 : decode cX5_childrenOf 32 = .ok (.ireturn, 1) := by decide +kernel
set_option maxRecDepth 20000 in
theorem ggX5_childrenWith_X5_childrenOf : GoodIn wsX5_childrenWith wsX5_childrenOf := goodIn_r _ [8, 9, 10, 11, 12, 13, 14, 15, 16, 17, 18, 19, 20] (by decide +kernel) (by decide +kernel)
set_option maxRecDepth 20000 in
theorem gX5_childrenWith_X5_childrenOf : GoodIn wsX5_childrenWith (wsV RX5 107 RX5 yX5_childrenOf wsX5_childrenOf) := goodIn_app (goodIn_of _ (by decide +kernel)) ggX5_childrenWith_X5_childrenOf
theorem dX5_childrenWith_0 : decode cX5_childrenWith 0 = .ok (.iconst 0, 1) := by decide +kernel
theorem dX5_childrenWith_1 : decode cX5_childrenWith 1 = .ok (.istore_n 2, 1) := by decide +kernel
theorem dX5_childrenWith_2 : decode cX5_childrenWith 2 = .ok (.iconst 0, 1) := by decide +kernel
theorem dX5_childrenWith_3 : decode cX5_childrenWith 3 = .ok (.istore_n 3, 1) := by decide +kernel
theorem dX5_childrenWith_4 : decode cX5_childrenWith 4 = .ok (.iload_n 3, 1) := by decide +kernel
theorem dX5_childrenWith_5 : decode cX5_childrenWith 5 = .ok (.aload_n 0, 1) := by decide +kernel
theorem dX5_childrenWith_6 : decode cX5_childrenWith 6 = .ok (.getfield 43, 3) := by decide +kernel
theorem dX5_childrenWith_9 : decode cX5_childrenWith 9 = .ok (.if_icmp .ge 37, 3) := by decide +kernel
theorem dX5_childrenWith_12 : decode cX5_childrenWith 12 = .ok (.aload_n 0, 1) := by decide +kernel
theorem dX5_childrenWith_13 : decode cX5_childrenWith 13 = .ok (.getfield 21, 3) := by decide +kernel
theorem dX5_childrenWith_16 : decode cX5_childrenWith 16 = .ok (.iload_n 3, 1) := by decide +kernel
theorem dX5_childrenWith_17 : decode cX5_childrenWith 17 = .ok (.iaload, 1) := by decide +kernel
theorem dX5_childrenWith_18 : decode cX5_childrenWith 18 = .ok (.iload_n 1, 1) := by decide +kernel
theorem dX5_childrenWith_19 : decode cX5_childrenWith 19 = .ok (.if_icmp .eq 13, 3) := by decide +kernel
theorem dX5_childrenWith_22 : decode cX5_childrenWith 22 = .ok (.aload_n 0, 1) := by decide +kernel
theorem dX5_childrenWith_23 : decode cX5_childrenWith 23 = .ok (.getfield 24, 3) := by decide +kernel
theorem dX5_childrenWith_26 : decode cX5_childrenWith 26 = .ok (.iload_n 3, 1) := by decide +kernel
theorem dX5_childrenWith_27 : decode cX5_childrenWith 27 = .ok (.iaload, 1) := by decide +kernel
theorem dX5_childrenWith_28 : decode cX5_childrenWith 28 = .ok (.iload_n 1, 1) := by decide +kernel
theorem dX5_childrenWith_29 : decode cX5_childrenWith 29 = .ok (.if_icmp .ne 11, 3) := by decide +kernel
theorem dX5_childrenWith_32 : decode cX5_childrenWith 32 = .ok (.iload_n 2, 1) := by decide +kernel
theorem dX5_childrenWith_33 : decode cX5_childrenWith 33 = .ok (.aload_n 0, 1) := by decide +kernel
theorem dX5_childrenWith_34 : decode cX5_childrenWith 34 = .ok (.iload_n 3, 1) := by decide +kernel
theorem dX5_childrenWith_35 : decode cX5_childrenWith 35 = .ok (.invokevirtual 107, 3) := by decide +kernel
theorem dX5_childrenWith_38 : decode cX5_childrenWith 38 = .ok (.iadd, 1) := by decide +kernel
theorem dX5_childrenWith_39 : decode cX5_childrenWith 39 = .ok (.istore_n 2, 1) := by decide +kernel
theorem dX5_childrenWith_40 : decode cX5_childrenWith 40 = .ok (.iinc 3 1, 3) := by decide +kernel
theorem dX5_childrenWith_43 : decode cX5_childrenWith 43 = .ok (.goto (-39), 3) := by decide +kernel
theorem dX5_childrenWith_46 : decode cX5_childrenWith 46 = .ok (.iload_n 2, 1) := by decide +kernel
theorem dX5_childrenWith_47 : decode cX5_childrenWith 47 = .ok (.ireturn, 1) := by decide +kernel
set_option maxRecDepth 20000 in
theorem ggX5_lines_X5_childrenOf : GoodIn wsX5_lines wsX5_childrenOf := goodIn_r _ [6, 1, 7, 8, 9, 10, 11, 12, 13, 14, 15, 16, 17] (by decide +kernel) (by decide +kernel)
set_option maxRecDepth 20000 in
theorem gX5_lines_X5_childrenOf : GoodIn wsX5_lines (wsV RX5 107 RX5 yX5_childrenOf wsX5_childrenOf) := goodIn_app (goodIn_of _ (by decide +kernel)) ggX5_lines_X5_childrenOf
theorem dX5_lines_0 : decode cX5_lines 0 = .ok (.aload_n 0, 1) := by decide +kernel
theorem dX5_lines_1 : decode cX5_lines 1 = .ok (.getfield 39, 3) := by decide +kernel
theorem dX5_lines_4 : decode cX5_lines 4 = .ok (.aload_n 0, 1) := by decide +kernel
theorem dX5_lines_5 : decode cX5_lines 5 = .ok (.iconst (-1), 1) := by decide +kernel
theorem dX5_lines_6 : decode cX5_lines 6 = .ok (.invokevirtual 107, 3) := by decide +kernel
theorem dX5_lines_9 : decode cX5_lines 9 = .ok (.isub, 1) := by decide +kernel
theorem dX5_lines_10 : decode cX5_lines 10 = .ok (.ireturn, 1) := by decide +kernel
set_option maxRecDepth 20000 in
theorem ggX5_bentLines_X5_middleAbove : GoodIn wsX5_bentLines wsX5_middleAbove := goodIn_r _ [8, 9, 10, 11, 7, 12, 2, 13, 14, 15, 16, 1, 17, 18, 19, 20, 21, 22, 23, 24, 25, 26, 27, 28, 29, 30, 31, 3, 32, 33, 34, 35, 36, 37, 38, 39, 40, 41] (by decide +kernel) (by decide +kernel)
set_option maxRecDepth 20000 in
theorem gX5_bentLines_X5_middleAbove : GoodIn wsX5_bentLines (wsV RX5 110 RX5 yX5_middleAbove wsX5_middleAbove) := goodIn_app (goodIn_of _ (by decide +kernel)) ggX5_bentLines_X5_middleAbove
theorem dX5_bentLines_0 : decode cX5_bentLines 0 = .ok (.iconst 0, 1) := by decide +kernel
theorem dX5_bentLines_1 : decode cX5_bentLines 1 = .ok (.istore_n 1, 1) := by decide +kernel
theorem dX5_bentLines_2 : decode cX5_bentLines 2 = .ok (.iconst 0, 1) := by decide +kernel
theorem dX5_bentLines_3 : decode cX5_bentLines 3 = .ok (.istore_n 2, 1) := by decide +kernel
theorem dX5_bentLines_4 : decode cX5_bentLines 4 = .ok (.iload_n 2, 1) := by decide +kernel
theorem dX5_bentLines_5 : decode cX5_bentLines 5 = .ok (.aload_n 0, 1) := by decide +kernel
theorem dX5_bentLines_6 : decode cX5_bentLines 6 = .ok (.getfield 39, 3) := by decide +kernel
theorem dX5_bentLines_9 : decode cX5_bentLines 9 = .ok (.if_icmp .ge 38, 3) := by decide +kernel
theorem dX5_bentLines_12 : decode cX5_bentLines 12 = .ok (.aload_n 0, 1) := by decide +kernel
theorem dX5_bentLines_13 : decode cX5_bentLines 13 = .ok (.getfield 18, 3) := by decide +kernel
theorem dX5_bentLines_16 : decode cX5_bentLines 16 = .ok (.iload_n 2, 1) := by decide +kernel
theorem dX5_bentLines_17 : decode cX5_bentLines 17 = .ok (.iaload, 1) := by decide +kernel
theorem dX5_bentLines_18 : decode cX5_bentLines 18 = .ok (.iconst (-1), 1) := by decide +kernel
theorem dX5_bentLines_19 : decode cX5_bentLines 19 = .ok (.if_icmp .eq 22, 3) := by decide +kernel
theorem dX5_bentLines_22 : decode cX5_bentLines 22 = .ok (.aload_n 0, 1) := by decide +kernel
theorem dX5_bentLines_23 : decode cX5_bentLines 23 = .ok (.iload_n 2, 1) := by decide +kernel
theorem dX5_bentLines_24 : decode cX5_bentLines 24 = .ok (.invokevirtual 110, 3) := by decide +kernel
theorem dX5_bentLines_27 : decode cX5_bentLines 27 = .ok (.iconst 2, 1) := by decide +kernel
theorem dX5_bentLines_28 : decode cX5_bentLines 28 = .ok (.aload_n 0, 1) := by decide +kernel
theorem dX5_bentLines_29 : decode cX5_bentLines 29 = .ok (.getfield 15, 3) := by decide +kernel
theorem dX5_bentLines_32 : decode cX5_bentLines 32 = .ok (.iload_n 2, 1) := by decide +kernel
theorem dX5_bentLines_33 : decode cX5_bentLines 33 = .ok (.iaload, 1) := by decide +kernel
theorem dX5_bentLines_34 : decode cX5_bentLines 34 = .ok (.imul, 1) := by decide +kernel
theorem dX5_bentLines_35 : decode cX5_bentLines 35 = .ok (.if_icmp .eq 6, 3) := by decide +kernel
theorem dX5_bentLines_38 : decode cX5_bentLines 38 = .ok (.iinc 1 1, 3) := by decide +kernel
theorem dX5_bentLines_41 : decode cX5_bentLines 41 = .ok (.iinc 2 1, 3) := by decide +kernel
theorem dX5_bentLines_44 : decode cX5_bentLines 44 = .ok (.goto (-40), 3) := by decide +kernel
theorem dX5_bentLines_47 : decode cX5_bentLines 47 = .ok (.iload_n 1, 1) := by decide +kernel
theorem dX5_bentLines_48 : decode cX5_bentLines 48 = .ok (.ireturn, 1) := by decide +kernel
set_option maxRecDepth 20000 in
theorem ggX5_doubles_X5_isDouble : GoodIn wsX5_doubles wsX5_isDouble := goodIn_r _ [6, 7, 8, 9, 5, 10, 11, 12, 13, 14, 15, 16, 17, 18, 19, 20, 21, 22, 23] (by decide +kernel) (by decide +kernel)
set_option maxRecDepth 20000 in
theorem gX5_doubles_X5_isDouble : GoodIn wsX5_doubles (wsV RX5 98 RX5 yX5_isDouble wsX5_isDouble) := goodIn_app (goodIn_of _ (by decide +kernel)) ggX5_doubles_X5_isDouble
theorem dX5_doubles_0 : decode cX5_doubles 0 = .ok (.iconst 0, 1) := by decide +kernel
theorem dX5_doubles_1 : decode cX5_doubles 1 = .ok (.istore_n 1, 1) := by decide +kernel
theorem dX5_doubles_2 : decode cX5_doubles 2 = .ok (.iconst 0, 1) := by decide +kernel
theorem dX5_doubles_3 : decode cX5_doubles 3 = .ok (.istore_n 2, 1) := by decide +kernel
theorem dX5_doubles_4 : decode cX5_doubles 4 = .ok (.iload_n 2, 1) := by decide +kernel
theorem dX5_doubles_5 : decode cX5_doubles 5 = .ok (.aload_n 0, 1) := by decide +kernel
theorem dX5_doubles_6 : decode cX5_doubles 6 = .ok (.getfield 39, 3) := by decide +kernel
theorem dX5_doubles_9 : decode cX5_doubles 9 = .ok (.if_icmp .ge 20, 3) := by decide +kernel
theorem dX5_doubles_12 : decode cX5_doubles 12 = .ok (.aload_n 0, 1) := by decide +kernel
theorem dX5_doubles_13 : decode cX5_doubles 13 = .ok (.iload_n 2, 1) := by decide +kernel
theorem dX5_doubles_14 : decode cX5_doubles 14 = .ok (.invokevirtual 98, 3) := by decide +kernel
theorem dX5_doubles_17 : decode cX5_doubles 17 = .ok (.ifCond .eq 6, 3) := by decide +kernel
theorem dX5_doubles_20 : decode cX5_doubles 20 = .ok (.iinc 1 1, 3) := by decide +kernel
theorem dX5_doubles_23 : decode cX5_doubles 23 = .ok (.iinc 2 1, 3) := by decide +kernel
theorem dX5_doubles_26 : decode cX5_doubles 26 = .ok (.goto (-22), 3) := by decide +kernel
theorem dX5_doubles_29 : decode cX5_doubles 29 = .ok (.iload_n 1, 1) := by decide +kernel
theorem dX5_doubles_30 : decode cX5_doubles 30 = .ok (.ireturn, 1) := by decide +kernel
theorem dX6_init_0 : decode cX6_init 0 = .ok (.aload_n 0, 1) := by decide +kernel
theorem dX6_init_1 : decode cX6_init 1 = .ok (.invokespecial 3, 3) := by decide +kernel
theorem dX6_init_4 : decode cX6_init 4 = .ok (.aload_n 0, 1) := by decide +kernel
theorem dX6_init_5 : decode cX6_init 5 = .ok (.bipush 60, 2) := by decide +kernel
theorem dX6_init_7 : decode cX6_init 7 = .ok (.newarray .int, 2) := by decide +kernel
theorem dX6_init_9 : decode cX6_init 9 = .ok (.putfield 9, 3) := by decide +kernel
theorem dX6_init_12 : decode cX6_init 12 = .ok (.return_, 1) := by decide +kernel
set_option maxRecDepth 20000 in
theorem ggX7_init_X5_init : GoodIn wsX7_init wsX5_init := goodIn_r _ [32, 33, 2, 3, 34, 35, 36, 37, 38, 39, 40, 41, 76, 77, 78, 79, 80, 81, 82, 83, 84, 85] (by decide +kernel) (by decide +kernel)
set_option maxRecDepth 20000 in
theorem gX7_init_X5_init_n9 : GoodIn wsX7_init (wsX5_init) := ggX7_init_X5_init
set_option maxRecDepth 20000 in
theorem ggX7_init_X4_init : GoodIn wsX7_init wsX4_init := goodIn_r _ [44, 45, 2, 3, 46, 47, 5, 6, 31, 32, 33, 34, 35, 36, 37, 38, 39, 40, 41, 94, 95, 96, 76, 77, 78, 79, 80, 81, 82, 83, 84, 85] (by decide +kernel) (by decide +kernel)
set_option maxRecDepth 20000 in
theorem gX7_init_X4_init : GoodIn wsX7_init (wsX4_init) := ggX7_init_X4_init
set_option maxRecDepth 20000 in
theorem ggX7_init_X6_init : GoodIn wsX7_init wsX6_init := goodIn_r _ [49, 50, 2, 3, 34, 51, 97, 98, 99, 100, 101, 102] (by decide +kernel) (by decide +kernel)
set_option maxRecDepth 20000 in
theorem gX7_init_X6_init_n33 : GoodIn wsX7_init (wsX6_init) := ggX7_init_X6_init
set_option maxRecDepth 20000 in
theorem ggX7_init_X2_init : GoodIn wsX7_init wsX2_init := goodIn_r _ [53, 54, 2, 3, 34, 55, 56, 103, 104, 105] (by decide +kernel) (by decide +kernel)
set_option maxRecDepth 20000 in
theorem gX7_init_X2_init_n40 : GoodIn wsX7_init (wsX2_init) := ggX7_init_X2_init
set_option maxRecDepth 20000 in
theorem ggX7_init_X1_init : GoodIn wsX7_init wsX1_init := goodIn_r _ [58, 59, 2, 3, 34, 60, 61, 106, 107] (by decide +kernel) (by decide +kernel)
set_option maxRecDepth 20000 in
theorem gX7_init_X1_init_n47 : GoodIn wsX7_init (wsX1_init) := ggX7_init_X1_init
set_option maxRecDepth 20000 in
theorem ggX7_init_X3_init : GoodIn wsX7_init wsX3_init := goodIn_r _ [63, 64, 2, 3, 34, 65, 66, 67, 68, 69, 70, 71, 72, 73, 74, 75, 108, 109, 110, 111, 112, 113, 114, 115, 116, 117, 118, 119, 120] (by decide +kernel) (by decide +kernel)
set_option maxRecDepth 20000 in
theorem gX7_init_X3_init_n54 : GoodIn wsX7_init (wsX3_init) := ggX7_init_X3_init
theorem dX7_init_0 : decode cX7_init 0 = .ok (.aload_n 0, 1) := by decide +kernel
theorem dX7_init_1 : decode cX7_init 1 = .ok (.invokespecial 1, 3) := by decide +kernel
theorem dX7_init_4 : decode cX7_init 4 = .ok (.aload_n 0, 1) := by decide +kernel
theorem dX7_init_5 : decode cX7_init 5 = .ok (.new 7, 3) := by decide +kernel
theorem dX7_init_8 : decode cX7_init 8 = .ok (.dup, 1) := by decide +kernel
theorem dX7_init_9 : decode cX7_init 9 = .ok (.invokespecial 9, 3) := by decide +kernel
theorem dX7_init_12 : decode cX7_init 12 = .ok (.putfield 10, 3) := by decide +kernel
theorem dX7_init_15 : decode cX7_init 15 = .ok (.aload_n 0, 1) := by decide +kernel
theorem dX7_init_16 : decode cX7_init 16 = .ok (.iconst 2, 1) := by decide +kernel
theorem dX7_init_17 : decode cX7_init 17 = .ok (.anewarray 7, 3) := by decide +kernel
theorem dX7_init_20 : decode cX7_init 20 = .ok (.putfield 16, 3) := by decide +kernel
theorem dX7_init_23 : decode cX7_init 23 = .ok (.aload_n 0, 1) := by decide +kernel
theorem dX7_init_24 : decode cX7_init 24 = .ok (.iconst 2, 1) := by decide +kernel
theorem dX7_init_25 : decode cX7_init 25 = .ok (.newarray .boolean, 2) := by decide +kernel
theorem dX7_init_27 : decode cX7_init 27 = .ok (.putfield 20, 3) := by decide +kernel
theorem dX7_init_30 : decode cX7_init 30 = .ok (.aload_n 0, 1) := by decide +kernel
theorem dX7_init_31 : decode cX7_init 31 = .ok (.new 24, 3) := by decide +kernel
theorem dX7_init_34 : decode cX7_init 34 = .ok (.dup, 1) := by decide +kernel
theorem dX7_init_35 : decode cX7_init 35 = .ok (.invokespecial 26, 3) := by decide +kernel
theorem dX7_init_38 : decode cX7_init 38 = .ok (.putfield 27, 3) := by decide +kernel
theorem dX7_init_41 : decode cX7_init 41 = .ok (.aload_n 0, 1) := by decide +kernel
theorem dX7_init_42 : decode cX7_init 42 = .ok (.new 31, 3) := by decide +kernel
theorem dX7_init_45 : decode cX7_init 45 = .ok (.dup, 1) := by decide +kernel
theorem dX7_init_46 : decode cX7_init 46 = .ok (.invokespecial 33, 3) := by decide +kernel
theorem dX7_init_49 : decode cX7_init 49 = .ok (.putfield 34, 3) := by decide +kernel
theorem dX7_init_52 : decode cX7_init 52 = .ok (.aload_n 0, 1) := by decide +kernel
theorem dX7_init_53 : decode cX7_init 53 = .ok (.new 38, 3) := by decide +kernel
theorem dX7_init_56 : decode cX7_init 56 = .ok (.dup, 1) := by decide +kernel
theorem dX7_init_57 : decode cX7_init 57 = .ok (.invokespecial 40, 3) := by decide +kernel
theorem dX7_init_60 : decode cX7_init 60 = .ok (.putfield 41, 3) := by decide +kernel
theorem dX7_init_63 : decode cX7_init 63 = .ok (.aload_n 0, 1) := by decide +kernel
theorem dX7_init_64 : decode cX7_init 64 = .ok (.new 45, 3) := by decide +kernel
theorem dX7_init_67 : decode cX7_init 67 = .ok (.dup, 1) := by decide +kernel
theorem dX7_init_68 : decode cX7_init 68 = .ok (.invokespecial 47, 3) := by decide +kernel
theorem dX7_init_71 : decode cX7_init 71 = .ok (.putfield 48, 3) := by decide +kernel
theorem dX7_init_74 : decode cX7_init 74 = .ok (.aload_n 0, 1) := by decide +kernel
theorem dX7_init_75 : decode cX7_init 75 = .ok (.new 52, 3) := by decide +kernel
theorem dX7_init_78 : decode cX7_init 78 = .ok (.dup, 1) := by decide +kernel
theorem dX7_init_79 : decode cX7_init 79 = .ok (.invokespecial 54, 3) := by decide +kernel
theorem dX7_init_82 : decode cX7_init 82 = .ok (.putfield 55, 3) := by decide +kernel
theorem dX7_init_85 : decode cX7_init 85 = .ok (.iconst 0, 1) := by decide +kernel
theorem dX7_init_86 : decode cX7_init 86 = .ok (.istore_n 1, 1) := by decide +kernel
theorem dX7_init_87 : decode cX7_init 87 = .ok (.iload_n 1, 1) := by decide +kernel
theorem dX7_init_88 : decode cX7_init 88 = .ok (.iconst 2, 1) := by decide +kernel
theorem dX7_init_89 : decode cX7_init 89 = .ok (.if_icmp .ge 22, 3) := by decide +kernel
theorem dX7_init_92 : decode cX7_init 92 = .ok (.aload_n 0, 1) := by decide +kernel
theorem dX7_init_93 : decode cX7_init 93 = .ok (.getfield 16, 3) := by decide +kernel
theorem dX7_init_96 : decode cX7_init 96 = .ok (.iload_n 1, 1) := by decide +kernel
theorem dX7_init_97 : decode cX7_init 97 = .ok (.new 7, 3) := by decide +kernel
theorem dX7_init_100 : decode cX7_init 100 = .ok (.dup, 1) := by decide +kernel
theorem dX7_init_101 : decode cX7_init 101 = .ok (.invokespecial 9, 3) := by decide +kernel
theorem dX7_init_104 : decode cX7_init 104 = .ok (.aastore, 1) := by decide +kernel
theorem dX7_init_105 : decode cX7_init 105 = .ok (.iinc 1 1, 3) := by decide +kernel
theorem dX7_init_108 : decode cX7_init 108 = .ok (.goto (-21), 3) := by decide +kernel
theorem dX7_init_111 : decode cX7_init 111 = .ok (.return_, 1) := by decide +kernel
set_option maxRecDepth 20000 in
theorem ggX7_person_X7_isRow : GoodIn wsX7_person wsX7_isRow := goodIn_r _ [8] (by decide +kernel) (by decide +kernel)
set_option maxRecDepth 20000 in
theorem gX7_person_X7_isRow : GoodIn wsX7_person (va_wsS RX7 59 yX7_isRow wsX7_isRow) := goodIn_app (goodIn_of _ (by decide +kernel)) ggX7_person_X7_isRow
set_option maxRecDepth 20000 in
theorem ggX7_person_X4_push : GoodIn wsX7_person wsX4_push := goodIn_r _ [13, 14, 15, 16, 17, 18, 19, 20, 21, 22, 23, 24, 25, 26, 27, 28, 29, 30, 31, 32, 33, 34, 35, 60, 61, 62, 63, 64, 65, 66, 67, 68, 69, 70, 71, 72] (by decide +kernel) (by decide +kernel)
set_option maxRecDepth 20000 in
theorem gX7_person_X4_push : GoodIn wsX7_person (wsV RX7 70 RX4 yX4_push wsX4_push) := goodIn_app (goodIn_of _ (by decide +kernel)) ggX7_person_X4_push
set_option maxRecDepth 20000 in
theorem ggX7_person_X5_addPerson : GoodIn wsX7_person wsX5_addPerson := goodIn_r _ [39, 33, 35, 32, 22, 28, 40, 41, 42, 20, 43, 44, 45, 46, 47, 31, 27, 48, 49, 50, 51, 63, 64, 65, 66, 67, 68, 69, 70, 71, 72] (by decide +kernel) (by decide +kernel)
set_option maxRecDepth 20000 in
theorem gX7_person_X5_addPerson : GoodIn wsX7_person (wsV RX7 74 RX5 yX5_addPerson wsX5_addPerson) := goodIn_app (goodIn_of _ (by decide +kernel)) ggX7_person_X5_addPerson
theorem dX7_person_0 : decode cX7_person 0 = .ok (.iload_n 1, 1) := by decide +kernel
theorem dX7_person_1 : decode cX7_person 1 = .ok (.invokestatic 59, 3) := by decide +kernel
theorem dX7_person_4 : decode cX7_person 4 = .ok (.ifCond .ne 13, 3) := by decide +kernel
theorem dX7_person_7 : decode cX7_person 7 = .ok (.new 63, 3) := by decide +kernel
theorem dX7_person_10 : decode cX7_person 10 = .ok (.dup, 1) := by decide +kernel
theorem dX7_person_11 : decode cX7_person 11 = .ok (.ldc 65, 2) := by decide +kernel
theorem dX7_person_13 : decode cX7_person 13 = .ok (.invokespecial 67, 3) := by decide +kernel
theorem dX7_person_16 : decode cX7_person 16 = .ok (.athrow, 1) := by decide +kernel
theorem dX7_person_17 : decode cX7_person 17 = .ok (.aload_n 0, 1) := by decide +kernel
theorem dX7_person_18 : decode cX7_person 18 = .ok (.getfield 27, 3) := by decide +kernel
theorem dX7_person_21 : decode cX7_person 21 = .ok (.aload_n 0, 1) := by decide +kernel
theorem dX7_person_22 : decode cX7_person 22 = .ok (.getfield 10, 3) := by decide +kernel
theorem dX7_person_25 : decode cX7_person 25 = .ok (.invokevirtual 70, 3) := by decide +kernel
theorem dX7_person_28 : decode cX7_person 28 = .ok (.aload_n 0, 1) := by decide +kernel
theorem dX7_person_29 : decode cX7_person 29 = .ok (.getfield 10, 3) := by decide +kernel
theorem dX7_person_32 : decode cX7_person 32 = .ok (.iload_n 1, 1) := by decide +kernel
theorem dX7_person_33 : decode cX7_person 33 = .ok (.iconst (-1), 1) := by decide +kernel
theorem dX7_person_34 : decode cX7_person 34 = .ok (.invokevirtual 74, 3) := by decide +kernel
theorem dX7_person_37 : decode cX7_person 37 = .ok (.ireturn, 1) := by decide +kernel
set_option maxRecDepth 20000 in
theorem ggX7_marry_X5_isPerson : GoodIn wsX7_marry wsX5_isPerson := goodIn_r _ [11, 12, 78, 79, 80, 81, 82, 83, 84, 85, 86, 87] (by decide +kernel) (by decide +kernel)
set_option maxRecDepth 20000 in
theorem gX7_marry_X5_isPerson : GoodIn wsX7_marry (wsV RX7 78 RX5 yX5_isPerson wsX5_isPerson) := goodIn_app (goodIn_of _ (by decide +kernel)) ggX7_marry_X5_isPerson
set_option maxRecDepth 20000 in
theorem ggX7_marry_X4_push : GoodIn wsX7_marry wsX4_push := goodIn_r _ [17, 18, 19, 20, 21, 22, 23, 10, 24, 25, 26, 27, 28, 29, 30, 31, 32, 33, 34, 35, 12, 36, 37, 88, 89, 90, 78, 79, 80, 81, 82, 83, 84, 85, 86, 87] (by decide +kernel) (by decide +kernel)
set_option maxRecDepth 20000 in
theorem gX7_marry_X4_push : GoodIn wsX7_marry (wsV RX7 70 RX4 yX4_push wsX4_push) := goodIn_app (goodIn_of _ (by decide +kernel)) ggX7_marry_X4_push
set_option maxRecDepth 20000 in
theorem ggX7_marry_X5_addCouple : GoodIn wsX7_marry wsX5_addCouple := goodIn_r _ [41, 37, 36, 32, 42, 43, 44, 45, 33, 46, 47, 48, 49, 50, 51, 10, 52, 53, 54, 55, 56, 25, 57, 8, 9, 11, 12, 58, 59, 60, 61, 62, 63, 64, 65, 66, 67, 68, 69, 78, 79, 80, 81, 82, 83, 84, 85, 86, 87] (by decide +kernel) (by decide +kernel)
set_option maxRecDepth 20000 in
theorem gX7_marry_X5_addCouple : GoodIn wsX7_marry (wsV RX7 88 RX5 yX5_addCouple wsX5_addCouple) := goodIn_app (goodIn_of _ (by decide +kernel)) ggX7_marry_X5_addCouple
theorem dX7_marry_0 : decode cX7_marry 0 = .ok (.aload_n 0, 1) := by decide +kernel
theorem dX7_marry_1 : decode cX7_marry 1 = .ok (.getfield 10, 3) := by decide +kernel
theorem dX7_marry_4 : decode cX7_marry 4 = .ok (.iload_n 1, 1) := by decide +kernel
theorem dX7_marry_5 : decode cX7_marry 5 = .ok (.invokevirtual 78, 3) := by decide +kernel
theorem dX7_marry_8 : decode cX7_marry 8 = .ok (.ifCond .eq 14, 3) := by decide +kernel
theorem dX7_marry_11 : decode cX7_marry 11 = .ok (.aload_n 0, 1) := by decide +kernel
theorem dX7_marry_12 : decode cX7_marry 12 = .ok (.getfield 10, 3) := by decide +kernel
theorem dX7_marry_15 : decode cX7_marry 15 = .ok (.iload_n 2, 1) := by decide +kernel
theorem dX7_marry_16 : decode cX7_marry 16 = .ok (.invokevirtual 78, 3) := by decide +kernel
theorem dX7_marry_19 : decode cX7_marry 19 = .ok (.ifCond .ne 13, 3) := by decide +kernel
theorem dX7_marry_22 : decode cX7_marry 22 = .ok (.new 63, 3) := by decide +kernel
theorem dX7_marry_25 : decode cX7_marry 25 = .ok (.dup, 1) := by decide +kernel
theorem dX7_marry_26 : decode cX7_marry 26 = .ok (.ldc 81, 2) := by decide +kernel
theorem dX7_marry_28 : decode cX7_marry 28 = .ok (.invokespecial 67, 3) := by decide +kernel
theorem dX7_marry_31 : decode cX7_marry 31 = .ok (.athrow, 1) := by decide +kernel
theorem dX7_marry_32 : decode cX7_marry 32 = .ok (.iload_n 1, 1) := by decide +kernel
theorem dX7_marry_33 : decode cX7_marry 33 = .ok (.iload_n 2, 1) := by decide +kernel
theorem dX7_marry_34 : decode cX7_marry 34 = .ok (.if_icmp .ne 13, 3) := by decide +kernel
theorem dX7_marry_37 : decode cX7_marry 37 = .ok (.new 83, 3) := by decide +kernel
theorem dX7_marry_40 : decode cX7_marry 40 = .ok (.dup, 1) := by decide +kernel
theorem dX7_marry_41 : decode cX7_marry 41 = .ok (.ldc 85, 2) := by decide +kernel
theorem dX7_marry_43 : decode cX7_marry 43 = .ok (.invokespecial 87, 3) := by decide +kernel
theorem dX7_marry_46 : decode cX7_marry 46 = .ok (.athrow, 1) := by decide +kernel
theorem dX7_marry_47 : decode cX7_marry 47 = .ok (.aload_n 0, 1) := by decide +kernel
theorem dX7_marry_48 : decode cX7_marry 48 = .ok (.getfield 27, 3) := by decide +kernel
theorem dX7_marry_51 : decode cX7_marry 51 = .ok (.aload_n 0, 1) := by decide +kernel
theorem dX7_marry_52 : decode cX7_marry 52 = .ok (.getfield 10, 3) := by decide +kernel
theorem dX7_marry_55 : decode cX7_marry 55 = .ok (.invokevirtual 70, 3) := by decide +kernel
theorem dX7_marry_58 : decode cX7_marry 58 = .ok (.aload_n 0, 1) := by decide +kernel
theorem dX7_marry_59 : decode cX7_marry 59 = .ok (.getfield 10, 3) := by decide +kernel
theorem dX7_marry_62 : decode cX7_marry 62 = .ok (.iload_n 1, 1) := by decide +kernel
theorem dX7_marry_63 : decode cX7_marry 63 = .ok (.iload_n 2, 1) := by decide +kernel
theorem dX7_marry_64 : decode cX7_marry 64 = .ok (.invokevirtual 88, 3) := by decide +kernel
theorem dX7_marry_67 : decode cX7_marry 67 = .ok (.ireturn, 1) := by decide +kernel
set_option maxRecDepth 20000 in
theorem ggX7_child_X5_isCouple : GoodIn wsX7_child wsX5_isCouple := goodIn_r _ [9, 10, 73, 74, 75, 76, 77, 78, 79, 80, 81, 82] (by decide +kernel) (by decide +kernel)
set_option maxRecDepth 20000 in
theorem gX7_child_X5_isCouple : GoodIn wsX7_child (wsV RX7 91 RX5 yX5_isCouple wsX5_isCouple) := goodIn_app (goodIn_of _ (by decide +kernel)) ggX7_child_X5_isCouple
set_option maxRecDepth 20000 in
theorem ggX7_child_X4_push : GoodIn wsX7_child wsX4_push := goodIn_r _ [15, 16, 17, 18, 19, 20, 21, 8, 22, 23, 24, 25, 26, 27, 28, 29, 30, 31, 32, 33, 34, 10, 35, 83, 84, 85, 73, 74, 75, 76, 77, 78, 79, 80, 81, 82] (by decide +kernel) (by decide +kernel)
set_option maxRecDepth 20000 in
theorem gX7_child_X4_push : GoodIn wsX7_child (wsV RX7 70 RX4 yX4_push wsX4_push) := goodIn_app (goodIn_of _ (by decide +kernel)) ggX7_child_X4_push
set_option maxRecDepth 20000 in
theorem ggX7_child_X5_addChild : GoodIn wsX7_child wsX5_addChild := goodIn_r _ [39, 40, 41, 42, 8, 43, 30, 44, 6, 7, 9, 10, 45, 46, 47, 48, 23, 49, 50, 51, 52, 34, 53, 54, 55, 56, 35, 33, 29, 57, 58, 59, 60, 61, 62, 63, 64, 32, 28, 73, 74, 75, 76, 77, 78, 79, 80, 81, 82] (by decide +kernel) (by decide +kernel)
set_option maxRecDepth 20000 in
theorem gX7_child_X5_addChild : GoodIn wsX7_child (wsV RX7 96 RX5 yX5_addChild wsX5_addChild) := goodIn_app (goodIn_of _ (by decide +kernel)) ggX7_child_X5_addChild
theorem dX7_child_0 : decode cX7_child 0 = .ok (.aload_n 0, 1) := by decide +kernel
theorem dX7_child_1 : decode cX7_child 1 = .ok (.getfield 10, 3) := by decide +kernel
theorem dX7_child_4 : decode cX7_child 4 = .ok (.iload_n 1, 1) := by decide +kernel
theorem dX7_child_5 : decode cX7_child 5 = .ok (.invokevirtual 91, 3) := by decide +kernel
theorem dX7_child_8 : decode cX7_child 8 = .ok (.ifCond .ne 13, 3) := by decide +kernel
theorem dX7_child_11 : decode cX7_child 11 = .ok (.new 63, 3) := by decide +kernel
theorem dX7_child_14 : decode cX7_child 14 = .ok (.dup, 1) := by decide +kernel
theorem dX7_child_15 : decode cX7_child 15 = .ok (.ldc 94, 2) := by decide +kernel
theorem dX7_child_17 : decode cX7_child 17 = .ok (.invokespecial 67, 3) := by decide +kernel
theorem dX7_child_20 : decode cX7_child 20 = .ok (.athrow, 1) := by decide +kernel
theorem dX7_child_21 : decode cX7_child 21 = .ok (.aload_n 0, 1) := by decide +kernel
theorem dX7_child_22 : decode cX7_child 22 = .ok (.getfield 27, 3) := by decide +kernel
theorem dX7_child_25 : decode cX7_child 25 = .ok (.aload_n 0, 1) := by decide +kernel
theorem dX7_child_26 : decode cX7_child 26 = .ok (.getfield 10, 3) := by decide +kernel
theorem dX7_child_29 : decode cX7_child 29 = .ok (.invokevirtual 70, 3) := by decide +kernel
theorem dX7_child_32 : decode cX7_child 32 = .ok (.aload_n 0, 1) := by decide +kernel
theorem dX7_child_33 : decode cX7_child 33 = .ok (.getfield 10, 3) := by decide +kernel
theorem dX7_child_36 : decode cX7_child 36 = .ok (.iload_n 1, 1) := by decide +kernel
theorem dX7_child_37 : decode cX7_child 37 = .ok (.invokevirtual 96, 3) := by decide +kernel
theorem dX7_child_40 : decode cX7_child 40 = .ok (.ireturn, 1) := by decide +kernel
set_option maxRecDepth 20000 in
theorem ggX7_swap_X7_isRow : GoodIn wsX7_swap wsX7_isRow := goodIn_r _ [10] (by decide +kernel) (by decide +kernel)
set_option maxRecDepth 20000 in
theorem gX7_swap_X7_isRow : GoodIn wsX7_swap (va_wsS RX7 59 yX7_isRow wsX7_isRow) := goodIn_app (goodIn_of _ (by decide +kernel)) ggX7_swap_X7_isRow
set_option maxRecDepth 20000 in
theorem ggX7_swap_X5_sizeOf : GoodIn wsX7_swap wsX5_sizeOf := goodIn_r _ [15, 16, 106, 107, 108, 109, 110, 111, 112, 113, 114, 115] (by decide +kernel) (by decide +kernel)
set_option maxRecDepth 20000 in
theorem gX7_swap_X5_sizeOf : GoodIn wsX7_swap (wsV RX7 100 RX5 yX5_sizeOf wsX5_sizeOf) := goodIn_app (goodIn_of _ (by decide +kernel)) ggX7_swap_X5_sizeOf
set_option maxRecDepth 20000 in
theorem ggX7_swap_X4_push : GoodIn wsX7_swap wsX4_push := goodIn_r _ [21, 22, 23, 24, 25, 26, 27, 14, 28, 29, 30, 31, 32, 33, 34, 35, 36, 37, 38, 16, 39, 40, 41, 116, 117, 118, 106, 107, 108, 109, 110, 111, 112, 113, 114, 115] (by decide +kernel) (by decide +kernel)
set_option maxRecDepth 20000 in
theorem gX7_swap_X4_push : GoodIn wsX7_swap (wsV RX7 70 RX4 yX4_push wsX4_push) := goodIn_app (goodIn_of _ (by decide +kernel)) ggX7_swap_X4_push
set_option maxRecDepth 20000 in
theorem ggX7_swap_X7_allCrossings : GoodIn wsX7_swap wsX7_allCrossings := goodIn_r _ [45, 46, 5, 47, 48, 49, 50, 51, 52, 53, 54, 55, 12, 13, 14, 15, 16, 56, 57, 58, 59, 38, 60, 61, 62, 63, 64, 65, 66, 67, 68, 35, 69, 70, 71, 72, 39, 73, 74, 75, 76, 36, 37, 77, 78, 79, 80, 40, 81, 82, 83, 84, 34, 85, 86, 87, 88, 98, 99, 100, 101, 102, 103, 104, 105, 119, 120, 121, 106, 107, 108, 109, 110, 111, 112, 113, 114, 115] (by decide +kernel) (by decide +kernel)
set_option maxRecDepth 20000 in
theorem gX7_swap_X7_allCrossings : GoodIn wsX7_swap (wsV RX7 105 RX7 yX7_allCrossings wsX7_allCrossings) := goodIn_app (goodIn_of _ (by decide +kernel)) ggX7_swap_X7_allCrossings
set_option maxRecDepth 20000 in
theorem ggX7_swap_X5_exchange : GoodIn wsX7_swap wsX5_exchange := goodIn_r _ [92, 93, 57, 58, 14, 59, 38, 60, 12, 13, 15, 16, 94, 95, 96, 97, 34, 69, 70, 71, 72, 39, 106, 107, 108, 109, 110, 111, 112, 113, 114, 115] (by decide +kernel) (by decide +kernel)
set_option maxRecDepth 20000 in
theorem gX7_swap_X5_exchange : GoodIn wsX7_swap (wsV RX7 109 RX5 yX5_exchange wsX5_exchange) := goodIn_app (goodIn_of _ (by decide +kernel)) ggX7_swap_X5_exchange
theorem dX7_swap_0 : decode cX7_swap 0 = .ok (.iload_n 1, 1) := by decide +kernel
theorem dX7_swap_1 : decode cX7_swap 1 = .ok (.invokestatic 59, 3) := by decide +kernel
theorem dX7_swap_4 : decode cX7_swap 4 = .ok (.ifCond .ne 13, 3) := by decide +kernel
theorem dX7_swap_7 : decode cX7_swap 7 = .ok (.new 63, 3) := by decide +kernel
theorem dX7_swap_10 : decode cX7_swap 10 = .ok (.dup, 1) := by decide +kernel
theorem dX7_swap_11 : decode cX7_swap 11 = .ok (.ldc 65, 2) := by decide +kernel
theorem dX7_swap_13 : decode cX7_swap 13 = .ok (.invokespecial 67, 3) := by decide +kernel
theorem dX7_swap_16 : decode cX7_swap 16 = .ok (.athrow, 1) := by decide +kernel
theorem dX7_swap_17 : decode cX7_swap 17 = .ok (.iload_n 2, 1) := by decide +kernel
theorem dX7_swap_18 : decode cX7_swap 18 = .ok (.ifCond .lt 17, 3) := by decide +kernel
theorem dX7_swap_21 : decode cX7_swap 21 = .ok (.iload_n 2, 1) := by decide +kernel
theorem dX7_swap_22 : decode cX7_swap 22 = .ok (.aload_n 0, 1) := by decide +kernel
theorem dX7_swap_23 : decode cX7_swap 23 = .ok (.getfield 10, 3) := by decide +kernel
theorem dX7_swap_26 : decode cX7_swap 26 = .ok (.iload_n 1, 1) := by decide +kernel
theorem dX7_swap_27 : decode cX7_swap 27 = .ok (.invokevirtual 100, 3) := by decide +kernel
theorem dX7_swap_30 : decode cX7_swap 30 = .ok (.iconst 1, 1) := by decide +kernel
theorem dX7_swap_31 : decode cX7_swap 31 = .ok (.isub, 1) := by decide +kernel
theorem dX7_swap_32 : decode cX7_swap 32 = .ok (.if_icmp .lt 13, 3) := by decide +kernel
theorem dX7_swap_35 : decode cX7_swap 35 = .ok (.new 83, 3) := by decide +kernel
theorem dX7_swap_38 : decode cX7_swap 38 = .ok (.dup, 1) := by decide +kernel
theorem dX7_swap_39 : decode cX7_swap 39 = .ok (.ldc 103, 2) := by decide +kernel
theorem dX7_swap_41 : decode cX7_swap 41 = .ok (.invokespecial 87, 3) := by decide +kernel
theorem dX7_swap_44 : decode cX7_swap 44 = .ok (.athrow, 1) := by decide +kernel
theorem dX7_swap_45 : decode cX7_swap 45 = .ok (.aload_n 0, 1) := by decide +kernel
theorem dX7_swap_46 : decode cX7_swap 46 = .ok (.getfield 27, 3) := by decide +kernel
theorem dX7_swap_49 : decode cX7_swap 49 = .ok (.aload_n 0, 1) := by decide +kernel
theorem dX7_swap_50 : decode cX7_swap 50 = .ok (.getfield 10, 3) := by decide +kernel
theorem dX7_swap_53 : decode cX7_swap 53 = .ok (.invokevirtual 70, 3) := by decide +kernel
theorem dX7_swap_56 : decode cX7_swap 56 = .ok (.aload_n 0, 1) := by decide +kernel
theorem dX7_swap_57 : decode cX7_swap 57 = .ok (.invokevirtual 105, 3) := by decide +kernel
theorem dX7_swap_60 : decode cX7_swap 60 = .ok (.istore_n 3, 1) := by decide +kernel
theorem dX7_swap_61 : decode cX7_swap 61 = .ok (.aload_n 0, 1) := by decide +kernel
theorem dX7_swap_62 : decode cX7_swap 62 = .ok (.getfield 10, 3) := by decide +kernel
theorem dX7_swap_65 : decode cX7_swap 65 = .ok (.iload_n 1, 1) := by decide +kernel
theorem dX7_swap_66 : decode cX7_swap 66 = .ok (.iload_n 2, 1) := by decide +kernel
theorem dX7_swap_67 : decode cX7_swap 67 = .ok (.invokevirtual 109, 3) := by decide +kernel
theorem dX7_swap_70 : decode cX7_swap 70 = .ok (.aload_n 0, 1) := by decide +kernel
theorem dX7_swap_71 : decode cX7_swap 71 = .ok (.invokevirtual 105, 3) := by decide +kernel
theorem dX7_swap_74 : decode cX7_swap 74 = .ok (.iload_n 3, 1) := by decide +kernel
theorem dX7_swap_75 : decode cX7_swap 75 = .ok (.isub, 1) := by decide +kernel
theorem dX7_swap_76 : decode cX7_swap 76 = .ok (.bipush 100, 2) := by decide +kernel
theorem dX7_swap_78 : decode cX7_swap 78 = .ok (.iadd, 1) := by decide +kernel
theorem dX7_swap_79 : decode cX7_swap 79 = .ok (.ireturn, 1) := by decide +kernel
set_option maxRecDepth 20000 in
theorem ggX7_byParents_X7_isRow : GoodIn wsX7_byParents wsX7_isRow := goodIn_r _ [9] (by decide +kernel) (by decide +kernel)
set_option maxRecDepth 20000 in
theorem gX7_byParents_X7_isRow : GoodIn wsX7_byParents (va_wsS RX7 59 yX7_isRow wsX7_isRow) := goodIn_app (goodIn_of _ (by decide +kernel)) ggX7_byParents_X7_isRow
set_option maxRecDepth 20000 in
theorem ggX7_byParents_X4_push : GoodIn wsX7_byParents wsX4_push := goodIn_r _ [14, 15, 16, 17, 18, 19, 20, 21, 22, 23, 24, 25, 26, 27, 28, 29, 30, 31, 32, 33, 34, 35, 36, 97, 98, 99, 100, 101, 102, 103, 104, 105, 106, 107, 108, 109] (by decide +kernel) (by decide +kernel)
set_option maxRecDepth 20000 in
theorem gX7_byParents_X4_push : GoodIn wsX7_byParents (wsV RX7 70 RX4 yX4_push wsX4_push) := goodIn_app (goodIn_of _ (by decide +kernel)) ggX7_byParents_X4_push
set_option maxRecDepth 20000 in
theorem ggX7_byParents_X1_lay : GoodIn wsX7_byParents wsX1_lay := goodIn_r _ [41, 42, 43, 44, 45, 46, 47, 48, 49, 50, 21, 51, 33, 52, 53, 54, 55, 32, 56, 57, 58, 59, 60, 61, 62, 63, 64, 29, 65, 66, 67, 68, 34, 69, 70, 71, 72, 30, 31, 73, 74, 75, 76, 35, 77, 78, 79, 80, 28, 81, 82, 83, 40, 84, 85, 86, 87, 88, 110, 111, 100, 101, 102, 103, 104, 105, 106, 107, 108, 109] (by decide +kernel) (by decide +kernel)
set_option maxRecDepth 20000 in
theorem gX7_byParents_X1_lay : GoodIn wsX7_byParents (wsV RX7 113 RX1 yX1_lay wsX1_lay) := goodIn_app (goodIn_of _ (by decide +kernel)) ggX7_byParents_X1_lay
theorem dX7_byParents_0 : decode cX7_byParents 0 = .ok (.iload_n 1, 1) := by decide +kernel
theorem dX7_byParents_1 : decode cX7_byParents 1 = .ok (.invokestatic 59, 3) := by decide +kernel
theorem dX7_byParents_4 : decode cX7_byParents 4 = .ok (.ifCond .ne 13, 3) := by decide +kernel
theorem dX7_byParents_7 : decode cX7_byParents 7 = .ok (.new 63, 3) := by decide +kernel
theorem dX7_byParents_10 : decode cX7_byParents 10 = .ok (.dup, 1) := by decide +kernel
theorem dX7_byParents_11 : decode cX7_byParents 11 = .ok (.ldc 65, 2) := by decide +kernel
theorem dX7_byParents_13 : decode cX7_byParents 13 = .ok (.invokespecial 67, 3) := by decide +kernel
theorem dX7_byParents_16 : decode cX7_byParents 16 = .ok (.athrow, 1) := by decide +kernel
theorem dX7_byParents_17 : decode cX7_byParents 17 = .ok (.aload_n 0, 1) := by decide +kernel
theorem dX7_byParents_18 : decode cX7_byParents 18 = .ok (.getfield 27, 3) := by decide +kernel
theorem dX7_byParents_21 : decode cX7_byParents 21 = .ok (.aload_n 0, 1) := by decide +kernel
theorem dX7_byParents_22 : decode cX7_byParents 22 = .ok (.getfield 10, 3) := by decide +kernel
theorem dX7_byParents_25 : decode cX7_byParents 25 = .ok (.invokevirtual 70, 3) := by decide +kernel
theorem dX7_byParents_28 : decode cX7_byParents 28 = .ok (.aload_n 0, 1) := by decide +kernel
theorem dX7_byParents_29 : decode cX7_byParents 29 = .ok (.getfield 48, 3) := by decide +kernel
theorem dX7_byParents_32 : decode cX7_byParents 32 = .ok (.aload_n 0, 1) := by decide +kernel
theorem dX7_byParents_33 : decode cX7_byParents 33 = .ok (.getfield 10, 3) := by decide +kernel
theorem dX7_byParents_36 : decode cX7_byParents 36 = .ok (.iload_n 1, 1) := by decide +kernel
theorem dX7_byParents_37 : decode cX7_byParents 37 = .ok (.invokevirtual 113, 3) := by decide +kernel
theorem dX7_byParents_40 : decode cX7_byParents 40 = .ok (.ireturn, 1) := by decide +kernel
set_option maxRecDepth 20000 in
theorem ggX7_untangle_X7_isRow : GoodIn wsX7_untangle wsX7_isRow := goodIn_r _ [9] (by decide +kernel) (by decide +kernel)
set_option maxRecDepth 20000 in
theorem gX7_untangle_X7_isRow : GoodIn wsX7_untangle (va_wsS RX7 59 yX7_isRow wsX7_isRow) := goodIn_app (goodIn_of _ (by decide +kernel)) ggX7_untangle_X7_isRow
set_option maxRecDepth 20000 in
theorem ggX7_untangle_X4_push : GoodIn wsX7_untangle wsX4_push := goodIn_r _ [14, 15, 16, 17, 18, 19, 20, 21, 22, 23, 24, 25, 26, 27, 28, 29, 30, 31, 32, 33, 34, 35, 36, 169, 170, 171, 172, 173, 174, 175, 176, 177, 178, 179, 180, 181] (by decide +kernel) (by decide +kernel)
set_option maxRecDepth 20000 in
theorem gX7_untangle_X4_push : GoodIn wsX7_untangle (wsV RX7 70 RX4 yX4_push wsX4_push) := goodIn_app (goodIn_of _ (by decide +kernel)) ggX7_untangle_X4_push
set_option maxRecDepth 20000 in
theorem ggX7_untangle_X3_prepare : GoodIn wsX7_untangle wsX3_prepare := goodIn_r _ [41, 42, 43, 44, 40, 45, 46, 47, 48, 49, 50, 21, 51, 34, 52, 53, 54, 55, 23, 56, 57, 58, 59, 60, 61, 62, 63, 64, 65, 66, 67, 68, 69, 70, 71, 72, 29, 73, 74, 75, 76, 30, 31, 77, 78, 79, 80, 35, 81, 82, 83, 84, 28, 85, 86, 87, 88, 89, 90, 91, 92, 93, 94, 33, 95, 96, 97, 98, 32, 99, 100, 101, 102, 103, 104, 105, 106, 107, 108, 109, 110, 111, 112, 113, 114, 115, 116, 117, 118, 119, 120, 182, 183, 184, 185, 186, 187, 188, 189, 190, 191, 192, 193, 194, 172, 173, 174, 175, 176, 177, 178, 179, 180, 181] (by decide +kernel) (by decide +kernel)
set_option maxRecDepth 20000 in
theorem gX7_untangle_X3_prepare : GoodIn wsX7_untangle (wsV RX7 117 RX3 yX3_prepare wsX3_prepare) := goodIn_app (goodIn_of _ (by decide +kernel)) ggX7_untangle_X3_prepare
set_option maxRecDepth 20000 in
theorem ggX7_untangle_X3_leastByAllOrders : GoodIn wsX7_untangle wsX3_leastByAllOrders := goodIn_r _ [124, 125, 46, 47, 126, 127, 25, 26, 27, 128, 129, 130, 40, 131, 64, 132, 133, 134, 135, 136, 137, 138, 139, 140, 141, 142, 143, 89, 106, 107, 144, 120, 145, 146, 147, 148, 149, 150, 151, 152, 182, 183, 184, 185, 186, 187, 188, 189, 190, 191, 192, 193, 194] (by decide +kernel) (by decide +kernel)
set_option maxRecDepth 20000 in
theorem gX7_untangle_X3_leastByAllOrders : GoodIn wsX7_untangle (wsV RX7 121 RX3 yX3_leastByAllOrders wsX3_leastByAllOrders) := goodIn_app (goodIn_of _ (by decide +kernel)) ggX7_untangle_X3_leastByAllOrders
set_option maxRecDepth 20000 in
theorem ggX7_untangle_X3_layBest : GoodIn wsX7_untangle wsX3_layBest := goodIn_r _ [156, 46, 126, 157, 158, 159, 21, 160, 32, 28, 56, 57, 58, 59, 34, 99, 92, 93, 94, 33, 182, 183, 184, 185, 186, 187, 188, 189, 190, 191, 192, 193, 194, 172, 173, 174, 175, 176, 177, 178, 179, 180, 181] (by decide +kernel) (by decide +kernel)
set_option maxRecDepth 20000 in
theorem gX7_untangle_X3_layBest : GoodIn wsX7_untangle (wsV RX7 124 RX3 yX3_layBest wsX3_layBest) := goodIn_app (goodIn_of _ (by decide +kernel)) ggX7_untangle_X3_layBest
theorem dX7_untangle_0 : decode cX7_untangle 0 = .ok (.iload_n 1, 1) := by decide +kernel
theorem dX7_untangle_1 : decode cX7_untangle 1 = .ok (.invokestatic 59, 3) := by decide +kernel
theorem dX7_untangle_4 : decode cX7_untangle 4 = .ok (.ifCond .ne 13, 3) := by decide +kernel
theorem dX7_untangle_7 : decode cX7_untangle 7 = .ok (.new 63, 3) := by decide +kernel
theorem dX7_untangle_10 : decode cX7_untangle 10 = .ok (.dup, 1) := by decide +kernel
theorem dX7_untangle_11 : decode cX7_untangle 11 = .ok (.ldc 65, 2) := by decide +kernel
theorem dX7_untangle_13 : decode cX7_untangle 13 = .ok (.invokespecial 67, 3) := by decide +kernel
theorem dX7_untangle_16 : decode cX7_untangle 16 = .ok (.athrow, 1) := by decide +kernel
theorem dX7_untangle_17 : decode cX7_untangle 17 = .ok (.aload_n 0, 1) := by decide +kernel
theorem dX7_untangle_18 : decode cX7_untangle 18 = .ok (.getfield 27, 3) := by decide +kernel
theorem dX7_untangle_21 : decode cX7_untangle 21 = .ok (.aload_n 0, 1) := by decide +kernel
theorem dX7_untangle_22 : decode cX7_untangle 22 = .ok (.getfield 10, 3) := by decide +kernel
theorem dX7_untangle_25 : decode cX7_untangle 25 = .ok (.invokevirtual 70, 3) := by decide +kernel
theorem dX7_untangle_28 : decode cX7_untangle 28 = .ok (.aload_n 0, 1) := by decide +kernel
theorem dX7_untangle_29 : decode cX7_untangle 29 = .ok (.getfield 55, 3) := by decide +kernel
theorem dX7_untangle_32 : decode cX7_untangle 32 = .ok (.aload_n 0, 1) := by decide +kernel
theorem dX7_untangle_33 : decode cX7_untangle 33 = .ok (.getfield 10, 3) := by decide +kernel
theorem dX7_untangle_36 : decode cX7_untangle 36 = .ok (.iload_n 1, 1) := by decide +kernel
theorem dX7_untangle_37 : decode cX7_untangle 37 = .ok (.invokevirtual 117, 3) := by decide +kernel
theorem dX7_untangle_40 : decode cX7_untangle 40 = .ok (.aload_n 0, 1) := by decide +kernel
theorem dX7_untangle_41 : decode cX7_untangle 41 = .ok (.getfield 55, 3) := by decide +kernel
theorem dX7_untangle_44 : decode cX7_untangle 44 = .ok (.invokevirtual 121, 3) := by decide +kernel
theorem dX7_untangle_47 : decode cX7_untangle 47 = .ok (.istore_n 2, 1) := by decide +kernel
theorem dX7_untangle_48 : decode cX7_untangle 48 = .ok (.aload_n 0, 1) := by decide +kernel
theorem dX7_untangle_49 : decode cX7_untangle 49 = .ok (.getfield 55, 3) := by decide +kernel
theorem dX7_untangle_52 : decode cX7_untangle 52 = .ok (.aload_n 0, 1) := by decide +kernel
theorem dX7_untangle_53 : decode cX7_untangle 53 = .ok (.getfield 10, 3) := by decide +kernel
theorem dX7_untangle_56 : decode cX7_untangle 56 = .ok (.iload_n 1, 1) := by decide +kernel
theorem dX7_untangle_57 : decode cX7_untangle 57 = .ok (.invokevirtual 124, 3) := by decide +kernel
theorem dX7_untangle_60 : decode cX7_untangle 60 = .ok (.iload_n 2, 1) := by decide +kernel
theorem dX7_untangle_61 : decode cX7_untangle 61 = .ok (.ireturn, 1) := by decide +kernel
set_option maxRecDepth 20000 in
theorem ggX7_personOf_X5_isPerson : GoodIn wsX7_personOf wsX5_isPerson := goodIn_r _ [10, 11, 85, 86, 87, 88, 89, 90, 91, 92, 93, 94] (by decide +kernel) (by decide +kernel)
set_option maxRecDepth 20000 in
theorem gX7_personOf_X5_isPerson : GoodIn wsX7_personOf (wsV RX7 78 RX5 yX5_isPerson wsX5_isPerson) := goodIn_app (goodIn_of _ (by decide +kernel)) ggX7_personOf_X5_isPerson
set_option maxRecDepth 20000 in
theorem ggX7_personOf_X5_rowOf : GoodIn wsX7_personOf wsX5_rowOf := goodIn_r _ [15, 16, 17, 7, 8, 9, 10, 11, 85, 86, 87, 88, 89, 90, 91, 92, 93, 94] (by decide +kernel) (by decide +kernel)
set_option maxRecDepth 20000 in
theorem gX7_personOf_X5_rowOf : GoodIn wsX7_personOf (wsV RX7 182 RX5 yX5_rowOf wsX5_rowOf) := goodIn_app (goodIn_of _ (by decide +kernel)) ggX7_personOf_X5_rowOf
set_option maxRecDepth 20000 in
theorem ggX7_personOf_X5_placeOf : GoodIn wsX7_personOf wsX5_placeOf := goodIn_r _ [21, 22, 17, 7, 8, 9, 10, 11, 85, 86, 87, 88, 89, 90, 91, 92, 93, 94] (by decide +kernel) (by decide +kernel)
set_option maxRecDepth 20000 in
theorem gX7_personOf_X5_placeOf : GoodIn wsX7_personOf (wsV RX7 185 RX5 yX5_placeOf wsX5_placeOf) := goodIn_app (goodIn_of _ (by decide +kernel)) ggX7_personOf_X5_placeOf
set_option maxRecDepth 20000 in
theorem ggX7_personOf_X5_parentsOf : GoodIn wsX7_personOf wsX5_parentsOf := goodIn_r _ [26, 27, 17, 7, 8, 9, 10, 11, 85, 86, 87, 88, 89, 90, 91, 92, 93, 94] (by decide +kernel) (by decide +kernel)
set_option maxRecDepth 20000 in
theorem gX7_personOf_X5_parentsOf : GoodIn wsX7_personOf (wsV RX7 188 RX5 yX5_parentsOf wsX5_parentsOf) := goodIn_app (goodIn_of _ (by decide +kernel)) ggX7_personOf_X5_parentsOf
set_option maxRecDepth 20000 in
theorem ggX7_personOf_X5_couplesWith : GoodIn wsX7_personOf wsX5_couplesWith := goodIn_r _ [31, 32, 33, 34, 85, 86, 87, 88, 89, 90, 91, 92, 93, 94] (by decide +kernel) (by decide +kernel)
set_option maxRecDepth 20000 in
theorem gX7_personOf_X5_couplesWith : GoodIn wsX7_personOf (wsV RX7 191 RX5 yX5_couplesWith wsX5_couplesWith) := goodIn_app (goodIn_of _ (by decide +kernel)) ggX7_personOf_X5_couplesWith
set_option maxRecDepth 20000 in
theorem ggX7_personOf_X5_childrenWith : GoodIn wsX7_personOf wsX5_childrenWith := goodIn_r _ [38, 32, 33, 34, 39, 40, 41, 9, 42, 11, 27, 85, 86, 87, 88, 89, 90, 91, 92, 93, 94] (by decide +kernel) (by decide +kernel)
set_option maxRecDepth 20000 in
theorem gX7_personOf_X5_childrenWith : GoodIn wsX7_personOf (wsV RX7 194 RX5 yX5_childrenWith wsX5_childrenWith) := goodIn_app (goodIn_of _ (by decide +kernel)) ggX7_personOf_X5_childrenWith
set_option maxRecDepth 20000 in
theorem ggX7_personOf_X0_descendants : GoodIn wsX7_personOf wsX0_descendants := goodIn_r _ [46, 47, 48, 49, 9, 50, 11, 51, 52, 45, 53, 54, 24, 25, 26, 27, 17, 7, 8, 10, 55, 56, 57, 58, 33, 59, 60, 61, 62, 32, 63, 64, 65, 66, 34, 85, 86, 87, 88, 89, 90, 91, 92, 93, 94] (by decide +kernel) (by decide +kernel)
set_option maxRecDepth 20000 in
theorem gX7_personOf_X0_descendants : GoodIn wsX7_personOf (va_wsS RX7 197 yX0_descendants wsX0_descendants) := goodIn_app (goodIn_of _ (by decide +kernel)) ggX7_personOf_X0_descendants
set_option maxRecDepth 20000 in
theorem ggX7_personOf_J6_bitCount_0f7a4 : GoodIn wsX7_personOf wsJ6_bitCount_0f7a4 := goodIn_r _ [70, 71, 72, 73] (by decide +kernel) (by decide +kernel)
set_option maxRecDepth 20000 in
theorem gX7_personOf_J6_bitCount_0f7a4 : GoodIn wsX7_personOf (va_wsS RX7 202 yJ6_bitCount_0f7a4 wsJ6_bitCount_0f7a4) := goodIn_app (goodIn_of _ (by decide +kernel)) ggX7_personOf_J6_bitCount_0f7a4
set_option maxRecDepth 20000 in
theorem ggX7_personOf_X0_ancestors : GoodIn wsX7_personOf wsX0_ancestors := goodIn_r _ [76, 51, 52, 45, 53, 54, 24, 25, 9, 26, 27, 17, 7, 8, 10, 11, 55, 56, 57, 58, 33, 59, 60, 61, 62, 32, 63, 64, 65, 66, 34, 85, 86, 87, 88, 89, 90, 91, 92, 93, 94] (by decide +kernel) (by decide +kernel)
set_option maxRecDepth 20000 in
theorem gX7_personOf_X0_ancestors : GoodIn wsX7_personOf (va_wsS RX7 207 yX0_ancestors wsX0_ancestors) := goodIn_app (goodIn_of _ (by decide +kernel)) ggX7_personOf_X0_ancestors
theorem dX7_personOf_0 : decode cX7_personOf 0 = .ok (.aload_n 0, 1) := by decide +kernel
theorem dX7_personOf_1 : decode cX7_personOf 1 = .ok (.getfield 10, 3) := by decide +kernel
theorem dX7_personOf_4 : decode cX7_personOf 4 = .ok (.iload_n 1, 1) := by decide +kernel
theorem dX7_personOf_5 : decode cX7_personOf 5 = .ok (.invokevirtual 78, 3) := by decide +kernel
theorem dX7_personOf_8 : decode cX7_personOf 8 = .ok (.ifCond .ne 13, 3) := by decide +kernel
theorem dX7_personOf_11 : decode cX7_personOf 11 = .ok (.new 63, 3) := by decide +kernel
theorem dX7_personOf_14 : decode cX7_personOf 14 = .ok (.dup, 1) := by decide +kernel
theorem dX7_personOf_15 : decode cX7_personOf 15 = .ok (.ldc 81, 2) := by decide +kernel
theorem dX7_personOf_17 : decode cX7_personOf 17 = .ok (.invokespecial 67, 3) := by decide +kernel
theorem dX7_personOf_20 : decode cX7_personOf 20 = .ok (.athrow, 1) := by decide +kernel
theorem dX7_personOf_21 : decode cX7_personOf 21 = .ok (.iload_n 2, 1) := by decide +kernel
theorem dX7_personOf_22 : decode cX7_personOf 22 = .ok (.tableswitch 111 0 6 #[42, 51, 60, 69, 78, 87, 99], 42) := by decide +kernel
theorem dX7_personOf_64 : decode cX7_personOf 64 = .ok (.aload_n 0, 1) := by decide +kernel
theorem dX7_personOf_65 : decode cX7_personOf 65 = .ok (.getfield 10, 3) := by decide +kernel
theorem dX7_personOf_68 : decode cX7_personOf 68 = .ok (.iload_n 1, 1) := by decide +kernel
theorem dX7_personOf_69 : decode cX7_personOf 69 = .ok (.invokevirtual 182, 3) := by decide +kernel
theorem dX7_personOf_72 : decode cX7_personOf 72 = .ok (.ireturn, 1) := by decide +kernel
theorem dX7_personOf_73 : decode cX7_personOf 73 = .ok (.aload_n 0, 1) := by decide +kernel
theorem dX7_personOf_74 : decode cX7_personOf 74 = .ok (.getfield 10, 3) := by decide +kernel
theorem dX7_personOf_77 : decode cX7_personOf 77 = .ok (.iload_n 1, 1) := by decide +kernel
theorem dX7_personOf_78 : decode cX7_personOf 78 = .ok (.invokevirtual 185, 3) := by decide +kernel
theorem dX7_personOf_81 : decode cX7_personOf 81 = .ok (.ireturn, 1) := by decide +kernel
theorem dX7_personOf_82 : decode cX7_personOf 82 = .ok (.aload_n 0, 1) := by decide +kernel
theorem dX7_personOf_83 : decode cX7_personOf 83 = .ok (.getfield 10, 3) := by decide +kernel
theorem dX7_personOf_86 : decode cX7_personOf 86 = .ok (.iload_n 1, 1) := by decide +kernel
theorem dX7_personOf_87 : decode cX7_personOf 87 = .ok (.invokevirtual 188, 3) := by decide +kernel
theorem dX7_personOf_90 : decode cX7_personOf 90 = .ok (.ireturn, 1) := by decide +kernel
theorem dX7_personOf_91 : decode cX7_personOf 91 = .ok (.aload_n 0, 1) := by decide +kernel
theorem dX7_personOf_92 : decode cX7_personOf 92 = .ok (.getfield 10, 3) := by decide +kernel
theorem dX7_personOf_95 : decode cX7_personOf 95 = .ok (.iload_n 1, 1) := by decide +kernel
theorem dX7_personOf_96 : decode cX7_personOf 96 = .ok (.invokevirtual 191, 3) := by decide +kernel
theorem dX7_personOf_99 : decode cX7_personOf 99 = .ok (.ireturn, 1) := by decide +kernel
theorem dX7_personOf_100 : decode cX7_personOf 100 = .ok (.aload_n 0, 1) := by decide +kernel
theorem dX7_personOf_101 : decode cX7_personOf 101 = .ok (.getfield 10, 3) := by decide +kernel
theorem dX7_personOf_104 : decode cX7_personOf 104 = .ok (.iload_n 1, 1) := by decide +kernel
theorem dX7_personOf_105 : decode cX7_personOf 105 = .ok (.invokevirtual 194, 3) := by decide +kernel
theorem dX7_personOf_108 : decode cX7_personOf 108 = .ok (.ireturn, 1) := by decide +kernel
theorem dX7_personOf_109 : decode cX7_personOf 109 = .ok (.aload_n 0, 1) := by decide +kernel
theorem dX7_personOf_110 : decode cX7_personOf 110 = .ok (.getfield 10, 3) := by decide +kernel
theorem dX7_personOf_113 : decode cX7_personOf 113 = .ok (.iload_n 1, 1) := by decide +kernel
theorem dX7_personOf_114 : decode cX7_personOf 114 = .ok (.invokestatic 197, 3) := by decide +kernel
theorem dX7_personOf_117 : decode cX7_personOf 117 = .ok (.invokestatic 202, 3) := by decide +kernel
theorem dX7_personOf_120 : decode cX7_personOf 120 = .ok (.ireturn, 1) := by decide +kernel
theorem dX7_personOf_121 : decode cX7_personOf 121 = .ok (.aload_n 0, 1) := by decide +kernel
theorem dX7_personOf_122 : decode cX7_personOf 122 = .ok (.getfield 10, 3) := by decide +kernel
theorem dX7_personOf_125 : decode cX7_personOf 125 = .ok (.iload_n 1, 1) := by decide +kernel
theorem dX7_personOf_126 : decode cX7_personOf 126 = .ok (.invokestatic 207, 3) := by decide +kernel
theorem dX7_personOf_129 : decode cX7_personOf 129 = .ok (.invokestatic 202, 3) := by decide +kernel
theorem dX7_personOf_132 : decode cX7_personOf 132 = .ok (.ireturn, 1) := by decide +kernel
theorem dX7_personOf_133 : decode cX7_personOf 133 = .ok (.new 83, 3) := by decide +kernel
theorem dX7_personOf_136 : decode cX7_personOf 136 = .ok (.dup, 1) := by decide +kernel
theorem dX7_personOf_137 : decode cX7_personOf 137 = .ok (.ldc 210, 2) := by decide +kernel
theorem dX7_personOf_139 : decode cX7_personOf 139 = .ok (.invokespecial 87, 3) := by decide +kernel
theorem dX7_personOf_142 : decode cX7_personOf 142 = .ok (.athrow, 1) := by decide +kernel
set_option maxRecDepth 20000 in
theorem ggX7_coupleOf_X5_isCouple : GoodIn wsX7_coupleOf wsX5_isCouple := goodIn_r _ [10, 11, 78, 79, 80, 81, 82, 83, 84, 85, 86, 87] (by decide +kernel) (by decide +kernel)
set_option maxRecDepth 20000 in
theorem gX7_coupleOf_X5_isCouple : GoodIn wsX7_coupleOf (wsV RX7 91 RX5 yX5_isCouple wsX5_isCouple) := goodIn_app (goodIn_of _ (by decide +kernel)) ggX7_coupleOf_X5_isCouple
end
section
set_option maxRecDepth 20000 in
theorem ggX7_coupleOf_X5_lesserOf : GoodIn wsX7_coupleOf wsX5_lesserOf := goodIn_r _ [15, 16, 17, 7, 8, 9, 10, 11, 78, 79, 80, 81, 82, 83, 84, 85, 86, 87] (by decide +kernel) (by decide +kernel)
set_option maxRecDepth 20000 in
theorem gX7_coupleOf_X5_lesserOf : GoodIn wsX7_coupleOf (wsV RX7 212 RX5 yX5_lesserOf wsX5_lesserOf) := goodIn_app (goodIn_of _ (by decide +kernel)) ggX7_coupleOf_X5_lesserOf
set_option maxRecDepth 20000 in
theorem ggX7_coupleOf_X5_greaterOf : GoodIn wsX7_coupleOf wsX5_greaterOf := goodIn_r _ [21, 22, 17, 7, 8, 9, 10, 11, 78, 79, 80, 81, 82, 83, 84, 85, 86, 87] (by decide +kernel) (by decide +kernel)
set_option maxRecDepth 20000 in
theorem gX7_coupleOf_X5_greaterOf : GoodIn wsX7_coupleOf (wsV RX7 215 RX5 yX5_greaterOf wsX5_greaterOf) := goodIn_app (goodIn_of _ (by decide +kernel)) ggX7_coupleOf_X5_greaterOf
set_option maxRecDepth 20000 in
theorem ggX7_coupleOf_X5_rowOf : GoodIn wsX7_coupleOf wsX5_rowOf := goodIn_r _ [26, 27, 28, 29, 30, 9, 31, 32, 78, 79, 80, 81, 82, 83, 84, 85, 86, 87] (by decide +kernel) (by decide +kernel)
set_option maxRecDepth 20000 in
theorem gX7_coupleOf_X5_rowOf : GoodIn wsX7_coupleOf (wsV RX7 182 RX5 yX5_rowOf wsX5_rowOf) := goodIn_app (goodIn_of _ (by decide +kernel)) ggX7_coupleOf_X5_rowOf
set_option maxRecDepth 20000 in
theorem ggX7_coupleOf_X5_middleOf : GoodIn wsX7_coupleOf wsX5_middleOf := goodIn_r _ [36, 16, 22, 17, 7, 8, 9, 10, 11, 37, 38, 39, 40, 41, 28, 29, 30, 31, 32, 78, 79, 80, 81, 82, 83, 84, 85, 86, 87] (by decide +kernel) (by decide +kernel)
set_option maxRecDepth 20000 in
theorem gX7_coupleOf_X5_middleOf : GoodIn wsX7_coupleOf (wsV RX7 218 RX5 yX5_middleOf wsX5_middleOf) := goodIn_app (goodIn_of _ (by decide +kernel)) ggX7_coupleOf_X5_middleOf
set_option maxRecDepth 20000 in
theorem ggX7_coupleOf_X5_childrenOf : GoodIn wsX7_coupleOf wsX5_childrenOf := goodIn_r _ [45, 32, 46, 78, 79, 80, 81, 82, 83, 84, 85, 86, 87] (by decide +kernel) (by decide +kernel)
set_option maxRecDepth 20000 in
theorem gX7_coupleOf_X5_childrenOf : GoodIn wsX7_coupleOf (wsV RX7 221 RX5 yX5_childrenOf wsX5_childrenOf) := goodIn_app (goodIn_of _ (by decide +kernel)) ggX7_coupleOf_X5_childrenOf
set_option maxRecDepth 20000 in
theorem ggX7_coupleOf_X0_commonAncestors : GoodIn wsX7_coupleOf wsX0_commonAncestors := goodIn_r _ [50, 51, 13, 14, 9, 15, 16, 17, 7, 8, 10, 11, 52, 53, 49, 54, 55, 56, 57, 58, 59, 60, 61, 46, 28, 29, 30, 31, 32, 62, 19, 20, 21, 22, 78, 79, 80, 81, 82, 83, 84, 85, 86, 87] (by decide +kernel) (by decide +kernel)
set_option maxRecDepth 20000 in
theorem gX7_coupleOf_X0_commonAncestors : GoodIn wsX7_coupleOf (va_wsS RX7 224 yX0_commonAncestors wsX0_commonAncestors) := goodIn_app (goodIn_of _ (by decide +kernel)) ggX7_coupleOf_X0_commonAncestors
set_option maxRecDepth 20000 in
theorem ggX7_coupleOf_J6_bitCount_0f7a4 : GoodIn wsX7_coupleOf wsJ6_bitCount_0f7a4 := goodIn_r _ [66, 67, 68, 69] (by decide +kernel) (by decide +kernel)
set_option maxRecDepth 20000 in
theorem gX7_coupleOf_J6_bitCount_0f7a4 : GoodIn wsX7_coupleOf (va_wsS RX7 202 yJ6_bitCount_0f7a4 wsJ6_bitCount_0f7a4) := goodIn_app (goodIn_of _ (by decide +kernel)) ggX7_coupleOf_J6_bitCount_0f7a4
theorem dX7_coupleOf_0 : decode cX7_coupleOf 0 = .ok (.aload_n 0, 1) := by decide +kernel
theorem dX7_coupleOf_1 : decode cX7_coupleOf 1 = .ok (.getfield 10, 3) := by decide +kernel
theorem dX7_coupleOf_4 : decode cX7_coupleOf 4 = .ok (.iload_n 1, 1) := by decide +kernel
theorem dX7_coupleOf_5 : decode cX7_coupleOf 5 = .ok (.invokevirtual 91, 3) := by decide +kernel
theorem dX7_coupleOf_8 : decode cX7_coupleOf 8 = .ok (.ifCond .ne 13, 3) := by decide +kernel
theorem dX7_coupleOf_11 : decode cX7_coupleOf 11 = .ok (.new 63, 3) := by decide +kernel
theorem dX7_coupleOf_14 : decode cX7_coupleOf 14 = .ok (.dup, 1) := by decide +kernel
theorem dX7_coupleOf_15 : decode cX7_coupleOf 15 = .ok (.ldc 94, 2) := by decide +kernel
theorem dX7_coupleOf_17 : decode cX7_coupleOf 17 = .ok (.invokespecial 67, 3) := by decide +kernel
theorem dX7_coupleOf_20 : decode cX7_coupleOf 20 = .ok (.athrow, 1) := by decide +kernel
theorem dX7_coupleOf_21 : decode cX7_coupleOf 21 = .ok (.iload_n 2, 1) := by decide +kernel
theorem dX7_coupleOf_22 : decode cX7_coupleOf 22 = .ok (.tableswitch 102 0 5 #[38, 47, 56, 72, 81, 90], 38) := by decide +kernel
theorem dX7_coupleOf_60 : decode cX7_coupleOf 60 = .ok (.aload_n 0, 1) := by decide +kernel
theorem dX7_coupleOf_61 : decode cX7_coupleOf 61 = .ok (.getfield 10, 3) := by decide +kernel
theorem dX7_coupleOf_64 : decode cX7_coupleOf 64 = .ok (.iload_n 1, 1) := by decide +kernel
theorem dX7_coupleOf_65 : decode cX7_coupleOf 65 = .ok (.invokevirtual 212, 3) := by decide +kernel
theorem dX7_coupleOf_68 : decode cX7_coupleOf 68 = .ok (.ireturn, 1) := by decide +kernel
theorem dX7_coupleOf_69 : decode cX7_coupleOf 69 = .ok (.aload_n 0, 1) := by decide +kernel
theorem dX7_coupleOf_70 : decode cX7_coupleOf 70 = .ok (.getfield 10, 3) := by decide +kernel
theorem dX7_coupleOf_73 : decode cX7_coupleOf 73 = .ok (.iload_n 1, 1) := by decide +kernel
theorem dX7_coupleOf_74 : decode cX7_coupleOf 74 = .ok (.invokevirtual 215, 3) := by decide +kernel
theorem dX7_coupleOf_77 : decode cX7_coupleOf 77 = .ok (.ireturn, 1) := by decide +kernel
theorem dX7_coupleOf_78 : decode cX7_coupleOf 78 = .ok (.aload_n 0, 1) := by decide +kernel
theorem dX7_coupleOf_79 : decode cX7_coupleOf 79 = .ok (.getfield 10, 3) := by decide +kernel
theorem dX7_coupleOf_82 : decode cX7_coupleOf 82 = .ok (.aload_n 0, 1) := by decide +kernel
theorem dX7_coupleOf_83 : decode cX7_coupleOf 83 = .ok (.getfield 10, 3) := by decide +kernel
theorem dX7_coupleOf_86 : decode cX7_coupleOf 86 = .ok (.iload_n 1, 1) := by decide +kernel
theorem dX7_coupleOf_87 : decode cX7_coupleOf 87 = .ok (.invokevirtual 212, 3) := by decide +kernel
theorem dX7_coupleOf_90 : decode cX7_coupleOf 90 = .ok (.invokevirtual 182, 3) := by decide +kernel
theorem dX7_coupleOf_93 : decode cX7_coupleOf 93 = .ok (.ireturn, 1) := by decide +kernel
theorem dX7_coupleOf_94 : decode cX7_coupleOf 94 = .ok (.aload_n 0, 1) := by decide +kernel
theorem dX7_coupleOf_95 : decode cX7_coupleOf 95 = .ok (.getfield 10, 3) := by decide +kernel
theorem dX7_coupleOf_98 : decode cX7_coupleOf 98 = .ok (.iload_n 1, 1) := by decide +kernel
theorem dX7_coupleOf_99 : decode cX7_coupleOf 99 = .ok (.invokevirtual 218, 3) := by decide +kernel
theorem dX7_coupleOf_102 : decode cX7_coupleOf 102 = .ok (.ireturn, 1) := by decide +kernel
theorem dX7_coupleOf_103 : decode cX7_coupleOf 103 = .ok (.aload_n 0, 1) := by decide +kernel
theorem dX7_coupleOf_104 : decode cX7_coupleOf 104 = .ok (.getfield 10, 3) := by decide +kernel
theorem dX7_coupleOf_107 : decode cX7_coupleOf 107 = .ok (.iload_n 1, 1) := by decide +kernel
theorem dX7_coupleOf_108 : decode cX7_coupleOf 108 = .ok (.invokevirtual 221, 3) := by decide +kernel
theorem dX7_coupleOf_111 : decode cX7_coupleOf 111 = .ok (.ireturn, 1) := by decide +kernel
theorem dX7_coupleOf_112 : decode cX7_coupleOf 112 = .ok (.aload_n 0, 1) := by decide +kernel
theorem dX7_coupleOf_113 : decode cX7_coupleOf 113 = .ok (.getfield 10, 3) := by decide +kernel
theorem dX7_coupleOf_116 : decode cX7_coupleOf 116 = .ok (.iload_n 1, 1) := by decide +kernel
theorem dX7_coupleOf_117 : decode cX7_coupleOf 117 = .ok (.invokestatic 224, 3) := by decide +kernel
theorem dX7_coupleOf_120 : decode cX7_coupleOf 120 = .ok (.invokestatic 202, 3) := by decide +kernel
theorem dX7_coupleOf_123 : decode cX7_coupleOf 123 = .ok (.ireturn, 1) := by decide +kernel
theorem dX7_coupleOf_124 : decode cX7_coupleOf 124 = .ok (.new 83, 3) := by decide +kernel
theorem dX7_coupleOf_127 : decode cX7_coupleOf 127 = .ok (.dup, 1) := by decide +kernel
theorem dX7_coupleOf_128 : decode cX7_coupleOf 128 = .ok (.ldc 227, 2) := by decide +kernel
theorem dX7_coupleOf_130 : decode cX7_coupleOf 130 = .ok (.invokespecial 87, 3) := by decide +kernel
theorem dX7_coupleOf_133 : decode cX7_coupleOf 133 = .ok (.athrow, 1) := by decide +kernel
set_option maxRecDepth 20000 in
theorem ggX7_at_X7_isRow : GoodIn wsX7_at wsX7_isRow := goodIn_r _ [9] (by decide +kernel) (by decide +kernel)
set_option maxRecDepth 20000 in
theorem gX7_at_X7_isRow : GoodIn wsX7_at (va_wsS RX7 59 yX7_isRow wsX7_isRow) := goodIn_app (goodIn_of _ (by decide +kernel)) ggX7_at_X7_isRow
set_option maxRecDepth 20000 in
theorem ggX7_at_X5_personAt : GoodIn wsX7_at wsX5_personAt := goodIn_r _ [14, 15, 16, 17, 18, 13, 19, 20, 29, 30, 31, 32, 33, 34, 35, 36, 37, 38] (by decide +kernel) (by decide +kernel)
set_option maxRecDepth 20000 in
theorem gX7_at_X5_personAt : GoodIn wsX7_at (wsV RX7 231 RX5 yX5_personAt wsX5_personAt) := goodIn_app (goodIn_of _ (by decide +kernel)) ggX7_at_X5_personAt
theorem dX7_at_0 : decode cX7_at 0 = .ok (.iload_n 1, 1) := by decide +kernel
theorem dX7_at_1 : decode cX7_at 1 = .ok (.invokestatic 59, 3) := by decide +kernel
theorem dX7_at_4 : decode cX7_at 4 = .ok (.ifCond .ne 13, 3) := by decide +kernel
theorem dX7_at_7 : decode cX7_at 7 = .ok (.new 63, 3) := by decide +kernel
theorem dX7_at_10 : decode cX7_at 10 = .ok (.dup, 1) := by decide +kernel
theorem dX7_at_11 : decode cX7_at 11 = .ok (.ldc 65, 2) := by decide +kernel
theorem dX7_at_13 : decode cX7_at 13 = .ok (.invokespecial 67, 3) := by decide +kernel
theorem dX7_at_16 : decode cX7_at 16 = .ok (.athrow, 1) := by decide +kernel
theorem dX7_at_17 : decode cX7_at 17 = .ok (.iload_n 2, 1) := by decide +kernel
theorem dX7_at_18 : decode cX7_at 18 = .ok (.ifCond .ge 13, 3) := by decide +kernel
theorem dX7_at_21 : decode cX7_at 21 = .ok (.new 83, 3) := by decide +kernel
theorem dX7_at_24 : decode cX7_at 24 = .ok (.dup, 1) := by decide +kernel
theorem dX7_at_25 : decode cX7_at 25 = .ok (.ldc 229, 2) := by decide +kernel
theorem dX7_at_27 : decode cX7_at 27 = .ok (.invokespecial 87, 3) := by decide +kernel
theorem dX7_at_30 : decode cX7_at 30 = .ok (.athrow, 1) := by decide +kernel
theorem dX7_at_31 : decode cX7_at 31 = .ok (.aload_n 0, 1) := by decide +kernel
theorem dX7_at_32 : decode cX7_at 32 = .ok (.getfield 10, 3) := by decide +kernel
theorem dX7_at_35 : decode cX7_at 35 = .ok (.iload_n 1, 1) := by decide +kernel
theorem dX7_at_36 : decode cX7_at 36 = .ok (.iload_n 2, 1) := by decide +kernel
theorem dX7_at_37 : decode cX7_at 37 = .ok (.invokevirtual 231, 3) := by decide +kernel
theorem dX7_at_40 : decode cX7_at 40 = .ok (.ireturn, 1) := by decide +kernel
set_option maxRecDepth 20000 in
theorem ggX7_crossings_X7_isRow : GoodIn wsX7_crossings wsX7_isRow := goodIn_r _ [10] (by decide +kernel) (by decide +kernel)
set_option maxRecDepth 20000 in
theorem gX7_crossings_X7_isRow : GoodIn wsX7_crossings (va_wsS RX7 59 yX7_isRow wsX7_isRow) := goodIn_app (goodIn_of _ (by decide +kernel)) ggX7_crossings_X7_isRow
set_option maxRecDepth 20000 in
theorem ggX7_crossings_X2_collect : GoodIn wsX7_crossings wsX2_collect := goodIn_r _ [15, 16, 17, 18, 19, 20, 21, 22, 23, 24, 25, 26, 27, 28, 29, 30, 31, 32, 33, 34, 35, 36, 37, 38, 39, 40, 41, 42, 43, 44, 45, 46, 47, 48, 49, 50, 51, 52, 53, 54, 55, 56, 57, 58, 59, 60, 81, 82, 83, 84, 85, 86, 87, 88, 89, 90, 91, 92, 93] (by decide +kernel) (by decide +kernel)
set_option maxRecDepth 20000 in
theorem gX7_crossings_X2_collect : GoodIn wsX7_crossings (wsV RX7 236 RX2 yX2_collect wsX2_collect) := goodIn_app (goodIn_of _ (by decide +kernel)) ggX7_crossings_X2_collect
set_option maxRecDepth 20000 in
theorem ggX7_crossings_X2_crossedPairs : GoodIn wsX7_crossings wsX2_crossedPairs := goodIn_r _ [64, 16, 17, 81, 82, 83] (by decide +kernel) (by decide +kernel)
set_option maxRecDepth 20000 in
theorem gX7_crossings_X2_crossedPairs : GoodIn wsX7_crossings (wsV RX7 239 RX2 yX2_crossedPairs wsX2_crossedPairs) := goodIn_app (goodIn_of _ (by decide +kernel)) ggX7_crossings_X2_crossedPairs
set_option maxRecDepth 20000 in
theorem ggX7_crossings_X2_crossedOneByOne : GoodIn wsX7_crossings wsX2_crossedOneByOne := goodIn_r _ [68, 16, 17, 18, 69, 70, 71, 14, 72, 81, 82, 83] (by decide +kernel) (by decide +kernel)
set_option maxRecDepth 20000 in
theorem gX7_crossings_X2_crossedOneByOne : GoodIn wsX7_crossings (wsV RX7 242 RX2 yX2_crossedOneByOne wsX2_crossedOneByOne) := goodIn_app (goodIn_of _ (by decide +kernel)) ggX7_crossings_X2_crossedOneByOne
theorem dX7_crossings_0 : decode cX7_crossings 0 = .ok (.iload_n 1, 1) := by decide +kernel
theorem dX7_crossings_1 : decode cX7_crossings 1 = .ok (.invokestatic 59, 3) := by decide +kernel
theorem dX7_crossings_4 : decode cX7_crossings 4 = .ok (.ifCond .ne 13, 3) := by decide +kernel
theorem dX7_crossings_7 : decode cX7_crossings 7 = .ok (.new 63, 3) := by decide +kernel
theorem dX7_crossings_10 : decode cX7_crossings 10 = .ok (.dup, 1) := by decide +kernel
theorem dX7_crossings_11 : decode cX7_crossings 11 = .ok (.ldc 65, 2) := by decide +kernel
theorem dX7_crossings_13 : decode cX7_crossings 13 = .ok (.invokespecial 67, 3) := by decide +kernel
theorem dX7_crossings_16 : decode cX7_crossings 16 = .ok (.athrow, 1) := by decide +kernel
theorem dX7_crossings_17 : decode cX7_crossings 17 = .ok (.iload_n 2, 1) := by decide +kernel
theorem dX7_crossings_18 : decode cX7_crossings 18 = .ok (.ifCond .eq 18, 3) := by decide +kernel
theorem dX7_crossings_21 : decode cX7_crossings 21 = .ok (.iload_n 2, 1) := by decide +kernel
theorem dX7_crossings_22 : decode cX7_crossings 22 = .ok (.iconst 1, 1) := by decide +kernel
theorem dX7_crossings_23 : decode cX7_crossings 23 = .ok (.if_icmp .eq 13, 3) := by decide +kernel
theorem dX7_crossings_26 : decode cX7_crossings 26 = .ok (.new 83, 3) := by decide +kernel
theorem dX7_crossings_29 : decode cX7_crossings 29 = .ok (.dup, 1) := by decide +kernel
theorem dX7_crossings_30 : decode cX7_crossings 30 = .ok (.ldc 234, 2) := by decide +kernel
theorem dX7_crossings_32 : decode cX7_crossings 32 = .ok (.invokespecial 87, 3) := by decide +kernel
theorem dX7_crossings_35 : decode cX7_crossings 35 = .ok (.athrow, 1) := by decide +kernel
theorem dX7_crossings_36 : decode cX7_crossings 36 = .ok (.aload_n 0, 1) := by decide +kernel
theorem dX7_crossings_37 : decode cX7_crossings 37 = .ok (.getfield 41, 3) := by decide +kernel
theorem dX7_crossings_40 : decode cX7_crossings 40 = .ok (.aload_n 0, 1) := by decide +kernel
theorem dX7_crossings_41 : decode cX7_crossings 41 = .ok (.getfield 10, 3) := by decide +kernel
theorem dX7_crossings_44 : decode cX7_crossings 44 = .ok (.iload_n 1, 1) := by decide +kernel
theorem dX7_crossings_45 : decode cX7_crossings 45 = .ok (.invokevirtual 236, 3) := by decide +kernel
theorem dX7_crossings_48 : decode cX7_crossings 48 = .ok (.iload_n 2, 1) := by decide +kernel
theorem dX7_crossings_49 : decode cX7_crossings 49 = .ok (.ifCond .ne 13, 3) := by decide +kernel
theorem dX7_crossings_52 : decode cX7_crossings 52 = .ok (.aload_n 0, 1) := by decide +kernel
theorem dX7_crossings_53 : decode cX7_crossings 53 = .ok (.getfield 41, 3) := by decide +kernel
theorem dX7_crossings_56 : decode cX7_crossings 56 = .ok (.invokevirtual 239, 3) := by decide +kernel
theorem dX7_crossings_59 : decode cX7_crossings 59 = .ok (.goto 10, 3) := by decide +kernel
theorem dX7_crossings_62 : decode cX7_crossings 62 = .ok (.aload_n 0, 1) := by decide +kernel
theorem dX7_crossings_63 : decode cX7_crossings 63 = .ok (.getfield 41, 3) := by decide +kernel
theorem dX7_crossings_66 : decode cX7_crossings 66 = .ok (.invokevirtual 242, 3) := by decide +kernel
theorem dX7_crossings_69 : decode cX7_crossings 69 = .ok (.ireturn, 1) := by decide +kernel
set_option maxRecDepth 20000 in
theorem ggX7_count_X5_people : GoodIn wsX7_count wsX5_people := goodIn_r _ [9, 10, 140, 141, 142, 143, 144, 145, 146, 147, 148, 149] (by decide +kernel) (by decide +kernel)
set_option maxRecDepth 20000 in
theorem gX7_count_X5_people : GoodIn wsX7_count (wsV RX7 169 RX5 yX5_people wsX5_people) := goodIn_app (goodIn_of _ (by decide +kernel)) ggX7_count_X5_people
set_option maxRecDepth 20000 in
theorem ggX7_count_X5_couples : GoodIn wsX7_count wsX5_couples := goodIn_r _ [14, 15, 140, 141, 142, 143, 144, 145, 146, 147, 148, 149] (by decide +kernel) (by decide +kernel)
set_option maxRecDepth 20000 in
theorem gX7_count_X5_couples : GoodIn wsX7_count (wsV RX7 245 RX5 yX5_couples wsX5_couples) := goodIn_app (goodIn_of _ (by decide +kernel)) ggX7_count_X5_couples
set_option maxRecDepth 20000 in
theorem ggX7_count_X5_lines : GoodIn wsX7_count wsX5_lines := goodIn_r _ [19, 10, 20, 21, 22, 8, 23, 24, 140, 141, 142, 143, 144, 145, 146, 147, 148, 149] (by decide +kernel) (by decide +kernel)
set_option maxRecDepth 20000 in
theorem gX7_count_X5_lines : GoodIn wsX7_count (wsV RX7 248 RX5 yX5_lines wsX5_lines) := goodIn_app (goodIn_of _ (by decide +kernel)) ggX7_count_X5_lines
set_option maxRecDepth 20000 in
theorem ggX7_count_X7_allCrossings : GoodIn wsX7_count wsX7_allCrossings := goodIn_r _ [29, 30, 3, 31, 32, 33, 34, 35, 36, 37, 38, 39, 40, 41, 8, 42, 43, 44, 45, 46, 47, 48, 49, 50, 51, 52, 53, 54, 55, 56, 57, 24, 58, 59, 60, 61, 10, 62, 63, 64, 65, 66, 67, 68, 69, 70, 71, 15, 72, 73, 74, 75, 76, 77, 78, 79, 80, 132, 133, 134, 135, 136, 137, 138, 139, 150, 151, 152, 140, 141, 142, 143, 144, 145, 146, 147, 148, 149] (by decide +kernel) (by decide +kernel)
set_option maxRecDepth 20000 in
theorem gX7_count_X7_allCrossings : GoodIn wsX7_count (wsV RX7 105 RX7 yX7_allCrossings wsX7_allCrossings) := goodIn_app (goodIn_of _ (by decide +kernel)) ggX7_count_X7_allCrossings
set_option maxRecDepth 20000 in
theorem ggX7_count_X5_bentLines : GoodIn wsX7_count wsX5_bentLines := goodIn_r _ [84, 10, 24, 76, 85, 51, 52, 8, 53, 54, 55, 56, 57, 58, 59, 60, 61, 62, 63, 64, 65, 66, 67, 68, 69, 70, 71, 15, 72, 73, 74, 75, 140, 141, 142, 143, 144, 145, 146, 147, 148, 149] (by decide +kernel) (by decide +kernel)
set_option maxRecDepth 20000 in
theorem gX7_count_X5_bentLines : GoodIn wsX7_count (wsV RX7 250 RX5 yX5_bentLines wsX5_bentLines) := goodIn_app (goodIn_of _ (by decide +kernel)) ggX7_count_X5_bentLines
set_option maxRecDepth 20000 in
theorem ggX7_count_X5_doubles : GoodIn wsX7_count wsX5_doubles := goodIn_r _ [89, 10, 90, 91, 92, 8, 93, 94, 95, 96, 97, 15, 66, 67, 140, 141, 142, 143, 144, 145, 146, 147, 148, 149] (by decide +kernel) (by decide +kernel)
set_option maxRecDepth 20000 in
theorem gX7_count_X5_doubles : GoodIn wsX7_count (wsV RX7 253 RX5 yX5_doubles wsX5_doubles) := goodIn_app (goodIn_of _ (by decide +kernel)) ggX7_count_X5_doubles
set_option maxRecDepth 20000 in
theorem ggX7_count_X0_kinCouples : GoodIn wsX7_count wsX0_kinCouples := goodIn_r _ [101, 102, 12, 13, 8, 14, 15, 103, 104, 100, 105, 106, 107, 108, 109, 66, 68, 69, 70, 71, 110, 111, 112, 113, 114, 115, 116, 55, 56, 57, 24, 58, 59, 60, 61, 10, 117, 118, 119, 120, 67, 140, 141, 142, 143, 144, 145, 146, 147, 148, 149] (by decide +kernel) (by decide +kernel)
set_option maxRecDepth 20000 in
theorem gX7_count_X0_kinCouples : GoodIn wsX7_count (va_wsS RX7 256 yX0_kinCouples wsX0_kinCouples) := goodIn_app (goodIn_of _ (by decide +kernel)) ggX7_count_X0_kinCouples
set_option maxRecDepth 20000 in
theorem ggX7_count_X5_refused : GoodIn wsX7_count wsX5_refused := goodIn_r _ [124, 125, 140, 141, 142, 143, 144, 145, 146, 147, 148, 149] (by decide +kernel) (by decide +kernel)
set_option maxRecDepth 20000 in
theorem gX7_count_X5_refused : GoodIn wsX7_count (wsV RX7 260 RX5 yX5_refused wsX5_refused) := goodIn_app (goodIn_of _ (by decide +kernel)) ggX7_count_X5_refused
set_option maxRecDepth 20000 in
theorem ggX7_count_X4_size : GoodIn wsX7_count wsX4_size := goodIn_r _ [130, 131, 153, 154, 155] (by decide +kernel) (by decide +kernel)
set_option maxRecDepth 20000 in
theorem gX7_count_X4_size : GoodIn wsX7_count (wsV RX7 174 RX4 yX4_size wsX4_size) := goodIn_app (goodIn_of _ (by decide +kernel)) ggX7_count_X4_size
theorem dX7_count_0 : decode cX7_count 0 = .ok (.iload_n 1, 1) := by decide +kernel
theorem dX7_count_1 : decode cX7_count 1 = .ok (.tableswitch 120 0 8 #[51, 59, 67, 75, 80, 88, 96, 104, 112], 51) := by decide +kernel
theorem dX7_count_52 : decode cX7_count 52 = .ok (.aload_n 0, 1) := by decide +kernel
theorem dX7_count_53 : decode cX7_count 53 = .ok (.getfield 10, 3) := by decide +kernel
theorem dX7_count_56 : decode cX7_count 56 = .ok (.invokevirtual 169, 3) := by decide +kernel
theorem dX7_count_59 : decode cX7_count 59 = .ok (.ireturn, 1) := by decide +kernel
theorem dX7_count_60 : decode cX7_count 60 = .ok (.aload_n 0, 1) := by decide +kernel
theorem dX7_count_61 : decode cX7_count 61 = .ok (.getfield 10, 3) := by decide +kernel
theorem dX7_count_64 : decode cX7_count 64 = .ok (.invokevirtual 245, 3) := by decide +kernel
theorem dX7_count_67 : decode cX7_count 67 = .ok (.ireturn, 1) := by decide +kernel
theorem dX7_count_68 : decode cX7_count 68 = .ok (.aload_n 0, 1) := by decide +kernel
theorem dX7_count_69 : decode cX7_count 69 = .ok (.getfield 10, 3) := by decide +kernel
theorem dX7_count_72 : decode cX7_count 72 = .ok (.invokevirtual 248, 3) := by decide +kernel
theorem dX7_count_75 : decode cX7_count 75 = .ok (.ireturn, 1) := by decide +kernel
theorem dX7_count_76 : decode cX7_count 76 = .ok (.aload_n 0, 1) := by decide +kernel
theorem dX7_count_77 : decode cX7_count 77 = .ok (.invokevirtual 105, 3) := by decide +kernel
theorem dX7_count_80 : decode cX7_count 80 = .ok (.ireturn, 1) := by decide +kernel
theorem dX7_count_81 : decode cX7_count 81 = .ok (.aload_n 0, 1) := by decide +kernel
theorem dX7_count_82 : decode cX7_count 82 = .ok (.getfield 10, 3) := by decide +kernel
theorem dX7_count_85 : decode cX7_count 85 = .ok (.invokevirtual 250, 3) := by decide +kernel
theorem dX7_count_88 : decode cX7_count 88 = .ok (.ireturn, 1) := by decide +kernel
theorem dX7_count_89 : decode cX7_count 89 = .ok (.aload_n 0, 1) := by decide +kernel
theorem dX7_count_90 : decode cX7_count 90 = .ok (.getfield 10, 3) := by decide +kernel
theorem dX7_count_93 : decode cX7_count 93 = .ok (.invokevirtual 253, 3) := by decide +kernel
theorem dX7_count_96 : decode cX7_count 96 = .ok (.ireturn, 1) := by decide +kernel
theorem dX7_count_97 : decode cX7_count 97 = .ok (.aload_n 0, 1) := by decide +kernel
theorem dX7_count_98 : decode cX7_count 98 = .ok (.getfield 10, 3) := by decide +kernel
theorem dX7_count_101 : decode cX7_count 101 = .ok (.invokestatic 256, 3) := by decide +kernel
theorem dX7_count_104 : decode cX7_count 104 = .ok (.ireturn, 1) := by decide +kernel
theorem dX7_count_105 : decode cX7_count 105 = .ok (.aload_n 0, 1) := by decide +kernel
theorem dX7_count_106 : decode cX7_count 106 = .ok (.getfield 10, 3) := by decide +kernel
theorem dX7_count_109 : decode cX7_count 109 = .ok (.invokevirtual 260, 3) := by decide +kernel
theorem dX7_count_112 : decode cX7_count 112 = .ok (.ireturn, 1) := by decide +kernel
theorem dX7_count_113 : decode cX7_count 113 = .ok (.aload_n 0, 1) := by decide +kernel
theorem dX7_count_114 : decode cX7_count 114 = .ok (.getfield 27, 3) := by decide +kernel
theorem dX7_count_117 : decode cX7_count 117 = .ok (.invokevirtual 174, 3) := by decide +kernel
theorem dX7_count_120 : decode cX7_count 120 = .ok (.ireturn, 1) := by decide +kernel
theorem dX7_count_121 : decode cX7_count 121 = .ok (.new 83, 3) := by decide +kernel
theorem dX7_count_124 : decode cX7_count 124 = .ok (.dup, 1) := by decide +kernel
theorem dX7_count_125 : decode cX7_count 125 = .ok (.ldc_w 263, 3) := by decide +kernel
theorem dX7_count_128 : decode cX7_count 128 = .ok (.invokespecial 87, 3) := by decide +kernel
theorem dX7_count_131 : decode cX7_count 131 = .ok (.athrow, 1) := by decide +kernel
set_option maxRecDepth 20000 in
theorem ggX7_least_X7_isRow : GoodIn wsX7_least wsX7_isRow := goodIn_r _ [10] (by decide +kernel) (by decide +kernel)
set_option maxRecDepth 20000 in
theorem gX7_least_X7_isRow : GoodIn wsX7_least (va_wsS RX7 59 yX7_isRow wsX7_isRow) := goodIn_app (goodIn_of _ (by decide +kernel)) ggX7_least_X7_isRow
set_option maxRecDepth 20000 in
theorem ggX7_least_X3_prepare : GoodIn wsX7_least wsX3_prepare := goodIn_r _ [15, 16, 17, 18, 14, 19, 20, 21, 22, 23, 24, 25, 26, 27, 28, 29, 30, 31, 32, 33, 34, 35, 36, 37, 38, 39, 40, 41, 42, 43, 44, 45, 46, 47, 48, 49, 50, 51, 52, 53, 54, 55, 56, 57, 58, 59, 60, 61, 62, 63, 64, 65, 66, 67, 68, 69, 70, 71, 72, 73, 74, 75, 76, 77, 78, 79, 80, 81, 82, 83, 84, 85, 86, 87, 88, 89, 90, 91, 92, 93, 94, 95, 96, 97, 98, 99, 100, 101, 102, 103, 104, 155, 156, 157, 158, 159, 160, 161, 162, 163, 164, 165, 166, 167, 168, 169, 170, 171, 172, 173, 174, 175, 176, 177] (by decide +kernel) (by decide +kernel)
set_option maxRecDepth 20000 in
theorem gX7_least_X3_prepare : GoodIn wsX7_least (wsV RX7 117 RX3 yX3_prepare wsX3_prepare) := goodIn_app (goodIn_of _ (by decide +kernel)) ggX7_least_X3_prepare
set_option maxRecDepth 20000 in
theorem ggX7_least_X3_leastByAllOrders : GoodIn wsX7_least wsX3_leastByAllOrders := goodIn_r _ [108, 109, 20, 21, 110, 111, 112, 113, 114, 115, 116, 117, 14, 118, 41, 119, 120, 121, 122, 123, 124, 125, 126, 127, 128, 129, 130, 71, 90, 91, 131, 104, 132, 133, 134, 135, 136, 137, 138, 139, 155, 156, 157, 158, 159, 160, 161, 162, 163, 164, 165, 166, 167] (by decide +kernel) (by decide +kernel)
set_option maxRecDepth 20000 in
theorem gX7_least_X3_leastByAllOrders : GoodIn wsX7_least (wsV RX7 121 RX3 yX3_leastByAllOrders wsX3_leastByAllOrders) := goodIn_app (goodIn_of _ (by decide +kernel)) ggX7_least_X3_leastByAllOrders
set_option maxRecDepth 20000 in
theorem ggX7_least_X3_leastByLaying : GoodIn wsX7_least wsX3_leastByLaying := goodIn_r _ [143, 109, 144, 145, 14, 146, 20, 115, 116, 117, 118, 21, 41, 119, 120, 121, 122, 123, 124, 125, 126, 127, 128, 129, 130, 71, 90, 91, 131, 104, 136, 137, 138, 139, 155, 156, 157, 158, 159, 160, 161, 162, 163, 164, 165, 166, 167] (by decide +kernel) (by decide +kernel)
set_option maxRecDepth 20000 in
theorem gX7_least_X3_leastByLaying : GoodIn wsX7_least (wsV RX7 265 RX3 yX3_leastByLaying wsX3_leastByLaying) := goodIn_app (goodIn_of _ (by decide +kernel)) ggX7_least_X3_leastByLaying
theorem dX7_least_0 : decode cX7_least 0 = .ok (.iload_n 1, 1) := by decide +kernel
theorem dX7_least_1 : decode cX7_least 1 = .ok (.invokestatic 59, 3) := by decide +kernel
theorem dX7_least_4 : decode cX7_least 4 = .ok (.ifCond .ne 13, 3) := by decide +kernel
theorem dX7_least_7 : decode cX7_least 7 = .ok (.new 63, 3) := by decide +kernel
theorem dX7_least_10 : decode cX7_least 10 = .ok (.dup, 1) := by decide +kernel
theorem dX7_least_11 : decode cX7_least 11 = .ok (.ldc 65, 2) := by decide +kernel
theorem dX7_least_13 : decode cX7_least 13 = .ok (.invokespecial 67, 3) := by decide +kernel
theorem dX7_least_16 : decode cX7_least 16 = .ok (.athrow, 1) := by decide +kernel
theorem dX7_least_17 : decode cX7_least 17 = .ok (.iload_n 2, 1) := by decide +kernel
theorem dX7_least_18 : decode cX7_least 18 = .ok (.ifCond .eq 18, 3) := by decide +kernel
theorem dX7_least_21 : decode cX7_least 21 = .ok (.iload_n 2, 1) := by decide +kernel
theorem dX7_least_22 : decode cX7_least 22 = .ok (.iconst 1, 1) := by decide +kernel
theorem dX7_least_23 : decode cX7_least 23 = .ok (.if_icmp .eq 13, 3) := by decide +kernel
theorem dX7_least_26 : decode cX7_least 26 = .ok (.new 83, 3) := by decide +kernel
theorem dX7_least_29 : decode cX7_least 29 = .ok (.dup, 1) := by decide +kernel
theorem dX7_least_30 : decode cX7_least 30 = .ok (.ldc 234, 2) := by decide +kernel
theorem dX7_least_32 : decode cX7_least 32 = .ok (.invokespecial 87, 3) := by decide +kernel
theorem dX7_least_35 : decode cX7_least 35 = .ok (.athrow, 1) := by decide +kernel
theorem dX7_least_36 : decode cX7_least 36 = .ok (.aload_n 0, 1) := by decide +kernel
theorem dX7_least_37 : decode cX7_least 37 = .ok (.getfield 55, 3) := by decide +kernel
theorem dX7_least_40 : decode cX7_least 40 = .ok (.aload_n 0, 1) := by decide +kernel
theorem dX7_least_41 : decode cX7_least 41 = .ok (.getfield 10, 3) := by decide +kernel
theorem dX7_least_44 : decode cX7_least 44 = .ok (.iload_n 1, 1) := by decide +kernel
theorem dX7_least_45 : decode cX7_least 45 = .ok (.invokevirtual 117, 3) := by decide +kernel
theorem dX7_least_48 : decode cX7_least 48 = .ok (.iload_n 2, 1) := by decide +kernel
theorem dX7_least_49 : decode cX7_least 49 = .ok (.ifCond .ne 13, 3) := by decide +kernel
theorem dX7_least_52 : decode cX7_least 52 = .ok (.aload_n 0, 1) := by decide +kernel
theorem dX7_least_53 : decode cX7_least 53 = .ok (.getfield 55, 3) := by decide +kernel
theorem dX7_least_56 : decode cX7_least 56 = .ok (.invokevirtual 121, 3) := by decide +kernel
theorem dX7_least_59 : decode cX7_least 59 = .ok (.goto 10, 3) := by decide +kernel
theorem dX7_least_62 : decode cX7_least 62 = .ok (.aload_n 0, 1) := by decide +kernel
theorem dX7_least_63 : decode cX7_least 63 = .ok (.getfield 55, 3) := by decide +kernel
theorem dX7_least_66 : decode cX7_least 66 = .ok (.invokevirtual 265, 3) := by decide +kernel
theorem dX7_least_69 : decode cX7_least 69 = .ok (.ireturn, 1) := by decide +kernel
set_option maxRecDepth 20000 in
theorem ggX7_bestSwap_X7_allCrossings : GoodIn wsX7_bestSwap wsX7_allCrossings := goodIn_r _ [6, 7, 1, 8, 9, 10, 11, 12, 13, 14, 15, 16, 17, 18, 19, 20, 21, 22, 23, 24, 25, 26, 27, 28, 29, 30, 31, 32, 33, 34, 35, 36, 37, 38, 39, 40, 41, 42, 43, 44, 45, 46, 47, 48, 49, 50, 51, 52, 53, 54, 55, 56, 57, 58, 59, 60, 61, 72, 73, 74, 75, 76, 77, 78, 79, 80, 81, 82, 83, 84, 85, 86, 87, 88, 89, 90, 91, 92] (by decide +kernel) (by decide +kernel)
set_option maxRecDepth 20000 in
theorem gX7_bestSwap_X7_allCrossings : GoodIn wsX7_bestSwap (wsV RX7 105 RX7 yX7_allCrossings wsX7_allCrossings) := goodIn_app (goodIn_of _ (by decide +kernel)) ggX7_bestSwap_X7_allCrossings
set_option maxRecDepth 20000 in
theorem ggX7_bestSwap_X5_sizeOf : GoodIn wsX7_bestSwap wsX5_sizeOf := goodIn_r _ [20, 21, 83, 84, 85, 86, 87, 88, 89, 90, 91, 92] (by decide +kernel) (by decide +kernel)
set_option maxRecDepth 20000 in
theorem gX7_bestSwap_X5_sizeOf : GoodIn wsX7_bestSwap (wsV RX7 100 RX5 yX5_sizeOf wsX5_sizeOf) := goodIn_app (goodIn_of _ (by decide +kernel)) ggX7_bestSwap_X5_sizeOf
set_option maxRecDepth 20000 in
theorem ggX7_bestSwap_X5_exchange : GoodIn wsX7_bestSwap wsX5_exchange := goodIn_r _ [66, 67, 23, 24, 19, 25, 26, 27, 17, 18, 20, 21, 68, 69, 70, 71, 57, 37, 38, 39, 40, 41, 83, 84, 85, 86, 87, 88, 89, 90, 91, 92] (by decide +kernel) (by decide +kernel)
set_option maxRecDepth 20000 in
theorem gX7_bestSwap_X5_exchange : GoodIn wsX7_bestSwap (wsV RX7 109 RX5 yX5_exchange wsX5_exchange) := goodIn_app (goodIn_of _ (by decide +kernel)) ggX7_bestSwap_X5_exchange
theorem dX7_bestSwap_0 : decode cX7_bestSwap 0 = .ok (.aload_n 0, 1) := by decide +kernel
theorem dX7_bestSwap_1 : decode cX7_bestSwap 1 = .ok (.invokevirtual 105, 3) := by decide +kernel
theorem dX7_bestSwap_4 : decode cX7_bestSwap 4 = .ok (.istore_n 1, 1) := by decide +kernel
theorem dX7_bestSwap_5 : decode cX7_bestSwap 5 = .ok (.iconst (-1), 1) := by decide +kernel
theorem dX7_bestSwap_6 : decode cX7_bestSwap 6 = .ok (.istore_n 2, 1) := by decide +kernel
theorem dX7_bestSwap_7 : decode cX7_bestSwap 7 = .ok (.iconst 0, 1) := by decide +kernel
theorem dX7_bestSwap_8 : decode cX7_bestSwap 8 = .ok (.istore_n 3, 1) := by decide +kernel
theorem dX7_bestSwap_9 : decode cX7_bestSwap 9 = .ok (.iload_n 3, 1) := by decide +kernel
theorem dX7_bestSwap_10 : decode cX7_bestSwap 10 = .ok (.iconst 4, 1) := by decide +kernel
theorem dX7_bestSwap_11 : decode cX7_bestSwap 11 = .ok (.if_icmp .ge 76, 3) := by decide +kernel
theorem dX7_bestSwap_14 : decode cX7_bestSwap 14 = .ok (.iconst 0, 1) := by decide +kernel
theorem dX7_bestSwap_15 : decode cX7_bestSwap 15 = .ok (.istore 4, 2) := by decide +kernel
theorem dX7_bestSwap_17 : decode cX7_bestSwap 17 = .ok (.iload 4, 2) := by decide +kernel
theorem dX7_bestSwap_19 : decode cX7_bestSwap 19 = .ok (.aload_n 0, 1) := by decide +kernel
theorem dX7_bestSwap_20 : decode cX7_bestSwap 20 = .ok (.getfield 10, 3) := by decide +kernel
theorem dX7_bestSwap_23 : decode cX7_bestSwap 23 = .ok (.iload_n 3, 1) := by decide +kernel
theorem dX7_bestSwap_24 : decode cX7_bestSwap 24 = .ok (.invokevirtual 100, 3) := by decide +kernel
theorem dX7_bestSwap_27 : decode cX7_bestSwap 27 = .ok (.iconst 1, 1) := by decide +kernel
theorem dX7_bestSwap_28 : decode cX7_bestSwap 28 = .ok (.isub, 1) := by decide +kernel
theorem dX7_bestSwap_29 : decode cX7_bestSwap 29 = .ok (.if_icmp .ge 52, 3) := by decide +kernel
theorem dX7_bestSwap_32 : decode cX7_bestSwap 32 = .ok (.aload_n 0, 1) := by decide +kernel
theorem dX7_bestSwap_33 : decode cX7_bestSwap 33 = .ok (.getfield 10, 3) := by decide +kernel
theorem dX7_bestSwap_36 : decode cX7_bestSwap 36 = .ok (.iload_n 3, 1) := by decide +kernel
theorem dX7_bestSwap_37 : decode cX7_bestSwap 37 = .ok (.iload 4, 2) := by decide +kernel
theorem dX7_bestSwap_39 : decode cX7_bestSwap 39 = .ok (.invokevirtual 109, 3) := by decide +kernel
theorem dX7_bestSwap_42 : decode cX7_bestSwap 42 = .ok (.aload_n 0, 1) := by decide +kernel
theorem dX7_bestSwap_43 : decode cX7_bestSwap 43 = .ok (.invokevirtual 105, 3) := by decide +kernel
theorem dX7_bestSwap_46 : decode cX7_bestSwap 46 = .ok (.istore 5, 2) := by decide +kernel
theorem dX7_bestSwap_48 : decode cX7_bestSwap 48 = .ok (.aload_n 0, 1) := by decide +kernel
theorem dX7_bestSwap_49 : decode cX7_bestSwap 49 = .ok (.getfield 10, 3) := by decide +kernel
theorem dX7_bestSwap_52 : decode cX7_bestSwap 52 = .ok (.iload_n 3, 1) := by decide +kernel
theorem dX7_bestSwap_53 : decode cX7_bestSwap 53 = .ok (.iload 4, 2) := by decide +kernel
theorem dX7_bestSwap_55 : decode cX7_bestSwap 55 = .ok (.invokevirtual 109, 3) := by decide +kernel
theorem dX7_bestSwap_58 : decode cX7_bestSwap 58 = .ok (.iload 5, 2) := by decide +kernel
theorem dX7_bestSwap_60 : decode cX7_bestSwap 60 = .ok (.iload_n 1, 1) := by decide +kernel
theorem dX7_bestSwap_61 : decode cX7_bestSwap 61 = .ok (.if_icmp .ge 14, 3) := by decide +kernel
theorem dX7_bestSwap_64 : decode cX7_bestSwap 64 = .ok (.iload 5, 2) := by decide +kernel
theorem dX7_bestSwap_66 : decode cX7_bestSwap 66 = .ok (.istore_n 1, 1) := by decide +kernel
theorem dX7_bestSwap_67 : decode cX7_bestSwap 67 = .ok (.bipush 10, 2) := by decide +kernel
theorem dX7_bestSwap_69 : decode cX7_bestSwap 69 = .ok (.iload_n 3, 1) := by decide +kernel
theorem dX7_bestSwap_70 : decode cX7_bestSwap 70 = .ok (.imul, 1) := by decide +kernel
theorem dX7_bestSwap_71 : decode cX7_bestSwap 71 = .ok (.iload 4, 2) := by decide +kernel
theorem dX7_bestSwap_73 : decode cX7_bestSwap 73 = .ok (.iadd, 1) := by decide +kernel
theorem dX7_bestSwap_74 : decode cX7_bestSwap 74 = .ok (.istore_n 2, 1) := by decide +kernel
theorem dX7_bestSwap_75 : decode cX7_bestSwap 75 = .ok (.iinc 4 1, 3) := by decide +kernel
theorem dX7_bestSwap_78 : decode cX7_bestSwap 78 = .ok (.goto (-61), 3) := by decide +kernel
theorem dX7_bestSwap_81 : decode cX7_bestSwap 81 = .ok (.iinc 3 1, 3) := by decide +kernel
theorem dX7_bestSwap_84 : decode cX7_bestSwap 84 = .ok (.goto (-75), 3) := by decide +kernel
theorem dX7_bestSwap_87 : decode cX7_bestSwap 87 = .ok (.iload_n 2, 1) := by decide +kernel
theorem dX7_bestSwap_88 : decode cX7_bestSwap 88 = .ok (.ireturn, 1) := by decide +kernel
set_option maxRecDepth 20000 in
theorem ggX7_nearness_X5_isPerson : GoodIn wsX7_nearness wsX5_isPerson := goodIn_r _ [8, 9, 58, 59, 60, 61, 62, 63, 64, 65, 66, 67] (by decide +kernel) (by decide +kernel)
set_option maxRecDepth 20000 in
theorem gX7_nearness_X5_isPerson : GoodIn wsX7_nearness (wsV RX7 78 RX5 yX5_isPerson wsX5_isPerson) := goodIn_app (goodIn_of _ (by decide +kernel)) ggX7_nearness_X5_isPerson
set_option maxRecDepth 20000 in
theorem ggX7_nearness_X0_fewestLines : GoodIn wsX7_nearness wsX0_fewestLines := goodIn_r _ [13, 14, 15, 12, 16, 17, 18, 19, 20, 21, 22, 7, 23, 24, 25, 5, 6, 8, 9, 26, 27, 28, 29, 30, 31, 32, 33, 34, 35, 36, 37, 38, 39, 40, 41, 42, 43, 44, 45, 46, 47, 48, 49, 58, 59, 60, 61, 62, 63, 64, 65, 66, 67] (by decide +kernel) (by decide +kernel)
set_option maxRecDepth 20000 in
theorem gX7_nearness_X0_fewestLines : GoodIn wsX7_nearness (va_wsS RX7 268 yX0_fewestLines wsX0_fewestLines) := goodIn_app (goodIn_of _ (by decide +kernel)) ggX7_nearness_X0_fewestLines
theorem dX7_nearness_0 : decode cX7_nearness 0 = .ok (.aload_n 0, 1) := by decide +kernel
theorem dX7_nearness_1 : decode cX7_nearness 1 = .ok (.getfield 10, 3) := by decide +kernel
theorem dX7_nearness_4 : decode cX7_nearness 4 = .ok (.iload_n 1, 1) := by decide +kernel
theorem dX7_nearness_5 : decode cX7_nearness 5 = .ok (.invokevirtual 78, 3) := by decide +kernel
theorem dX7_nearness_8 : decode cX7_nearness 8 = .ok (.ifCond .eq 14, 3) := by decide +kernel
theorem dX7_nearness_11 : decode cX7_nearness 11 = .ok (.aload_n 0, 1) := by decide +kernel
theorem dX7_nearness_12 : decode cX7_nearness 12 = .ok (.getfield 10, 3) := by decide +kernel
theorem dX7_nearness_15 : decode cX7_nearness 15 = .ok (.iload_n 2, 1) := by decide +kernel
theorem dX7_nearness_16 : decode cX7_nearness 16 = .ok (.invokevirtual 78, 3) := by decide +kernel
theorem dX7_nearness_19 : decode cX7_nearness 19 = .ok (.ifCond .ne 13, 3) := by decide +kernel
theorem dX7_nearness_22 : decode cX7_nearness 22 = .ok (.new 63, 3) := by decide +kernel
theorem dX7_nearness_25 : decode cX7_nearness 25 = .ok (.dup, 1) := by decide +kernel
theorem dX7_nearness_26 : decode cX7_nearness 26 = .ok (.ldc 81, 2) := by decide +kernel
theorem dX7_nearness_28 : decode cX7_nearness 28 = .ok (.invokespecial 67, 3) := by decide +kernel
theorem dX7_nearness_31 : decode cX7_nearness 31 = .ok (.athrow, 1) := by decide +kernel
theorem dX7_nearness_32 : decode cX7_nearness 32 = .ok (.aload_n 0, 1) := by decide +kernel
theorem dX7_nearness_33 : decode cX7_nearness 33 = .ok (.getfield 10, 3) := by decide +kernel
theorem dX7_nearness_36 : decode cX7_nearness 36 = .ok (.iload_n 1, 1) := by decide +kernel
theorem dX7_nearness_37 : decode cX7_nearness 37 = .ok (.iload_n 2, 1) := by decide +kernel
theorem dX7_nearness_38 : decode cX7_nearness 38 = .ok (.invokestatic 268, 3) := by decide +kernel
theorem dX7_nearness_41 : decode cX7_nearness 41 = .ok (.ireturn, 1) := by decide +kernel
set_option maxRecDepth 20000 in
theorem ggX7_straightShare_X5_lines : GoodIn wsX7_straightShare wsX5_lines := goodIn_r _ [6, 7, 8, 9, 10, 5, 11, 12, 53, 54, 55, 56, 57, 58, 59, 60, 61, 62] (by decide +kernel) (by decide +kernel)
set_option maxRecDepth 20000 in
theorem gX7_straightShare_X5_lines : GoodIn wsX7_straightShare (wsV RX7 248 RX5 yX5_lines wsX5_lines) := goodIn_app (goodIn_of _ (by decide +kernel)) ggX7_straightShare_X5_lines
set_option maxRecDepth 20000 in
theorem ggX7_straightShare_X5_bentLines : GoodIn wsX7_straightShare wsX5_bentLines := goodIn_r _ [16, 7, 12, 17, 18, 19, 20, 5, 21, 22, 23, 24, 25, 26, 27, 28, 29, 30, 31, 32, 33, 34, 35, 36, 37, 38, 39, 40, 41, 42, 43, 44, 53, 54, 55, 56, 57, 58, 59, 60, 61, 62] (by decide +kernel) (by decide +kernel)
set_option maxRecDepth 20000 in
theorem gX7_straightShare_X5_bentLines : GoodIn wsX7_straightShare (wsV RX7 250 RX5 yX5_bentLines wsX5_bentLines) := goodIn_app (goodIn_of _ (by decide +kernel)) ggX7_straightShare_X5_bentLines
theorem dX7_straightShare_0 : decode cX7_straightShare 0 = .ok (.aload_n 0, 1) := by decide +kernel
theorem dX7_straightShare_1 : decode cX7_straightShare 1 = .ok (.getfield 10, 3) := by decide +kernel
theorem dX7_straightShare_4 : decode cX7_straightShare 4 = .ok (.invokevirtual 248, 3) := by decide +kernel
theorem dX7_straightShare_7 : decode cX7_straightShare 7 = .ok (.istore_n 1, 1) := by decide +kernel
theorem dX7_straightShare_8 : decode cX7_straightShare 8 = .ok (.iload_n 1, 1) := by decide +kernel
theorem dX7_straightShare_9 : decode cX7_straightShare 9 = .ok (.ifCond .ne 5, 3) := by decide +kernel
theorem dX7_straightShare_12 : decode cX7_straightShare 12 = .ok (.dconst 1, 1) := by decide +kernel
theorem dX7_straightShare_13 : decode cX7_straightShare 13 = .ok (.dreturn, 1) := by decide +kernel
theorem dX7_straightShare_14 : decode cX7_straightShare 14 = .ok (.iload_n 1, 1) := by decide +kernel
theorem dX7_straightShare_15 : decode cX7_straightShare 15 = .ok (.aload_n 0, 1) := by decide +kernel
theorem dX7_straightShare_16 : decode cX7_straightShare 16 = .ok (.getfield 10, 3) := by decide +kernel
theorem dX7_straightShare_19 : decode cX7_straightShare 19 = .ok (.invokevirtual 250, 3) := by decide +kernel
theorem dX7_straightShare_22 : decode cX7_straightShare 22 = .ok (.isub, 1) := by decide +kernel
theorem dX7_straightShare_23 : decode cX7_straightShare 23 = .ok (.i2d, 1) := by decide +kernel
theorem dX7_straightShare_24 : decode cX7_straightShare 24 = .ok (.iload_n 1, 1) := by decide +kernel
theorem dX7_straightShare_25 : decode cX7_straightShare 25 = .ok (.i2d, 1) := by decide +kernel
theorem dX7_straightShare_26 : decode cX7_straightShare 26 = .ok (.ddiv, 1) := by decide +kernel
theorem dX7_straightShare_27 : decode cX7_straightShare 27 = .ok (.dreturn, 1) := by decide +kernel
theorem dX7_isRow_0 : decode cX7_isRow 0 = .ok (.iload_n 0, 1) := by decide +kernel
theorem dX7_isRow_1 : decode cX7_isRow 1 = .ok (.ifCond .lt 12, 3) := by decide +kernel
theorem dX7_isRow_4 : decode cX7_isRow 4 = .ok (.iload_n 0, 1) := by decide +kernel
theorem dX7_isRow_5 : decode cX7_isRow 5 = .ok (.iconst 4, 1) := by decide +kernel
theorem dX7_isRow_6 : decode cX7_isRow 6 = .ok (.if_icmp .ge 7, 3) := by decide +kernel
theorem dX7_isRow_9 : decode cX7_isRow 9 = .ok (.iconst 1, 1) := by decide +kernel
theorem dX7_isRow_10 : decode cX7_isRow 10 = .ok (.goto 4, 3) := by decide +kernel
theorem dX7_isRow_13 : decode cX7_isRow 13 = .ok (.iconst 0, 1) := by decide +kernel
theorem dX7_isRow_14 : decode cX7_isRow 14 = .ok (.ireturn, 1) := by decide +kernel
set_option maxRecDepth 20000 in
theorem ggX7_allCrossings_X2_collect : GoodIn wsX7_allCrossings wsX2_collect := goodIn_r _ [7, 8, 9, 10, 11, 12, 13, 14, 15, 16, 17, 18, 19, 20, 21, 22, 23, 24, 25, 26, 27, 28, 29, 30, 31, 32, 33, 34, 35, 36, 37, 38, 39, 40, 41, 42, 43, 44, 45, 46, 47, 48, 49, 50, 51, 52, 65, 66, 67, 68, 69, 70, 71, 72, 73, 74, 75, 76, 77] (by decide +kernel) (by decide +kernel)
set_option maxRecDepth 20000 in
theorem gX7_allCrossings_X2_collect : GoodIn wsX7_allCrossings (wsV RX7 236 RX2 yX2_collect wsX2_collect) := goodIn_app (goodIn_of _ (by decide +kernel)) ggX7_allCrossings_X2_collect
set_option maxRecDepth 20000 in
theorem ggX7_allCrossings_X2_crossedPairs : GoodIn wsX7_allCrossings wsX2_crossedPairs := goodIn_r _ [56, 8, 9, 65, 66, 67] (by decide +kernel) (by decide +kernel)
set_option maxRecDepth 20000 in
theorem gX7_allCrossings_X2_crossedPairs : GoodIn wsX7_allCrossings (wsV RX7 239 RX2 yX2_crossedPairs wsX2_crossedPairs) := goodIn_app (goodIn_of _ (by decide +kernel)) ggX7_allCrossings_X2_crossedPairs
theorem dX7_allCrossings_0 : decode cX7_allCrossings 0 = .ok (.iconst 0, 1) := by decide +kernel
theorem dX7_allCrossings_1 : decode cX7_allCrossings 1 = .ok (.istore_n 1, 1) := by decide +kernel
theorem dX7_allCrossings_2 : decode cX7_allCrossings 2 = .ok (.iconst 0, 1) := by decide +kernel
theorem dX7_allCrossings_3 : decode cX7_allCrossings 3 = .ok (.istore_n 2, 1) := by decide +kernel
theorem dX7_allCrossings_4 : decode cX7_allCrossings 4 = .ok (.iload_n 2, 1) := by decide +kernel
theorem dX7_allCrossings_5 : decode cX7_allCrossings 5 = .ok (.iconst 4, 1) := by decide +kernel
theorem dX7_allCrossings_6 : decode cX7_allCrossings 6 = .ok (.if_icmp .ge 31, 3) := by decide +kernel
theorem dX7_allCrossings_9 : decode cX7_allCrossings 9 = .ok (.aload_n 0, 1) := by decide +kernel
theorem dX7_allCrossings_10 : decode cX7_allCrossings 10 = .ok (.getfield 41, 3) := by decide +kernel
theorem dX7_allCrossings_13 : decode cX7_allCrossings 13 = .ok (.aload_n 0, 1) := by decide +kernel
theorem dX7_allCrossings_14 : decode cX7_allCrossings 14 = .ok (.getfield 10, 3) := by decide +kernel
theorem dX7_allCrossings_17 : decode cX7_allCrossings 17 = .ok (.iload_n 2, 1) := by decide +kernel
theorem dX7_allCrossings_18 : decode cX7_allCrossings 18 = .ok (.invokevirtual 236, 3) := by decide +kernel
theorem dX7_allCrossings_21 : decode cX7_allCrossings 21 = .ok (.iload_n 1, 1) := by decide +kernel
theorem dX7_allCrossings_22 : decode cX7_allCrossings 22 = .ok (.aload_n 0, 1) := by decide +kernel
theorem dX7_allCrossings_23 : decode cX7_allCrossings 23 = .ok (.getfield 41, 3) := by decide +kernel
theorem dX7_allCrossings_26 : decode cX7_allCrossings 26 = .ok (.invokevirtual 239, 3) := by decide +kernel
theorem dX7_allCrossings_29 : decode cX7_allCrossings 29 = .ok (.iadd, 1) := by decide +kernel
theorem dX7_allCrossings_30 : decode cX7_allCrossings 30 = .ok (.istore_n 1, 1) := by decide +kernel
theorem dX7_allCrossings_31 : decode cX7_allCrossings 31 = .ok (.iinc 2 1, 3) := by decide +kernel
theorem dX7_allCrossings_34 : decode cX7_allCrossings 34 = .ok (.goto (-30), 3) := by decide +kernel
theorem dX7_allCrossings_37 : decode cX7_allCrossings 37 = .ok (.iload_n 1, 1) := by decide +kernel
theorem dX7_allCrossings_38 : decode cX7_allCrossings 38 = .ok (.ireturn, 1) := by decide +kernel
theorem dJ6_bitCount_0f7a4_0 : decode cJ6_bitCount_0f7a4 0 = .ok (.iload_n 0, 1) := by decide +kernel
theorem dJ6_bitCount_0f7a4_1 : decode cJ6_bitCount_0f7a4 1 = .ok (.iload_n 0, 1) := by decide +kernel
theorem dJ6_bitCount_0f7a4_2 : decode cJ6_bitCount_0f7a4 2 = .ok (.iconst 1, 1) := by decide +kernel
theorem dJ6_bitCount_0f7a4_3 : decode cJ6_bitCount_0f7a4 3 = .ok (.iushr, 1) := by decide +kernel
theorem dJ6_bitCount_0f7a4_4 : decode cJ6_bitCount_0f7a4 4 = .ok (.ldc_w 265, 3) := by decide +kernel
theorem dJ6_bitCount_0f7a4_7 : decode cJ6_bitCount_0f7a4 7 = .ok (.iand, 1) := by decide +kernel
theorem dJ6_bitCount_0f7a4_8 : decode cJ6_bitCount_0f7a4 8 = .ok (.isub, 1) := by decide +kernel
theorem dJ6_bitCount_0f7a4_9 : decode cJ6_bitCount_0f7a4 9 = .ok (.istore_n 0, 1) := by decide +kernel
theorem dJ6_bitCount_0f7a4_10 : decode cJ6_bitCount_0f7a4 10 = .ok (.iload_n 0, 1) := by decide +kernel
theorem dJ6_bitCount_0f7a4_11 : decode cJ6_bitCount_0f7a4 11 = .ok (.ldc_w 266, 3) := by decide +kernel
theorem dJ6_bitCount_0f7a4_14 : decode cJ6_bitCount_0f7a4 14 = .ok (.iand, 1) := by decide +kernel
theorem dJ6_bitCount_0f7a4_15 : decode cJ6_bitCount_0f7a4 15 = .ok (.iload_n 0, 1) := by decide +kernel
theorem dJ6_bitCount_0f7a4_16 : decode cJ6_bitCount_0f7a4 16 = .ok (.iconst 2, 1) := by decide +kernel
theorem dJ6_bitCount_0f7a4_17 : decode cJ6_bitCount_0f7a4 17 = .ok (.iushr, 1) := by decide +kernel
theorem dJ6_bitCount_0f7a4_18 : decode cJ6_bitCount_0f7a4 18 = .ok (.ldc_w 266, 3) := by decide +kernel
theorem dJ6_bitCount_0f7a4_21 : decode cJ6_bitCount_0f7a4 21 = .ok (.iand, 1) := by decide +kernel
theorem dJ6_bitCount_0f7a4_22 : decode cJ6_bitCount_0f7a4 22 = .ok (.iadd, 1) := by decide +kernel
theorem dJ6_bitCount_0f7a4_23 : decode cJ6_bitCount_0f7a4 23 = .ok (.istore_n 0, 1) := by decide +kernel
theorem dJ6_bitCount_0f7a4_24 : decode cJ6_bitCount_0f7a4 24 = .ok (.iload_n 0, 1) := by decide +kernel
theorem dJ6_bitCount_0f7a4_25 : decode cJ6_bitCount_0f7a4 25 = .ok (.iload_n 0, 1) := by decide +kernel
theorem dJ6_bitCount_0f7a4_26 : decode cJ6_bitCount_0f7a4 26 = .ok (.iconst 4, 1) := by decide +kernel
theorem dJ6_bitCount_0f7a4_27 : decode cJ6_bitCount_0f7a4 27 = .ok (.iushr, 1) := by decide +kernel
theorem dJ6_bitCount_0f7a4_28 : decode cJ6_bitCount_0f7a4 28 = .ok (.iadd, 1) := by decide +kernel
theorem dJ6_bitCount_0f7a4_29 : decode cJ6_bitCount_0f7a4 29 = .ok (.ldc_w 267, 3) := by decide +kernel
theorem dJ6_bitCount_0f7a4_32 : decode cJ6_bitCount_0f7a4 32 = .ok (.iand, 1) := by decide +kernel
theorem dJ6_bitCount_0f7a4_33 : decode cJ6_bitCount_0f7a4 33 = .ok (.istore_n 0, 1) := by decide +kernel
theorem dJ6_bitCount_0f7a4_34 : decode cJ6_bitCount_0f7a4 34 = .ok (.iload_n 0, 1) := by decide +kernel
theorem dJ6_bitCount_0f7a4_35 : decode cJ6_bitCount_0f7a4 35 = .ok (.iload_n 0, 1) := by decide +kernel
theorem dJ6_bitCount_0f7a4_36 : decode cJ6_bitCount_0f7a4 36 = .ok (.bipush 8, 2) := by decide +kernel
theorem dJ6_bitCount_0f7a4_38 : decode cJ6_bitCount_0f7a4 38 = .ok (.iushr, 1) := by decide +kernel
theorem dJ6_bitCount_0f7a4_39 : decode cJ6_bitCount_0f7a4 39 = .ok (.iadd, 1) := by decide +kernel
theorem dJ6_bitCount_0f7a4_40 : decode cJ6_bitCount_0f7a4 40 = .ok (.istore_n 0, 1) := by decide +kernel
theorem dJ6_bitCount_0f7a4_41 : decode cJ6_bitCount_0f7a4 41 = .ok (.iload_n 0, 1) := by decide +kernel
theorem dJ6_bitCount_0f7a4_42 : decode cJ6_bitCount_0f7a4 42 = .ok (.iload_n 0, 1) := by decide +kernel
theorem dJ6_bitCount_0f7a4_43 : decode cJ6_bitCount_0f7a4 43 = .ok (.bipush 16, 2) := by decide +kernel
theorem dJ6_bitCount_0f7a4_45 : decode cJ6_bitCount_0f7a4 45 = .ok (.iushr, 1) := by decide +kernel
theorem dJ6_bitCount_0f7a4_46 : decode cJ6_bitCount_0f7a4 46 = .ok (.iadd, 1) := by decide +kernel
theorem dJ6_bitCount_0f7a4_47 : decode cJ6_bitCount_0f7a4 47 = .ok (.istore_n 0, 1) := by decide +kernel
theorem dJ6_bitCount_0f7a4_48 : decode cJ6_bitCount_0f7a4 48 = .ok (.iload_n 0, 1) := by decide +kernel
theorem dJ6_bitCount_0f7a4_49 : decode cJ6_bitCount_0f7a4 49 = .ok (.bipush 63, 2) := by decide +kernel
theorem dJ6_bitCount_0f7a4_51 : decode cJ6_bitCount_0f7a4 51 = .ok (.iand, 1) := by decide +kernel
theorem dJ6_bitCount_0f7a4_52 : decode cJ6_bitCount_0f7a4 52 = .ok (.ireturn, 1) := by decide +kernel
theorem dJ9_max_7cf53_0 : decode cJ9_max_7cf53 0 = .ok (.iload_n 0, 1) := by decide +kernel
theorem dJ9_max_7cf53_1 : decode cJ9_max_7cf53 1 = .ok (.iload_n 1, 1) := by decide +kernel
theorem dJ9_max_7cf53_2 : decode cJ9_max_7cf53 2 = .ok (.if_icmp .lt 7, 3) := by decide +kernel
theorem dJ9_max_7cf53_5 : decode cJ9_max_7cf53 5 = .ok (.iload_n 0, 1) := by decide +kernel
theorem dJ9_max_7cf53_6 : decode cJ9_max_7cf53 6 = .ok (.goto 4, 3) := by decide +kernel
theorem dJ9_max_7cf53_9 : decode cJ9_max_7cf53 9 = .ok (.iload_n 1, 1) := by decide +kernel
theorem dJ9_max_7cf53_10 : decode cJ9_max_7cf53 10 = .ok (.ireturn, 1) := by decide +kernel
theorem dJ9_min_7cf53_0 : decode cJ9_min_7cf53 0 = .ok (.iload_n 0, 1) := by decide +kernel
theorem dJ9_min_7cf53_1 : decode cJ9_min_7cf53 1 = .ok (.iload_n 1, 1) := by decide +kernel
theorem dJ9_min_7cf53_2 : decode cJ9_min_7cf53 2 = .ok (.if_icmp .gt 7, 3) := by decide +kernel
theorem dJ9_min_7cf53_5 : decode cJ9_min_7cf53 5 = .ok (.iload_n 0, 1) := by decide +kernel
theorem dJ9_min_7cf53_6 : decode cJ9_min_7cf53 6 = .ok (.goto 4, 3) := by decide +kernel
theorem dJ9_min_7cf53_9 : decode cJ9_min_7cf53 9 = .ok (.iload_n 1, 1) := by decide +kernel
theorem dJ9_min_7cf53_10 : decode cJ9_min_7cf53 10 = .ok (.ireturn, 1) := by decide +kernel
theorem dL_cell_0 : decode cL_cell 0 = .ok (.iload_n 1, 1) := by decide +kernel
theorem dL_cell_1 : decode cL_cell 1 = .ok (.aload_n 0, 1) := by decide +kernel
theorem dL_cell_2 : decode cL_cell 2 = .ok (.arraylength, 1) := by decide +kernel
theorem dL_cell_3 : decode cL_cell 3 = .ok (.if_icmp .ge 9, 3) := by decide +kernel
theorem dL_cell_6 : decode cL_cell 6 = .ok (.aload_n 0, 1) := by decide +kernel
theorem dL_cell_7 : decode cL_cell 7 = .ok (.iload_n 1, 1) := by decide +kernel
theorem dL_cell_8 : decode cL_cell 8 = .ok (.iaload, 1) := by decide +kernel
theorem dL_cell_9 : decode cL_cell 9 = .ok (.goto 9, 3) := by decide +kernel
theorem dL_cell_12 : decode cL_cell 12 = .ok (.ldc 7, 2) := by decide +kernel
theorem dL_cell_14 : decode cL_cell 14 = .ok (.iload_n 1, 1) := by decide +kernel
theorem dL_cell_15 : decode cL_cell 15 = .ok (.iconst 1, 1) := by decide +kernel
theorem dL_cell_16 : decode cL_cell 16 = .ok (.iadd, 1) := by decide +kernel
theorem dL_cell_17 : decode cL_cell 17 = .ok (.imul, 1) := by decide +kernel
theorem dL_cell_18 : decode cL_cell 18 = .ok (.ireturn, 1) := by decide +kernel
theorem dL_low_0 : decode cL_low 0 = .ok (.iload_n 0, 1) := by decide +kernel
theorem dL_low_1 : decode cL_low 1 = .ok (.ldc 8, 2) := by decide +kernel
theorem dL_low_3 : decode cL_low 3 = .ok (.iand, 1) := by decide +kernel
theorem dL_low_4 : decode cL_low 4 = .ok (.iload_n 1, 1) := by decide +kernel
theorem dL_low_5 : decode cL_low 5 = .ok (.irem, 1) := by decide +kernel
theorem dL_low_6 : decode cL_low 6 = .ok (.ireturn, 1) := by decide +kernel
theorem dL_place_0 : decode cL_place 0 = .ok (.bipush 6, 2) := by decide +kernel
theorem dL_place_2 : decode cL_place 2 = .ok (.aload_n 0, 1) := by decide +kernel
theorem dL_place_3 : decode cL_place 3 = .ok (.iconst 2, 1) := by decide +kernel
theorem dL_place_4 : decode cL_place 4 = .ok (.iload_n 2, 1) := by decide +kernel
theorem dL_place_5 : decode cL_place 5 = .ok (.imul, 1) := by decide +kernel
theorem dL_place_6 : decode cL_place 6 = .ok (.iaload, 1) := by decide +kernel
theorem dL_place_7 : decode cL_place 7 = .ok (.imul, 1) := by decide +kernel
theorem dL_place_8 : decode cL_place 8 = .ok (.istore_n 3, 1) := by decide +kernel
theorem dL_place_9 : decode cL_place 9 = .ok (.aload_n 1, 1) := by decide +kernel
theorem dL_place_10 : decode cL_place 10 = .ok (.iload_n 3, 1) := by decide +kernel
theorem dL_place_11 : decode cL_place 11 = .ok (.iaload, 1) := by decide +kernel
theorem dL_place_12 : decode cL_place 12 = .ok (.iload_n 2, 1) := by decide +kernel
theorem dL_place_13 : decode cL_place 13 = .ok (.if_icmp .eq 9, 3) := by decide +kernel
theorem dL_place_16 : decode cL_place 16 = .ok (.iinc 3 1, 3) := by decide +kernel
theorem dL_place_19 : decode cL_place 19 = .ok (.goto (-10), 3) := by decide +kernel
theorem dL_place_22 : decode cL_place 22 = .ok (.iload_n 3, 1) := by decide +kernel
theorem dL_place_23 : decode cL_place 23 = .ok (.bipush 6, 2) := by decide +kernel
theorem dL_place_25 : decode cL_place 25 = .ok (.irem, 1) := by decide +kernel
theorem dL_place_26 : decode cL_place 26 = .ok (.ireturn, 1) := by decide +kernel
set_option maxRecDepth 20000 in
theorem ggL_middle_L_place : GoodIn wsL_middle wsL_place := goodIn_r _ [4] (by decide +kernel) (by decide +kernel)
set_option maxRecDepth 20000 in
theorem gL_middle_L_place : GoodIn wsL_middle (va_wsS RL 9 yL_place wsL_place) := goodIn_app (goodIn_of _ (by decide +kernel)) ggL_middle_L_place
theorem dL_middle_0 : decode cL_middle 0 = .ok (.aload_n 0, 1) := by decide +kernel
theorem dL_middle_1 : decode cL_middle 1 = .ok (.aload_n 2, 1) := by decide +kernel
theorem dL_middle_2 : decode cL_middle 2 = .ok (.aload_n 1, 1) := by decide +kernel
theorem dL_middle_3 : decode cL_middle 3 = .ok (.iconst 2, 1) := by decide +kernel
theorem dL_middle_4 : decode cL_middle 4 = .ok (.iload_n 3, 1) := by decide +kernel
theorem dL_middle_5 : decode cL_middle 5 = .ok (.imul, 1) := by decide +kernel
theorem dL_middle_6 : decode cL_middle 6 = .ok (.iaload, 1) := by decide +kernel
theorem dL_middle_7 : decode cL_middle 7 = .ok (.invokestatic 9, 3) := by decide +kernel
theorem dL_middle_10 : decode cL_middle 10 = .ok (.aload_n 0, 1) := by decide +kernel
theorem dL_middle_11 : decode cL_middle 11 = .ok (.aload_n 2, 1) := by decide +kernel
theorem dL_middle_12 : decode cL_middle 12 = .ok (.aload_n 1, 1) := by decide +kernel
theorem dL_middle_13 : decode cL_middle 13 = .ok (.iconst 2, 1) := by decide +kernel
theorem dL_middle_14 : decode cL_middle 14 = .ok (.iload_n 3, 1) := by decide +kernel
theorem dL_middle_15 : decode cL_middle 15 = .ok (.imul, 1) := by decide +kernel
theorem dL_middle_16 : decode cL_middle 16 = .ok (.iconst 1, 1) := by decide +kernel
theorem dL_middle_17 : decode cL_middle 17 = .ok (.iadd, 1) := by decide +kernel
theorem dL_middle_18 : decode cL_middle 18 = .ok (.iaload, 1) := by decide +kernel
theorem dL_middle_19 : decode cL_middle 19 = .ok (.invokestatic 9, 3) := by decide +kernel
theorem dL_middle_22 : decode cL_middle 22 = .ok (.iadd, 1) := by decide +kernel
theorem dL_middle_23 : decode cL_middle 23 = .ok (.ireturn, 1) := by decide +kernel
set_option maxRecDepth 20000 in
theorem ggL_crosses_L_middle : GoodIn wsL_crosses wsL_middle := goodIn_r _ [4, 5, 6, 3, 7] (by decide +kernel) (by decide +kernel)
set_option maxRecDepth 20000 in
theorem gL_crosses_L_middle : GoodIn wsL_crosses (va_wsS RL 15 yL_middle wsL_middle) := goodIn_app (goodIn_of _ (by decide +kernel)) ggL_crosses_L_middle
theorem dL_crosses_0 : decode cL_crosses 0 = .ok (.iconst 0, 1) := by decide +kernel
theorem dL_crosses_1 : decode cL_crosses 1 = .ok (.istore 5, 2) := by decide +kernel
theorem dL_crosses_3 : decode cL_crosses 3 = .ok (.iconst 0, 1) := by decide +kernel
theorem dL_crosses_4 : decode cL_crosses 4 = .ok (.istore 6, 2) := by decide +kernel
theorem dL_crosses_6 : decode cL_crosses 6 = .ok (.iload 6, 2) := by decide +kernel
theorem dL_crosses_8 : decode cL_crosses 8 = .ok (.aload_n 3, 1) := by decide +kernel
theorem dL_crosses_9 : decode cL_crosses 9 = .ok (.iconst 3, 1) := by decide +kernel
theorem dL_crosses_10 : decode cL_crosses 10 = .ok (.iload 4, 2) := by decide +kernel
theorem dL_crosses_12 : decode cL_crosses 12 = .ok (.iadd, 1) := by decide +kernel
theorem dL_crosses_13 : decode cL_crosses 13 = .ok (.iaload, 1) := by decide +kernel
theorem dL_crosses_14 : decode cL_crosses 14 = .ok (.if_icmp .ge 107, 3) := by decide +kernel
theorem dL_crosses_17 : decode cL_crosses 17 = .ok (.iload 6, 2) := by decide +kernel
theorem dL_crosses_19 : decode cL_crosses 19 = .ok (.iconst 1, 1) := by decide +kernel
theorem dL_crosses_20 : decode cL_crosses 20 = .ok (.iadd, 1) := by decide +kernel
theorem dL_crosses_21 : decode cL_crosses 21 = .ok (.istore 7, 2) := by decide +kernel
theorem dL_crosses_23 : decode cL_crosses 23 = .ok (.iload 7, 2) := by decide +kernel
theorem dL_crosses_25 : decode cL_crosses 25 = .ok (.aload_n 3, 1) := by decide +kernel
theorem dL_crosses_26 : decode cL_crosses 26 = .ok (.iconst 3, 1) := by decide +kernel
theorem dL_crosses_27 : decode cL_crosses 27 = .ok (.iload 4, 2) := by decide +kernel
theorem dL_crosses_29 : decode cL_crosses 29 = .ok (.iadd, 1) := by decide +kernel
theorem dL_crosses_30 : decode cL_crosses 30 = .ok (.iaload, 1) := by decide +kernel
theorem dL_crosses_31 : decode cL_crosses 31 = .ok (.if_icmp .ge 84, 3) := by decide +kernel
theorem dL_crosses_34 : decode cL_crosses 34 = .ok (.aload_n 0, 1) := by decide +kernel
theorem dL_crosses_35 : decode cL_crosses 35 = .ok (.iconst 2, 1) := by decide +kernel
theorem dL_crosses_36 : decode cL_crosses 36 = .ok (.aload_n 2, 1) := by decide +kernel
theorem dL_crosses_37 : decode cL_crosses 37 = .ok (.bipush 6, 2) := by decide +kernel
theorem dL_crosses_39 : decode cL_crosses 39 = .ok (.iload 4, 2) := by decide +kernel
theorem dL_crosses_41 : decode cL_crosses 41 = .ok (.imul, 1) := by decide +kernel
theorem dL_crosses_42 : decode cL_crosses 42 = .ok (.iload 6, 2) := by decide +kernel
theorem dL_crosses_44 : decode cL_crosses 44 = .ok (.iadd, 1) := by decide +kernel
theorem dL_crosses_45 : decode cL_crosses 45 = .ok (.iaload, 1) := by decide +kernel
theorem dL_crosses_46 : decode cL_crosses 46 = .ok (.imul, 1) := by decide +kernel
theorem dL_crosses_47 : decode cL_crosses 47 = .ok (.iconst 1, 1) := by decide +kernel
theorem dL_crosses_48 : decode cL_crosses 48 = .ok (.iadd, 1) := by decide +kernel
theorem dL_crosses_49 : decode cL_crosses 49 = .ok (.iaload, 1) := by decide +kernel
theorem dL_crosses_50 : decode cL_crosses 50 = .ok (.istore 8, 2) := by decide +kernel
theorem dL_crosses_52 : decode cL_crosses 52 = .ok (.aload_n 0, 1) := by decide +kernel
theorem dL_crosses_53 : decode cL_crosses 53 = .ok (.iconst 2, 1) := by decide +kernel
theorem dL_crosses_54 : decode cL_crosses 54 = .ok (.aload_n 2, 1) := by decide +kernel
theorem dL_crosses_55 : decode cL_crosses 55 = .ok (.bipush 6, 2) := by decide +kernel
theorem dL_crosses_57 : decode cL_crosses 57 = .ok (.iload 4, 2) := by decide +kernel
theorem dL_crosses_59 : decode cL_crosses 59 = .ok (.imul, 1) := by decide +kernel
theorem dL_crosses_60 : decode cL_crosses 60 = .ok (.iload 7, 2) := by decide +kernel
theorem dL_crosses_62 : decode cL_crosses 62 = .ok (.iadd, 1) := by decide +kernel
theorem dL_crosses_63 : decode cL_crosses 63 = .ok (.iaload, 1) := by decide +kernel
theorem dL_crosses_64 : decode cL_crosses 64 = .ok (.imul, 1) := by decide +kernel
theorem dL_crosses_65 : decode cL_crosses 65 = .ok (.iconst 1, 1) := by decide +kernel
theorem dL_crosses_66 : decode cL_crosses 66 = .ok (.iadd, 1) := by decide +kernel
theorem dL_crosses_67 : decode cL_crosses 67 = .ok (.iaload, 1) := by decide +kernel
theorem dL_crosses_68 : decode cL_crosses 68 = .ok (.istore 9, 2) := by decide +kernel
theorem dL_crosses_70 : decode cL_crosses 70 = .ok (.iload 5, 2) := by decide +kernel
theorem dL_crosses_72 : decode cL_crosses 72 = .ok (.iload 8, 2) := by decide +kernel
theorem dL_crosses_74 : decode cL_crosses 74 = .ok (.ifCond .lt 31, 3) := by decide +kernel
theorem dL_crosses_77 : decode cL_crosses 77 = .ok (.iload 9, 2) := by decide +kernel
theorem dL_crosses_79 : decode cL_crosses 79 = .ok (.ifCond .lt 26, 3) := by decide +kernel
theorem dL_crosses_82 : decode cL_crosses 82 = .ok (.aload_n 0, 1) := by decide +kernel
theorem dL_crosses_83 : decode cL_crosses 83 = .ok (.aload_n 1, 1) := by decide +kernel
theorem dL_crosses_84 : decode cL_crosses 84 = .ok (.aload_n 2, 1) := by decide +kernel
theorem dL_crosses_85 : decode cL_crosses 85 = .ok (.iload 8, 2) := by decide +kernel
theorem dL_crosses_87 : decode cL_crosses 87 = .ok (.invokestatic 15, 3) := by decide +kernel
theorem dL_crosses_90 : decode cL_crosses 90 = .ok (.aload_n 0, 1) := by decide +kernel
theorem dL_crosses_91 : decode cL_crosses 91 = .ok (.aload_n 1, 1) := by decide +kernel
theorem dL_crosses_92 : decode cL_crosses 92 = .ok (.aload_n 2, 1) := by decide +kernel
theorem dL_crosses_93 : decode cL_crosses 93 = .ok (.iload 9, 2) := by decide +kernel
theorem dL_crosses_95 : decode cL_crosses 95 = .ok (.invokestatic 15, 3) := by decide +kernel
theorem dL_crosses_98 : decode cL_crosses 98 = .ok (.if_icmp .le 7, 3) := by decide +kernel
theorem dL_crosses_101 : decode cL_crosses 101 = .ok (.iconst 1, 1) := by decide +kernel
theorem dL_crosses_102 : decode cL_crosses 102 = .ok (.goto 4, 3) := by decide +kernel
theorem dL_crosses_105 : decode cL_crosses 105 = .ok (.iconst 0, 1) := by decide +kernel
theorem dL_crosses_106 : decode cL_crosses 106 = .ok (.iadd, 1) := by decide +kernel
theorem dL_crosses_107 : decode cL_crosses 107 = .ok (.istore 5, 2) := by decide +kernel
theorem dL_crosses_109 : decode cL_crosses 109 = .ok (.iinc 7 1, 3) := by decide +kernel
theorem dL_crosses_112 : decode cL_crosses 112 = .ok (.goto (-89), 3) := by decide +kernel
theorem dL_crosses_115 : decode cL_crosses 115 = .ok (.iinc 6 1, 3) := by decide +kernel
theorem dL_crosses_118 : decode cL_crosses 118 = .ok (.goto (-112), 3) := by decide +kernel
theorem dL_crosses_121 : decode cL_crosses 121 = .ok (.iload 5, 2) := by decide +kernel
theorem dL_crosses_123 : decode cL_crosses 123 = .ok (.ireturn, 1) := by decide +kernel
set_option maxRecDepth 20000 in
theorem ggL_all_L_crosses : GoodIn wsL_all wsL_crosses := goodIn_r _ [4, 5, 6, 3, 7, 8, 9, 10] (by decide +kernel) (by decide +kernel)
set_option maxRecDepth 20000 in
theorem gL_all_L_crosses : GoodIn wsL_all (va_wsS RL 19 yL_crosses wsL_crosses) := goodIn_app (goodIn_of _ (by decide +kernel)) ggL_all_L_crosses
theorem dL_all_0 : decode cL_all 0 = .ok (.aload_n 0, 1) := by decide +kernel
theorem dL_all_1 : decode cL_all 1 = .ok (.aload_n 1, 1) := by decide +kernel
theorem dL_all_2 : decode cL_all 2 = .ok (.aload_n 2, 1) := by decide +kernel
theorem dL_all_3 : decode cL_all 3 = .ok (.aload_n 3, 1) := by decide +kernel
theorem dL_all_4 : decode cL_all 4 = .ok (.iconst 1, 1) := by decide +kernel
theorem dL_all_5 : decode cL_all 5 = .ok (.invokestatic 19, 3) := by decide +kernel
theorem dL_all_8 : decode cL_all 8 = .ok (.aload_n 0, 1) := by decide +kernel
theorem dL_all_9 : decode cL_all 9 = .ok (.aload_n 1, 1) := by decide +kernel
theorem dL_all_10 : decode cL_all 10 = .ok (.aload_n 2, 1) := by decide +kernel
theorem dL_all_11 : decode cL_all 11 = .ok (.aload_n 3, 1) := by decide +kernel
theorem dL_all_12 : decode cL_all 12 = .ok (.iconst 2, 1) := by decide +kernel
theorem dL_all_13 : decode cL_all 13 = .ok (.invokestatic 19, 3) := by decide +kernel
theorem dL_all_16 : decode cL_all 16 = .ok (.iadd, 1) := by decide +kernel
theorem dL_all_17 : decode cL_all 17 = .ok (.aload_n 0, 1) := by decide +kernel
theorem dL_all_18 : decode cL_all 18 = .ok (.aload_n 1, 1) := by decide +kernel
theorem dL_all_19 : decode cL_all 19 = .ok (.aload_n 2, 1) := by decide +kernel
theorem dL_all_20 : decode cL_all 20 = .ok (.aload_n 3, 1) := by decide +kernel
theorem dL_all_21 : decode cL_all 21 = .ok (.iconst 3, 1) := by decide +kernel
theorem dL_all_22 : decode cL_all 22 = .ok (.invokestatic 19, 3) := by decide +kernel
theorem dL_all_25 : decode cL_all 25 = .ok (.iadd, 1) := by decide +kernel
theorem dL_all_26 : decode cL_all 26 = .ok (.ireturn, 1) := by decide +kernel
set_option maxRecDepth 20000 in
theorem ggL_ofTwo_L_crosses : GoodIn wsL_ofTwo wsL_crosses := goodIn_r _ [4, 5, 6, 3, 7, 8, 9, 10] (by decide +kernel) (by decide +kernel)
set_option maxRecDepth 20000 in
theorem gL_ofTwo_L_crosses : GoodIn wsL_ofTwo (va_wsS RL 19 yL_crosses wsL_crosses) := goodIn_app (goodIn_of _ (by decide +kernel)) ggL_ofTwo_L_crosses
theorem dL_ofTwo_0 : decode cL_ofTwo 0 = .ok (.aload_n 0, 1) := by decide +kernel
theorem dL_ofTwo_1 : decode cL_ofTwo 1 = .ok (.aload_n 1, 1) := by decide +kernel
theorem dL_ofTwo_2 : decode cL_ofTwo 2 = .ok (.aload_n 2, 1) := by decide +kernel
theorem dL_ofTwo_3 : decode cL_ofTwo 3 = .ok (.aload_n 3, 1) := by decide +kernel
theorem dL_ofTwo_4 : decode cL_ofTwo 4 = .ok (.iload 4, 2) := by decide +kernel
theorem dL_ofTwo_6 : decode cL_ofTwo 6 = .ok (.invokestatic 19, 3) := by decide +kernel
theorem dL_ofTwo_9 : decode cL_ofTwo 9 = .ok (.iload 4, 2) := by decide +kernel
theorem dL_ofTwo_11 : decode cL_ofTwo 11 = .ok (.iconst 3, 1) := by decide +kernel
theorem dL_ofTwo_12 : decode cL_ofTwo 12 = .ok (.if_icmp .ne 7, 3) := by decide +kernel
theorem dL_ofTwo_15 : decode cL_ofTwo 15 = .ok (.iconst 0, 1) := by decide +kernel
theorem dL_ofTwo_16 : decode cL_ofTwo 16 = .ok (.goto 14, 3) := by decide +kernel
theorem dL_ofTwo_19 : decode cL_ofTwo 19 = .ok (.aload_n 0, 1) := by decide +kernel
theorem dL_ofTwo_20 : decode cL_ofTwo 20 = .ok (.aload_n 1, 1) := by decide +kernel
theorem dL_ofTwo_21 : decode cL_ofTwo 21 = .ok (.aload_n 2, 1) := by decide +kernel
theorem dL_ofTwo_22 : decode cL_ofTwo 22 = .ok (.aload_n 3, 1) := by decide +kernel
theorem dL_ofTwo_23 : decode cL_ofTwo 23 = .ok (.iload 4, 2) := by decide +kernel
theorem dL_ofTwo_25 : decode cL_ofTwo 25 = .ok (.iconst 1, 1) := by decide +kernel
theorem dL_ofTwo_26 : decode cL_ofTwo 26 = .ok (.iadd, 1) := by decide +kernel
theorem dL_ofTwo_27 : decode cL_ofTwo 27 = .ok (.invokestatic 19, 3) := by decide +kernel
theorem dL_ofTwo_30 : decode cL_ofTwo 30 = .ok (.iadd, 1) := by decide +kernel
theorem dL_ofTwo_31 : decode cL_ofTwo 31 = .ok (.ireturn, 1) := by decide +kernel
theorem dL_couples_0 : decode cL_couples 0 = .ok (.iconst 0, 1) := by decide +kernel
theorem dL_couples_1 : decode cL_couples 1 = .ok (.istore_n 3, 1) := by decide +kernel
theorem dL_couples_2 : decode cL_couples 2 = .ok (.iconst 0, 1) := by decide +kernel
theorem dL_couples_3 : decode cL_couples 3 = .ok (.istore 4, 2) := by decide +kernel
theorem dL_couples_5 : decode cL_couples 5 = .ok (.iload 4, 2) := by decide +kernel
theorem dL_couples_7 : decode cL_couples 7 = .ok (.iconst 2, 1) := by decide +kernel
theorem dL_couples_8 : decode cL_couples 8 = .ok (.aload_n 1, 1) := by decide +kernel
theorem dL_couples_9 : decode cL_couples 9 = .ok (.iconst 1, 1) := by decide +kernel
theorem dL_couples_10 : decode cL_couples 10 = .ok (.iaload, 1) := by decide +kernel
theorem dL_couples_11 : decode cL_couples 11 = .ok (.imul, 1) := by decide +kernel
theorem dL_couples_12 : decode cL_couples 12 = .ok (.if_icmp .ge 25, 3) := by decide +kernel
theorem dL_couples_15 : decode cL_couples 15 = .ok (.iload_n 3, 1) := by decide +kernel
theorem dL_couples_16 : decode cL_couples 16 = .ok (.aload_n 0, 1) := by decide +kernel
theorem dL_couples_17 : decode cL_couples 17 = .ok (.iload 4, 2) := by decide +kernel
theorem dL_couples_19 : decode cL_couples 19 = .ok (.iaload, 1) := by decide +kernel
theorem dL_couples_20 : decode cL_couples 20 = .ok (.iload_n 2, 1) := by decide +kernel
theorem dL_couples_21 : decode cL_couples 21 = .ok (.if_icmp .ne 7, 3) := by decide +kernel
theorem dL_couples_24 : decode cL_couples 24 = .ok (.iconst 1, 1) := by decide +kernel
theorem dL_couples_25 : decode cL_couples 25 = .ok (.goto 4, 3) := by decide +kernel
theorem dL_couples_28 : decode cL_couples 28 = .ok (.iconst 0, 1) := by decide +kernel
theorem dL_couples_29 : decode cL_couples 29 = .ok (.iadd, 1) := by decide +kernel
theorem dL_couples_30 : decode cL_couples 30 = .ok (.istore_n 3, 1) := by decide +kernel
theorem dL_couples_31 : decode cL_couples 31 = .ok (.iinc 4 1, 3) := by decide +kernel
theorem dL_couples_34 : decode cL_couples 34 = .ok (.goto (-29), 3) := by decide +kernel
theorem dL_couples_37 : decode cL_couples 37 = .ok (.iload_n 3, 1) := by decide +kernel
theorem dL_couples_38 : decode cL_couples 38 = .ok (.ireturn, 1) := by decide +kernel
theorem dL_ancestors_0 : decode cL_ancestors 0 = .ok (.iconst 1, 1) := by decide +kernel
theorem dL_ancestors_1 : decode cL_ancestors 1 = .ok (.iload_n 3, 1) := by decide +kernel
theorem dL_ancestors_2 : decode cL_ancestors 2 = .ok (.ishl, 1) := by decide +kernel
theorem dL_ancestors_3 : decode cL_ancestors 3 = .ok (.istore 4, 2) := by decide +kernel
theorem dL_ancestors_5 : decode cL_ancestors 5 = .ok (.aload_n 0, 1) := by decide +kernel
theorem dL_ancestors_6 : decode cL_ancestors 6 = .ok (.iconst 2, 1) := by decide +kernel
theorem dL_ancestors_7 : decode cL_ancestors 7 = .ok (.iload_n 3, 1) := by decide +kernel
theorem dL_ancestors_8 : decode cL_ancestors 8 = .ok (.imul, 1) := by decide +kernel
theorem dL_ancestors_9 : decode cL_ancestors 9 = .ok (.iaload, 1) := by decide +kernel
theorem dL_ancestors_10 : decode cL_ancestors 10 = .ok (.istore 5, 2) := by decide +kernel
theorem dL_ancestors_12 : decode cL_ancestors 12 = .ok (.iload 5, 2) := by decide +kernel
theorem dL_ancestors_14 : decode cL_ancestors 14 = .ok (.ifCond .le 111, 3) := by decide +kernel
theorem dL_ancestors_17 : decode cL_ancestors 17 = .ok (.iconst 0, 1) := by decide +kernel
theorem dL_ancestors_18 : decode cL_ancestors 18 = .ok (.istore 6, 2) := by decide +kernel
theorem dL_ancestors_20 : decode cL_ancestors 20 = .ok (.iload 6, 2) := by decide +kernel
theorem dL_ancestors_22 : decode cL_ancestors 22 = .ok (.aload_n 2, 1) := by decide +kernel
theorem dL_ancestors_23 : decode cL_ancestors 23 = .ok (.iconst 0, 1) := by decide +kernel
theorem dL_ancestors_24 : decode cL_ancestors 24 = .ok (.iaload, 1) := by decide +kernel
theorem dL_ancestors_25 : decode cL_ancestors 25 = .ok (.if_icmp .ge 94, 3) := by decide +kernel
theorem dL_ancestors_28 : decode cL_ancestors 28 = .ok (.aload_n 0, 1) := by decide +kernel
theorem dL_ancestors_29 : decode cL_ancestors 29 = .ok (.iconst 2, 1) := by decide +kernel
theorem dL_ancestors_30 : decode cL_ancestors 30 = .ok (.iload 6, 2) := by decide +kernel
theorem dL_ancestors_32 : decode cL_ancestors 32 = .ok (.imul, 1) := by decide +kernel
theorem dL_ancestors_33 : decode cL_ancestors 33 = .ok (.iaload, 1) := by decide +kernel
theorem dL_ancestors_34 : decode cL_ancestors 34 = .ok (.iload 5, 2) := by decide +kernel
theorem dL_ancestors_36 : decode cL_ancestors 36 = .ok (.if_icmp .ne 29, 3) := by decide +kernel
theorem dL_ancestors_39 : decode cL_ancestors 39 = .ok (.iload 4, 2) := by decide +kernel
theorem dL_ancestors_41 : decode cL_ancestors 41 = .ok (.iload 6, 2) := by decide +kernel
theorem dL_ancestors_43 : decode cL_ancestors 43 = .ok (.ishr, 1) := by decide +kernel
theorem dL_ancestors_44 : decode cL_ancestors 44 = .ok (.iconst 1, 1) := by decide +kernel
theorem dL_ancestors_45 : decode cL_ancestors 45 = .ok (.iand, 1) := by decide +kernel
theorem dL_ancestors_46 : decode cL_ancestors 46 = .ok (.iconst 1, 1) := by decide +kernel
theorem dL_ancestors_47 : decode cL_ancestors 47 = .ok (.if_icmp .ne 18, 3) := by decide +kernel
theorem dL_ancestors_50 : decode cL_ancestors 50 = .ok (.aload_n 0, 1) := by decide +kernel
theorem dL_ancestors_51 : decode cL_ancestors 51 = .ok (.iconst 2, 1) := by decide +kernel
theorem dL_ancestors_52 : decode cL_ancestors 52 = .ok (.iload 6, 2) := by decide +kernel
theorem dL_ancestors_54 : decode cL_ancestors 54 = .ok (.imul, 1) := by decide +kernel
theorem dL_ancestors_55 : decode cL_ancestors 55 = .ok (.iconst 1, 1) := by decide +kernel
theorem dL_ancestors_56 : decode cL_ancestors 56 = .ok (.iadd, 1) := by decide +kernel
theorem dL_ancestors_57 : decode cL_ancestors 57 = .ok (.iaload, 1) := by decide +kernel
theorem dL_ancestors_58 : decode cL_ancestors 58 = .ok (.ifCond .lt 7, 3) := by decide +kernel
theorem dL_ancestors_61 : decode cL_ancestors 61 = .ok (.iconst 1, 1) := by decide +kernel
theorem dL_ancestors_62 : decode cL_ancestors 62 = .ok (.goto 4, 3) := by decide +kernel
theorem dL_ancestors_65 : decode cL_ancestors 65 = .ok (.iconst 0, 1) := by decide +kernel
theorem dL_ancestors_66 : decode cL_ancestors 66 = .ok (.istore 7, 2) := by decide +kernel
theorem dL_ancestors_68 : decode cL_ancestors 68 = .ok (.iload 4, 2) := by decide +kernel
theorem dL_ancestors_70 : decode cL_ancestors 70 = .ok (.iload 7, 2) := by decide +kernel
theorem dL_ancestors_72 : decode cL_ancestors 72 = .ok (.ifCond .eq 37, 3) := by decide +kernel
theorem dL_ancestors_75 : decode cL_ancestors 75 = .ok (.iconst 1, 1) := by decide +kernel
theorem dL_ancestors_76 : decode cL_ancestors 76 = .ok (.aload_n 1, 1) := by decide +kernel
theorem dL_ancestors_77 : decode cL_ancestors 77 = .ok (.iconst 2, 1) := by decide +kernel
theorem dL_ancestors_78 : decode cL_ancestors 78 = .ok (.aload_n 0, 1) := by decide +kernel
theorem dL_ancestors_79 : decode cL_ancestors 79 = .ok (.iconst 2, 1) := by decide +kernel
theorem dL_ancestors_80 : decode cL_ancestors 80 = .ok (.iload 6, 2) := by decide +kernel
theorem dL_ancestors_82 : decode cL_ancestors 82 = .ok (.imul, 1) := by decide +kernel
theorem dL_ancestors_83 : decode cL_ancestors 83 = .ok (.iconst 1, 1) := by decide +kernel
theorem dL_ancestors_84 : decode cL_ancestors 84 = .ok (.iadd, 1) := by decide +kernel
theorem dL_ancestors_85 : decode cL_ancestors 85 = .ok (.iaload, 1) := by decide +kernel
theorem dL_ancestors_86 : decode cL_ancestors 86 = .ok (.imul, 1) := by decide +kernel
theorem dL_ancestors_87 : decode cL_ancestors 87 = .ok (.iaload, 1) := by decide +kernel
theorem dL_ancestors_88 : decode cL_ancestors 88 = .ok (.ishl, 1) := by decide +kernel
theorem dL_ancestors_89 : decode cL_ancestors 89 = .ok (.iconst 1, 1) := by decide +kernel
theorem dL_ancestors_90 : decode cL_ancestors 90 = .ok (.aload_n 1, 1) := by decide +kernel
theorem dL_ancestors_91 : decode cL_ancestors 91 = .ok (.iconst 2, 1) := by decide +kernel
theorem dL_ancestors_92 : decode cL_ancestors 92 = .ok (.aload_n 0, 1) := by decide +kernel
theorem dL_ancestors_93 : decode cL_ancestors 93 = .ok (.iconst 2, 1) := by decide +kernel
theorem dL_ancestors_94 : decode cL_ancestors 94 = .ok (.iload 6, 2) := by decide +kernel
theorem dL_ancestors_96 : decode cL_ancestors 96 = .ok (.imul, 1) := by decide +kernel
theorem dL_ancestors_97 : decode cL_ancestors 97 = .ok (.iconst 1, 1) := by decide +kernel
theorem dL_ancestors_98 : decode cL_ancestors 98 = .ok (.iadd, 1) := by decide +kernel
theorem dL_ancestors_99 : decode cL_ancestors 99 = .ok (.iaload, 1) := by decide +kernel
theorem dL_ancestors_100 : decode cL_ancestors 100 = .ok (.imul, 1) := by decide +kernel
theorem dL_ancestors_101 : decode cL_ancestors 101 = .ok (.iconst 1, 1) := by decide +kernel
theorem dL_ancestors_102 : decode cL_ancestors 102 = .ok (.iadd, 1) := by decide +kernel
theorem dL_ancestors_103 : decode cL_ancestors 103 = .ok (.iaload, 1) := by decide +kernel
theorem dL_ancestors_104 : decode cL_ancestors 104 = .ok (.ishl, 1) := by decide +kernel
theorem dL_ancestors_105 : decode cL_ancestors 105 = .ok (.ior, 1) := by decide +kernel
theorem dL_ancestors_106 : decode cL_ancestors 106 = .ok (.goto 4, 3) := by decide +kernel
theorem dL_ancestors_109 : decode cL_ancestors 109 = .ok (.iconst 0, 1) := by decide +kernel
theorem dL_ancestors_110 : decode cL_ancestors 110 = .ok (.ior, 1) := by decide +kernel
theorem dL_ancestors_111 : decode cL_ancestors 111 = .ok (.istore 4, 2) := by decide +kernel
end
section
theorem dL_ancestors_113 : decode cL_ancestors 113 = .ok (.iinc 6 1, 3) := by decide +kernel
theorem dL_ancestors_116 : decode cL_ancestors 116 = .ok (.goto (-96), 3) := by decide +kernel
theorem dL_ancestors_119 : decode cL_ancestors 119 = .ok (.iinc 5 (-1), 3) := by decide +kernel
theorem dL_ancestors_122 : decode cL_ancestors 122 = .ok (.goto (-110), 3) := by decide +kernel
theorem dL_ancestors_125 : decode cL_ancestors 125 = .ok (.iload 4, 2) := by decide +kernel
theorem dL_ancestors_127 : decode cL_ancestors 127 = .ok (.iconst 1, 1) := by decide +kernel
theorem dL_ancestors_128 : decode cL_ancestors 128 = .ok (.iload_n 3, 1) := by decide +kernel
theorem dL_ancestors_129 : decode cL_ancestors 129 = .ok (.ishl, 1) := by decide +kernel
theorem dL_ancestors_130 : decode cL_ancestors 130 = .ok (.iconst (-1), 1) := by decide +kernel
theorem dL_ancestors_131 : decode cL_ancestors 131 = .ok (.ixor, 1) := by decide +kernel
theorem dL_ancestors_132 : decode cL_ancestors 132 = .ok (.iand, 1) := by decide +kernel
theorem dL_ancestors_133 : decode cL_ancestors 133 = .ok (.ireturn, 1) := by decide +kernel
theorem dL_ones_0 : decode cL_ones 0 = .ok (.iconst 0, 1) := by decide +kernel
theorem dL_ones_1 : decode cL_ones 1 = .ok (.istore_n 1, 1) := by decide +kernel
theorem dL_ones_2 : decode cL_ones 2 = .ok (.iload_n 0, 1) := by decide +kernel
theorem dL_ones_3 : decode cL_ones 3 = .ok (.istore_n 2, 1) := by decide +kernel
theorem dL_ones_4 : decode cL_ones 4 = .ok (.iload_n 2, 1) := by decide +kernel
theorem dL_ones_5 : decode cL_ones 5 = .ok (.ifCond .eq 15, 3) := by decide +kernel
theorem dL_ones_8 : decode cL_ones 8 = .ok (.iinc 1 1, 3) := by decide +kernel
theorem dL_ones_11 : decode cL_ones 11 = .ok (.iload_n 2, 1) := by decide +kernel
theorem dL_ones_12 : decode cL_ones 12 = .ok (.iload_n 2, 1) := by decide +kernel
theorem dL_ones_13 : decode cL_ones 13 = .ok (.iconst 1, 1) := by decide +kernel
theorem dL_ones_14 : decode cL_ones 14 = .ok (.isub, 1) := by decide +kernel
theorem dL_ones_15 : decode cL_ones 15 = .ok (.iand, 1) := by decide +kernel
theorem dL_ones_16 : decode cL_ones 16 = .ok (.istore_n 2, 1) := by decide +kernel
theorem dL_ones_17 : decode cL_ones 17 = .ok (.goto (-13), 3) := by decide +kernel
theorem dL_ones_20 : decode cL_ones 20 = .ok (.iload_n 1, 1) := by decide +kernel
theorem dL_ones_21 : decode cL_ones 21 = .ok (.ireturn, 1) := by decide +kernel
set_option maxRecDepth 20000 in
theorem ggL_lays_L_ones : GoodIn wsL_lays wsL_ones := goodIn_r _ [4] (by decide +kernel) (by decide +kernel)
set_option maxRecDepth 20000 in
theorem gL_lays_L_ones : GoodIn wsL_lays (va_wsS RL 23 yL_ones wsL_ones) := goodIn_app (goodIn_of _ (by decide +kernel)) ggL_lays_L_ones
theorem dL_lays_0 : decode cL_lays 0 = .ok (.aload_n 1, 1) := by decide +kernel
theorem dL_lays_1 : decode cL_lays 1 = .ok (.iconst 3, 1) := by decide +kernel
theorem dL_lays_2 : decode cL_lays 2 = .ok (.iload_n 2, 1) := by decide +kernel
theorem dL_lays_3 : decode cL_lays 3 = .ok (.iadd, 1) := by decide +kernel
theorem dL_lays_4 : decode cL_lays 4 = .ok (.iaload, 1) := by decide +kernel
theorem dL_lays_5 : decode cL_lays 5 = .ok (.istore 4, 2) := by decide +kernel
theorem dL_lays_7 : decode cL_lays 7 = .ok (.iconst 0, 1) := by decide +kernel
theorem dL_lays_8 : decode cL_lays 8 = .ok (.istore 5, 2) := by decide +kernel
theorem dL_lays_10 : decode cL_lays 10 = .ok (.iconst 0, 1) := by decide +kernel
theorem dL_lays_11 : decode cL_lays 11 = .ok (.istore 6, 2) := by decide +kernel
theorem dL_lays_13 : decode cL_lays 13 = .ok (.iload 6, 2) := by decide +kernel
theorem dL_lays_15 : decode cL_lays 15 = .ok (.iload 4, 2) := by decide +kernel
theorem dL_lays_17 : decode cL_lays 17 = .ok (.if_icmp .ge 25, 3) := by decide +kernel
theorem dL_lays_20 : decode cL_lays 20 = .ok (.iload 5, 2) := by decide +kernel
theorem dL_lays_22 : decode cL_lays 22 = .ok (.iconst 1, 1) := by decide +kernel
theorem dL_lays_23 : decode cL_lays 23 = .ok (.aload_n 0, 1) := by decide +kernel
theorem dL_lays_24 : decode cL_lays 24 = .ok (.bipush 6, 2) := by decide +kernel
theorem dL_lays_26 : decode cL_lays 26 = .ok (.iload_n 2, 1) := by decide +kernel
theorem dL_lays_27 : decode cL_lays 27 = .ok (.imul, 1) := by decide +kernel
theorem dL_lays_28 : decode cL_lays 28 = .ok (.iload 6, 2) := by decide +kernel
theorem dL_lays_30 : decode cL_lays 30 = .ok (.iadd, 1) := by decide +kernel
theorem dL_lays_31 : decode cL_lays 31 = .ok (.iaload, 1) := by decide +kernel
theorem dL_lays_32 : decode cL_lays 32 = .ok (.ishl, 1) := by decide +kernel
theorem dL_lays_33 : decode cL_lays 33 = .ok (.ior, 1) := by decide +kernel
theorem dL_lays_34 : decode cL_lays 34 = .ok (.istore 5, 2) := by decide +kernel
theorem dL_lays_36 : decode cL_lays 36 = .ok (.iinc 6 1, 3) := by decide +kernel
theorem dL_lays_39 : decode cL_lays 39 = .ok (.goto (-26), 3) := by decide +kernel
theorem dL_lays_42 : decode cL_lays 42 = .ok (.iload_n 3, 1) := by decide +kernel
theorem dL_lays_43 : decode cL_lays 43 = .ok (.istore 6, 2) := by decide +kernel
theorem dL_lays_45 : decode cL_lays 45 = .ok (.iconst 0, 1) := by decide +kernel
theorem dL_lays_46 : decode cL_lays 46 = .ok (.istore 7, 2) := by decide +kernel
theorem dL_lays_48 : decode cL_lays 48 = .ok (.iload 7, 2) := by decide +kernel
theorem dL_lays_50 : decode cL_lays 50 = .ok (.iload 4, 2) := by decide +kernel
theorem dL_lays_52 : decode cL_lays 52 = .ok (.if_icmp .ge 129, 3) := by decide +kernel
theorem dL_lays_55 : decode cL_lays 55 = .ok (.iconst 1, 1) := by decide +kernel
theorem dL_lays_56 : decode cL_lays 56 = .ok (.istore 8, 2) := by decide +kernel
theorem dL_lays_58 : decode cL_lays 58 = .ok (.iconst 2, 1) := by decide +kernel
theorem dL_lays_59 : decode cL_lays 59 = .ok (.istore 9, 2) := by decide +kernel
theorem dL_lays_61 : decode cL_lays 61 = .ok (.iload 9, 2) := by decide +kernel
theorem dL_lays_63 : decode cL_lays 63 = .ok (.iload 4, 2) := by decide +kernel
theorem dL_lays_65 : decode cL_lays 65 = .ok (.iload 7, 2) := by decide +kernel
theorem dL_lays_67 : decode cL_lays 67 = .ok (.isub, 1) := by decide +kernel
theorem dL_lays_68 : decode cL_lays 68 = .ok (.if_icmp .ge 16, 3) := by decide +kernel
theorem dL_lays_71 : decode cL_lays 71 = .ok (.iload 8, 2) := by decide +kernel
theorem dL_lays_73 : decode cL_lays 73 = .ok (.iload 9, 2) := by decide +kernel
theorem dL_lays_75 : decode cL_lays 75 = .ok (.imul, 1) := by decide +kernel
theorem dL_lays_76 : decode cL_lays 76 = .ok (.istore 8, 2) := by decide +kernel
theorem dL_lays_78 : decode cL_lays 78 = .ok (.iinc 9 1, 3) := by decide +kernel
theorem dL_lays_81 : decode cL_lays 81 = .ok (.goto (-20), 3) := by decide +kernel
theorem dL_lays_84 : decode cL_lays 84 = .ok (.iload 6, 2) := by decide +kernel
theorem dL_lays_86 : decode cL_lays 86 = .ok (.iload 8, 2) := by decide +kernel
theorem dL_lays_88 : decode cL_lays 88 = .ok (.idiv, 1) := by decide +kernel
theorem dL_lays_89 : decode cL_lays 89 = .ok (.istore 9, 2) := by decide +kernel
theorem dL_lays_91 : decode cL_lays 91 = .ok (.iload 6, 2) := by decide +kernel
theorem dL_lays_93 : decode cL_lays 93 = .ok (.iload 8, 2) := by decide +kernel
theorem dL_lays_95 : decode cL_lays 95 = .ok (.irem, 1) := by decide +kernel
theorem dL_lays_96 : decode cL_lays 96 = .ok (.istore 6, 2) := by decide +kernel
theorem dL_lays_98 : decode cL_lays 98 = .ok (.iconst 0, 1) := by decide +kernel
theorem dL_lays_99 : decode cL_lays 99 = .ok (.istore 10, 2) := by decide +kernel
theorem dL_lays_101 : decode cL_lays 101 = .ok (.bipush 19, 2) := by decide +kernel
theorem dL_lays_103 : decode cL_lays 103 = .ok (.istore 11, 2) := by decide +kernel
theorem dL_lays_105 : decode cL_lays 105 = .ok (.iload 11, 2) := by decide +kernel
theorem dL_lays_107 : decode cL_lays 107 = .ok (.ifCond .lt 46, 3) := by decide +kernel
theorem dL_lays_110 : decode cL_lays 110 = .ok (.iload 5, 2) := by decide +kernel
theorem dL_lays_112 : decode cL_lays 112 = .ok (.iload 11, 2) := by decide +kernel
theorem dL_lays_114 : decode cL_lays 114 = .ok (.ishr, 1) := by decide +kernel
theorem dL_lays_115 : decode cL_lays 115 = .ok (.iconst 1, 1) := by decide +kernel
theorem dL_lays_116 : decode cL_lays 116 = .ok (.iand, 1) := by decide +kernel
theorem dL_lays_117 : decode cL_lays 117 = .ok (.iconst 1, 1) := by decide +kernel
theorem dL_lays_118 : decode cL_lays 118 = .ok (.if_icmp .ne 25, 3) := by decide +kernel
theorem dL_lays_121 : decode cL_lays 121 = .ok (.iload 5, 2) := by decide +kernel
theorem dL_lays_123 : decode cL_lays 123 = .ok (.iconst 1, 1) := by decide +kernel
theorem dL_lays_124 : decode cL_lays 124 = .ok (.iload 11, 2) := by decide +kernel
theorem dL_lays_126 : decode cL_lays 126 = .ok (.ishl, 1) := by decide +kernel
theorem dL_lays_127 : decode cL_lays 127 = .ok (.iconst 1, 1) := by decide +kernel
theorem dL_lays_128 : decode cL_lays 128 = .ok (.isub, 1) := by decide +kernel
theorem dL_lays_129 : decode cL_lays 129 = .ok (.iand, 1) := by decide +kernel
theorem dL_lays_130 : decode cL_lays 130 = .ok (.invokestatic 23, 3) := by decide +kernel
theorem dL_lays_133 : decode cL_lays 133 = .ok (.iload 9, 2) := by decide +kernel
theorem dL_lays_135 : decode cL_lays 135 = .ok (.if_icmp .ne 8, 3) := by decide +kernel
theorem dL_lays_138 : decode cL_lays 138 = .ok (.iload 11, 2) := by decide +kernel
theorem dL_lays_140 : decode cL_lays 140 = .ok (.goto 5, 3) := by decide +kernel
theorem dL_lays_143 : decode cL_lays 143 = .ok (.iload 10, 2) := by decide +kernel
theorem dL_lays_145 : decode cL_lays 145 = .ok (.istore 10, 2) := by decide +kernel
theorem dL_lays_147 : decode cL_lays 147 = .ok (.iinc 11 (-1), 3) := by decide +kernel
theorem dL_lays_150 : decode cL_lays 150 = .ok (.goto (-45), 3) := by decide +kernel
theorem dL_lays_153 : decode cL_lays 153 = .ok (.aload_n 0, 1) := by decide +kernel
theorem dL_lays_154 : decode cL_lays 154 = .ok (.bipush 6, 2) := by decide +kernel
theorem dL_lays_156 : decode cL_lays 156 = .ok (.iload_n 2, 1) := by decide +kernel
theorem dL_lays_157 : decode cL_lays 157 = .ok (.imul, 1) := by decide +kernel
theorem dL_lays_158 : decode cL_lays 158 = .ok (.iload 7, 2) := by decide +kernel
theorem dL_lays_160 : decode cL_lays 160 = .ok (.iadd, 1) := by decide +kernel
theorem dL_lays_161 : decode cL_lays 161 = .ok (.iload 10, 2) := by decide +kernel
theorem dL_lays_163 : decode cL_lays 163 = .ok (.iastore, 1) := by decide +kernel
theorem dL_lays_164 : decode cL_lays 164 = .ok (.iload 5, 2) := by decide +kernel
theorem dL_lays_166 : decode cL_lays 166 = .ok (.iconst 1, 1) := by decide +kernel
theorem dL_lays_167 : decode cL_lays 167 = .ok (.iload 10, 2) := by decide +kernel
theorem dL_lays_169 : decode cL_lays 169 = .ok (.ishl, 1) := by decide +kernel
theorem dL_lays_170 : decode cL_lays 170 = .ok (.iconst (-1), 1) := by decide +kernel
theorem dL_lays_171 : decode cL_lays 171 = .ok (.ixor, 1) := by decide +kernel
theorem dL_lays_172 : decode cL_lays 172 = .ok (.iand, 1) := by decide +kernel
theorem dL_lays_173 : decode cL_lays 173 = .ok (.istore 5, 2) := by decide +kernel
theorem dL_lays_175 : decode cL_lays 175 = .ok (.iinc 7 1, 3) := by decide +kernel
theorem dL_lays_178 : decode cL_lays 178 = .ok (.goto (-130), 3) := by decide +kernel
theorem dL_lays_181 : decode cL_lays 181 = .ok (.return_, 1) := by decide +kernel
theorem dL_copy_0 : decode cL_copy 0 = .ok (.iconst 0, 1) := by decide +kernel
theorem dL_copy_1 : decode cL_copy 1 = .ok (.istore_n 2, 1) := by decide +kernel
theorem dL_copy_2 : decode cL_copy 2 = .ok (.iload_n 2, 1) := by decide +kernel
theorem dL_copy_3 : decode cL_copy 3 = .ok (.aload_n 0, 1) := by decide +kernel
theorem dL_copy_4 : decode cL_copy 4 = .ok (.arraylength, 1) := by decide +kernel
theorem dL_copy_5 : decode cL_copy 5 = .ok (.if_icmp .ge 15, 3) := by decide +kernel
theorem dL_copy_8 : decode cL_copy 8 = .ok (.aload_n 1, 1) := by decide +kernel
theorem dL_copy_9 : decode cL_copy 9 = .ok (.iload_n 2, 1) := by decide +kernel
theorem dL_copy_10 : decode cL_copy 10 = .ok (.aload_n 0, 1) := by decide +kernel
theorem dL_copy_11 : decode cL_copy 11 = .ok (.iload_n 2, 1) := by decide +kernel
theorem dL_copy_12 : decode cL_copy 12 = .ok (.iaload, 1) := by decide +kernel
theorem dL_copy_13 : decode cL_copy 13 = .ok (.iastore, 1) := by decide +kernel
theorem dL_copy_14 : decode cL_copy 14 = .ok (.iinc 2 1, 3) := by decide +kernel
theorem dL_copy_17 : decode cL_copy 17 = .ok (.goto (-15), 3) := by decide +kernel
theorem dL_copy_20 : decode cL_copy 20 = .ok (.return_, 1) := by decide +kernel
set_option maxRecDepth 20000 in
theorem ggL_best_L_copy : GoodIn wsL_best wsL_copy := goodIn_r _ [5] (by decide +kernel) (by decide +kernel)
set_option maxRecDepth 20000 in
theorem gL_best_L_copy : GoodIn wsL_best (va_wsS RL 27 yL_copy wsL_copy) := goodIn_app (goodIn_of _ (by decide +kernel)) ggL_best_L_copy
set_option maxRecDepth 20000 in
theorem ggL_best_L_lays : GoodIn wsL_best wsL_lays := goodIn_r _ [8, 9, 10, 4, 11] (by decide +kernel) (by decide +kernel)
set_option maxRecDepth 20000 in
theorem gL_best_L_lays : GoodIn wsL_best (va_wsS RL 31 yL_lays wsL_lays) := goodIn_app (goodIn_of _ (by decide +kernel)) ggL_best_L_lays
set_option maxRecDepth 20000 in
theorem ggL_best_L_ofTwo : GoodIn wsL_best wsL_ofTwo := goodIn_r _ [14, 15, 16, 4, 17, 18, 19, 20, 21, 22, 23] (by decide +kernel) (by decide +kernel)
set_option maxRecDepth 20000 in
theorem gL_best_L_ofTwo : GoodIn wsL_best (va_wsS RL 35 yL_ofTwo wsL_ofTwo) := goodIn_app (goodIn_of _ (by decide +kernel)) ggL_best_L_ofTwo
theorem dL_best_0 : decode cL_best 0 = .ok (.iconst 1, 1) := by decide +kernel
theorem dL_best_1 : decode cL_best 1 = .ok (.istore 5, 2) := by decide +kernel
theorem dL_best_3 : decode cL_best 3 = .ok (.iconst 2, 1) := by decide +kernel
theorem dL_best_4 : decode cL_best 4 = .ok (.istore 6, 2) := by decide +kernel
theorem dL_best_6 : decode cL_best 6 = .ok (.iload 6, 2) := by decide +kernel
theorem dL_best_8 : decode cL_best 8 = .ok (.aload_n 3, 1) := by decide +kernel
theorem dL_best_9 : decode cL_best 9 = .ok (.iconst 3, 1) := by decide +kernel
theorem dL_best_10 : decode cL_best 10 = .ok (.iload 4, 2) := by decide +kernel
theorem dL_best_12 : decode cL_best 12 = .ok (.iadd, 1) := by decide +kernel
theorem dL_best_13 : decode cL_best 13 = .ok (.iaload, 1) := by decide +kernel
theorem dL_best_14 : decode cL_best 14 = .ok (.if_icmp .gt 16, 3) := by decide +kernel
theorem dL_best_17 : decode cL_best 17 = .ok (.iload 5, 2) := by decide +kernel
theorem dL_best_19 : decode cL_best 19 = .ok (.iload 6, 2) := by decide +kernel
theorem dL_best_21 : decode cL_best 21 = .ok (.imul, 1) := by decide +kernel
theorem dL_best_22 : decode cL_best 22 = .ok (.istore 5, 2) := by decide +kernel
theorem dL_best_24 : decode cL_best 24 = .ok (.iinc 6 1, 3) := by decide +kernel
theorem dL_best_27 : decode cL_best 27 = .ok (.goto (-21), 3) := by decide +kernel
theorem dL_best_30 : decode cL_best 30 = .ok (.bipush 24, 2) := by decide +kernel
theorem dL_best_32 : decode cL_best 32 = .ok (.newarray .int, 2) := by decide +kernel
theorem dL_best_34 : decode cL_best 34 = .ok (.astore 6, 2) := by decide +kernel
theorem dL_best_36 : decode cL_best 36 = .ok (.aload_n 2, 1) := by decide +kernel
theorem dL_best_37 : decode cL_best 37 = .ok (.aload 6, 2) := by decide +kernel
theorem dL_best_39 : decode cL_best 39 = .ok (.invokestatic 27, 3) := by decide +kernel
theorem dL_best_42 : decode cL_best 42 = .ok (.iconst 0, 1) := by decide +kernel
theorem dL_best_43 : decode cL_best 43 = .ok (.istore 7, 2) := by decide +kernel
theorem dL_best_45 : decode cL_best 45 = .ok (.sipush 999, 3) := by decide +kernel
theorem dL_best_48 : decode cL_best 48 = .ok (.istore 8, 2) := by decide +kernel
theorem dL_best_50 : decode cL_best 50 = .ok (.iconst 0, 1) := by decide +kernel
theorem dL_best_51 : decode cL_best 51 = .ok (.istore 9, 2) := by decide +kernel
theorem dL_best_53 : decode cL_best 53 = .ok (.iload 9, 2) := by decide +kernel
theorem dL_best_55 : decode cL_best 55 = .ok (.iload 5, 2) := by decide +kernel
theorem dL_best_57 : decode cL_best 57 = .ok (.if_icmp .ge 63, 3) := by decide +kernel
theorem dL_best_60 : decode cL_best 60 = .ok (.aload 6, 2) := by decide +kernel
theorem dL_best_62 : decode cL_best 62 = .ok (.aload_n 3, 1) := by decide +kernel
theorem dL_best_63 : decode cL_best 63 = .ok (.iload 4, 2) := by decide +kernel
theorem dL_best_65 : decode cL_best 65 = .ok (.iload 9, 2) := by decide +kernel
theorem dL_best_67 : decode cL_best 67 = .ok (.invokestatic 31, 3) := by decide +kernel
theorem dL_best_70 : decode cL_best 70 = .ok (.aload_n 0, 1) := by decide +kernel
theorem dL_best_71 : decode cL_best 71 = .ok (.aload_n 1, 1) := by decide +kernel
theorem dL_best_72 : decode cL_best 72 = .ok (.aload 6, 2) := by decide +kernel
theorem dL_best_74 : decode cL_best 74 = .ok (.aload_n 3, 1) := by decide +kernel
theorem dL_best_75 : decode cL_best 75 = .ok (.iload 4, 2) := by decide +kernel
theorem dL_best_77 : decode cL_best 77 = .ok (.invokestatic 35, 3) := by decide +kernel
theorem dL_best_80 : decode cL_best 80 = .ok (.istore 10, 2) := by decide +kernel
theorem dL_best_82 : decode cL_best 82 = .ok (.iload 10, 2) := by decide +kernel
theorem dL_best_84 : decode cL_best 84 = .ok (.iload 8, 2) := by decide +kernel
theorem dL_best_86 : decode cL_best 86 = .ok (.if_icmp .ge 8, 3) := by decide +kernel
theorem dL_best_89 : decode cL_best 89 = .ok (.iload 9, 2) := by decide +kernel
theorem dL_best_91 : decode cL_best 91 = .ok (.goto 5, 3) := by decide +kernel
theorem dL_best_94 : decode cL_best 94 = .ok (.iload 7, 2) := by decide +kernel
theorem dL_best_96 : decode cL_best 96 = .ok (.istore 7, 2) := by decide +kernel
theorem dL_best_98 : decode cL_best 98 = .ok (.iload 10, 2) := by decide +kernel
theorem dL_best_100 : decode cL_best 100 = .ok (.iload 8, 2) := by decide +kernel
theorem dL_best_102 : decode cL_best 102 = .ok (.if_icmp .ge 8, 3) := by decide +kernel
theorem dL_best_105 : decode cL_best 105 = .ok (.iload 10, 2) := by decide +kernel
theorem dL_best_107 : decode cL_best 107 = .ok (.goto 5, 3) := by decide +kernel
theorem dL_best_110 : decode cL_best 110 = .ok (.iload 8, 2) := by decide +kernel
theorem dL_best_112 : decode cL_best 112 = .ok (.istore 8, 2) := by decide +kernel
theorem dL_best_114 : decode cL_best 114 = .ok (.iinc 9 1, 3) := by decide +kernel
theorem dL_best_117 : decode cL_best 117 = .ok (.goto (-64), 3) := by decide +kernel
theorem dL_best_120 : decode cL_best 120 = .ok (.iload 7, 2) := by decide +kernel
theorem dL_best_122 : decode cL_best 122 = .ok (.ireturn, 1) := by decide +kernel
set_option maxRecDepth 20000 in
theorem ggL_arePeople_X7_count : GoodIn wsL_arePeople wsX7_count := goodIn_ca (goodIn_r _ [5, 6, 7, 8, 9, 10, 11, 12, 13, 14, 15, 16, 17, 18, 19, 20, 21, 22, 23, 24, 25, 26, 27, 28, 29, 30, 31, 32, 4, 33, 34, 35, 36, 37, 38, 39, 40, 41, 42, 43, 44, 45, 46, 47, 48, 49, 50, 51, 52, 53, 54, 55, 56, 57, 58, 59, 60, 61, 62, 63, 64, 65, 66, 67, 68, 69, 70, 71, 72, 73, 74, 75, 76, 77, 78, 79, 80, 81, 82, 83, 84, 85, 86, 87, 88, 89, 90, 91, 92, 93, 94, 95, 96, 97, 98, 99, 100, 101, 102, 103, 104, 105, 106, 107, 108, 109, 110, 111, 112, 113, 114, 115, 116, 117, 118, 119, 120, 121, 122, 123, 124, 125, 126, 127, 128, 129, 130, 131, 132, 133, 134, 135, 187, 188, 189, 190, 191, 192, 193, 194, 195, 196, 197, 198, 199, 200, 201, 202, 203, 204, 205, 206, 207, 208, 209, 210] (by decide +kernel) (by decide +kernel)) (goodIn_sub (fun _ h => List.mem_cons_of_mem _ (List.mem_append_left _ (List.mem_append_right _ h))) (by decide +kernel))
set_option maxRecDepth 20000 in
theorem gL_arePeople_X7_count : GoodIn wsL_arePeople (wsV RL 38 RX7 yX7_count wsX7_count) := goodIn_app (goodIn_of _ (by decide +kernel)) ggL_arePeople_X7_count
set_option maxRecDepth 20000 in
theorem ggL_arePeople_L_ancestors : GoodIn wsL_arePeople wsL_ancestors := goodIn_r _ [139] (by decide +kernel) (by decide +kernel)
set_option maxRecDepth 20000 in
theorem gL_arePeople_L_ancestors : GoodIn wsL_arePeople (va_wsS RL 43 yL_ancestors wsL_ancestors) := goodIn_app (goodIn_of _ (by decide +kernel)) ggL_arePeople_L_ancestors
set_option maxRecDepth 20000 in
theorem ggL_arePeople_X7_personOf : GoodIn wsL_arePeople wsX7_personOf := goodIn_ca (goodIn_ca (goodIn_r _ [143, 144, 145, 6, 7, 8, 146, 63, 64, 13, 65, 15, 147, 148, 149, 150, 151, 62, 152, 77, 78, 79, 80, 153, 59, 60, 61, 29, 154, 99, 100, 101, 20, 70, 71, 155, 156, 157, 158, 25, 26, 27, 28, 159, 160, 104, 161, 162, 11, 12, 14, 117, 118, 119, 120, 110, 111, 112, 113, 72, 73, 74, 75, 121, 122, 123, 124, 163, 164, 165, 166, 167, 168, 169, 170, 115, 116, 187, 188, 189, 190, 191, 192, 193, 194, 195, 196, 197, 198, 199, 200, 201, 202, 203, 204] (by decide +kernel) (by decide +kernel)) (goodIn_sub (fun _ h => List.mem_cons_of_mem _ (List.mem_append_right _ h)) (by decide +kernel))) (goodIn_sub (fun _ h => List.mem_cons_of_mem _ (List.mem_append_left _ (List.mem_append_right _ h))) (by decide +kernel))
set_option maxRecDepth 20000 in
theorem gL_arePeople_X7_personOf : GoodIn wsL_arePeople (wsV RL 46 RX7 yX7_personOf wsX7_personOf) := goodIn_app (goodIn_of _ (by decide +kernel)) ggL_arePeople_X7_personOf
set_option maxRecDepth 20000 in
theorem ggL_arePeople_L_place : GoodIn wsL_arePeople wsL_place := goodIn_r _ [173] (by decide +kernel) (by decide +kernel)
set_option maxRecDepth 20000 in
theorem gL_arePeople_L_place : GoodIn wsL_arePeople (va_wsS RL 9 yL_place wsL_place) := goodIn_app (goodIn_of _ (by decide +kernel)) ggL_arePeople_L_place
set_option maxRecDepth 20000 in
theorem ggL_arePeople_L_couples : GoodIn wsL_arePeople wsL_couples := goodIn_r _ [176] (by decide +kernel) (by decide +kernel)
set_option maxRecDepth 20000 in
theorem gL_arePeople_L_couples : GoodIn wsL_arePeople (va_wsS RL 50 yL_couples wsL_couples) := goodIn_app (goodIn_of _ (by decide +kernel)) ggL_arePeople_L_couples
set_option maxRecDepth 20000 in
theorem ggL_arePeople_L_ones : GoodIn wsL_arePeople wsL_ones := goodIn_r _ [179] (by decide +kernel) (by decide +kernel)
set_option maxRecDepth 20000 in
theorem gL_arePeople_L_ones : GoodIn wsL_arePeople (va_wsS RL 23 yL_ones wsL_ones) := goodIn_app (goodIn_of _ (by decide +kernel)) ggL_arePeople_L_ones
set_option maxRecDepth 20000 in
theorem ggL_arePeople_L_middle : GoodIn wsL_arePeople wsL_middle := goodIn_r _ [182, 171, 172, 138, 173] (by decide +kernel) (by decide +kernel)
set_option maxRecDepth 20000 in
theorem gL_arePeople_L_middle : GoodIn wsL_arePeople (va_wsS RL 15 yL_middle wsL_middle) := goodIn_app (goodIn_of _ (by decide +kernel)) ggL_arePeople_L_middle
set_option maxRecDepth 20000 in
theorem ggL_arePeople_X7_straightShare : GoodIn wsL_arePeople wsX7_straightShare := goodIn_r _ [186, 8, 21, 22, 23, 13, 24, 15, 25, 26, 27, 28, 29, 85, 86, 87, 88, 80, 89, 55, 56, 57, 58, 59, 60, 61, 62, 63, 64, 65, 66, 67, 68, 69, 70, 71, 72, 73, 74, 75, 20, 76, 77, 78, 79, 187, 188, 189, 190, 191, 192, 193, 194, 195, 196, 197, 198, 199, 200, 201, 202, 203, 204] (by decide +kernel) (by decide +kernel)
set_option maxRecDepth 20000 in
theorem gL_arePeople_X7_straightShare : GoodIn wsL_arePeople (wsV RL 53 RX7 yX7_straightShare wsX7_straightShare) := goodIn_app (goodIn_of _ (by decide +kernel)) ggL_arePeople_X7_straightShare
theorem dL_arePeople_0 : decode cL_arePeople 0 = .ok (.iconst 0, 1) := by decide +kernel
theorem dL_arePeople_1 : decode cL_arePeople 1 = .ok (.istore 5, 2) := by decide +kernel
theorem dL_arePeople_3 : decode cL_arePeople 3 = .ok (.iconst 0, 1) := by decide +kernel
theorem dL_arePeople_4 : decode cL_arePeople 4 = .ok (.istore 6, 2) := by decide +kernel
theorem dL_arePeople_6 : decode cL_arePeople 6 = .ok (.iconst 0, 1) := by decide +kernel
theorem dL_arePeople_7 : decode cL_arePeople 7 = .ok (.istore 7, 2) := by decide +kernel
theorem dL_arePeople_9 : decode cL_arePeople 9 = .ok (.aload_n 0, 1) := by decide +kernel
theorem dL_arePeople_10 : decode cL_arePeople 10 = .ok (.iconst 0, 1) := by decide +kernel
theorem dL_arePeople_11 : decode cL_arePeople 11 = .ok (.invokevirtual 38, 3) := by decide +kernel
theorem dL_arePeople_14 : decode cL_arePeople 14 = .ok (.aload 4, 2) := by decide +kernel
theorem dL_arePeople_16 : decode cL_arePeople 16 = .ok (.iconst 0, 1) := by decide +kernel
theorem dL_arePeople_17 : decode cL_arePeople 17 = .ok (.iaload, 1) := by decide +kernel
theorem dL_arePeople_18 : decode cL_arePeople 18 = .ok (.if_icmp .ne 7, 3) := by decide +kernel
theorem dL_arePeople_21 : decode cL_arePeople 21 = .ok (.iconst 1, 1) := by decide +kernel
theorem dL_arePeople_22 : decode cL_arePeople 22 = .ok (.goto 4, 3) := by decide +kernel
theorem dL_arePeople_25 : decode cL_arePeople 25 = .ok (.iconst 0, 1) := by decide +kernel
theorem dL_arePeople_26 : decode cL_arePeople 26 = .ok (.istore 8, 2) := by decide +kernel
theorem dL_arePeople_28 : decode cL_arePeople 28 = .ok (.iconst 0, 1) := by decide +kernel
theorem dL_arePeople_29 : decode cL_arePeople 29 = .ok (.istore 9, 2) := by decide +kernel
theorem dL_arePeople_31 : decode cL_arePeople 31 = .ok (.iload 9, 2) := by decide +kernel
theorem dL_arePeople_33 : decode cL_arePeople 33 = .ok (.aload 4, 2) := by decide +kernel
theorem dL_arePeople_35 : decode cL_arePeople 35 = .ok (.iconst 0, 1) := by decide +kernel
theorem dL_arePeople_36 : decode cL_arePeople 36 = .ok (.iaload, 1) := by decide +kernel
theorem dL_arePeople_37 : decode cL_arePeople 37 = .ok (.if_icmp .ge 313, 3) := by decide +kernel
theorem dL_arePeople_40 : decode cL_arePeople 40 = .ok (.iload 8, 2) := by decide +kernel
theorem dL_arePeople_42 : decode cL_arePeople 42 = .ok (.ifCond .eq 308, 3) := by decide +kernel
theorem dL_arePeople_45 : decode cL_arePeople 45 = .ok (.iconst 0, 1) := by decide +kernel
theorem dL_arePeople_46 : decode cL_arePeople 46 = .ok (.istore 10, 2) := by decide +kernel
theorem dL_arePeople_48 : decode cL_arePeople 48 = .ok (.iconst 0, 1) := by decide +kernel
theorem dL_arePeople_49 : decode cL_arePeople 49 = .ok (.istore 11, 2) := by decide +kernel
theorem dL_arePeople_51 : decode cL_arePeople 51 = .ok (.aload_n 1, 1) := by decide +kernel
theorem dL_arePeople_52 : decode cL_arePeople 52 = .ok (.iconst 2, 1) := by decide +kernel
theorem dL_arePeople_53 : decode cL_arePeople 53 = .ok (.iload 9, 2) := by decide +kernel
theorem dL_arePeople_55 : decode cL_arePeople 55 = .ok (.imul, 1) := by decide +kernel
theorem dL_arePeople_56 : decode cL_arePeople 56 = .ok (.iconst 1, 1) := by decide +kernel
theorem dL_arePeople_57 : decode cL_arePeople 57 = .ok (.iadd, 1) := by decide +kernel
theorem dL_arePeople_58 : decode cL_arePeople 58 = .ok (.iaload, 1) := by decide +kernel
theorem dL_arePeople_59 : decode cL_arePeople 59 = .ok (.istore 12, 2) := by decide +kernel
theorem dL_arePeople_61 : decode cL_arePeople 61 = .ok (.iconst 0, 1) := by decide +kernel
theorem dL_arePeople_62 : decode cL_arePeople 62 = .ok (.istore 13, 2) := by decide +kernel
theorem dL_arePeople_64 : decode cL_arePeople 64 = .ok (.iload 13, 2) := by decide +kernel
theorem dL_arePeople_66 : decode cL_arePeople 66 = .ok (.aload 4, 2) := by decide +kernel
theorem dL_arePeople_68 : decode cL_arePeople 68 = .ok (.iconst 0, 1) := by decide +kernel
theorem dL_arePeople_69 : decode cL_arePeople 69 = .ok (.iaload, 1) := by decide +kernel
theorem dL_arePeople_70 : decode cL_arePeople 70 = .ok (.if_icmp .ge 85, 3) := by decide +kernel
theorem dL_arePeople_73 : decode cL_arePeople 73 = .ok (.iload 10, 2) := by decide +kernel
theorem dL_arePeople_75 : decode cL_arePeople 75 = .ok (.aload_n 1, 1) := by decide +kernel
theorem dL_arePeople_76 : decode cL_arePeople 76 = .ok (.aload_n 2, 1) := by decide +kernel
theorem dL_arePeople_77 : decode cL_arePeople 77 = .ok (.aload 4, 2) := by decide +kernel
theorem dL_arePeople_79 : decode cL_arePeople 79 = .ok (.iload 13, 2) := by decide +kernel
theorem dL_arePeople_81 : decode cL_arePeople 81 = .ok (.invokestatic 43, 3) := by decide +kernel
theorem dL_arePeople_84 : decode cL_arePeople 84 = .ok (.iload 9, 2) := by decide +kernel
theorem dL_arePeople_86 : decode cL_arePeople 86 = .ok (.ishr, 1) := by decide +kernel
theorem dL_arePeople_87 : decode cL_arePeople 87 = .ok (.iconst 1, 1) := by decide +kernel
theorem dL_arePeople_88 : decode cL_arePeople 88 = .ok (.iand, 1) := by decide +kernel
theorem dL_arePeople_89 : decode cL_arePeople 89 = .ok (.iadd, 1) := by decide +kernel
theorem dL_arePeople_90 : decode cL_arePeople 90 = .ok (.istore 10, 2) := by decide +kernel
theorem dL_arePeople_92 : decode cL_arePeople 92 = .ok (.iload 11, 2) := by decide +kernel
theorem dL_arePeople_94 : decode cL_arePeople 94 = .ok (.aload_n 1, 1) := by decide +kernel
theorem dL_arePeople_95 : decode cL_arePeople 95 = .ok (.iconst 2, 1) := by decide +kernel
theorem dL_arePeople_96 : decode cL_arePeople 96 = .ok (.iload 13, 2) := by decide +kernel
theorem dL_arePeople_98 : decode cL_arePeople 98 = .ok (.imul, 1) := by decide +kernel
theorem dL_arePeople_99 : decode cL_arePeople 99 = .ok (.iconst 1, 1) := by decide +kernel
theorem dL_arePeople_100 : decode cL_arePeople 100 = .ok (.iadd, 1) := by decide +kernel
theorem dL_arePeople_101 : decode cL_arePeople 101 = .ok (.iaload, 1) := by decide +kernel
theorem dL_arePeople_102 : decode cL_arePeople 102 = .ok (.ifCond .lt 43, 3) := by decide +kernel
theorem dL_arePeople_105 : decode cL_arePeople 105 = .ok (.aload_n 2, 1) := by decide +kernel
theorem dL_arePeople_106 : decode cL_arePeople 106 = .ok (.iconst 2, 1) := by decide +kernel
theorem dL_arePeople_107 : decode cL_arePeople 107 = .ok (.aload_n 1, 1) := by decide +kernel
theorem dL_arePeople_108 : decode cL_arePeople 108 = .ok (.iconst 2, 1) := by decide +kernel
theorem dL_arePeople_109 : decode cL_arePeople 109 = .ok (.iload 13, 2) := by decide +kernel
theorem dL_arePeople_111 : decode cL_arePeople 111 = .ok (.imul, 1) := by decide +kernel
theorem dL_arePeople_112 : decode cL_arePeople 112 = .ok (.iconst 1, 1) := by decide +kernel
theorem dL_arePeople_113 : decode cL_arePeople 113 = .ok (.iadd, 1) := by decide +kernel
theorem dL_arePeople_114 : decode cL_arePeople 114 = .ok (.iaload, 1) := by decide +kernel
theorem dL_arePeople_115 : decode cL_arePeople 115 = .ok (.imul, 1) := by decide +kernel
theorem dL_arePeople_116 : decode cL_arePeople 116 = .ok (.iaload, 1) := by decide +kernel
theorem dL_arePeople_117 : decode cL_arePeople 117 = .ok (.iload 9, 2) := by decide +kernel
theorem dL_arePeople_119 : decode cL_arePeople 119 = .ok (.if_icmp .eq 22, 3) := by decide +kernel
theorem dL_arePeople_122 : decode cL_arePeople 122 = .ok (.aload_n 2, 1) := by decide +kernel
theorem dL_arePeople_123 : decode cL_arePeople 123 = .ok (.iconst 2, 1) := by decide +kernel
theorem dL_arePeople_124 : decode cL_arePeople 124 = .ok (.aload_n 1, 1) := by decide +kernel
theorem dL_arePeople_125 : decode cL_arePeople 125 = .ok (.iconst 2, 1) := by decide +kernel
theorem dL_arePeople_126 : decode cL_arePeople 126 = .ok (.iload 13, 2) := by decide +kernel
theorem dL_arePeople_128 : decode cL_arePeople 128 = .ok (.imul, 1) := by decide +kernel
theorem dL_arePeople_129 : decode cL_arePeople 129 = .ok (.iconst 1, 1) := by decide +kernel
theorem dL_arePeople_130 : decode cL_arePeople 130 = .ok (.iadd, 1) := by decide +kernel
theorem dL_arePeople_131 : decode cL_arePeople 131 = .ok (.iaload, 1) := by decide +kernel
theorem dL_arePeople_132 : decode cL_arePeople 132 = .ok (.imul, 1) := by decide +kernel
theorem dL_arePeople_133 : decode cL_arePeople 133 = .ok (.iconst 1, 1) := by decide +kernel
theorem dL_arePeople_134 : decode cL_arePeople 134 = .ok (.iadd, 1) := by decide +kernel
theorem dL_arePeople_135 : decode cL_arePeople 135 = .ok (.iaload, 1) := by decide +kernel
theorem dL_arePeople_136 : decode cL_arePeople 136 = .ok (.iload 9, 2) := by decide +kernel
theorem dL_arePeople_138 : decode cL_arePeople 138 = .ok (.if_icmp .ne 7, 3) := by decide +kernel
theorem dL_arePeople_141 : decode cL_arePeople 141 = .ok (.iconst 1, 1) := by decide +kernel
theorem dL_arePeople_142 : decode cL_arePeople 142 = .ok (.goto 4, 3) := by decide +kernel
theorem dL_arePeople_145 : decode cL_arePeople 145 = .ok (.iconst 0, 1) := by decide +kernel
theorem dL_arePeople_146 : decode cL_arePeople 146 = .ok (.iadd, 1) := by decide +kernel
theorem dL_arePeople_147 : decode cL_arePeople 147 = .ok (.istore 11, 2) := by decide +kernel
theorem dL_arePeople_149 : decode cL_arePeople 149 = .ok (.iinc 13 1, 3) := by decide +kernel
theorem dL_arePeople_152 : decode cL_arePeople 152 = .ok (.goto (-88), 3) := by decide +kernel
theorem dL_arePeople_155 : decode cL_arePeople 155 = .ok (.aload_n 0, 1) := by decide +kernel
theorem dL_arePeople_156 : decode cL_arePeople 156 = .ok (.iload 9, 2) := by decide +kernel
theorem dL_arePeople_158 : decode cL_arePeople 158 = .ok (.iconst 0, 1) := by decide +kernel
theorem dL_arePeople_159 : decode cL_arePeople 159 = .ok (.invokevirtual 46, 3) := by decide +kernel
theorem dL_arePeople_162 : decode cL_arePeople 162 = .ok (.aload_n 1, 1) := by decide +kernel
theorem dL_arePeople_163 : decode cL_arePeople 163 = .ok (.iconst 2, 1) := by decide +kernel
theorem dL_arePeople_164 : decode cL_arePeople 164 = .ok (.iload 9, 2) := by decide +kernel
theorem dL_arePeople_166 : decode cL_arePeople 166 = .ok (.imul, 1) := by decide +kernel
theorem dL_arePeople_167 : decode cL_arePeople 167 = .ok (.iaload, 1) := by decide +kernel
theorem dL_arePeople_168 : decode cL_arePeople 168 = .ok (.if_icmp .ne 101, 3) := by decide +kernel
theorem dL_arePeople_171 : decode cL_arePeople 171 = .ok (.aload_n 0, 1) := by decide +kernel
theorem dL_arePeople_172 : decode cL_arePeople 172 = .ok (.iload 9, 2) := by decide +kernel
theorem dL_arePeople_174 : decode cL_arePeople 174 = .ok (.iconst 1, 1) := by decide +kernel
theorem dL_arePeople_175 : decode cL_arePeople 175 = .ok (.invokevirtual 46, 3) := by decide +kernel
theorem dL_arePeople_178 : decode cL_arePeople 178 = .ok (.aload_n 1, 1) := by decide +kernel
theorem dL_arePeople_179 : decode cL_arePeople 179 = .ok (.aload_n 3, 1) := by decide +kernel
theorem dL_arePeople_180 : decode cL_arePeople 180 = .ok (.iload 9, 2) := by decide +kernel
theorem dL_arePeople_182 : decode cL_arePeople 182 = .ok (.invokestatic 9, 3) := by decide +kernel
theorem dL_arePeople_185 : decode cL_arePeople 185 = .ok (.if_icmp .ne 84, 3) := by decide +kernel
theorem dL_arePeople_188 : decode cL_arePeople 188 = .ok (.aload_n 0, 1) := by decide +kernel
theorem dL_arePeople_189 : decode cL_arePeople 189 = .ok (.iload 9, 2) := by decide +kernel
theorem dL_arePeople_191 : decode cL_arePeople 191 = .ok (.iconst 2, 1) := by decide +kernel
theorem dL_arePeople_192 : decode cL_arePeople 192 = .ok (.invokevirtual 46, 3) := by decide +kernel
theorem dL_arePeople_195 : decode cL_arePeople 195 = .ok (.iload 12, 2) := by decide +kernel
theorem dL_arePeople_197 : decode cL_arePeople 197 = .ok (.if_icmp .ne 72, 3) := by decide +kernel
theorem dL_arePeople_200 : decode cL_arePeople 200 = .ok (.aload_n 0, 1) := by decide +kernel
theorem dL_arePeople_201 : decode cL_arePeople 201 = .ok (.iload 9, 2) := by decide +kernel
theorem dL_arePeople_203 : decode cL_arePeople 203 = .ok (.iconst 3, 1) := by decide +kernel
theorem dL_arePeople_204 : decode cL_arePeople 204 = .ok (.invokevirtual 46, 3) := by decide +kernel
theorem dL_arePeople_207 : decode cL_arePeople 207 = .ok (.aload_n 2, 1) := by decide +kernel
theorem dL_arePeople_208 : decode cL_arePeople 208 = .ok (.aload 4, 2) := by decide +kernel
theorem dL_arePeople_210 : decode cL_arePeople 210 = .ok (.iload 9, 2) := by decide +kernel
theorem dL_arePeople_212 : decode cL_arePeople 212 = .ok (.invokestatic 50, 3) := by decide +kernel
theorem dL_arePeople_215 : decode cL_arePeople 215 = .ok (.if_icmp .ne 54, 3) := by decide +kernel
theorem dL_arePeople_218 : decode cL_arePeople 218 = .ok (.aload_n 0, 1) := by decide +kernel
theorem dL_arePeople_219 : decode cL_arePeople 219 = .ok (.iload 9, 2) := by decide +kernel
theorem dL_arePeople_221 : decode cL_arePeople 221 = .ok (.iconst 4, 1) := by decide +kernel
theorem dL_arePeople_222 : decode cL_arePeople 222 = .ok (.invokevirtual 46, 3) := by decide +kernel
theorem dL_arePeople_225 : decode cL_arePeople 225 = .ok (.iload 11, 2) := by decide +kernel
theorem dL_arePeople_227 : decode cL_arePeople 227 = .ok (.if_icmp .ne 42, 3) := by decide +kernel
theorem dL_arePeople_230 : decode cL_arePeople 230 = .ok (.aload_n 0, 1) := by decide +kernel
theorem dL_arePeople_231 : decode cL_arePeople 231 = .ok (.iload 9, 2) := by decide +kernel
theorem dL_arePeople_233 : decode cL_arePeople 233 = .ok (.iconst 5, 1) := by decide +kernel
theorem dL_arePeople_234 : decode cL_arePeople 234 = .ok (.invokevirtual 46, 3) := by decide +kernel
theorem dL_arePeople_237 : decode cL_arePeople 237 = .ok (.iload 10, 2) := by decide +kernel
theorem dL_arePeople_239 : decode cL_arePeople 239 = .ok (.if_icmp .ne 30, 3) := by decide +kernel
theorem dL_arePeople_242 : decode cL_arePeople 242 = .ok (.aload_n 0, 1) := by decide +kernel
theorem dL_arePeople_243 : decode cL_arePeople 243 = .ok (.iload 9, 2) := by decide +kernel
theorem dL_arePeople_245 : decode cL_arePeople 245 = .ok (.bipush 6, 2) := by decide +kernel
theorem dL_arePeople_247 : decode cL_arePeople 247 = .ok (.invokevirtual 46, 3) := by decide +kernel
theorem dL_arePeople_250 : decode cL_arePeople 250 = .ok (.aload_n 1, 1) := by decide +kernel
theorem dL_arePeople_251 : decode cL_arePeople 251 = .ok (.aload_n 2, 1) := by decide +kernel
theorem dL_arePeople_252 : decode cL_arePeople 252 = .ok (.aload 4, 2) := by decide +kernel
theorem dL_arePeople_254 : decode cL_arePeople 254 = .ok (.iload 9, 2) := by decide +kernel
theorem dL_arePeople_256 : decode cL_arePeople 256 = .ok (.invokestatic 43, 3) := by decide +kernel
theorem dL_arePeople_259 : decode cL_arePeople 259 = .ok (.invokestatic 23, 3) := by decide +kernel
theorem dL_arePeople_262 : decode cL_arePeople 262 = .ok (.if_icmp .ne 7, 3) := by decide +kernel
theorem dL_arePeople_265 : decode cL_arePeople 265 = .ok (.iconst 1, 1) := by decide +kernel
theorem dL_arePeople_266 : decode cL_arePeople 266 = .ok (.goto 4, 3) := by decide +kernel
theorem dL_arePeople_269 : decode cL_arePeople 269 = .ok (.iconst 0, 1) := by decide +kernel
theorem dL_arePeople_270 : decode cL_arePeople 270 = .ok (.istore 8, 2) := by decide +kernel
theorem dL_arePeople_272 : decode cL_arePeople 272 = .ok (.iload 5, 2) := by decide +kernel
theorem dL_arePeople_274 : decode cL_arePeople 274 = .ok (.iload 12, 2) := by decide +kernel
theorem dL_arePeople_276 : decode cL_arePeople 276 = .ok (.ifCond .lt 7, 3) := by decide +kernel
theorem dL_arePeople_279 : decode cL_arePeople 279 = .ok (.iconst 1, 1) := by decide +kernel
theorem dL_arePeople_280 : decode cL_arePeople 280 = .ok (.goto 4, 3) := by decide +kernel
theorem dL_arePeople_283 : decode cL_arePeople 283 = .ok (.iconst 0, 1) := by decide +kernel
theorem dL_arePeople_284 : decode cL_arePeople 284 = .ok (.iadd, 1) := by decide +kernel
theorem dL_arePeople_285 : decode cL_arePeople 285 = .ok (.istore 5, 2) := by decide +kernel
theorem dL_arePeople_287 : decode cL_arePeople 287 = .ok (.iload 6, 2) := by decide +kernel
theorem dL_arePeople_289 : decode cL_arePeople 289 = .ok (.iload 12, 2) := by decide +kernel
theorem dL_arePeople_291 : decode cL_arePeople 291 = .ok (.ifCond .lt 27, 3) := by decide +kernel
theorem dL_arePeople_294 : decode cL_arePeople 294 = .ok (.aload_n 1, 1) := by decide +kernel
theorem dL_arePeople_295 : decode cL_arePeople 295 = .ok (.aload_n 2, 1) := by decide +kernel
theorem dL_arePeople_296 : decode cL_arePeople 296 = .ok (.aload_n 3, 1) := by decide +kernel
theorem dL_arePeople_297 : decode cL_arePeople 297 = .ok (.iload 12, 2) := by decide +kernel
theorem dL_arePeople_299 : decode cL_arePeople 299 = .ok (.invokestatic 15, 3) := by decide +kernel
theorem dL_arePeople_302 : decode cL_arePeople 302 = .ok (.iconst 2, 1) := by decide +kernel
theorem dL_arePeople_303 : decode cL_arePeople 303 = .ok (.aload_n 1, 1) := by decide +kernel
theorem dL_arePeople_304 : decode cL_arePeople 304 = .ok (.aload_n 3, 1) := by decide +kernel
theorem dL_arePeople_305 : decode cL_arePeople 305 = .ok (.iload 9, 2) := by decide +kernel
theorem dL_arePeople_307 : decode cL_arePeople 307 = .ok (.invokestatic 9, 3) := by decide +kernel
theorem dL_arePeople_310 : decode cL_arePeople 310 = .ok (.imul, 1) := by decide +kernel
theorem dL_arePeople_311 : decode cL_arePeople 311 = .ok (.if_icmp .eq 7, 3) := by decide +kernel
theorem dL_arePeople_314 : decode cL_arePeople 314 = .ok (.iconst 1, 1) := by decide +kernel
theorem dL_arePeople_315 : decode cL_arePeople 315 = .ok (.goto 4, 3) := by decide +kernel
theorem dL_arePeople_318 : decode cL_arePeople 318 = .ok (.iconst 0, 1) := by decide +kernel
theorem dL_arePeople_319 : decode cL_arePeople 319 = .ok (.iadd, 1) := by decide +kernel
theorem dL_arePeople_320 : decode cL_arePeople 320 = .ok (.istore 6, 2) := by decide +kernel
theorem dL_arePeople_322 : decode cL_arePeople 322 = .ok (.iload 7, 2) := by decide +kernel
theorem dL_arePeople_324 : decode cL_arePeople 324 = .ok (.aload_n 2, 1) := by decide +kernel
theorem dL_arePeople_325 : decode cL_arePeople 325 = .ok (.aload 4, 2) := by decide +kernel
theorem dL_arePeople_327 : decode cL_arePeople 327 = .ok (.iload 9, 2) := by decide +kernel
theorem dL_arePeople_329 : decode cL_arePeople 329 = .ok (.invokestatic 50, 3) := by decide +kernel
theorem dL_arePeople_332 : decode cL_arePeople 332 = .ok (.iconst 1, 1) := by decide +kernel
theorem dL_arePeople_333 : decode cL_arePeople 333 = .ok (.if_icmp .le 7, 3) := by decide +kernel
theorem dL_arePeople_336 : decode cL_arePeople 336 = .ok (.iconst 1, 1) := by decide +kernel
theorem dL_arePeople_337 : decode cL_arePeople 337 = .ok (.goto 4, 3) := by decide +kernel
theorem dL_arePeople_340 : decode cL_arePeople 340 = .ok (.iconst 0, 1) := by decide +kernel
theorem dL_arePeople_341 : decode cL_arePeople 341 = .ok (.iadd, 1) := by decide +kernel
theorem dL_arePeople_342 : decode cL_arePeople 342 = .ok (.istore 7, 2) := by decide +kernel
theorem dL_arePeople_344 : decode cL_arePeople 344 = .ok (.iinc 9 1, 3) := by decide +kernel
theorem dL_arePeople_347 : decode cL_arePeople 347 = .ok (.goto (-316), 3) := by decide +kernel
theorem dL_arePeople_350 : decode cL_arePeople 350 = .ok (.iload 8, 2) := by decide +kernel
theorem dL_arePeople_352 : decode cL_arePeople 352 = .ok (.ifCond .eq 64, 3) := by decide +kernel
theorem dL_arePeople_355 : decode cL_arePeople 355 = .ok (.aload_n 0, 1) := by decide +kernel
theorem dL_arePeople_356 : decode cL_arePeople 356 = .ok (.iconst 2, 1) := by decide +kernel
theorem dL_arePeople_357 : decode cL_arePeople 357 = .ok (.invokevirtual 38, 3) := by decide +kernel
theorem dL_arePeople_360 : decode cL_arePeople 360 = .ok (.iload 5, 2) := by decide +kernel
theorem dL_arePeople_362 : decode cL_arePeople 362 = .ok (.if_icmp .ne 54, 3) := by decide +kernel
theorem dL_arePeople_365 : decode cL_arePeople 365 = .ok (.aload_n 0, 1) := by decide +kernel
theorem dL_arePeople_366 : decode cL_arePeople 366 = .ok (.iconst 4, 1) := by decide +kernel
theorem dL_arePeople_367 : decode cL_arePeople 367 = .ok (.invokevirtual 38, 3) := by decide +kernel
theorem dL_arePeople_370 : decode cL_arePeople 370 = .ok (.iload 6, 2) := by decide +kernel
theorem dL_arePeople_372 : decode cL_arePeople 372 = .ok (.if_icmp .ne 44, 3) := by decide +kernel
theorem dL_arePeople_375 : decode cL_arePeople 375 = .ok (.aload_n 0, 1) := by decide +kernel
theorem dL_arePeople_376 : decode cL_arePeople 376 = .ok (.iconst 5, 1) := by decide +kernel
theorem dL_arePeople_377 : decode cL_arePeople 377 = .ok (.invokevirtual 38, 3) := by decide +kernel
theorem dL_arePeople_380 : decode cL_arePeople 380 = .ok (.iload 7, 2) := by decide +kernel
theorem dL_arePeople_382 : decode cL_arePeople 382 = .ok (.if_icmp .ne 34, 3) := by decide +kernel
theorem dL_arePeople_385 : decode cL_arePeople 385 = .ok (.aload_n 0, 1) := by decide +kernel
theorem dL_arePeople_386 : decode cL_arePeople 386 = .ok (.invokevirtual 53, 3) := by decide +kernel
theorem dL_arePeople_389 : decode cL_arePeople 389 = .ok (.iload 5, 2) := by decide +kernel
theorem dL_arePeople_391 : decode cL_arePeople 391 = .ok (.ifCond .ne 7, 3) := by decide +kernel
theorem dL_arePeople_394 : decode cL_arePeople 394 = .ok (.dconst 1, 1) := by decide +kernel
theorem dL_arePeople_395 : decode cL_arePeople 395 = .ok (.goto 13, 3) := by decide +kernel
theorem dL_arePeople_398 : decode cL_arePeople 398 = .ok (.iload 5, 2) := by decide +kernel
theorem dL_arePeople_400 : decode cL_arePeople 400 = .ok (.iload 6, 2) := by decide +kernel
theorem dL_arePeople_402 : decode cL_arePeople 402 = .ok (.isub, 1) := by decide +kernel
theorem dL_arePeople_403 : decode cL_arePeople 403 = .ok (.i2d, 1) := by decide +kernel
theorem dL_arePeople_404 : decode cL_arePeople 404 = .ok (.iload 5, 2) := by decide +kernel
theorem dL_arePeople_406 : decode cL_arePeople 406 = .ok (.i2d, 1) := by decide +kernel
theorem dL_arePeople_407 : decode cL_arePeople 407 = .ok (.ddiv, 1) := by decide +kernel
theorem dL_arePeople_408 : decode cL_arePeople 408 = .ok (.dcmp .l, 1) := by decide +kernel
theorem dL_arePeople_409 : decode cL_arePeople 409 = .ok (.ifCond .ne 7, 3) := by decide +kernel
theorem dL_arePeople_412 : decode cL_arePeople 412 = .ok (.iconst 1, 1) := by decide +kernel
theorem dL_arePeople_413 : decode cL_arePeople 413 = .ok (.goto 4, 3) := by decide +kernel
theorem dL_arePeople_416 : decode cL_arePeople 416 = .ok (.iconst 0, 1) := by decide +kernel
theorem dL_arePeople_417 : decode cL_arePeople 417 = .ok (.ireturn, 1) := by decide +kernel
set_option maxRecDepth 20000 in
theorem ggL_areRows_X7_count : GoodIn wsL_areRows wsX7_count := goodIn_ca (goodIn_r _ [5, 6, 7, 8, 9, 10, 11, 12, 13, 14, 15, 16, 17, 18, 19, 20, 21, 22, 23, 24, 25, 26, 27, 28, 29, 30, 31, 32, 4, 33, 34, 35, 36, 37, 38, 39, 40, 41, 42, 43, 44, 45, 46, 47, 48, 49, 50, 51, 52, 53, 54, 55, 56, 57, 58, 59, 60, 61, 62, 63, 64, 65, 66, 67, 68, 69, 70, 71, 72, 73, 74, 75, 76, 77, 78, 79, 80, 81, 82, 83, 84, 85, 86, 87, 88, 89, 90, 91, 92, 93, 94, 95, 96, 97, 98, 99, 100, 101, 102, 103, 104, 105, 106, 107, 108, 109, 110, 111, 112, 113, 114, 115, 116, 117, 118, 119, 120, 121, 122, 123, 124, 125, 126, 127, 128, 129, 130, 131, 132, 133, 134, 135, 199, 200, 201, 202, 203, 204, 205, 206, 207, 208, 209, 210, 211, 212, 213, 214, 215, 216, 217, 218, 219, 220, 221, 222] (by decide +kernel) (by decide +kernel)) (goodIn_sub (fun _ h => List.mem_cons_of_mem _ (List.mem_append_left _ (List.mem_append_right _ h))) (by decide +kernel))
set_option maxRecDepth 20000 in
theorem gL_areRows_X7_count : GoodIn wsL_areRows (wsV RL 38 RX7 yX7_count wsX7_count) := goodIn_app (goodIn_of _ (by decide +kernel)) ggL_areRows_X7_count
set_option maxRecDepth 20000 in
theorem ggL_areRows_L_all : GoodIn wsL_areRows wsL_all := goodIn_r _ [139, 140, 141, 138, 142, 143, 144, 145, 146, 147, 148] (by decide +kernel) (by decide +kernel)
set_option maxRecDepth 20000 in
theorem gL_areRows_L_all : GoodIn wsL_areRows (va_wsS RL 57 yL_all wsL_all) := goodIn_app (goodIn_of _ (by decide +kernel)) ggL_areRows_L_all
set_option maxRecDepth 20000 in
theorem ggL_areRows_L_ancestors : GoodIn wsL_areRows wsL_ancestors := goodIn_r _ [151] (by decide +kernel) (by decide +kernel)
set_option maxRecDepth 20000 in
theorem gL_areRows_L_ancestors : GoodIn wsL_areRows (va_wsS RL 43 yL_ancestors wsL_ancestors) := goodIn_app (goodIn_of _ (by decide +kernel)) ggL_areRows_L_ancestors
set_option maxRecDepth 20000 in
theorem ggL_areRows_L_ones : GoodIn wsL_areRows wsL_ones := goodIn_r _ [154] (by decide +kernel) (by decide +kernel)
set_option maxRecDepth 20000 in
theorem gL_areRows_L_ones : GoodIn wsL_areRows (va_wsS RL 23 yL_ones wsL_ones) := goodIn_app (goodIn_of _ (by decide +kernel)) ggL_areRows_L_ones
set_option maxRecDepth 20000 in
theorem ggL_areRows_X7_coupleOf : GoodIn wsL_areRows wsX7_coupleOf := goodIn_ca (goodIn_ca (goodIn_r _ [158, 159, 160, 6, 7, 8, 161, 73, 74, 13, 75, 20, 162, 111, 112, 113, 70, 72, 163, 122, 123, 124, 71, 164, 165, 166, 167, 168, 62, 63, 64, 65, 15, 169, 67, 68, 69, 76, 77, 78, 79, 80, 170, 26, 27, 28, 29, 171, 108, 104, 109, 110, 114, 115, 116, 117, 118, 119, 120, 59, 60, 61, 121, 172, 173, 174, 175, 176, 177, 178, 199, 200, 201, 202, 203, 204, 205, 206, 207, 208, 209, 210, 211, 212, 213, 214, 215, 216] (by decide +kernel) (by decide +kernel)) (goodIn_sub (fun _ h => List.mem_cons_of_mem _ (List.mem_append_right _ h)) (by decide +kernel))) (goodIn_sub (fun _ h => List.mem_cons_of_mem _ (List.mem_append_left _ (List.mem_append_right _ h))) (by decide +kernel))
set_option maxRecDepth 20000 in
theorem gL_areRows_X7_coupleOf : GoodIn wsL_areRows (wsV RL 61 RX7 yX7_coupleOf wsX7_coupleOf) := goodIn_app (goodIn_of _ (by decide +kernel)) ggL_areRows_X7_coupleOf
set_option maxRecDepth 20000 in
theorem ggL_areRows_L_middle : GoodIn wsL_areRows wsL_middle := goodIn_r _ [145, 146, 147, 138, 148] (by decide +kernel) (by decide +kernel)
set_option maxRecDepth 20000 in
theorem gL_areRows_L_middle : GoodIn wsL_areRows (va_wsS RL 15 yL_middle wsL_middle) := goodIn_app (goodIn_of _ (by decide +kernel)) ggL_areRows_L_middle
set_option maxRecDepth 20000 in
theorem ggL_areRows_X7_crossings : GoodIn wsL_areRows wsX7_crossings := goodIn_ca (goodIn_ca (goodIn_r _ [182, 159, 160, 6, 7, 34, 8, 183, 184, 4, 185, 35, 36, 37, 38, 39, 40, 41, 42, 43, 44, 45, 13, 46, 47, 48, 49, 50, 51, 52, 53, 54, 55, 56, 57, 58, 59, 60, 61, 29, 62, 63, 64, 65, 15, 66, 67, 68, 69, 70, 71, 72, 73, 74, 75, 20, 76, 77, 78, 79, 80, 81, 82, 83, 84, 186, 187, 188, 189, 190, 191, 192, 193, 199, 200, 201, 202, 203, 204, 205, 206, 217, 218, 219, 207, 208, 209, 210, 211, 212, 213, 214, 215, 216] (by decide +kernel) (by decide +kernel)) (goodIn_sub (fun _ h => List.mem_cons_of_mem _ (List.mem_append_right _ h)) (by decide +kernel))) (goodIn_sub (fun _ h => List.mem_cons_of_mem _ (List.mem_append_left _ (List.mem_append_right _ h))) (by decide +kernel))
set_option maxRecDepth 20000 in
theorem gL_areRows_X7_crossings : GoodIn wsL_areRows (wsV RL 64 RX7 yX7_crossings wsX7_crossings) := goodIn_app (goodIn_of _ (by decide +kernel)) ggL_areRows_X7_crossings
set_option maxRecDepth 20000 in
theorem ggL_areRows_L_crosses : GoodIn wsL_areRows wsL_crosses := goodIn_r _ [142, 143, 144, 138, 145, 146, 147, 148] (by decide +kernel) (by decide +kernel)
set_option maxRecDepth 20000 in
theorem gL_areRows_L_crosses : GoodIn wsL_areRows (va_wsS RL 19 yL_crosses wsL_crosses) := goodIn_app (goodIn_of _ (by decide +kernel)) ggL_areRows_L_crosses
set_option maxRecDepth 20000 in
theorem ggL_areRows_X7_at : GoodIn wsL_areRows wsX7_at := goodIn_ca (goodIn_ca (goodIn_r _ [197, 159, 160, 6, 7, 8, 183, 184, 4, 185, 198, 49, 50, 13, 51, 52, 53, 44, 45, 46, 47, 199, 200, 201, 202, 203, 204, 205, 206, 207, 208, 209, 210, 211, 212, 213, 214, 215, 216] (by decide +kernel) (by decide +kernel)) (goodIn_sub (fun _ h => List.mem_cons_of_mem _ (List.mem_append_right _ h)) (by decide +kernel))) (goodIn_sub (fun _ h => List.mem_cons_of_mem _ (List.mem_append_left _ (List.mem_append_right _ h))) (by decide +kernel))
set_option maxRecDepth 20000 in
theorem gL_areRows_X7_at : GoodIn wsL_areRows (wsV RL 67 RX7 yX7_at wsX7_at) := goodIn_app (goodIn_of _ (by decide +kernel)) ggL_areRows_X7_at
theorem dL_areRows_0 : decode cL_areRows 0 = .ok (.iconst 0, 1) := by decide +kernel
theorem dL_areRows_1 : decode cL_areRows 1 = .ok (.istore 5, 2) := by decide +kernel
theorem dL_areRows_3 : decode cL_areRows 3 = .ok (.aload_n 0, 1) := by decide +kernel
theorem dL_areRows_4 : decode cL_areRows 4 = .ok (.iconst 1, 1) := by decide +kernel
theorem dL_areRows_5 : decode cL_areRows 5 = .ok (.invokevirtual 38, 3) := by decide +kernel
theorem dL_areRows_8 : decode cL_areRows 8 = .ok (.aload 4, 2) := by decide +kernel
theorem dL_areRows_10 : decode cL_areRows 10 = .ok (.iconst 1, 1) := by decide +kernel
theorem dL_areRows_11 : decode cL_areRows 11 = .ok (.iaload, 1) := by decide +kernel
theorem dL_areRows_12 : decode cL_areRows 12 = .ok (.if_icmp .ne 36, 3) := by decide +kernel
theorem dL_areRows_15 : decode cL_areRows 15 = .ok (.aload_n 0, 1) := by decide +kernel
theorem dL_areRows_16 : decode cL_areRows 16 = .ok (.bipush 7, 2) := by decide +kernel
theorem dL_areRows_18 : decode cL_areRows 18 = .ok (.invokevirtual 38, 3) := by decide +kernel
theorem dL_areRows_21 : decode cL_areRows 21 = .ok (.aload 4, 2) := by decide +kernel
theorem dL_areRows_23 : decode cL_areRows 23 = .ok (.iconst 2, 1) := by decide +kernel
theorem dL_areRows_24 : decode cL_areRows 24 = .ok (.iaload, 1) := by decide +kernel
theorem dL_areRows_25 : decode cL_areRows 25 = .ok (.if_icmp .ne 23, 3) := by decide +kernel
theorem dL_areRows_28 : decode cL_areRows 28 = .ok (.aload_n 0, 1) := by decide +kernel
theorem dL_areRows_29 : decode cL_areRows 29 = .ok (.iconst 3, 1) := by decide +kernel
theorem dL_areRows_30 : decode cL_areRows 30 = .ok (.invokevirtual 38, 3) := by decide +kernel
theorem dL_areRows_33 : decode cL_areRows 33 = .ok (.aload_n 1, 1) := by decide +kernel
theorem dL_areRows_34 : decode cL_areRows 34 = .ok (.aload_n 2, 1) := by decide +kernel
theorem dL_areRows_35 : decode cL_areRows 35 = .ok (.aload_n 3, 1) := by decide +kernel
theorem dL_areRows_36 : decode cL_areRows 36 = .ok (.aload 4, 2) := by decide +kernel
theorem dL_areRows_38 : decode cL_areRows 38 = .ok (.invokestatic 57, 3) := by decide +kernel
theorem dL_areRows_41 : decode cL_areRows 41 = .ok (.if_icmp .ne 7, 3) := by decide +kernel
theorem dL_areRows_44 : decode cL_areRows 44 = .ok (.iconst 1, 1) := by decide +kernel
theorem dL_areRows_45 : decode cL_areRows 45 = .ok (.goto 4, 3) := by decide +kernel
theorem dL_areRows_48 : decode cL_areRows 48 = .ok (.iconst 0, 1) := by decide +kernel
theorem dL_areRows_49 : decode cL_areRows 49 = .ok (.istore 6, 2) := by decide +kernel
theorem dL_areRows_51 : decode cL_areRows 51 = .ok (.iconst 0, 1) := by decide +kernel
theorem dL_areRows_52 : decode cL_areRows 52 = .ok (.istore 7, 2) := by decide +kernel
theorem dL_areRows_54 : decode cL_areRows 54 = .ok (.iload 7, 2) := by decide +kernel
theorem dL_areRows_56 : decode cL_areRows 56 = .ok (.aload 4, 2) := by decide +kernel
theorem dL_areRows_58 : decode cL_areRows 58 = .ok (.iconst 1, 1) := by decide +kernel
theorem dL_areRows_59 : decode cL_areRows 59 = .ok (.iaload, 1) := by decide +kernel
theorem dL_areRows_60 : decode cL_areRows 60 = .ok (.if_icmp .ge 210, 3) := by decide +kernel
theorem dL_areRows_63 : decode cL_areRows 63 = .ok (.iload 6, 2) := by decide +kernel
theorem dL_areRows_65 : decode cL_areRows 65 = .ok (.ifCond .eq 205, 3) := by decide +kernel
theorem dL_areRows_68 : decode cL_areRows 68 = .ok (.iconst 0, 1) := by decide +kernel
theorem dL_areRows_69 : decode cL_areRows 69 = .ok (.istore 8, 2) := by decide +kernel
theorem dL_areRows_71 : decode cL_areRows 71 = .ok (.iconst 0, 1) := by decide +kernel
theorem dL_areRows_72 : decode cL_areRows 72 = .ok (.istore 9, 2) := by decide +kernel
theorem dL_areRows_74 : decode cL_areRows 74 = .ok (.iload 9, 2) := by decide +kernel
theorem dL_areRows_76 : decode cL_areRows 76 = .ok (.aload 4, 2) := by decide +kernel
theorem dL_areRows_78 : decode cL_areRows 78 = .ok (.iconst 0, 1) := by decide +kernel
theorem dL_areRows_79 : decode cL_areRows 79 = .ok (.iaload, 1) := by decide +kernel
theorem dL_areRows_80 : decode cL_areRows 80 = .ok (.if_icmp .ge 32, 3) := by decide +kernel
theorem dL_areRows_83 : decode cL_areRows 83 = .ok (.iload 8, 2) := by decide +kernel
theorem dL_areRows_85 : decode cL_areRows 85 = .ok (.aload_n 1, 1) := by decide +kernel
theorem dL_areRows_86 : decode cL_areRows 86 = .ok (.iconst 2, 1) := by decide +kernel
theorem dL_areRows_87 : decode cL_areRows 87 = .ok (.iload 9, 2) := by decide +kernel
theorem dL_areRows_89 : decode cL_areRows 89 = .ok (.imul, 1) := by decide +kernel
theorem dL_areRows_90 : decode cL_areRows 90 = .ok (.iconst 1, 1) := by decide +kernel
theorem dL_areRows_91 : decode cL_areRows 91 = .ok (.iadd, 1) := by decide +kernel
theorem dL_areRows_92 : decode cL_areRows 92 = .ok (.iaload, 1) := by decide +kernel
theorem dL_areRows_93 : decode cL_areRows 93 = .ok (.iload 7, 2) := by decide +kernel
theorem dL_areRows_95 : decode cL_areRows 95 = .ok (.if_icmp .ne 7, 3) := by decide +kernel
theorem dL_areRows_98 : decode cL_areRows 98 = .ok (.iconst 1, 1) := by decide +kernel
theorem dL_areRows_99 : decode cL_areRows 99 = .ok (.goto 4, 3) := by decide +kernel
theorem dL_areRows_102 : decode cL_areRows 102 = .ok (.iconst 0, 1) := by decide +kernel
theorem dL_areRows_103 : decode cL_areRows 103 = .ok (.iadd, 1) := by decide +kernel
theorem dL_areRows_104 : decode cL_areRows 104 = .ok (.istore 8, 2) := by decide +kernel
theorem dL_areRows_106 : decode cL_areRows 106 = .ok (.iinc 9 1, 3) := by decide +kernel
theorem dL_areRows_109 : decode cL_areRows 109 = .ok (.goto (-35), 3) := by decide +kernel
theorem dL_areRows_112 : decode cL_areRows 112 = .ok (.aload_n 1, 1) := by decide +kernel
theorem dL_areRows_113 : decode cL_areRows 113 = .ok (.aload_n 2, 1) := by decide +kernel
theorem dL_areRows_114 : decode cL_areRows 114 = .ok (.aload 4, 2) := by decide +kernel
theorem dL_areRows_116 : decode cL_areRows 116 = .ok (.aload_n 2, 1) := by decide +kernel
theorem dL_areRows_117 : decode cL_areRows 117 = .ok (.iconst 2, 1) := by decide +kernel
theorem dL_areRows_118 : decode cL_areRows 118 = .ok (.iload 7, 2) := by decide +kernel
theorem dL_areRows_120 : decode cL_areRows 120 = .ok (.imul, 1) := by decide +kernel
theorem dL_areRows_121 : decode cL_areRows 121 = .ok (.iaload, 1) := by decide +kernel
theorem dL_areRows_122 : decode cL_areRows 122 = .ok (.invokestatic 43, 3) := by decide +kernel
theorem dL_areRows_125 : decode cL_areRows 125 = .ok (.aload_n 1, 1) := by decide +kernel
theorem dL_areRows_126 : decode cL_areRows 126 = .ok (.aload_n 2, 1) := by decide +kernel
theorem dL_areRows_127 : decode cL_areRows 127 = .ok (.aload 4, 2) := by decide +kernel
theorem dL_areRows_129 : decode cL_areRows 129 = .ok (.aload_n 2, 1) := by decide +kernel
theorem dL_areRows_130 : decode cL_areRows 130 = .ok (.iconst 2, 1) := by decide +kernel
theorem dL_areRows_131 : decode cL_areRows 131 = .ok (.iload 7, 2) := by decide +kernel
theorem dL_areRows_133 : decode cL_areRows 133 = .ok (.imul, 1) := by decide +kernel
theorem dL_areRows_134 : decode cL_areRows 134 = .ok (.iconst 1, 1) := by decide +kernel
theorem dL_areRows_135 : decode cL_areRows 135 = .ok (.iadd, 1) := by decide +kernel
theorem dL_areRows_136 : decode cL_areRows 136 = .ok (.iaload, 1) := by decide +kernel
theorem dL_areRows_137 : decode cL_areRows 137 = .ok (.invokestatic 43, 3) := by decide +kernel
theorem dL_areRows_140 : decode cL_areRows 140 = .ok (.iand, 1) := by decide +kernel
theorem dL_areRows_141 : decode cL_areRows 141 = .ok (.invokestatic 23, 3) := by decide +kernel
theorem dL_areRows_144 : decode cL_areRows 144 = .ok (.istore 9, 2) := by decide +kernel
theorem dL_areRows_146 : decode cL_areRows 146 = .ok (.aload_n 0, 1) := by decide +kernel
theorem dL_areRows_147 : decode cL_areRows 147 = .ok (.iload 7, 2) := by decide +kernel
theorem dL_areRows_149 : decode cL_areRows 149 = .ok (.iconst 0, 1) := by decide +kernel
theorem dL_areRows_150 : decode cL_areRows 150 = .ok (.invokevirtual 61, 3) := by decide +kernel
theorem dL_areRows_153 : decode cL_areRows 153 = .ok (.aload_n 2, 1) := by decide +kernel
theorem dL_areRows_154 : decode cL_areRows 154 = .ok (.iconst 2, 1) := by decide +kernel
theorem dL_areRows_155 : decode cL_areRows 155 = .ok (.iload 7, 2) := by decide +kernel
theorem dL_areRows_157 : decode cL_areRows 157 = .ok (.imul, 1) := by decide +kernel
theorem dL_areRows_158 : decode cL_areRows 158 = .ok (.iaload, 1) := by decide +kernel
theorem dL_areRows_159 : decode cL_areRows 159 = .ok (.if_icmp .ne 87, 3) := by decide +kernel
theorem dL_areRows_162 : decode cL_areRows 162 = .ok (.aload_n 0, 1) := by decide +kernel
theorem dL_areRows_163 : decode cL_areRows 163 = .ok (.iload 7, 2) := by decide +kernel
theorem dL_areRows_165 : decode cL_areRows 165 = .ok (.iconst 1, 1) := by decide +kernel
theorem dL_areRows_166 : decode cL_areRows 166 = .ok (.invokevirtual 61, 3) := by decide +kernel
theorem dL_areRows_169 : decode cL_areRows 169 = .ok (.aload_n 2, 1) := by decide +kernel
theorem dL_areRows_170 : decode cL_areRows 170 = .ok (.iconst 2, 1) := by decide +kernel
theorem dL_areRows_171 : decode cL_areRows 171 = .ok (.iload 7, 2) := by decide +kernel
theorem dL_areRows_173 : decode cL_areRows 173 = .ok (.imul, 1) := by decide +kernel
theorem dL_areRows_174 : decode cL_areRows 174 = .ok (.iconst 1, 1) := by decide +kernel
theorem dL_areRows_175 : decode cL_areRows 175 = .ok (.iadd, 1) := by decide +kernel
theorem dL_areRows_176 : decode cL_areRows 176 = .ok (.iaload, 1) := by decide +kernel
theorem dL_areRows_177 : decode cL_areRows 177 = .ok (.if_icmp .ne 69, 3) := by decide +kernel
theorem dL_areRows_180 : decode cL_areRows 180 = .ok (.aload_n 0, 1) := by decide +kernel
theorem dL_areRows_181 : decode cL_areRows 181 = .ok (.iload 7, 2) := by decide +kernel
theorem dL_areRows_183 : decode cL_areRows 183 = .ok (.iconst 2, 1) := by decide +kernel
theorem dL_areRows_184 : decode cL_areRows 184 = .ok (.invokevirtual 61, 3) := by decide +kernel
theorem dL_areRows_187 : decode cL_areRows 187 = .ok (.aload_n 1, 1) := by decide +kernel
theorem dL_areRows_188 : decode cL_areRows 188 = .ok (.iconst 2, 1) := by decide +kernel
theorem dL_areRows_189 : decode cL_areRows 189 = .ok (.aload_n 2, 1) := by decide +kernel
theorem dL_areRows_190 : decode cL_areRows 190 = .ok (.iconst 2, 1) := by decide +kernel
theorem dL_areRows_191 : decode cL_areRows 191 = .ok (.iload 7, 2) := by decide +kernel
theorem dL_areRows_193 : decode cL_areRows 193 = .ok (.imul, 1) := by decide +kernel
theorem dL_areRows_194 : decode cL_areRows 194 = .ok (.iaload, 1) := by decide +kernel
theorem dL_areRows_195 : decode cL_areRows 195 = .ok (.imul, 1) := by decide +kernel
theorem dL_areRows_196 : decode cL_areRows 196 = .ok (.iaload, 1) := by decide +kernel
theorem dL_areRows_197 : decode cL_areRows 197 = .ok (.if_icmp .ne 49, 3) := by decide +kernel
theorem dL_areRows_200 : decode cL_areRows 200 = .ok (.aload_n 0, 1) := by decide +kernel
theorem dL_areRows_201 : decode cL_areRows 201 = .ok (.iload 7, 2) := by decide +kernel
theorem dL_areRows_203 : decode cL_areRows 203 = .ok (.iconst 3, 1) := by decide +kernel
theorem dL_areRows_204 : decode cL_areRows 204 = .ok (.invokevirtual 61, 3) := by decide +kernel
theorem dL_areRows_207 : decode cL_areRows 207 = .ok (.aload_n 1, 1) := by decide +kernel
theorem dL_areRows_208 : decode cL_areRows 208 = .ok (.aload_n 2, 1) := by decide +kernel
theorem dL_areRows_209 : decode cL_areRows 209 = .ok (.aload_n 3, 1) := by decide +kernel
theorem dL_areRows_210 : decode cL_areRows 210 = .ok (.iload 7, 2) := by decide +kernel
theorem dL_areRows_212 : decode cL_areRows 212 = .ok (.invokestatic 15, 3) := by decide +kernel
theorem dL_areRows_215 : decode cL_areRows 215 = .ok (.if_icmp .ne 31, 3) := by decide +kernel
theorem dL_areRows_218 : decode cL_areRows 218 = .ok (.aload_n 0, 1) := by decide +kernel
theorem dL_areRows_219 : decode cL_areRows 219 = .ok (.iload 7, 2) := by decide +kernel
theorem dL_areRows_221 : decode cL_areRows 221 = .ok (.iconst 4, 1) := by decide +kernel
theorem dL_areRows_222 : decode cL_areRows 222 = .ok (.invokevirtual 61, 3) := by decide +kernel
theorem dL_areRows_225 : decode cL_areRows 225 = .ok (.iload 8, 2) := by decide +kernel
theorem dL_areRows_227 : decode cL_areRows 227 = .ok (.if_icmp .ne 19, 3) := by decide +kernel
theorem dL_areRows_230 : decode cL_areRows 230 = .ok (.aload_n 0, 1) := by decide +kernel
theorem dL_areRows_231 : decode cL_areRows 231 = .ok (.iload 7, 2) := by decide +kernel
theorem dL_areRows_233 : decode cL_areRows 233 = .ok (.iconst 5, 1) := by decide +kernel
theorem dL_areRows_234 : decode cL_areRows 234 = .ok (.invokevirtual 61, 3) := by decide +kernel
theorem dL_areRows_237 : decode cL_areRows 237 = .ok (.iload 9, 2) := by decide +kernel
theorem dL_areRows_239 : decode cL_areRows 239 = .ok (.if_icmp .ne 7, 3) := by decide +kernel
theorem dL_areRows_242 : decode cL_areRows 242 = .ok (.iconst 1, 1) := by decide +kernel
theorem dL_areRows_243 : decode cL_areRows 243 = .ok (.goto 4, 3) := by decide +kernel
theorem dL_areRows_246 : decode cL_areRows 246 = .ok (.iconst 0, 1) := by decide +kernel
theorem dL_areRows_247 : decode cL_areRows 247 = .ok (.istore 6, 2) := by decide +kernel
theorem dL_areRows_249 : decode cL_areRows 249 = .ok (.iload 5, 2) := by decide +kernel
theorem dL_areRows_251 : decode cL_areRows 251 = .ok (.iload 9, 2) := by decide +kernel
theorem dL_areRows_253 : decode cL_areRows 253 = .ok (.ifCond .le 7, 3) := by decide +kernel
theorem dL_areRows_256 : decode cL_areRows 256 = .ok (.iconst 1, 1) := by decide +kernel
theorem dL_areRows_257 : decode cL_areRows 257 = .ok (.goto 4, 3) := by decide +kernel
theorem dL_areRows_260 : decode cL_areRows 260 = .ok (.iconst 0, 1) := by decide +kernel
theorem dL_areRows_261 : decode cL_areRows 261 = .ok (.iadd, 1) := by decide +kernel
theorem dL_areRows_262 : decode cL_areRows 262 = .ok (.istore 5, 2) := by decide +kernel
theorem dL_areRows_264 : decode cL_areRows 264 = .ok (.iinc 7 1, 3) := by decide +kernel
theorem dL_areRows_267 : decode cL_areRows 267 = .ok (.goto (-213), 3) := by decide +kernel
theorem dL_areRows_270 : decode cL_areRows 270 = .ok (.iconst 0, 1) := by decide +kernel
theorem dL_areRows_271 : decode cL_areRows 271 = .ok (.istore 7, 2) := by decide +kernel
theorem dL_areRows_273 : decode cL_areRows 273 = .ok (.iload 7, 2) := by decide +kernel
theorem dL_areRows_275 : decode cL_areRows 275 = .ok (.iconst 4, 1) := by decide +kernel
theorem dL_areRows_276 : decode cL_areRows 276 = .ok (.if_icmp .ge 126, 3) := by decide +kernel
theorem dL_areRows_279 : decode cL_areRows 279 = .ok (.iload 6, 2) := by decide +kernel
theorem dL_areRows_281 : decode cL_areRows 281 = .ok (.ifCond .eq 47, 3) := by decide +kernel
theorem dL_areRows_284 : decode cL_areRows 284 = .ok (.aload_n 0, 1) := by decide +kernel
theorem dL_areRows_285 : decode cL_areRows 285 = .ok (.iload 7, 2) := by decide +kernel
theorem dL_areRows_287 : decode cL_areRows 287 = .ok (.iconst 0, 1) := by decide +kernel
theorem dL_areRows_288 : decode cL_areRows 288 = .ok (.invokevirtual 64, 3) := by decide +kernel
theorem dL_areRows_291 : decode cL_areRows 291 = .ok (.aload_n 1, 1) := by decide +kernel
theorem dL_areRows_292 : decode cL_areRows 292 = .ok (.aload_n 2, 1) := by decide +kernel
theorem dL_areRows_293 : decode cL_areRows 293 = .ok (.aload_n 3, 1) := by decide +kernel
theorem dL_areRows_294 : decode cL_areRows 294 = .ok (.aload 4, 2) := by decide +kernel
theorem dL_areRows_296 : decode cL_areRows 296 = .ok (.iload 7, 2) := by decide +kernel
theorem dL_areRows_298 : decode cL_areRows 298 = .ok (.invokestatic 19, 3) := by decide +kernel
theorem dL_areRows_301 : decode cL_areRows 301 = .ok (.if_icmp .ne 27, 3) := by decide +kernel
theorem dL_areRows_304 : decode cL_areRows 304 = .ok (.aload_n 0, 1) := by decide +kernel
theorem dL_areRows_305 : decode cL_areRows 305 = .ok (.iload 7, 2) := by decide +kernel
theorem dL_areRows_307 : decode cL_areRows 307 = .ok (.iconst 1, 1) := by decide +kernel
theorem dL_areRows_308 : decode cL_areRows 308 = .ok (.invokevirtual 64, 3) := by decide +kernel
theorem dL_areRows_311 : decode cL_areRows 311 = .ok (.aload_n 1, 1) := by decide +kernel
theorem dL_areRows_312 : decode cL_areRows 312 = .ok (.aload_n 2, 1) := by decide +kernel
theorem dL_areRows_313 : decode cL_areRows 313 = .ok (.aload_n 3, 1) := by decide +kernel
theorem dL_areRows_314 : decode cL_areRows 314 = .ok (.aload 4, 2) := by decide +kernel
theorem dL_areRows_316 : decode cL_areRows 316 = .ok (.iload 7, 2) := by decide +kernel
theorem dL_areRows_318 : decode cL_areRows 318 = .ok (.invokestatic 19, 3) := by decide +kernel
theorem dL_areRows_321 : decode cL_areRows 321 = .ok (.if_icmp .ne 7, 3) := by decide +kernel
theorem dL_areRows_324 : decode cL_areRows 324 = .ok (.iconst 1, 1) := by decide +kernel
theorem dL_areRows_325 : decode cL_areRows 325 = .ok (.goto 4, 3) := by decide +kernel
theorem dL_areRows_328 : decode cL_areRows 328 = .ok (.iconst 0, 1) := by decide +kernel
theorem dL_areRows_329 : decode cL_areRows 329 = .ok (.istore 6, 2) := by decide +kernel
theorem dL_areRows_331 : decode cL_areRows 331 = .ok (.iconst 0, 1) := by decide +kernel
theorem dL_areRows_332 : decode cL_areRows 332 = .ok (.istore 8, 2) := by decide +kernel
theorem dL_areRows_334 : decode cL_areRows 334 = .ok (.iload 8, 2) := by decide +kernel
theorem dL_areRows_336 : decode cL_areRows 336 = .ok (.bipush 7, 2) := by decide +kernel
theorem dL_areRows_338 : decode cL_areRows 338 = .ok (.if_icmp .ge 58, 3) := by decide +kernel
theorem dL_areRows_341 : decode cL_areRows 341 = .ok (.iload 6, 2) := by decide +kernel
theorem dL_areRows_343 : decode cL_areRows 343 = .ok (.ifCond .eq 44, 3) := by decide +kernel
theorem dL_areRows_346 : decode cL_areRows 346 = .ok (.aload_n 0, 1) := by decide +kernel
theorem dL_areRows_347 : decode cL_areRows 347 = .ok (.iload 7, 2) := by decide +kernel
theorem dL_areRows_349 : decode cL_areRows 349 = .ok (.iload 8, 2) := by decide +kernel
theorem dL_areRows_351 : decode cL_areRows 351 = .ok (.invokevirtual 67, 3) := by decide +kernel
theorem dL_areRows_354 : decode cL_areRows 354 = .ok (.iload 8, 2) := by decide +kernel
theorem dL_areRows_356 : decode cL_areRows 356 = .ok (.aload 4, 2) := by decide +kernel
theorem dL_areRows_358 : decode cL_areRows 358 = .ok (.iconst 3, 1) := by decide +kernel
theorem dL_areRows_359 : decode cL_areRows 359 = .ok (.iload 7, 2) := by decide +kernel
theorem dL_areRows_361 : decode cL_areRows 361 = .ok (.iadd, 1) := by decide +kernel
theorem dL_areRows_362 : decode cL_areRows 362 = .ok (.iaload, 1) := by decide +kernel
theorem dL_areRows_363 : decode cL_areRows 363 = .ok (.if_icmp .ge 16, 3) := by decide +kernel
theorem dL_areRows_366 : decode cL_areRows 366 = .ok (.aload_n 3, 1) := by decide +kernel
theorem dL_areRows_367 : decode cL_areRows 367 = .ok (.bipush 6, 2) := by decide +kernel
theorem dL_areRows_369 : decode cL_areRows 369 = .ok (.iload 7, 2) := by decide +kernel
theorem dL_areRows_371 : decode cL_areRows 371 = .ok (.imul, 1) := by decide +kernel
theorem dL_areRows_372 : decode cL_areRows 372 = .ok (.iload 8, 2) := by decide +kernel
theorem dL_areRows_374 : decode cL_areRows 374 = .ok (.iadd, 1) := by decide +kernel
theorem dL_areRows_375 : decode cL_areRows 375 = .ok (.iaload, 1) := by decide +kernel
theorem dL_areRows_376 : decode cL_areRows 376 = .ok (.goto 4, 3) := by decide +kernel
theorem dL_areRows_379 : decode cL_areRows 379 = .ok (.iconst (-1), 1) := by decide +kernel
theorem dL_areRows_380 : decode cL_areRows 380 = .ok (.if_icmp .ne 7, 3) := by decide +kernel
theorem dL_areRows_383 : decode cL_areRows 383 = .ok (.iconst 1, 1) := by decide +kernel
theorem dL_areRows_384 : decode cL_areRows 384 = .ok (.goto 4, 3) := by decide +kernel
theorem dL_areRows_387 : decode cL_areRows 387 = .ok (.iconst 0, 1) := by decide +kernel
theorem dL_areRows_388 : decode cL_areRows 388 = .ok (.istore 6, 2) := by decide +kernel
theorem dL_areRows_390 : decode cL_areRows 390 = .ok (.iinc 8 1, 3) := by decide +kernel
theorem dL_areRows_393 : decode cL_areRows 393 = .ok (.goto (-59), 3) := by decide +kernel
theorem dL_areRows_396 : decode cL_areRows 396 = .ok (.iinc 7 1, 3) := by decide +kernel
theorem dL_areRows_399 : decode cL_areRows 399 = .ok (.goto (-126), 3) := by decide +kernel
theorem dL_areRows_402 : decode cL_areRows 402 = .ok (.iload 6, 2) := by decide +kernel
theorem dL_areRows_404 : decode cL_areRows 404 = .ok (.ifCond .eq 18, 3) := by decide +kernel
theorem dL_areRows_407 : decode cL_areRows 407 = .ok (.aload_n 0, 1) := by decide +kernel
theorem dL_areRows_408 : decode cL_areRows 408 = .ok (.bipush 6, 2) := by decide +kernel
theorem dL_areRows_410 : decode cL_areRows 410 = .ok (.invokevirtual 38, 3) := by decide +kernel
theorem dL_areRows_413 : decode cL_areRows 413 = .ok (.iload 5, 2) := by decide +kernel
theorem dL_areRows_415 : decode cL_areRows 415 = .ok (.if_icmp .ne 7, 3) := by decide +kernel
theorem dL_areRows_418 : decode cL_areRows 418 = .ok (.iconst 1, 1) := by decide +kernel
theorem dL_areRows_419 : decode cL_areRows 419 = .ok (.goto 4, 3) := by decide +kernel
theorem dL_areRows_422 : decode cL_areRows 422 = .ok (.iconst 0, 1) := by decide +kernel
theorem dL_areRows_423 : decode cL_areRows 423 = .ok (.ireturn, 1) := by decide +kernel
set_option maxRecDepth 20000 in
theorem ggL_isLeast_L_copy : GoodIn wsL_isLeast wsL_copy := goodIn_r _ [5] (by decide +kernel) (by decide +kernel)
set_option maxRecDepth 20000 in
theorem gL_isLeast_L_copy : GoodIn wsL_isLeast (va_wsS RL 27 yL_copy wsL_copy) := goodIn_app (goodIn_of _ (by decide +kernel)) ggL_isLeast_L_copy
set_option maxRecDepth 20000 in
theorem ggL_isLeast_L_best : GoodIn wsL_isLeast wsL_best := goodIn_r _ [8, 1, 2, 3, 4, 5, 9, 10, 11, 12, 13, 14, 15, 16, 17, 18, 19, 20, 21, 22, 23, 24, 25, 26] (by decide +kernel) (by decide +kernel)
set_option maxRecDepth 20000 in
theorem gL_isLeast_L_best : GoodIn wsL_isLeast (va_wsS RL 70 yL_best wsL_best) := goodIn_app (goodIn_of _ (by decide +kernel)) ggL_isLeast_L_best
set_option maxRecDepth 20000 in
theorem ggL_isLeast_L_lays : GoodIn wsL_isLeast wsL_lays := goodIn_r _ [11, 12, 13, 4, 14] (by decide +kernel) (by decide +kernel)
set_option maxRecDepth 20000 in
theorem gL_isLeast_L_lays : GoodIn wsL_isLeast (va_wsS RL 31 yL_lays wsL_lays) := goodIn_app (goodIn_of _ (by decide +kernel)) ggL_isLeast_L_lays
set_option maxRecDepth 20000 in
theorem ggL_isLeast_L_ofTwo : GoodIn wsL_isLeast wsL_ofTwo := goodIn_r _ [17, 18, 19, 4, 20, 21, 22, 23, 24, 25, 26] (by decide +kernel) (by decide +kernel)
set_option maxRecDepth 20000 in
theorem gL_isLeast_L_ofTwo : GoodIn wsL_isLeast (va_wsS RL 35 yL_ofTwo wsL_ofTwo) := goodIn_app (goodIn_of _ (by decide +kernel)) ggL_isLeast_L_ofTwo
set_option maxRecDepth 20000 in
theorem ggL_isLeast_L_all : GoodIn wsL_isLeast wsL_all := goodIn_r _ [29, 18, 19, 4, 20, 21, 22, 23, 24, 25, 26] (by decide +kernel) (by decide +kernel)
set_option maxRecDepth 20000 in
theorem gL_isLeast_L_all : GoodIn wsL_isLeast (va_wsS RL 57 yL_all wsL_all) := goodIn_app (goodIn_of _ (by decide +kernel)) ggL_isLeast_L_all
set_option maxRecDepth 20000 in
theorem ggL_isLeast_X7_least : GoodIn wsL_isLeast wsX7_least := goodIn_ca (goodIn_ca (goodIn_r _ [34, 35, 36, 37, 38, 39, 40, 41, 42, 33, 43, 44, 45, 46, 47, 48, 49, 50, 51, 52, 53, 54, 55, 56, 57, 58, 59, 60, 61, 62, 63, 64, 65, 66, 67, 68, 69, 70, 71, 72, 73, 74, 75, 76, 77, 78, 79, 80, 81, 82, 83, 84, 85, 86, 87, 88, 89, 90, 91, 92, 93, 94, 95, 96, 97, 98, 99, 100, 101, 102, 103, 104, 105, 106, 107, 108, 109, 110, 111, 112, 113, 114, 115, 116, 117, 118, 119, 120, 121, 122, 123, 124, 125, 126, 127, 128, 129, 130, 131, 132, 133, 134, 135, 136, 137, 138, 139, 140, 141, 142, 143, 144, 145, 146, 147, 148, 149, 150, 151, 152, 153, 154, 155, 156, 157, 158, 159, 160, 161, 162, 163, 164, 165, 166, 167, 168, 169, 170, 171, 172, 173, 174, 175, 176, 177, 178, 179, 241, 242, 243, 244, 245, 246, 247, 248, 249, 250, 251, 252, 253, 254, 255, 256, 257, 258, 259, 260, 261, 262, 263, 264, 265, 266, 267, 268, 269, 270, 271] (by decide +kernel) (by decide +kernel)) (goodIn_sub (fun _ h => List.mem_cons_of_mem _ (List.mem_append_left _ (List.mem_append_right _ h))) (by decide +kernel))) (goodIn_sub (fun _ h => List.mem_cons_of_mem _ (List.mem_append_right _ h)) (by decide +kernel))
set_option maxRecDepth 20000 in
theorem gL_isLeast_X7_least : GoodIn wsL_isLeast (wsV RL 73 RX7 yX7_least wsX7_least) := goodIn_app (goodIn_of _ (by decide +kernel)) ggL_isLeast_X7_least
set_option maxRecDepth 20000 in
theorem ggL_isLeast_X7_bestSwap : GoodIn wsL_isLeast wsX7_bestSwap := goodIn_r _ [183, 40, 184, 185, 186, 33, 187, 188, 189, 190, 191, 192, 193, 194, 195, 196, 197, 107, 108, 58, 109, 110, 198, 112, 113, 114, 115, 116, 199, 76, 77, 78, 79, 80, 81, 82, 83, 66, 67, 68, 69, 60, 84, 85, 86, 87, 88, 89, 90, 91, 92, 93, 94, 95, 96, 97, 98, 99, 200, 201, 202, 203, 204, 205, 206, 207, 208, 209, 210, 211, 212, 213, 241, 242, 243, 244, 245, 246, 247, 248, 272, 273, 274, 262, 263, 264, 265, 266, 267, 268, 269, 270, 271] (by decide +kernel) (by decide +kernel)
set_option maxRecDepth 20000 in
theorem gL_isLeast_X7_bestSwap : GoodIn wsL_isLeast (wsV RL 76 RX7 yX7_bestSwap wsX7_bestSwap) := goodIn_app (goodIn_of _ (by decide +kernel)) ggL_isLeast_X7_bestSwap
end
section
set_option maxRecDepth 20000 in
theorem ggL_isLeast_L_low : GoodIn wsL_isLeast wsL_low := goodIn_r _ [216, 217] (by decide +kernel) (by decide +kernel)
set_option maxRecDepth 20000 in
theorem gL_isLeast_L_low : GoodIn wsL_isLeast (va_wsS RL 80 yL_low wsL_low) := goodIn_app (goodIn_of _ (by decide +kernel)) ggL_isLeast_L_low
set_option maxRecDepth 20000 in
theorem ggL_isLeast_L_ancestors : GoodIn wsL_isLeast wsL_ancestors := goodIn_r _ [220] (by decide +kernel) (by decide +kernel)
set_option maxRecDepth 20000 in
theorem gL_isLeast_L_ancestors : GoodIn wsL_isLeast (va_wsS RL 43 yL_ancestors wsL_ancestors) := goodIn_app (goodIn_of _ (by decide +kernel)) ggL_isLeast_L_ancestors
set_option maxRecDepth 20000 in
theorem ggL_isLeast_X7_nearness : GoodIn wsL_isLeast wsX7_nearness := goodIn_ca (goodIn_r _ [224, 35, 36, 40, 225, 67, 68, 58, 69, 60, 226, 227, 228, 229, 230, 231, 232, 233, 234, 235, 236, 80, 81, 82, 83, 66, 237, 126, 127, 128, 88, 90, 91, 92, 93, 94, 238, 130, 131, 132, 89, 239, 56, 57, 59, 240, 62, 63, 64, 65, 241, 242, 243, 244, 245, 246, 247, 248, 262, 263, 264, 265, 266, 267, 268, 269, 270, 271] (by decide +kernel) (by decide +kernel)) (goodIn_sub (fun _ h => List.mem_cons_of_mem _ (List.mem_append_left _ (List.mem_append_right _ h))) (by decide +kernel))
set_option maxRecDepth 20000 in
theorem gL_isLeast_X7_nearness : GoodIn wsL_isLeast (wsV RL 83 RX7 yX7_nearness wsX7_nearness) := goodIn_app (goodIn_of _ (by decide +kernel)) ggL_isLeast_X7_nearness
theorem dL_isLeast_0 : decode cL_isLeast 0 = .ok (.bipush 24, 2) := by decide +kernel
theorem dL_isLeast_2 : decode cL_isLeast 2 = .ok (.newarray .int, 2) := by decide +kernel
theorem dL_isLeast_4 : decode cL_isLeast 4 = .ok (.astore 7, 2) := by decide +kernel
theorem dL_isLeast_6 : decode cL_isLeast 6 = .ok (.aload_n 3, 1) := by decide +kernel
theorem dL_isLeast_7 : decode cL_isLeast 7 = .ok (.aload 7, 2) := by decide +kernel
theorem dL_isLeast_9 : decode cL_isLeast 9 = .ok (.invokestatic 27, 3) := by decide +kernel
theorem dL_isLeast_12 : decode cL_isLeast 12 = .ok (.aload 7, 2) := by decide +kernel
theorem dL_isLeast_14 : decode cL_isLeast 14 = .ok (.aload 4, 2) := by decide +kernel
theorem dL_isLeast_16 : decode cL_isLeast 16 = .ok (.iload 5, 2) := by decide +kernel
theorem dL_isLeast_18 : decode cL_isLeast 18 = .ok (.aload_n 1, 1) := by decide +kernel
theorem dL_isLeast_19 : decode cL_isLeast 19 = .ok (.aload_n 2, 1) := by decide +kernel
theorem dL_isLeast_20 : decode cL_isLeast 20 = .ok (.aload_n 3, 1) := by decide +kernel
theorem dL_isLeast_21 : decode cL_isLeast 21 = .ok (.aload 4, 2) := by decide +kernel
theorem dL_isLeast_23 : decode cL_isLeast 23 = .ok (.iload 5, 2) := by decide +kernel
theorem dL_isLeast_25 : decode cL_isLeast 25 = .ok (.invokestatic 70, 3) := by decide +kernel
theorem dL_isLeast_28 : decode cL_isLeast 28 = .ok (.invokestatic 31, 3) := by decide +kernel
theorem dL_isLeast_31 : decode cL_isLeast 31 = .ok (.aload_n 1, 1) := by decide +kernel
theorem dL_isLeast_32 : decode cL_isLeast 32 = .ok (.aload_n 2, 1) := by decide +kernel
theorem dL_isLeast_33 : decode cL_isLeast 33 = .ok (.aload 7, 2) := by decide +kernel
theorem dL_isLeast_35 : decode cL_isLeast 35 = .ok (.aload 4, 2) := by decide +kernel
theorem dL_isLeast_37 : decode cL_isLeast 37 = .ok (.iload 5, 2) := by decide +kernel
theorem dL_isLeast_39 : decode cL_isLeast 39 = .ok (.invokestatic 35, 3) := by decide +kernel
theorem dL_isLeast_42 : decode cL_isLeast 42 = .ok (.istore 8, 2) := by decide +kernel
theorem dL_isLeast_44 : decode cL_isLeast 44 = .ok (.aload_n 1, 1) := by decide +kernel
theorem dL_isLeast_45 : decode cL_isLeast 45 = .ok (.aload_n 2, 1) := by decide +kernel
theorem dL_isLeast_46 : decode cL_isLeast 46 = .ok (.aload_n 3, 1) := by decide +kernel
theorem dL_isLeast_47 : decode cL_isLeast 47 = .ok (.aload 4, 2) := by decide +kernel
theorem dL_isLeast_49 : decode cL_isLeast 49 = .ok (.invokestatic 57, 3) := by decide +kernel
theorem dL_isLeast_52 : decode cL_isLeast 52 = .ok (.istore 9, 2) := by decide +kernel
theorem dL_isLeast_54 : decode cL_isLeast 54 = .ok (.iconst (-1), 1) := by decide +kernel
theorem dL_isLeast_55 : decode cL_isLeast 55 = .ok (.istore 10, 2) := by decide +kernel
theorem dL_isLeast_57 : decode cL_isLeast 57 = .ok (.aload_n 3, 1) := by decide +kernel
theorem dL_isLeast_58 : decode cL_isLeast 58 = .ok (.aload 7, 2) := by decide +kernel
theorem dL_isLeast_60 : decode cL_isLeast 60 = .ok (.invokestatic 27, 3) := by decide +kernel
theorem dL_isLeast_63 : decode cL_isLeast 63 = .ok (.iconst 0, 1) := by decide +kernel
theorem dL_isLeast_64 : decode cL_isLeast 64 = .ok (.istore 11, 2) := by decide +kernel
theorem dL_isLeast_66 : decode cL_isLeast 66 = .ok (.iload 11, 2) := by decide +kernel
theorem dL_isLeast_68 : decode cL_isLeast 68 = .ok (.bipush 24, 2) := by decide +kernel
theorem dL_isLeast_70 : decode cL_isLeast 70 = .ok (.if_icmp .ge 128, 3) := by decide +kernel
theorem dL_isLeast_73 : decode cL_isLeast 73 = .ok (.iload 11, 2) := by decide +kernel
theorem dL_isLeast_75 : decode cL_isLeast 75 = .ok (.bipush 6, 2) := by decide +kernel
theorem dL_isLeast_77 : decode cL_isLeast 77 = .ok (.irem, 1) := by decide +kernel
theorem dL_isLeast_78 : decode cL_isLeast 78 = .ok (.iconst 1, 1) := by decide +kernel
theorem dL_isLeast_79 : decode cL_isLeast 79 = .ok (.iadd, 1) := by decide +kernel
theorem dL_isLeast_80 : decode cL_isLeast 80 = .ok (.aload 4, 2) := by decide +kernel
theorem dL_isLeast_82 : decode cL_isLeast 82 = .ok (.iconst 3, 1) := by decide +kernel
theorem dL_isLeast_83 : decode cL_isLeast 83 = .ok (.iload 11, 2) := by decide +kernel
theorem dL_isLeast_85 : decode cL_isLeast 85 = .ok (.bipush 6, 2) := by decide +kernel
theorem dL_isLeast_87 : decode cL_isLeast 87 = .ok (.idiv, 1) := by decide +kernel
theorem dL_isLeast_88 : decode cL_isLeast 88 = .ok (.iadd, 1) := by decide +kernel
theorem dL_isLeast_89 : decode cL_isLeast 89 = .ok (.iaload, 1) := by decide +kernel
theorem dL_isLeast_90 : decode cL_isLeast 90 = .ok (.if_icmp .ge 102, 3) := by decide +kernel
theorem dL_isLeast_93 : decode cL_isLeast 93 = .ok (.aload 7, 2) := by decide +kernel
theorem dL_isLeast_95 : decode cL_isLeast 95 = .ok (.iload 11, 2) := by decide +kernel
theorem dL_isLeast_97 : decode cL_isLeast 97 = .ok (.aload_n 3, 1) := by decide +kernel
theorem dL_isLeast_98 : decode cL_isLeast 98 = .ok (.iload 11, 2) := by decide +kernel
theorem dL_isLeast_100 : decode cL_isLeast 100 = .ok (.iconst 1, 1) := by decide +kernel
theorem dL_isLeast_101 : decode cL_isLeast 101 = .ok (.iadd, 1) := by decide +kernel
theorem dL_isLeast_102 : decode cL_isLeast 102 = .ok (.iaload, 1) := by decide +kernel
theorem dL_isLeast_103 : decode cL_isLeast 103 = .ok (.iastore, 1) := by decide +kernel
theorem dL_isLeast_104 : decode cL_isLeast 104 = .ok (.aload 7, 2) := by decide +kernel
theorem dL_isLeast_106 : decode cL_isLeast 106 = .ok (.iload 11, 2) := by decide +kernel
theorem dL_isLeast_108 : decode cL_isLeast 108 = .ok (.iconst 1, 1) := by decide +kernel
theorem dL_isLeast_109 : decode cL_isLeast 109 = .ok (.iadd, 1) := by decide +kernel
theorem dL_isLeast_110 : decode cL_isLeast 110 = .ok (.aload_n 3, 1) := by decide +kernel
theorem dL_isLeast_111 : decode cL_isLeast 111 = .ok (.iload 11, 2) := by decide +kernel
theorem dL_isLeast_113 : decode cL_isLeast 113 = .ok (.iaload, 1) := by decide +kernel
theorem dL_isLeast_114 : decode cL_isLeast 114 = .ok (.iastore, 1) := by decide +kernel
theorem dL_isLeast_115 : decode cL_isLeast 115 = .ok (.aload_n 1, 1) := by decide +kernel
theorem dL_isLeast_116 : decode cL_isLeast 116 = .ok (.aload_n 2, 1) := by decide +kernel
theorem dL_isLeast_117 : decode cL_isLeast 117 = .ok (.aload 7, 2) := by decide +kernel
theorem dL_isLeast_119 : decode cL_isLeast 119 = .ok (.aload 4, 2) := by decide +kernel
theorem dL_isLeast_121 : decode cL_isLeast 121 = .ok (.invokestatic 57, 3) := by decide +kernel
theorem dL_isLeast_124 : decode cL_isLeast 124 = .ok (.istore 12, 2) := by decide +kernel
theorem dL_isLeast_126 : decode cL_isLeast 126 = .ok (.iload 12, 2) := by decide +kernel
theorem dL_isLeast_128 : decode cL_isLeast 128 = .ok (.iload 9, 2) := by decide +kernel
theorem dL_isLeast_130 : decode cL_isLeast 130 = .ok (.if_icmp .ge 20, 3) := by decide +kernel
theorem dL_isLeast_133 : decode cL_isLeast 133 = .ok (.bipush 10, 2) := by decide +kernel
theorem dL_isLeast_135 : decode cL_isLeast 135 = .ok (.iload 11, 2) := by decide +kernel
theorem dL_isLeast_137 : decode cL_isLeast 137 = .ok (.bipush 6, 2) := by decide +kernel
theorem dL_isLeast_139 : decode cL_isLeast 139 = .ok (.idiv, 1) := by decide +kernel
theorem dL_isLeast_140 : decode cL_isLeast 140 = .ok (.imul, 1) := by decide +kernel
theorem dL_isLeast_141 : decode cL_isLeast 141 = .ok (.iload 11, 2) := by decide +kernel
theorem dL_isLeast_143 : decode cL_isLeast 143 = .ok (.bipush 6, 2) := by decide +kernel
theorem dL_isLeast_145 : decode cL_isLeast 145 = .ok (.irem, 1) := by decide +kernel
theorem dL_isLeast_146 : decode cL_isLeast 146 = .ok (.iadd, 1) := by decide +kernel
theorem dL_isLeast_147 : decode cL_isLeast 147 = .ok (.goto 5, 3) := by decide +kernel
theorem dL_isLeast_150 : decode cL_isLeast 150 = .ok (.iload 10, 2) := by decide +kernel
theorem dL_isLeast_152 : decode cL_isLeast 152 = .ok (.istore 10, 2) := by decide +kernel
theorem dL_isLeast_154 : decode cL_isLeast 154 = .ok (.iload 12, 2) := by decide +kernel
theorem dL_isLeast_156 : decode cL_isLeast 156 = .ok (.iload 9, 2) := by decide +kernel
theorem dL_isLeast_158 : decode cL_isLeast 158 = .ok (.if_icmp .ge 8, 3) := by decide +kernel
theorem dL_isLeast_161 : decode cL_isLeast 161 = .ok (.iload 12, 2) := by decide +kernel
theorem dL_isLeast_163 : decode cL_isLeast 163 = .ok (.goto 5, 3) := by decide +kernel
theorem dL_isLeast_166 : decode cL_isLeast 166 = .ok (.iload 9, 2) := by decide +kernel
theorem dL_isLeast_168 : decode cL_isLeast 168 = .ok (.istore 9, 2) := by decide +kernel
theorem dL_isLeast_170 : decode cL_isLeast 170 = .ok (.aload 7, 2) := by decide +kernel
theorem dL_isLeast_172 : decode cL_isLeast 172 = .ok (.iload 11, 2) := by decide +kernel
theorem dL_isLeast_174 : decode cL_isLeast 174 = .ok (.aload_n 3, 1) := by decide +kernel
theorem dL_isLeast_175 : decode cL_isLeast 175 = .ok (.iload 11, 2) := by decide +kernel
theorem dL_isLeast_177 : decode cL_isLeast 177 = .ok (.iaload, 1) := by decide +kernel
theorem dL_isLeast_178 : decode cL_isLeast 178 = .ok (.iastore, 1) := by decide +kernel
theorem dL_isLeast_179 : decode cL_isLeast 179 = .ok (.aload 7, 2) := by decide +kernel
theorem dL_isLeast_181 : decode cL_isLeast 181 = .ok (.iload 11, 2) := by decide +kernel
theorem dL_isLeast_183 : decode cL_isLeast 183 = .ok (.iconst 1, 1) := by decide +kernel
theorem dL_isLeast_184 : decode cL_isLeast 184 = .ok (.iadd, 1) := by decide +kernel
theorem dL_isLeast_185 : decode cL_isLeast 185 = .ok (.aload_n 3, 1) := by decide +kernel
theorem dL_isLeast_186 : decode cL_isLeast 186 = .ok (.iload 11, 2) := by decide +kernel
theorem dL_isLeast_188 : decode cL_isLeast 188 = .ok (.iconst 1, 1) := by decide +kernel
theorem dL_isLeast_189 : decode cL_isLeast 189 = .ok (.iadd, 1) := by decide +kernel
theorem dL_isLeast_190 : decode cL_isLeast 190 = .ok (.iaload, 1) := by decide +kernel
theorem dL_isLeast_191 : decode cL_isLeast 191 = .ok (.iastore, 1) := by decide +kernel
theorem dL_isLeast_192 : decode cL_isLeast 192 = .ok (.iinc 11 1, 3) := by decide +kernel
theorem dL_isLeast_195 : decode cL_isLeast 195 = .ok (.goto (-129), 3) := by decide +kernel
theorem dL_isLeast_198 : decode cL_isLeast 198 = .ok (.aload_n 0, 1) := by decide +kernel
theorem dL_isLeast_199 : decode cL_isLeast 199 = .ok (.iload 5, 2) := by decide +kernel
theorem dL_isLeast_201 : decode cL_isLeast 201 = .ok (.iconst 0, 1) := by decide +kernel
theorem dL_isLeast_202 : decode cL_isLeast 202 = .ok (.invokevirtual 73, 3) := by decide +kernel
theorem dL_isLeast_205 : decode cL_isLeast 205 = .ok (.iload 8, 2) := by decide +kernel
theorem dL_isLeast_207 : decode cL_isLeast 207 = .ok (.if_icmp .ne 28, 3) := by decide +kernel
theorem dL_isLeast_210 : decode cL_isLeast 210 = .ok (.aload_n 0, 1) := by decide +kernel
theorem dL_isLeast_211 : decode cL_isLeast 211 = .ok (.iload 5, 2) := by decide +kernel
theorem dL_isLeast_213 : decode cL_isLeast 213 = .ok (.iconst 1, 1) := by decide +kernel
theorem dL_isLeast_214 : decode cL_isLeast 214 = .ok (.invokevirtual 73, 3) := by decide +kernel
theorem dL_isLeast_217 : decode cL_isLeast 217 = .ok (.iload 8, 2) := by decide +kernel
theorem dL_isLeast_219 : decode cL_isLeast 219 = .ok (.if_icmp .ne 16, 3) := by decide +kernel
theorem dL_isLeast_222 : decode cL_isLeast 222 = .ok (.aload_n 0, 1) := by decide +kernel
theorem dL_isLeast_223 : decode cL_isLeast 223 = .ok (.invokevirtual 76, 3) := by decide +kernel
theorem dL_isLeast_226 : decode cL_isLeast 226 = .ok (.iload 10, 2) := by decide +kernel
theorem dL_isLeast_228 : decode cL_isLeast 228 = .ok (.if_icmp .ne 7, 3) := by decide +kernel
theorem dL_isLeast_231 : decode cL_isLeast 231 = .ok (.iconst 1, 1) := by decide +kernel
theorem dL_isLeast_232 : decode cL_isLeast 232 = .ok (.goto 4, 3) := by decide +kernel
theorem dL_isLeast_235 : decode cL_isLeast 235 = .ok (.iconst 0, 1) := by decide +kernel
theorem dL_isLeast_236 : decode cL_isLeast 236 = .ok (.istore 11, 2) := by decide +kernel
theorem dL_isLeast_238 : decode cL_isLeast 238 = .ok (.iload 6, 2) := by decide +kernel
theorem dL_isLeast_240 : decode cL_isLeast 240 = .ok (.aload 4, 2) := by decide +kernel
theorem dL_isLeast_242 : decode cL_isLeast 242 = .ok (.iconst 0, 1) := by decide +kernel
theorem dL_isLeast_243 : decode cL_isLeast 243 = .ok (.iaload, 1) := by decide +kernel
theorem dL_isLeast_244 : decode cL_isLeast 244 = .ok (.invokestatic 80, 3) := by decide +kernel
theorem dL_isLeast_247 : decode cL_isLeast 247 = .ok (.istore 12, 2) := by decide +kernel
theorem dL_isLeast_249 : decode cL_isLeast 249 = .ok (.iconst 0, 1) := by decide +kernel
theorem dL_isLeast_250 : decode cL_isLeast 250 = .ok (.istore 13, 2) := by decide +kernel
theorem dL_isLeast_252 : decode cL_isLeast 252 = .ok (.iload 13, 2) := by decide +kernel
theorem dL_isLeast_254 : decode cL_isLeast 254 = .ok (.aload 4, 2) := by decide +kernel
theorem dL_isLeast_256 : decode cL_isLeast 256 = .ok (.iconst 0, 1) := by decide +kernel
theorem dL_isLeast_257 : decode cL_isLeast 257 = .ok (.iaload, 1) := by decide +kernel
theorem dL_isLeast_258 : decode cL_isLeast 258 = .ok (.if_icmp .ge 165, 3) := by decide +kernel
theorem dL_isLeast_261 : decode cL_isLeast 261 = .ok (.aload_n 1, 1) := by decide +kernel
theorem dL_isLeast_262 : decode cL_isLeast 262 = .ok (.aload_n 2, 1) := by decide +kernel
theorem dL_isLeast_263 : decode cL_isLeast 263 = .ok (.aload 4, 2) := by decide +kernel
theorem dL_isLeast_265 : decode cL_isLeast 265 = .ok (.iload 12, 2) := by decide +kernel
theorem dL_isLeast_267 : decode cL_isLeast 267 = .ok (.invokestatic 43, 3) := by decide +kernel
theorem dL_isLeast_270 : decode cL_isLeast 270 = .ok (.iconst 1, 1) := by decide +kernel
theorem dL_isLeast_271 : decode cL_isLeast 271 = .ok (.iload 12, 2) := by decide +kernel
theorem dL_isLeast_273 : decode cL_isLeast 273 = .ok (.ishl, 1) := by decide +kernel
theorem dL_isLeast_274 : decode cL_isLeast 274 = .ok (.ior, 1) := by decide +kernel
theorem dL_isLeast_275 : decode cL_isLeast 275 = .ok (.aload_n 1, 1) := by decide +kernel
theorem dL_isLeast_276 : decode cL_isLeast 276 = .ok (.aload_n 2, 1) := by decide +kernel
theorem dL_isLeast_277 : decode cL_isLeast 277 = .ok (.aload 4, 2) := by decide +kernel
theorem dL_isLeast_279 : decode cL_isLeast 279 = .ok (.iload 13, 2) := by decide +kernel
theorem dL_isLeast_281 : decode cL_isLeast 281 = .ok (.invokestatic 43, 3) := by decide +kernel
theorem dL_isLeast_284 : decode cL_isLeast 284 = .ok (.iconst 1, 1) := by decide +kernel
theorem dL_isLeast_285 : decode cL_isLeast 285 = .ok (.iload 13, 2) := by decide +kernel
theorem dL_isLeast_287 : decode cL_isLeast 287 = .ok (.ishl, 1) := by decide +kernel
theorem dL_isLeast_288 : decode cL_isLeast 288 = .ok (.ior, 1) := by decide +kernel
theorem dL_isLeast_289 : decode cL_isLeast 289 = .ok (.iand, 1) := by decide +kernel
theorem dL_isLeast_290 : decode cL_isLeast 290 = .ok (.istore 14, 2) := by decide +kernel
theorem dL_isLeast_292 : decode cL_isLeast 292 = .ok (.iconst (-1), 1) := by decide +kernel
theorem dL_isLeast_293 : decode cL_isLeast 293 = .ok (.istore 15, 2) := by decide +kernel
theorem dL_isLeast_295 : decode cL_isLeast 295 = .ok (.iconst 3, 1) := by decide +kernel
theorem dL_isLeast_296 : decode cL_isLeast 296 = .ok (.istore 16, 2) := by decide +kernel
theorem dL_isLeast_298 : decode cL_isLeast 298 = .ok (.iload 16, 2) := by decide +kernel
theorem dL_isLeast_300 : decode cL_isLeast 300 = .ok (.ifCond .lt 79, 3) := by decide +kernel
theorem dL_isLeast_303 : decode cL_isLeast 303 = .ok (.iload 15, 2) := by decide +kernel
theorem dL_isLeast_305 : decode cL_isLeast 305 = .ok (.ifCond .ge 74, 3) := by decide +kernel
theorem dL_isLeast_308 : decode cL_isLeast 308 = .ok (.iconst 0, 1) := by decide +kernel
theorem dL_isLeast_309 : decode cL_isLeast 309 = .ok (.istore 17, 2) := by decide +kernel
theorem dL_isLeast_311 : decode cL_isLeast 311 = .ok (.iload 17, 2) := by decide +kernel
theorem dL_isLeast_313 : decode cL_isLeast 313 = .ok (.aload 4, 2) := by decide +kernel
theorem dL_isLeast_315 : decode cL_isLeast 315 = .ok (.iconst 0, 1) := by decide +kernel
theorem dL_isLeast_316 : decode cL_isLeast 316 = .ok (.iaload, 1) := by decide +kernel
theorem dL_isLeast_317 : decode cL_isLeast 317 = .ok (.if_icmp .ge 56, 3) := by decide +kernel
theorem dL_isLeast_320 : decode cL_isLeast 320 = .ok (.aload_n 1, 1) := by decide +kernel
theorem dL_isLeast_321 : decode cL_isLeast 321 = .ok (.iconst 2, 1) := by decide +kernel
theorem dL_isLeast_322 : decode cL_isLeast 322 = .ok (.iload 17, 2) := by decide +kernel
theorem dL_isLeast_324 : decode cL_isLeast 324 = .ok (.imul, 1) := by decide +kernel
theorem dL_isLeast_325 : decode cL_isLeast 325 = .ok (.iaload, 1) := by decide +kernel
theorem dL_isLeast_326 : decode cL_isLeast 326 = .ok (.iload 16, 2) := by decide +kernel
theorem dL_isLeast_328 : decode cL_isLeast 328 = .ok (.if_icmp .ne 35, 3) := by decide +kernel
theorem dL_isLeast_331 : decode cL_isLeast 331 = .ok (.iload 14, 2) := by decide +kernel
theorem dL_isLeast_333 : decode cL_isLeast 333 = .ok (.iload 17, 2) := by decide +kernel
theorem dL_isLeast_335 : decode cL_isLeast 335 = .ok (.ishr, 1) := by decide +kernel
theorem dL_isLeast_336 : decode cL_isLeast 336 = .ok (.iconst 1, 1) := by decide +kernel
theorem dL_isLeast_337 : decode cL_isLeast 337 = .ok (.iand, 1) := by decide +kernel
theorem dL_isLeast_338 : decode cL_isLeast 338 = .ok (.iconst 1, 1) := by decide +kernel
theorem dL_isLeast_339 : decode cL_isLeast 339 = .ok (.if_icmp .ne 24, 3) := by decide +kernel
theorem dL_isLeast_342 : decode cL_isLeast 342 = .ok (.aload_n 1, 1) := by decide +kernel
theorem dL_isLeast_343 : decode cL_isLeast 343 = .ok (.iconst 2, 1) := by decide +kernel
theorem dL_isLeast_344 : decode cL_isLeast 344 = .ok (.iload 12, 2) := by decide +kernel
theorem dL_isLeast_346 : decode cL_isLeast 346 = .ok (.imul, 1) := by decide +kernel
theorem dL_isLeast_347 : decode cL_isLeast 347 = .ok (.iaload, 1) := by decide +kernel
theorem dL_isLeast_348 : decode cL_isLeast 348 = .ok (.aload_n 1, 1) := by decide +kernel
theorem dL_isLeast_349 : decode cL_isLeast 349 = .ok (.iconst 2, 1) := by decide +kernel
theorem dL_isLeast_350 : decode cL_isLeast 350 = .ok (.iload 13, 2) := by decide +kernel
theorem dL_isLeast_352 : decode cL_isLeast 352 = .ok (.imul, 1) := by decide +kernel
theorem dL_isLeast_353 : decode cL_isLeast 353 = .ok (.iaload, 1) := by decide +kernel
theorem dL_isLeast_354 : decode cL_isLeast 354 = .ok (.iadd, 1) := by decide +kernel
theorem dL_isLeast_355 : decode cL_isLeast 355 = .ok (.iconst 2, 1) := by decide +kernel
theorem dL_isLeast_356 : decode cL_isLeast 356 = .ok (.iload 16, 2) := by decide +kernel
theorem dL_isLeast_358 : decode cL_isLeast 358 = .ok (.imul, 1) := by decide +kernel
theorem dL_isLeast_359 : decode cL_isLeast 359 = .ok (.isub, 1) := by decide +kernel
theorem dL_isLeast_360 : decode cL_isLeast 360 = .ok (.goto 5, 3) := by decide +kernel
theorem dL_isLeast_363 : decode cL_isLeast 363 = .ok (.iload 15, 2) := by decide +kernel
theorem dL_isLeast_365 : decode cL_isLeast 365 = .ok (.istore 15, 2) := by decide +kernel
theorem dL_isLeast_367 : decode cL_isLeast 367 = .ok (.iinc 17 1, 3) := by decide +kernel
theorem dL_isLeast_370 : decode cL_isLeast 370 = .ok (.goto (-59), 3) := by decide +kernel
theorem dL_isLeast_373 : decode cL_isLeast 373 = .ok (.iinc 16 (-1), 3) := by decide +kernel
theorem dL_isLeast_376 : decode cL_isLeast 376 = .ok (.goto (-78), 3) := by decide +kernel
theorem dL_isLeast_379 : decode cL_isLeast 379 = .ok (.iload 11, 2) := by decide +kernel
theorem dL_isLeast_381 : decode cL_isLeast 381 = .ok (.ifCond .eq 33, 3) := by decide +kernel
theorem dL_isLeast_384 : decode cL_isLeast 384 = .ok (.aload_n 0, 1) := by decide +kernel
theorem dL_isLeast_385 : decode cL_isLeast 385 = .ok (.iload 12, 2) := by decide +kernel
theorem dL_isLeast_387 : decode cL_isLeast 387 = .ok (.iload 13, 2) := by decide +kernel
theorem dL_isLeast_389 : decode cL_isLeast 389 = .ok (.invokevirtual 83, 3) := by decide +kernel
theorem dL_isLeast_392 : decode cL_isLeast 392 = .ok (.iload 15, 2) := by decide +kernel
theorem dL_isLeast_394 : decode cL_isLeast 394 = .ok (.if_icmp .ne 20, 3) := by decide +kernel
theorem dL_isLeast_397 : decode cL_isLeast 397 = .ok (.aload_n 0, 1) := by decide +kernel
theorem dL_isLeast_398 : decode cL_isLeast 398 = .ok (.iload 13, 2) := by decide +kernel
theorem dL_isLeast_400 : decode cL_isLeast 400 = .ok (.iload 12, 2) := by decide +kernel
theorem dL_isLeast_402 : decode cL_isLeast 402 = .ok (.invokevirtual 83, 3) := by decide +kernel
theorem dL_isLeast_405 : decode cL_isLeast 405 = .ok (.iload 15, 2) := by decide +kernel
theorem dL_isLeast_407 : decode cL_isLeast 407 = .ok (.if_icmp .ne 7, 3) := by decide +kernel
theorem dL_isLeast_410 : decode cL_isLeast 410 = .ok (.iconst 1, 1) := by decide +kernel
theorem dL_isLeast_411 : decode cL_isLeast 411 = .ok (.goto 4, 3) := by decide +kernel
theorem dL_isLeast_414 : decode cL_isLeast 414 = .ok (.iconst 0, 1) := by decide +kernel
theorem dL_isLeast_415 : decode cL_isLeast 415 = .ok (.istore 11, 2) := by decide +kernel
theorem dL_isLeast_417 : decode cL_isLeast 417 = .ok (.iinc 13 1, 3) := by decide +kernel
theorem dL_isLeast_420 : decode cL_isLeast 420 = .ok (.goto (-168), 3) := by decide +kernel
theorem dL_isLeast_423 : decode cL_isLeast 423 = .ok (.iload 11, 2) := by decide +kernel
theorem dL_isLeast_425 : decode cL_isLeast 425 = .ok (.ireturn, 1) := by decide +kernel
theorem dL_comes_0 : decode cL_comes 0 = .ok (.aload_n 2, 1) := by decide +kernel
theorem dL_comes_1 : decode cL_comes 1 = .ok (.iconst 3, 1) := by decide +kernel
theorem dL_comes_2 : decode cL_comes 2 = .ok (.iload_n 3, 1) := by decide +kernel
theorem dL_comes_3 : decode cL_comes 3 = .ok (.iadd, 1) := by decide +kernel
theorem dL_comes_4 : decode cL_comes 4 = .ok (.iaload, 1) := by decide +kernel
theorem dL_comes_5 : decode cL_comes 5 = .ok (.bipush 6, 2) := by decide +kernel
theorem dL_comes_7 : decode cL_comes 7 = .ok (.if_icmp .eq 11, 3) := by decide +kernel
theorem dL_comes_10 : decode cL_comes 10 = .ok (.aload_n 2, 1) := by decide +kernel
theorem dL_comes_11 : decode cL_comes 11 = .ok (.iconst 0, 1) := by decide +kernel
theorem dL_comes_12 : decode cL_comes 12 = .ok (.iaload, 1) := by decide +kernel
theorem dL_comes_13 : decode cL_comes 13 = .ok (.bipush 20, 2) := by decide +kernel
theorem dL_comes_15 : decode cL_comes 15 = .ok (.if_icmp .ne 12, 3) := by decide +kernel
theorem dL_comes_18 : decode cL_comes 18 = .ok (.aload_n 2, 1) := by decide +kernel
theorem dL_comes_19 : decode cL_comes 19 = .ok (.iconst 2, 1) := by decide +kernel
theorem dL_comes_20 : decode cL_comes 20 = .ok (.dup2, 1) := by decide +kernel
theorem dL_comes_21 : decode cL_comes 21 = .ok (.iaload, 1) := by decide +kernel
theorem dL_comes_22 : decode cL_comes 22 = .ok (.iconst 1, 1) := by decide +kernel
theorem dL_comes_23 : decode cL_comes 23 = .ok (.iadd, 1) := by decide +kernel
theorem dL_comes_24 : decode cL_comes 24 = .ok (.iastore, 1) := by decide +kernel
theorem dL_comes_25 : decode cL_comes 25 = .ok (.iconst (-1), 1) := by decide +kernel
theorem dL_comes_26 : decode cL_comes 26 = .ok (.ireturn, 1) := by decide +kernel
theorem dL_comes_27 : decode cL_comes 27 = .ok (.aload_n 0, 1) := by decide +kernel
theorem dL_comes_28 : decode cL_comes 28 = .ok (.iconst 2, 1) := by decide +kernel
theorem dL_comes_29 : decode cL_comes 29 = .ok (.aload_n 2, 1) := by decide +kernel
theorem dL_comes_30 : decode cL_comes 30 = .ok (.iconst 0, 1) := by decide +kernel
theorem dL_comes_31 : decode cL_comes 31 = .ok (.iaload, 1) := by decide +kernel
theorem dL_comes_32 : decode cL_comes 32 = .ok (.imul, 1) := by decide +kernel
theorem dL_comes_33 : decode cL_comes 33 = .ok (.iload_n 3, 1) := by decide +kernel
theorem dL_comes_34 : decode cL_comes 34 = .ok (.iastore, 1) := by decide +kernel
theorem dL_comes_35 : decode cL_comes 35 = .ok (.aload_n 0, 1) := by decide +kernel
theorem dL_comes_36 : decode cL_comes 36 = .ok (.iconst 2, 1) := by decide +kernel
theorem dL_comes_37 : decode cL_comes 37 = .ok (.aload_n 2, 1) := by decide +kernel
theorem dL_comes_38 : decode cL_comes 38 = .ok (.iconst 0, 1) := by decide +kernel
theorem dL_comes_39 : decode cL_comes 39 = .ok (.iaload, 1) := by decide +kernel
theorem dL_comes_40 : decode cL_comes 40 = .ok (.imul, 1) := by decide +kernel
theorem dL_comes_41 : decode cL_comes 41 = .ok (.iconst 1, 1) := by decide +kernel
theorem dL_comes_42 : decode cL_comes 42 = .ok (.iadd, 1) := by decide +kernel
theorem dL_comes_43 : decode cL_comes 43 = .ok (.iload 4, 2) := by decide +kernel
theorem dL_comes_45 : decode cL_comes 45 = .ok (.iastore, 1) := by decide +kernel
theorem dL_comes_46 : decode cL_comes 46 = .ok (.aload_n 1, 1) := by decide +kernel
theorem dL_comes_47 : decode cL_comes 47 = .ok (.bipush 6, 2) := by decide +kernel
theorem dL_comes_49 : decode cL_comes 49 = .ok (.iload_n 3, 1) := by decide +kernel
theorem dL_comes_50 : decode cL_comes 50 = .ok (.imul, 1) := by decide +kernel
theorem dL_comes_51 : decode cL_comes 51 = .ok (.aload_n 2, 1) := by decide +kernel
theorem dL_comes_52 : decode cL_comes 52 = .ok (.iconst 3, 1) := by decide +kernel
theorem dL_comes_53 : decode cL_comes 53 = .ok (.iload_n 3, 1) := by decide +kernel
theorem dL_comes_54 : decode cL_comes 54 = .ok (.iadd, 1) := by decide +kernel
theorem dL_comes_55 : decode cL_comes 55 = .ok (.iaload, 1) := by decide +kernel
theorem dL_comes_56 : decode cL_comes 56 = .ok (.iadd, 1) := by decide +kernel
theorem dL_comes_57 : decode cL_comes 57 = .ok (.aload_n 2, 1) := by decide +kernel
theorem dL_comes_58 : decode cL_comes 58 = .ok (.iconst 0, 1) := by decide +kernel
theorem dL_comes_59 : decode cL_comes 59 = .ok (.iaload, 1) := by decide +kernel
theorem dL_comes_60 : decode cL_comes 60 = .ok (.iastore, 1) := by decide +kernel
theorem dL_comes_61 : decode cL_comes 61 = .ok (.aload_n 2, 1) := by decide +kernel
theorem dL_comes_62 : decode cL_comes 62 = .ok (.iconst 3, 1) := by decide +kernel
theorem dL_comes_63 : decode cL_comes 63 = .ok (.iload_n 3, 1) := by decide +kernel
theorem dL_comes_64 : decode cL_comes 64 = .ok (.iadd, 1) := by decide +kernel
theorem dL_comes_65 : decode cL_comes 65 = .ok (.dup2, 1) := by decide +kernel
theorem dL_comes_66 : decode cL_comes 66 = .ok (.iaload, 1) := by decide +kernel
theorem dL_comes_67 : decode cL_comes 67 = .ok (.iconst 1, 1) := by decide +kernel
theorem dL_comes_68 : decode cL_comes 68 = .ok (.iadd, 1) := by decide +kernel
theorem dL_comes_69 : decode cL_comes 69 = .ok (.iastore, 1) := by decide +kernel
theorem dL_comes_70 : decode cL_comes 70 = .ok (.aload_n 2, 1) := by decide +kernel
theorem dL_comes_71 : decode cL_comes 71 = .ok (.iconst 0, 1) := by decide +kernel
theorem dL_comes_72 : decode cL_comes 72 = .ok (.dup2, 1) := by decide +kernel
theorem dL_comes_73 : decode cL_comes 73 = .ok (.iaload, 1) := by decide +kernel
theorem dL_comes_74 : decode cL_comes 74 = .ok (.iconst 1, 1) := by decide +kernel
theorem dL_comes_75 : decode cL_comes 75 = .ok (.iadd, 1) := by decide +kernel
theorem dL_comes_76 : decode cL_comes 76 = .ok (.iastore, 1) := by decide +kernel
theorem dL_comes_77 : decode cL_comes 77 = .ok (.aload_n 2, 1) := by decide +kernel
theorem dL_comes_78 : decode cL_comes 78 = .ok (.iconst 0, 1) := by decide +kernel
theorem dL_comes_79 : decode cL_comes 79 = .ok (.iaload, 1) := by decide +kernel
theorem dL_comes_80 : decode cL_comes 80 = .ok (.iconst 1, 1) := by decide +kernel
theorem dL_comes_81 : decode cL_comes 81 = .ok (.isub, 1) := by decide +kernel
theorem dL_comes_82 : decode cL_comes 82 = .ok (.ireturn, 1) := by decide +kernel
set_option maxRecDepth 20000 in
theorem ggL_marries_L_couples : GoodIn wsL_marries wsL_couples := goodIn_r _ [4] (by decide +kernel) (by decide +kernel)
set_option maxRecDepth 20000 in
theorem gL_marries_L_couples : GoodIn wsL_marries (va_wsS RL 50 yL_couples wsL_couples) := goodIn_app (goodIn_of _ (by decide +kernel)) ggL_marries_L_couples
theorem dL_marries_0 : decode cL_marries 0 = .ok (.iload_n 3, 1) := by decide +kernel
theorem dL_marries_1 : decode cL_marries 1 = .ok (.iload 4, 2) := by decide +kernel
theorem dL_marries_3 : decode cL_marries 3 = .ok (.if_icmp .ge 7, 3) := by decide +kernel
theorem dL_marries_6 : decode cL_marries 6 = .ok (.iload_n 3, 1) := by decide +kernel
theorem dL_marries_7 : decode cL_marries 7 = .ok (.goto 5, 3) := by decide +kernel
theorem dL_marries_10 : decode cL_marries 10 = .ok (.iload 4, 2) := by decide +kernel
theorem dL_marries_12 : decode cL_marries 12 = .ok (.istore 5, 2) := by decide +kernel
theorem dL_marries_14 : decode cL_marries 14 = .ok (.iload_n 3, 1) := by decide +kernel
theorem dL_marries_15 : decode cL_marries 15 = .ok (.iload 4, 2) := by decide +kernel
theorem dL_marries_17 : decode cL_marries 17 = .ok (.iadd, 1) := by decide +kernel
theorem dL_marries_18 : decode cL_marries 18 = .ok (.iload 5, 2) := by decide +kernel
theorem dL_marries_20 : decode cL_marries 20 = .ok (.isub, 1) := by decide +kernel
theorem dL_marries_21 : decode cL_marries 21 = .ok (.istore 6, 2) := by decide +kernel
theorem dL_marries_23 : decode cL_marries 23 = .ok (.iconst 0, 1) := by decide +kernel
theorem dL_marries_24 : decode cL_marries 24 = .ok (.istore 7, 2) := by decide +kernel
theorem dL_marries_26 : decode cL_marries 26 = .ok (.iconst 0, 1) := by decide +kernel
theorem dL_marries_27 : decode cL_marries 27 = .ok (.istore 8, 2) := by decide +kernel
theorem dL_marries_29 : decode cL_marries 29 = .ok (.iload 8, 2) := by decide +kernel
theorem dL_marries_31 : decode cL_marries 31 = .ok (.aload_n 2, 1) := by decide +kernel
theorem dL_marries_32 : decode cL_marries 32 = .ok (.iconst 1, 1) := by decide +kernel
theorem dL_marries_33 : decode cL_marries 33 = .ok (.iaload, 1) := by decide +kernel
theorem dL_marries_34 : decode cL_marries 34 = .ok (.if_icmp .ge 45, 3) := by decide +kernel
theorem dL_marries_37 : decode cL_marries 37 = .ok (.iload 7, 2) := by decide +kernel
theorem dL_marries_39 : decode cL_marries 39 = .ok (.ifCond .ne 27, 3) := by decide +kernel
theorem dL_marries_42 : decode cL_marries 42 = .ok (.aload_n 1, 1) := by decide +kernel
theorem dL_marries_43 : decode cL_marries 43 = .ok (.iconst 2, 1) := by decide +kernel
theorem dL_marries_44 : decode cL_marries 44 = .ok (.iload 8, 2) := by decide +kernel
theorem dL_marries_46 : decode cL_marries 46 = .ok (.imul, 1) := by decide +kernel
theorem dL_marries_47 : decode cL_marries 47 = .ok (.iaload, 1) := by decide +kernel
theorem dL_marries_48 : decode cL_marries 48 = .ok (.iload 5, 2) := by decide +kernel
theorem dL_marries_50 : decode cL_marries 50 = .ok (.if_icmp .ne 20, 3) := by decide +kernel
theorem dL_marries_53 : decode cL_marries 53 = .ok (.aload_n 1, 1) := by decide +kernel
theorem dL_marries_54 : decode cL_marries 54 = .ok (.iconst 2, 1) := by decide +kernel
theorem dL_marries_55 : decode cL_marries 55 = .ok (.iload 8, 2) := by decide +kernel
theorem dL_marries_57 : decode cL_marries 57 = .ok (.imul, 1) := by decide +kernel
theorem dL_marries_58 : decode cL_marries 58 = .ok (.iconst 1, 1) := by decide +kernel
theorem dL_marries_59 : decode cL_marries 59 = .ok (.iadd, 1) := by decide +kernel
theorem dL_marries_60 : decode cL_marries 60 = .ok (.iaload, 1) := by decide +kernel
theorem dL_marries_61 : decode cL_marries 61 = .ok (.iload 6, 2) := by decide +kernel
theorem dL_marries_63 : decode cL_marries 63 = .ok (.if_icmp .ne 7, 3) := by decide +kernel
theorem dL_marries_66 : decode cL_marries 66 = .ok (.iconst 1, 1) := by decide +kernel
theorem dL_marries_67 : decode cL_marries 67 = .ok (.goto 4, 3) := by decide +kernel
theorem dL_marries_70 : decode cL_marries 70 = .ok (.iconst 0, 1) := by decide +kernel
theorem dL_marries_71 : decode cL_marries 71 = .ok (.istore 7, 2) := by decide +kernel
theorem dL_marries_73 : decode cL_marries 73 = .ok (.iinc 8 1, 3) := by decide +kernel
theorem dL_marries_76 : decode cL_marries 76 = .ok (.goto (-47), 3) := by decide +kernel
theorem dL_marries_79 : decode cL_marries 79 = .ok (.aload_n 2, 1) := by decide +kernel
theorem dL_marries_80 : decode cL_marries 80 = .ok (.iconst 1, 1) := by decide +kernel
theorem dL_marries_81 : decode cL_marries 81 = .ok (.iaload, 1) := by decide +kernel
theorem dL_marries_82 : decode cL_marries 82 = .ok (.bipush 10, 2) := by decide +kernel
theorem dL_marries_84 : decode cL_marries 84 = .ok (.if_icmp .ne 7, 3) := by decide +kernel
theorem dL_marries_87 : decode cL_marries 87 = .ok (.iconst 1, 1) := by decide +kernel
theorem dL_marries_88 : decode cL_marries 88 = .ok (.goto 68, 3) := by decide +kernel
theorem dL_marries_91 : decode cL_marries 91 = .ok (.aload_n 0, 1) := by decide +kernel
theorem dL_marries_92 : decode cL_marries 92 = .ok (.iconst 2, 1) := by decide +kernel
theorem dL_marries_93 : decode cL_marries 93 = .ok (.iload 5, 2) := by decide +kernel
theorem dL_marries_95 : decode cL_marries 95 = .ok (.imul, 1) := by decide +kernel
theorem dL_marries_96 : decode cL_marries 96 = .ok (.iaload, 1) := by decide +kernel
theorem dL_marries_97 : decode cL_marries 97 = .ok (.aload_n 0, 1) := by decide +kernel
theorem dL_marries_98 : decode cL_marries 98 = .ok (.iconst 2, 1) := by decide +kernel
theorem dL_marries_99 : decode cL_marries 99 = .ok (.iload 6, 2) := by decide +kernel
theorem dL_marries_101 : decode cL_marries 101 = .ok (.imul, 1) := by decide +kernel
theorem dL_marries_102 : decode cL_marries 102 = .ok (.iaload, 1) := by decide +kernel
theorem dL_marries_103 : decode cL_marries 103 = .ok (.if_icmp .ne 13, 3) := by decide +kernel
theorem dL_marries_106 : decode cL_marries 106 = .ok (.aload_n 0, 1) := by decide +kernel
theorem dL_marries_107 : decode cL_marries 107 = .ok (.iconst 2, 1) := by decide +kernel
theorem dL_marries_108 : decode cL_marries 108 = .ok (.iload 5, 2) := by decide +kernel
theorem dL_marries_110 : decode cL_marries 110 = .ok (.imul, 1) := by decide +kernel
theorem dL_marries_111 : decode cL_marries 111 = .ok (.iaload, 1) := by decide +kernel
theorem dL_marries_112 : decode cL_marries 112 = .ok (.iconst 3, 1) := by decide +kernel
theorem dL_marries_113 : decode cL_marries 113 = .ok (.if_icmp .ne 7, 3) := by decide +kernel
theorem dL_marries_116 : decode cL_marries 116 = .ok (.iconst 2, 1) := by decide +kernel
theorem dL_marries_117 : decode cL_marries 117 = .ok (.goto 39, 3) := by decide +kernel
theorem dL_marries_120 : decode cL_marries 120 = .ok (.iload 7, 2) := by decide +kernel
theorem dL_marries_122 : decode cL_marries 122 = .ok (.ifCond .eq 7, 3) := by decide +kernel
theorem dL_marries_125 : decode cL_marries 125 = .ok (.iconst 3, 1) := by decide +kernel
theorem dL_marries_126 : decode cL_marries 126 = .ok (.goto 30, 3) := by decide +kernel
theorem dL_marries_129 : decode cL_marries 129 = .ok (.aload_n 1, 1) := by decide +kernel
theorem dL_marries_130 : decode cL_marries 130 = .ok (.aload_n 2, 1) := by decide +kernel
theorem dL_marries_131 : decode cL_marries 131 = .ok (.iload 5, 2) := by decide +kernel
theorem dL_marries_133 : decode cL_marries 133 = .ok (.invokestatic 50, 3) := by decide +kernel
theorem dL_marries_136 : decode cL_marries 136 = .ok (.iconst 1, 1) := by decide +kernel
theorem dL_marries_137 : decode cL_marries 137 = .ok (.if_icmp .gt 14, 3) := by decide +kernel
theorem dL_marries_140 : decode cL_marries 140 = .ok (.aload_n 1, 1) := by decide +kernel
theorem dL_marries_141 : decode cL_marries 141 = .ok (.aload_n 2, 1) := by decide +kernel
theorem dL_marries_142 : decode cL_marries 142 = .ok (.iload 6, 2) := by decide +kernel
theorem dL_marries_144 : decode cL_marries 144 = .ok (.invokestatic 50, 3) := by decide +kernel
theorem dL_marries_147 : decode cL_marries 147 = .ok (.iconst 1, 1) := by decide +kernel
theorem dL_marries_148 : decode cL_marries 148 = .ok (.if_icmp .le 7, 3) := by decide +kernel
theorem dL_marries_151 : decode cL_marries 151 = .ok (.iconst 4, 1) := by decide +kernel
theorem dL_marries_152 : decode cL_marries 152 = .ok (.goto 4, 3) := by decide +kernel
theorem dL_marries_155 : decode cL_marries 155 = .ok (.iconst 0, 1) := by decide +kernel
theorem dL_marries_156 : decode cL_marries 156 = .ok (.istore 8, 2) := by decide +kernel
theorem dL_marries_158 : decode cL_marries 158 = .ok (.iload 8, 2) := by decide +kernel
theorem dL_marries_160 : decode cL_marries 160 = .ok (.ifCond .le 13, 3) := by decide +kernel
theorem dL_marries_163 : decode cL_marries 163 = .ok (.aload_n 2, 1) := by decide +kernel
theorem dL_marries_164 : decode cL_marries 164 = .ok (.iconst 2, 1) := by decide +kernel
theorem dL_marries_165 : decode cL_marries 165 = .ok (.dup2, 1) := by decide +kernel
theorem dL_marries_166 : decode cL_marries 166 = .ok (.iaload, 1) := by decide +kernel
theorem dL_marries_167 : decode cL_marries 167 = .ok (.iconst 1, 1) := by decide +kernel
theorem dL_marries_168 : decode cL_marries 168 = .ok (.iadd, 1) := by decide +kernel
theorem dL_marries_169 : decode cL_marries 169 = .ok (.iastore, 1) := by decide +kernel
theorem dL_marries_170 : decode cL_marries 170 = .ok (.iload 8, 2) := by decide +kernel
theorem dL_marries_172 : decode cL_marries 172 = .ok (.ireturn, 1) := by decide +kernel
theorem dL_marries_173 : decode cL_marries 173 = .ok (.aload_n 1, 1) := by decide +kernel
theorem dL_marries_174 : decode cL_marries 174 = .ok (.iconst 2, 1) := by decide +kernel
theorem dL_marries_175 : decode cL_marries 175 = .ok (.aload_n 2, 1) := by decide +kernel
theorem dL_marries_176 : decode cL_marries 176 = .ok (.iconst 1, 1) := by decide +kernel
theorem dL_marries_177 : decode cL_marries 177 = .ok (.iaload, 1) := by decide +kernel
theorem dL_marries_178 : decode cL_marries 178 = .ok (.imul, 1) := by decide +kernel
theorem dL_marries_179 : decode cL_marries 179 = .ok (.iload 5, 2) := by decide +kernel
theorem dL_marries_181 : decode cL_marries 181 = .ok (.iastore, 1) := by decide +kernel
theorem dL_marries_182 : decode cL_marries 182 = .ok (.aload_n 1, 1) := by decide +kernel
theorem dL_marries_183 : decode cL_marries 183 = .ok (.iconst 2, 1) := by decide +kernel
theorem dL_marries_184 : decode cL_marries 184 = .ok (.aload_n 2, 1) := by decide +kernel
theorem dL_marries_185 : decode cL_marries 185 = .ok (.iconst 1, 1) := by decide +kernel
theorem dL_marries_186 : decode cL_marries 186 = .ok (.iaload, 1) := by decide +kernel
theorem dL_marries_187 : decode cL_marries 187 = .ok (.imul, 1) := by decide +kernel
theorem dL_marries_188 : decode cL_marries 188 = .ok (.iconst 1, 1) := by decide +kernel
theorem dL_marries_189 : decode cL_marries 189 = .ok (.iadd, 1) := by decide +kernel
theorem dL_marries_190 : decode cL_marries 190 = .ok (.iload 6, 2) := by decide +kernel
theorem dL_marries_192 : decode cL_marries 192 = .ok (.iastore, 1) := by decide +kernel
theorem dL_marries_193 : decode cL_marries 193 = .ok (.aload_n 2, 1) := by decide +kernel
theorem dL_marries_194 : decode cL_marries 194 = .ok (.iconst 1, 1) := by decide +kernel
theorem dL_marries_195 : decode cL_marries 195 = .ok (.dup2, 1) := by decide +kernel
theorem dL_marries_196 : decode cL_marries 196 = .ok (.iaload, 1) := by decide +kernel
theorem dL_marries_197 : decode cL_marries 197 = .ok (.iconst 1, 1) := by decide +kernel
theorem dL_marries_198 : decode cL_marries 198 = .ok (.iadd, 1) := by decide +kernel
theorem dL_marries_199 : decode cL_marries 199 = .ok (.iastore, 1) := by decide +kernel
theorem dL_marries_200 : decode cL_marries 200 = .ok (.aload_n 2, 1) := by decide +kernel
theorem dL_marries_201 : decode cL_marries 201 = .ok (.iconst 1, 1) := by decide +kernel
theorem dL_marries_202 : decode cL_marries 202 = .ok (.iaload, 1) := by decide +kernel
theorem dL_marries_203 : decode cL_marries 203 = .ok (.bipush 9, 2) := by decide +kernel
theorem dL_marries_205 : decode cL_marries 205 = .ok (.iadd, 1) := by decide +kernel
theorem dL_marries_206 : decode cL_marries 206 = .ok (.ireturn, 1) := by decide +kernel
set_option maxRecDepth 20000 in
theorem ggL_acts_L_low : GoodIn wsL_acts wsL_low := goodIn_r _ [5, 6] (by decide +kernel) (by decide +kernel)
set_option maxRecDepth 20000 in
theorem gL_acts_L_low : GoodIn wsL_acts (va_wsS RL 80 yL_low wsL_low) := goodIn_app (goodIn_of _ (by decide +kernel)) ggL_acts_L_low
set_option maxRecDepth 20000 in
theorem ggL_acts_X7_person : GoodIn wsL_acts wsX7_person := goodIn_ca (goodIn_r _ [11, 12, 13, 14, 15, 16, 17, 10, 18, 19, 20, 21, 22, 23, 24, 25, 26, 27, 28, 29, 30, 31, 32, 33, 34, 35, 36, 37, 38, 39, 40, 41, 42, 43, 44, 45, 46, 47, 48, 49, 50, 51, 52, 53, 54, 55, 56, 57, 58, 59, 60, 61, 318, 319, 320, 321, 322, 323, 324, 325, 326, 327, 328, 329, 330, 331, 332, 333, 334, 335, 336, 337, 338] (by decide +kernel) (by decide +kernel)) (goodIn_sub (fun _ h => List.mem_cons_of_mem _ (List.mem_append_left _ (List.mem_append_right _ h))) (by decide +kernel))
set_option maxRecDepth 20000 in
theorem gL_acts_X7_person : GoodIn wsL_acts (wsV RL 86 RX7 yX7_person wsX7_person) := goodIn_app (goodIn_of _ (by decide +kernel)) ggL_acts_X7_person
set_option maxRecDepth 20000 in
theorem ggL_acts_L_comes : GoodIn wsL_acts wsL_comes := goodIn_r _ [64] (by decide +kernel) (by decide +kernel)
set_option maxRecDepth 20000 in
theorem gL_acts_L_comes : GoodIn wsL_acts (va_wsS RL 89 yL_comes wsL_comes) := goodIn_app (goodIn_of _ (by decide +kernel)) ggL_acts_L_comes
set_option maxRecDepth 20000 in
theorem ggL_acts_X7_marry : GoodIn wsL_acts wsX7_marry := goodIn_ca (goodIn_ca (goodIn_r _ [68, 12, 13, 69, 70, 15, 14, 71, 59, 60, 30, 61, 43, 19, 20, 21, 22, 23, 24, 25, 26, 27, 28, 29, 31, 32, 33, 34, 35, 36, 37, 38, 39, 40, 41, 42, 44, 45, 72, 73, 74, 75, 76, 77, 78, 79, 80, 81, 82, 83, 84, 85, 86, 87, 88, 89, 90, 58, 91, 92, 93, 94, 95, 96, 97, 98, 99, 100, 101, 102, 318, 319, 320, 321, 322, 323, 324, 325, 329, 330, 331, 332, 333, 334, 335, 336, 337, 338, 326, 327, 328] (by decide +kernel) (by decide +kernel)) (goodIn_sub (fun _ h => List.mem_cons_of_mem _ (List.mem_append_left _ (List.mem_append_right _ h))) (by decide +kernel))) (goodIn_sub (fun _ h => List.mem_cons_of_mem _ (List.mem_append_right _ h)) (by decide +kernel))
set_option maxRecDepth 20000 in
theorem gL_acts_X7_marry : GoodIn wsL_acts (wsV RL 93 RX7 yX7_marry wsX7_marry) := goodIn_app (goodIn_of _ (by decide +kernel)) ggL_acts_X7_marry
set_option maxRecDepth 20000 in
theorem ggL_acts_L_marries : GoodIn wsL_acts wsL_marries := goodIn_r _ [105, 106, 107, 4, 108] (by decide +kernel) (by decide +kernel)
set_option maxRecDepth 20000 in
theorem gL_acts_L_marries : GoodIn wsL_acts (va_wsS RL 96 yL_marries wsL_marries) := goodIn_app (goodIn_of _ (by decide +kernel)) ggL_acts_L_marries
set_option maxRecDepth 20000 in
theorem ggL_acts_X7_child : GoodIn wsL_acts wsX7_child := goodIn_ca (goodIn_r _ [112, 12, 13, 15, 14, 113, 114, 115, 30, 116, 44, 19, 20, 21, 22, 23, 24, 25, 26, 27, 28, 29, 31, 32, 33, 34, 35, 36, 37, 38, 39, 40, 41, 42, 43, 45, 117, 118, 119, 120, 121, 122, 123, 124, 125, 87, 88, 89, 90, 58, 59, 60, 61, 126, 47, 48, 49, 50, 51, 52, 53, 54, 55, 56, 57, 318, 319, 320, 321, 322, 323, 324, 325, 329, 330, 331, 332, 333, 334, 335, 336, 337, 338, 326, 327, 328] (by decide +kernel) (by decide +kernel)) (goodIn_sub (fun _ h => List.mem_cons_of_mem _ (List.mem_append_left _ (List.mem_append_right _ h))) (by decide +kernel))
set_option maxRecDepth 20000 in
theorem gL_acts_X7_child : GoodIn wsL_acts (wsV RL 99 RX7 yX7_child wsX7_child) := goodIn_app (goodIn_of _ (by decide +kernel)) ggL_acts_X7_child
set_option maxRecDepth 20000 in
theorem ggL_acts_X7_at : GoodIn wsL_acts wsX7_at := goodIn_ca (goodIn_ca (goodIn_r _ [130, 12, 13, 69, 70, 15, 16, 17, 10, 18, 131, 132, 133, 30, 134, 41, 50, 51, 52, 53, 42, 318, 319, 320, 321, 322, 323, 324, 325, 329, 330, 331, 332, 333, 334, 335, 336, 337, 338] (by decide +kernel) (by decide +kernel)) (goodIn_sub (fun _ h => List.mem_cons_of_mem _ (List.mem_append_left _ (List.mem_append_right _ h))) (by decide +kernel))) (goodIn_sub (fun _ h => List.mem_cons_of_mem _ (List.mem_append_right _ h)) (by decide +kernel))
set_option maxRecDepth 20000 in
theorem gL_acts_X7_at : GoodIn wsL_acts (wsV RL 67 RX7 yX7_at wsX7_at) := goodIn_app (goodIn_of _ (by decide +kernel)) ggL_acts_X7_at
set_option maxRecDepth 20000 in
theorem ggL_acts_L_all : GoodIn wsL_acts wsL_all := goodIn_r _ [137, 138, 139, 4, 140, 141, 142, 143, 144, 145, 146] (by decide +kernel) (by decide +kernel)
set_option maxRecDepth 20000 in
theorem gL_acts_L_all : GoodIn wsL_acts (va_wsS RL 57 yL_all wsL_all) := goodIn_app (goodIn_of _ (by decide +kernel)) ggL_acts_L_all
set_option maxRecDepth 20000 in
theorem ggL_acts_X7_swap : GoodIn wsL_acts wsX7_swap := goodIn_ca (goodIn_ca (goodIn_r _ [150, 12, 13, 69, 70, 15, 14, 16, 17, 10, 18, 151, 51, 52, 30, 53, 42, 19, 20, 21, 22, 23, 24, 25, 26, 27, 28, 29, 31, 32, 33, 34, 35, 36, 37, 38, 39, 40, 41, 43, 44, 45, 152, 153, 154, 155, 156, 157, 158, 159, 160, 161, 162, 163, 164, 165, 166, 132, 133, 134, 50, 167, 168, 169, 170, 171, 172, 173, 174, 58, 59, 60, 61, 175, 176, 177, 178, 125, 114, 115, 116, 179, 180, 181, 182, 183, 184, 185, 186, 187, 188, 189, 190, 191, 54, 55, 56, 57, 318, 319, 320, 321, 322, 323, 324, 325, 329, 330, 331, 332, 333, 334, 335, 336, 337, 338, 326, 327, 328, 339, 340, 341] (by decide +kernel) (by decide +kernel)) (goodIn_sub (fun _ h => List.mem_cons_of_mem _ (List.mem_append_left _ (List.mem_append_right _ h))) (by decide +kernel))) (goodIn_sub (fun _ h => List.mem_cons_of_mem _ (List.mem_append_right _ h)) (by decide +kernel))
set_option maxRecDepth 20000 in
theorem gL_acts_X7_swap : GoodIn wsL_acts (wsV RL 102 RX7 yX7_swap wsX7_swap) := goodIn_app (goodIn_of _ (by decide +kernel)) ggL_acts_X7_swap
set_option maxRecDepth 20000 in
theorem ggL_acts_L_copy : GoodIn wsL_acts wsL_copy := goodIn_r _ [194] (by decide +kernel) (by decide +kernel)
set_option maxRecDepth 20000 in
theorem gL_acts_L_copy : GoodIn wsL_acts (va_wsS RL 27 yL_copy wsL_copy) := goodIn_app (goodIn_of _ (by decide +kernel)) ggL_acts_L_copy
set_option maxRecDepth 20000 in
theorem ggL_acts_L_middle : GoodIn wsL_acts wsL_middle := goodIn_r _ [143, 144, 145, 4, 146] (by decide +kernel) (by decide +kernel)
set_option maxRecDepth 20000 in
theorem gL_acts_L_middle : GoodIn wsL_acts (va_wsS RL 15 yL_middle wsL_middle) := goodIn_app (goodIn_of _ (by decide +kernel)) ggL_acts_L_middle
set_option maxRecDepth 20000 in
theorem ggL_acts_X7_byParents : GoodIn wsL_acts wsX7_byParents := goodIn_ca (goodIn_r _ [198, 12, 13, 14, 15, 199, 16, 17, 10, 18, 19, 20, 21, 22, 23, 24, 25, 26, 27, 28, 29, 30, 31, 32, 33, 34, 35, 36, 37, 38, 39, 40, 41, 42, 43, 44, 45, 200, 201, 202, 203, 204, 205, 77, 78, 79, 206, 207, 208, 51, 52, 53, 209, 132, 133, 134, 50, 210, 168, 169, 170, 171, 172, 173, 174, 58, 59, 60, 61, 175, 176, 177, 178, 125, 114, 115, 116, 179, 180, 181, 182, 211, 212, 213, 214, 215, 55, 56, 57, 318, 319, 320, 321, 322, 323, 324, 325, 326, 327, 328, 329, 330, 331, 332, 333, 334, 335, 336, 337, 338, 342, 343] (by decide +kernel) (by decide +kernel)) (goodIn_sub (fun _ h => List.mem_cons_of_mem _ (List.mem_append_left _ (List.mem_append_right _ h))) (by decide +kernel))
set_option maxRecDepth 20000 in
theorem gL_acts_X7_byParents : GoodIn wsL_acts (wsV RL 105 RX7 yX7_byParents wsX7_byParents) := goodIn_app (goodIn_of _ (by decide +kernel)) ggL_acts_X7_byParents
set_option maxRecDepth 20000 in
theorem ggL_acts_L_best : GoodIn wsL_acts wsL_best := goodIn_r _ [218, 1, 192, 193, 4, 194, 219, 220, 221, 222, 223, 224, 225, 226, 227, 138, 139, 140, 141, 142, 143, 144, 145, 146] (by decide +kernel) (by decide +kernel)
set_option maxRecDepth 20000 in
theorem gL_acts_L_best : GoodIn wsL_acts (va_wsS RL 70 yL_best wsL_best) := goodIn_app (goodIn_of _ (by decide +kernel)) ggL_acts_L_best
set_option maxRecDepth 20000 in
theorem ggL_acts_L_lays : GoodIn wsL_acts wsL_lays := goodIn_r _ [221, 222, 223, 4, 224] (by decide +kernel) (by decide +kernel)
set_option maxRecDepth 20000 in
theorem gL_acts_L_lays : GoodIn wsL_acts (va_wsS RL 31 yL_lays wsL_lays) := goodIn_app (goodIn_of _ (by decide +kernel)) ggL_acts_L_lays
set_option maxRecDepth 20000 in
theorem ggL_acts_X7_untangle : GoodIn wsL_acts wsX7_untangle := goodIn_ca (goodIn_r _ [231, 12, 13, 14, 15, 232, 16, 17, 10, 18, 19, 20, 21, 22, 23, 24, 25, 26, 27, 28, 29, 30, 31, 32, 33, 34, 35, 36, 37, 38, 39, 40, 41, 42, 43, 44, 45, 233, 234, 235, 236, 237, 238, 239, 240, 241, 242, 243, 244, 245, 246, 247, 248, 88, 89, 90, 58, 59, 60, 61, 249, 250, 251, 252, 253, 254, 168, 169, 170, 171, 172, 173, 174, 175, 176, 177, 178, 125, 114, 115, 116, 179, 180, 181, 182, 255, 256, 257, 258, 259, 260, 261, 51, 52, 53, 262, 132, 133, 134, 50, 263, 264, 265, 266, 267, 268, 269, 270, 271, 122, 123, 124, 272, 273, 274, 275, 276, 277, 278, 279, 280, 281, 282, 283, 284, 285, 286, 287, 288, 289, 290, 291, 292, 293, 294, 295, 296, 297, 298, 299, 300, 301, 302, 303, 304, 305, 306, 307, 308, 309, 310, 311, 312, 313, 314, 315, 316, 317, 55, 56, 57, 318, 319, 320, 321, 322, 323, 324, 325, 326, 327, 328, 329, 330, 331, 332, 333, 334, 335, 336, 337, 338, 344, 345, 346, 347, 348, 349, 350, 351, 352, 353, 354, 355, 356] (by decide +kernel) (by decide +kernel)) (goodIn_sub (fun _ h => List.mem_cons_of_mem _ (List.mem_append_left _ (List.mem_append_right _ h))) (by decide +kernel))
set_option maxRecDepth 20000 in
theorem gL_acts_X7_untangle : GoodIn wsL_acts (wsV RL 108 RX7 yX7_untangle wsX7_untangle) := goodIn_app (goodIn_of _ (by decide +kernel)) ggL_acts_X7_untangle
set_option maxRecDepth 20000 in
theorem ggL_acts_L_ofTwo : GoodIn wsL_acts wsL_ofTwo := goodIn_r _ [227, 138, 139, 4, 140, 141, 142, 143, 144, 145, 146] (by decide +kernel) (by decide +kernel)
set_option maxRecDepth 20000 in
theorem gL_acts_L_ofTwo : GoodIn wsL_acts (va_wsS RL 35 yL_ofTwo wsL_ofTwo) := goodIn_app (goodIn_of _ (by decide +kernel)) ggL_acts_L_ofTwo
theorem dL_acts_0 : decode cL_acts 0 = .ok (.iload 6, 2) := by decide +kernel
theorem dL_acts_2 : decode cL_acts 2 = .ok (.iconst 4, 1) := by decide +kernel
theorem dL_acts_3 : decode cL_acts 3 = .ok (.invokestatic 80, 3) := by decide +kernel
theorem dL_acts_6 : decode cL_acts 6 = .ok (.istore 7, 2) := by decide +kernel
theorem dL_acts_8 : decode cL_acts 8 = .ok (.aload 4, 2) := by decide +kernel
theorem dL_acts_10 : decode cL_acts 10 = .ok (.iconst 0, 1) := by decide +kernel
theorem dL_acts_11 : decode cL_acts 11 = .ok (.iaload, 1) := by decide +kernel
theorem dL_acts_12 : decode cL_acts 12 = .ok (.iconst 2, 1) := by decide +kernel
theorem dL_acts_13 : decode cL_acts 13 = .ok (.if_icmp .ge 7, 3) := by decide +kernel
theorem dL_acts_16 : decode cL_acts 16 = .ok (.iconst 0, 1) := by decide +kernel
theorem dL_acts_17 : decode cL_acts 17 = .ok (.goto 5, 3) := by decide +kernel
theorem dL_acts_20 : decode cL_acts 20 = .ok (.iload 5, 2) := by decide +kernel
theorem dL_acts_22 : decode cL_acts 22 = .ok (.tableswitch 571 0 12 #[66, 66, 91, 91, 91, 91, 155, 155, 155, 155, 220, 220, 340], 66) := by decide +kernel
theorem dL_acts_88 : decode cL_acts 88 = .ok (.aload_n 0, 1) := by decide +kernel
theorem dL_acts_89 : decode cL_acts 89 = .ok (.iload 7, 2) := by decide +kernel
theorem dL_acts_91 : decode cL_acts 91 = .ok (.invokevirtual 86, 3) := by decide +kernel
theorem dL_acts_94 : decode cL_acts 94 = .ok (.aload_n 1, 1) := by decide +kernel
theorem dL_acts_95 : decode cL_acts 95 = .ok (.aload_n 3, 1) := by decide +kernel
theorem dL_acts_96 : decode cL_acts 96 = .ok (.aload 4, 2) := by decide +kernel
theorem dL_acts_98 : decode cL_acts 98 = .ok (.iload 7, 2) := by decide +kernel
theorem dL_acts_100 : decode cL_acts 100 = .ok (.iconst (-1), 1) := by decide +kernel
theorem dL_acts_101 : decode cL_acts 101 = .ok (.invokestatic 89, 3) := by decide +kernel
theorem dL_acts_104 : decode cL_acts 104 = .ok (.if_icmp .ne 7, 3) := by decide +kernel
theorem dL_acts_107 : decode cL_acts 107 = .ok (.iconst 1, 1) := by decide +kernel
theorem dL_acts_108 : decode cL_acts 108 = .ok (.goto 4, 3) := by decide +kernel
theorem dL_acts_111 : decode cL_acts 111 = .ok (.iconst 0, 1) := by decide +kernel
theorem dL_acts_112 : decode cL_acts 112 = .ok (.ireturn, 1) := by decide +kernel
theorem dL_acts_113 : decode cL_acts 113 = .ok (.iload 6, 2) := by decide +kernel
theorem dL_acts_115 : decode cL_acts 115 = .ok (.aload 4, 2) := by decide +kernel
theorem dL_acts_117 : decode cL_acts 117 = .ok (.iconst 0, 1) := by decide +kernel
theorem dL_acts_118 : decode cL_acts 118 = .ok (.iaload, 1) := by decide +kernel
theorem dL_acts_119 : decode cL_acts 119 = .ok (.invokestatic 80, 3) := by decide +kernel
theorem dL_acts_122 : decode cL_acts 122 = .ok (.istore 8, 2) := by decide +kernel
theorem dL_acts_124 : decode cL_acts 124 = .ok (.iload 8, 2) := by decide +kernel
theorem dL_acts_126 : decode cL_acts 126 = .ok (.iconst 1, 1) := by decide +kernel
theorem dL_acts_127 : decode cL_acts 127 = .ok (.iadd, 1) := by decide +kernel
theorem dL_acts_128 : decode cL_acts 128 = .ok (.iload 6, 2) := by decide +kernel
theorem dL_acts_130 : decode cL_acts 130 = .ok (.iconst 5, 1) := by decide +kernel
theorem dL_acts_131 : decode cL_acts 131 = .ok (.ishr, 1) := by decide +kernel
theorem dL_acts_132 : decode cL_acts 132 = .ok (.aload 4, 2) := by decide +kernel
theorem dL_acts_134 : decode cL_acts 134 = .ok (.iconst 0, 1) := by decide +kernel
theorem dL_acts_135 : decode cL_acts 135 = .ok (.iaload, 1) := by decide +kernel
theorem dL_acts_136 : decode cL_acts 136 = .ok (.iconst 1, 1) := by decide +kernel
theorem dL_acts_137 : decode cL_acts 137 = .ok (.isub, 1) := by decide +kernel
theorem dL_acts_138 : decode cL_acts 138 = .ok (.invokestatic 80, 3) := by decide +kernel
theorem dL_acts_141 : decode cL_acts 141 = .ok (.iadd, 1) := by decide +kernel
theorem dL_acts_142 : decode cL_acts 142 = .ok (.aload 4, 2) := by decide +kernel
theorem dL_acts_144 : decode cL_acts 144 = .ok (.iconst 0, 1) := by decide +kernel
theorem dL_acts_145 : decode cL_acts 145 = .ok (.iaload, 1) := by decide +kernel
theorem dL_acts_146 : decode cL_acts 146 = .ok (.irem, 1) := by decide +kernel
theorem dL_acts_147 : decode cL_acts 147 = .ok (.istore 9, 2) := by decide +kernel
theorem dL_acts_149 : decode cL_acts 149 = .ok (.aload_n 0, 1) := by decide +kernel
theorem dL_acts_150 : decode cL_acts 150 = .ok (.iload 8, 2) := by decide +kernel
theorem dL_acts_152 : decode cL_acts 152 = .ok (.iload 9, 2) := by decide +kernel
theorem dL_acts_154 : decode cL_acts 154 = .ok (.invokevirtual 93, 3) := by decide +kernel
theorem dL_acts_157 : decode cL_acts 157 = .ok (.aload_n 1, 1) := by decide +kernel
theorem dL_acts_158 : decode cL_acts 158 = .ok (.aload_n 2, 1) := by decide +kernel
theorem dL_acts_159 : decode cL_acts 159 = .ok (.aload 4, 2) := by decide +kernel
theorem dL_acts_161 : decode cL_acts 161 = .ok (.iload 8, 2) := by decide +kernel
theorem dL_acts_163 : decode cL_acts 163 = .ok (.iload 9, 2) := by decide +kernel
theorem dL_acts_165 : decode cL_acts 165 = .ok (.invokestatic 96, 3) := by decide +kernel
theorem dL_acts_168 : decode cL_acts 168 = .ok (.if_icmp .ne 7, 3) := by decide +kernel
theorem dL_acts_171 : decode cL_acts 171 = .ok (.iconst 1, 1) := by decide +kernel
theorem dL_acts_172 : decode cL_acts 172 = .ok (.goto 4, 3) := by decide +kernel
theorem dL_acts_175 : decode cL_acts 175 = .ok (.iconst 0, 1) := by decide +kernel
theorem dL_acts_176 : decode cL_acts 176 = .ok (.ireturn, 1) := by decide +kernel
theorem dL_acts_177 : decode cL_acts 177 = .ok (.aload 4, 2) := by decide +kernel
theorem dL_acts_179 : decode cL_acts 179 = .ok (.iconst 1, 1) := by decide +kernel
theorem dL_acts_180 : decode cL_acts 180 = .ok (.iaload, 1) := by decide +kernel
theorem dL_acts_181 : decode cL_acts 181 = .ok (.ifCond .ne 7, 3) := by decide +kernel
theorem dL_acts_184 : decode cL_acts 184 = .ok (.iconst 0, 1) := by decide +kernel
theorem dL_acts_185 : decode cL_acts 185 = .ok (.goto 12, 3) := by decide +kernel
theorem dL_acts_188 : decode cL_acts 188 = .ok (.iload 6, 2) := by decide +kernel
theorem dL_acts_190 : decode cL_acts 190 = .ok (.aload 4, 2) := by decide +kernel
theorem dL_acts_192 : decode cL_acts 192 = .ok (.iconst 1, 1) := by decide +kernel
theorem dL_acts_193 : decode cL_acts 193 = .ok (.iaload, 1) := by decide +kernel
theorem dL_acts_194 : decode cL_acts 194 = .ok (.invokestatic 80, 3) := by decide +kernel
theorem dL_acts_197 : decode cL_acts 197 = .ok (.istore 10, 2) := by decide +kernel
theorem dL_acts_199 : decode cL_acts 199 = .ok (.aload 4, 2) := by decide +kernel
theorem dL_acts_201 : decode cL_acts 201 = .ok (.iconst 1, 1) := by decide +kernel
theorem dL_acts_202 : decode cL_acts 202 = .ok (.iaload, 1) := by decide +kernel
theorem dL_acts_203 : decode cL_acts 203 = .ok (.ifCond .eq 33, 3) := by decide +kernel
theorem dL_acts_206 : decode cL_acts 206 = .ok (.aload_n 0, 1) := by decide +kernel
theorem dL_acts_207 : decode cL_acts 207 = .ok (.iload 10, 2) := by decide +kernel
theorem dL_acts_209 : decode cL_acts 209 = .ok (.invokevirtual 99, 3) := by decide +kernel
theorem dL_acts_212 : decode cL_acts 212 = .ok (.aload_n 1, 1) := by decide +kernel
theorem dL_acts_213 : decode cL_acts 213 = .ok (.aload_n 3, 1) := by decide +kernel
theorem dL_acts_214 : decode cL_acts 214 = .ok (.aload 4, 2) := by decide +kernel
theorem dL_acts_216 : decode cL_acts 216 = .ok (.aload_n 1, 1) := by decide +kernel
theorem dL_acts_217 : decode cL_acts 217 = .ok (.iconst 2, 1) := by decide +kernel
theorem dL_acts_218 : decode cL_acts 218 = .ok (.aload_n 2, 1) := by decide +kernel
theorem dL_acts_219 : decode cL_acts 219 = .ok (.iconst 2, 1) := by decide +kernel
theorem dL_acts_220 : decode cL_acts 220 = .ok (.iload 10, 2) := by decide +kernel
theorem dL_acts_222 : decode cL_acts 222 = .ok (.imul, 1) := by decide +kernel
theorem dL_acts_223 : decode cL_acts 223 = .ok (.iaload, 1) := by decide +kernel
theorem dL_acts_224 : decode cL_acts 224 = .ok (.imul, 1) := by decide +kernel
theorem dL_acts_225 : decode cL_acts 225 = .ok (.iaload, 1) := by decide +kernel
theorem dL_acts_226 : decode cL_acts 226 = .ok (.iconst 1, 1) := by decide +kernel
theorem dL_acts_227 : decode cL_acts 227 = .ok (.iadd, 1) := by decide +kernel
theorem dL_acts_228 : decode cL_acts 228 = .ok (.iload 10, 2) := by decide +kernel
theorem dL_acts_230 : decode cL_acts 230 = .ok (.invokestatic 89, 3) := by decide +kernel
theorem dL_acts_233 : decode cL_acts 233 = .ok (.if_icmp .ne 7, 3) := by decide +kernel
theorem dL_acts_236 : decode cL_acts 236 = .ok (.iconst 1, 1) := by decide +kernel
theorem dL_acts_237 : decode cL_acts 237 = .ok (.goto 4, 3) := by decide +kernel
theorem dL_acts_240 : decode cL_acts 240 = .ok (.iconst 0, 1) := by decide +kernel
theorem dL_acts_241 : decode cL_acts 241 = .ok (.ireturn, 1) := by decide +kernel
theorem dL_acts_242 : decode cL_acts 242 = .ok (.aload 4, 2) := by decide +kernel
theorem dL_acts_244 : decode cL_acts 244 = .ok (.iconst 3, 1) := by decide +kernel
theorem dL_acts_245 : decode cL_acts 245 = .ok (.iload 7, 2) := by decide +kernel
theorem dL_acts_247 : decode cL_acts 247 = .ok (.iadd, 1) := by decide +kernel
theorem dL_acts_248 : decode cL_acts 248 = .ok (.iaload, 1) := by decide +kernel
theorem dL_acts_249 : decode cL_acts 249 = .ok (.iconst 2, 1) := by decide +kernel
theorem dL_acts_250 : decode cL_acts 250 = .ok (.if_icmp .ge 20, 3) := by decide +kernel
theorem dL_acts_253 : decode cL_acts 253 = .ok (.aload_n 0, 1) := by decide +kernel
theorem dL_acts_254 : decode cL_acts 254 = .ok (.iload 7, 2) := by decide +kernel
theorem dL_acts_256 : decode cL_acts 256 = .ok (.iconst 1, 1) := by decide +kernel
theorem dL_acts_257 : decode cL_acts 257 = .ok (.invokevirtual 67, 3) := by decide +kernel
theorem dL_acts_260 : decode cL_acts 260 = .ok (.iconst (-1), 1) := by decide +kernel
theorem dL_acts_261 : decode cL_acts 261 = .ok (.if_icmp .ne 7, 3) := by decide +kernel
theorem dL_acts_264 : decode cL_acts 264 = .ok (.iconst 1, 1) := by decide +kernel
theorem dL_acts_265 : decode cL_acts 265 = .ok (.goto 4, 3) := by decide +kernel
theorem dL_acts_268 : decode cL_acts 268 = .ok (.iconst 0, 1) := by decide +kernel
theorem dL_acts_269 : decode cL_acts 269 = .ok (.ireturn, 1) := by decide +kernel
theorem dL_acts_270 : decode cL_acts 270 = .ok (.bipush 6, 2) := by decide +kernel
theorem dL_acts_272 : decode cL_acts 272 = .ok (.iload 7, 2) := by decide +kernel
theorem dL_acts_274 : decode cL_acts 274 = .ok (.imul, 1) := by decide +kernel
theorem dL_acts_275 : decode cL_acts 275 = .ok (.iload 6, 2) := by decide +kernel
theorem dL_acts_277 : decode cL_acts 277 = .ok (.iconst 2, 1) := by decide +kernel
theorem dL_acts_278 : decode cL_acts 278 = .ok (.ishr, 1) := by decide +kernel
theorem dL_acts_279 : decode cL_acts 279 = .ok (.aload 4, 2) := by decide +kernel
theorem dL_acts_281 : decode cL_acts 281 = .ok (.iconst 3, 1) := by decide +kernel
theorem dL_acts_282 : decode cL_acts 282 = .ok (.iload 7, 2) := by decide +kernel
theorem dL_acts_284 : decode cL_acts 284 = .ok (.iadd, 1) := by decide +kernel
theorem dL_acts_285 : decode cL_acts 285 = .ok (.iaload, 1) := by decide +kernel
theorem dL_acts_286 : decode cL_acts 286 = .ok (.iconst 1, 1) := by decide +kernel
theorem dL_acts_287 : decode cL_acts 287 = .ok (.isub, 1) := by decide +kernel
theorem dL_acts_288 : decode cL_acts 288 = .ok (.invokestatic 80, 3) := by decide +kernel
theorem dL_acts_291 : decode cL_acts 291 = .ok (.iadd, 1) := by decide +kernel
theorem dL_acts_292 : decode cL_acts 292 = .ok (.istore 11, 2) := by decide +kernel
theorem dL_acts_294 : decode cL_acts 294 = .ok (.aload_n 1, 1) := by decide +kernel
theorem dL_acts_295 : decode cL_acts 295 = .ok (.aload_n 2, 1) := by decide +kernel
theorem dL_acts_296 : decode cL_acts 296 = .ok (.aload_n 3, 1) := by decide +kernel
theorem dL_acts_297 : decode cL_acts 297 = .ok (.aload 4, 2) := by decide +kernel
theorem dL_acts_299 : decode cL_acts 299 = .ok (.invokestatic 57, 3) := by decide +kernel
theorem dL_acts_302 : decode cL_acts 302 = .ok (.istore 12, 2) := by decide +kernel
theorem dL_acts_304 : decode cL_acts 304 = .ok (.aload_n 3, 1) := by decide +kernel
theorem dL_acts_305 : decode cL_acts 305 = .ok (.iload 11, 2) := by decide +kernel
theorem dL_acts_307 : decode cL_acts 307 = .ok (.iaload, 1) := by decide +kernel
theorem dL_acts_308 : decode cL_acts 308 = .ok (.istore 13, 2) := by decide +kernel
theorem dL_acts_310 : decode cL_acts 310 = .ok (.aload_n 3, 1) := by decide +kernel
theorem dL_acts_311 : decode cL_acts 311 = .ok (.iload 11, 2) := by decide +kernel
theorem dL_acts_313 : decode cL_acts 313 = .ok (.aload_n 3, 1) := by decide +kernel
theorem dL_acts_314 : decode cL_acts 314 = .ok (.iload 11, 2) := by decide +kernel
theorem dL_acts_316 : decode cL_acts 316 = .ok (.iconst 1, 1) := by decide +kernel
theorem dL_acts_317 : decode cL_acts 317 = .ok (.iadd, 1) := by decide +kernel
theorem dL_acts_318 : decode cL_acts 318 = .ok (.iaload, 1) := by decide +kernel
theorem dL_acts_319 : decode cL_acts 319 = .ok (.iastore, 1) := by decide +kernel
theorem dL_acts_320 : decode cL_acts 320 = .ok (.aload_n 3, 1) := by decide +kernel
theorem dL_acts_321 : decode cL_acts 321 = .ok (.iload 11, 2) := by decide +kernel
theorem dL_acts_323 : decode cL_acts 323 = .ok (.iconst 1, 1) := by decide +kernel
theorem dL_acts_324 : decode cL_acts 324 = .ok (.iadd, 1) := by decide +kernel
theorem dL_acts_325 : decode cL_acts 325 = .ok (.iload 13, 2) := by decide +kernel
theorem dL_acts_327 : decode cL_acts 327 = .ok (.iastore, 1) := by decide +kernel
theorem dL_acts_328 : decode cL_acts 328 = .ok (.aload_n 0, 1) := by decide +kernel
theorem dL_acts_329 : decode cL_acts 329 = .ok (.iload 7, 2) := by decide +kernel
theorem dL_acts_331 : decode cL_acts 331 = .ok (.iload 11, 2) := by decide +kernel
theorem dL_acts_333 : decode cL_acts 333 = .ok (.bipush 6, 2) := by decide +kernel
theorem dL_acts_335 : decode cL_acts 335 = .ok (.irem, 1) := by decide +kernel
theorem dL_acts_336 : decode cL_acts 336 = .ok (.invokevirtual 102, 3) := by decide +kernel
theorem dL_acts_339 : decode cL_acts 339 = .ok (.aload_n 1, 1) := by decide +kernel
theorem dL_acts_340 : decode cL_acts 340 = .ok (.aload_n 2, 1) := by decide +kernel
theorem dL_acts_341 : decode cL_acts 341 = .ok (.aload_n 3, 1) := by decide +kernel
theorem dL_acts_342 : decode cL_acts 342 = .ok (.aload 4, 2) := by decide +kernel
theorem dL_acts_344 : decode cL_acts 344 = .ok (.invokestatic 57, 3) := by decide +kernel
theorem dL_acts_347 : decode cL_acts 347 = .ok (.iload 12, 2) := by decide +kernel
theorem dL_acts_349 : decode cL_acts 349 = .ok (.isub, 1) := by decide +kernel
theorem dL_acts_350 : decode cL_acts 350 = .ok (.bipush 100, 2) := by decide +kernel
theorem dL_acts_352 : decode cL_acts 352 = .ok (.iadd, 1) := by decide +kernel
theorem dL_acts_353 : decode cL_acts 353 = .ok (.if_icmp .ne 7, 3) := by decide +kernel
theorem dL_acts_356 : decode cL_acts 356 = .ok (.iconst 1, 1) := by decide +kernel
theorem dL_acts_357 : decode cL_acts 357 = .ok (.goto 4, 3) := by decide +kernel
theorem dL_acts_360 : decode cL_acts 360 = .ok (.iconst 0, 1) := by decide +kernel
theorem dL_acts_361 : decode cL_acts 361 = .ok (.ireturn, 1) := by decide +kernel
theorem dL_acts_362 : decode cL_acts 362 = .ok (.bipush 24, 2) := by decide +kernel
theorem dL_acts_364 : decode cL_acts 364 = .ok (.newarray .int, 2) := by decide +kernel
theorem dL_acts_366 : decode cL_acts 366 = .ok (.astore 14, 2) := by decide +kernel
theorem dL_acts_368 : decode cL_acts 368 = .ok (.aload_n 3, 1) := by decide +kernel
theorem dL_acts_369 : decode cL_acts 369 = .ok (.aload 14, 2) := by decide +kernel
theorem dL_acts_371 : decode cL_acts 371 = .ok (.invokestatic 27, 3) := by decide +kernel
theorem dL_acts_374 : decode cL_acts 374 = .ok (.iconst 0, 1) := by decide +kernel
theorem dL_acts_375 : decode cL_acts 375 = .ok (.istore 15, 2) := by decide +kernel
theorem dL_acts_377 : decode cL_acts 377 = .ok (.iconst 0, 1) := by decide +kernel
theorem dL_acts_378 : decode cL_acts 378 = .ok (.istore 16, 2) := by decide +kernel
theorem dL_acts_380 : decode cL_acts 380 = .ok (.iconst 0, 1) := by decide +kernel
theorem dL_acts_381 : decode cL_acts 381 = .ok (.istore 17, 2) := by decide +kernel
theorem dL_acts_383 : decode cL_acts 383 = .ok (.iload 17, 2) := by decide +kernel
theorem dL_acts_385 : decode cL_acts 385 = .ok (.aload 4, 2) := by decide +kernel
theorem dL_acts_387 : decode cL_acts 387 = .ok (.iconst 3, 1) := by decide +kernel
theorem dL_acts_388 : decode cL_acts 388 = .ok (.iload 7, 2) := by decide +kernel
theorem dL_acts_390 : decode cL_acts 390 = .ok (.iadd, 1) := by decide +kernel
theorem dL_acts_391 : decode cL_acts 391 = .ok (.iaload, 1) := by decide +kernel
theorem dL_acts_392 : decode cL_acts 392 = .ok (.if_icmp .ge 178, 3) := by decide +kernel
theorem dL_acts_395 : decode cL_acts 395 = .ok (.iconst (-1), 1) := by decide +kernel
theorem dL_acts_396 : decode cL_acts 396 = .ok (.istore 18, 2) := by decide +kernel
theorem dL_acts_398 : decode cL_acts 398 = .ok (.iconst 0, 1) := by decide +kernel
theorem dL_acts_399 : decode cL_acts 399 = .ok (.istore 19, 2) := by decide +kernel
theorem dL_acts_401 : decode cL_acts 401 = .ok (.iconst 0, 1) := by decide +kernel
theorem dL_acts_402 : decode cL_acts 402 = .ok (.istore 20, 2) := by decide +kernel
theorem dL_acts_404 : decode cL_acts 404 = .ok (.iload 20, 2) := by decide +kernel
theorem dL_acts_406 : decode cL_acts 406 = .ok (.aload 4, 2) := by decide +kernel
theorem dL_acts_408 : decode cL_acts 408 = .ok (.iconst 3, 1) := by decide +kernel
theorem dL_acts_409 : decode cL_acts 409 = .ok (.iload 7, 2) := by decide +kernel
theorem dL_acts_411 : decode cL_acts 411 = .ok (.iadd, 1) := by decide +kernel
theorem dL_acts_412 : decode cL_acts 412 = .ok (.iaload, 1) := by decide +kernel
theorem dL_acts_413 : decode cL_acts 413 = .ok (.if_icmp .ge 104, 3) := by decide +kernel
theorem dL_acts_416 : decode cL_acts 416 = .ok (.aload_n 1, 1) := by decide +kernel
theorem dL_acts_417 : decode cL_acts 417 = .ok (.iconst 2, 1) := by decide +kernel
theorem dL_acts_418 : decode cL_acts 418 = .ok (.aload_n 3, 1) := by decide +kernel
theorem dL_acts_419 : decode cL_acts 419 = .ok (.bipush 6, 2) := by decide +kernel
theorem dL_acts_421 : decode cL_acts 421 = .ok (.iload 7, 2) := by decide +kernel
theorem dL_acts_423 : decode cL_acts 423 = .ok (.imul, 1) := by decide +kernel
theorem dL_acts_424 : decode cL_acts 424 = .ok (.iload 20, 2) := by decide +kernel
theorem dL_acts_426 : decode cL_acts 426 = .ok (.iadd, 1) := by decide +kernel
theorem dL_acts_427 : decode cL_acts 427 = .ok (.iaload, 1) := by decide +kernel
theorem dL_acts_428 : decode cL_acts 428 = .ok (.imul, 1) := by decide +kernel
theorem dL_acts_429 : decode cL_acts 429 = .ok (.iconst 1, 1) := by decide +kernel
theorem dL_acts_430 : decode cL_acts 430 = .ok (.iadd, 1) := by decide +kernel
theorem dL_acts_431 : decode cL_acts 431 = .ok (.iaload, 1) := by decide +kernel
theorem dL_acts_432 : decode cL_acts 432 = .ok (.istore 21, 2) := by decide +kernel
theorem dL_acts_434 : decode cL_acts 434 = .ok (.iload 21, 2) := by decide +kernel
theorem dL_acts_436 : decode cL_acts 436 = .ok (.ifCond .ge 8, 3) := by decide +kernel
theorem dL_acts_439 : decode cL_acts 439 = .ok (.bipush 99, 2) := by decide +kernel
theorem dL_acts_441 : decode cL_acts 441 = .ok (.goto 11, 3) := by decide +kernel
theorem dL_acts_444 : decode cL_acts 444 = .ok (.aload_n 1, 1) := by decide +kernel
theorem dL_acts_445 : decode cL_acts 445 = .ok (.aload_n 2, 1) := by decide +kernel
theorem dL_acts_446 : decode cL_acts 446 = .ok (.aload_n 3, 1) := by decide +kernel
theorem dL_acts_447 : decode cL_acts 447 = .ok (.iload 21, 2) := by decide +kernel
theorem dL_acts_449 : decode cL_acts 449 = .ok (.invokestatic 15, 3) := by decide +kernel
theorem dL_acts_452 : decode cL_acts 452 = .ok (.istore 22, 2) := by decide +kernel
theorem dL_acts_454 : decode cL_acts 454 = .ok (.iload 16, 2) := by decide +kernel
theorem dL_acts_456 : decode cL_acts 456 = .ok (.iload 20, 2) := by decide +kernel
theorem dL_acts_458 : decode cL_acts 458 = .ok (.ishr, 1) := by decide +kernel
theorem dL_acts_459 : decode cL_acts 459 = .ok (.iconst 1, 1) := by decide +kernel
theorem dL_acts_460 : decode cL_acts 460 = .ok (.iand, 1) := by decide +kernel
theorem dL_acts_461 : decode cL_acts 461 = .ok (.ifCond .ne 19, 3) := by decide +kernel
theorem dL_acts_464 : decode cL_acts 464 = .ok (.iload 18, 2) := by decide +kernel
theorem dL_acts_466 : decode cL_acts 466 = .ok (.ifCond .lt 10, 3) := by decide +kernel
theorem dL_acts_469 : decode cL_acts 469 = .ok (.iload 22, 2) := by decide +kernel
theorem dL_acts_471 : decode cL_acts 471 = .ok (.iload 19, 2) := by decide +kernel
theorem dL_acts_473 : decode cL_acts 473 = .ok (.if_icmp .ge 7, 3) := by decide +kernel
theorem dL_acts_476 : decode cL_acts 476 = .ok (.iconst 1, 1) := by decide +kernel
theorem dL_acts_477 : decode cL_acts 477 = .ok (.goto 4, 3) := by decide +kernel
theorem dL_acts_480 : decode cL_acts 480 = .ok (.iconst 0, 1) := by decide +kernel
theorem dL_acts_481 : decode cL_acts 481 = .ok (.istore 23, 2) := by decide +kernel
theorem dL_acts_483 : decode cL_acts 483 = .ok (.iload 23, 2) := by decide +kernel
theorem dL_acts_485 : decode cL_acts 485 = .ok (.ifCond .eq 8, 3) := by decide +kernel
theorem dL_acts_488 : decode cL_acts 488 = .ok (.iload 20, 2) := by decide +kernel
theorem dL_acts_490 : decode cL_acts 490 = .ok (.goto 5, 3) := by decide +kernel
theorem dL_acts_493 : decode cL_acts 493 = .ok (.iload 18, 2) := by decide +kernel
theorem dL_acts_495 : decode cL_acts 495 = .ok (.istore 18, 2) := by decide +kernel
theorem dL_acts_497 : decode cL_acts 497 = .ok (.iload 23, 2) := by decide +kernel
theorem dL_acts_499 : decode cL_acts 499 = .ok (.ifCond .eq 8, 3) := by decide +kernel
theorem dL_acts_502 : decode cL_acts 502 = .ok (.iload 22, 2) := by decide +kernel
theorem dL_acts_504 : decode cL_acts 504 = .ok (.goto 5, 3) := by decide +kernel
theorem dL_acts_507 : decode cL_acts 507 = .ok (.iload 19, 2) := by decide +kernel
theorem dL_acts_509 : decode cL_acts 509 = .ok (.istore 19, 2) := by decide +kernel
theorem dL_acts_511 : decode cL_acts 511 = .ok (.iinc 20 1, 3) := by decide +kernel
theorem dL_acts_514 : decode cL_acts 514 = .ok (.goto (-110), 3) := by decide +kernel
theorem dL_acts_517 : decode cL_acts 517 = .ok (.iload 16, 2) := by decide +kernel
theorem dL_acts_519 : decode cL_acts 519 = .ok (.iconst 1, 1) := by decide +kernel
end
section
theorem dL_acts_520 : decode cL_acts 520 = .ok (.iload 18, 2) := by decide +kernel
theorem dL_acts_522 : decode cL_acts 522 = .ok (.ishl, 1) := by decide +kernel
theorem dL_acts_523 : decode cL_acts 523 = .ok (.ior, 1) := by decide +kernel
theorem dL_acts_524 : decode cL_acts 524 = .ok (.istore 16, 2) := by decide +kernel
theorem dL_acts_526 : decode cL_acts 526 = .ok (.aload 14, 2) := by decide +kernel
theorem dL_acts_528 : decode cL_acts 528 = .ok (.bipush 6, 2) := by decide +kernel
theorem dL_acts_530 : decode cL_acts 530 = .ok (.iload 7, 2) := by decide +kernel
theorem dL_acts_532 : decode cL_acts 532 = .ok (.imul, 1) := by decide +kernel
theorem dL_acts_533 : decode cL_acts 533 = .ok (.iload 17, 2) := by decide +kernel
theorem dL_acts_535 : decode cL_acts 535 = .ok (.iadd, 1) := by decide +kernel
theorem dL_acts_536 : decode cL_acts 536 = .ok (.aload_n 3, 1) := by decide +kernel
theorem dL_acts_537 : decode cL_acts 537 = .ok (.bipush 6, 2) := by decide +kernel
theorem dL_acts_539 : decode cL_acts 539 = .ok (.iload 7, 2) := by decide +kernel
theorem dL_acts_541 : decode cL_acts 541 = .ok (.imul, 1) := by decide +kernel
theorem dL_acts_542 : decode cL_acts 542 = .ok (.iload 18, 2) := by decide +kernel
theorem dL_acts_544 : decode cL_acts 544 = .ok (.iadd, 1) := by decide +kernel
theorem dL_acts_545 : decode cL_acts 545 = .ok (.iaload, 1) := by decide +kernel
theorem dL_acts_546 : decode cL_acts 546 = .ok (.iastore, 1) := by decide +kernel
theorem dL_acts_547 : decode cL_acts 547 = .ok (.iload 15, 2) := by decide +kernel
theorem dL_acts_549 : decode cL_acts 549 = .ok (.iload 18, 2) := by decide +kernel
theorem dL_acts_551 : decode cL_acts 551 = .ok (.iload 17, 2) := by decide +kernel
theorem dL_acts_553 : decode cL_acts 553 = .ok (.if_icmp .ne 7, 3) := by decide +kernel
theorem dL_acts_556 : decode cL_acts 556 = .ok (.iconst 0, 1) := by decide +kernel
theorem dL_acts_557 : decode cL_acts 557 = .ok (.goto 4, 3) := by decide +kernel
theorem dL_acts_560 : decode cL_acts 560 = .ok (.iconst 1, 1) := by decide +kernel
theorem dL_acts_561 : decode cL_acts 561 = .ok (.iadd, 1) := by decide +kernel
theorem dL_acts_562 : decode cL_acts 562 = .ok (.istore 15, 2) := by decide +kernel
theorem dL_acts_564 : decode cL_acts 564 = .ok (.iinc 17 1, 3) := by decide +kernel
theorem dL_acts_567 : decode cL_acts 567 = .ok (.goto (-184), 3) := by decide +kernel
theorem dL_acts_570 : decode cL_acts 570 = .ok (.aload 14, 2) := by decide +kernel
theorem dL_acts_572 : decode cL_acts 572 = .ok (.aload_n 3, 1) := by decide +kernel
theorem dL_acts_573 : decode cL_acts 573 = .ok (.invokestatic 27, 3) := by decide +kernel
theorem dL_acts_576 : decode cL_acts 576 = .ok (.aload_n 0, 1) := by decide +kernel
theorem dL_acts_577 : decode cL_acts 577 = .ok (.iload 7, 2) := by decide +kernel
theorem dL_acts_579 : decode cL_acts 579 = .ok (.invokevirtual 105, 3) := by decide +kernel
theorem dL_acts_582 : decode cL_acts 582 = .ok (.iload 15, 2) := by decide +kernel
theorem dL_acts_584 : decode cL_acts 584 = .ok (.if_icmp .ne 7, 3) := by decide +kernel
theorem dL_acts_587 : decode cL_acts 587 = .ok (.iconst 1, 1) := by decide +kernel
theorem dL_acts_588 : decode cL_acts 588 = .ok (.goto 4, 3) := by decide +kernel
theorem dL_acts_591 : decode cL_acts 591 = .ok (.iconst 0, 1) := by decide +kernel
theorem dL_acts_592 : decode cL_acts 592 = .ok (.ireturn, 1) := by decide +kernel
theorem dL_acts_593 : decode cL_acts 593 = .ok (.aload_n 3, 1) := by decide +kernel
theorem dL_acts_594 : decode cL_acts 594 = .ok (.aload 4, 2) := by decide +kernel
theorem dL_acts_596 : decode cL_acts 596 = .ok (.iload 7, 2) := by decide +kernel
theorem dL_acts_598 : decode cL_acts 598 = .ok (.aload_n 1, 1) := by decide +kernel
theorem dL_acts_599 : decode cL_acts 599 = .ok (.aload_n 2, 1) := by decide +kernel
theorem dL_acts_600 : decode cL_acts 600 = .ok (.aload_n 3, 1) := by decide +kernel
theorem dL_acts_601 : decode cL_acts 601 = .ok (.aload 4, 2) := by decide +kernel
theorem dL_acts_603 : decode cL_acts 603 = .ok (.iload 7, 2) := by decide +kernel
theorem dL_acts_605 : decode cL_acts 605 = .ok (.invokestatic 70, 3) := by decide +kernel
theorem dL_acts_608 : decode cL_acts 608 = .ok (.invokestatic 31, 3) := by decide +kernel
theorem dL_acts_611 : decode cL_acts 611 = .ok (.aload_n 0, 1) := by decide +kernel
theorem dL_acts_612 : decode cL_acts 612 = .ok (.iload 7, 2) := by decide +kernel
theorem dL_acts_614 : decode cL_acts 614 = .ok (.invokevirtual 108, 3) := by decide +kernel
theorem dL_acts_617 : decode cL_acts 617 = .ok (.aload_n 1, 1) := by decide +kernel
theorem dL_acts_618 : decode cL_acts 618 = .ok (.aload_n 2, 1) := by decide +kernel
theorem dL_acts_619 : decode cL_acts 619 = .ok (.aload_n 3, 1) := by decide +kernel
theorem dL_acts_620 : decode cL_acts 620 = .ok (.aload 4, 2) := by decide +kernel
theorem dL_acts_622 : decode cL_acts 622 = .ok (.iload 7, 2) := by decide +kernel
theorem dL_acts_624 : decode cL_acts 624 = .ok (.invokestatic 35, 3) := by decide +kernel
theorem dL_acts_627 : decode cL_acts 627 = .ok (.if_icmp .ne 7, 3) := by decide +kernel
theorem dL_acts_630 : decode cL_acts 630 = .ok (.iconst 1, 1) := by decide +kernel
theorem dL_acts_631 : decode cL_acts 631 = .ok (.goto 4, 3) := by decide +kernel
theorem dL_acts_634 : decode cL_acts 634 = .ok (.iconst 0, 1) := by decide +kernel
theorem dL_acts_635 : decode cL_acts 635 = .ok (.ireturn, 1) := by decide +kernel
abbrev vwCl : List vw_C := [(RX1, TX1, 2), (RX2, TX2, 3), (RX3, TX3, 13), (RX4, TX4, 3), (RX5, TX5, 10), (RX6, TX6, 6), (RX7, TX7, 8)]
end
section
/-! What a walk holds all the time (Cx), and the walk over a world that is a list of cells (GG): heap, written places and locals are bound inside. -/
abbrev Mem : Type := Nat → Nat → Int32
/-- memory v, but x in row j at place i -/
def mset (v : Mem) (j i : Nat) (x : Int32) : Mem := fun j2 => if j2 = j then upd (v j) i x else v j2
/-- memory v, but f in row j -/
def mrow (v : Mem) (j : Nat) (f : Nat → Int32) : Mem := fun j2 => if j2 = j then f else v j2
abbrev Cx (p : Program) (s : State) (m : MethodId) (args : Array Value) (meth : Method) (c : Code) (cc : ByteArray) (nL : Nat) (own : String) (Ts : List Cond) (D : va_G) (tys : List (ClassId × FieldType)) (A : Nat → Prop) (H0 : Heap) (ret : Option FieldType) : Prop :=
  (p.tables.exec = Jvm.exec ∧ c.code = cc ∧ c.maxLocals = nL ∧ s.vm.findClass own = some m.cls ∧ ∀ w ∈ Ts, w.before args s = true) ∧ va_K D vwCl tys s ∧ (∀ q : Nat, H0.size ≤ q → A q) ∧ meth.sig.returnType = ret ∧ meth.locks = false
def GG (p : Program) (l : Launch) (e : Env) (R : Room) (s : State) (m : MethodId) (args : Array Value) (below : List Frame) (meth : Method) (c : Code) (D : va_G) (A : Nat → Prop) (H0 : Heap) (nL : Nat) (Q : State → Prop) (w : va_W) (k j : Nat) (lv : List (Nat × Value)) (pc : Nat) (st : List Value) : Prop :=
  ∀ (H : Heap) (locs : List Loc) (ls : Array Slot), va_P D vwCl w H → va_D A w → va_S A H0 H locs → lv_has ls nL lv → W p l e R s m args below meth c H locs k j Q (F0 m pc ls st)
/-- the world before a method, and behind it -/
abbrev Bf (D : va_G) (tys : List (ClassId × FieldType)) (w : va_W) (sz : Nat) (U : State) : Prop := U.heap.size = sz ∧ va_P D vwCl w U.heap ∧ va_K D vwCl tys U ∧ va_D (fun _ => True) w
abbrev Af (D : va_G) (tys : List (ClassId × FieldType)) (A : Nat → Prop) (w : va_W) (t : State) : Prop := va_P D vwCl w t.heap ∧ va_K D vwCl tys t ∧ va_D A w
/-- contracts: answer and world behind, by a post-condition that the caller chooses -/
abbrev Ci {S : Type} (l : Launch) (y : MethodName) (ws : List Cond) (rm : Room) (D : va_G) (tys : List (ClassId × FieldType)) (av : List Value) (w : va_W) (post : Int32 → S → Prop) (wf : S → va_W) (mc ms : Nat) : Prop := ∀ sz : Nat, Met l y ws rm (va_Pc av (Bf D tys w sz)) (va_Qi post (fun u t => Af D tys (va_A w sz) (wf u) t) (va_A w sz)) mc ms (va_A w sz)
abbrev Cl {S : Type} (l : Launch) (y : MethodName) (ws : List Cond) (rm : Room) (D : va_G) (tys : List (ClassId × FieldType)) (av : List Value) (w : va_W) (post : Int64 → S → Prop) (wf : S → va_W) (mc ms : Nat) : Prop := ∀ sz : Nat, Met l y ws rm (va_Pc av (Bf D tys w sz)) (va_Ql post (fun u t => Af D tys (va_A w sz) (wf u) t) (va_A w sz)) mc ms (va_A w sz)
abbrev Cd {S : Type} (l : Launch) (y : MethodName) (ws : List Cond) (rm : Room) (D : va_G) (tys : List (ClassId × FieldType)) (av : List Value) (w : va_W) (post : UInt64 → S → Prop) (wf : S → va_W) (mc ms : Nat) : Prop := ∀ sz : Nat, Met l y ws rm (va_Pc av (Bf D tys w sz)) (va_Qd post (fun u t => Af D tys (va_A w sz) (wf u) t) (va_A w sz)) mc ms (va_A w sz)
abbrev Cv {S : Type} (l : Launch) (y : MethodName) (ws : List Cond) (rm : Room) (D : va_G) (tys : List (ClassId × FieldType)) (av : List Value) (w : va_W) (post : S → Prop) (wf : S → va_W) (mc ms : Nat) : Prop := ∀ sz : Nat, Met l y ws rm (va_Pc av (Bf D tys w sz)) (va_Qv post (fun u t => Af D tys (va_A w sz) (wf u) t) (va_A w sz)) mc ms (va_A w sz)
/-- a world out of blocks -/
def fl : List va_W → va_W
  | [] => []
  | [a] => a
  | a :: b :: l => a ++ fl (b :: l)
theorem fl_cons (a : va_W) : ∀ l : List va_W, (fl (a :: l)).Perm (a ++ fl l)
  | [] => by rw [fl, fl, List.append_nil]
  | _ :: _ => List.Perm.refl _
theorem fl_app : ∀ l1 l2 : List va_W, (fl (l1 ++ l2)).Perm (fl l1 ++ fl l2)
  | [], l2 => List.Perm.refl _
  | a :: l, l2 => ((fl_cons a (l ++ l2)).trans ((fl_app l l2).append_left a)).trans (by rw [← List.append_assoc]; exact (fl_cons a l).symm.append_right _)
theorem fl_perm {l1 l2 : List va_W} (h : l1.Perm l2) : (fl l1).Perm (fl l2) := by
  induction h with
  | nil => exact List.Perm.refl _
  | cons a _ ih => exact ((fl_cons a _).trans (ih.append_left a)).trans (fl_cons a _).symm
  | swap a b l =>
    refine ((fl_cons b (a :: l)).trans ((fl_cons a l).append_left b)).trans ?_
    refine List.Perm.trans ?_ ((fl_cons a (b :: l)).trans ((fl_cons b l).append_left a)).symm
    rw [← List.append_assoc, ← List.append_assoc]
    exact List.perm_append_comm.append_right _
  | trans _ _ h1 h2 => exact h1.trans h2
theorem va_P_mem {D : va_G} {w : va_W} {H : Heap} : va_P D vwCl w H ↔ ∀ q ∈ w, va_at D vwCl q H := by
  constructor
  · intro h q hq
    obtain ⟨k, hk⟩ := List.getElem?_of_mem hq
    exact h k q hk
  · intro h k q hk
    exact h q (List.mem_of_getElem? hk)
theorem va_D_pw {A : Nat → Prop} {w : va_W} : va_D A w ↔ w.Pairwise (fun p q => p.1 ≠ q.1) ∧ ∀ q ∈ w, A q.1 := by
  rw [List.pairwise_iff_getElem]
  constructor
  · intro h
    refine ⟨fun i j hi hj hij e => ?_, fun q hq => ?_⟩
    · have := h.1 i j _ _ (List.getElem?_eq_getElem hi) (List.getElem?_eq_getElem hj) e
      omega
    · obtain ⟨k, hk⟩ := List.getElem?_of_mem hq
      exact h.2 k q hk
  · intro h
    refine ⟨fun i j p q hi hj e => ?_, fun k q hk => h.2 q (List.mem_of_getElem? hk)⟩
    obtain ⟨hi1, hi2⟩ := List.getElem?_eq_some_iff.mp hi
    obtain ⟨hj1, hj2⟩ := List.getElem?_eq_some_iff.mp hj
    rcases Nat.lt_trichotomy i j with g | g | g
    · exact absurd (by rw [hi2, hj2]; exact e) (h.1 i j hi1 hj1 g)
    · exact g
    · exact absurd (by rw [hi2, hj2]; exact e.symm) (h.1 j i hj1 hi1 g)
theorem wd_P {D : va_G} {w w2 : va_W} {H : Heap} (h : w.Perm w2) (hP : va_P D vwCl w H) : va_P D vwCl w2 H := va_P_mem.mpr fun q hq => va_P_mem.mp hP q (h.mem_iff.mpr hq)
theorem wd_D {A : Nat → Prop} {w w2 : va_W} (h : w.Perm w2) (hD : va_D A w) : va_D A w2 := by
  obtain ⟨h1, h2⟩ := va_D_pw.mp hD
  exact va_D_pw.mpr ⟨h1.perm h (fun hab => Ne.symm hab), fun q hq => h2 q (h.mem_iff.mpr hq)⟩
theorem wd_L {D : va_G} {A : Nat → Prop} {w wc wr : va_W} {H : Heap} (h : w.Perm (wc ++ wr)) (hP : va_P D vwCl w H) (hD : va_D A w) : va_P D vwCl wc H ∧ va_D A wc := by
  have hP2 := wd_P h hP
  have hD2 := va_D_pw.mp (wd_D h hD)
  exact ⟨va_P_mem.mpr fun q hq => va_P_mem.mp hP2 q (List.mem_append_left _ hq), va_D_pw.mpr ⟨(List.pairwise_append.mp hD2.1).1, fun q hq => hD2.2 q (List.mem_append_left _ hq)⟩⟩
theorem wd_free {A0 : Nat → Prop} {w wc wr : va_W} {H0 H : Heap} {locs : List Loc} (h : w.Perm (wc ++ wr)) (hD : va_D A0 w) (hS : va_S A0 H0 H locs) (hA : ∀ q, H0.size ≤ q → A0 q) : ∀ q, va_A wc H.size q → A0 q := by
  intro q hq
  rcases hq with ⟨k, e, hk⟩ | hq
  · exact (va_D_pw.mp (wd_D h hD)).2 (q, e) (List.mem_append_left _ (List.mem_of_getElem? hk))
  · exact hA q (Nat.le_trans hS.1 hq)
/-- the world behind a call: what the callee left, and the caller's other cells -/
theorem wd_back {A0 : Nat → Prop} {D : va_G} {w wc wr w1 w2 : va_W} {H H1 : Heap} (h : w.Perm (wc ++ wr)) (h2 : w2.Perm (w1 ++ wr)) (hP : va_P D vwCl w H) (hD : va_D A0 w)
    (hk : ∀ q : Nat, q < H.size → ¬ va_A wc H.size q → H1[q]? = H[q]?) (hF : ∀ q, va_A wc H.size q → A0 q) (hP1 : va_P D vwCl w1 H1) (hD1 : va_D (va_A wc H.size) w1) : va_P D vwCl w2 H1 ∧ va_D A0 w2 := by
  have hPm := va_P_mem.mp (wd_P h hP)
  obtain ⟨hp, hm⟩ := va_D_pw.mp (wd_D h hD)
  obtain ⟨-, hpr, hcr⟩ := List.pairwise_append.mp hp
  have apart : ∀ q ∈ wr, q.1 < H.size ∧ ¬ va_A wc H.size q.1 := by
    intro q hq
    have hl := (hPm q (List.mem_append_right _ hq)).lt
    refine ⟨hl, fun hin => ?_⟩
    rcases hin with ⟨k, e, hk⟩ | hge
    · exact hcr (q.1, e) (List.mem_of_getElem? hk) q hq rfl
    · omega
  refine ⟨wd_P h2.symm (va_P_mem.mpr fun q hq => ?_), wd_D h2.symm (va_D_pw.mpr ⟨List.pairwise_append.mpr ⟨(va_D_pw.mp hD1).1, hpr, fun a ha b hb e => ?_⟩, fun q hq => ?_⟩)⟩
  · rcases List.mem_append.mp hq with g | g
    · exact va_P_mem.mp hP1 q g
    · obtain ⟨g1, g2⟩ := apart q g
      exact (hPm q (List.mem_append_right _ g)).kept (hk q.1 g1 g2)
  · exact (apart b hb).2 (by rw [← e]; exact (va_D_pw.mp hD1).2 a ha)
  · rcases List.mem_append.mp hq with g | g
    · exact hF q.1 ((va_D_pw.mp hD1).2 q g)
    · exact hm q (List.mem_append_right _ g)
theorem pick_all {α : Type} (bs : List α) : (List.range bs.length).filterMap (fun i => bs[i]?) = bs := by
  induction bs with
  | nil => rfl
  | cons a l ih =>
    rw [List.length_cons, List.range_succ_eq_map, List.filterMap_cons]
    simp only [List.getElem?_cons_zero, List.filterMap_map]
    congr 1
/-- blocks picked by two lists of places that hold each place once -/
theorem wd_pick (bs : List va_W) (isC isR : List Nat) {n : Nat} (hn : bs.length = n) (hp : (isC ++ isR).isPerm (List.range n) = true) : (fl bs).Perm (fl (isC.filterMap (fun i => bs[i]?)) ++ fl (isR.filterMap (fun i => bs[i]?))) := by
  subst hn
  have h1 := (List.isPerm_iff.mp hp).filterMap (fun i => bs[i]?)
  rw [pick_all, List.filterMap_append] at h1
  exact (fl_perm h1.symm).trans (fl_app _ _)
section GK
variable {p : Program} {l : Launch} {e : Env} {R : Room} {s : State} {m : MethodId} {args : Array Value} {below : List Frame} {meth : Method} {c : Code} {cc : ByteArray} {nL : Nat} {own : String} {Ts : List Cond} {D : va_G} {tys : List (ClassId × FieldType)} {A : Nat → Prop} {H0 : Heap} {ret : Option FieldType} {Q : State → Prop} {w : va_W} {k j : Nat} {lv lv2 : List (Nat × Value)} {pc : Nat} {st : List Value}
theorem g_iconst (X : Cx p s m args meth c cc nL own Ts D tys A H0 ret) {n : Int} {v : Int32} (hv : Int32.ofInt n = v) (hdg : decode cc pc = .ok (.iconst n, 1))
    (kk : GG p l e R s m args below meth c D A H0 nL Q w k j lv (pc + 1) (.int v :: st)) : GG p l e R s m args below meth c D A H0 nL Q w k j lv (pc) (st) := fun H locs ls hP hD hS hl => lv_iconst X.1.1 X.1.2.1 hdg hv (kk H locs ls hP hD hS hl)
theorem g_bipush (X : Cx p s m args meth c cc nL own Ts D tys A H0 ret) {n : Int} {v : Int32} (hv : (Int8.ofInt n).toInt32 = v) (hdg : decode cc pc = .ok (.bipush n, 2))
    (kk : GG p l e R s m args below meth c D A H0 nL Q w k j lv (pc + 2) (.int v :: st)) : GG p l e R s m args below meth c D A H0 nL Q w k j lv (pc) (st) := fun H locs ls hP hD hS hl => lv_bipush X.1.1 X.1.2.1 hdg hv (kk H locs ls hP hD hS hl)
theorem g_sipush (X : Cx p s m args meth c cc nL own Ts D tys A H0 ret) {n : Int} {v : Int32} (hv : (Int16.ofInt n).toInt32 = v) (hdg : decode cc pc = .ok (.sipush n, 3))
    (kk : GG p l e R s m args below meth c D A H0 nL Q w k j lv (pc + 3) (.int v :: st)) : GG p l e R s m args below meth c D A H0 nL Q w k j lv (pc) (st) := fun H locs ls hP hD hS hl => lv_sipush X.1.1 X.1.2.1 hdg hv (kk H locs ls hP hD hS hl)
theorem g_lconst (X : Cx p s m args meth c cc nL own Ts D tys A H0 ret) {n : Fin 2} {v : Int64} (hv : Int64.ofNat (n : Nat) = v) (hdg : decode cc pc = .ok (.lconst n, 1))
    (kk : GG p l e R s m args below meth c D A H0 nL Q w k j lv (pc + 1) (.long v :: st)) : GG p l e R s m args below meth c D A H0 nL Q w k j lv (pc) (st) := fun H locs ls hP hD hS hl => lv_lconst X.1.1 X.1.2.1 hdg hv (kk H locs ls hP hD hS hl)
theorem g_iload_n (X : Cx p s m args meth c cc nL own Ts D tys A H0 ret) {q : Fin 4} {i : Nat} {x : Int32} (n : Nat) (hdg : decode cc pc = .ok (.iload_n q, 1)) (hi : (q : Nat) = i) (hk : lv[n]? = some (i, .int x))
    (kk : GG p l e R s m args below meth c D A H0 nL Q w k j lv (pc + 1) (.int x :: st)) : GG p l e R s m args below meth c D A H0 nL Q w k j lv (pc) (st) := fun H locs ls hP hD hS hl => lv_iload_n X.1.1 X.1.2.1 hdg hi (lv_at hl n hk) (kk H locs ls hP hD hS hl)
theorem g_iload (X : Cx p s m args meth c cc nL own Ts D tys A H0 ret) {i : Nat} {x : Int32} (n : Nat) (hdg : decode cc pc = .ok (.iload i, 2)) (hk : lv[n]? = some (i, .int x))
    (kk : GG p l e R s m args below meth c D A H0 nL Q w k j lv (pc + 2) (.int x :: st)) : GG p l e R s m args below meth c D A H0 nL Q w k j lv (pc) (st) := fun H locs ls hP hD hS hl => lv_iload X.1.1 X.1.2.1 hdg (lv_at hl n hk) (kk H locs ls hP hD hS hl)
theorem g_lload_n (X : Cx p s m args meth c cc nL own Ts D tys A H0 ret) {q : Fin 4} {i : Nat} {x : Int64} (n : Nat) (hdg : decode cc pc = .ok (.lload_n q, 1)) (hi : (q : Nat) = i) (hk : lv[n]? = some (i, .long x))
    (kk : GG p l e R s m args below meth c D A H0 nL Q w k j lv (pc + 1) (.long x :: st)) : GG p l e R s m args below meth c D A H0 nL Q w k j lv (pc) (st) := fun H locs ls hP hD hS hl => lv_lload_n X.1.1 X.1.2.1 hdg hi (lv_at hl n hk) (kk H locs ls hP hD hS hl)
theorem g_lload (X : Cx p s m args meth c cc nL own Ts D tys A H0 ret) {i : Nat} {x : Int64} (n : Nat) (hdg : decode cc pc = .ok (.lload i, 2)) (hk : lv[n]? = some (i, .long x))
    (kk : GG p l e R s m args below meth c D A H0 nL Q w k j lv (pc + 2) (.long x :: st)) : GG p l e R s m args below meth c D A H0 nL Q w k j lv (pc) (st) := fun H locs ls hP hD hS hl => lv_lload X.1.1 X.1.2.1 hdg (lv_at hl n hk) (kk H locs ls hP hD hS hl)
theorem g_dload_n (X : Cx p s m args meth c cc nL own Ts D tys A H0 ret) {q : Fin 4} {i : Nat} {x : UInt64} (n : Nat) (hdg : decode cc pc = .ok (.dload_n q, 1)) (hi : (q : Nat) = i) (hk : lv[n]? = some (i, .double x))
    (kk : GG p l e R s m args below meth c D A H0 nL Q w k j lv (pc + 1) (.double x :: st)) : GG p l e R s m args below meth c D A H0 nL Q w k j lv (pc) (st) := fun H locs ls hP hD hS hl => lv_dload_n X.1.1 X.1.2.1 hdg hi (lv_at hl n hk) (kk H locs ls hP hD hS hl)
theorem g_dload (X : Cx p s m args meth c cc nL own Ts D tys A H0 ret) {i : Nat} {x : UInt64} (n : Nat) (hdg : decode cc pc = .ok (.dload i, 2)) (hk : lv[n]? = some (i, .double x))
    (kk : GG p l e R s m args below meth c D A H0 nL Q w k j lv (pc + 2) (.double x :: st)) : GG p l e R s m args below meth c D A H0 nL Q w k j lv (pc) (st) := fun H locs ls hP hD hS hl => lv_dload X.1.1 X.1.2.1 hdg (lv_at hl n hk) (kk H locs ls hP hD hS hl)
theorem g_aload_n (X : Cx p s m args meth c cc nL own Ts D tys A H0 ret) {q : Fin 4} {i : Nat} {x : Nat} (n : Nat) (hdg : decode cc pc = .ok (.aload_n q, 1)) (hi : (q : Nat) = i) (hk : lv[n]? = some (i, .ref x))
    (kk : GG p l e R s m args below meth c D A H0 nL Q w k j lv (pc + 1) (.ref x :: st)) : GG p l e R s m args below meth c D A H0 nL Q w k j lv (pc) (st) := fun H locs ls hP hD hS hl => lv_aload_n X.1.1 X.1.2.1 hdg hi (lv_at hl n hk) (kk H locs ls hP hD hS hl)
theorem g_aload (X : Cx p s m args meth c cc nL own Ts D tys A H0 ret) {i : Nat} {x : Nat} (n : Nat) (hdg : decode cc pc = .ok (.aload i, 2)) (hk : lv[n]? = some (i, .ref x))
    (kk : GG p l e R s m args below meth c D A H0 nL Q w k j lv (pc + 2) (.ref x :: st)) : GG p l e R s m args below meth c D A H0 nL Q w k j lv (pc) (st) := fun H locs ls hP hD hS hl => lv_aload X.1.1 X.1.2.1 hdg (lv_at hl n hk) (kk H locs ls hP hD hS hl)
theorem g_istore_n (X : Cx p s m args meth c cc nL own Ts D tys A H0 ret) (lv2 : List (Nat × Value)) {q : Fin 4} {i : Nat} {x : Int32} (hdg : decode cc pc = .ok (.istore_n q, 1)) (hi : (q : Nat) = i) (hn : i < nL) (hlv : (i, Value.int x) :: lv.filter (fun q => !(q.1 == i) && !(q.1 + 1 == i && q.2.category == 2)) = lv2)
    (kk : GG p l e R s m args below meth c D A H0 nL Q w k j lv2 (pc + 1) (st)) : GG p l e R s m args below meth c D A H0 nL Q w k j lv (pc) (.int x :: st) := fun H locs ls hP hD hS hl => lv_istore_n X.1.1 X.1.2.1 hdg hi hl hn hlv (fun ls2 hl2 => kk H locs ls2 hP hD hS hl2)
theorem g_istore (X : Cx p s m args meth c cc nL own Ts D tys A H0 ret) (lv2 : List (Nat × Value)) {i : Nat} {x : Int32} (hdg : decode cc pc = .ok (.istore i, 2)) (hn : i < nL) (hlv : (i, Value.int x) :: lv.filter (fun q => !(q.1 == i) && !(q.1 + 1 == i && q.2.category == 2)) = lv2)
    (kk : GG p l e R s m args below meth c D A H0 nL Q w k j lv2 (pc + 2) (st)) : GG p l e R s m args below meth c D A H0 nL Q w k j lv (pc) (.int x :: st) := fun H locs ls hP hD hS hl => lv_istore X.1.1 X.1.2.1 hdg hl hn hlv (fun ls2 hl2 => kk H locs ls2 hP hD hS hl2)
theorem g_lstore_n (X : Cx p s m args meth c cc nL own Ts D tys A H0 ret) (lv2 : List (Nat × Value)) {q : Fin 4} {i : Nat} {x : Int64} (hdg : decode cc pc = .ok (.lstore_n q, 1)) (hi : (q : Nat) = i) (hn : i + 1 < nL) (hlv : (i, Value.long x) :: lv.filter (fun q => !(q.1 == i) && (!(q.1 == i + 1) && !(q.1 + 1 == i && q.2.category == 2))) = lv2)
    (kk : GG p l e R s m args below meth c D A H0 nL Q w k j lv2 (pc + 1) (st)) : GG p l e R s m args below meth c D A H0 nL Q w k j lv (pc) (.long x :: st) := fun H locs ls hP hD hS hl => lv_lstore_n X.1.1 X.1.2.1 hdg hi hl hn hlv (fun ls2 hl2 => kk H locs ls2 hP hD hS hl2)
theorem g_lstore (X : Cx p s m args meth c cc nL own Ts D tys A H0 ret) (lv2 : List (Nat × Value)) {i : Nat} {x : Int64} (hdg : decode cc pc = .ok (.lstore i, 2)) (hn : i + 1 < nL) (hlv : (i, Value.long x) :: lv.filter (fun q => !(q.1 == i) && (!(q.1 == i + 1) && !(q.1 + 1 == i && q.2.category == 2))) = lv2)
    (kk : GG p l e R s m args below meth c D A H0 nL Q w k j lv2 (pc + 2) (st)) : GG p l e R s m args below meth c D A H0 nL Q w k j lv (pc) (.long x :: st) := fun H locs ls hP hD hS hl => lv_lstore X.1.1 X.1.2.1 hdg hl hn hlv (fun ls2 hl2 => kk H locs ls2 hP hD hS hl2)
theorem g_dstore_n (X : Cx p s m args meth c cc nL own Ts D tys A H0 ret) (lv2 : List (Nat × Value)) {q : Fin 4} {i : Nat} {x : UInt64} (hdg : decode cc pc = .ok (.dstore_n q, 1)) (hi : (q : Nat) = i) (hn : i + 1 < nL) (hlv : (i, Value.double x) :: lv.filter (fun q => !(q.1 == i) && (!(q.1 == i + 1) && !(q.1 + 1 == i && q.2.category == 2))) = lv2)
    (kk : GG p l e R s m args below meth c D A H0 nL Q w k j lv2 (pc + 1) (st)) : GG p l e R s m args below meth c D A H0 nL Q w k j lv (pc) (.double x :: st) := fun H locs ls hP hD hS hl => lv_dstore_n X.1.1 X.1.2.1 hdg hi hl hn hlv (fun ls2 hl2 => kk H locs ls2 hP hD hS hl2)
theorem g_dstore (X : Cx p s m args meth c cc nL own Ts D tys A H0 ret) (lv2 : List (Nat × Value)) {i : Nat} {x : UInt64} (hdg : decode cc pc = .ok (.dstore i, 2)) (hn : i + 1 < nL) (hlv : (i, Value.double x) :: lv.filter (fun q => !(q.1 == i) && (!(q.1 == i + 1) && !(q.1 + 1 == i && q.2.category == 2))) = lv2)
    (kk : GG p l e R s m args below meth c D A H0 nL Q w k j lv2 (pc + 2) (st)) : GG p l e R s m args below meth c D A H0 nL Q w k j lv (pc) (.double x :: st) := fun H locs ls hP hD hS hl => lv_dstore X.1.1 X.1.2.1 hdg hl hn hlv (fun ls2 hl2 => kk H locs ls2 hP hD hS hl2)
theorem g_astore_n (X : Cx p s m args meth c cc nL own Ts D tys A H0 ret) (lv2 : List (Nat × Value)) {q : Fin 4} {i : Nat} {x : Nat} (hdg : decode cc pc = .ok (.astore_n q, 1)) (hi : (q : Nat) = i) (hn : i < nL) (hlv : (i, Value.ref x) :: lv.filter (fun q => !(q.1 == i) && !(q.1 + 1 == i && q.2.category == 2)) = lv2)
    (kk : GG p l e R s m args below meth c D A H0 nL Q w k j lv2 (pc + 1) (st)) : GG p l e R s m args below meth c D A H0 nL Q w k j lv (pc) (.ref x :: st) := fun H locs ls hP hD hS hl => lv_astore_n X.1.1 X.1.2.1 hdg hi hl hn hlv (fun ls2 hl2 => kk H locs ls2 hP hD hS hl2)
theorem g_astore (X : Cx p s m args meth c cc nL own Ts D tys A H0 ret) (lv2 : List (Nat × Value)) {i : Nat} {x : Nat} (hdg : decode cc pc = .ok (.astore i, 2)) (hn : i < nL) (hlv : (i, Value.ref x) :: lv.filter (fun q => !(q.1 == i) && !(q.1 + 1 == i && q.2.category == 2)) = lv2)
    (kk : GG p l e R s m args below meth c D A H0 nL Q w k j lv2 (pc + 2) (st)) : GG p l e R s m args below meth c D A H0 nL Q w k j lv (pc) (.ref x :: st) := fun H locs ls hP hD hS hl => lv_astore X.1.1 X.1.2.1 hdg hl hn hlv (fun ls2 hl2 => kk H locs ls2 hP hD hS hl2)
theorem g_iinc (X : Cx p s m args meth c cc nL own Ts D tys A H0 ret) (lv2 : List (Nat × Value)) (n : Nat) {i : Nat} {d : Int} {x v : Int32} (hdg : decode cc pc = .ok (.iinc i d, 3)) (hk : lv[n]? = some (i, .int x)) (hv : x + Int32.ofInt d = v) (hn : i < nL) (hlv : (i, Value.int v) :: lv.filter (fun q => !(q.1 == i) && !(q.1 + 1 == i && q.2.category == 2)) = lv2)
    (kk : GG p l e R s m args below meth c D A H0 nL Q w k j lv2 (pc + 3) (st)) : GG p l e R s m args below meth c D A H0 nL Q w k j lv (pc) (st) := fun H locs ls hP hD hS hl => lv_iinc X.1.1 X.1.2.1 hdg hl hk hv hn hlv (fun ls2 hl2 => kk H locs ls2 hP hD hS hl2)
theorem g_iadd (X : Cx p s m args meth c cc nL own Ts D tys A H0 ret) {x y : Int32}  (hdg : decode cc pc = .ok (.iadd, 1))
    (kk : GG p l e R s m args below meth c D A H0 nL Q w k j lv (pc + 1) (.int (x + y) :: st)) : GG p l e R s m args below meth c D A H0 nL Q w k j lv (pc) (.int y :: .int x :: st) := fun H locs ls hP hD hS hl => lv_iadd X.1.1 X.1.2.1 hdg  (kk H locs ls hP hD hS hl)
theorem g_isub (X : Cx p s m args meth c cc nL own Ts D tys A H0 ret) {x y : Int32}  (hdg : decode cc pc = .ok (.isub, 1))
    (kk : GG p l e R s m args below meth c D A H0 nL Q w k j lv (pc + 1) (.int (x - y) :: st)) : GG p l e R s m args below meth c D A H0 nL Q w k j lv (pc) (.int y :: .int x :: st) := fun H locs ls hP hD hS hl => lv_isub X.1.1 X.1.2.1 hdg  (kk H locs ls hP hD hS hl)
theorem g_imul (X : Cx p s m args meth c cc nL own Ts D tys A H0 ret) {x y : Int32}  (hdg : decode cc pc = .ok (.imul, 1))
    (kk : GG p l e R s m args below meth c D A H0 nL Q w k j lv (pc + 1) (.int (x * y) :: st)) : GG p l e R s m args below meth c D A H0 nL Q w k j lv (pc) (.int y :: .int x :: st) := fun H locs ls hP hD hS hl => lv_imul X.1.1 X.1.2.1 hdg  (kk H locs ls hP hD hS hl)
theorem g_iand (X : Cx p s m args meth c cc nL own Ts D tys A H0 ret) {x y : Int32}  (hdg : decode cc pc = .ok (.iand, 1))
    (kk : GG p l e R s m args below meth c D A H0 nL Q w k j lv (pc + 1) (.int (x &&& y) :: st)) : GG p l e R s m args below meth c D A H0 nL Q w k j lv (pc) (.int y :: .int x :: st) := fun H locs ls hP hD hS hl => lv_iand X.1.1 X.1.2.1 hdg  (kk H locs ls hP hD hS hl)
theorem g_ior (X : Cx p s m args meth c cc nL own Ts D tys A H0 ret) {x y : Int32}  (hdg : decode cc pc = .ok (.ior, 1))
    (kk : GG p l e R s m args below meth c D A H0 nL Q w k j lv (pc + 1) (.int (x ||| y) :: st)) : GG p l e R s m args below meth c D A H0 nL Q w k j lv (pc) (.int y :: .int x :: st) := fun H locs ls hP hD hS hl => lv_ior X.1.1 X.1.2.1 hdg  (kk H locs ls hP hD hS hl)
theorem g_ixor (X : Cx p s m args meth c cc nL own Ts D tys A H0 ret) {x y : Int32}  (hdg : decode cc pc = .ok (.ixor, 1))
    (kk : GG p l e R s m args below meth c D A H0 nL Q w k j lv (pc + 1) (.int (x ^^^ y) :: st)) : GG p l e R s m args below meth c D A H0 nL Q w k j lv (pc) (.int y :: .int x :: st) := fun H locs ls hP hD hS hl => lv_ixor X.1.1 X.1.2.1 hdg  (kk H locs ls hP hD hS hl)
theorem g_idiv (X : Cx p s m args meth c cc nL own Ts D tys A H0 ret) {x y : Int32} (hne : ¬ y = 0) (hdg : decode cc pc = .ok (.idiv, 1))
    (kk : GG p l e R s m args below meth c D A H0 nL Q w k j lv (pc + 1) (.int (x / y) :: st)) : GG p l e R s m args below meth c D A H0 nL Q w k j lv (pc) (.int y :: .int x :: st) := fun H locs ls hP hD hS hl => lv_idiv X.1.1 X.1.2.1 hdg hne (kk H locs ls hP hD hS hl)
theorem g_irem (X : Cx p s m args meth c cc nL own Ts D tys A H0 ret) {x y : Int32} (hne : ¬ y = 0) (hdg : decode cc pc = .ok (.irem, 1))
    (kk : GG p l e R s m args below meth c D A H0 nL Q w k j lv (pc + 1) (.int (x - x / y * y) :: st)) : GG p l e R s m args below meth c D A H0 nL Q w k j lv (pc) (.int y :: .int x :: st) := fun H locs ls hP hD hS hl => lv_irem X.1.1 X.1.2.1 hdg hne (kk H locs ls hP hD hS hl)
theorem g_ishl (X : Cx p s m args meth c cc nL own Ts D tys A H0 ret) {x y : Int32}  (hdg : decode cc pc = .ok (.ishl, 1))
    (kk : GG p l e R s m args below meth c D A H0 nL Q w k j lv (pc + 1) (.int (x <<< (y &&& 31)) :: st)) : GG p l e R s m args below meth c D A H0 nL Q w k j lv (pc) (.int y :: .int x :: st) := fun H locs ls hP hD hS hl => lv_ishl X.1.1 X.1.2.1 hdg  (kk H locs ls hP hD hS hl)
theorem g_ishr (X : Cx p s m args meth c cc nL own Ts D tys A H0 ret) {x y : Int32}  (hdg : decode cc pc = .ok (.ishr, 1))
    (kk : GG p l e R s m args below meth c D A H0 nL Q w k j lv (pc + 1) (.int (x >>> (y &&& 31)) :: st)) : GG p l e R s m args below meth c D A H0 nL Q w k j lv (pc) (.int y :: .int x :: st) := fun H locs ls hP hD hS hl => lv_ishr X.1.1 X.1.2.1 hdg  (kk H locs ls hP hD hS hl)
theorem g_ladd (X : Cx p s m args meth c cc nL own Ts D tys A H0 ret) {x y : Int64}  (hdg : decode cc pc = .ok (.ladd, 1))
    (kk : GG p l e R s m args below meth c D A H0 nL Q w k j lv (pc + 1) (.long (x + y) :: st)) : GG p l e R s m args below meth c D A H0 nL Q w k j lv (pc) (.long y :: .long x :: st) := fun H locs ls hP hD hS hl => lv_ladd X.1.1 X.1.2.1 hdg  (kk H locs ls hP hD hS hl)
theorem g_lsub (X : Cx p s m args meth c cc nL own Ts D tys A H0 ret) {x y : Int64}  (hdg : decode cc pc = .ok (.lsub, 1))
    (kk : GG p l e R s m args below meth c D A H0 nL Q w k j lv (pc + 1) (.long (x - y) :: st)) : GG p l e R s m args below meth c D A H0 nL Q w k j lv (pc) (.long y :: .long x :: st) := fun H locs ls hP hD hS hl => lv_lsub X.1.1 X.1.2.1 hdg  (kk H locs ls hP hD hS hl)
theorem g_lmul (X : Cx p s m args meth c cc nL own Ts D tys A H0 ret) {x y : Int64}  (hdg : decode cc pc = .ok (.lmul, 1))
    (kk : GG p l e R s m args below meth c D A H0 nL Q w k j lv (pc + 1) (.long (x * y) :: st)) : GG p l e R s m args below meth c D A H0 nL Q w k j lv (pc) (.long y :: .long x :: st) := fun H locs ls hP hD hS hl => lv_lmul X.1.1 X.1.2.1 hdg  (kk H locs ls hP hD hS hl)
theorem g_lor (X : Cx p s m args meth c cc nL own Ts D tys A H0 ret) {x y : Int64}  (hdg : decode cc pc = .ok (.lor, 1))
    (kk : GG p l e R s m args below meth c D A H0 nL Q w k j lv (pc + 1) (.long (x ||| y) :: st)) : GG p l e R s m args below meth c D A H0 nL Q w k j lv (pc) (.long y :: .long x :: st) := fun H locs ls hP hD hS hl => lv_lor X.1.1 X.1.2.1 hdg  (kk H locs ls hP hD hS hl)
theorem g_dsub (X : Cx p s m args meth c cc nL own Ts D tys A H0 ret) {x y : UInt64} (hne : vf_n64 (FP.dsub x y)) (hdg : decode cc pc = .ok (.dsub, 1))
    (kk : GG p l e R s m args below meth c D A H0 nL Q w k j lv (pc + 1) (.double (FP.dsub x y) :: st)) : GG p l e R s m args below meth c D A H0 nL Q w k j lv (pc) (.double y :: .double x :: st) := fun H locs ls hP hD hS hl => lv_dsub X.1.1 X.1.2.1 hdg hne (kk H locs ls hP hD hS hl)
theorem g_dmul (X : Cx p s m args meth c cc nL own Ts D tys A H0 ret) {x y : UInt64} (hne : vf_n64 (FP.dmul x y)) (hdg : decode cc pc = .ok (.dmul, 1))
    (kk : GG p l e R s m args below meth c D A H0 nL Q w k j lv (pc + 1) (.double (FP.dmul x y) :: st)) : GG p l e R s m args below meth c D A H0 nL Q w k j lv (pc) (.double y :: .double x :: st) := fun H locs ls hP hD hS hl => lv_dmul X.1.1 X.1.2.1 hdg hne (kk H locs ls hP hD hS hl)
theorem g_ddiv (X : Cx p s m args meth c cc nL own Ts D tys A H0 ret) {x y : UInt64} (hne : vf_n64 (FP.ddiv x y)) (hdg : decode cc pc = .ok (.ddiv, 1))
    (kk : GG p l e R s m args below meth c D A H0 nL Q w k j lv (pc + 1) (.double (FP.ddiv x y) :: st)) : GG p l e R s m args below meth c D A H0 nL Q w k j lv (pc) (.double y :: .double x :: st) := fun H locs ls hP hD hS hl => lv_ddiv X.1.1 X.1.2.1 hdg hne (kk H locs ls hP hD hS hl)
theorem g_lshl (X : Cx p s m args meth c cc nL own Ts D tys A H0 ret) {x : Int64} {y : Int32} (hdg : decode cc pc = .ok (.lshl, 1))
    (kk : GG p l e R s m args below meth c D A H0 nL Q w k j lv (pc + 1) (.long (x <<< (y.toInt64 &&& 63)) :: st)) : GG p l e R s m args below meth c D A H0 nL Q w k j lv (pc) (.int y :: .long x :: st) := fun H locs ls hP hD hS hl => lv_lshl X.1.1 X.1.2.1 hdg rfl (kk H locs ls hP hD hS hl)
theorem g_i2l (X : Cx p s m args meth c cc nL own Ts D tys A H0 ret) {x : Int32} (hdg : decode cc pc = .ok (.i2l, 1))
    (kk : GG p l e R s m args below meth c D A H0 nL Q w k j lv (pc + 1) (.long x.toInt64 :: st)) : GG p l e R s m args below meth c D A H0 nL Q w k j lv (pc) (.int x :: st) := fun H locs ls hP hD hS hl => lv_i2l X.1.1 X.1.2.1 hdg rfl (kk H locs ls hP hD hS hl)
theorem g_i2d (X : Cx p s m args meth c cc nL own Ts D tys A H0 ret) {x : Int32} (hdg : decode cc pc = .ok (.i2d, 1))
    (kk : GG p l e R s m args below meth c D A H0 nL Q w k j lv (pc + 1) (.double (FP.i2d x) :: st)) : GG p l e R s m args below meth c D A H0 nL Q w k j lv (pc) (.int x :: st) := fun H locs ls hP hD hS hl => lv_i2d X.1.1 X.1.2.1 hdg (kk H locs ls hP hD hS hl)
theorem g_d2l (X : Cx p s m args meth c cc nL own Ts D tys A H0 ret) {x : UInt64} (hdg : decode cc pc = .ok (.d2l, 1))
    (kk : GG p l e R s m args below meth c D A H0 nL Q w k j lv (pc + 1) (.long (FP.d2l x) :: st)) : GG p l e R s m args below meth c D A H0 nL Q w k j lv (pc) (.double x :: st) := fun H locs ls hP hD hS hl => lv_d2l X.1.1 X.1.2.1 hdg (kk H locs ls hP hD hS hl)
theorem g_dcmp (X : Cx p s m args meth c cc nL own Ts D tys A H0 ret) {x y : UInt64} {op : CmpOp} (hdg : decode cc pc = .ok (.dcmp op, 1))
    (kk : GG p l e R s m args below meth c D A H0 nL Q w k j lv (pc + 1) (.int (Op.cmpValue (FP.dcmp x y) op) :: st)) : GG p l e R s m args below meth c D A H0 nL Q w k j lv (pc) (.double y :: .double x :: st) := fun H locs ls hP hD hS hl => lv_dcmp X.1.1 X.1.2.1 hdg (kk H locs ls hP hD hS hl)
theorem g_lcmp (X : Cx p s m args meth c cc nL own Ts D tys A H0 ret) {x y : Int64} (hdg : decode cc pc = .ok (.lcmp, 1))
    (kk : GG p l e R s m args below meth c D A H0 nL Q w k j lv (pc + 1) (.int (lg_cmp x y) :: st)) : GG p l e R s m args below meth c D A H0 nL Q w k j lv (pc) (.long y :: .long x :: st) := fun H locs ls hP hD hS hl => W.lcmp X.1.1 X.1.2.1 hdg (kk H locs ls hP hD hS hl)
theorem g_dconst0 (X : Cx p s m args meth c cc nL own Ts D tys A H0 ret) (hdg : decode cc pc = .ok (.dconst 0, 1))
    (kk : GG p l e R s m args below meth c D A H0 nL Q w k j lv (pc + 1) (.double 0 :: st)) : GG p l e R s m args below meth c D A H0 nL Q w k j lv (pc) (st) := fun H locs ls hP hD hS hl => lv_dconst0 X.1.1 X.1.2.1 hdg (kk H locs ls hP hD hS hl)
theorem g_dconst1 (X : Cx p s m args meth c cc nL own Ts D tys A H0 ret) (hdg : decode cc pc = .ok (.dconst 1, 1))
    (kk : GG p l e R s m args below meth c D A H0 nL Q w k j lv (pc + 1) (.double 0x3ff0000000000000 :: st)) : GG p l e R s m args below meth c D A H0 nL Q w k j lv (pc) (st) := fun H locs ls hP hD hS hl => lv_dconst1 X.1.1 X.1.2.1 hdg (kk H locs ls hP hD hS hl)
theorem g_dup (X : Cx p s m args meth c cc nL own Ts D tys A H0 ret) {va : Value} (hdg : decode cc pc = .ok (.dup, 1)) (hva : va.category = 1)
    (kk : GG p l e R s m args below meth c D A H0 nL Q w k j lv (pc + 1) (va :: va :: st)) : GG p l e R s m args below meth c D A H0 nL Q w k j lv (pc) (va :: st) := fun H locs ls hP hD hS hl => lv_dup X.1.1 X.1.2.1 hdg hva (kk H locs ls hP hD hS hl)
theorem g_pop (X : Cx p s m args meth c cc nL own Ts D tys A H0 ret) {va : Value} (hdg : decode cc pc = .ok (.pop, 1)) (hva : va.category = 1)
    (kk : GG p l e R s m args below meth c D A H0 nL Q w k j lv (pc + 1) (st)) : GG p l e R s m args below meth c D A H0 nL Q w k j lv (pc) (va :: st) := fun H locs ls hP hD hS hl => lv_pop X.1.1 X.1.2.1 hdg hva (kk H locs ls hP hD hS hl)
theorem g_dup2 (X : Cx p s m args meth c cc nL own Ts D tys A H0 ret) {va vb : Value} (hdg : decode cc pc = .ok (.dup2, 1)) (hva : va.category = 1) (hvb : vb.category = 1)
    (kk : GG p l e R s m args below meth c D A H0 nL Q w k j lv (pc + 1) (va :: vb :: va :: vb :: st)) : GG p l e R s m args below meth c D A H0 nL Q w k j lv (pc) (va :: vb :: st) := fun H locs ls hP hD hS hl => lv_dup2_11 X.1.1 X.1.2.1 hdg hva hvb (kk H locs ls hP hD hS hl)
theorem g_icmp_eq (X : Cx p s m args meth c cc nL own Ts D tys A H0 ret) (tgt : Nat) {x y : Int32} {off : Int} (hdg : decode cc pc = .ok (.if_icmp .eq off, 3)) (ht : (pc : Int) + off = (tgt : Int))
    (kt : x = y → GG p l e R s m args below meth c D A H0 nL Q w k j lv (tgt) (st)) (kf : ¬ x = y → GG p l e R s m args below meth c D A H0 nL Q w k j lv (pc + 3) (st)) : GG p l e R s m args below meth c D A H0 nL Q w k j lv (pc) (.int y :: .int x :: st) := fun H locs ls hP hD hS hl => lv_icmp_eq X.1.1 X.1.2.1 hdg ht (fun h => kt h H locs ls hP hD hS hl) (fun h => kf h H locs ls hP hD hS hl)
theorem g_if_eq (X : Cx p s m args meth c cc nL own Ts D tys A H0 ret) (tgt : Nat) {x : Int32} {off : Int} (hdg : decode cc pc = .ok (.ifCond .eq off, 3)) (ht : (pc : Int) + off = (tgt : Int))
    (kt : x = 0 → GG p l e R s m args below meth c D A H0 nL Q w k j lv (tgt) (st)) (kf : ¬ x = 0 → GG p l e R s m args below meth c D A H0 nL Q w k j lv (pc + 3) (st)) : GG p l e R s m args below meth c D A H0 nL Q w k j lv (pc) (.int x :: st) := fun H locs ls hP hD hS hl => lv_if_eq X.1.1 X.1.2.1 hdg ht (fun h => kt h H locs ls hP hD hS hl) (fun h => kf h H locs ls hP hD hS hl)
theorem g_icmp_ne (X : Cx p s m args meth c cc nL own Ts D tys A H0 ret) (tgt : Nat) {x y : Int32} {off : Int} (hdg : decode cc pc = .ok (.if_icmp .ne off, 3)) (ht : (pc : Int) + off = (tgt : Int))
    (kt : ¬ x = y → GG p l e R s m args below meth c D A H0 nL Q w k j lv (tgt) (st)) (kf : x = y → GG p l e R s m args below meth c D A H0 nL Q w k j lv (pc + 3) (st)) : GG p l e R s m args below meth c D A H0 nL Q w k j lv (pc) (.int y :: .int x :: st) := fun H locs ls hP hD hS hl => lv_icmp_ne X.1.1 X.1.2.1 hdg ht (fun h => kt h H locs ls hP hD hS hl) (fun h => kf h H locs ls hP hD hS hl)
theorem g_if_ne (X : Cx p s m args meth c cc nL own Ts D tys A H0 ret) (tgt : Nat) {x : Int32} {off : Int} (hdg : decode cc pc = .ok (.ifCond .ne off, 3)) (ht : (pc : Int) + off = (tgt : Int))
    (kt : ¬ x = 0 → GG p l e R s m args below meth c D A H0 nL Q w k j lv (tgt) (st)) (kf : x = 0 → GG p l e R s m args below meth c D A H0 nL Q w k j lv (pc + 3) (st)) : GG p l e R s m args below meth c D A H0 nL Q w k j lv (pc) (.int x :: st) := fun H locs ls hP hD hS hl => lv_if_ne X.1.1 X.1.2.1 hdg ht (fun h => kt h H locs ls hP hD hS hl) (fun h => kf h H locs ls hP hD hS hl)
theorem g_icmp_lt (X : Cx p s m args meth c cc nL own Ts D tys A H0 ret) (tgt : Nat) {x y : Int32} {off : Int} (hdg : decode cc pc = .ok (.if_icmp .lt off, 3)) (ht : (pc : Int) + off = (tgt : Int))
    (kt : x < y → GG p l e R s m args below meth c D A H0 nL Q w k j lv (tgt) (st)) (kf : ¬ x < y → GG p l e R s m args below meth c D A H0 nL Q w k j lv (pc + 3) (st)) : GG p l e R s m args below meth c D A H0 nL Q w k j lv (pc) (.int y :: .int x :: st) := fun H locs ls hP hD hS hl => lv_icmp_lt X.1.1 X.1.2.1 hdg ht (fun h => kt h H locs ls hP hD hS hl) (fun h => kf h H locs ls hP hD hS hl)
theorem g_if_lt (X : Cx p s m args meth c cc nL own Ts D tys A H0 ret) (tgt : Nat) {x : Int32} {off : Int} (hdg : decode cc pc = .ok (.ifCond .lt off, 3)) (ht : (pc : Int) + off = (tgt : Int))
    (kt : x < 0 → GG p l e R s m args below meth c D A H0 nL Q w k j lv (tgt) (st)) (kf : ¬ x < 0 → GG p l e R s m args below meth c D A H0 nL Q w k j lv (pc + 3) (st)) : GG p l e R s m args below meth c D A H0 nL Q w k j lv (pc) (.int x :: st) := fun H locs ls hP hD hS hl => lv_if_lt X.1.1 X.1.2.1 hdg ht (fun h => kt h H locs ls hP hD hS hl) (fun h => kf h H locs ls hP hD hS hl)
theorem g_icmp_ge (X : Cx p s m args meth c cc nL own Ts D tys A H0 ret) (tgt : Nat) {x y : Int32} {off : Int} (hdg : decode cc pc = .ok (.if_icmp .ge off, 3)) (ht : (pc : Int) + off = (tgt : Int))
    (kt : y ≤ x → GG p l e R s m args below meth c D A H0 nL Q w k j lv (tgt) (st)) (kf : ¬ y ≤ x → GG p l e R s m args below meth c D A H0 nL Q w k j lv (pc + 3) (st)) : GG p l e R s m args below meth c D A H0 nL Q w k j lv (pc) (.int y :: .int x :: st) := fun H locs ls hP hD hS hl => lv_icmp_ge X.1.1 X.1.2.1 hdg ht (fun h => kt h H locs ls hP hD hS hl) (fun h => kf h H locs ls hP hD hS hl)
theorem g_if_ge (X : Cx p s m args meth c cc nL own Ts D tys A H0 ret) (tgt : Nat) {x : Int32} {off : Int} (hdg : decode cc pc = .ok (.ifCond .ge off, 3)) (ht : (pc : Int) + off = (tgt : Int))
    (kt : 0 ≤ x → GG p l e R s m args below meth c D A H0 nL Q w k j lv (tgt) (st)) (kf : ¬ 0 ≤ x → GG p l e R s m args below meth c D A H0 nL Q w k j lv (pc + 3) (st)) : GG p l e R s m args below meth c D A H0 nL Q w k j lv (pc) (.int x :: st) := fun H locs ls hP hD hS hl => lv_if_ge X.1.1 X.1.2.1 hdg ht (fun h => kt h H locs ls hP hD hS hl) (fun h => kf h H locs ls hP hD hS hl)
theorem g_icmp_gt (X : Cx p s m args meth c cc nL own Ts D tys A H0 ret) (tgt : Nat) {x y : Int32} {off : Int} (hdg : decode cc pc = .ok (.if_icmp .gt off, 3)) (ht : (pc : Int) + off = (tgt : Int))
    (kt : y < x → GG p l e R s m args below meth c D A H0 nL Q w k j lv (tgt) (st)) (kf : ¬ y < x → GG p l e R s m args below meth c D A H0 nL Q w k j lv (pc + 3) (st)) : GG p l e R s m args below meth c D A H0 nL Q w k j lv (pc) (.int y :: .int x :: st) := fun H locs ls hP hD hS hl => lv_icmp_gt X.1.1 X.1.2.1 hdg ht (fun h => kt h H locs ls hP hD hS hl) (fun h => kf h H locs ls hP hD hS hl)
theorem g_if_gt (X : Cx p s m args meth c cc nL own Ts D tys A H0 ret) (tgt : Nat) {x : Int32} {off : Int} (hdg : decode cc pc = .ok (.ifCond .gt off, 3)) (ht : (pc : Int) + off = (tgt : Int))
    (kt : 0 < x → GG p l e R s m args below meth c D A H0 nL Q w k j lv (tgt) (st)) (kf : ¬ 0 < x → GG p l e R s m args below meth c D A H0 nL Q w k j lv (pc + 3) (st)) : GG p l e R s m args below meth c D A H0 nL Q w k j lv (pc) (.int x :: st) := fun H locs ls hP hD hS hl => lv_if_gt X.1.1 X.1.2.1 hdg ht (fun h => kt h H locs ls hP hD hS hl) (fun h => kf h H locs ls hP hD hS hl)
theorem g_icmp_le (X : Cx p s m args meth c cc nL own Ts D tys A H0 ret) (tgt : Nat) {x y : Int32} {off : Int} (hdg : decode cc pc = .ok (.if_icmp .le off, 3)) (ht : (pc : Int) + off = (tgt : Int))
    (kt : x ≤ y → GG p l e R s m args below meth c D A H0 nL Q w k j lv (tgt) (st)) (kf : ¬ x ≤ y → GG p l e R s m args below meth c D A H0 nL Q w k j lv (pc + 3) (st)) : GG p l e R s m args below meth c D A H0 nL Q w k j lv (pc) (.int y :: .int x :: st) := fun H locs ls hP hD hS hl => lv_icmp_le X.1.1 X.1.2.1 hdg ht (fun h => kt h H locs ls hP hD hS hl) (fun h => kf h H locs ls hP hD hS hl)
theorem g_if_le (X : Cx p s m args meth c cc nL own Ts D tys A H0 ret) (tgt : Nat) {x : Int32} {off : Int} (hdg : decode cc pc = .ok (.ifCond .le off, 3)) (ht : (pc : Int) + off = (tgt : Int))
    (kt : x ≤ 0 → GG p l e R s m args below meth c D A H0 nL Q w k j lv (tgt) (st)) (kf : ¬ x ≤ 0 → GG p l e R s m args below meth c D A H0 nL Q w k j lv (pc + 3) (st)) : GG p l e R s m args below meth c D A H0 nL Q w k j lv (pc) (.int x :: st) := fun H locs ls hP hD hS hl => lv_if_le X.1.1 X.1.2.1 hdg ht (fun h => kt h H locs ls hP hD hS hl) (fun h => kf h H locs ls hP hD hS hl)
theorem g_goto (X : Cx p s m args meth c cc nL own Ts D tys A H0 ret) (tgt : Nat) {off : Int} (hdg : decode cc pc = .ok (.goto off, 3)) (ht : (pc : Int) + off = (tgt : Int))
    (kk : GG p l e R s m args below meth c D A H0 nL Q w k j lv (tgt) (st)) : GG p l e R s m args below meth c D A H0 nL Q w k j lv (pc) (st) := fun H locs ls hP hD hS hl => lv_goto X.1.1 X.1.2.1 hdg ht (kk H locs ls hP hD hS hl)
theorem g_tableOut (X : Cx p s m args meth c cc nL own Ts D tys A H0 ret) (tgt : Nat) {dflt lo hi : Int} {offs : Array Int} {len : Nat} {x : Int32} (hdg : decode cc pc = .ok (.tableswitch dflt lo hi offs, len)) (h : x.toInt < lo ∨ hi < x.toInt) (ht : (pc : Int) + dflt = (tgt : Int))
    (kk : GG p l e R s m args below meth c D A H0 nL Q w k j lv (tgt) (st)) : GG p l e R s m args below meth c D A H0 nL Q w k j lv (pc) (.int x :: st) := fun H locs ls hP hD hS hl => lv_tableOut X.1.1 X.1.2.1 hdg h ht (kk H locs ls hP hD hS hl)
theorem g_tableIn (X : Cx p s m args meth c cc nL own Ts D tys A H0 ret) (tgt : Nat) {dflt lo hi : Int} {offs : Array Int} {len : Nat} {x : Int32} {off : Int} (hdg : decode cc pc = .ok (.tableswitch dflt lo hi offs, len)) (h1 : ¬ x.toInt < lo) (h2 : ¬ hi < x.toInt) (ho : offs[(x.toInt - lo).toNat]? = some off) (ht : (pc : Int) + off = (tgt : Int))
    (kk : GG p l e R s m args below meth c D A H0 nL Q w k j lv (tgt) (st)) : GG p l e R s m args below meth c D A H0 nL Q w k j lv (pc) (.int x :: st) := fun H locs ls hP hD hS hl => lv_tableIn X.1.1 X.1.2.1 hdg h1 h2 ho ht (kk H locs ls hP hD hS hl)
theorem g_lookup (X : Cx p s m args meth c cc nL own Ts D tys A H0 ret) (tgt : Nat) {dflt : Int} {ps : Array (Int × Int)} {len : Nat} {x : Int32} {off : Int} (hdg : decode cc pc = .ok (.lookupswitch dflt ps, len)) (hp : (ps.toList.zip (ps.toList.drop 1)).all (fun (a, next) => a.1 < next.1) = true) (ho : Op.lookupswitch.offset ps.toList dflt x.toInt = off) (ht : (pc : Int) + off = (tgt : Int))
    (kk : GG p l e R s m args below meth c D A H0 nL Q w k j lv (tgt) (st)) : GG p l e R s m args below meth c D A H0 nL Q w k j lv (pc) (.int x :: st) := fun H locs ls hP hD hS hl => lv_lookup X.1.1 X.1.2.1 hdg hp ho ht (kk H locs ls hP hD hS hl)
theorem g_topi {x : Int32} (kk : ∀ y : Int32, y = x → GG p l e R s m args below meth c D A H0 nL Q w k j lv (pc) (.int y :: st)) : GG p l e R s m args below meth c D A H0 nL Q w k j lv (pc) (.int x :: st) := kk x rfl
theorem g_topl {x : Int64} (kk : ∀ y : Int64, y = x → GG p l e R s m args below meth c D A H0 nL Q w k j lv (pc) (.long y :: st)) : GG p l e R s m args below meth c D A H0 nL Q w k j lv (pc) (.long x :: st) := kk x rfl
theorem g_topd {x : UInt64} (kk : ∀ y : UInt64, y = x → GG p l e R s m args below meth c D A H0 nL Q w k j lv (pc) (.double y :: st)) : GG p l e R s m args below meth c D A H0 nL Q w k j lv (pc) (.double x :: st) := kk x rfl
theorem g_sub (lv2 : List (Nat × Value)) (ks : List Nat) (hlv : lv_pick lv ks = lv2) (kk : GG p l e R s m args below meth c D A H0 nL Q w k j lv2 (pc) (st)) : GG p l e R s m args below meth c D A H0 nL Q w k j lv (pc) (st) := fun H locs ls hP hD hS hl => kk H locs ls hP hD hS (lv_sub hl ks hlv)
theorem g_w {w2 : va_W} (hw : w = w2) (kk : GG p l e R s m args below meth c D A H0 nL Q w2 k j lv (pc) (st)) : GG p l e R s m args below meth c D A H0 nL Q w k j lv (pc) (st) := by subst hw; exact kk
theorem g_wide {k2 j2 : Nat} (h1 : k ≤ k2) (h2 : j ≤ j2) (kk : GG p l e R s m args below meth c D A H0 nL Q w k2 j2 lv (pc) (st)) : GG p l e R s m args below meth c D A H0 nL Q w k j lv (pc) (st) := fun H locs ls hP hD hS hl => W.widen h1 h2 (kk H locs ls hP hD hS hl)
theorem g_pc {pc2 : Nat} (h : pc = pc2) (kk : GG p l e R s m args below meth c D A H0 nL Q w k j lv (pc2) (st)) : GG p l e R s m args below meth c D A H0 nL Q w k j lv (pc) (st) := by subst h; exact kk
theorem g_get (X : Cx p s m args meth c cc nL own Ts D tys A H0 ret) {ref C : String} {T : u_T} {N ci index a : Nat} (q0 : Nat) {fs : List Value} (f : Nat) {v : Value} (hin : ∀ w ∈ u_ws C T N, w ∈ Ts) (hlink : Cond.fieldLink own index ref (T f).2.1 (T f).2.2.1 ∈ Ts) (hdg : decode cc pc = .ok (.getfield index, 3)) (he : w[q0]? = some (a, .inr (ci, fs))) (hc : vwCl[ci]? = some (C, T, N)) (hf : f < N) (hr : (T f).1 = ref) (hv : fs[f]? = some v)
    (kk : GG p l e R s m args below meth c D A H0 nL Q w k j lv (pc + 3) (v :: st)) : GG p l e R s m args below meth c D A H0 nL Q w k j lv (pc) (.ref a :: st) := fun H locs ls hP hD hS hl => va_get X.1.1 X.1.2.1 X.1.2.2.2.2 hin X.1.2.2.2.1 X.2.1 hP q0 he hc f hf (X.1.2.2.2.2 _ hlink) (fun _ h9 => by rw [← hr]; exact h9) hv hdg (kk H locs ls hP hD hS hl)
theorem g_put (X : Cx p s m args meth c cc nL own Ts D tys A H0 ret) (Wf : Mem → va_W) (v0 : Mem) {ref C : String} {T : u_T} {N ci index a : Nat} (q0 : Nat) {fs : List Value} (f : Nat) {x : Int32} (tyf : Nat → FieldType) (htyf : ∀ k, k < N → parseFieldDescriptor (T k).2.2.1 = some (tyf k)) (hnm : ∀ a, a < N → ∀ b, b < N → a ≠ b → (T a).2.1 ≠ (T b).2.1) (hin : ∀ w ∈ u_ws C T N, w ∈ Ts) (hlink : Cond.fieldLink own index ref (T f).2.1 (T f).2.2.1 ∈ Ts) (hdg : decode cc pc = .ok (.putfield index, 3)) (he : w[q0]? = some (a, .inr (ci, fs))) (hc : vwCl[ci]? = some (C, T, N)) (hf : f < N) (hr : (T f).1 = ref) (hfin : (T f).2.2.2 = false) (hd : parseFieldDescriptor (T f).2.2.1 = some .int) (hlen : f < fs.length) (hw : w.set q0 (a, .inr (ci, fs.set f (.int x))) = Wf (mset v0 f 0 x))
    (kk : ∀ z : Mem, z = mset v0 f 0 x → GG p l e R s m args below meth c D A H0 nL Q (Wf z) k j lv (pc + 3) (st)) : GG p l e R s m args below meth c D A H0 nL Q w k j lv (pc) (.int x :: .ref a :: st) := fun H locs ls hP hD hS hl => va_put X.1.1 X.1.2.1 X.1.2.2.2.2 hin tyf htyf hnm X.1.2.2.2.1 X.2.1 hP hD hS q0 he hc f hf (X.1.2.2.2.2 _ hlink) (fun _ h9 => by rw [← hr]; exact h9) hfin hd rfl rfl hlen hdg (fun H1 l1 hP1 hD1 hS1 => kk _ rfl H1 l1 ls (hw ▸ hP1) (hw ▸ hD1) hS1 hl)
theorem g_putl (X : Cx p s m args meth c cc nL own Ts D tys A H0 ret) (Wf : Int64 → va_W) {ref C : String} {T : u_T} {N ci index a : Nat} (q0 : Nat) {fs : List Value} (f : Nat) {x : Int64} (tyf : Nat → FieldType) (htyf : ∀ k, k < N → parseFieldDescriptor (T k).2.2.1 = some (tyf k)) (hnm : ∀ a, a < N → ∀ b, b < N → a ≠ b → (T a).2.1 ≠ (T b).2.1) (hin : ∀ w ∈ u_ws C T N, w ∈ Ts) (hlink : Cond.fieldLink own index ref (T f).2.1 (T f).2.2.1 ∈ Ts) (hdg : decode cc pc = .ok (.putfield index, 3)) (he : w[q0]? = some (a, .inr (ci, fs))) (hc : vwCl[ci]? = some (C, T, N)) (hf : f < N) (hr : (T f).1 = ref) (hfin : (T f).2.2.2 = false) (hd : parseFieldDescriptor (T f).2.2.1 = some .long) (hlen : f < fs.length) (hw : w.set q0 (a, .inr (ci, fs.set f (.long x))) = Wf x)
    (kk : GG p l e R s m args below meth c D A H0 nL Q (Wf x) k j lv (pc + 3) (st)) : GG p l e R s m args below meth c D A H0 nL Q w k j lv (pc) (.long x :: .ref a :: st) := fun H locs ls hP hD hS hl => va_put X.1.1 X.1.2.1 X.1.2.2.2.2 hin tyf htyf hnm X.1.2.2.2.1 X.2.1 hP hD hS q0 he hc f hf (X.1.2.2.2.2 _ hlink) (fun _ h9 => by rw [← hr]; exact h9) hfin hd rfl rfl hlen hdg (fun H1 l1 hP1 hD1 hS1 => kk H1 l1 ls (hw ▸ hP1) (hw ▸ hD1) hS1 hl)
theorem g_iald (X : Cx p s m args meth c cc nL own Ts D tys A H0 ret) {a : Nat} (q0 t0 : Nat) {cA : ClassId} {n : Nat} {f : Nat → Int32} {i : Int32} (hdg : decode cc pc = .ok (.iaload, 1)) (ha : w[q0]? = some (a, .inl (cA, n, .inl f))) (ht : tys[t0]? = some (cA, .int)) (hi : vp_in i n)
    (kk : GG p l e R s m args below meth c D A H0 nL Q w k j lv (pc + 1) (.int (f i.toNatClampNeg) :: st)) : GG p l e R s m args below meth c D A H0 nL Q w k j lv (pc) (.int i :: .ref a :: st) := fun H locs ls hP hD hS hl => va_iald X.1.1 X.1.2.1 X.2.1 hP q0 t0 ha ht hi hdg (kk H locs ls hP hD hS hl)
theorem g_zald (X : Cx p s m args meth c cc nL own Ts D tys A H0 ret) {a : Nat} (q0 t0 : Nat) {cA : ClassId} {n : Nat} {f : Nat → Int32} {i : Int32} (hdg : decode cc pc = .ok (.baload, 1)) (ha : w[q0]? = some (a, .inl (cA, n, .inl f))) (ht : tys[t0]? = some (cA, .boolean)) (hi : vp_in i n)
    (kk : GG p l e R s m args below meth c D A H0 nL Q w k j lv (pc + 1) (.int (f i.toNatClampNeg) :: st)) : GG p l e R s m args below meth c D A H0 nL Q w k j lv (pc) (.int i :: .ref a :: st) := fun H locs ls hP hD hS hl => va_zald X.1.1 X.1.2.1 X.2.1 hP q0 t0 ha ht hi hdg (kk H locs ls hP hD hS hl)
theorem g_iast (X : Cx p s m args meth c cc nL own Ts D tys A H0 ret) (Wf : Mem → va_W) (v0 : Mem) (row : Nat) {a : Nat} (q0 t0 : Nat) {cA : ClassId} {n : Nat} {i x : Int32} (hdg : decode cc pc = .ok (.iastore, 1)) (ha : w[q0]? = some (a, .inl (cA, n, .inl (v0 row)))) (ht : tys[t0]? = some (cA, .int)) (hi : vp_in i n) (hw : w.set q0 (a, .inl (cA, n, .inl (upd (v0 row) i.toNatClampNeg x))) = Wf (mset v0 row i.toNatClampNeg x))
    (kk : ∀ z : Mem, z = mset v0 row i.toNatClampNeg x → GG p l e R s m args below meth c D A H0 nL Q (Wf z) k j lv (pc + 1) (st)) : GG p l e R s m args below meth c D A H0 nL Q w k j lv (pc) (.int x :: .int i :: .ref a :: st) := fun H locs ls hP hD hS hl => va_iast X.1.1 X.1.2.1 X.2.1 hP hD hS q0 t0 ha ht hi hdg (fun H1 l1 hP1 hD1 hS1 => kk _ rfl H1 l1 ls (hw ▸ hP1) (hw ▸ hD1) hS1 hl)
/-- a boolean kept in an int -/
def isB (x : Int32) : Prop := x = 0 ∨ x = 1
theorem isB_0 : isB 0 := Or.inl rfl
theorem isB_1 : isB 1 := Or.inr rfl
theorem isB_nar {x : Int32} (h : isB x) : vp_nar .boolean x = x := by rcases h with rfl | rfl <;> rfl
theorem isB_nar2 {x : Int32} (h : isB x) : narrow .boolean (.int x) = .int x := by rcases h with rfl | rfl <;> rfl
theorem g_zast (X : Cx p s m args meth c cc nL own Ts D tys A H0 ret) (Wf : Mem → va_W) (v0 : Mem) (row : Nat) {a : Nat} (q0 t0 : Nat) {cA : ClassId} {n : Nat} {i x : Int32} (hdg : decode cc pc = .ok (.bastore, 1)) (ha : w[q0]? = some (a, .inl (cA, n, .inl (v0 row)))) (ht : tys[t0]? = some (cA, .boolean)) (hi : vp_in i n) (hx : isB x) (hw : w.set q0 (a, .inl (cA, n, .inl (upd (v0 row) i.toNatClampNeg x))) = Wf (mset v0 row i.toNatClampNeg x))
    (kk : ∀ z : Mem, z = mset v0 row i.toNatClampNeg x → GG p l e R s m args below meth c D A H0 nL Q (Wf z) k j lv (pc + 1) (st)) : GG p l e R s m args below meth c D A H0 nL Q w k j lv (pc) (.int x :: .int i :: .ref a :: st) := fun H locs ls hP hD hS hl => va_zast X.1.1 X.1.2.1 X.2.1 hP hD hS q0 t0 ha ht hi hdg (fun H1 l1 hP1 hD1 hS1 => kk _ rfl H1 l1 ls (by rw [isB_nar hx, hw] at hP1; exact hP1) (by rw [isB_nar hx, hw] at hD1; exact hD1) hS1 hl)
theorem g_aldq (X : Cx p s m args meth c cc nL own Ts D tys A H0 ret) {a : Nat} (q0 t0 : Nat) {cA : ClassId} {C : String} {n : Nat} {f : Nat → Option Nat} {i : Int32} {b : Nat} (hdg : decode cc pc = .ok (.aaload, 1)) (ha : w[q0]? = some (a, .inl (cA, n, .inr (.inr (.inr (.inr f)))))) (ht : tys[t0]? = some (cA, .object C)) (hi : vp_in i n) (hb : f i.toNatClampNeg = some b)
    (kk : GG p l e R s m args below meth c D A H0 nL Q w k j lv (pc + 1) (.ref b :: st)) : GG p l e R s m args below meth c D A H0 nL Q w k j lv (pc) (.int i :: .ref a :: st) := fun H locs ls hP hD hS hl => va_aldq X.1.1 X.1.2.1 X.2.1 hP q0 t0 ha ht hi hdg (by rw [hb]; exact kk H locs ls hP hD hS hl)
theorem g_aldg (X : Cx p s m args meth c cc nL own Ts D tys A H0 ret) {a : Nat} (q0 t0 : Nat) {cA : ClassId} {n : Nat} {f : Nat → Option Nat} {i : Int32} {b : Nat} (hdg : decode cc pc = .ok (.aaload, 1)) (ha : w[q0]? = some (a, .inl (cA, n, .inr (.inr (.inr (.inr f)))))) (ht : tys[t0]? = some (cA, .array .int)) (hi : vp_in i n) (hb : f i.toNatClampNeg = some b)
    (kk : GG p l e R s m args below meth c D A H0 nL Q w k j lv (pc + 1) (.ref b :: st)) : GG p l e R s m args below meth c D A H0 nL Q w k j lv (pc) (.int i :: .ref a :: st) := fun H locs ls hP hD hS hl => W.aald (v := va_rf (f i.toNatClampNeg)) (ty := .array .int) X.1.1 X.1.2.1 (hP q0 _ ha) ((X.2.1.2 t0 _ ht).1 n (fun j => va_rf (f j))) rfl (fun q => by cases q) (by show ¬ (i < 0 ∨ (arrV _ _ _).slots.size ≤ _); rw [arrV_size]; exact hi) (by show (arrV _ _ _).slots[_]? = _; rw [arrV_read _ _ (Nat.not_le.mp fun q => hi (Or.inr q))]) rfl rfl hdg (by rw [hb]; exact kk H locs ls hP hD hS hl)
theorem g_copy (X : Cx p s m args meth c cc nL own Ts D tys A H0 ret) (Wf : Mem → va_W) (v0 : Mem) (row : Nat) {sp0 dp0 n0v : Nat} {index a0 a : Nat} (q0 q1 t0 t1 : Nat) {c0 c1 : ClassId} {n0 n1 : Nat} {f : Nat → Int32} {sp dp n : Int32} (hw1 : Cond.methodLink own index arraycopyName ∈ Ts) (hw2 : Cond.native arraycopyName ∈ Ts) (hw3 : Cond.static arraycopyName ∈ Ts) (hw4 : Cond.initialized "java/lang/System" ∈ Ts) (hdg : decode cc pc = .ok (.invokestatic index, 3)) (ha0 : w[q0]? = some (a0, .inl (c0, n0, .inl f))) (ha1 : w[q1]? = some (a, .inl (c1, n1, .inl (v0 row)))) (ht0 : tys[t0]? = some (c0, .int)) (ht1 : tys[t1]? = some (c1, .int)) (h1 : ¬ sp < 0) (h2 : ¬ dp < 0) (h3 : ¬ n < 0) (e1 : sp.toNatClampNeg = sp0) (e2 : dp.toNatClampNeg = dp0) (e3 : n.toNatClampNeg = n0v) (h4 : sp0 + n0v ≤ n0) (h5 : dp0 + n0v ≤ n1) (hfr : 1 ≤ R.frames) (hlo : (st.map fun v => v.category).sum + (nativeFrameWords "java/lang/System" "arraycopy" 5 + 11) ≤ R.locals) (hw : w.set q1 (a, .inl (c1, n1, .inl (va_cpy f (v0 row) sp0 dp0 n0v))) = Wf (mrow v0 row (va_cpy f (v0 row) sp0 dp0 n0v)))
    (kk : ∀ z : Mem, z = mrow v0 row (va_cpy f (v0 row) sp0 dp0 n0v) → GG p l e R s m args below meth c D A H0 nL Q (Wf z) k j lv (pc + 3) (st)) : GG p l e R s m args below meth c D A H0 nL Q w k j lv (pc) (.int n :: .int dp :: .ref a :: .int sp :: .ref a0 :: st) := fun H locs ls hP hD hS hl => by
  subst e1 e2 e3
  exact va_copyi X.1.1 X.1.2.1 (X.1.2.2.1.trans hl.1.symm) X.1.2.2.2.1 (X.1.2.2.2.2 _ hw1) (X.1.2.2.2.2 _ hw2) (X.1.2.2.2.2 _ hw3) (X.1.2.2.2.2 _ hw4) X.2.1 hP hD hS q0 q1 t0 t1 ha0 ha1 ht0 ht1 rfl h1 h2 h3 h4 h5 (fun _ _ => rfl) hfr hlo hdg (fun H1 l1 hP1 hD1 hS1 => kk _ rfl H1 l1 ls (hw ▸ hP1) (hw ▸ hD1) hS1 hl)
theorem g_mmin (X : Cx p s m args meth c cc nL own Ts D tys A H0 ret) {index : Nat} {x y : Int32} (hw1 : Cond.methodLink own index Lib.Math.min.name ∈ Ts) (hw2 : Cond.static Lib.Math.min.name ∈ Ts) (hw3 : Cond.initialized "java/lang/Math" ∈ Ts) (hw4 : Cond.code Lib.Math.min.name Lib.Math.min.code 2 (some .int) ∈ Ts) (hdg : decode cc pc = .ok (.invokestatic index, 3)) (hfr : 1 ≤ R.frames) (hlo : (st.map fun v => v.category).sum + 13 ≤ R.locals) (hc : k ≤ R.cells) (hs : j ≤ R.slots)
    (kk : GG p l e R s m args below meth c D A H0 nL Q w k j lv (pc + 3) (.int (if y < x then y else x) :: st)) : GG p l e R s m args below meth c D A H0 nL Q w k j lv (pc) (.int y :: .int x :: st) := fun H locs ls hP hD hS hl => va_mmin X.1.1 X.1.2.1 (X.1.2.2.1.trans hl.1.symm) X.1.2.2.2.1 (X.1.2.2.2.2 _ hw1) (X.1.2.2.2.2 _ hw2) (X.1.2.2.2.2 _ hw3) (X.1.2.2.2.2 _ hw4) hfr hlo hc hs hdg (kk H locs ls hP hD hS hl)
theorem g_mmax (X : Cx p s m args meth c cc nL own Ts D tys A H0 ret) {index : Nat} {x y : Int32} (hw1 : Cond.methodLink own index Lib.Math.max.name ∈ Ts) (hw2 : Cond.static Lib.Math.max.name ∈ Ts) (hw3 : Cond.initialized "java/lang/Math" ∈ Ts) (hw4 : Cond.code Lib.Math.max.name Lib.Math.max.code 2 (some .int) ∈ Ts) (hdg : decode cc pc = .ok (.invokestatic index, 3)) (hfr : 1 ≤ R.frames) (hlo : (st.map fun v => v.category).sum + 13 ≤ R.locals) (hc : k ≤ R.cells) (hs : j ≤ R.slots)
    (kk : GG p l e R s m args below meth c D A H0 nL Q w k j lv (pc + 3) (.int (if x < y then y else x) :: st)) : GG p l e R s m args below meth c D A H0 nL Q w k j lv (pc) (.int y :: .int x :: st) := fun H locs ls hP hD hS hl => va_mmax X.1.1 X.1.2.1 (X.1.2.2.1.trans hl.1.symm) X.1.2.2.2.1 (X.1.2.2.2.2 _ hw1) (X.1.2.2.2.2 _ hw2) (X.1.2.2.2.2 _ hw3) (X.1.2.2.2.2 _ hw4) hfr hlo hc hs hdg (kk H locs ls hP hD hS hl)
theorem g_ldc (X : Cx p s m args meth c cc nL own Ts D tys A H0 ret) {index : Nat} {v : Int32} (hc : Cond.constant own index v ∈ Ts) (hdg : decode cc pc = .ok (.ldc index, 2))
    (kk : GG p l e R s m args below meth c D A H0 nL Q w k j lv (pc + 2) (.int v :: st)) : GG p l e R s m args below meth c D A H0 nL Q w k j lv (pc) (st) := fun H locs ls hP hD hS hl => lv_ldc X.1.1 X.1.2.1 X.1.2.2.2.1 (X.1.2.2.2.2 _ hc) hdg (kk H locs ls hP hD hS hl)
theorem g_ldcw (X : Cx p s m args meth c cc nL own Ts D tys A H0 ret) {index : Nat} {v : Int32} (hc : Cond.constant own index v ∈ Ts) (hdg : decode cc pc = .ok (.ldc_w index, 3))
    (kk : GG p l e R s m args below meth c D A H0 nL Q w k j lv (pc + 3) (.int v :: st)) : GG p l e R s m args below meth c D A H0 nL Q w k j lv (pc) (st) := fun H locs ls hP hD hS hl => lv_ldcw X.1.1 X.1.2.1 X.1.2.2.2.1 (X.1.2.2.2.2 _ hc) hdg (kk H locs ls hP hD hS hl)
theorem g_ldc2 (X : Cx p s m args meth c cc nL own Ts D tys A H0 ret) {index : Nat} {v : Int64} (hc : Cond.constantLong own index v ∈ Ts) (hdg : decode cc pc = .ok (.ldc2_w index, 3))
    (kk : GG p l e R s m args below meth c D A H0 nL Q w k j lv (pc + 3) (.long v :: st)) : GG p l e R s m args below meth c D A H0 nL Q w k j lv (pc) (st) := fun H locs ls hP hD hS hl => lv_ldc2 X.1.1 X.1.2.1 X.1.2.2.2.1 (X.1.2.2.2.2 _ hc) hdg (kk H locs ls hP hD hS hl)
theorem g_ldc2d (X : Cx p s m args meth c cc nL own Ts D tys A H0 ret) {index : Nat} {v : UInt64} (hc : Cond.constantDouble own index v ∈ Ts) (hdg : decode cc pc = .ok (.ldc2_w index, 3))
    (kk : GG p l e R s m args below meth c D A H0 nL Q w k j lv (pc + 3) (.double v :: st)) : GG p l e R s m args below meth c D A H0 nL Q w k j lv (pc) (st) := fun H locs ls hP hD hS hl => lv_ldc2d X.1.1 X.1.2.1 X.1.2.2.2.1 (X.1.2.2.2.2 _ hc) hdg (kk H locs ls hP hD hS hl)
theorem g_iushr (X : Cx p s m args meth c cc nL own Ts D tys A H0 ret) {x y : Int32} (hdg : decode cc pc = .ok (.iushr, 1))
    (kk : GG p l e R s m args below meth c D A H0 nL Q w k j lv (pc + 1) (.int ((x.toUInt32 >>> (y.toUInt32 &&& Int32.toUInt32 31)).toInt32) :: st)) : GG p l e R s m args below meth c D A H0 nL Q w k j lv (pc) (.int y :: .int x :: st) := fun H locs ls hP hD hS hl => lv_iushr X.1.1 X.1.2.1 hdg rfl (kk H locs ls hP hD hS hl)
theorem g_ciV (X : Cx p s m args meth c cc nL own Ts D tys A H0 ret) {S : Type} {post : Int32 → S → Prop} {wf : S → va_W} {y : MethodName} {ws : List Cond} {rm : Room} {mc ms maxL index nn : Nat} {bytes : ByteArray} {rt : Option FieldType} {C : String} {b : Nat} {As : List Value} {wc : va_W} {st0 : List Value} (bs : List va_W) (b2 : S → List va_W) (W2 : S → va_W) (n : Nat) (isC isR : List Nat) (q0 : Nat) {ci : Nat} {qc : vw_C} {fs : List Value}
    (hM : Ci l y ws rm D tys (.ref b :: As) wc post wf mc ms) (cw : CallW R s args own C index y bytes maxL rt ws rm mc ms nn) (hdg : decode cc pc = .ok (.invokevirtual index, 3)) (hst : st0 = As.reverse ++ .ref b :: st) (hlen : As.length = nn) (hroom : (st.map fun v => v.category).sum ≤ 8) (hf : k + mc ≤ R.cells ∧ j + ms ≤ R.slots) (h1 : w = fl bs) (h2 : wc = fl (isC.filterMap (fun i => bs[i]?))) (hn : bs.length = n) (hp : (isC ++ isR).isPerm (List.range n) = true) (h3 : ∀ u : S, wf u = fl (isC.filterMap (fun i => (b2 u)[i]?))) (h4 : ∀ u : S, isR.filterMap (fun i => (b2 u)[i]?) = isR.filterMap (fun i => bs[i]?)) (h5 : ∀ u : S, (b2 u).length = n) (h6 : ∀ u : S, fl (b2 u) = W2 u) (hci : vwCl[ci]? = some qc) (hCq : qc.1 = C) (hrc : wc[q0]? = some (b, .inr (ci, fs)))
    (kk : ∀ (r : Int32) (u : S), post r u → GG p l e R s m args below meth c D A H0 nL Q (W2 u) (k + mc) (j + ms) lv (pc + 3) (.int r :: st)) : GG p l e R s m args below meth c D A H0 nL Q w k j lv (pc) (st0) := by
  intro H locs ls hP hD hS hl
  subst hst
  have hpm : w.Perm (wc ++ fl (isR.filterMap (fun i => bs[i]?))) := by rw [h1, h2]; exact wd_pick bs isC isR hn hp
  obtain ⟨hPc, hDc⟩ := wd_L hpm hP hD
  have hF := wd_free hpm hD hS X.2.2.1
  refine va_calli (va_runV X.1 (hM H.size) cw ⟨(fun a U g mk h => by obtain ⟨z1, z2, z3, z4, z5⟩ := h; exact ⟨z1, z2, z3, va_K.moved (u := U) (U := U.calling g mk a) (Vm.Alike.refl U.vm) z4, z5⟩), by rw [← hCq]; exact va_recv X.2.1 hPc hci hrc, (fun U hU hW => ⟨rfl, by rw [hU], by rw [hU]; exact hPc, va_K.moved hW.alike X.2.1, hDc.weaken (fun _ _ _ _ => trivial)⟩)⟩ rfl hlen hl.1 rfl (lv_room hroom) hdg hf) hS (fun q _ h => hF q h) hF (fun r u t H1 l1 ht hvm hw hB hz1 hk1 hS2 => ?_)
  obtain ⟨hB1, hB2, hB3⟩ := hB
  have hpm2 : (W2 u).Perm (wf u ++ fl (isR.filterMap (fun i => bs[i]?))) := by rw [← h6 u, h3 u, ← h4 u]; exact wd_pick (b2 u) isC isR (h5 u) hp
  obtain ⟨hP2, hD2⟩ := wd_back hpm hpm2 hP hD hk1 hF (by rw [ht] at hB1; exact hB1) hB3
  exact kk r u hw H1 l1 ls hP2 hD2 hS2 hl
theorem g_ciS (X : Cx p s m args meth c cc nL own Ts D tys A H0 ret) {S : Type} {post : Int32 → S → Prop} {wf : S → va_W} {y : MethodName} {ws : List Cond} {rm : Room} {mc ms maxL index nn : Nat} {bytes : ByteArray} {rt : Option FieldType}  {As : List Value} {wc : va_W} {st0 : List Value} (bs : List va_W) (b2 : S → List va_W) (W2 : S → va_W) (n : Nat) (isC isR : List Nat) 
    (hM : Ci l y ws rm D tys (As) wc post wf mc ms) (cw : CallB R s args own index y bytes maxL rt ws rm mc ms nn ∧ (Cond.static y).before args s = true) (hdg : decode cc pc = .ok (.invokestatic index, 3)) (hst : st0 = As.reverse ++ st) (hlen : As.length = nn) (hroom : (st.map fun v => v.category).sum ≤ 8) (hf : k + mc ≤ R.cells ∧ j + ms ≤ R.slots) (h1 : w = fl bs) (h2 : wc = fl (isC.filterMap (fun i => bs[i]?))) (hn : bs.length = n) (hp : (isC ++ isR).isPerm (List.range n) = true) (h3 : ∀ u : S, wf u = fl (isC.filterMap (fun i => (b2 u)[i]?))) (h4 : ∀ u : S, isR.filterMap (fun i => (b2 u)[i]?) = isR.filterMap (fun i => bs[i]?)) (h5 : ∀ u : S, (b2 u).length = n) (h6 : ∀ u : S, fl (b2 u) = W2 u) 
    (kk : ∀ (r : Int32) (u : S), post r u → GG p l e R s m args below meth c D A H0 nL Q (W2 u) (k + mc) (j + ms) lv (pc + 3) (.int r :: st)) : GG p l e R s m args below meth c D A H0 nL Q w k j lv (pc) (st0) := by
  intro H locs ls hP hD hS hl
  subst hst
  have hpm : w.Perm (wc ++ fl (isR.filterMap (fun i => bs[i]?))) := by rw [h1, h2]; exact wd_pick bs isC isR hn hp
  obtain ⟨hPc, hDc⟩ := wd_L hpm hP hD
  have hF := wd_free hpm hD hS X.2.2.1
  refine va_calli (va_runS X.1 (hM H.size) cw ⟨(fun a U g mk h => by obtain ⟨z1, z2, z3, z4, z5⟩ := h; exact ⟨z1, z2, z3, va_K.moved (u := U) (U := U.calling g mk a) (Vm.Alike.refl U.vm) z4, z5⟩), (fun U hU hW => ⟨rfl, by rw [hU], by rw [hU]; exact hPc, va_K.moved hW.alike X.2.1, hDc.weaken (fun _ _ _ _ => trivial)⟩)⟩ rfl hlen hl.1 rfl (lv_room hroom) hdg hf) hS (fun q _ h => hF q h) hF (fun r u t H1 l1 ht hvm hw hB hz1 hk1 hS2 => ?_)
  obtain ⟨hB1, hB2, hB3⟩ := hB
  have hpm2 : (W2 u).Perm (wf u ++ fl (isR.filterMap (fun i => bs[i]?))) := by rw [← h6 u, h3 u, ← h4 u]; exact wd_pick (b2 u) isC isR (h5 u) hp
  obtain ⟨hP2, hD2⟩ := wd_back hpm hpm2 hP hD hk1 hF (by rw [ht] at hB1; exact hB1) hB3
  exact kk r u hw H1 l1 ls hP2 hD2 hS2 hl
theorem g_clV (X : Cx p s m args meth c cc nL own Ts D tys A H0 ret) {S : Type} {post : Int64 → S → Prop} {wf : S → va_W} {y : MethodName} {ws : List Cond} {rm : Room} {mc ms maxL index nn : Nat} {bytes : ByteArray} {rt : Option FieldType} {C : String} {b : Nat} {As : List Value} {wc : va_W} {st0 : List Value} (bs : List va_W) (b2 : S → List va_W) (W2 : S → va_W) (n : Nat) (isC isR : List Nat) (q0 : Nat) {ci : Nat} {qc : vw_C} {fs : List Value}
    (hM : Cl l y ws rm D tys (.ref b :: As) wc post wf mc ms) (cw : CallW R s args own C index y bytes maxL rt ws rm mc ms nn) (hdg : decode cc pc = .ok (.invokevirtual index, 3)) (hst : st0 = As.reverse ++ .ref b :: st) (hlen : As.length = nn) (hroom : (st.map fun v => v.category).sum ≤ 8) (hf : k + mc ≤ R.cells ∧ j + ms ≤ R.slots) (h1 : w = fl bs) (h2 : wc = fl (isC.filterMap (fun i => bs[i]?))) (hn : bs.length = n) (hp : (isC ++ isR).isPerm (List.range n) = true) (h3 : ∀ u : S, wf u = fl (isC.filterMap (fun i => (b2 u)[i]?))) (h4 : ∀ u : S, isR.filterMap (fun i => (b2 u)[i]?) = isR.filterMap (fun i => bs[i]?)) (h5 : ∀ u : S, (b2 u).length = n) (h6 : ∀ u : S, fl (b2 u) = W2 u) (hci : vwCl[ci]? = some qc) (hCq : qc.1 = C) (hrc : wc[q0]? = some (b, .inr (ci, fs)))
    (kk : ∀ (r : Int64) (u : S), post r u → GG p l e R s m args below meth c D A H0 nL Q (W2 u) (k + mc) (j + ms) lv (pc + 3) (.long r :: st)) : GG p l e R s m args below meth c D A H0 nL Q w k j lv (pc) (st0) := by
  intro H locs ls hP hD hS hl
  subst hst
  have hpm : w.Perm (wc ++ fl (isR.filterMap (fun i => bs[i]?))) := by rw [h1, h2]; exact wd_pick bs isC isR hn hp
  obtain ⟨hPc, hDc⟩ := wd_L hpm hP hD
  have hF := wd_free hpm hD hS X.2.2.1
  refine va_calll (va_runV X.1 (hM H.size) cw ⟨(fun a U g mk h => by obtain ⟨z1, z2, z3, z4, z5⟩ := h; exact ⟨z1, z2, z3, va_K.moved (u := U) (U := U.calling g mk a) (Vm.Alike.refl U.vm) z4, z5⟩), by rw [← hCq]; exact va_recv X.2.1 hPc hci hrc, (fun U hU hW => ⟨rfl, by rw [hU], by rw [hU]; exact hPc, va_K.moved hW.alike X.2.1, hDc.weaken (fun _ _ _ _ => trivial)⟩)⟩ rfl hlen hl.1 rfl (lv_room hroom) hdg hf) hS (fun q _ h => hF q h) hF (fun r u t H1 l1 ht hvm hw hB hz1 hk1 hS2 => ?_)
  obtain ⟨hB1, hB2, hB3⟩ := hB
  have hpm2 : (W2 u).Perm (wf u ++ fl (isR.filterMap (fun i => bs[i]?))) := by rw [← h6 u, h3 u, ← h4 u]; exact wd_pick (b2 u) isC isR (h5 u) hp
  obtain ⟨hP2, hD2⟩ := wd_back hpm hpm2 hP hD hk1 hF (by rw [ht] at hB1; exact hB1) hB3
  exact kk r u hw H1 l1 ls hP2 hD2 hS2 hl
theorem g_clS (X : Cx p s m args meth c cc nL own Ts D tys A H0 ret) {S : Type} {post : Int64 → S → Prop} {wf : S → va_W} {y : MethodName} {ws : List Cond} {rm : Room} {mc ms maxL index nn : Nat} {bytes : ByteArray} {rt : Option FieldType}  {As : List Value} {wc : va_W} {st0 : List Value} (bs : List va_W) (b2 : S → List va_W) (W2 : S → va_W) (n : Nat) (isC isR : List Nat) 
    (hM : Cl l y ws rm D tys (As) wc post wf mc ms) (cw : CallB R s args own index y bytes maxL rt ws rm mc ms nn ∧ (Cond.static y).before args s = true) (hdg : decode cc pc = .ok (.invokestatic index, 3)) (hst : st0 = As.reverse ++ st) (hlen : As.length = nn) (hroom : (st.map fun v => v.category).sum ≤ 8) (hf : k + mc ≤ R.cells ∧ j + ms ≤ R.slots) (h1 : w = fl bs) (h2 : wc = fl (isC.filterMap (fun i => bs[i]?))) (hn : bs.length = n) (hp : (isC ++ isR).isPerm (List.range n) = true) (h3 : ∀ u : S, wf u = fl (isC.filterMap (fun i => (b2 u)[i]?))) (h4 : ∀ u : S, isR.filterMap (fun i => (b2 u)[i]?) = isR.filterMap (fun i => bs[i]?)) (h5 : ∀ u : S, (b2 u).length = n) (h6 : ∀ u : S, fl (b2 u) = W2 u) 
    (kk : ∀ (r : Int64) (u : S), post r u → GG p l e R s m args below meth c D A H0 nL Q (W2 u) (k + mc) (j + ms) lv (pc + 3) (.long r :: st)) : GG p l e R s m args below meth c D A H0 nL Q w k j lv (pc) (st0) := by
  intro H locs ls hP hD hS hl
  subst hst
  have hpm : w.Perm (wc ++ fl (isR.filterMap (fun i => bs[i]?))) := by rw [h1, h2]; exact wd_pick bs isC isR hn hp
  obtain ⟨hPc, hDc⟩ := wd_L hpm hP hD
  have hF := wd_free hpm hD hS X.2.2.1
  refine va_calll (va_runS X.1 (hM H.size) cw ⟨(fun a U g mk h => by obtain ⟨z1, z2, z3, z4, z5⟩ := h; exact ⟨z1, z2, z3, va_K.moved (u := U) (U := U.calling g mk a) (Vm.Alike.refl U.vm) z4, z5⟩), (fun U hU hW => ⟨rfl, by rw [hU], by rw [hU]; exact hPc, va_K.moved hW.alike X.2.1, hDc.weaken (fun _ _ _ _ => trivial)⟩)⟩ rfl hlen hl.1 rfl (lv_room hroom) hdg hf) hS (fun q _ h => hF q h) hF (fun r u t H1 l1 ht hvm hw hB hz1 hk1 hS2 => ?_)
  obtain ⟨hB1, hB2, hB3⟩ := hB
  have hpm2 : (W2 u).Perm (wf u ++ fl (isR.filterMap (fun i => bs[i]?))) := by rw [← h6 u, h3 u, ← h4 u]; exact wd_pick (b2 u) isC isR (h5 u) hp
  obtain ⟨hP2, hD2⟩ := wd_back hpm hpm2 hP hD hk1 hF (by rw [ht] at hB1; exact hB1) hB3
  exact kk r u hw H1 l1 ls hP2 hD2 hS2 hl
theorem g_cdV (X : Cx p s m args meth c cc nL own Ts D tys A H0 ret) {S : Type} {post : UInt64 → S → Prop} {wf : S → va_W} {y : MethodName} {ws : List Cond} {rm : Room} {mc ms maxL index nn : Nat} {bytes : ByteArray} {rt : Option FieldType} {C : String} {b : Nat} {As : List Value} {wc : va_W} {st0 : List Value} (bs : List va_W) (b2 : S → List va_W) (W2 : S → va_W) (n : Nat) (isC isR : List Nat) (q0 : Nat) {ci : Nat} {qc : vw_C} {fs : List Value}
    (hM : Cd l y ws rm D tys (.ref b :: As) wc post wf mc ms) (cw : CallW R s args own C index y bytes maxL rt ws rm mc ms nn) (hdg : decode cc pc = .ok (.invokevirtual index, 3)) (hst : st0 = As.reverse ++ .ref b :: st) (hlen : As.length = nn) (hroom : (st.map fun v => v.category).sum ≤ 8) (hf : k + mc ≤ R.cells ∧ j + ms ≤ R.slots) (h1 : w = fl bs) (h2 : wc = fl (isC.filterMap (fun i => bs[i]?))) (hn : bs.length = n) (hp : (isC ++ isR).isPerm (List.range n) = true) (h3 : ∀ u : S, wf u = fl (isC.filterMap (fun i => (b2 u)[i]?))) (h4 : ∀ u : S, isR.filterMap (fun i => (b2 u)[i]?) = isR.filterMap (fun i => bs[i]?)) (h5 : ∀ u : S, (b2 u).length = n) (h6 : ∀ u : S, fl (b2 u) = W2 u) (hci : vwCl[ci]? = some qc) (hCq : qc.1 = C) (hrc : wc[q0]? = some (b, .inr (ci, fs)))
    (kk : ∀ (r : UInt64) (u : S), post r u → GG p l e R s m args below meth c D A H0 nL Q (W2 u) (k + mc) (j + ms) lv (pc + 3) (.double r :: st)) : GG p l e R s m args below meth c D A H0 nL Q w k j lv (pc) (st0) := by
  intro H locs ls hP hD hS hl
  subst hst
  have hpm : w.Perm (wc ++ fl (isR.filterMap (fun i => bs[i]?))) := by rw [h1, h2]; exact wd_pick bs isC isR hn hp
  obtain ⟨hPc, hDc⟩ := wd_L hpm hP hD
  have hF := wd_free hpm hD hS X.2.2.1
  refine va_calld (va_runV X.1 (hM H.size) cw ⟨(fun a U g mk h => by obtain ⟨z1, z2, z3, z4, z5⟩ := h; exact ⟨z1, z2, z3, va_K.moved (u := U) (U := U.calling g mk a) (Vm.Alike.refl U.vm) z4, z5⟩), by rw [← hCq]; exact va_recv X.2.1 hPc hci hrc, (fun U hU hW => ⟨rfl, by rw [hU], by rw [hU]; exact hPc, va_K.moved hW.alike X.2.1, hDc.weaken (fun _ _ _ _ => trivial)⟩)⟩ rfl hlen hl.1 rfl (lv_room hroom) hdg hf) hS (fun q _ h => hF q h) hF (fun r u t H1 l1 ht hvm hw hB hz1 hk1 hS2 => ?_)
  obtain ⟨hB1, hB2, hB3⟩ := hB
  have hpm2 : (W2 u).Perm (wf u ++ fl (isR.filterMap (fun i => bs[i]?))) := by rw [← h6 u, h3 u, ← h4 u]; exact wd_pick (b2 u) isC isR (h5 u) hp
  obtain ⟨hP2, hD2⟩ := wd_back hpm hpm2 hP hD hk1 hF (by rw [ht] at hB1; exact hB1) hB3
  exact kk r u hw H1 l1 ls hP2 hD2 hS2 hl
theorem g_cdS (X : Cx p s m args meth c cc nL own Ts D tys A H0 ret) {S : Type} {post : UInt64 → S → Prop} {wf : S → va_W} {y : MethodName} {ws : List Cond} {rm : Room} {mc ms maxL index nn : Nat} {bytes : ByteArray} {rt : Option FieldType}  {As : List Value} {wc : va_W} {st0 : List Value} (bs : List va_W) (b2 : S → List va_W) (W2 : S → va_W) (n : Nat) (isC isR : List Nat) 
    (hM : Cd l y ws rm D tys (As) wc post wf mc ms) (cw : CallB R s args own index y bytes maxL rt ws rm mc ms nn ∧ (Cond.static y).before args s = true) (hdg : decode cc pc = .ok (.invokestatic index, 3)) (hst : st0 = As.reverse ++ st) (hlen : As.length = nn) (hroom : (st.map fun v => v.category).sum ≤ 8) (hf : k + mc ≤ R.cells ∧ j + ms ≤ R.slots) (h1 : w = fl bs) (h2 : wc = fl (isC.filterMap (fun i => bs[i]?))) (hn : bs.length = n) (hp : (isC ++ isR).isPerm (List.range n) = true) (h3 : ∀ u : S, wf u = fl (isC.filterMap (fun i => (b2 u)[i]?))) (h4 : ∀ u : S, isR.filterMap (fun i => (b2 u)[i]?) = isR.filterMap (fun i => bs[i]?)) (h5 : ∀ u : S, (b2 u).length = n) (h6 : ∀ u : S, fl (b2 u) = W2 u) 
    (kk : ∀ (r : UInt64) (u : S), post r u → GG p l e R s m args below meth c D A H0 nL Q (W2 u) (k + mc) (j + ms) lv (pc + 3) (.double r :: st)) : GG p l e R s m args below meth c D A H0 nL Q w k j lv (pc) (st0) := by
  intro H locs ls hP hD hS hl
  subst hst
  have hpm : w.Perm (wc ++ fl (isR.filterMap (fun i => bs[i]?))) := by rw [h1, h2]; exact wd_pick bs isC isR hn hp
  obtain ⟨hPc, hDc⟩ := wd_L hpm hP hD
  have hF := wd_free hpm hD hS X.2.2.1
  refine va_calld (va_runS X.1 (hM H.size) cw ⟨(fun a U g mk h => by obtain ⟨z1, z2, z3, z4, z5⟩ := h; exact ⟨z1, z2, z3, va_K.moved (u := U) (U := U.calling g mk a) (Vm.Alike.refl U.vm) z4, z5⟩), (fun U hU hW => ⟨rfl, by rw [hU], by rw [hU]; exact hPc, va_K.moved hW.alike X.2.1, hDc.weaken (fun _ _ _ _ => trivial)⟩)⟩ rfl hlen hl.1 rfl (lv_room hroom) hdg hf) hS (fun q _ h => hF q h) hF (fun r u t H1 l1 ht hvm hw hB hz1 hk1 hS2 => ?_)
  obtain ⟨hB1, hB2, hB3⟩ := hB
  have hpm2 : (W2 u).Perm (wf u ++ fl (isR.filterMap (fun i => bs[i]?))) := by rw [← h6 u, h3 u, ← h4 u]; exact wd_pick (b2 u) isC isR (h5 u) hp
  obtain ⟨hP2, hD2⟩ := wd_back hpm hpm2 hP hD hk1 hF (by rw [ht] at hB1; exact hB1) hB3
  exact kk r u hw H1 l1 ls hP2 hD2 hS2 hl
theorem g_cvV (X : Cx p s m args meth c cc nL own Ts D tys A H0 ret) {S : Type} {post : S → Prop} {wf : S → va_W} {y : MethodName} {ws : List Cond} {rm : Room} {mc ms maxL index nn : Nat} {bytes : ByteArray} {rt : Option FieldType} {C : String} {b : Nat} {As : List Value} {wc : va_W} {st0 : List Value} (bs : List va_W) (b2 : S → List va_W) (W2 : S → va_W) (n : Nat) (isC isR : List Nat) (q0 : Nat) {ci : Nat} {qc : vw_C} {fs : List Value}
    (hM : Cv l y ws rm D tys (.ref b :: As) wc post wf mc ms) (cw : CallW R s args own C index y bytes maxL rt ws rm mc ms nn) (hdg : decode cc pc = .ok (.invokevirtual index, 3)) (hst : st0 = As.reverse ++ .ref b :: st) (hlen : As.length = nn) (hroom : (st.map fun v => v.category).sum ≤ 8) (hf : k + mc ≤ R.cells ∧ j + ms ≤ R.slots) (h1 : w = fl bs) (h2 : wc = fl (isC.filterMap (fun i => bs[i]?))) (hn : bs.length = n) (hp : (isC ++ isR).isPerm (List.range n) = true) (h3 : ∀ u : S, wf u = fl (isC.filterMap (fun i => (b2 u)[i]?))) (h4 : ∀ u : S, isR.filterMap (fun i => (b2 u)[i]?) = isR.filterMap (fun i => bs[i]?)) (h5 : ∀ u : S, (b2 u).length = n) (h6 : ∀ u : S, fl (b2 u) = W2 u) (hci : vwCl[ci]? = some qc) (hCq : qc.1 = C) (hrc : wc[q0]? = some (b, .inr (ci, fs)))
    (kk : ∀ (u : S), post u → GG p l e R s m args below meth c D A H0 nL Q (W2 u) (k + mc) (j + ms) lv (pc + 3) (st)) : GG p l e R s m args below meth c D A H0 nL Q w k j lv (pc) (st0) := by
  intro H locs ls hP hD hS hl
  subst hst
  have hpm : w.Perm (wc ++ fl (isR.filterMap (fun i => bs[i]?))) := by rw [h1, h2]; exact wd_pick bs isC isR hn hp
  obtain ⟨hPc, hDc⟩ := wd_L hpm hP hD
  have hF := wd_free hpm hD hS X.2.2.1
  refine va_callv (va_runV X.1 (hM H.size) cw ⟨(fun a U g mk h => by obtain ⟨z1, z2, z3, z4, z5⟩ := h; exact ⟨z1, z2, z3, va_K.moved (u := U) (U := U.calling g mk a) (Vm.Alike.refl U.vm) z4, z5⟩), by rw [← hCq]; exact va_recv X.2.1 hPc hci hrc, (fun U hU hW => ⟨rfl, by rw [hU], by rw [hU]; exact hPc, va_K.moved hW.alike X.2.1, hDc.weaken (fun _ _ _ _ => trivial)⟩)⟩ rfl hlen hl.1 rfl (lv_room hroom) hdg hf) hS (fun q _ h => hF q h) hF (fun u t H1 l1 ht hvm hw hB hz1 hk1 hS2 => ?_)
  obtain ⟨hB1, hB2, hB3⟩ := hB
  have hpm2 : (W2 u).Perm (wf u ++ fl (isR.filterMap (fun i => bs[i]?))) := by rw [← h6 u, h3 u, ← h4 u]; exact wd_pick (b2 u) isC isR (h5 u) hp
  obtain ⟨hP2, hD2⟩ := wd_back hpm hpm2 hP hD hk1 hF (by rw [ht] at hB1; exact hB1) hB3
  exact kk u hw H1 l1 ls hP2 hD2 hS2 hl
theorem g_cvS (X : Cx p s m args meth c cc nL own Ts D tys A H0 ret) {S : Type} {post : S → Prop} {wf : S → va_W} {y : MethodName} {ws : List Cond} {rm : Room} {mc ms maxL index nn : Nat} {bytes : ByteArray} {rt : Option FieldType}  {As : List Value} {wc : va_W} {st0 : List Value} (bs : List va_W) (b2 : S → List va_W) (W2 : S → va_W) (n : Nat) (isC isR : List Nat) 
    (hM : Cv l y ws rm D tys (As) wc post wf mc ms) (cw : CallB R s args own index y bytes maxL rt ws rm mc ms nn ∧ (Cond.static y).before args s = true) (hdg : decode cc pc = .ok (.invokestatic index, 3)) (hst : st0 = As.reverse ++ st) (hlen : As.length = nn) (hroom : (st.map fun v => v.category).sum ≤ 8) (hf : k + mc ≤ R.cells ∧ j + ms ≤ R.slots) (h1 : w = fl bs) (h2 : wc = fl (isC.filterMap (fun i => bs[i]?))) (hn : bs.length = n) (hp : (isC ++ isR).isPerm (List.range n) = true) (h3 : ∀ u : S, wf u = fl (isC.filterMap (fun i => (b2 u)[i]?))) (h4 : ∀ u : S, isR.filterMap (fun i => (b2 u)[i]?) = isR.filterMap (fun i => bs[i]?)) (h5 : ∀ u : S, (b2 u).length = n) (h6 : ∀ u : S, fl (b2 u) = W2 u) 
    (kk : ∀ (u : S), post u → GG p l e R s m args below meth c D A H0 nL Q (W2 u) (k + mc) (j + ms) lv (pc + 3) (st)) : GG p l e R s m args below meth c D A H0 nL Q w k j lv (pc) (st0) := by
  intro H locs ls hP hD hS hl
  subst hst
  have hpm : w.Perm (wc ++ fl (isR.filterMap (fun i => bs[i]?))) := by rw [h1, h2]; exact wd_pick bs isC isR hn hp
  obtain ⟨hPc, hDc⟩ := wd_L hpm hP hD
  have hF := wd_free hpm hD hS X.2.2.1
  refine va_callv (va_runS X.1 (hM H.size) cw ⟨(fun a U g mk h => by obtain ⟨z1, z2, z3, z4, z5⟩ := h; exact ⟨z1, z2, z3, va_K.moved (u := U) (U := U.calling g mk a) (Vm.Alike.refl U.vm) z4, z5⟩), (fun U hU hW => ⟨rfl, by rw [hU], by rw [hU]; exact hPc, va_K.moved hW.alike X.2.1, hDc.weaken (fun _ _ _ _ => trivial)⟩)⟩ rfl hlen hl.1 rfl (lv_room hroom) hdg hf) hS (fun q _ h => hF q h) hF (fun u t H1 l1 ht hvm hw hB hz1 hk1 hS2 => ?_)
  obtain ⟨hB1, hB2, hB3⟩ := hB
  have hpm2 : (W2 u).Perm (wf u ++ fl (isR.filterMap (fun i => bs[i]?))) := by rw [← h6 u, h3 u, ← h4 u]; exact wd_pick (b2 u) isC isR (h5 u) hp
  obtain ⟨hP2, hD2⟩ := wd_back hpm hpm2 hP hD hk1 hF (by rw [ht] at hB1; exact hB1) hB3
  exact kk u hw H1 l1 ls hP2 hD2 hS2 hl
theorem g_iret {S : Type} {post : Int32 → S → Prop} {wf : S → va_W} {mc ms : Nat} (X : Cx p s m args meth c cc nL own Ts D tys A s.heap (some .int)) {v : Int32} (u : S) (hp : post v u) (hw : w = wf u) (hk : k ≤ mc) (hj : j ≤ ms) (hdg : decode cc pc = .ok (.ireturn, 1)) : GG p l e R s m args below meth c D A s.heap nL (MQ below (va_Qi post (fun u t => Af D tys A (wf u) t) A) args s mc ms A) w k j lv pc [.int v] := fun H locs ls hP hD hS hl => W.widen hk hj (W.iret X.1.1 X.1.2.1 X.2.2.2.1 (fun t ht hW => ⟨⟨v, u, rfl, hp, by rw [ht]; exact hw ▸ hP, va_K.moved hW.alike X.2.1, hw ▸ hD⟩, hS.F ht⟩) hS.2.2 hdg X.2.2.2.2)
theorem g_lret {S : Type} {post : Int64 → S → Prop} {wf : S → va_W} {mc ms : Nat} (X : Cx p s m args meth c cc nL own Ts D tys A s.heap (some .long)) {v : Int64} (u : S) (hp : post v u) (hw : w = wf u) (hk : k ≤ mc) (hj : j ≤ ms) (hdg : decode cc pc = .ok (.lreturn, 1)) : GG p l e R s m args below meth c D A s.heap nL (MQ below (va_Ql post (fun u t => Af D tys A (wf u) t) A) args s mc ms A) w k j lv pc [.long v] := fun H locs ls hP hD hS hl => W.widen hk hj (W.lret X.1.1 X.1.2.1 X.2.2.2.1 (fun t ht hW => ⟨⟨v, u, rfl, hp, by rw [ht]; exact hw ▸ hP, va_K.moved hW.alike X.2.1, hw ▸ hD⟩, hS.F ht⟩) hS.2.2 hdg X.2.2.2.2)
theorem g_dret {S : Type} {post : UInt64 → S → Prop} {wf : S → va_W} {mc ms : Nat} (X : Cx p s m args meth c cc nL own Ts D tys A s.heap (some .double)) {v : UInt64} (u : S) (hp : post v u) (hw : w = wf u) (hk : k ≤ mc) (hj : j ≤ ms) (hdg : decode cc pc = .ok (.dreturn, 1)) : GG p l e R s m args below meth c D A s.heap nL (MQ below (va_Qd post (fun u t => Af D tys A (wf u) t) A) args s mc ms A) w k j lv pc [.double v] := fun H locs ls hP hD hS hl => W.widen hk hj (W.dret X.1.1 X.1.2.1 X.2.2.2.1 (fun t ht hW => ⟨⟨v, u, rfl, hp, by rw [ht]; exact hw ▸ hP, va_K.moved hW.alike X.2.1, hw ▸ hD⟩, hS.F ht⟩) hS.2.2 hdg X.2.2.2.2)
theorem g_vret {S : Type} {post : S → Prop} {wf : S → va_W} {mc ms : Nat} (X : Cx p s m args meth c cc nL own Ts D tys A s.heap (none)) (u : S) (hp : post u) (hw : w = wf u) (hk : k ≤ mc) (hj : j ≤ ms) (hdg : decode cc pc = .ok (.return_, 1)) : GG p l e R s m args below meth c D A s.heap nL (MQ below (va_Qv post (fun u t => Af D tys A (wf u) t) A) args s mc ms A) w k j lv pc [] := fun H locs ls hP hD hS hl => W.widen hk hj (W.vret X.1.1 X.1.2.1 X.2.2.2.1 (fun t ht hW => ⟨⟨u, rfl, hp, by rw [ht]; exact hw ▸ hP, va_K.moved hW.alike X.2.1, hw ▸ hD⟩, hS.F ht⟩) hS.2.2 hdg X.2.2.2.2)
theorem g_zret {S : Type} {post : Int32 → S → Prop} {wf : S → va_W} {mc ms : Nat} (X : Cx p s m args meth c cc nL own Ts D tys A s.heap (some .boolean)) {v : Int32} (u : S) (hb : isB v) (hp : post v u) (hw : w = wf u) (hk : k ≤ mc) (hj : j ≤ ms) (hdg : decode cc pc = .ok (.ireturn, 1)) : GG p l e R s m args below meth c D A s.heap nL (MQ below (va_Qi post (fun u t => Af D tys A (wf u) t) A) args s mc ms A) w k j lv pc [.int v] := fun H locs ls hP hD hS hl => W.widen hk hj (W.zret X.1.1 X.1.2.1 X.2.2.2.1 (isB_nar2 hb) (fun t ht hW => ⟨⟨v, u, rfl, hp, by rw [ht]; exact hw ▸ hP, va_K.moved hW.alike X.2.1, hw ▸ hD⟩, hS.F ht⟩) hS.2.2 hdg X.2.2.2.2)
/-- a method's beginning -/
theorem g_of {y : MethodName} {ws ws2 : List Cond} {rm : Room} {av : List Value} {w0 : va_W} {sz : Nat} {Qc : Array Value → State → Outcome → State → Prop} {mc ms maxL : Nat} {bytes : ByteArray} (hy : plainName y.cls = true) (hws : ws = Cond.code y bytes maxL ret :: ws2) (hcls : y.cls = own) (hn : (lg_sl av).length ≤ maxL) (lv0 : List (Nat × Value)) (hlv : lv_args 0 av = lv0)
    (body : ∀ (p : Program) (e : Env) (s : State) (m : MethodId) (args : Array Value) (below : List Frame) (meth : Method) (c : Code), sz = s.heap.size → Cx p s m args meth c bytes maxL own ws D tys (va_A w0 s.heap.size) s.heap ret → GG p l e rm s m args below meth c D (va_A w0 s.heap.size) s.heap maxL (MQ below Qc args s mc ms (va_A w0 sz)) w0 0 0 lv0 0 []) : Met l y ws rm (va_Pc av (Bf D tys w0 sz)) Qc mc ms (va_A w0 sz) := by
  refine Met.ofW (cc := bytes) (maxL := maxL) (ret := ret) hy hws ?_
  intro p e s m args below meth c s₁ B hml hv
  obtain ⟨hav, hsz, hP, hK, hD0⟩ := hv
  subst hav
  subst hlv
  have hown : s.vm.findClass own = some m.cls := by rw [← hcls]; exact findClass_of_methodNamed B.named
  have h := body p e s m av.toArray below meth c hsz.symm ⟨⟨B.exec, B.bytes, hml, hown, atoms_spec (ws := ws) B.pre⟩, hK, fun q h => Or.inr h, B.returns, B.notSynchronized⟩
  have hl := lv_entry av (n := maxL) hn
  rw [lg_entry_eq]
  exact h s.heap [] _ hP (hD0.self) va_S.rf hl
end GK
end
section
theorem dL_law_0 : decode cL_law 0 = .ok (.new 39, 3) := by decide +kernel
theorem dL_law_3 : decode cL_law 3 = .ok (.dup, 1) := by decide +kernel
theorem dL_law_4 : decode cL_law 4 = .ok (.invokespecial 111, 3) := by decide +kernel
theorem dL_law_7 : decode cL_law 7 = .ok (.astore_n 1, 1) := by decide +kernel
theorem dL_law_8 : decode cL_law 8 = .ok (.bipush 40, 2) := by decide +kernel
theorem dL_law_10 : decode cL_law 10 = .ok (.newarray .int, 2) := by decide +kernel
theorem dL_law_12 : decode cL_law 12 = .ok (.astore_n 2, 1) := by decide +kernel
theorem dL_law_13 : decode cL_law 13 = .ok (.bipush 20, 2) := by decide +kernel
theorem dL_law_15 : decode cL_law 15 = .ok (.newarray .int, 2) := by decide +kernel
theorem dL_law_17 : decode cL_law 17 = .ok (.astore_n 3, 1) := by decide +kernel
theorem dL_law_18 : decode cL_law 18 = .ok (.bipush 24, 2) := by decide +kernel
theorem dL_law_20 : decode cL_law 20 = .ok (.newarray .int, 2) := by decide +kernel
theorem dL_law_22 : decode cL_law 22 = .ok (.astore 4, 2) := by decide +kernel
theorem dL_law_24 : decode cL_law 24 = .ok (.bipush 7, 2) := by decide +kernel
theorem dL_law_26 : decode cL_law 26 = .ok (.newarray .int, 2) := by decide +kernel
theorem dL_law_28 : decode cL_law 28 = .ok (.astore 5, 2) := by decide +kernel
theorem dL_law_30 : decode cL_law 30 = .ok (.aload_n 1, 1) := by decide +kernel
theorem dL_law_31 : decode cL_law 31 = .ok (.aload_n 2, 1) := by decide +kernel
theorem dL_law_32 : decode cL_law 32 = .ok (.aload_n 3, 1) := by decide +kernel
theorem dL_law_33 : decode cL_law 33 = .ok (.aload 4, 2) := by decide +kernel
theorem dL_law_35 : decode cL_law 35 = .ok (.aload 5, 2) := by decide +kernel
theorem dL_law_37 : decode cL_law 37 = .ok (.invokestatic 112, 3) := by decide +kernel
theorem dL_law_40 : decode cL_law 40 = .ok (.ifCond .eq 37, 3) := by decide +kernel
theorem dL_law_43 : decode cL_law 43 = .ok (.aload_n 1, 1) := by decide +kernel
theorem dL_law_44 : decode cL_law 44 = .ok (.aload_n 2, 1) := by decide +kernel
theorem dL_law_45 : decode cL_law 45 = .ok (.aload_n 3, 1) := by decide +kernel
theorem dL_law_46 : decode cL_law 46 = .ok (.aload 4, 2) := by decide +kernel
theorem dL_law_48 : decode cL_law 48 = .ok (.aload 5, 2) := by decide +kernel
theorem dL_law_50 : decode cL_law 50 = .ok (.invokestatic 116, 3) := by decide +kernel
theorem dL_law_53 : decode cL_law 53 = .ok (.ifCond .eq 24, 3) := by decide +kernel
theorem dL_law_56 : decode cL_law 56 = .ok (.aload_n 1, 1) := by decide +kernel
theorem dL_law_57 : decode cL_law 57 = .ok (.invokevirtual 76, 3) := by decide +kernel
theorem dL_law_60 : decode cL_law 60 = .ok (.iconst (-1), 1) := by decide +kernel
theorem dL_law_61 : decode cL_law 61 = .ok (.if_icmp .ne 16, 3) := by decide +kernel
theorem dL_law_64 : decode cL_law 64 = .ok (.aload_n 1, 1) := by decide +kernel
theorem dL_law_65 : decode cL_law 65 = .ok (.iconst 3, 1) := by decide +kernel
theorem dL_law_66 : decode cL_law 66 = .ok (.iconst 1, 1) := by decide +kernel
theorem dL_law_67 : decode cL_law 67 = .ok (.invokevirtual 73, 3) := by decide +kernel
theorem dL_law_70 : decode cL_law 70 = .ok (.ifCond .ne 7, 3) := by decide +kernel
theorem dL_law_73 : decode cL_law 73 = .ok (.iconst 1, 1) := by decide +kernel
theorem dL_law_74 : decode cL_law 74 = .ok (.goto 4, 3) := by decide +kernel
theorem dL_law_77 : decode cL_law 77 = .ok (.iconst 0, 1) := by decide +kernel
theorem dL_law_78 : decode cL_law 78 = .ok (.istore 6, 2) := by decide +kernel
theorem dL_law_80 : decode cL_law 80 = .ok (.iconst 0, 1) := by decide +kernel
theorem dL_law_81 : decode cL_law 81 = .ok (.istore 7, 2) := by decide +kernel
theorem dL_law_83 : decode cL_law 83 = .ok (.iload 7, 2) := by decide +kernel
theorem dL_law_85 : decode cL_law 85 = .ok (.bipush 40, 2) := by decide +kernel
theorem dL_law_87 : decode cL_law 87 = .ok (.if_icmp .ge 148, 3) := by decide +kernel
theorem dL_law_90 : decode cL_law 90 = .ok (.iload 6, 2) := by decide +kernel
theorem dL_law_92 : decode cL_law 92 = .ok (.ifCond .eq 143, 3) := by decide +kernel
theorem dL_law_95 : decode cL_law 95 = .ok (.aload_n 0, 1) := by decide +kernel
theorem dL_law_96 : decode cL_law 96 = .ok (.iload 7, 2) := by decide +kernel
theorem dL_law_98 : decode cL_law 98 = .ok (.invokestatic 119, 3) := by decide +kernel
theorem dL_law_101 : decode cL_law 101 = .ok (.istore 8, 2) := by decide +kernel
theorem dL_law_103 : decode cL_law 103 = .ok (.aload_n 1, 1) := by decide +kernel
theorem dL_law_104 : decode cL_law 104 = .ok (.aload_n 2, 1) := by decide +kernel
theorem dL_law_105 : decode cL_law 105 = .ok (.aload_n 3, 1) := by decide +kernel
theorem dL_law_106 : decode cL_law 106 = .ok (.aload 4, 2) := by decide +kernel
theorem dL_law_108 : decode cL_law 108 = .ok (.aload 5, 2) := by decide +kernel
theorem dL_law_110 : decode cL_law 110 = .ok (.iload 7, 2) := by decide +kernel
theorem dL_law_112 : decode cL_law 112 = .ok (.iconst 5, 1) := by decide +kernel
theorem dL_law_113 : decode cL_law 113 = .ok (.if_icmp .ge 7, 3) := by decide +kernel
theorem dL_law_116 : decode cL_law 116 = .ok (.iconst 0, 1) := by decide +kernel
theorem dL_law_117 : decode cL_law 117 = .ok (.goto 13, 3) := by decide +kernel
theorem dL_law_120 : decode cL_law 120 = .ok (.iload 8, 2) := by decide +kernel
theorem dL_law_122 : decode cL_law 122 = .ok (.bipush 18, 2) := by decide +kernel
theorem dL_law_124 : decode cL_law 124 = .ok (.ishr, 1) := by decide +kernel
theorem dL_law_125 : decode cL_law 125 = .ok (.bipush 14, 2) := by decide +kernel
theorem dL_law_127 : decode cL_law 127 = .ok (.invokestatic 80, 3) := by decide +kernel
theorem dL_law_130 : decode cL_law 130 = .ok (.iload 7, 2) := by decide +kernel
theorem dL_law_132 : decode cL_law 132 = .ok (.iconst 5, 1) := by decide +kernel
theorem dL_law_133 : decode cL_law 133 = .ok (.if_icmp .ge 21, 3) := by decide +kernel
theorem dL_law_136 : decode cL_law 136 = .ok (.iload 8, 2) := by decide +kernel
theorem dL_law_138 : decode cL_law 138 = .ok (.bipush (-4), 2) := by decide +kernel
theorem dL_law_140 : decode cL_law 140 = .ok (.iand, 1) := by decide +kernel
theorem dL_law_141 : decode cL_law 141 = .ok (.iload 8, 2) := by decide +kernel
theorem dL_law_143 : decode cL_law 143 = .ok (.bipush 8, 2) := by decide +kernel
theorem dL_law_145 : decode cL_law 145 = .ok (.ishr, 1) := by decide +kernel
theorem dL_law_146 : decode cL_law 146 = .ok (.iconst 2, 1) := by decide +kernel
theorem dL_law_147 : decode cL_law 147 = .ok (.invokestatic 80, 3) := by decide +kernel
theorem dL_law_150 : decode cL_law 150 = .ok (.ior, 1) := by decide +kernel
theorem dL_law_151 : decode cL_law 151 = .ok (.goto 5, 3) := by decide +kernel
theorem dL_law_154 : decode cL_law 154 = .ok (.iload 8, 2) := by decide +kernel
theorem dL_law_156 : decode cL_law 156 = .ok (.invokestatic 123, 3) := by decide +kernel
theorem dL_law_159 : decode cL_law 159 = .ok (.ifCond .eq 67, 3) := by decide +kernel
theorem dL_law_162 : decode cL_law 162 = .ok (.aload_n 1, 1) := by decide +kernel
theorem dL_law_163 : decode cL_law 163 = .ok (.aload_n 2, 1) := by decide +kernel
theorem dL_law_164 : decode cL_law 164 = .ok (.aload_n 3, 1) := by decide +kernel
theorem dL_law_165 : decode cL_law 165 = .ok (.aload 4, 2) := by decide +kernel
theorem dL_law_167 : decode cL_law 167 = .ok (.aload 5, 2) := by decide +kernel
theorem dL_law_169 : decode cL_law 169 = .ok (.invokestatic 112, 3) := by decide +kernel
theorem dL_law_172 : decode cL_law 172 = .ok (.ifCond .eq 54, 3) := by decide +kernel
theorem dL_law_175 : decode cL_law 175 = .ok (.aload_n 1, 1) := by decide +kernel
theorem dL_law_176 : decode cL_law 176 = .ok (.aload_n 2, 1) := by decide +kernel
theorem dL_law_177 : decode cL_law 177 = .ok (.aload_n 3, 1) := by decide +kernel
theorem dL_law_178 : decode cL_law 178 = .ok (.aload 4, 2) := by decide +kernel
theorem dL_law_180 : decode cL_law 180 = .ok (.aload 5, 2) := by decide +kernel
theorem dL_law_182 : decode cL_law 182 = .ok (.invokestatic 116, 3) := by decide +kernel
theorem dL_law_185 : decode cL_law 185 = .ok (.ifCond .eq 41, 3) := by decide +kernel
theorem dL_law_188 : decode cL_law 188 = .ok (.iload 7, 2) := by decide +kernel
theorem dL_law_190 : decode cL_law 190 = .ok (.bipush 6, 2) := by decide +kernel
theorem dL_law_192 : decode cL_law 192 = .ok (.irem, 1) := by decide +kernel
theorem dL_law_193 : decode cL_law 193 = .ok (.iconst 4, 1) := by decide +kernel
theorem dL_law_194 : decode cL_law 194 = .ok (.if_icmp .ne 28, 3) := by decide +kernel
theorem dL_law_197 : decode cL_law 197 = .ok (.aload_n 1, 1) := by decide +kernel
theorem dL_law_198 : decode cL_law 198 = .ok (.aload_n 2, 1) := by decide +kernel
theorem dL_law_199 : decode cL_law 199 = .ok (.aload_n 3, 1) := by decide +kernel
theorem dL_law_200 : decode cL_law 200 = .ok (.aload 4, 2) := by decide +kernel
theorem dL_law_202 : decode cL_law 202 = .ok (.aload 5, 2) := by decide +kernel
theorem dL_law_204 : decode cL_law 204 = .ok (.iload 8, 2) := by decide +kernel
theorem dL_law_206 : decode cL_law 206 = .ok (.iconst 3, 1) := by decide +kernel
theorem dL_law_207 : decode cL_law 207 = .ok (.ishr, 1) := by decide +kernel
theorem dL_law_208 : decode cL_law 208 = .ok (.iconst 4, 1) := by decide +kernel
theorem dL_law_209 : decode cL_law 209 = .ok (.invokestatic 80, 3) := by decide +kernel
theorem dL_law_212 : decode cL_law 212 = .ok (.iload 8, 2) := by decide +kernel
theorem dL_law_214 : decode cL_law 214 = .ok (.iconst 5, 1) := by decide +kernel
theorem dL_law_215 : decode cL_law 215 = .ok (.ishr, 1) := by decide +kernel
theorem dL_law_216 : decode cL_law 216 = .ok (.invokestatic 127, 3) := by decide +kernel
theorem dL_law_219 : decode cL_law 219 = .ok (.ifCond .eq 7, 3) := by decide +kernel
theorem dL_law_222 : decode cL_law 222 = .ok (.iconst 1, 1) := by decide +kernel
theorem dL_law_223 : decode cL_law 223 = .ok (.goto 4, 3) := by decide +kernel
theorem dL_law_226 : decode cL_law 226 = .ok (.iconst 0, 1) := by decide +kernel
theorem dL_law_227 : decode cL_law 227 = .ok (.istore 6, 2) := by decide +kernel
theorem dL_law_229 : decode cL_law 229 = .ok (.iinc 7 1, 3) := by decide +kernel
theorem dL_law_232 : decode cL_law 232 = .ok (.goto (-149), 3) := by decide +kernel
theorem dL_law_235 : decode cL_law 235 = .ok (.iload 6, 2) := by decide +kernel
theorem dL_law_237 : decode cL_law 237 = .ok (.ireturn, 1) := by decide +kernel
end
section
set_option maxRecDepth 20000 in
theorem ggL_law_X7_init : GoodIn wsL_law wsX7_init := goodIn_r _ [6, 7, 8, 9, 10, 11, 12, 13, 14, 15, 16, 17, 18, 19, 20, 21, 22, 23, 24, 25, 26, 27, 28, 29, 30, 31, 32, 33, 34, 35, 36, 37, 38, 39, 3, 40, 41, 42, 43, 44, 45, 46, 47, 48, 49, 50, 51, 52, 53, 54, 55, 56, 57, 58, 59, 60, 61, 62, 63, 64, 65, 66, 67, 68, 69, 70, 71, 72, 73, 74, 75, 76, 77, 78, 79, 80, 508, 509, 510, 511, 512, 513, 514, 515, 516, 517, 500, 501, 502, 503, 504, 505, 506, 507, 518, 519, 520, 521, 522, 523, 524, 525, 526, 527, 528, 529, 530, 531, 532, 533, 534, 535, 536, 537, 538, 539, 540, 541, 542, 543, 544] (by decide +kernel) (by decide +kernel)
set_option maxRecDepth 20000 in
theorem gL_law_X7_init : GoodIn wsL_law (wsX7_init) := ggL_law_X7_init
set_option maxRecDepth 20000 in
theorem ggL_law_L_arePeople : GoodIn wsL_law wsL_arePeople := goodIn_ca (goodIn_ca (goodIn_r _ [84, 85, 86, 87, 2, 88, 89, 90, 13, 20, 91, 92, 93, 12, 94, 95, 96, 97, 98, 99, 100, 101, 102, 103, 104, 105, 106, 107, 108, 42, 109, 110, 111, 112, 28, 113, 114, 115, 27, 116, 117, 60, 61, 118, 119, 120, 121, 46, 122, 123, 124, 125, 45, 126, 127, 128, 129, 130, 131, 132, 133, 134, 135, 136, 137, 138, 139, 140, 141, 142, 43, 44, 143, 144, 145, 146, 147, 148, 149, 150, 41, 151, 152, 153, 154, 155, 156, 157, 158, 159, 160, 161, 162, 163, 164, 165, 166, 167, 168, 169, 170, 171, 172, 173, 174, 175, 176, 177, 178, 179, 180, 181, 182, 183, 184, 185, 186, 187, 188, 189, 190, 191, 192, 193, 194, 195, 196, 197, 198, 199, 200, 201, 202, 19, 203, 204, 205, 206, 83, 207, 208, 209, 210, 211, 212, 213, 214, 215, 216, 217, 218, 40, 219, 220, 221, 222, 223, 224, 225, 226, 227, 228, 229, 230, 231, 232, 233, 234, 235, 236, 237, 238, 239, 240, 241, 242, 243, 244, 245, 246, 247, 248, 249, 250, 251, 252, 253, 500, 501, 502, 503, 504, 505, 506, 507, 508, 509, 510, 511, 512, 513, 514, 515, 516, 517, 527, 528, 529, 518, 519, 520] (by decide +kernel) (by decide +kernel)) (goodIn_sub (fun _ h => List.mem_append_left _ (List.mem_append_right _ h)) (by decide +kernel))) (goodIn_sub (fun _ h => List.mem_append_right _ h) (by decide +kernel))
set_option maxRecDepth 20000 in
theorem gL_law_L_arePeople : GoodIn wsL_law (va_wsS RL 112 yL_arePeople wsL_arePeople) := goodIn_app (goodIn_of _ (by decide +kernel)) ggL_law_L_arePeople
set_option maxRecDepth 20000 in
theorem ggL_law_L_areRows : GoodIn wsL_law wsL_areRows := goodIn_ca (goodIn_ca (goodIn_r _ [256, 85, 86, 87, 2, 88, 89, 90, 13, 20, 91, 92, 93, 12, 94, 95, 96, 97, 98, 99, 100, 101, 102, 103, 104, 105, 106, 107, 108, 42, 109, 110, 111, 112, 28, 113, 114, 115, 27, 116, 117, 60, 61, 118, 119, 120, 121, 46, 122, 123, 124, 125, 45, 126, 127, 128, 129, 130, 131, 132, 133, 134, 135, 136, 137, 138, 139, 140, 141, 142, 43, 44, 143, 144, 145, 146, 147, 148, 149, 150, 41, 151, 152, 153, 154, 155, 156, 157, 158, 159, 160, 161, 162, 163, 164, 165, 166, 167, 168, 169, 170, 171, 172, 173, 174, 175, 176, 177, 178, 179, 180, 181, 182, 183, 184, 185, 186, 187, 188, 189, 190, 191, 192, 193, 194, 195, 196, 197, 198, 199, 200, 201, 202, 19, 203, 204, 257, 258, 83, 259, 260, 261, 262, 247, 248, 249, 238, 239, 240, 205, 206, 207, 244, 245, 246, 263, 264, 265, 266, 212, 213, 267, 268, 269, 215, 216, 217, 218, 40, 270, 271, 272, 230, 231, 232, 233, 234, 235, 236, 273, 274, 275, 276, 277, 278, 279, 280, 281, 282, 283, 284, 285, 286, 287, 288, 289, 290, 291, 292, 500, 501, 502, 503, 504, 505, 506, 507, 508, 509, 510, 511, 512, 513, 514, 515, 516, 517, 527, 528, 529, 518, 519, 520] (by decide +kernel) (by decide +kernel)) (goodIn_sub (fun _ h => List.mem_append_left _ (List.mem_append_right _ h)) (by decide +kernel))) (goodIn_sub (fun _ h => List.mem_append_right _ h) (by decide +kernel))
set_option maxRecDepth 20000 in
theorem gL_law_L_areRows : GoodIn wsL_law (va_wsS RL 116 yL_areRows wsL_areRows) := goodIn_app (goodIn_of _ (by decide +kernel)) ggL_law_L_areRows
set_option maxRecDepth 20000 in
theorem ggL_law_X7_bestSwap : GoodIn wsL_law wsX7_bestSwap := goodIn_r _ [296, 13, 109, 110, 111, 2, 112, 28, 113, 114, 115, 27, 116, 117, 60, 61, 118, 119, 120, 12, 121, 46, 122, 123, 124, 125, 45, 126, 127, 128, 129, 130, 131, 132, 133, 134, 42, 135, 136, 137, 138, 95, 139, 140, 141, 142, 43, 44, 143, 144, 145, 146, 100, 147, 148, 149, 150, 41, 151, 152, 153, 154, 297, 298, 299, 300, 301, 302, 303, 304, 305, 306, 500, 501, 502, 503, 504, 505, 506, 507, 527, 528, 529, 508, 509, 510, 511, 512, 513, 514, 515, 516, 517] (by decide +kernel) (by decide +kernel)
set_option maxRecDepth 20000 in
theorem gL_law_X7_bestSwap : GoodIn wsL_law (wsV RL 76 RX7 yX7_bestSwap wsX7_bestSwap) := goodIn_app (goodIn_of _ (by decide +kernel)) ggL_law_X7_bestSwap
set_option maxRecDepth 20000 in
theorem ggL_law_X7_least : GoodIn wsL_law wsX7_least := goodIn_ca (goodIn_ca (goodIn_r _ [310, 212, 213, 89, 90, 36, 13, 277, 278, 2, 279, 311, 312, 313, 35, 314, 315, 316, 317, 318, 319, 70, 320, 92, 93, 12, 94, 95, 321, 216, 217, 218, 40, 135, 136, 137, 138, 322, 323, 324, 325, 73, 326, 128, 129, 130, 131, 132, 133, 134, 42, 139, 140, 141, 142, 43, 44, 143, 144, 145, 146, 100, 147, 148, 149, 150, 41, 327, 328, 329, 330, 331, 78, 332, 119, 120, 121, 46, 333, 123, 124, 125, 45, 126, 334, 335, 336, 337, 338, 74, 75, 76, 339, 181, 182, 183, 340, 192, 193, 194, 341, 342, 343, 344, 80, 345, 346, 347, 348, 349, 71, 350, 351, 352, 353, 354, 355, 356, 357, 72, 358, 231, 232, 233, 234, 235, 236, 359, 360, 361, 362, 77, 363, 364, 365, 366, 367, 368, 369, 370, 371, 372, 373, 374, 375, 376, 377, 500, 501, 502, 503, 504, 505, 506, 507, 532, 533, 534, 535, 536, 537, 538, 539, 540, 541, 542, 543, 544, 508, 509, 510, 511, 512, 513, 514, 515, 516, 517] (by decide +kernel) (by decide +kernel)) (goodIn_sub (fun _ h => List.mem_append_right _ h) (by decide +kernel))) (goodIn_sub (fun _ h => List.mem_append_left _ (List.mem_append_right _ h)) (by decide +kernel))
set_option maxRecDepth 20000 in
theorem gL_law_X7_least : GoodIn wsL_law (wsV RL 73 RX7 yX7_least wsX7_least) := goodIn_app (goodIn_of _ (by decide +kernel)) ggL_law_X7_least
set_option maxRecDepth 20000 in
theorem ggL_law_L_cell : GoodIn wsL_law wsL_cell := goodIn_r _ [380, 381] (by decide +kernel) (by decide +kernel)
set_option maxRecDepth 20000 in
theorem gL_law_L_cell : GoodIn wsL_law (va_wsS RL 119 yL_cell wsL_cell) := goodIn_app (goodIn_of _ (by decide +kernel)) ggL_law_L_cell
set_option maxRecDepth 20000 in
theorem ggL_law_L_low : GoodIn wsL_law wsL_low := goodIn_r _ [384, 385] (by decide +kernel) (by decide +kernel)
set_option maxRecDepth 20000 in
theorem gL_law_L_low : GoodIn wsL_law (va_wsS RL 80 yL_low wsL_low) := goodIn_app (goodIn_of _ (by decide +kernel)) ggL_law_L_low
set_option maxRecDepth 20000 in
theorem ggL_law_L_acts : GoodIn wsL_law wsL_acts := goodIn_ca (goodIn_ca (goodIn_r _ [388, 3, 382, 383, 83, 384, 385, 389, 390, 391, 2, 392, 212, 213, 20, 13, 277, 278, 279, 393, 394, 395, 19, 396, 52, 397, 204, 398, 399, 400, 12, 401, 40, 402, 351, 352, 353, 41, 42, 43, 44, 45, 46, 95, 100, 199, 403, 404, 405, 406, 126, 119, 120, 121, 303, 304, 305, 306, 135, 136, 137, 138, 407, 408, 409, 410, 411, 412, 413, 89, 90, 214, 414, 415, 416, 417, 418, 419, 420, 421, 422, 423, 424, 425, 426, 427, 428, 429, 216, 217, 218, 430, 431, 432, 433, 164, 165, 166, 167, 168, 169, 170, 171, 434, 435, 436, 241, 242, 243, 437, 438, 439, 440, 267, 144, 145, 146, 441, 442, 443, 444, 445, 181, 182, 183, 143, 446, 288, 289, 290, 291, 292, 123, 124, 125, 257, 258, 259, 260, 261, 262, 247, 248, 249, 238, 239, 240, 447, 448, 449, 450, 297, 109, 110, 111, 112, 28, 113, 114, 115, 27, 116, 117, 60, 61, 118, 122, 127, 128, 129, 130, 131, 132, 133, 134, 139, 140, 141, 142, 147, 148, 149, 150, 151, 152, 153, 154, 298, 299, 300, 301, 302, 451, 452, 453, 454, 455, 456, 457, 32, 458, 459, 460, 31, 461, 462, 65, 66, 463, 464, 465, 466, 467, 468, 469, 470, 471, 472, 473, 474, 475, 476, 244, 245, 246, 477, 478, 479, 480, 481, 482, 483, 36, 311, 312, 313, 35, 314, 315, 316, 317, 318, 319, 70, 320, 92, 93, 94, 321, 322, 323, 324, 325, 73, 326, 327, 328, 329, 330, 331, 78, 332, 333, 334, 335, 336, 337, 338, 74, 75, 76, 339, 340, 192, 193, 194, 341, 342, 343, 344, 80, 345, 346, 347, 348, 349, 71, 350, 354, 355, 356, 357, 72, 358, 231, 232, 233, 234, 235, 236, 359, 360, 361, 362, 77, 363, 364, 365, 366, 367, 368, 369, 370, 484, 485, 486, 487, 488, 500, 501, 502, 503, 504, 505, 506, 507, 518, 519, 520, 508, 509, 510, 511, 512, 513, 514, 515, 516, 517, 527, 528, 529, 530, 531, 532, 533, 534, 535, 536, 537, 538, 539, 540, 541, 542, 543, 544] (by decide +kernel) (by decide +kernel)) (goodIn_sub (fun _ h => List.mem_append_right _ h) (by decide +kernel))) (goodIn_sub (fun _ h => List.mem_append_left _ (List.mem_append_right _ h)) (by decide +kernel))
set_option maxRecDepth 20000 in
theorem gL_law_L_acts : GoodIn wsL_law (va_wsS RL 123 yL_acts wsL_acts) := goodIn_app (goodIn_of _ (by decide +kernel)) ggL_law_L_acts
set_option maxRecDepth 20000 in
theorem ggL_law_L_isLeast : GoodIn wsL_law wsL_isLeast := goodIn_ca (goodIn_ca (goodIn_r _ [491, 3, 451, 452, 83, 453, 471, 472, 473, 474, 475, 476, 244, 245, 246, 477, 478, 479, 260, 261, 262, 247, 248, 249, 238, 239, 240, 257, 258, 259, 307, 308, 309, 2, 310, 212, 213, 89, 90, 36, 13, 277, 278, 279, 311, 312, 313, 35, 314, 315, 316, 317, 318, 319, 70, 320, 92, 93, 12, 94, 95, 321, 216, 217, 218, 40, 135, 136, 137, 138, 322, 323, 324, 325, 73, 326, 128, 129, 130, 131, 132, 133, 134, 42, 139, 140, 141, 142, 43, 44, 143, 144, 145, 146, 100, 147, 148, 149, 150, 41, 327, 328, 329, 330, 331, 78, 332, 119, 120, 121, 46, 333, 123, 124, 125, 45, 126, 334, 335, 336, 337, 338, 74, 75, 76, 339, 181, 182, 183, 340, 192, 193, 194, 341, 342, 343, 344, 80, 345, 346, 347, 348, 349, 71, 350, 351, 352, 353, 354, 355, 356, 357, 72, 358, 231, 232, 233, 234, 235, 236, 359, 360, 361, 362, 77, 363, 364, 365, 366, 367, 368, 369, 370, 371, 372, 373, 374, 375, 376, 377, 293, 294, 295, 296, 109, 110, 111, 112, 28, 113, 114, 115, 27, 116, 117, 60, 61, 118, 122, 127, 151, 152, 153, 154, 297, 298, 299, 300, 301, 302, 303, 304, 305, 306, 382, 383, 384, 385, 205, 206, 207, 492, 493, 494, 495, 214, 496, 497, 174, 498, 184, 185, 186, 187, 188, 189, 190, 180, 191, 229, 499, 500, 501, 502, 503, 504, 505, 506, 507, 532, 533, 534, 535, 536, 537, 538, 539, 540, 541, 542, 543, 544, 508, 509, 510, 511, 512, 513, 514, 515, 516, 517, 527, 528, 529] (by decide +kernel) (by decide +kernel)) (goodIn_sub (fun _ h => List.mem_append_right _ h) (by decide +kernel))) (goodIn_sub (fun _ h => List.mem_append_left _ (List.mem_append_right _ h)) (by decide +kernel))
set_option maxRecDepth 20000 in
theorem gL_law_L_isLeast : GoodIn wsL_law (va_wsS RL 127 yL_isLeast wsL_isLeast) := goodIn_app (goodIn_of _ (by decide +kernel)) ggL_law_L_isLeast
end
