section GK2
variable {p : Program} {l : Launch} {e : Env} {R : Room} {s : State} {m : MethodId} {args : Array Value} {below : List Frame} {meth : Method} {c : Code} {cc : ByteArray} {nL : Nat} {own : String} {Ts : List Cond} {D : va_G} {tys : List (ClassId × FieldType)} {A : Nat → Prop} {H0 : Heap} {ret : Option FieldType} {Q : State → Prop} {w : va_W} {k j : Nat} {lv lv2 : List (Nat × Value)} {pc : Nat} {st : List Value}
theorem g_d2raw (X : Cx p s m args meth c cc nL own Ts D tys A H0 ret) {index : Nat} {x : UInt64} (hw1 : Cond.methodLink own index ⟨"java/lang/Double", "doubleToRawLongBits", "(D)J"⟩ ∈ Ts) (hw2 : Cond.native ⟨"java/lang/Double", "doubleToRawLongBits", "(D)J"⟩ ∈ Ts) (hw3 : Cond.static ⟨"java/lang/Double", "doubleToRawLongBits", "(D)J"⟩ ∈ Ts) (hw4 : Cond.initialized "java/lang/Double" ∈ Ts) (hdg : decode cc pc = .ok (.invokestatic index, 3)) (hfr : 1 ≤ R.frames) (hlo : (st.map fun v => v.category).sum + 15 ≤ R.locals)
    (kk : GG p l e R s m args below meth c D A H0 nL Q w k j lv (pc + 3) (.long x.toInt64 :: st)) : GG p l e R s m args below meth c D A H0 nL Q w k j lv (pc) (.double x :: st) := fun H locs ls hP hD hS hl => vn_d2l X.1.1 X.1.2.1 (X.1.2.2.1.trans hl.1.symm) X.1.2.2.2.1 (X.1.2.2.2.2 _ hw1) (X.1.2.2.2.2 _ hw2) (X.1.2.2.2.2 _ hw3) (X.1.2.2.2.2 _ hw4) hfr hlo hdg (kk H locs ls hP hD hS hl)
theorem g_objinit (X : Cx p s m args meth c cc nL own Ts D tys A H0 ret) {idx a : Nat} (hw1 : Cond.methodLink own idx objectInit ∈ Ts) (hw2 : Cond.instanceMethod objectInit ∈ Ts) (hw3 : Cond.code objectInit ⟨#[0xb1]⟩ 1 none ∈ Ts) (hdg : decode cc pc = .ok (.invokespecial idx, 3)) (hfr : 1 ≤ R.frames) (hlo : (st.map fun v => v.category).sum + 12 ≤ R.locals)
    (kk : GG p l e R s m args below meth c D A H0 nL Q w k j lv (pc + 3) (st)) : GG p l e R s m args below meth c D A H0 nL Q w k j lv (pc) (.ref a :: st) := fun H locs ls hP hD hS hl => W.objInit X.1.1 X.1.2.1 X.1.2.2.2.1 (X.1.2.2.2.2 _ hw1) (X.1.2.2.2.2 _ hw2) (X.1.2.2.2.2 _ hw3) (g := F0 m pc ls (.ref a :: st)) rfl (hl.1.trans X.1.2.2.1.symm) rfl hdg hfr (by show 2 * 0 + _ + 12 ≤ _; omega) (kk H locs ls hP hD hS hl)
/-- the order of the cells does not matter -/
theorem g_perm {w2 : va_W} (h : w.Perm w2) (kk : GG p l e R s m args below meth c D A H0 nL Q w2 k j lv (pc) (st)) : GG p l e R s m args below meth c D A H0 nL Q w k j lv (pc) (st) := fun H locs ls hP hD hS hl => kk H locs ls (wd_P h hP) (wd_D h hD) hS hl
theorem g_new (X : Cx p s m args meth c cc nL own Ts D tys A H0 ret) {C : String} {T : u_T} {N ci index : Nat} (W2 : Nat → va_W) (fs : List Value) (ty : Nat → FieldType) (hty : ∀ k, k < N → parseFieldDescriptor (T k).2.2.1 = some (ty k)) (hin : ∀ w ∈ u_ws C T N, w ∈ Ts) (h1 : Cond.classLink own index C ∈ Ts) (h2 : Cond.instantiable C N ∈ Ts) (h3 : Cond.initialized C ∈ Ts) (hdg : decode cc pc = .ok (.new index, 3)) (hc : vwCl[ci]? = some (C, T, N)) (hfs : ∀ j, j < N → defaultValue (ty j) = vp_V fs j) (hcells : k + 1 ≤ R.cells) (hslots : j + N ≤ R.slots) (hw : ∀ q : Nat, (w ++ ([(q, .inr (ci, fs))] : va_W)).Perm (W2 q))
    (kk : ∀ q : Nat, GG p l e R s m args below meth c D A H0 nL Q (W2 q) (k + 1) (j + N) lv (pc + 3) (.ref q :: st)) : GG p l e R s m args below meth c D A H0 nL Q w k j lv (pc) (st) := fun H locs ls hP hD hS hl =>
  va_new X.1.1 X.1.2.1 X.1.2.2.2.2 hin ty hty X.1.2.2.2.1 (X.1.2.2.2.2 _ h1) (X.1.2.2.2.2 _ h2) (X.1.2.2.2.2 _ h3) X.2.1 hP hD hS X.2.2.1 hc hfs hcells hslots hdg (fun q H1 hP1 hD1 hS1 => kk q H1 locs ls (wd_P (hw q) hP1) (wd_D (hw q) hD1) hS1 hl)
theorem tys_same {s : State} {D : va_G} {tys : List (ClassId × FieldType)} {cA cB : ClassId} {ty : FieldType} {t0 : Nat} (hK : va_K D vwCl (tys ++ [(cA, ty)]) s) (h0 : tys[t0]? = some (cB, ty)) : cA = cB := by
  have h1 := (hK.2 tys.length (cA, ty) (by rw [List.getElem?_append_right (Nat.le_refl _)]; simp)).2
  have h2 := (hK.2 t0 (cB, ty) (by rw [List.getElem?_append_left (List.getElem?_eq_some_iff.mp h0).1]; exact h0)).2
  cases ty with
  | object C =>
    obtain ⟨_, _, _, _, _, e1⟩ := h1
    obtain ⟨_, _, _, _, _, e2⟩ := h2
    exact Option.some.inj (e1.symm.trans e2)
  | _ => exact Option.some.inj (Eq.trans (Eq.symm h1) h2)
theorem g_newaI (X : Cx p s m args meth c cc nL own Ts D tys A H0 ret) (W2 : Nat → va_W) (t0 : Nat) {cI : ClassId} {n : Int32} {N : Nat} (harr : Cond.arrayClass .int ∈ Ts) (hdg : decode cc pc = .ok (.newarray .int, 2)) (ht : tys[t0]? = some (cI, .int)) (hn : ¬ n < 0) (hN : n.toNatClampNeg = N) (hb : N * componentBytes .int ≤ 536870912) (hcells : k + 1 ≤ R.cells) (hslots : j + N ≤ R.slots) (hw : ∀ q : Nat, (w ++ ([(q, .inl (cI, N, .inl (fun _ => 0)))] : va_W)).Perm (W2 q))
    (kk : ∀ q : Nat, GG p l e R s m args below meth c D A H0 nL Q (W2 q) (k + 1) (j + N) lv (pc + 2) (.ref q :: st)) : GG p l e R s m args below meth c D A H0 nL Q w k j lv (pc) (.int n :: st) := fun H locs ls hP hD hS hl =>
  va_newa X.1.1 X.1.2.1 (atype := .int) (ty := .int) (X.1.2.2.2.2 _ harr) rfl X.2.1 hP hD hS X.2.2.1 (a0 := (N, .inl (fun _ => 0))) (fun _ => rfl) hn hN hb hcells hslots hdg (fun q cA H1 hK1 hP1 hD1 hS1 => by
    have e := tys_same hK1 ht
    subst e
    exact kk q H1 locs ls (wd_P (hw q) hP1) (wd_D (hw q) hD1) hS1 hl)
theorem g_newaZ (X : Cx p s m args meth c cc nL own Ts D tys A H0 ret) (W2 : Nat → va_W) (t0 : Nat) {cI : ClassId} {n : Int32} {N : Nat} (harr : Cond.arrayClass .boolean ∈ Ts) (hdg : decode cc pc = .ok (.newarray .boolean, 2)) (ht : tys[t0]? = some (cI, .boolean)) (hn : ¬ n < 0) (hN : n.toNatClampNeg = N) (hb : N * componentBytes .boolean ≤ 536870912) (hcells : k + 1 ≤ R.cells) (hslots : j + N ≤ R.slots) (hw : ∀ q : Nat, (w ++ ([(q, .inl (cI, N, .inl (fun _ => 0)))] : va_W)).Perm (W2 q))
    (kk : ∀ q : Nat, GG p l e R s m args below meth c D A H0 nL Q (W2 q) (k + 1) (j + N) lv (pc + 2) (.ref q :: st)) : GG p l e R s m args below meth c D A H0 nL Q w k j lv (pc) (.int n :: st) := fun H locs ls hP hD hS hl =>
  va_newa X.1.1 X.1.2.1 (atype := .boolean) (ty := .boolean) (X.1.2.2.2.2 _ harr) rfl X.2.1 hP hD hS X.2.2.1 (a0 := (N, .inl (fun _ => 0))) (fun _ => rfl) hn hN hb hcells hslots hdg (fun q cA H1 hK1 hP1 hD1 hS1 => by
    have e := tys_same hK1 ht
    subst e
    exact kk q H1 locs ls (wd_P (hw q) hP1) (wd_D (hw q) hD1) hS1 hl)
theorem g_newaL (X : Cx p s m args meth c cc nL own Ts D tys A H0 ret) (W2 : Nat → va_W) (t0 : Nat) {cI : ClassId} {n : Int32} {N : Nat} (harr : Cond.arrayClass .long ∈ Ts) (hdg : decode cc pc = .ok (.newarray .long, 2)) (ht : tys[t0]? = some (cI, .long)) (hn : ¬ n < 0) (hN : n.toNatClampNeg = N) (hb : N * componentBytes .long ≤ 536870912) (hcells : k + 1 ≤ R.cells) (hslots : j + N ≤ R.slots) (hw : ∀ q : Nat, (w ++ ([(q, .inl (cI, N, .inr (.inl (fun _ => 0))))] : va_W)).Perm (W2 q))
    (kk : ∀ q : Nat, GG p l e R s m args below meth c D A H0 nL Q (W2 q) (k + 1) (j + N) lv (pc + 2) (.ref q :: st)) : GG p l e R s m args below meth c D A H0 nL Q w k j lv (pc) (.int n :: st) := fun H locs ls hP hD hS hl =>
  va_newa X.1.1 X.1.2.1 (atype := .long) (ty := .long) (X.1.2.2.2.2 _ harr) rfl X.2.1 hP hD hS X.2.2.1 (a0 := (N, .inr (.inl (fun _ => 0)))) (fun _ => rfl) hn hN hb hcells hslots hdg (fun q cA H1 hK1 hP1 hD1 hS1 => by
    have e := tys_same hK1 ht
    subst e
    exact kk q H1 locs ls (wd_P (hw q) hP1) (wd_D (hw q) hD1) hS1 hl)
theorem g_newq (X : Cx p s m args meth c cc nL own Ts D tys A H0 ret) (W2 : Nat → va_W) (t0 : Nat) {C : String} {cI : ClassId} {index : Nat} {n : Int32} {N : Nat} (hcl : Cond.classLink own index C ∈ Ts) (hov : va_AO C s) (hdg : decode cc pc = .ok (.anewarray index, 3)) (ht : tys[t0]? = some (cI, .object C)) (hn : ¬ n < 0) (hN : n.toNatClampNeg = N) (hb : N * 4 ≤ 536870912) (hcells : k + 1 ≤ R.cells) (hslots : j + N ≤ R.slots) (hw : ∀ q : Nat, (w ++ ([(q, .inl (cI, N, .inr (.inr (.inr (.inr (fun _ => none))))))] : va_W)).Perm (W2 q))
    (kk : ∀ q : Nat, GG p l e R s m args below meth c D A H0 nL Q (W2 q) (k + 1) (j + N) lv (pc + 3) (.ref q :: st)) : GG p l e R s m args below meth c D A H0 nL Q w k j lv (pc) (.int n :: st) := fun H locs ls hP hD hS hl =>
  va_newq X.1.1 X.1.2.1 X.1.2.2.2.1 (X.1.2.2.2.2 _ hcl) hov X.2.1 hP hD hS X.2.2.1 hn hN hb hcells hslots hdg (fun q cA H1 hK1 hP1 hD1 hS1 => by
    have e := tys_same hK1 ht
    subst e
    exact kk q H1 locs ls (wd_P (hw q) hP1) (wd_D (hw q) hD1) hS1 hl)
/-- new int[n][k] over a world without such rows -/
theorem g_mna (X : Cx p s m args meth c cc nL own Ts D tys A H0 ret) (W2 : Nat → (Nat → Nat) → va_W) (t0 t1 : Nat) {cI cG : ClassId} {index : Nat} {n k9 : Int32} {N K9 : Nat} (hcl : Cond.classLink own index ("[" ++ (FieldType.array .int).toString) ∈ Ts) (hov : va_AOA .int s) (harr : Cond.arrayClass .int ∈ Ts) (hdg : decode cc pc = .ok (.multianewarray index 2, 4)) (ht0 : tys[t0]? = some (cI, .int)) (ht1 : tys[t1]? = some (cG, .array .int)) (hn : ¬ n < 0) (hk9 : ¬ k9 < 0) (hN : n.toNatClampNeg = N) (hK9 : k9.toNatClampNeg = K9) (hb1 : N * 4 ≤ 536870912) (hb2 : K9 * componentBytes .int ≤ 536870912) (hb3 : K9 ≤ 536870912) (hcells : k + (1 + N) ≤ R.cells) (hslots : j + (N + N * K9) ≤ R.slots)
    (hw : ∀ (q : Nat) (r : Nat → Nat), (w ++ (([(q, .inl (cG, N, .inr (.inr (.inr (.inr (fun i => if i < N then some (r i) else none))))))] : va_W) ++ ((List.range N).map (fun i => ((r i, .inl (cI, K9, .inl (fun _ => 0))) : Nat × va_E)) : va_W))).Perm (W2 q r))
    (kk : ∀ (q : Nat) (r : Nat → Nat), GG p l e R s m args below meth c D A H0 nL Q (W2 q r) (k + 1 + N) (j + N + N * K9) lv (pc + 4) (.ref q :: st)) : GG p l e R s m args below meth c D A H0 nL Q w k j lv (pc) (.int k9 :: .int n :: st) := by
  intro H locs ls hP hD hS hl
  have hcy : s.vm.findClass (FieldType.array .int).toString = some cI := (X.2.1.2 t0 _ ht0).2
  have e0 : ∀ (l : List Nat) (f : Nat → va_E), w ++ va_pl [] f = w := fun l f => List.append_nil w
  refine va_mna (X := w) (L := []) (f := fun _ => .inr (0, [])) (ty := .int) (cy := cI) (z := (K9, .inl (fun _ => 0))) X.1.1 X.1.2.1 X.1.2.2.2.1 (X.1.2.2.2.2 _ hcl) hov (X.1.2.2.2.2 _ harr) hcy X.2.1 (by rw [e0 []]; exact hP) (by rw [e0 []]; exact hD) hS X.2.2.1 hn hk9 hN hK9 hb1 hb2 hb3 rfl rfl hcells hslots (fun _ => ?_) hdg (fun q r cA H1 hr1 hr2 hK1 hP1 hD1 hS1 => ?_)
  · rw [vp_cell_i]
    unfold Jvm.Free.Multi.innerC
    rw [arrV_new]
    rfl
  · have e := tys_same hK1 ht1
    subst e
    have ep : ∀ (f : Nat → va_E) (e : va_E) (l : List Nat), va_pl l (vr_up f l e) = l.map (fun a => (a, e)) := by
      intro f e l
      unfold va_pl
      exact List.map_congr_left fun a ha => by rw [vr_up_in ha]
    rw [List.nil_append, ep, List.map_map, List.append_assoc] at hP1 hD1
    exact kk q r H1 locs ls (wd_P (hw q r) hP1) (wd_D (hw q r) hD1) hS1 hl
theorem g_putF (X : Cx p s m args meth c cc nL own Ts D tys A H0 ret) (W2 : va_W) {ref C : String} {T : u_T} {N ci index a b : Nat} (q0 : Nat) {fs : List Value} (f : Nat) {ty : FieldType} (hin2 : meth.name = "<init>") (tyf : Nat → FieldType) (htyf : ∀ k, k < N → parseFieldDescriptor (T k).2.2.1 = some (tyf k)) (hnm : ∀ a, a < N → ∀ b, b < N → a ≠ b → (T a).2.1 ≠ (T b).2.1) (hin : ∀ w ∈ u_ws C T N, w ∈ Ts) (hlink : Cond.fieldLink own index ref (T f).2.1 (T f).2.2.1 ∈ Ts) (hdg : decode cc pc = .ok (.putfield index, 3)) (he : w[q0]? = some (a, .inr (ci, fs))) (hc : vwCl[ci]? = some (C, T, N)) (hf : f < N) (hr : (T f).1 = ref) (hown9 : (T f).1 = own) (hfin : (T f).2.2.2 = true) (hd : parseFieldDescriptor (T f).2.2.1 = some ty) (hna : narrow ty (.ref b) = .ref b) (hfit : fits ty (.ref b) = true) (hlen : f < fs.length) (hw : w.set q0 (a, .inr (ci, fs.set f (.ref b))) = W2)
    (kk : GG p l e R s m args below meth c D A H0 nL Q W2 k j lv (pc + 3) (st)) : GG p l e R s m args below meth c D A H0 nL Q w k j lv (pc) (.ref b :: .ref a :: st) := fun H locs ls hP hD hS hl =>
  va_putF X.1.1 X.1.2.1 X.1.2.2.2.2 hin tyf htyf hnm X.1.2.2.2.1 X.2.1 hP hD hS q0 he hc f hf (X.1.2.2.2.2 _ hlink) (fun _ h9 => by rw [← hr]; exact h9) hfin hin2 hown9 hd hna hfit hlen hdg (fun H1 l1 hP1 hD1 hS1 => kk H1 l1 ls (hw ▸ hP1) (hw ▸ hD1) hS1 hl)
theorem g_astq (X : Cx p s m args meth c cc nL own Ts D tys A H0 ret) (W2 : va_W) (q0 t0 qk ci : Nat) {a : Nat} {cA : ClassId} {rc : vw_C} {n v : Nat} {vs : List Value} {f : Nat → Option Nat} {i : Int32} (hdg : decode cc pc = .ok (.aastore, 1)) (ha : w[q0]? = some (a, .inl (cA, n, .inr (.inr (.inr (.inr f)))))) (ht : tys[t0]? = some (cA, .object rc.1)) (hv : w[qk]? = some (v, .inr (ci, vs))) (hc : vwCl[ci]? = some rc) (hi : vp_in i n) (hw : w.set q0 (a, .inl (cA, n, .inr (.inr (.inr (.inr (va_up f i.toNatClampNeg (some v))))))) = W2)
    (kk : GG p l e R s m args below meth c D A H0 nL Q W2 k j lv (pc + 1) (st)) : GG p l e R s m args below meth c D A H0 nL Q w k j lv (pc) (.ref v :: .int i :: .ref a :: st) := fun H locs ls hP hD hS hl =>
  va_astq X.1.1 X.1.2.1 X.2.1 hP hD hS q0 t0 qk ci ha ht hv hc hi hdg (fun H1 l1 hP1 hD1 hS1 => kk H1 l1 ls (hw ▸ hP1) (hw ▸ hD1) hS1 hl)
/-- words that only makings lean on -/
def xnest : List Cond := [.methodLinkNest RX7 9 yX5_init RX7, .methodLinkNest RX4 17 yX5_init RX7, .methodLinkNest RX7 33 yX6_init RX7, .methodLinkNest RX7 40 yX2_init RX7, .methodLinkNest RX7 47 yX1_init RX7, .methodLinkNest RX7 54 yX3_init RX7]
def NS (U : State) : Prop := (∀ w ∈ xnest, va_Nw w U) ∧ va_AO "ChronicleRows$State" U ∧ va_AOA .int U

theorem va_AOA.moved {t : FieldType} {u U : State} (hvm : u.vm.Alike U.vm) (h : va_AOA t u) : va_AOA t U := by
  obtain ⟨comp, c, k, h1, h2, h3, h4, h5⟩ : ∃ comp c k, u.vm.findClass (FieldType.array t).toString = some comp ∧ (u.vm.classes.findIdx? fun (x : Class) => match x.kind with | .array component _ => component == comp | _ => false) = some c ∧ u.vm.classes[c]? = some k ∧ k.kind = .array comp (.array t) ∧ u.vm.findClass ("[" ++ (FieldType.array t).toString) = some c := by
    simp only [va_AOA, Cond.before, Cond.holds, Cond.value, beq_iff_eq] at h
    cases hc : u.vm.findClass (FieldType.array t).toString with
    | none => simp [hc] at h
    | some comp =>
      simp only [hc, Option.bind_some, Option.bind_eq_some_iff, Option.map_eq_some_iff] at h
      obtain ⟨c, hi, k, hk, hb⟩ := h
      obtain ⟨hlt, hp, -⟩ := Array.findIdx?_eq_some_iff_getElem.mp hi
      have hkk : u.vm.classes[c] = k := (Array.getElem?_eq_some_iff.mp hk).2
      rw [hkk] at hp
      cases hkind : k.kind with
      | array component ty =>
        rw [hkind] at hb hp
        simp at hb hp
        exact ⟨comp, c, k, rfl, hi, hk, by rw [hkind, hp, hb.1], hb.2⟩
      | _ => rw [hkind] at hb; simp at hb
  obtain ⟨k', hk', he⟩ := hvm.2.2 _ _ h3
  have hi : (U.vm.classes.findIdx? fun (x : Class) => match x.kind with | .array component _ => component == comp | _ => false) = some c := by
    have eb : U.vm.bare = u.vm.bare := by first | exact hvm.bare_eq | exact hvm.bare_eq.symm
    exact ((va_idx_bare U.vm comp).symm.trans (congrArg (fun (b : Vm) => b.classes.findIdx? fun (x : Class) => match x.kind with | .array component _ => component == comp | _ => false) eb)).trans ((va_idx_bare u.vm comp).trans h2)
  have hkind : k'.kind = .array comp (.array t) := by rw [he]; exact h4
  have f1 : U.vm.findClass (FieldType.array t).toString = some comp := by rw [hvm.findClass]; exact h1
  have f2 : U.vm.findClass ("[" ++ (FieldType.array t).toString) = some c := by rw [hvm.findClass]; exact h5
  unfold va_AOA Cond.before Cond.holds
  simp only [Cond.value]
  rw [f1, Option.bind_some]
  refine (congrArg (fun o : Option Nat => (o.bind (fun c => (U.vm.classes[c]?).map fun (k : Class) => match k.kind with | .array _ ty => decide (ty = FieldType.array t) && decide (U.vm.findClass ("[" ++ (FieldType.array t).toString) = some c) | _ => false) == some true)) hi).trans ?_
  simp [hk', hkind, f2]
theorem NS.to {s U : State} (h : NS s) (hW : s.WarmedH U.vm) : NS U := by
  refine ⟨fun w hw => ?_, va_AO.moved hW.alike h.2.1, va_AOA.moved hW.alike h.2.2⟩
  have h1 := h.1 w hw
  simp only [xnest, List.mem_cons, List.not_mem_nil, or_false] at hw
  rcases hw with rfl | rfl | rfl | rfl | rfl | rfl <;> exact va_Nw.warmM hW h1
theorem NS.calling {U : State} {g : JFrame} {mk : MethodId} {a : Array Value} (h : NS U) : NS (U.calling g mk a) := NS.to (s := U) (U := U.calling g mk a) h (State.WarmedH.refl U)
/-- the contract of a making -/
abbrev Cn {S : Type} (l : Launch) (y : MethodName) (ws : List Cond) (rm : Room) (D : va_G) (tys : List (ClassId × FieldType)) (av : List Value) (w : va_W) (post : S → Prop) (wf : S → va_W) (mc ms : Nat) : Prop := ∀ sz : Nat, Met l y ws rm (va_Pc av (fun U => Bf D tys w sz U ∧ NS U)) (va_Qv post (fun u t => Af D tys (va_A w sz) (wf u) t) (va_A w sz)) mc ms (va_A w sz)
theorem g_cn (X : Cx p s m args meth c cc nL own Ts D tys A H0 ret) (XN : NS s) {S : Type} {post : S → Prop} {wf : S → va_W} {y : MethodName} {ws : List Cond} {rm : Room} {mc ms maxL index nn b : Nat} {bytes : ByteArray} {wc : va_W} (bs : List va_W) (b2 : S → List va_W) (W2 : S → va_W) (n : Nat) (isC isR : List Nat)
    (hM : Cn l y ws rm D tys [.ref b] wc post wf mc ms) (cw : CallB R s args own index y bytes maxL none ws rm mc ms nn ∧ y.name = "<init>" ∧ (Cond.instanceMethod y).before args s = true) (hdg : decode cc pc = .ok (.invokespecial index, 3)) (hlen : 0 = nn) (hroom : (st.map fun v => v.category).sum ≤ 8) (hf : k + mc ≤ R.cells ∧ j + ms ≤ R.slots) (h1 : w = fl bs) (h2 : wc = fl (isC.filterMap (fun i => bs[i]?))) (hn : bs.length = n) (hp : (isC ++ isR).isPerm (List.range n) = true) (h3 : ∀ u : S, wf u = fl (isC.filterMap (fun i => (b2 u)[i]?))) (h4 : ∀ u : S, isR.filterMap (fun i => (b2 u)[i]?) = isR.filterMap (fun i => bs[i]?)) (h5 : ∀ u : S, (b2 u).length = n) (h6 : ∀ u : S, fl (b2 u) = W2 u)
    (kk : ∀ u : S, post u → GG p l e R s m args below meth c D A H0 nL Q (W2 u) (k + mc) (j + ms) lv (pc + 3) (st)) : GG p l e R s m args below meth c D A H0 nL Q w k j lv (pc) (.ref b :: st) := by
  intro H locs ls hP hD hS hl
  have hpm : w.Perm (wc ++ fl (isR.filterMap (fun i => bs[i]?))) := by rw [h1, h2]; exact wd_pick bs isC isR hn hp
  obtain ⟨hPc, hDc⟩ := wd_L hpm hP hD
  have hF := wd_free hpm hD hS X.2.2.1
  refine va_callv (va_runI (As := []) X.1 (hM H.size) cw ⟨(fun a U g mk h => by obtain ⟨z1, ⟨z2, z3, z4, z5⟩, z6⟩ := h; exact ⟨z1, ⟨z2, z3, va_K.moved (u := U) (U := U.calling g mk a) (Vm.Alike.refl U.vm) z4, z5⟩, z6.calling⟩), (fun U hU hW => ⟨rfl, ⟨by rw [hU], by rw [hU]; exact hPc, va_K.moved hW.alike X.2.1, hDc.weaken (fun _ _ _ _ => trivial)⟩, XN.to hW⟩)⟩ rfl hlen hl.1 rfl (lv_room hroom) hdg hf) hS (fun q _ h => hF q h) hF (fun u t H1 l1 ht hvm hw hB hz1 hk1 hS2 => ?_)
  obtain ⟨hB1, hB2, hB3⟩ := hB
  have hpm2 : (W2 u).Perm (wf u ++ fl (isR.filterMap (fun i => bs[i]?))) := by rw [← h6 u, h3 u, ← h4 u]; exact wd_pick (b2 u) isC isR (h5 u) hp
  obtain ⟨hP2, hD2⟩ := wd_back hpm hpm2 hP hD hk1 hF (by rw [ht] at hB1; exact hB1) hB3
  exact kk u hw H1 l1 ls hP2 hD2 hS2 hl
theorem g_cnN (X : Cx p s m args meth c cc nL own Ts D tys A H0 ret) (XN : NS s) {S : Type} {post : S → Prop} {wf : S → va_W} {y : MethodName} {ws : List Cond} {rm : Room} {mc ms maxL index nn b : Nat} {bytes : ByteArray} {host : String} {wc : va_W} (bs : List va_W) (b2 : S → List va_W) (W2 : S → va_W) (n : Nat) (isC isR : List Nat)
    (hM : Cn l y ws rm D tys [.ref b] wc post wf mc ms) (cw : va_CN R s args own index y host bytes maxL none ws rm mc ms nn ∧ y.name = "<init>" ∧ (Cond.instanceMethod y).before args s = true) (hdg : decode cc pc = .ok (.invokespecial index, 3)) (hlen : 0 = nn) (hroom : (st.map fun v => v.category).sum ≤ 8) (hf : k + mc ≤ R.cells ∧ j + ms ≤ R.slots) (h1 : w = fl bs) (h2 : wc = fl (isC.filterMap (fun i => bs[i]?))) (hn : bs.length = n) (hp : (isC ++ isR).isPerm (List.range n) = true) (h3 : ∀ u : S, wf u = fl (isC.filterMap (fun i => (b2 u)[i]?))) (h4 : ∀ u : S, isR.filterMap (fun i => (b2 u)[i]?) = isR.filterMap (fun i => bs[i]?)) (h5 : ∀ u : S, (b2 u).length = n) (h6 : ∀ u : S, fl (b2 u) = W2 u)
    (kk : ∀ u : S, post u → GG p l e R s m args below meth c D A H0 nL Q (W2 u) (k + mc) (j + ms) lv (pc + 3) (st)) : GG p l e R s m args below meth c D A H0 nL Q w k j lv (pc) (.ref b :: st) := by
  intro H locs ls hP hD hS hl
  have hpm : w.Perm (wc ++ fl (isR.filterMap (fun i => bs[i]?))) := by rw [h1, h2]; exact wd_pick bs isC isR hn hp
  obtain ⟨hPc, hDc⟩ := wd_L hpm hP hD
  have hF := wd_free hpm hD hS X.2.2.1
  refine va_callv (va_runIN (As := []) X.1 (hM H.size) cw ⟨(fun a U g mk h => by obtain ⟨z1, ⟨z2, z3, z4, z5⟩, z6⟩ := h; exact ⟨z1, ⟨z2, z3, va_K.moved (u := U) (U := U.calling g mk a) (Vm.Alike.refl U.vm) z4, z5⟩, z6.calling⟩), (fun U hU hW => ⟨rfl, ⟨by rw [hU], by rw [hU]; exact hPc, va_K.moved hW.alike X.2.1, hDc.weaken (fun _ _ _ _ => trivial)⟩, XN.to hW⟩)⟩ rfl hlen hl.1 rfl (lv_room hroom) hdg hf) hS (fun q _ h => hF q h) hF (fun u t H1 l1 ht hvm hw hB hz1 hk1 hS2 => ?_)
  obtain ⟨hB1, hB2, hB3⟩ := hB
  have hpm2 : (W2 u).Perm (wf u ++ fl (isR.filterMap (fun i => bs[i]?))) := by rw [← h6 u, h3 u, ← h4 u]; exact wd_pick (b2 u) isC isR (h5 u) hp
  obtain ⟨hP2, hD2⟩ := wd_back hpm hpm2 hP hD hk1 hF (by rw [ht] at hB1; exact hB1) hB3
  exact kk u hw H1 l1 ls hP2 hD2 hS2 hl
/-- the beginning of a making -/
theorem g_ofn {y : MethodName} {ws ws2 : List Cond} {rm : Room} {av : List Value} {w0 : va_W} {sz : Nat} {Qc : Array Value → State → Outcome → State → Prop} {mc ms maxL : Nat} {bytes : ByteArray} (hy : plainName y.cls = true) (hini9 : y.name = "<init>") (hws : ws = Cond.code y bytes maxL ret :: ws2) (hcls : y.cls = own) (hn : (lg_sl av).length ≤ maxL) (lv0 : List (Nat × Value)) (hlv : lv_args 0 av = lv0)
    (body : ∀ (p : Program) (e : Env) (s : State) (m : MethodId) (args : Array Value) (below : List Frame) (meth : Method) (c : Code), sz = s.heap.size → meth.name = "<init>" → NS s → Cx p s m args meth c bytes maxL own ws D tys (va_A w0 s.heap.size) s.heap ret → GG p l e rm s m args below meth c D (va_A w0 s.heap.size) s.heap maxL (MQ below Qc args s mc ms (va_A w0 sz)) w0 0 0 lv0 0 []) : Met l y ws rm (va_Pc av (fun U => Bf D tys w0 sz U ∧ NS U)) Qc mc ms (va_A w0 sz) := by
  refine Met.ofW (cc := bytes) (maxL := maxL) (ret := ret) hy hws ?_
  intro p e s m args below meth c s₁ B hml hv
  obtain ⟨hav, ⟨hsz, hP, hK, hD0⟩, hN⟩ := hv
  subst hav
  subst hlv
  have hown : s.vm.findClass own = some m.cls := by rw [← hcls]; exact findClass_of_methodNamed B.named
  have hin : meth.name = "<init>" := by rw [← hini9]; exact (name_of_methodNamed B.named B.method).1
  have h := body p e s m av.toArray below meth c hsz.symm hin hN ⟨⟨B.exec, B.bytes, hml, hown, atoms_spec (ws := ws) B.pre⟩, hK, fun q h => Or.inr h, B.returns, B.notSynchronized⟩
  have hl := lv_entry av (n := maxL) hn
  rw [lg_entry_eq]
  exact h s.heap [] _ hP (hD0.self) va_S.rf hl
end GK2
