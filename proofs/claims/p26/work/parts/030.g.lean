/-! What a walk holds all the time (Cx), and the walk over a world that is a list of cells (GG): heap, written places and locals are bound inside. -/
abbrev Mem : Type := Nat → Nat → Int32
/-- memory v, but x in row j at place i -/
def mset (v : Mem) (j i : Nat) (x : Int32) : Mem := fun j2 => if j2 = j then upd (v j) i x else v j2
/-- memory v, but f in row j -/
def mrow (v : Mem) (j : Nat) (f : Nat → Int32) : Mem := fun j2 => if j2 = j then f else v j2
abbrev Cx (p : Program) (s : State) (m : MethodId) (args : Array Value) (meth : Method) (c : Code) (cc : ByteArray) (nL : Nat) (own : String) (Ts : List Cond) (D : va_G) (tys : List (ClassId × FieldType)) (A : Nat → Prop) (H0 : Heap) (ret : Option FieldType) : Prop :=
  (p.tables.exec = Jvm.exec ∧ c.code = cc ∧ c.maxLocals = nL ∧ s.vm.findClass own = some m.cls ∧ ∀ w ∈ Ts, w.before args s = true) ∧ va_K D vwCl tys s ∧ (∀ q : Nat, H0.size ≤ q → A q) ∧ meth.sig.returnType = ret ∧ meth.locks = false
def GG (p : Program) (l : Launch) (e : Env) (R : Room) (s : State) (m : MethodId) (args : Array Value) (below : List Frame) (meth : Method) (c : Code) (D : va_G) (A : Nat → Prop) (H0 : Heap) (nL : Nat) (Q : State → Prop) (w : va_W) (k j : Nat) (lv : List (Nat × Value)) (pc : Nat) (st : List Value) : Prop :=
  ∀ (H : Heap) (locs : List Loc) (ls : Array Slot), va_P D vwCl w H → va_D A w → va_S A H0 H locs → lv_has ls nL lv → W p l e R s m args below meth c H locs k j Q (F0 m pc ls st)
/-- the world before a method, and behind it -/
abbrev Bf (D : va_G) (tys : List (ClassId × FieldType)) (w : va_W) (sz : Nat) (U : State) : Prop := U.heap.size = sz ∧ va_P D vwCl w U.heap ∧ va_K D vwCl tys U ∧ va_D (fun _ => True) w
abbrev Af (D : va_G) (tys : List (ClassId × FieldType)) (A : Nat → Prop) (w : va_W) (t : State) : Prop := va_P D vwCl w t.heap ∧ va_K D vwCl tys t ∧ va_D A w
/-- contracts: answer and world behind, by a post-condition that the caller chooses -/
abbrev Ci {S : Type} (l : Launch) (y : MethodName) (ws : List Cond) (rm : Room) (D : va_G) (tys : List (ClassId × FieldType)) (av : List Value) (w : va_W) (post : Int32 → S → Prop) (wf : S → va_W) (mc ms : Nat) : Prop := ∀ sz : Nat, Met l y ws rm (va_Pc av (Bf D tys w sz)) (va_Qi post (fun u t => Af D tys (va_A w sz) (wf u) t) (va_A w sz)) mc ms (va_A w sz)
abbrev Cl {S : Type} (l : Launch) (y : MethodName) (ws : List Cond) (rm : Room) (D : va_G) (tys : List (ClassId × FieldType)) (av : List Value) (w : va_W) (post : Int64 → S → Prop) (wf : S → va_W) (mc ms : Nat) : Prop := ∀ sz : Nat, Met l y ws rm (va_Pc av (Bf D tys w sz)) (va_Ql post (fun u t => Af D tys (va_A w sz) (wf u) t) (va_A w sz)) mc ms (va_A w sz)
abbrev Cd {S : Type} (l : Launch) (y : MethodName) (ws : List Cond) (rm : Room) (D : va_G) (tys : List (ClassId × FieldType)) (av : List Value) (w : va_W) (post : UInt64 → S → Prop) (wf : S → va_W) (mc ms : Nat) : Prop := ∀ sz : Nat, Met l y ws rm (va_Pc av (Bf D tys w sz)) (va_Qd post (fun u t => Af D tys (va_A w sz) (wf u) t) (va_A w sz)) mc ms (va_A w sz)
abbrev Cv {S : Type} (l : Launch) (y : MethodName) (ws : List Cond) (rm : Room) (D : va_G) (tys : List (ClassId × FieldType)) (av : List Value) (w : va_W) (post : S → Prop) (wf : S → va_W) (mc ms : Nat) : Prop := ∀ sz : Nat, Met l y ws rm (va_Pc av (Bf D tys w sz)) (va_Qv post (fun u t => Af D tys (va_A w sz) (wf u) t) (va_A w sz)) mc ms (va_A w sz)
/-- a world out of blocks -/
def fl : List va_W → va_W
  | [] => []
  | [a] => a
  | a :: b :: l => a ++ fl (b :: l)
theorem fl_cons (a : va_W) : ∀ l : List va_W, (fl (a :: l)).Perm (a ++ fl l)
  | [] => by rw [fl, fl, List.append_nil]
  | _ :: _ => List.Perm.refl _
theorem fl_app : ∀ l1 l2 : List va_W, (fl (l1 ++ l2)).Perm (fl l1 ++ fl l2)
  | [], l2 => List.Perm.refl _
  | a :: l, l2 => ((fl_cons a (l ++ l2)).trans ((fl_app l l2).append_left a)).trans (by rw [← List.append_assoc]; exact (fl_cons a l).symm.append_right _)
theorem fl_perm {l1 l2 : List va_W} (h : l1.Perm l2) : (fl l1).Perm (fl l2) := by
  induction h with
  | nil => exact List.Perm.refl _
  | cons a _ ih => exact ((fl_cons a _).trans (ih.append_left a)).trans (fl_cons a _).symm
  | swap a b l =>
    refine ((fl_cons b (a :: l)).trans ((fl_cons a l).append_left b)).trans ?_
    refine List.Perm.trans ?_ ((fl_cons a (b :: l)).trans ((fl_cons b l).append_left a)).symm
    rw [← List.append_assoc, ← List.append_assoc]
    exact List.perm_append_comm.append_right _
  | trans _ _ h1 h2 => exact h1.trans h2
theorem va_P_mem {D : va_G} {w : va_W} {H : Heap} : va_P D vwCl w H ↔ ∀ q ∈ w, va_at D vwCl q H := by
  constructor
  · intro h q hq
    obtain ⟨k, hk⟩ := List.getElem?_of_mem hq
    exact h k q hk
  · intro h k q hk
    exact h q (List.mem_of_getElem? hk)
theorem va_D_pw {A : Nat → Prop} {w : va_W} : va_D A w ↔ w.Pairwise (fun p q => p.1 ≠ q.1) ∧ ∀ q ∈ w, A q.1 := by
  rw [List.pairwise_iff_getElem]
  constructor
  · intro h
    refine ⟨fun i j hi hj hij e => ?_, fun q hq => ?_⟩
    · have := h.1 i j _ _ (List.getElem?_eq_getElem hi) (List.getElem?_eq_getElem hj) e
      omega
    · obtain ⟨k, hk⟩ := List.getElem?_of_mem hq
      exact h.2 k q hk
  · intro h
    refine ⟨fun i j p q hi hj e => ?_, fun k q hk => h.2 q (List.mem_of_getElem? hk)⟩
    obtain ⟨hi1, hi2⟩ := List.getElem?_eq_some_iff.mp hi
    obtain ⟨hj1, hj2⟩ := List.getElem?_eq_some_iff.mp hj
    rcases Nat.lt_trichotomy i j with g | g | g
    · exact absurd (by rw [hi2, hj2]; exact e) (h.1 i j hi1 hj1 g)
    · exact g
    · exact absurd (by rw [hi2, hj2]; exact e.symm) (h.1 j i hj1 hi1 g)
theorem wd_P {D : va_G} {w w2 : va_W} {H : Heap} (h : w.Perm w2) (hP : va_P D vwCl w H) : va_P D vwCl w2 H := va_P_mem.mpr fun q hq => va_P_mem.mp hP q (h.mem_iff.mpr hq)
theorem wd_D {A : Nat → Prop} {w w2 : va_W} (h : w.Perm w2) (hD : va_D A w) : va_D A w2 := by
  obtain ⟨h1, h2⟩ := va_D_pw.mp hD
  exact va_D_pw.mpr ⟨h1.perm h (fun hab => Ne.symm hab), fun q hq => h2 q (h.mem_iff.mpr hq)⟩
theorem wd_L {D : va_G} {A : Nat → Prop} {w wc wr : va_W} {H : Heap} (h : w.Perm (wc ++ wr)) (hP : va_P D vwCl w H) (hD : va_D A w) : va_P D vwCl wc H ∧ va_D A wc := by
  have hP2 := wd_P h hP
  have hD2 := va_D_pw.mp (wd_D h hD)
  exact ⟨va_P_mem.mpr fun q hq => va_P_mem.mp hP2 q (List.mem_append_left _ hq), va_D_pw.mpr ⟨(List.pairwise_append.mp hD2.1).1, fun q hq => hD2.2 q (List.mem_append_left _ hq)⟩⟩
theorem wd_free {A0 : Nat → Prop} {w wc wr : va_W} {H0 H : Heap} {locs : List Loc} (h : w.Perm (wc ++ wr)) (hD : va_D A0 w) (hS : va_S A0 H0 H locs) (hA : ∀ q, H0.size ≤ q → A0 q) : ∀ q, va_A wc H.size q → A0 q := by
  intro q hq
  rcases hq with ⟨k, e, hk⟩ | hq
  · exact (va_D_pw.mp (wd_D h hD)).2 (q, e) (List.mem_append_left _ (List.mem_of_getElem? hk))
  · exact hA q (Nat.le_trans hS.1 hq)
/-- the world behind a call: what the callee left, and the caller's other cells -/
theorem wd_back {A0 : Nat → Prop} {D : va_G} {w wc wr w1 w2 : va_W} {H H1 : Heap} (h : w.Perm (wc ++ wr)) (h2 : w2.Perm (w1 ++ wr)) (hP : va_P D vwCl w H) (hD : va_D A0 w)
    (hk : ∀ q : Nat, q < H.size → ¬ va_A wc H.size q → H1[q]? = H[q]?) (hF : ∀ q, va_A wc H.size q → A0 q) (hP1 : va_P D vwCl w1 H1) (hD1 : va_D (va_A wc H.size) w1) : va_P D vwCl w2 H1 ∧ va_D A0 w2 := by
  have hPm := va_P_mem.mp (wd_P h hP)
  obtain ⟨hp, hm⟩ := va_D_pw.mp (wd_D h hD)
  obtain ⟨-, hpr, hcr⟩ := List.pairwise_append.mp hp
  have apart : ∀ q ∈ wr, q.1 < H.size ∧ ¬ va_A wc H.size q.1 := by
    intro q hq
    have hl := (hPm q (List.mem_append_right _ hq)).lt
    refine ⟨hl, fun hin => ?_⟩
    rcases hin with ⟨k, e, hk⟩ | hge
    · exact hcr (q.1, e) (List.mem_of_getElem? hk) q hq rfl
    · omega
  refine ⟨wd_P h2.symm (va_P_mem.mpr fun q hq => ?_), wd_D h2.symm (va_D_pw.mpr ⟨List.pairwise_append.mpr ⟨(va_D_pw.mp hD1).1, hpr, fun a ha b hb e => ?_⟩, fun q hq => ?_⟩)⟩
  · rcases List.mem_append.mp hq with g | g
    · exact va_P_mem.mp hP1 q g
    · obtain ⟨g1, g2⟩ := apart q g
      exact (hPm q (List.mem_append_right _ g)).kept (hk q.1 g1 g2)
  · exact (apart b hb).2 (by rw [← e]; exact (va_D_pw.mp hD1).2 a ha)
  · rcases List.mem_append.mp hq with g | g
    · exact hF q.1 ((va_D_pw.mp hD1).2 q g)
    · exact hm q (List.mem_append_right _ g)
theorem pick_all {α : Type} (bs : List α) : (List.range bs.length).filterMap (fun i => bs[i]?) = bs := by
  induction bs with
  | nil => rfl
  | cons a l ih =>
    rw [List.length_cons, List.range_succ_eq_map, List.filterMap_cons]
    simp only [List.getElem?_cons_zero, List.filterMap_map]
    congr 1
/-- blocks picked by two lists of places that hold each place once -/
theorem wd_pick (bs : List va_W) (isC isR : List Nat) {n : Nat} (hn : bs.length = n) (hp : (isC ++ isR).isPerm (List.range n) = true) : (fl bs).Perm (fl (isC.filterMap (fun i => bs[i]?)) ++ fl (isR.filterMap (fun i => bs[i]?))) := by
  subst hn
  have h1 := (List.isPerm_iff.mp hp).filterMap (fun i => bs[i]?)
  rw [pick_all, List.filterMap_append] at h1
  exact (fl_perm h1.symm).trans (fl_app _ _)
section GK
variable {p : Program} {l : Launch} {e : Env} {R : Room} {s : State} {m : MethodId} {args : Array Value} {below : List Frame} {meth : Method} {c : Code} {cc : ByteArray} {nL : Nat} {own : String} {Ts : List Cond} {D : va_G} {tys : List (ClassId × FieldType)} {A : Nat → Prop} {H0 : Heap} {ret : Option FieldType} {Q : State → Prop} {w : va_W} {k j : Nat} {lv lv2 : List (Nat × Value)} {pc : Nat} {st : List Value}
theorem g_iconst (X : Cx p s m args meth c cc nL own Ts D tys A H0 ret) {n : Int} {v : Int32} (hv : Int32.ofInt n = v) (hdg : decode cc pc = .ok (.iconst n, 1))
    (kk : GG p l e R s m args below meth c D A H0 nL Q w k j lv (pc + 1) (.int v :: st)) : GG p l e R s m args below meth c D A H0 nL Q w k j lv (pc) (st) := fun H locs ls hP hD hS hl => lv_iconst X.1.1 X.1.2.1 hdg hv (kk H locs ls hP hD hS hl)
theorem g_bipush (X : Cx p s m args meth c cc nL own Ts D tys A H0 ret) {n : Int} {v : Int32} (hv : (Int8.ofInt n).toInt32 = v) (hdg : decode cc pc = .ok (.bipush n, 2))
    (kk : GG p l e R s m args below meth c D A H0 nL Q w k j lv (pc + 2) (.int v :: st)) : GG p l e R s m args below meth c D A H0 nL Q w k j lv (pc) (st) := fun H locs ls hP hD hS hl => lv_bipush X.1.1 X.1.2.1 hdg hv (kk H locs ls hP hD hS hl)
theorem g_sipush (X : Cx p s m args meth c cc nL own Ts D tys A H0 ret) {n : Int} {v : Int32} (hv : (Int16.ofInt n).toInt32 = v) (hdg : decode cc pc = .ok (.sipush n, 3))
    (kk : GG p l e R s m args below meth c D A H0 nL Q w k j lv (pc + 3) (.int v :: st)) : GG p l e R s m args below meth c D A H0 nL Q w k j lv (pc) (st) := fun H locs ls hP hD hS hl => lv_sipush X.1.1 X.1.2.1 hdg hv (kk H locs ls hP hD hS hl)
theorem g_lconst (X : Cx p s m args meth c cc nL own Ts D tys A H0 ret) {n : Fin 2} {v : Int64} (hv : Int64.ofNat (n : Nat) = v) (hdg : decode cc pc = .ok (.lconst n, 1))
    (kk : GG p l e R s m args below meth c D A H0 nL Q w k j lv (pc + 1) (.long v :: st)) : GG p l e R s m args below meth c D A H0 nL Q w k j lv (pc) (st) := fun H locs ls hP hD hS hl => lv_lconst X.1.1 X.1.2.1 hdg hv (kk H locs ls hP hD hS hl)
theorem g_iload_n (X : Cx p s m args meth c cc nL own Ts D tys A H0 ret) {q : Fin 4} {i : Nat} {x : Int32} (n : Nat) (hdg : decode cc pc = .ok (.iload_n q, 1)) (hi : (q : Nat) = i) (hk : lv[n]? = some (i, .int x))
    (kk : GG p l e R s m args below meth c D A H0 nL Q w k j lv (pc + 1) (.int x :: st)) : GG p l e R s m args below meth c D A H0 nL Q w k j lv (pc) (st) := fun H locs ls hP hD hS hl => lv_iload_n X.1.1 X.1.2.1 hdg hi (lv_at hl n hk) (kk H locs ls hP hD hS hl)
theorem g_iload (X : Cx p s m args meth c cc nL own Ts D tys A H0 ret) {i : Nat} {x : Int32} (n : Nat) (hdg : decode cc pc = .ok (.iload i, 2)) (hk : lv[n]? = some (i, .int x))
    (kk : GG p l e R s m args below meth c D A H0 nL Q w k j lv (pc + 2) (.int x :: st)) : GG p l e R s m args below meth c D A H0 nL Q w k j lv (pc) (st) := fun H locs ls hP hD hS hl => lv_iload X.1.1 X.1.2.1 hdg (lv_at hl n hk) (kk H locs ls hP hD hS hl)
theorem g_lload_n (X : Cx p s m args meth c cc nL own Ts D tys A H0 ret) {q : Fin 4} {i : Nat} {x : Int64} (n : Nat) (hdg : decode cc pc = .ok (.lload_n q, 1)) (hi : (q : Nat) = i) (hk : lv[n]? = some (i, .long x))
    (kk : GG p l e R s m args below meth c D A H0 nL Q w k j lv (pc + 1) (.long x :: st)) : GG p l e R s m args below meth c D A H0 nL Q w k j lv (pc) (st) := fun H locs ls hP hD hS hl => lv_lload_n X.1.1 X.1.2.1 hdg hi (lv_at hl n hk) (kk H locs ls hP hD hS hl)
theorem g_lload (X : Cx p s m args meth c cc nL own Ts D tys A H0 ret) {i : Nat} {x : Int64} (n : Nat) (hdg : decode cc pc = .ok (.lload i, 2)) (hk : lv[n]? = some (i, .long x))
    (kk : GG p l e R s m args below meth c D A H0 nL Q w k j lv (pc + 2) (.long x :: st)) : GG p l e R s m args below meth c D A H0 nL Q w k j lv (pc) (st) := fun H locs ls hP hD hS hl => lv_lload X.1.1 X.1.2.1 hdg (lv_at hl n hk) (kk H locs ls hP hD hS hl)
theorem g_dload_n (X : Cx p s m args meth c cc nL own Ts D tys A H0 ret) {q : Fin 4} {i : Nat} {x : UInt64} (n : Nat) (hdg : decode cc pc = .ok (.dload_n q, 1)) (hi : (q : Nat) = i) (hk : lv[n]? = some (i, .double x))
    (kk : GG p l e R s m args below meth c D A H0 nL Q w k j lv (pc + 1) (.double x :: st)) : GG p l e R s m args below meth c D A H0 nL Q w k j lv (pc) (st) := fun H locs ls hP hD hS hl => lv_dload_n X.1.1 X.1.2.1 hdg hi (lv_at hl n hk) (kk H locs ls hP hD hS hl)
theorem g_dload (X : Cx p s m args meth c cc nL own Ts D tys A H0 ret) {i : Nat} {x : UInt64} (n : Nat) (hdg : decode cc pc = .ok (.dload i, 2)) (hk : lv[n]? = some (i, .double x))
    (kk : GG p l e R s m args below meth c D A H0 nL Q w k j lv (pc + 2) (.double x :: st)) : GG p l e R s m args below meth c D A H0 nL Q w k j lv (pc) (st) := fun H locs ls hP hD hS hl => lv_dload X.1.1 X.1.2.1 hdg (lv_at hl n hk) (kk H locs ls hP hD hS hl)
theorem g_aload_n (X : Cx p s m args meth c cc nL own Ts D tys A H0 ret) {q : Fin 4} {i : Nat} {x : Nat} (n : Nat) (hdg : decode cc pc = .ok (.aload_n q, 1)) (hi : (q : Nat) = i) (hk : lv[n]? = some (i, .ref x))
    (kk : GG p l e R s m args below meth c D A H0 nL Q w k j lv (pc + 1) (.ref x :: st)) : GG p l e R s m args below meth c D A H0 nL Q w k j lv (pc) (st) := fun H locs ls hP hD hS hl => lv_aload_n X.1.1 X.1.2.1 hdg hi (lv_at hl n hk) (kk H locs ls hP hD hS hl)
theorem g_aload (X : Cx p s m args meth c cc nL own Ts D tys A H0 ret) {i : Nat} {x : Nat} (n : Nat) (hdg : decode cc pc = .ok (.aload i, 2)) (hk : lv[n]? = some (i, .ref x))
    (kk : GG p l e R s m args below meth c D A H0 nL Q w k j lv (pc + 2) (.ref x :: st)) : GG p l e R s m args below meth c D A H0 nL Q w k j lv (pc) (st) := fun H locs ls hP hD hS hl => lv_aload X.1.1 X.1.2.1 hdg (lv_at hl n hk) (kk H locs ls hP hD hS hl)
theorem g_istore_n (X : Cx p s m args meth c cc nL own Ts D tys A H0 ret) (lv2 : List (Nat × Value)) {q : Fin 4} {i : Nat} {x : Int32} (hdg : decode cc pc = .ok (.istore_n q, 1)) (hi : (q : Nat) = i) (hn : i < nL) (hlv : (i, Value.int x) :: lv.filter (fun q => !(q.1 == i) && !(q.1 + 1 == i && q.2.category == 2)) = lv2)
    (kk : GG p l e R s m args below meth c D A H0 nL Q w k j lv2 (pc + 1) (st)) : GG p l e R s m args below meth c D A H0 nL Q w k j lv (pc) (.int x :: st) := fun H locs ls hP hD hS hl => lv_istore_n X.1.1 X.1.2.1 hdg hi hl hn hlv (fun ls2 hl2 => kk H locs ls2 hP hD hS hl2)
theorem g_istore (X : Cx p s m args meth c cc nL own Ts D tys A H0 ret) (lv2 : List (Nat × Value)) {i : Nat} {x : Int32} (hdg : decode cc pc = .ok (.istore i, 2)) (hn : i < nL) (hlv : (i, Value.int x) :: lv.filter (fun q => !(q.1 == i) && !(q.1 + 1 == i && q.2.category == 2)) = lv2)
    (kk : GG p l e R s m args below meth c D A H0 nL Q w k j lv2 (pc + 2) (st)) : GG p l e R s m args below meth c D A H0 nL Q w k j lv (pc) (.int x :: st) := fun H locs ls hP hD hS hl => lv_istore X.1.1 X.1.2.1 hdg hl hn hlv (fun ls2 hl2 => kk H locs ls2 hP hD hS hl2)
theorem g_lstore_n (X : Cx p s m args meth c cc nL own Ts D tys A H0 ret) (lv2 : List (Nat × Value)) {q : Fin 4} {i : Nat} {x : Int64} (hdg : decode cc pc = .ok (.lstore_n q, 1)) (hi : (q : Nat) = i) (hn : i + 1 < nL) (hlv : (i, Value.long x) :: lv.filter (fun q => !(q.1 == i) && (!(q.1 == i + 1) && !(q.1 + 1 == i && q.2.category == 2))) = lv2)
    (kk : GG p l e R s m args below meth c D A H0 nL Q w k j lv2 (pc + 1) (st)) : GG p l e R s m args below meth c D A H0 nL Q w k j lv (pc) (.long x :: st) := fun H locs ls hP hD hS hl => lv_lstore_n X.1.1 X.1.2.1 hdg hi hl hn hlv (fun ls2 hl2 => kk H locs ls2 hP hD hS hl2)
theorem g_lstore (X : Cx p s m args meth c cc nL own Ts D tys A H0 ret) (lv2 : List (Nat × Value)) {i : Nat} {x : Int64} (hdg : decode cc pc = .ok (.lstore i, 2)) (hn : i + 1 < nL) (hlv : (i, Value.long x) :: lv.filter (fun q => !(q.1 == i) && (!(q.1 == i + 1) && !(q.1 + 1 == i && q.2.category == 2))) = lv2)
    (kk : GG p l e R s m args below meth c D A H0 nL Q w k j lv2 (pc + 2) (st)) : GG p l e R s m args below meth c D A H0 nL Q w k j lv (pc) (.long x :: st) := fun H locs ls hP hD hS hl => lv_lstore X.1.1 X.1.2.1 hdg hl hn hlv (fun ls2 hl2 => kk H locs ls2 hP hD hS hl2)
theorem g_dstore_n (X : Cx p s m args meth c cc nL own Ts D tys A H0 ret) (lv2 : List (Nat × Value)) {q : Fin 4} {i : Nat} {x : UInt64} (hdg : decode cc pc = .ok (.dstore_n q, 1)) (hi : (q : Nat) = i) (hn : i + 1 < nL) (hlv : (i, Value.double x) :: lv.filter (fun q => !(q.1 == i) && (!(q.1 == i + 1) && !(q.1 + 1 == i && q.2.category == 2))) = lv2)
    (kk : GG p l e R s m args below meth c D A H0 nL Q w k j lv2 (pc + 1) (st)) : GG p l e R s m args below meth c D A H0 nL Q w k j lv (pc) (.double x :: st) := fun H locs ls hP hD hS hl => lv_dstore_n X.1.1 X.1.2.1 hdg hi hl hn hlv (fun ls2 hl2 => kk H locs ls2 hP hD hS hl2)
theorem g_dstore (X : Cx p s m args meth c cc nL own Ts D tys A H0 ret) (lv2 : List (Nat × Value)) {i : Nat} {x : UInt64} (hdg : decode cc pc = .ok (.dstore i, 2)) (hn : i + 1 < nL) (hlv : (i, Value.double x) :: lv.filter (fun q => !(q.1 == i) && (!(q.1 == i + 1) && !(q.1 + 1 == i && q.2.category == 2))) = lv2)
    (kk : GG p l e R s m args below meth c D A H0 nL Q w k j lv2 (pc + 2) (st)) : GG p l e R s m args below meth c D A H0 nL Q w k j lv (pc) (.double x :: st) := fun H locs ls hP hD hS hl => lv_dstore X.1.1 X.1.2.1 hdg hl hn hlv (fun ls2 hl2 => kk H locs ls2 hP hD hS hl2)
theorem g_astore_n (X : Cx p s m args meth c cc nL own Ts D tys A H0 ret) (lv2 : List (Nat × Value)) {q : Fin 4} {i : Nat} {x : Nat} (hdg : decode cc pc = .ok (.astore_n q, 1)) (hi : (q : Nat) = i) (hn : i < nL) (hlv : (i, Value.ref x) :: lv.filter (fun q => !(q.1 == i) && !(q.1 + 1 == i && q.2.category == 2)) = lv2)
    (kk : GG p l e R s m args below meth c D A H0 nL Q w k j lv2 (pc + 1) (st)) : GG p l e R s m args below meth c D A H0 nL Q w k j lv (pc) (.ref x :: st) := fun H locs ls hP hD hS hl => lv_astore_n X.1.1 X.1.2.1 hdg hi hl hn hlv (fun ls2 hl2 => kk H locs ls2 hP hD hS hl2)
theorem g_astore (X : Cx p s m args meth c cc nL own Ts D tys A H0 ret) (lv2 : List (Nat × Value)) {i : Nat} {x : Nat} (hdg : decode cc pc = .ok (.astore i, 2)) (hn : i < nL) (hlv : (i, Value.ref x) :: lv.filter (fun q => !(q.1 == i) && !(q.1 + 1 == i && q.2.category == 2)) = lv2)
    (kk : GG p l e R s m args below meth c D A H0 nL Q w k j lv2 (pc + 2) (st)) : GG p l e R s m args below meth c D A H0 nL Q w k j lv (pc) (.ref x :: st) := fun H locs ls hP hD hS hl => lv_astore X.1.1 X.1.2.1 hdg hl hn hlv (fun ls2 hl2 => kk H locs ls2 hP hD hS hl2)
theorem g_iinc (X : Cx p s m args meth c cc nL own Ts D tys A H0 ret) (lv2 : List (Nat × Value)) (n : Nat) {i : Nat} {d : Int} {x v : Int32} (hdg : decode cc pc = .ok (.iinc i d, 3)) (hk : lv[n]? = some (i, .int x)) (hv : x + Int32.ofInt d = v) (hn : i < nL) (hlv : (i, Value.int v) :: lv.filter (fun q => !(q.1 == i) && !(q.1 + 1 == i && q.2.category == 2)) = lv2)
    (kk : GG p l e R s m args below meth c D A H0 nL Q w k j lv2 (pc + 3) (st)) : GG p l e R s m args below meth c D A H0 nL Q w k j lv (pc) (st) := fun H locs ls hP hD hS hl => lv_iinc X.1.1 X.1.2.1 hdg hl hk hv hn hlv (fun ls2 hl2 => kk H locs ls2 hP hD hS hl2)
theorem g_iadd (X : Cx p s m args meth c cc nL own Ts D tys A H0 ret) {x y : Int32}  (hdg : decode cc pc = .ok (.iadd, 1))
    (kk : GG p l e R s m args below meth c D A H0 nL Q w k j lv (pc + 1) (.int (x + y) :: st)) : GG p l e R s m args below meth c D A H0 nL Q w k j lv (pc) (.int y :: .int x :: st) := fun H locs ls hP hD hS hl => lv_iadd X.1.1 X.1.2.1 hdg  (kk H locs ls hP hD hS hl)
theorem g_isub (X : Cx p s m args meth c cc nL own Ts D tys A H0 ret) {x y : Int32}  (hdg : decode cc pc = .ok (.isub, 1))
    (kk : GG p l e R s m args below meth c D A H0 nL Q w k j lv (pc + 1) (.int (x - y) :: st)) : GG p l e R s m args below meth c D A H0 nL Q w k j lv (pc) (.int y :: .int x :: st) := fun H locs ls hP hD hS hl => lv_isub X.1.1 X.1.2.1 hdg  (kk H locs ls hP hD hS hl)
theorem g_imul (X : Cx p s m args meth c cc nL own Ts D tys A H0 ret) {x y : Int32}  (hdg : decode cc pc = .ok (.imul, 1))
    (kk : GG p l e R s m args below meth c D A H0 nL Q w k j lv (pc + 1) (.int (x * y) :: st)) : GG p l e R s m args below meth c D A H0 nL Q w k j lv (pc) (.int y :: .int x :: st) := fun H locs ls hP hD hS hl => lv_imul X.1.1 X.1.2.1 hdg  (kk H locs ls hP hD hS hl)
theorem g_iand (X : Cx p s m args meth c cc nL own Ts D tys A H0 ret) {x y : Int32}  (hdg : decode cc pc = .ok (.iand, 1))
    (kk : GG p l e R s m args below meth c D A H0 nL Q w k j lv (pc + 1) (.int (x &&& y) :: st)) : GG p l e R s m args below meth c D A H0 nL Q w k j lv (pc) (.int y :: .int x :: st) := fun H locs ls hP hD hS hl => lv_iand X.1.1 X.1.2.1 hdg  (kk H locs ls hP hD hS hl)
theorem g_ior (X : Cx p s m args meth c cc nL own Ts D tys A H0 ret) {x y : Int32}  (hdg : decode cc pc = .ok (.ior, 1))
    (kk : GG p l e R s m args below meth c D A H0 nL Q w k j lv (pc + 1) (.int (x ||| y) :: st)) : GG p l e R s m args below meth c D A H0 nL Q w k j lv (pc) (.int y :: .int x :: st) := fun H locs ls hP hD hS hl => lv_ior X.1.1 X.1.2.1 hdg  (kk H locs ls hP hD hS hl)
theorem g_ixor (X : Cx p s m args meth c cc nL own Ts D tys A H0 ret) {x y : Int32}  (hdg : decode cc pc = .ok (.ixor, 1))
    (kk : GG p l e R s m args below meth c D A H0 nL Q w k j lv (pc + 1) (.int (x ^^^ y) :: st)) : GG p l e R s m args below meth c D A H0 nL Q w k j lv (pc) (.int y :: .int x :: st) := fun H locs ls hP hD hS hl => lv_ixor X.1.1 X.1.2.1 hdg  (kk H locs ls hP hD hS hl)
theorem g_idiv (X : Cx p s m args meth c cc nL own Ts D tys A H0 ret) {x y : Int32} (hne : ¬ y = 0) (hdg : decode cc pc = .ok (.idiv, 1))
    (kk : GG p l e R s m args below meth c D A H0 nL Q w k j lv (pc + 1) (.int (x / y) :: st)) : GG p l e R s m args below meth c D A H0 nL Q w k j lv (pc) (.int y :: .int x :: st) := fun H locs ls hP hD hS hl => lv_idiv X.1.1 X.1.2.1 hdg hne (kk H locs ls hP hD hS hl)
theorem g_irem (X : Cx p s m args meth c cc nL own Ts D tys A H0 ret) {x y : Int32} (hne : ¬ y = 0) (hdg : decode cc pc = .ok (.irem, 1))
    (kk : GG p l e R s m args below meth c D A H0 nL Q w k j lv (pc + 1) (.int (x - x / y * y) :: st)) : GG p l e R s m args below meth c D A H0 nL Q w k j lv (pc) (.int y :: .int x :: st) := fun H locs ls hP hD hS hl => lv_irem X.1.1 X.1.2.1 hdg hne (kk H locs ls hP hD hS hl)
theorem g_ishl (X : Cx p s m args meth c cc nL own Ts D tys A H0 ret) {x y : Int32}  (hdg : decode cc pc = .ok (.ishl, 1))
    (kk : GG p l e R s m args below meth c D A H0 nL Q w k j lv (pc + 1) (.int (x <<< (y &&& 31)) :: st)) : GG p l e R s m args below meth c D A H0 nL Q w k j lv (pc) (.int y :: .int x :: st) := fun H locs ls hP hD hS hl => lv_ishl X.1.1 X.1.2.1 hdg  (kk H locs ls hP hD hS hl)
theorem g_ishr (X : Cx p s m args meth c cc nL own Ts D tys A H0 ret) {x y : Int32}  (hdg : decode cc pc = .ok (.ishr, 1))
    (kk : GG p l e R s m args below meth c D A H0 nL Q w k j lv (pc + 1) (.int (x >>> (y &&& 31)) :: st)) : GG p l e R s m args below meth c D A H0 nL Q w k j lv (pc) (.int y :: .int x :: st) := fun H locs ls hP hD hS hl => lv_ishr X.1.1 X.1.2.1 hdg  (kk H locs ls hP hD hS hl)
theorem g_ladd (X : Cx p s m args meth c cc nL own Ts D tys A H0 ret) {x y : Int64}  (hdg : decode cc pc = .ok (.ladd, 1))
    (kk : GG p l e R s m args below meth c D A H0 nL Q w k j lv (pc + 1) (.long (x + y) :: st)) : GG p l e R s m args below meth c D A H0 nL Q w k j lv (pc) (.long y :: .long x :: st) := fun H locs ls hP hD hS hl => lv_ladd X.1.1 X.1.2.1 hdg  (kk H locs ls hP hD hS hl)
theorem g_lsub (X : Cx p s m args meth c cc nL own Ts D tys A H0 ret) {x y : Int64}  (hdg : decode cc pc = .ok (.lsub, 1))
    (kk : GG p l e R s m args below meth c D A H0 nL Q w k j lv (pc + 1) (.long (x - y) :: st)) : GG p l e R s m args below meth c D A H0 nL Q w k j lv (pc) (.long y :: .long x :: st) := fun H locs ls hP hD hS hl => lv_lsub X.1.1 X.1.2.1 hdg  (kk H locs ls hP hD hS hl)
theorem g_lmul (X : Cx p s m args meth c cc nL own Ts D tys A H0 ret) {x y : Int64}  (hdg : decode cc pc = .ok (.lmul, 1))
    (kk : GG p l e R s m args below meth c D A H0 nL Q w k j lv (pc + 1) (.long (x * y) :: st)) : GG p l e R s m args below meth c D A H0 nL Q w k j lv (pc) (.long y :: .long x :: st) := fun H locs ls hP hD hS hl => lv_lmul X.1.1 X.1.2.1 hdg  (kk H locs ls hP hD hS hl)
theorem g_lor (X : Cx p s m args meth c cc nL own Ts D tys A H0 ret) {x y : Int64}  (hdg : decode cc pc = .ok (.lor, 1))
    (kk : GG p l e R s m args below meth c D A H0 nL Q w k j lv (pc + 1) (.long (x ||| y) :: st)) : GG p l e R s m args below meth c D A H0 nL Q w k j lv (pc) (.long y :: .long x :: st) := fun H locs ls hP hD hS hl => lv_lor X.1.1 X.1.2.1 hdg  (kk H locs ls hP hD hS hl)
theorem g_dsub (X : Cx p s m args meth c cc nL own Ts D tys A H0 ret) {x y : UInt64} (hne : vf_n64 (FP.dsub x y)) (hdg : decode cc pc = .ok (.dsub, 1))
    (kk : GG p l e R s m args below meth c D A H0 nL Q w k j lv (pc + 1) (.double (FP.dsub x y) :: st)) : GG p l e R s m args below meth c D A H0 nL Q w k j lv (pc) (.double y :: .double x :: st) := fun H locs ls hP hD hS hl => lv_dsub X.1.1 X.1.2.1 hdg hne (kk H locs ls hP hD hS hl)
theorem g_dmul (X : Cx p s m args meth c cc nL own Ts D tys A H0 ret) {x y : UInt64} (hne : vf_n64 (FP.dmul x y)) (hdg : decode cc pc = .ok (.dmul, 1))
    (kk : GG p l e R s m args below meth c D A H0 nL Q w k j lv (pc + 1) (.double (FP.dmul x y) :: st)) : GG p l e R s m args below meth c D A H0 nL Q w k j lv (pc) (.double y :: .double x :: st) := fun H locs ls hP hD hS hl => lv_dmul X.1.1 X.1.2.1 hdg hne (kk H locs ls hP hD hS hl)
theorem g_ddiv (X : Cx p s m args meth c cc nL own Ts D tys A H0 ret) {x y : UInt64} (hne : vf_n64 (FP.ddiv x y)) (hdg : decode cc pc = .ok (.ddiv, 1))
    (kk : GG p l e R s m args below meth c D A H0 nL Q w k j lv (pc + 1) (.double (FP.ddiv x y) :: st)) : GG p l e R s m args below meth c D A H0 nL Q w k j lv (pc) (.double y :: .double x :: st) := fun H locs ls hP hD hS hl => lv_ddiv X.1.1 X.1.2.1 hdg hne (kk H locs ls hP hD hS hl)
theorem g_lshl (X : Cx p s m args meth c cc nL own Ts D tys A H0 ret) {x : Int64} {y : Int32} (hdg : decode cc pc = .ok (.lshl, 1))
    (kk : GG p l e R s m args below meth c D A H0 nL Q w k j lv (pc + 1) (.long (x <<< (y.toInt64 &&& 63)) :: st)) : GG p l e R s m args below meth c D A H0 nL Q w k j lv (pc) (.int y :: .long x :: st) := fun H locs ls hP hD hS hl => lv_lshl X.1.1 X.1.2.1 hdg rfl (kk H locs ls hP hD hS hl)
theorem g_i2l (X : Cx p s m args meth c cc nL own Ts D tys A H0 ret) {x : Int32} (hdg : decode cc pc = .ok (.i2l, 1))
    (kk : GG p l e R s m args below meth c D A H0 nL Q w k j lv (pc + 1) (.long x.toInt64 :: st)) : GG p l e R s m args below meth c D A H0 nL Q w k j lv (pc) (.int x :: st) := fun H locs ls hP hD hS hl => lv_i2l X.1.1 X.1.2.1 hdg rfl (kk H locs ls hP hD hS hl)
theorem g_i2d (X : Cx p s m args meth c cc nL own Ts D tys A H0 ret) {x : Int32} (hdg : decode cc pc = .ok (.i2d, 1))
    (kk : GG p l e R s m args below meth c D A H0 nL Q w k j lv (pc + 1) (.double (FP.i2d x) :: st)) : GG p l e R s m args below meth c D A H0 nL Q w k j lv (pc) (.int x :: st) := fun H locs ls hP hD hS hl => lv_i2d X.1.1 X.1.2.1 hdg (kk H locs ls hP hD hS hl)
theorem g_d2l (X : Cx p s m args meth c cc nL own Ts D tys A H0 ret) {x : UInt64} (hdg : decode cc pc = .ok (.d2l, 1))
    (kk : GG p l e R s m args below meth c D A H0 nL Q w k j lv (pc + 1) (.long (FP.d2l x) :: st)) : GG p l e R s m args below meth c D A H0 nL Q w k j lv (pc) (.double x :: st) := fun H locs ls hP hD hS hl => lv_d2l X.1.1 X.1.2.1 hdg (kk H locs ls hP hD hS hl)
theorem g_dcmp (X : Cx p s m args meth c cc nL own Ts D tys A H0 ret) {x y : UInt64} {op : CmpOp} (hdg : decode cc pc = .ok (.dcmp op, 1))
    (kk : GG p l e R s m args below meth c D A H0 nL Q w k j lv (pc + 1) (.int (Op.cmpValue (FP.dcmp x y) op) :: st)) : GG p l e R s m args below meth c D A H0 nL Q w k j lv (pc) (.double y :: .double x :: st) := fun H locs ls hP hD hS hl => lv_dcmp X.1.1 X.1.2.1 hdg (kk H locs ls hP hD hS hl)
theorem g_lcmp (X : Cx p s m args meth c cc nL own Ts D tys A H0 ret) {x y : Int64} (hdg : decode cc pc = .ok (.lcmp, 1))
    (kk : GG p l e R s m args below meth c D A H0 nL Q w k j lv (pc + 1) (.int (lg_cmp x y) :: st)) : GG p l e R s m args below meth c D A H0 nL Q w k j lv (pc) (.long y :: .long x :: st) := fun H locs ls hP hD hS hl => W.lcmp X.1.1 X.1.2.1 hdg (kk H locs ls hP hD hS hl)
theorem g_dconst0 (X : Cx p s m args meth c cc nL own Ts D tys A H0 ret) (hdg : decode cc pc = .ok (.dconst 0, 1))
    (kk : GG p l e R s m args below meth c D A H0 nL Q w k j lv (pc + 1) (.double 0 :: st)) : GG p l e R s m args below meth c D A H0 nL Q w k j lv (pc) (st) := fun H locs ls hP hD hS hl => lv_dconst0 X.1.1 X.1.2.1 hdg (kk H locs ls hP hD hS hl)
theorem g_dconst1 (X : Cx p s m args meth c cc nL own Ts D tys A H0 ret) (hdg : decode cc pc = .ok (.dconst 1, 1))
    (kk : GG p l e R s m args below meth c D A H0 nL Q w k j lv (pc + 1) (.double 0x3ff0000000000000 :: st)) : GG p l e R s m args below meth c D A H0 nL Q w k j lv (pc) (st) := fun H locs ls hP hD hS hl => lv_dconst1 X.1.1 X.1.2.1 hdg (kk H locs ls hP hD hS hl)
theorem g_dup (X : Cx p s m args meth c cc nL own Ts D tys A H0 ret) {va : Value} (hdg : decode cc pc = .ok (.dup, 1)) (hva : va.category = 1)
    (kk : GG p l e R s m args below meth c D A H0 nL Q w k j lv (pc + 1) (va :: va :: st)) : GG p l e R s m args below meth c D A H0 nL Q w k j lv (pc) (va :: st) := fun H locs ls hP hD hS hl => lv_dup X.1.1 X.1.2.1 hdg hva (kk H locs ls hP hD hS hl)
theorem g_pop (X : Cx p s m args meth c cc nL own Ts D tys A H0 ret) {va : Value} (hdg : decode cc pc = .ok (.pop, 1)) (hva : va.category = 1)
    (kk : GG p l e R s m args below meth c D A H0 nL Q w k j lv (pc + 1) (st)) : GG p l e R s m args below meth c D A H0 nL Q w k j lv (pc) (va :: st) := fun H locs ls hP hD hS hl => lv_pop X.1.1 X.1.2.1 hdg hva (kk H locs ls hP hD hS hl)
theorem g_dup2 (X : Cx p s m args meth c cc nL own Ts D tys A H0 ret) {va vb : Value} (hdg : decode cc pc = .ok (.dup2, 1)) (hva : va.category = 1) (hvb : vb.category = 1)
    (kk : GG p l e R s m args below meth c D A H0 nL Q w k j lv (pc + 1) (va :: vb :: va :: vb :: st)) : GG p l e R s m args below meth c D A H0 nL Q w k j lv (pc) (va :: vb :: st) := fun H locs ls hP hD hS hl => lv_dup2_11 X.1.1 X.1.2.1 hdg hva hvb (kk H locs ls hP hD hS hl)
theorem g_icmp_eq (X : Cx p s m args meth c cc nL own Ts D tys A H0 ret) (tgt : Nat) {x y : Int32} {off : Int} (hdg : decode cc pc = .ok (.if_icmp .eq off, 3)) (ht : (pc : Int) + off = (tgt : Int))
    (kt : x = y → GG p l e R s m args below meth c D A H0 nL Q w k j lv (tgt) (st)) (kf : ¬ x = y → GG p l e R s m args below meth c D A H0 nL Q w k j lv (pc + 3) (st)) : GG p l e R s m args below meth c D A H0 nL Q w k j lv (pc) (.int y :: .int x :: st) := fun H locs ls hP hD hS hl => lv_icmp_eq X.1.1 X.1.2.1 hdg ht (fun h => kt h H locs ls hP hD hS hl) (fun h => kf h H locs ls hP hD hS hl)
theorem g_if_eq (X : Cx p s m args meth c cc nL own Ts D tys A H0 ret) (tgt : Nat) {x : Int32} {off : Int} (hdg : decode cc pc = .ok (.ifCond .eq off, 3)) (ht : (pc : Int) + off = (tgt : Int))
    (kt : x = 0 → GG p l e R s m args below meth c D A H0 nL Q w k j lv (tgt) (st)) (kf : ¬ x = 0 → GG p l e R s m args below meth c D A H0 nL Q w k j lv (pc + 3) (st)) : GG p l e R s m args below meth c D A H0 nL Q w k j lv (pc) (.int x :: st) := fun H locs ls hP hD hS hl => lv_if_eq X.1.1 X.1.2.1 hdg ht (fun h => kt h H locs ls hP hD hS hl) (fun h => kf h H locs ls hP hD hS hl)
theorem g_icmp_ne (X : Cx p s m args meth c cc nL own Ts D tys A H0 ret) (tgt : Nat) {x y : Int32} {off : Int} (hdg : decode cc pc = .ok (.if_icmp .ne off, 3)) (ht : (pc : Int) + off = (tgt : Int))
    (kt : ¬ x = y → GG p l e R s m args below meth c D A H0 nL Q w k j lv (tgt) (st)) (kf : x = y → GG p l e R s m args below meth c D A H0 nL Q w k j lv (pc + 3) (st)) : GG p l e R s m args below meth c D A H0 nL Q w k j lv (pc) (.int y :: .int x :: st) := fun H locs ls hP hD hS hl => lv_icmp_ne X.1.1 X.1.2.1 hdg ht (fun h => kt h H locs ls hP hD hS hl) (fun h => kf h H locs ls hP hD hS hl)
theorem g_if_ne (X : Cx p s m args meth c cc nL own Ts D tys A H0 ret) (tgt : Nat) {x : Int32} {off : Int} (hdg : decode cc pc = .ok (.ifCond .ne off, 3)) (ht : (pc : Int) + off = (tgt : Int))
    (kt : ¬ x = 0 → GG p l e R s m args below meth c D A H0 nL Q w k j lv (tgt) (st)) (kf : x = 0 → GG p l e R s m args below meth c D A H0 nL Q w k j lv (pc + 3) (st)) : GG p l e R s m args below meth c D A H0 nL Q w k j lv (pc) (.int x :: st) := fun H locs ls hP hD hS hl => lv_if_ne X.1.1 X.1.2.1 hdg ht (fun h => kt h H locs ls hP hD hS hl) (fun h => kf h H locs ls hP hD hS hl)
theorem g_icmp_lt (X : Cx p s m args meth c cc nL own Ts D tys A H0 ret) (tgt : Nat) {x y : Int32} {off : Int} (hdg : decode cc pc = .ok (.if_icmp .lt off, 3)) (ht : (pc : Int) + off = (tgt : Int))
    (kt : x < y → GG p l e R s m args below meth c D A H0 nL Q w k j lv (tgt) (st)) (kf : ¬ x < y → GG p l e R s m args below meth c D A H0 nL Q w k j lv (pc + 3) (st)) : GG p l e R s m args below meth c D A H0 nL Q w k j lv (pc) (.int y :: .int x :: st) := fun H locs ls hP hD hS hl => lv_icmp_lt X.1.1 X.1.2.1 hdg ht (fun h => kt h H locs ls hP hD hS hl) (fun h => kf h H locs ls hP hD hS hl)
theorem g_if_lt (X : Cx p s m args meth c cc nL own Ts D tys A H0 ret) (tgt : Nat) {x : Int32} {off : Int} (hdg : decode cc pc = .ok (.ifCond .lt off, 3)) (ht : (pc : Int) + off = (tgt : Int))
    (kt : x < 0 → GG p l e R s m args below meth c D A H0 nL Q w k j lv (tgt) (st)) (kf : ¬ x < 0 → GG p l e R s m args below meth c D A H0 nL Q w k j lv (pc + 3) (st)) : GG p l e R s m args below meth c D A H0 nL Q w k j lv (pc) (.int x :: st) := fun H locs ls hP hD hS hl => lv_if_lt X.1.1 X.1.2.1 hdg ht (fun h => kt h H locs ls hP hD hS hl) (fun h => kf h H locs ls hP hD hS hl)
theorem g_icmp_ge (X : Cx p s m args meth c cc nL own Ts D tys A H0 ret) (tgt : Nat) {x y : Int32} {off : Int} (hdg : decode cc pc = .ok (.if_icmp .ge off, 3)) (ht : (pc : Int) + off = (tgt : Int))
    (kt : y ≤ x → GG p l e R s m args below meth c D A H0 nL Q w k j lv (tgt) (st)) (kf : ¬ y ≤ x → GG p l e R s m args below meth c D A H0 nL Q w k j lv (pc + 3) (st)) : GG p l e R s m args below meth c D A H0 nL Q w k j lv (pc) (.int y :: .int x :: st) := fun H locs ls hP hD hS hl => lv_icmp_ge X.1.1 X.1.2.1 hdg ht (fun h => kt h H locs ls hP hD hS hl) (fun h => kf h H locs ls hP hD hS hl)
theorem g_if_ge (X : Cx p s m args meth c cc nL own Ts D tys A H0 ret) (tgt : Nat) {x : Int32} {off : Int} (hdg : decode cc pc = .ok (.ifCond .ge off, 3)) (ht : (pc : Int) + off = (tgt : Int))
    (kt : 0 ≤ x → GG p l e R s m args below meth c D A H0 nL Q w k j lv (tgt) (st)) (kf : ¬ 0 ≤ x → GG p l e R s m args below meth c D A H0 nL Q w k j lv (pc + 3) (st)) : GG p l e R s m args below meth c D A H0 nL Q w k j lv (pc) (.int x :: st) := fun H locs ls hP hD hS hl => lv_if_ge X.1.1 X.1.2.1 hdg ht (fun h => kt h H locs ls hP hD hS hl) (fun h => kf h H locs ls hP hD hS hl)
theorem g_icmp_gt (X : Cx p s m args meth c cc nL own Ts D tys A H0 ret) (tgt : Nat) {x y : Int32} {off : Int} (hdg : decode cc pc = .ok (.if_icmp .gt off, 3)) (ht : (pc : Int) + off = (tgt : Int))
    (kt : y < x → GG p l e R s m args below meth c D A H0 nL Q w k j lv (tgt) (st)) (kf : ¬ y < x → GG p l e R s m args below meth c D A H0 nL Q w k j lv (pc + 3) (st)) : GG p l e R s m args below meth c D A H0 nL Q w k j lv (pc) (.int y :: .int x :: st) := fun H locs ls hP hD hS hl => lv_icmp_gt X.1.1 X.1.2.1 hdg ht (fun h => kt h H locs ls hP hD hS hl) (fun h => kf h H locs ls hP hD hS hl)
theorem g_if_gt (X : Cx p s m args meth c cc nL own Ts D tys A H0 ret) (tgt : Nat) {x : Int32} {off : Int} (hdg : decode cc pc = .ok (.ifCond .gt off, 3)) (ht : (pc : Int) + off = (tgt : Int))
    (kt : 0 < x → GG p l e R s m args below meth c D A H0 nL Q w k j lv (tgt) (st)) (kf : ¬ 0 < x → GG p l e R s m args below meth c D A H0 nL Q w k j lv (pc + 3) (st)) : GG p l e R s m args below meth c D A H0 nL Q w k j lv (pc) (.int x :: st) := fun H locs ls hP hD hS hl => lv_if_gt X.1.1 X.1.2.1 hdg ht (fun h => kt h H locs ls hP hD hS hl) (fun h => kf h H locs ls hP hD hS hl)
theorem g_icmp_le (X : Cx p s m args meth c cc nL own Ts D tys A H0 ret) (tgt : Nat) {x y : Int32} {off : Int} (hdg : decode cc pc = .ok (.if_icmp .le off, 3)) (ht : (pc : Int) + off = (tgt : Int))
    (kt : x ≤ y → GG p l e R s m args below meth c D A H0 nL Q w k j lv (tgt) (st)) (kf : ¬ x ≤ y → GG p l e R s m args below meth c D A H0 nL Q w k j lv (pc + 3) (st)) : GG p l e R s m args below meth c D A H0 nL Q w k j lv (pc) (.int y :: .int x :: st) := fun H locs ls hP hD hS hl => lv_icmp_le X.1.1 X.1.2.1 hdg ht (fun h => kt h H locs ls hP hD hS hl) (fun h => kf h H locs ls hP hD hS hl)
theorem g_if_le (X : Cx p s m args meth c cc nL own Ts D tys A H0 ret) (tgt : Nat) {x : Int32} {off : Int} (hdg : decode cc pc = .ok (.ifCond .le off, 3)) (ht : (pc : Int) + off = (tgt : Int))
    (kt : x ≤ 0 → GG p l e R s m args below meth c D A H0 nL Q w k j lv (tgt) (st)) (kf : ¬ x ≤ 0 → GG p l e R s m args below meth c D A H0 nL Q w k j lv (pc + 3) (st)) : GG p l e R s m args below meth c D A H0 nL Q w k j lv (pc) (.int x :: st) := fun H locs ls hP hD hS hl => lv_if_le X.1.1 X.1.2.1 hdg ht (fun h => kt h H locs ls hP hD hS hl) (fun h => kf h H locs ls hP hD hS hl)
theorem g_goto (X : Cx p s m args meth c cc nL own Ts D tys A H0 ret) (tgt : Nat) {off : Int} (hdg : decode cc pc = .ok (.goto off, 3)) (ht : (pc : Int) + off = (tgt : Int))
    (kk : GG p l e R s m args below meth c D A H0 nL Q w k j lv (tgt) (st)) : GG p l e R s m args below meth c D A H0 nL Q w k j lv (pc) (st) := fun H locs ls hP hD hS hl => lv_goto X.1.1 X.1.2.1 hdg ht (kk H locs ls hP hD hS hl)
theorem g_tableOut (X : Cx p s m args meth c cc nL own Ts D tys A H0 ret) (tgt : Nat) {dflt lo hi : Int} {offs : Array Int} {len : Nat} {x : Int32} (hdg : decode cc pc = .ok (.tableswitch dflt lo hi offs, len)) (h : x.toInt < lo ∨ hi < x.toInt) (ht : (pc : Int) + dflt = (tgt : Int))
    (kk : GG p l e R s m args below meth c D A H0 nL Q w k j lv (tgt) (st)) : GG p l e R s m args below meth c D A H0 nL Q w k j lv (pc) (.int x :: st) := fun H locs ls hP hD hS hl => lv_tableOut X.1.1 X.1.2.1 hdg h ht (kk H locs ls hP hD hS hl)
theorem g_tableIn (X : Cx p s m args meth c cc nL own Ts D tys A H0 ret) (tgt : Nat) {dflt lo hi : Int} {offs : Array Int} {len : Nat} {x : Int32} {off : Int} (hdg : decode cc pc = .ok (.tableswitch dflt lo hi offs, len)) (h1 : ¬ x.toInt < lo) (h2 : ¬ hi < x.toInt) (ho : offs[(x.toInt - lo).toNat]? = some off) (ht : (pc : Int) + off = (tgt : Int))
    (kk : GG p l e R s m args below meth c D A H0 nL Q w k j lv (tgt) (st)) : GG p l e R s m args below meth c D A H0 nL Q w k j lv (pc) (.int x :: st) := fun H locs ls hP hD hS hl => lv_tableIn X.1.1 X.1.2.1 hdg h1 h2 ho ht (kk H locs ls hP hD hS hl)
theorem g_lookup (X : Cx p s m args meth c cc nL own Ts D tys A H0 ret) (tgt : Nat) {dflt : Int} {ps : Array (Int × Int)} {len : Nat} {x : Int32} {off : Int} (hdg : decode cc pc = .ok (.lookupswitch dflt ps, len)) (hp : (ps.toList.zip (ps.toList.drop 1)).all (fun (a, next) => a.1 < next.1) = true) (ho : Op.lookupswitch.offset ps.toList dflt x.toInt = off) (ht : (pc : Int) + off = (tgt : Int))
    (kk : GG p l e R s m args below meth c D A H0 nL Q w k j lv (tgt) (st)) : GG p l e R s m args below meth c D A H0 nL Q w k j lv (pc) (.int x :: st) := fun H locs ls hP hD hS hl => lv_lookup X.1.1 X.1.2.1 hdg hp ho ht (kk H locs ls hP hD hS hl)
theorem g_topi {x : Int32} (kk : ∀ y : Int32, y = x → GG p l e R s m args below meth c D A H0 nL Q w k j lv (pc) (.int y :: st)) : GG p l e R s m args below meth c D A H0 nL Q w k j lv (pc) (.int x :: st) := kk x rfl
theorem g_topl {x : Int64} (kk : ∀ y : Int64, y = x → GG p l e R s m args below meth c D A H0 nL Q w k j lv (pc) (.long y :: st)) : GG p l e R s m args below meth c D A H0 nL Q w k j lv (pc) (.long x :: st) := kk x rfl
theorem g_topd {x : UInt64} (kk : ∀ y : UInt64, y = x → GG p l e R s m args below meth c D A H0 nL Q w k j lv (pc) (.double y :: st)) : GG p l e R s m args below meth c D A H0 nL Q w k j lv (pc) (.double x :: st) := kk x rfl
theorem g_sub (lv2 : List (Nat × Value)) (ks : List Nat) (hlv : lv_pick lv ks = lv2) (kk : GG p l e R s m args below meth c D A H0 nL Q w k j lv2 (pc) (st)) : GG p l e R s m args below meth c D A H0 nL Q w k j lv (pc) (st) := fun H locs ls hP hD hS hl => kk H locs ls hP hD hS (lv_sub hl ks hlv)
theorem g_w {w2 : va_W} (hw : w = w2) (kk : GG p l e R s m args below meth c D A H0 nL Q w2 k j lv (pc) (st)) : GG p l e R s m args below meth c D A H0 nL Q w k j lv (pc) (st) := by subst hw; exact kk
theorem g_wide {k2 j2 : Nat} (h1 : k ≤ k2) (h2 : j ≤ j2) (kk : GG p l e R s m args below meth c D A H0 nL Q w k2 j2 lv (pc) (st)) : GG p l e R s m args below meth c D A H0 nL Q w k j lv (pc) (st) := fun H locs ls hP hD hS hl => W.widen h1 h2 (kk H locs ls hP hD hS hl)
theorem g_pc {pc2 : Nat} (h : pc = pc2) (kk : GG p l e R s m args below meth c D A H0 nL Q w k j lv (pc2) (st)) : GG p l e R s m args below meth c D A H0 nL Q w k j lv (pc) (st) := by subst h; exact kk
theorem g_get (X : Cx p s m args meth c cc nL own Ts D tys A H0 ret) {ref C : String} {T : u_T} {N ci index a : Nat} (q0 : Nat) {fs : List Value} (f : Nat) {v : Value} (hin : ∀ w ∈ u_ws C T N, w ∈ Ts) (hlink : Cond.fieldLink own index ref (T f).2.1 (T f).2.2.1 ∈ Ts) (hdg : decode cc pc = .ok (.getfield index, 3)) (he : w[q0]? = some (a, .inr (ci, fs))) (hc : vwCl[ci]? = some (C, T, N)) (hf : f < N) (hr : (T f).1 = ref) (hv : fs[f]? = some v)
    (kk : GG p l e R s m args below meth c D A H0 nL Q w k j lv (pc + 3) (v :: st)) : GG p l e R s m args below meth c D A H0 nL Q w k j lv (pc) (.ref a :: st) := fun H locs ls hP hD hS hl => va_get X.1.1 X.1.2.1 X.1.2.2.2.2 hin X.1.2.2.2.1 X.2.1 hP q0 he hc f hf (X.1.2.2.2.2 _ hlink) (fun _ h9 => by rw [← hr]; exact h9) hv hdg (kk H locs ls hP hD hS hl)
theorem g_put (X : Cx p s m args meth c cc nL own Ts D tys A H0 ret) (Wf : Mem → va_W) (v0 : Mem) {ref C : String} {T : u_T} {N ci index a : Nat} (q0 : Nat) {fs : List Value} (f : Nat) {x : Int32} (tyf : Nat → FieldType) (htyf : ∀ k, k < N → parseFieldDescriptor (T k).2.2.1 = some (tyf k)) (hnm : ∀ a, a < N → ∀ b, b < N → a ≠ b → (T a).2.1 ≠ (T b).2.1) (hin : ∀ w ∈ u_ws C T N, w ∈ Ts) (hlink : Cond.fieldLink own index ref (T f).2.1 (T f).2.2.1 ∈ Ts) (hdg : decode cc pc = .ok (.putfield index, 3)) (he : w[q0]? = some (a, .inr (ci, fs))) (hc : vwCl[ci]? = some (C, T, N)) (hf : f < N) (hr : (T f).1 = ref) (hfin : (T f).2.2.2 = false) (hd : parseFieldDescriptor (T f).2.2.1 = some .int) (hlen : f < fs.length) (hw : w.set q0 (a, .inr (ci, fs.set f (.int x))) = Wf (mset v0 f 0 x))
    (kk : ∀ z : Mem, z = mset v0 f 0 x → GG p l e R s m args below meth c D A H0 nL Q (Wf z) k j lv (pc + 3) (st)) : GG p l e R s m args below meth c D A H0 nL Q w k j lv (pc) (.int x :: .ref a :: st) := fun H locs ls hP hD hS hl => va_put X.1.1 X.1.2.1 X.1.2.2.2.2 hin tyf htyf hnm X.1.2.2.2.1 X.2.1 hP hD hS q0 he hc f hf (X.1.2.2.2.2 _ hlink) (fun _ h9 => by rw [← hr]; exact h9) hfin hd rfl rfl hlen hdg (fun H1 l1 hP1 hD1 hS1 => kk _ rfl H1 l1 ls (hw ▸ hP1) (hw ▸ hD1) hS1 hl)
theorem g_putl (X : Cx p s m args meth c cc nL own Ts D tys A H0 ret) (Wf : Int64 → va_W) {ref C : String} {T : u_T} {N ci index a : Nat} (q0 : Nat) {fs : List Value} (f : Nat) {x : Int64} (tyf : Nat → FieldType) (htyf : ∀ k, k < N → parseFieldDescriptor (T k).2.2.1 = some (tyf k)) (hnm : ∀ a, a < N → ∀ b, b < N → a ≠ b → (T a).2.1 ≠ (T b).2.1) (hin : ∀ w ∈ u_ws C T N, w ∈ Ts) (hlink : Cond.fieldLink own index ref (T f).2.1 (T f).2.2.1 ∈ Ts) (hdg : decode cc pc = .ok (.putfield index, 3)) (he : w[q0]? = some (a, .inr (ci, fs))) (hc : vwCl[ci]? = some (C, T, N)) (hf : f < N) (hr : (T f).1 = ref) (hfin : (T f).2.2.2 = false) (hd : parseFieldDescriptor (T f).2.2.1 = some .long) (hlen : f < fs.length) (hw : w.set q0 (a, .inr (ci, fs.set f (.long x))) = Wf x)
    (kk : GG p l e R s m args below meth c D A H0 nL Q (Wf x) k j lv (pc + 3) (st)) : GG p l e R s m args below meth c D A H0 nL Q w k j lv (pc) (.long x :: .ref a :: st) := fun H locs ls hP hD hS hl => va_put X.1.1 X.1.2.1 X.1.2.2.2.2 hin tyf htyf hnm X.1.2.2.2.1 X.2.1 hP hD hS q0 he hc f hf (X.1.2.2.2.2 _ hlink) (fun _ h9 => by rw [← hr]; exact h9) hfin hd rfl rfl hlen hdg (fun H1 l1 hP1 hD1 hS1 => kk H1 l1 ls (hw ▸ hP1) (hw ▸ hD1) hS1 hl)
theorem g_iald (X : Cx p s m args meth c cc nL own Ts D tys A H0 ret) {a : Nat} (q0 t0 : Nat) {cA : ClassId} {n : Nat} {f : Nat → Int32} {i : Int32} (hdg : decode cc pc = .ok (.iaload, 1)) (ha : w[q0]? = some (a, .inl (cA, n, .inl f))) (ht : tys[t0]? = some (cA, .int)) (hi : vp_in i n)
    (kk : GG p l e R s m args below meth c D A H0 nL Q w k j lv (pc + 1) (.int (f i.toNatClampNeg) :: st)) : GG p l e R s m args below meth c D A H0 nL Q w k j lv (pc) (.int i :: .ref a :: st) := fun H locs ls hP hD hS hl => va_iald X.1.1 X.1.2.1 X.2.1 hP q0 t0 ha ht hi hdg (kk H locs ls hP hD hS hl)
theorem g_zald (X : Cx p s m args meth c cc nL own Ts D tys A H0 ret) {a : Nat} (q0 t0 : Nat) {cA : ClassId} {n : Nat} {f : Nat → Int32} {i : Int32} (hdg : decode cc pc = .ok (.baload, 1)) (ha : w[q0]? = some (a, .inl (cA, n, .inl f))) (ht : tys[t0]? = some (cA, .boolean)) (hi : vp_in i n)
    (kk : GG p l e R s m args below meth c D A H0 nL Q w k j lv (pc + 1) (.int (f i.toNatClampNeg) :: st)) : GG p l e R s m args below meth c D A H0 nL Q w k j lv (pc) (.int i :: .ref a :: st) := fun H locs ls hP hD hS hl => va_zald X.1.1 X.1.2.1 X.2.1 hP q0 t0 ha ht hi hdg (kk H locs ls hP hD hS hl)
theorem g_iast (X : Cx p s m args meth c cc nL own Ts D tys A H0 ret) (Wf : Mem → va_W) (v0 : Mem) (row : Nat) {a : Nat} (q0 t0 : Nat) {cA : ClassId} {n : Nat} {i x : Int32} (hdg : decode cc pc = .ok (.iastore, 1)) (ha : w[q0]? = some (a, .inl (cA, n, .inl (v0 row)))) (ht : tys[t0]? = some (cA, .int)) (hi : vp_in i n) (hw : w.set q0 (a, .inl (cA, n, .inl (upd (v0 row) i.toNatClampNeg x))) = Wf (mset v0 row i.toNatClampNeg x))
    (kk : ∀ z : Mem, z = mset v0 row i.toNatClampNeg x → GG p l e R s m args below meth c D A H0 nL Q (Wf z) k j lv (pc + 1) (st)) : GG p l e R s m args below meth c D A H0 nL Q w k j lv (pc) (.int x :: .int i :: .ref a :: st) := fun H locs ls hP hD hS hl => va_iast X.1.1 X.1.2.1 X.2.1 hP hD hS q0 t0 ha ht hi hdg (fun H1 l1 hP1 hD1 hS1 => kk _ rfl H1 l1 ls (hw ▸ hP1) (hw ▸ hD1) hS1 hl)
/-- a boolean kept in an int -/
def isB (x : Int32) : Prop := x = 0 ∨ x = 1
theorem isB_0 : isB 0 := Or.inl rfl
theorem isB_1 : isB 1 := Or.inr rfl
theorem isB_nar {x : Int32} (h : isB x) : vp_nar .boolean x = x := by rcases h with rfl | rfl <;> rfl
theorem isB_nar2 {x : Int32} (h : isB x) : narrow .boolean (.int x) = .int x := by rcases h with rfl | rfl <;> rfl
theorem g_zast (X : Cx p s m args meth c cc nL own Ts D tys A H0 ret) (Wf : Mem → va_W) (v0 : Mem) (row : Nat) {a : Nat} (q0 t0 : Nat) {cA : ClassId} {n : Nat} {i x : Int32} (hdg : decode cc pc = .ok (.bastore, 1)) (ha : w[q0]? = some (a, .inl (cA, n, .inl (v0 row)))) (ht : tys[t0]? = some (cA, .boolean)) (hi : vp_in i n) (hx : isB x) (hw : w.set q0 (a, .inl (cA, n, .inl (upd (v0 row) i.toNatClampNeg x))) = Wf (mset v0 row i.toNatClampNeg x))
    (kk : ∀ z : Mem, z = mset v0 row i.toNatClampNeg x → GG p l e R s m args below meth c D A H0 nL Q (Wf z) k j lv (pc + 1) (st)) : GG p l e R s m args below meth c D A H0 nL Q w k j lv (pc) (.int x :: .int i :: .ref a :: st) := fun H locs ls hP hD hS hl => va_zast X.1.1 X.1.2.1 X.2.1 hP hD hS q0 t0 ha ht hi hdg (fun H1 l1 hP1 hD1 hS1 => kk _ rfl H1 l1 ls (by rw [isB_nar hx, hw] at hP1; exact hP1) (by rw [isB_nar hx, hw] at hD1; exact hD1) hS1 hl)
theorem g_aldq (X : Cx p s m args meth c cc nL own Ts D tys A H0 ret) {a : Nat} (q0 t0 : Nat) {cA : ClassId} {C : String} {n : Nat} {f : Nat → Option Nat} {i : Int32} {b : Nat} (hdg : decode cc pc = .ok (.aaload, 1)) (ha : w[q0]? = some (a, .inl (cA, n, .inr (.inr (.inr (.inr f)))))) (ht : tys[t0]? = some (cA, .object C)) (hi : vp_in i n) (hb : f i.toNatClampNeg = some b)
    (kk : GG p l e R s m args below meth c D A H0 nL Q w k j lv (pc + 1) (.ref b :: st)) : GG p l e R s m args below meth c D A H0 nL Q w k j lv (pc) (.int i :: .ref a :: st) := fun H locs ls hP hD hS hl => va_aldq X.1.1 X.1.2.1 X.2.1 hP q0 t0 ha ht hi hdg (by rw [hb]; exact kk H locs ls hP hD hS hl)
theorem g_aldg (X : Cx p s m args meth c cc nL own Ts D tys A H0 ret) {a : Nat} (q0 t0 : Nat) {cA : ClassId} {n : Nat} {f : Nat → Option Nat} {i : Int32} {b : Nat} (hdg : decode cc pc = .ok (.aaload, 1)) (ha : w[q0]? = some (a, .inl (cA, n, .inr (.inr (.inr (.inr f)))))) (ht : tys[t0]? = some (cA, .array .int)) (hi : vp_in i n) (hb : f i.toNatClampNeg = some b)
    (kk : GG p l e R s m args below meth c D A H0 nL Q w k j lv (pc + 1) (.ref b :: st)) : GG p l e R s m args below meth c D A H0 nL Q w k j lv (pc) (.int i :: .ref a :: st) := fun H locs ls hP hD hS hl => W.aald (v := va_rf (f i.toNatClampNeg)) (ty := .array .int) X.1.1 X.1.2.1 (hP q0 _ ha) ((X.2.1.2 t0 _ ht).1 n (fun j => va_rf (f j))) rfl (fun q => by cases q) (by show ¬ (i < 0 ∨ (arrV _ _ _).slots.size ≤ _); rw [arrV_size]; exact hi) (by show (arrV _ _ _).slots[_]? = _; rw [arrV_read _ _ (Nat.not_le.mp fun q => hi (Or.inr q))]) rfl rfl hdg (by rw [hb]; exact kk H locs ls hP hD hS hl)
theorem g_copy (X : Cx p s m args meth c cc nL own Ts D tys A H0 ret) (Wf : Mem → va_W) (v0 : Mem) (row : Nat) {sp0 dp0 n0v : Nat} {index a0 a : Nat} (q0 q1 t0 t1 : Nat) {c0 c1 : ClassId} {n0 n1 : Nat} {f : Nat → Int32} {sp dp n : Int32} (hw1 : Cond.methodLink own index arraycopyName ∈ Ts) (hw2 : Cond.native arraycopyName ∈ Ts) (hw3 : Cond.static arraycopyName ∈ Ts) (hw4 : Cond.initialized "java/lang/System" ∈ Ts) (hdg : decode cc pc = .ok (.invokestatic index, 3)) (ha0 : w[q0]? = some (a0, .inl (c0, n0, .inl f))) (ha1 : w[q1]? = some (a, .inl (c1, n1, .inl (v0 row)))) (ht0 : tys[t0]? = some (c0, .int)) (ht1 : tys[t1]? = some (c1, .int)) (h1 : ¬ sp < 0) (h2 : ¬ dp < 0) (h3 : ¬ n < 0) (e1 : sp.toNatClampNeg = sp0) (e2 : dp.toNatClampNeg = dp0) (e3 : n.toNatClampNeg = n0v) (h4 : sp0 + n0v ≤ n0) (h5 : dp0 + n0v ≤ n1) (hfr : 1 ≤ R.frames) (hlo : (st.map fun v => v.category).sum + (nativeFrameWords "java/lang/System" "arraycopy" 5 + 11) ≤ R.locals) (hw : w.set q1 (a, .inl (c1, n1, .inl (va_cpy f (v0 row) sp0 dp0 n0v))) = Wf (mrow v0 row (va_cpy f (v0 row) sp0 dp0 n0v)))
    (kk : ∀ z : Mem, z = mrow v0 row (va_cpy f (v0 row) sp0 dp0 n0v) → GG p l e R s m args below meth c D A H0 nL Q (Wf z) k j lv (pc + 3) (st)) : GG p l e R s m args below meth c D A H0 nL Q w k j lv (pc) (.int n :: .int dp :: .ref a :: .int sp :: .ref a0 :: st) := fun H locs ls hP hD hS hl => by
  subst e1 e2 e3
  exact va_copyi X.1.1 X.1.2.1 (X.1.2.2.1.trans hl.1.symm) X.1.2.2.2.1 (X.1.2.2.2.2 _ hw1) (X.1.2.2.2.2 _ hw2) (X.1.2.2.2.2 _ hw3) (X.1.2.2.2.2 _ hw4) X.2.1 hP hD hS q0 q1 t0 t1 ha0 ha1 ht0 ht1 rfl h1 h2 h3 h4 h5 (fun _ _ => rfl) hfr hlo hdg (fun H1 l1 hP1 hD1 hS1 => kk _ rfl H1 l1 ls (hw ▸ hP1) (hw ▸ hD1) hS1 hl)
theorem g_mmin (X : Cx p s m args meth c cc nL own Ts D tys A H0 ret) {index : Nat} {x y : Int32} (hw1 : Cond.methodLink own index Lib.Math.min.name ∈ Ts) (hw2 : Cond.static Lib.Math.min.name ∈ Ts) (hw3 : Cond.initialized "java/lang/Math" ∈ Ts) (hw4 : Cond.code Lib.Math.min.name Lib.Math.min.code 2 (some .int) ∈ Ts) (hdg : decode cc pc = .ok (.invokestatic index, 3)) (hfr : 1 ≤ R.frames) (hlo : (st.map fun v => v.category).sum + 13 ≤ R.locals) (hc : k ≤ R.cells) (hs : j ≤ R.slots)
    (kk : GG p l e R s m args below meth c D A H0 nL Q w k j lv (pc + 3) (.int (if y < x then y else x) :: st)) : GG p l e R s m args below meth c D A H0 nL Q w k j lv (pc) (.int y :: .int x :: st) := fun H locs ls hP hD hS hl => va_mmin X.1.1 X.1.2.1 (X.1.2.2.1.trans hl.1.symm) X.1.2.2.2.1 (X.1.2.2.2.2 _ hw1) (X.1.2.2.2.2 _ hw2) (X.1.2.2.2.2 _ hw3) (X.1.2.2.2.2 _ hw4) hfr hlo hc hs hdg (kk H locs ls hP hD hS hl)
theorem g_mmax (X : Cx p s m args meth c cc nL own Ts D tys A H0 ret) {index : Nat} {x y : Int32} (hw1 : Cond.methodLink own index Lib.Math.max.name ∈ Ts) (hw2 : Cond.static Lib.Math.max.name ∈ Ts) (hw3 : Cond.initialized "java/lang/Math" ∈ Ts) (hw4 : Cond.code Lib.Math.max.name Lib.Math.max.code 2 (some .int) ∈ Ts) (hdg : decode cc pc = .ok (.invokestatic index, 3)) (hfr : 1 ≤ R.frames) (hlo : (st.map fun v => v.category).sum + 13 ≤ R.locals) (hc : k ≤ R.cells) (hs : j ≤ R.slots)
    (kk : GG p l e R s m args below meth c D A H0 nL Q w k j lv (pc + 3) (.int (if x < y then y else x) :: st)) : GG p l e R s m args below meth c D A H0 nL Q w k j lv (pc) (.int y :: .int x :: st) := fun H locs ls hP hD hS hl => va_mmax X.1.1 X.1.2.1 (X.1.2.2.1.trans hl.1.symm) X.1.2.2.2.1 (X.1.2.2.2.2 _ hw1) (X.1.2.2.2.2 _ hw2) (X.1.2.2.2.2 _ hw3) (X.1.2.2.2.2 _ hw4) hfr hlo hc hs hdg (kk H locs ls hP hD hS hl)
theorem g_ldc (X : Cx p s m args meth c cc nL own Ts D tys A H0 ret) {index : Nat} {v : Int32} (hc : Cond.constant own index v ∈ Ts) (hdg : decode cc pc = .ok (.ldc index, 2))
    (kk : GG p l e R s m args below meth c D A H0 nL Q w k j lv (pc + 2) (.int v :: st)) : GG p l e R s m args below meth c D A H0 nL Q w k j lv (pc) (st) := fun H locs ls hP hD hS hl => lv_ldc X.1.1 X.1.2.1 X.1.2.2.2.1 (X.1.2.2.2.2 _ hc) hdg (kk H locs ls hP hD hS hl)
theorem g_ldcw (X : Cx p s m args meth c cc nL own Ts D tys A H0 ret) {index : Nat} {v : Int32} (hc : Cond.constant own index v ∈ Ts) (hdg : decode cc pc = .ok (.ldc_w index, 3))
    (kk : GG p l e R s m args below meth c D A H0 nL Q w k j lv (pc + 3) (.int v :: st)) : GG p l e R s m args below meth c D A H0 nL Q w k j lv (pc) (st) := fun H locs ls hP hD hS hl => lv_ldcw X.1.1 X.1.2.1 X.1.2.2.2.1 (X.1.2.2.2.2 _ hc) hdg (kk H locs ls hP hD hS hl)
theorem g_ldc2 (X : Cx p s m args meth c cc nL own Ts D tys A H0 ret) {index : Nat} {v : Int64} (hc : Cond.constantLong own index v ∈ Ts) (hdg : decode cc pc = .ok (.ldc2_w index, 3))
    (kk : GG p l e R s m args below meth c D A H0 nL Q w k j lv (pc + 3) (.long v :: st)) : GG p l e R s m args below meth c D A H0 nL Q w k j lv (pc) (st) := fun H locs ls hP hD hS hl => lv_ldc2 X.1.1 X.1.2.1 X.1.2.2.2.1 (X.1.2.2.2.2 _ hc) hdg (kk H locs ls hP hD hS hl)
theorem g_ldc2d (X : Cx p s m args meth c cc nL own Ts D tys A H0 ret) {index : Nat} {v : UInt64} (hc : Cond.constantDouble own index v ∈ Ts) (hdg : decode cc pc = .ok (.ldc2_w index, 3))
    (kk : GG p l e R s m args below meth c D A H0 nL Q w k j lv (pc + 3) (.double v :: st)) : GG p l e R s m args below meth c D A H0 nL Q w k j lv (pc) (st) := fun H locs ls hP hD hS hl => lv_ldc2d X.1.1 X.1.2.1 X.1.2.2.2.1 (X.1.2.2.2.2 _ hc) hdg (kk H locs ls hP hD hS hl)
theorem g_iushr (X : Cx p s m args meth c cc nL own Ts D tys A H0 ret) {x y : Int32} (hdg : decode cc pc = .ok (.iushr, 1))
    (kk : GG p l e R s m args below meth c D A H0 nL Q w k j lv (pc + 1) (.int ((x.toUInt32 >>> (y.toUInt32 &&& Int32.toUInt32 31)).toInt32) :: st)) : GG p l e R s m args below meth c D A H0 nL Q w k j lv (pc) (.int y :: .int x :: st) := fun H locs ls hP hD hS hl => lv_iushr X.1.1 X.1.2.1 hdg rfl (kk H locs ls hP hD hS hl)
theorem g_ciV (X : Cx p s m args meth c cc nL own Ts D tys A H0 ret) {S : Type} {post : Int32 → S → Prop} {wf : S → va_W} {y : MethodName} {ws : List Cond} {rm : Room} {mc ms maxL index nn : Nat} {bytes : ByteArray} {rt : Option FieldType} {C : String} {b : Nat} {As : List Value} {wc : va_W} {st0 : List Value} (bs : List va_W) (b2 : S → List va_W) (W2 : S → va_W) (n : Nat) (isC isR : List Nat) (q0 : Nat) {ci : Nat} {qc : vw_C} {fs : List Value}
    (hM : Ci l y ws rm D tys (.ref b :: As) wc post wf mc ms) (cw : CallW R s args own C index y bytes maxL rt ws rm mc ms nn) (hdg : decode cc pc = .ok (.invokevirtual index, 3)) (hst : st0 = As.reverse ++ .ref b :: st) (hlen : As.length = nn) (hroom : (st.map fun v => v.category).sum ≤ 8) (hf : k + mc ≤ R.cells ∧ j + ms ≤ R.slots) (h1 : w = fl bs) (h2 : wc = fl (isC.filterMap (fun i => bs[i]?))) (hn : bs.length = n) (hp : (isC ++ isR).isPerm (List.range n) = true) (h3 : ∀ u : S, wf u = fl (isC.filterMap (fun i => (b2 u)[i]?))) (h4 : ∀ u : S, isR.filterMap (fun i => (b2 u)[i]?) = isR.filterMap (fun i => bs[i]?)) (h5 : ∀ u : S, (b2 u).length = n) (h6 : ∀ u : S, fl (b2 u) = W2 u) (hci : vwCl[ci]? = some qc) (hCq : qc.1 = C) (hrc : wc[q0]? = some (b, .inr (ci, fs)))
    (kk : ∀ (r : Int32) (u : S), post r u → GG p l e R s m args below meth c D A H0 nL Q (W2 u) (k + mc) (j + ms) lv (pc + 3) (.int r :: st)) : GG p l e R s m args below meth c D A H0 nL Q w k j lv (pc) (st0) := by
  intro H locs ls hP hD hS hl
  subst hst
  have hpm : w.Perm (wc ++ fl (isR.filterMap (fun i => bs[i]?))) := by rw [h1, h2]; exact wd_pick bs isC isR hn hp
  obtain ⟨hPc, hDc⟩ := wd_L hpm hP hD
  have hF := wd_free hpm hD hS X.2.2.1
  refine va_calli (va_runV X.1 (hM H.size) cw ⟨(fun a U g mk h => by obtain ⟨z1, z2, z3, z4, z5⟩ := h; exact ⟨z1, z2, z3, va_K.moved (u := U) (U := U.calling g mk a) (Vm.Alike.refl U.vm) z4, z5⟩), by rw [← hCq]; exact va_recv X.2.1 hPc hci hrc, (fun U hU hW => ⟨rfl, by rw [hU], by rw [hU]; exact hPc, va_K.moved hW.alike X.2.1, hDc.weaken (fun _ _ _ _ => trivial)⟩)⟩ rfl hlen hl.1 rfl (lv_room hroom) hdg hf) hS (fun q _ h => hF q h) hF (fun r u t H1 l1 ht hvm hw hB hz1 hk1 hS2 => ?_)
  obtain ⟨hB1, hB2, hB3⟩ := hB
  have hpm2 : (W2 u).Perm (wf u ++ fl (isR.filterMap (fun i => bs[i]?))) := by rw [← h6 u, h3 u, ← h4 u]; exact wd_pick (b2 u) isC isR (h5 u) hp
  obtain ⟨hP2, hD2⟩ := wd_back hpm hpm2 hP hD hk1 hF (by rw [ht] at hB1; exact hB1) hB3
  exact kk r u hw H1 l1 ls hP2 hD2 hS2 hl
theorem g_ciS (X : Cx p s m args meth c cc nL own Ts D tys A H0 ret) {S : Type} {post : Int32 → S → Prop} {wf : S → va_W} {y : MethodName} {ws : List Cond} {rm : Room} {mc ms maxL index nn : Nat} {bytes : ByteArray} {rt : Option FieldType}  {As : List Value} {wc : va_W} {st0 : List Value} (bs : List va_W) (b2 : S → List va_W) (W2 : S → va_W) (n : Nat) (isC isR : List Nat) 
    (hM : Ci l y ws rm D tys (As) wc post wf mc ms) (cw : CallB R s args own index y bytes maxL rt ws rm mc ms nn ∧ (Cond.static y).before args s = true) (hdg : decode cc pc = .ok (.invokestatic index, 3)) (hst : st0 = As.reverse ++ st) (hlen : As.length = nn) (hroom : (st.map fun v => v.category).sum ≤ 8) (hf : k + mc ≤ R.cells ∧ j + ms ≤ R.slots) (h1 : w = fl bs) (h2 : wc = fl (isC.filterMap (fun i => bs[i]?))) (hn : bs.length = n) (hp : (isC ++ isR).isPerm (List.range n) = true) (h3 : ∀ u : S, wf u = fl (isC.filterMap (fun i => (b2 u)[i]?))) (h4 : ∀ u : S, isR.filterMap (fun i => (b2 u)[i]?) = isR.filterMap (fun i => bs[i]?)) (h5 : ∀ u : S, (b2 u).length = n) (h6 : ∀ u : S, fl (b2 u) = W2 u) 
    (kk : ∀ (r : Int32) (u : S), post r u → GG p l e R s m args below meth c D A H0 nL Q (W2 u) (k + mc) (j + ms) lv (pc + 3) (.int r :: st)) : GG p l e R s m args below meth c D A H0 nL Q w k j lv (pc) (st0) := by
  intro H locs ls hP hD hS hl
  subst hst
  have hpm : w.Perm (wc ++ fl (isR.filterMap (fun i => bs[i]?))) := by rw [h1, h2]; exact wd_pick bs isC isR hn hp
  obtain ⟨hPc, hDc⟩ := wd_L hpm hP hD
  have hF := wd_free hpm hD hS X.2.2.1
  refine va_calli (va_runS X.1 (hM H.size) cw ⟨(fun a U g mk h => by obtain ⟨z1, z2, z3, z4, z5⟩ := h; exact ⟨z1, z2, z3, va_K.moved (u := U) (U := U.calling g mk a) (Vm.Alike.refl U.vm) z4, z5⟩), (fun U hU hW => ⟨rfl, by rw [hU], by rw [hU]; exact hPc, va_K.moved hW.alike X.2.1, hDc.weaken (fun _ _ _ _ => trivial)⟩)⟩ rfl hlen hl.1 rfl (lv_room hroom) hdg hf) hS (fun q _ h => hF q h) hF (fun r u t H1 l1 ht hvm hw hB hz1 hk1 hS2 => ?_)
  obtain ⟨hB1, hB2, hB3⟩ := hB
  have hpm2 : (W2 u).Perm (wf u ++ fl (isR.filterMap (fun i => bs[i]?))) := by rw [← h6 u, h3 u, ← h4 u]; exact wd_pick (b2 u) isC isR (h5 u) hp
  obtain ⟨hP2, hD2⟩ := wd_back hpm hpm2 hP hD hk1 hF (by rw [ht] at hB1; exact hB1) hB3
  exact kk r u hw H1 l1 ls hP2 hD2 hS2 hl
theorem g_clV (X : Cx p s m args meth c cc nL own Ts D tys A H0 ret) {S : Type} {post : Int64 → S → Prop} {wf : S → va_W} {y : MethodName} {ws : List Cond} {rm : Room} {mc ms maxL index nn : Nat} {bytes : ByteArray} {rt : Option FieldType} {C : String} {b : Nat} {As : List Value} {wc : va_W} {st0 : List Value} (bs : List va_W) (b2 : S → List va_W) (W2 : S → va_W) (n : Nat) (isC isR : List Nat) (q0 : Nat) {ci : Nat} {qc : vw_C} {fs : List Value}
    (hM : Cl l y ws rm D tys (.ref b :: As) wc post wf mc ms) (cw : CallW R s args own C index y bytes maxL rt ws rm mc ms nn) (hdg : decode cc pc = .ok (.invokevirtual index, 3)) (hst : st0 = As.reverse ++ .ref b :: st) (hlen : As.length = nn) (hroom : (st.map fun v => v.category).sum ≤ 8) (hf : k + mc ≤ R.cells ∧ j + ms ≤ R.slots) (h1 : w = fl bs) (h2 : wc = fl (isC.filterMap (fun i => bs[i]?))) (hn : bs.length = n) (hp : (isC ++ isR).isPerm (List.range n) = true) (h3 : ∀ u : S, wf u = fl (isC.filterMap (fun i => (b2 u)[i]?))) (h4 : ∀ u : S, isR.filterMap (fun i => (b2 u)[i]?) = isR.filterMap (fun i => bs[i]?)) (h5 : ∀ u : S, (b2 u).length = n) (h6 : ∀ u : S, fl (b2 u) = W2 u) (hci : vwCl[ci]? = some qc) (hCq : qc.1 = C) (hrc : wc[q0]? = some (b, .inr (ci, fs)))
    (kk : ∀ (r : Int64) (u : S), post r u → GG p l e R s m args below meth c D A H0 nL Q (W2 u) (k + mc) (j + ms) lv (pc + 3) (.long r :: st)) : GG p l e R s m args below meth c D A H0 nL Q w k j lv (pc) (st0) := by
  intro H locs ls hP hD hS hl
  subst hst
  have hpm : w.Perm (wc ++ fl (isR.filterMap (fun i => bs[i]?))) := by rw [h1, h2]; exact wd_pick bs isC isR hn hp
  obtain ⟨hPc, hDc⟩ := wd_L hpm hP hD
  have hF := wd_free hpm hD hS X.2.2.1
  refine va_calll (va_runV X.1 (hM H.size) cw ⟨(fun a U g mk h => by obtain ⟨z1, z2, z3, z4, z5⟩ := h; exact ⟨z1, z2, z3, va_K.moved (u := U) (U := U.calling g mk a) (Vm.Alike.refl U.vm) z4, z5⟩), by rw [← hCq]; exact va_recv X.2.1 hPc hci hrc, (fun U hU hW => ⟨rfl, by rw [hU], by rw [hU]; exact hPc, va_K.moved hW.alike X.2.1, hDc.weaken (fun _ _ _ _ => trivial)⟩)⟩ rfl hlen hl.1 rfl (lv_room hroom) hdg hf) hS (fun q _ h => hF q h) hF (fun r u t H1 l1 ht hvm hw hB hz1 hk1 hS2 => ?_)
  obtain ⟨hB1, hB2, hB3⟩ := hB
  have hpm2 : (W2 u).Perm (wf u ++ fl (isR.filterMap (fun i => bs[i]?))) := by rw [← h6 u, h3 u, ← h4 u]; exact wd_pick (b2 u) isC isR (h5 u) hp
  obtain ⟨hP2, hD2⟩ := wd_back hpm hpm2 hP hD hk1 hF (by rw [ht] at hB1; exact hB1) hB3
  exact kk r u hw H1 l1 ls hP2 hD2 hS2 hl
theorem g_clS (X : Cx p s m args meth c cc nL own Ts D tys A H0 ret) {S : Type} {post : Int64 → S → Prop} {wf : S → va_W} {y : MethodName} {ws : List Cond} {rm : Room} {mc ms maxL index nn : Nat} {bytes : ByteArray} {rt : Option FieldType}  {As : List Value} {wc : va_W} {st0 : List Value} (bs : List va_W) (b2 : S → List va_W) (W2 : S → va_W) (n : Nat) (isC isR : List Nat) 
    (hM : Cl l y ws rm D tys (As) wc post wf mc ms) (cw : CallB R s args own index y bytes maxL rt ws rm mc ms nn ∧ (Cond.static y).before args s = true) (hdg : decode cc pc = .ok (.invokestatic index, 3)) (hst : st0 = As.reverse ++ st) (hlen : As.length = nn) (hroom : (st.map fun v => v.category).sum ≤ 8) (hf : k + mc ≤ R.cells ∧ j + ms ≤ R.slots) (h1 : w = fl bs) (h2 : wc = fl (isC.filterMap (fun i => bs[i]?))) (hn : bs.length = n) (hp : (isC ++ isR).isPerm (List.range n) = true) (h3 : ∀ u : S, wf u = fl (isC.filterMap (fun i => (b2 u)[i]?))) (h4 : ∀ u : S, isR.filterMap (fun i => (b2 u)[i]?) = isR.filterMap (fun i => bs[i]?)) (h5 : ∀ u : S, (b2 u).length = n) (h6 : ∀ u : S, fl (b2 u) = W2 u) 
    (kk : ∀ (r : Int64) (u : S), post r u → GG p l e R s m args below meth c D A H0 nL Q (W2 u) (k + mc) (j + ms) lv (pc + 3) (.long r :: st)) : GG p l e R s m args below meth c D A H0 nL Q w k j lv (pc) (st0) := by
  intro H locs ls hP hD hS hl
  subst hst
  have hpm : w.Perm (wc ++ fl (isR.filterMap (fun i => bs[i]?))) := by rw [h1, h2]; exact wd_pick bs isC isR hn hp
  obtain ⟨hPc, hDc⟩ := wd_L hpm hP hD
  have hF := wd_free hpm hD hS X.2.2.1
  refine va_calll (va_runS X.1 (hM H.size) cw ⟨(fun a U g mk h => by obtain ⟨z1, z2, z3, z4, z5⟩ := h; exact ⟨z1, z2, z3, va_K.moved (u := U) (U := U.calling g mk a) (Vm.Alike.refl U.vm) z4, z5⟩), (fun U hU hW => ⟨rfl, by rw [hU], by rw [hU]; exact hPc, va_K.moved hW.alike X.2.1, hDc.weaken (fun _ _ _ _ => trivial)⟩)⟩ rfl hlen hl.1 rfl (lv_room hroom) hdg hf) hS (fun q _ h => hF q h) hF (fun r u t H1 l1 ht hvm hw hB hz1 hk1 hS2 => ?_)
  obtain ⟨hB1, hB2, hB3⟩ := hB
  have hpm2 : (W2 u).Perm (wf u ++ fl (isR.filterMap (fun i => bs[i]?))) := by rw [← h6 u, h3 u, ← h4 u]; exact wd_pick (b2 u) isC isR (h5 u) hp
  obtain ⟨hP2, hD2⟩ := wd_back hpm hpm2 hP hD hk1 hF (by rw [ht] at hB1; exact hB1) hB3
  exact kk r u hw H1 l1 ls hP2 hD2 hS2 hl
theorem g_cdV (X : Cx p s m args meth c cc nL own Ts D tys A H0 ret) {S : Type} {post : UInt64 → S → Prop} {wf : S → va_W} {y : MethodName} {ws : List Cond} {rm : Room} {mc ms maxL index nn : Nat} {bytes : ByteArray} {rt : Option FieldType} {C : String} {b : Nat} {As : List Value} {wc : va_W} {st0 : List Value} (bs : List va_W) (b2 : S → List va_W) (W2 : S → va_W) (n : Nat) (isC isR : List Nat) (q0 : Nat) {ci : Nat} {qc : vw_C} {fs : List Value}
    (hM : Cd l y ws rm D tys (.ref b :: As) wc post wf mc ms) (cw : CallW R s args own C index y bytes maxL rt ws rm mc ms nn) (hdg : decode cc pc = .ok (.invokevirtual index, 3)) (hst : st0 = As.reverse ++ .ref b :: st) (hlen : As.length = nn) (hroom : (st.map fun v => v.category).sum ≤ 8) (hf : k + mc ≤ R.cells ∧ j + ms ≤ R.slots) (h1 : w = fl bs) (h2 : wc = fl (isC.filterMap (fun i => bs[i]?))) (hn : bs.length = n) (hp : (isC ++ isR).isPerm (List.range n) = true) (h3 : ∀ u : S, wf u = fl (isC.filterMap (fun i => (b2 u)[i]?))) (h4 : ∀ u : S, isR.filterMap (fun i => (b2 u)[i]?) = isR.filterMap (fun i => bs[i]?)) (h5 : ∀ u : S, (b2 u).length = n) (h6 : ∀ u : S, fl (b2 u) = W2 u) (hci : vwCl[ci]? = some qc) (hCq : qc.1 = C) (hrc : wc[q0]? = some (b, .inr (ci, fs)))
    (kk : ∀ (r : UInt64) (u : S), post r u → GG p l e R s m args below meth c D A H0 nL Q (W2 u) (k + mc) (j + ms) lv (pc + 3) (.double r :: st)) : GG p l e R s m args below meth c D A H0 nL Q w k j lv (pc) (st0) := by
  intro H locs ls hP hD hS hl
  subst hst
  have hpm : w.Perm (wc ++ fl (isR.filterMap (fun i => bs[i]?))) := by rw [h1, h2]; exact wd_pick bs isC isR hn hp
  obtain ⟨hPc, hDc⟩ := wd_L hpm hP hD
  have hF := wd_free hpm hD hS X.2.2.1
  refine va_calld (va_runV X.1 (hM H.size) cw ⟨(fun a U g mk h => by obtain ⟨z1, z2, z3, z4, z5⟩ := h; exact ⟨z1, z2, z3, va_K.moved (u := U) (U := U.calling g mk a) (Vm.Alike.refl U.vm) z4, z5⟩), by rw [← hCq]; exact va_recv X.2.1 hPc hci hrc, (fun U hU hW => ⟨rfl, by rw [hU], by rw [hU]; exact hPc, va_K.moved hW.alike X.2.1, hDc.weaken (fun _ _ _ _ => trivial)⟩)⟩ rfl hlen hl.1 rfl (lv_room hroom) hdg hf) hS (fun q _ h => hF q h) hF (fun r u t H1 l1 ht hvm hw hB hz1 hk1 hS2 => ?_)
  obtain ⟨hB1, hB2, hB3⟩ := hB
  have hpm2 : (W2 u).Perm (wf u ++ fl (isR.filterMap (fun i => bs[i]?))) := by rw [← h6 u, h3 u, ← h4 u]; exact wd_pick (b2 u) isC isR (h5 u) hp
  obtain ⟨hP2, hD2⟩ := wd_back hpm hpm2 hP hD hk1 hF (by rw [ht] at hB1; exact hB1) hB3
  exact kk r u hw H1 l1 ls hP2 hD2 hS2 hl
theorem g_cdS (X : Cx p s m args meth c cc nL own Ts D tys A H0 ret) {S : Type} {post : UInt64 → S → Prop} {wf : S → va_W} {y : MethodName} {ws : List Cond} {rm : Room} {mc ms maxL index nn : Nat} {bytes : ByteArray} {rt : Option FieldType}  {As : List Value} {wc : va_W} {st0 : List Value} (bs : List va_W) (b2 : S → List va_W) (W2 : S → va_W) (n : Nat) (isC isR : List Nat) 
    (hM : Cd l y ws rm D tys (As) wc post wf mc ms) (cw : CallB R s args own index y bytes maxL rt ws rm mc ms nn ∧ (Cond.static y).before args s = true) (hdg : decode cc pc = .ok (.invokestatic index, 3)) (hst : st0 = As.reverse ++ st) (hlen : As.length = nn) (hroom : (st.map fun v => v.category).sum ≤ 8) (hf : k + mc ≤ R.cells ∧ j + ms ≤ R.slots) (h1 : w = fl bs) (h2 : wc = fl (isC.filterMap (fun i => bs[i]?))) (hn : bs.length = n) (hp : (isC ++ isR).isPerm (List.range n) = true) (h3 : ∀ u : S, wf u = fl (isC.filterMap (fun i => (b2 u)[i]?))) (h4 : ∀ u : S, isR.filterMap (fun i => (b2 u)[i]?) = isR.filterMap (fun i => bs[i]?)) (h5 : ∀ u : S, (b2 u).length = n) (h6 : ∀ u : S, fl (b2 u) = W2 u) 
    (kk : ∀ (r : UInt64) (u : S), post r u → GG p l e R s m args below meth c D A H0 nL Q (W2 u) (k + mc) (j + ms) lv (pc + 3) (.double r :: st)) : GG p l e R s m args below meth c D A H0 nL Q w k j lv (pc) (st0) := by
  intro H locs ls hP hD hS hl
  subst hst
  have hpm : w.Perm (wc ++ fl (isR.filterMap (fun i => bs[i]?))) := by rw [h1, h2]; exact wd_pick bs isC isR hn hp
  obtain ⟨hPc, hDc⟩ := wd_L hpm hP hD
  have hF := wd_free hpm hD hS X.2.2.1
  refine va_calld (va_runS X.1 (hM H.size) cw ⟨(fun a U g mk h => by obtain ⟨z1, z2, z3, z4, z5⟩ := h; exact ⟨z1, z2, z3, va_K.moved (u := U) (U := U.calling g mk a) (Vm.Alike.refl U.vm) z4, z5⟩), (fun U hU hW => ⟨rfl, by rw [hU], by rw [hU]; exact hPc, va_K.moved hW.alike X.2.1, hDc.weaken (fun _ _ _ _ => trivial)⟩)⟩ rfl hlen hl.1 rfl (lv_room hroom) hdg hf) hS (fun q _ h => hF q h) hF (fun r u t H1 l1 ht hvm hw hB hz1 hk1 hS2 => ?_)
  obtain ⟨hB1, hB2, hB3⟩ := hB
  have hpm2 : (W2 u).Perm (wf u ++ fl (isR.filterMap (fun i => bs[i]?))) := by rw [← h6 u, h3 u, ← h4 u]; exact wd_pick (b2 u) isC isR (h5 u) hp
  obtain ⟨hP2, hD2⟩ := wd_back hpm hpm2 hP hD hk1 hF (by rw [ht] at hB1; exact hB1) hB3
  exact kk r u hw H1 l1 ls hP2 hD2 hS2 hl
theorem g_cvV (X : Cx p s m args meth c cc nL own Ts D tys A H0 ret) {S : Type} {post : S → Prop} {wf : S → va_W} {y : MethodName} {ws : List Cond} {rm : Room} {mc ms maxL index nn : Nat} {bytes : ByteArray} {rt : Option FieldType} {C : String} {b : Nat} {As : List Value} {wc : va_W} {st0 : List Value} (bs : List va_W) (b2 : S → List va_W) (W2 : S → va_W) (n : Nat) (isC isR : List Nat) (q0 : Nat) {ci : Nat} {qc : vw_C} {fs : List Value}
    (hM : Cv l y ws rm D tys (.ref b :: As) wc post wf mc ms) (cw : CallW R s args own C index y bytes maxL rt ws rm mc ms nn) (hdg : decode cc pc = .ok (.invokevirtual index, 3)) (hst : st0 = As.reverse ++ .ref b :: st) (hlen : As.length = nn) (hroom : (st.map fun v => v.category).sum ≤ 8) (hf : k + mc ≤ R.cells ∧ j + ms ≤ R.slots) (h1 : w = fl bs) (h2 : wc = fl (isC.filterMap (fun i => bs[i]?))) (hn : bs.length = n) (hp : (isC ++ isR).isPerm (List.range n) = true) (h3 : ∀ u : S, wf u = fl (isC.filterMap (fun i => (b2 u)[i]?))) (h4 : ∀ u : S, isR.filterMap (fun i => (b2 u)[i]?) = isR.filterMap (fun i => bs[i]?)) (h5 : ∀ u : S, (b2 u).length = n) (h6 : ∀ u : S, fl (b2 u) = W2 u) (hci : vwCl[ci]? = some qc) (hCq : qc.1 = C) (hrc : wc[q0]? = some (b, .inr (ci, fs)))
    (kk : ∀ (u : S), post u → GG p l e R s m args below meth c D A H0 nL Q (W2 u) (k + mc) (j + ms) lv (pc + 3) (st)) : GG p l e R s m args below meth c D A H0 nL Q w k j lv (pc) (st0) := by
  intro H locs ls hP hD hS hl
  subst hst
  have hpm : w.Perm (wc ++ fl (isR.filterMap (fun i => bs[i]?))) := by rw [h1, h2]; exact wd_pick bs isC isR hn hp
  obtain ⟨hPc, hDc⟩ := wd_L hpm hP hD
  have hF := wd_free hpm hD hS X.2.2.1
  refine va_callv (va_runV X.1 (hM H.size) cw ⟨(fun a U g mk h => by obtain ⟨z1, z2, z3, z4, z5⟩ := h; exact ⟨z1, z2, z3, va_K.moved (u := U) (U := U.calling g mk a) (Vm.Alike.refl U.vm) z4, z5⟩), by rw [← hCq]; exact va_recv X.2.1 hPc hci hrc, (fun U hU hW => ⟨rfl, by rw [hU], by rw [hU]; exact hPc, va_K.moved hW.alike X.2.1, hDc.weaken (fun _ _ _ _ => trivial)⟩)⟩ rfl hlen hl.1 rfl (lv_room hroom) hdg hf) hS (fun q _ h => hF q h) hF (fun u t H1 l1 ht hvm hw hB hz1 hk1 hS2 => ?_)
  obtain ⟨hB1, hB2, hB3⟩ := hB
  have hpm2 : (W2 u).Perm (wf u ++ fl (isR.filterMap (fun i => bs[i]?))) := by rw [← h6 u, h3 u, ← h4 u]; exact wd_pick (b2 u) isC isR (h5 u) hp
  obtain ⟨hP2, hD2⟩ := wd_back hpm hpm2 hP hD hk1 hF (by rw [ht] at hB1; exact hB1) hB3
  exact kk u hw H1 l1 ls hP2 hD2 hS2 hl
theorem g_cvS (X : Cx p s m args meth c cc nL own Ts D tys A H0 ret) {S : Type} {post : S → Prop} {wf : S → va_W} {y : MethodName} {ws : List Cond} {rm : Room} {mc ms maxL index nn : Nat} {bytes : ByteArray} {rt : Option FieldType}  {As : List Value} {wc : va_W} {st0 : List Value} (bs : List va_W) (b2 : S → List va_W) (W2 : S → va_W) (n : Nat) (isC isR : List Nat) 
    (hM : Cv l y ws rm D tys (As) wc post wf mc ms) (cw : CallB R s args own index y bytes maxL rt ws rm mc ms nn ∧ (Cond.static y).before args s = true) (hdg : decode cc pc = .ok (.invokestatic index, 3)) (hst : st0 = As.reverse ++ st) (hlen : As.length = nn) (hroom : (st.map fun v => v.category).sum ≤ 8) (hf : k + mc ≤ R.cells ∧ j + ms ≤ R.slots) (h1 : w = fl bs) (h2 : wc = fl (isC.filterMap (fun i => bs[i]?))) (hn : bs.length = n) (hp : (isC ++ isR).isPerm (List.range n) = true) (h3 : ∀ u : S, wf u = fl (isC.filterMap (fun i => (b2 u)[i]?))) (h4 : ∀ u : S, isR.filterMap (fun i => (b2 u)[i]?) = isR.filterMap (fun i => bs[i]?)) (h5 : ∀ u : S, (b2 u).length = n) (h6 : ∀ u : S, fl (b2 u) = W2 u) 
    (kk : ∀ (u : S), post u → GG p l e R s m args below meth c D A H0 nL Q (W2 u) (k + mc) (j + ms) lv (pc + 3) (st)) : GG p l e R s m args below meth c D A H0 nL Q w k j lv (pc) (st0) := by
  intro H locs ls hP hD hS hl
  subst hst
  have hpm : w.Perm (wc ++ fl (isR.filterMap (fun i => bs[i]?))) := by rw [h1, h2]; exact wd_pick bs isC isR hn hp
  obtain ⟨hPc, hDc⟩ := wd_L hpm hP hD
  have hF := wd_free hpm hD hS X.2.2.1
  refine va_callv (va_runS X.1 (hM H.size) cw ⟨(fun a U g mk h => by obtain ⟨z1, z2, z3, z4, z5⟩ := h; exact ⟨z1, z2, z3, va_K.moved (u := U) (U := U.calling g mk a) (Vm.Alike.refl U.vm) z4, z5⟩), (fun U hU hW => ⟨rfl, by rw [hU], by rw [hU]; exact hPc, va_K.moved hW.alike X.2.1, hDc.weaken (fun _ _ _ _ => trivial)⟩)⟩ rfl hlen hl.1 rfl (lv_room hroom) hdg hf) hS (fun q _ h => hF q h) hF (fun u t H1 l1 ht hvm hw hB hz1 hk1 hS2 => ?_)
  obtain ⟨hB1, hB2, hB3⟩ := hB
  have hpm2 : (W2 u).Perm (wf u ++ fl (isR.filterMap (fun i => bs[i]?))) := by rw [← h6 u, h3 u, ← h4 u]; exact wd_pick (b2 u) isC isR (h5 u) hp
  obtain ⟨hP2, hD2⟩ := wd_back hpm hpm2 hP hD hk1 hF (by rw [ht] at hB1; exact hB1) hB3
  exact kk u hw H1 l1 ls hP2 hD2 hS2 hl
theorem g_iret {S : Type} {post : Int32 → S → Prop} {wf : S → va_W} {mc ms : Nat} (X : Cx p s m args meth c cc nL own Ts D tys A s.heap (some .int)) {v : Int32} (u : S) (hp : post v u) (hw : w = wf u) (hk : k ≤ mc) (hj : j ≤ ms) (hdg : decode cc pc = .ok (.ireturn, 1)) : GG p l e R s m args below meth c D A s.heap nL (MQ below (va_Qi post (fun u t => Af D tys A (wf u) t) A) args s mc ms A) w k j lv pc [.int v] := fun H locs ls hP hD hS hl => W.widen hk hj (W.iret X.1.1 X.1.2.1 X.2.2.2.1 (fun t ht hW => ⟨⟨v, u, rfl, hp, by rw [ht]; exact hw ▸ hP, va_K.moved hW.alike X.2.1, hw ▸ hD⟩, hS.F ht⟩) hS.2.2 hdg X.2.2.2.2)
theorem g_lret {S : Type} {post : Int64 → S → Prop} {wf : S → va_W} {mc ms : Nat} (X : Cx p s m args meth c cc nL own Ts D tys A s.heap (some .long)) {v : Int64} (u : S) (hp : post v u) (hw : w = wf u) (hk : k ≤ mc) (hj : j ≤ ms) (hdg : decode cc pc = .ok (.lreturn, 1)) : GG p l e R s m args below meth c D A s.heap nL (MQ below (va_Ql post (fun u t => Af D tys A (wf u) t) A) args s mc ms A) w k j lv pc [.long v] := fun H locs ls hP hD hS hl => W.widen hk hj (W.lret X.1.1 X.1.2.1 X.2.2.2.1 (fun t ht hW => ⟨⟨v, u, rfl, hp, by rw [ht]; exact hw ▸ hP, va_K.moved hW.alike X.2.1, hw ▸ hD⟩, hS.F ht⟩) hS.2.2 hdg X.2.2.2.2)
theorem g_dret {S : Type} {post : UInt64 → S → Prop} {wf : S → va_W} {mc ms : Nat} (X : Cx p s m args meth c cc nL own Ts D tys A s.heap (some .double)) {v : UInt64} (u : S) (hp : post v u) (hw : w = wf u) (hk : k ≤ mc) (hj : j ≤ ms) (hdg : decode cc pc = .ok (.dreturn, 1)) : GG p l e R s m args below meth c D A s.heap nL (MQ below (va_Qd post (fun u t => Af D tys A (wf u) t) A) args s mc ms A) w k j lv pc [.double v] := fun H locs ls hP hD hS hl => W.widen hk hj (W.dret X.1.1 X.1.2.1 X.2.2.2.1 (fun t ht hW => ⟨⟨v, u, rfl, hp, by rw [ht]; exact hw ▸ hP, va_K.moved hW.alike X.2.1, hw ▸ hD⟩, hS.F ht⟩) hS.2.2 hdg X.2.2.2.2)
theorem g_vret {S : Type} {post : S → Prop} {wf : S → va_W} {mc ms : Nat} (X : Cx p s m args meth c cc nL own Ts D tys A s.heap (none)) (u : S) (hp : post u) (hw : w = wf u) (hk : k ≤ mc) (hj : j ≤ ms) (hdg : decode cc pc = .ok (.return_, 1)) : GG p l e R s m args below meth c D A s.heap nL (MQ below (va_Qv post (fun u t => Af D tys A (wf u) t) A) args s mc ms A) w k j lv pc [] := fun H locs ls hP hD hS hl => W.widen hk hj (W.vret X.1.1 X.1.2.1 X.2.2.2.1 (fun t ht hW => ⟨⟨u, rfl, hp, by rw [ht]; exact hw ▸ hP, va_K.moved hW.alike X.2.1, hw ▸ hD⟩, hS.F ht⟩) hS.2.2 hdg X.2.2.2.2)
theorem g_zret {S : Type} {post : Int32 → S → Prop} {wf : S → va_W} {mc ms : Nat} (X : Cx p s m args meth c cc nL own Ts D tys A s.heap (some .boolean)) {v : Int32} (u : S) (hb : isB v) (hp : post v u) (hw : w = wf u) (hk : k ≤ mc) (hj : j ≤ ms) (hdg : decode cc pc = .ok (.ireturn, 1)) : GG p l e R s m args below meth c D A s.heap nL (MQ below (va_Qi post (fun u t => Af D tys A (wf u) t) A) args s mc ms A) w k j lv pc [.int v] := fun H locs ls hP hD hS hl => W.widen hk hj (W.zret X.1.1 X.1.2.1 X.2.2.2.1 (isB_nar2 hb) (fun t ht hW => ⟨⟨v, u, rfl, hp, by rw [ht]; exact hw ▸ hP, va_K.moved hW.alike X.2.1, hw ▸ hD⟩, hS.F ht⟩) hS.2.2 hdg X.2.2.2.2)
/-- a method's beginning -/
theorem g_of {y : MethodName} {ws ws2 : List Cond} {rm : Room} {av : List Value} {w0 : va_W} {sz : Nat} {Qc : Array Value → State → Outcome → State → Prop} {mc ms maxL : Nat} {bytes : ByteArray} (hy : plainName y.cls = true) (hws : ws = Cond.code y bytes maxL ret :: ws2) (hcls : y.cls = own) (hn : (lg_sl av).length ≤ maxL) (lv0 : List (Nat × Value)) (hlv : lv_args 0 av = lv0)
    (body : ∀ (p : Program) (e : Env) (s : State) (m : MethodId) (args : Array Value) (below : List Frame) (meth : Method) (c : Code), sz = s.heap.size → Cx p s m args meth c bytes maxL own ws D tys (va_A w0 s.heap.size) s.heap ret → GG p l e rm s m args below meth c D (va_A w0 s.heap.size) s.heap maxL (MQ below Qc args s mc ms (va_A w0 sz)) w0 0 0 lv0 0 []) : Met l y ws rm (va_Pc av (Bf D tys w0 sz)) Qc mc ms (va_A w0 sz) := by
  refine Met.ofW (cc := bytes) (maxL := maxL) (ret := ret) hy hws ?_
  intro p e s m args below meth c s₁ B hml hv
  obtain ⟨hav, hsz, hP, hK, hD0⟩ := hv
  subst hav
  subst hlv
  have hown : s.vm.findClass own = some m.cls := by rw [← hcls]; exact findClass_of_methodNamed B.named
  have h := body p e s m av.toArray below meth c hsz.symm ⟨⟨B.exec, B.bytes, hml, hown, atoms_spec (ws := ws) B.pre⟩, hK, fun q h => Or.inr h, B.returns, B.notSynchronized⟩
  have hl := lv_entry av (n := maxL) hn
  rw [lg_entry_eq]
  exact h s.heap [] _ hP (hD0.self) va_S.rf hl
end GK
