/-! Exceptions that the class throws: what they lean on, and the end of a method by one of them. -/
def txs : List (Nat × String) := [(65, "no such row"), (81, "no such person"), (85, "both are the same"), (94, "no such couple"), (103, "no two people side by side there"), (127, "the code is not 33 to 126"), (135, "the buffer is full"), (150, "the buffer tells no chronicle"), (164, "no such slot"), (172, "no snapshot in the slot"), (177, "no saved state"), (210, "what is not 0 to 6"), (227, "what is not 0 to 5"), (229, "place is below 0"), (234, "what is not 0 or 1"), (263, "what is not 0 to 8")]
def exn : Nat → String
  | 0 => "java/lang/IndexOutOfBoundsException"
  | 1 => "java/lang/IllegalArgumentException"
  | _ => "java/lang/IllegalStateException"
def xbad : List Cond := [.castable "java/lang/IndexOutOfBoundsException" "java/lang/IndexOutOfBoundsException", .castable "java/lang/IllegalArgumentException" "java/lang/IllegalArgumentException", .castable "java/lang/IllegalStateException" "java/lang/IllegalStateException", .declares ⟨"java/lang/RuntimeException", "<init>", "(Ljava/lang/String;)V"⟩, .declares ⟨"java/lang/Exception", "<init>", "(Ljava/lang/String;)V"⟩, .declares ⟨"java/lang/Throwable", "<init>", "(Ljava/lang/String;)V"⟩]
theorem xbad_on : ∀ w ∈ xbad, w.onTables = true := by decide +kernel
def XS (A : Nat → Prop) (U : State) : Prop := vx_Zq Bundle.tN "UNASSIGNED_STACK" Bundle.steD A U U.heap ∧ vx_Zq Bundle.tN "SUPPRESSED_SENTINEL" Bundle.listD A U U.heap ∧ (∀ q ∈ txs, ∃ a, vk_R RX7 q.1 q.2 a U) ∧ ∀ w ∈ xbad, va_Nw w U
theorem xb_warm {s U : State} (hW : s.WarmedH U.vm) : ∀ w ∈ xbad, va_Nw w s → va_Nw w U := by
  intro w hw h
  have cs : ∀ a b : String, va_Nw (.castable a b) s → va_Nw (.castable a b) U := fun a b h => va_tabs rfl (rfl : (s.setVm U.vm).vm = U.vm) (by rw [Cond.castable_setVm hW.alike]; exact h)
  simp only [xbad, List.mem_cons, List.not_mem_nil, or_false] at hw
  rcases hw with rfl | rfl | rfl | rfl | rfl | rfl
  · exact cs _ _ h
  · exact cs _ _ h
  · exact cs _ _ h
  · exact va_Nw.warmD hW h
  · exact va_Nw.warmD hW h
  · exact va_Nw.warmD hW h
theorem XS.to {A B : Nat → Prop} {s U : State} (h : XS A s) (hW : s.WarmedH U.vm) (hS : ∀ a : Nat, a < s.heap.size → ¬ A a → U.heap[a]? = s.heap[a]?) (hBA : ∀ q, B q → A q) : XS B U :=
  ⟨((h.1.kept hS).moved hW.alike).narrow hBA, ((h.2.1.kept hS).moved hW.alike).narrow hBA, fun q hq => (h.2.2.1 q hq).elim fun a ha => ⟨a, ha.warm hW⟩, fun w hw => xb_warm hW w hw (h.2.2.2 w hw)⟩
theorem XS.calling {A : Nat → Prop} {U : State} {g : JFrame} {mk : MethodId} {a : Array Value} (h : XS A U) : XS A (U.calling g mk a) := XS.to (A := A) (B := A) (s := U) (U := U.calling g mk a) h (State.WarmedH.refl U) (fun _ _ _ => rfl) (fun _ h => h)
abbrev Xi {S : Type} (l : Launch) (y : MethodName) (ws : List Cond) (rm : Room) (D : va_G) (tys : List (ClassId × FieldType)) (av : List Value) (w : va_W) (post : Int32 → S → Prop) (wf : S → va_W) (px : Nat → Prop) (mc ms : Nat) : Prop := ∀ sz : Nat, vx_Met l y ws rm (va_Pc av (fun U => Bf D tys w sz U ∧ XS (va_A w sz) U)) (va_Qi post (fun u t => Af D tys (va_A w sz) (wf u) t) (va_A w sz)) (vx_X px (fun E u t => E = exn u ∧ Af D tys (va_A w sz) w t) (va_A w sz)) mc ms (va_A w sz)
section GKX
variable {p : Program} {l : Launch} {e : Env} {R : Room} {s : State} {m : MethodId} {args : Array Value} {below : List Frame} {meth : Method} {c : Code} {cc : ByteArray} {nL : Nat} {own : String} {Ts : List Cond} {D : va_G} {tys : List (ClassId × FieldType)} {A : Nat → Prop} {H0 : Heap} {ret : Option FieldType} {Q : State → Prop} {w w0 : va_W} {k j : Nat} {lv lv2 : List (Nat × Value)} {pc : Nat} {st : List Value}
theorem g_throw {S : Type} {post : Int32 → S → Prop} {wf : S → va_W} {px : Nat → Prop} {mc ms : Nat} (X : Cx p s m args meth c cc nL RX7 Ts D tys A s.heap ret) (hl9 : l.stackTraces = false) (XX : XS A s) (hout : ∀ x ∈ c.exceptionTable.toList, False) (code : Nat) (cls text : String) {ik is ic : Nat} (hcls : exn code = cls) (hfit : Bundle.fit cls = true) (htx : (is, text) ∈ txs) (hk : Cond.classLink RX7 ik cls ∈ Ts) (hini : Cond.initialized cls ∈ Ts) (hat : ∀ w ∈ (vx_atS RX7 ic cls ["java/lang/RuntimeException", "java/lang/Exception"]).filter goodWord, w ∈ Ts) (hbad : ∀ w ∈ (vx_atS RX7 ic cls ["java/lang/RuntimeException", "java/lang/Exception"]).filter (fun w => !goodWord w), w ∈ xbad) (hgood : ∀ w ∈ Cond.classLink RX7 ik cls :: Cond.initialized cls :: vx_atS RX7 ic cls ["java/lang/RuntimeException", "java/lang/Exception"], vx_ot w = true)
    (d0 : decode cc pc = .ok (.new ik, 3)) (d3 : decode cc (pc + 3) = .ok (.dup, 1)) (d4 : decode cc (pc + 4) = .ok (.ldc is, 2)) (d6 : decode cc (pc + 6) = .ok (.invokespecial ic, 3)) (d9 : decode cc (pc + 9) = .ok (.athrow, 1))
    (hfr : 5 < R.frames) (hlo : (st.map fun v => v.category).sum + (13 * 3 + 43) ≤ R.locals) (hc : k + 1 ≤ R.cells) (hs : j + 6 ≤ R.slots) (hc2 : k + 1 ≤ mc) (hs2 : j + 6 ≤ ms) (hp : px code) (hw0 : w = w0) :
    GG p l e R s m args below meth c D A s.heap nL (vx_MQ below (va_Qi post (fun u t => Af D tys A (wf u) t) A) (vx_X px (fun E u t => E = exn u ∧ Af D tys A w0 t) A) args s mc ms A) w k j lv pc st := by
  intro H locs ls hP hD hS hl
  subst hw0
  obtain ⟨sa, hsa⟩ := XX.2.2.1 (is, text) htx
  refine vx_throwS X.1.1 X.1.2.1 hl9 (names := ["java/lang/RuntimeException", "java/lang/Exception"]) (text := text) (sa := sa) (A := A) X.1.2.2.2.1 hfit (by decide) (X.1.2.2.2.2 _ hk) (X.1.2.2.2.2 _ hini) hsa
    (vx_hat (fun w hw => X.1.2.2.2.2 w (hat w hw)) hbad (fun w hw => va_Nw.use (xbad_on w hw) (XX.2.2.2 w hw))) hgood XX.1 XX.2.1 hS (hl.1.trans X.1.2.2.1.symm) d0 d3 d4 d6 d9 (fun x hx => (hout x hx).elim) hfr hlo hc hs X.2.2.2.2
    (fun t hvm hsz hkp => ⟨code, hp, ⟨hcls.symm, ?_, va_K.moved hvm X.2.1, hD⟩, ⟨Nat.le_trans hS.1 hsz, fun q h1 h2 => ?_⟩⟩) hS.2.2 hc2 hs2
  · exact va_P_mem.mpr fun q hq => (va_P_mem.mp hP q hq).kept (hkp q.1 (va_P_mem.mp hP q hq).lt)
  · rw [hkp q (Nat.lt_of_lt_of_le h1 hS.1)]
    exact hS.2.1 q h1 h2
/-- .. the text by a wide index -/
theorem g_throwW {S : Type} {post : Int32 → S → Prop} {wf : S → va_W} {px : Nat → Prop} {mc ms : Nat} (X : Cx p s m args meth c cc nL RX7 Ts D tys A s.heap ret) (hl9 : l.stackTraces = false) (XX : XS A s) (hout : ∀ x ∈ c.exceptionTable.toList, False) (code : Nat) (cls text : String) {ik is ic : Nat} (hcls : exn code = cls) (hfit : Bundle.fit cls = true) (htx : (is, text) ∈ txs) (hk : Cond.classLink RX7 ik cls ∈ Ts) (hini : Cond.initialized cls ∈ Ts) (hat : ∀ w ∈ (vx_atS RX7 ic cls ["java/lang/RuntimeException", "java/lang/Exception"]).filter goodWord, w ∈ Ts) (hbad : ∀ w ∈ (vx_atS RX7 ic cls ["java/lang/RuntimeException", "java/lang/Exception"]).filter (fun w => !goodWord w), w ∈ xbad) (hgood : ∀ w ∈ Cond.classLink RX7 ik cls :: Cond.initialized cls :: vx_atS RX7 ic cls ["java/lang/RuntimeException", "java/lang/Exception"], vx_ot w = true)
    (d0 : decode cc pc = .ok (.new ik, 3)) (d3 : decode cc (pc + 3) = .ok (.dup, 1)) (d4 : decode cc (pc + 4) = .ok (.ldc_w is, 3)) (d7 : decode cc (pc + 7) = .ok (.invokespecial ic, 3)) (d10 : decode cc (pc + 10) = .ok (.athrow, 1))
    (hfr : 5 < R.frames) (hlo : (st.map fun v => v.category).sum + (13 * 3 + 43) ≤ R.locals) (hc : k + 1 ≤ R.cells) (hs : j + 6 ≤ R.slots) (hc2 : k + 1 ≤ mc) (hs2 : j + 6 ≤ ms) (hp : px code) (hw0 : w = w0) :
    GG p l e R s m args below meth c D A s.heap nL (vx_MQ below (va_Qi post (fun u t => Af D tys A (wf u) t) A) (vx_X px (fun E u t => E = exn u ∧ Af D tys A w0 t) A) args s mc ms A) w k j lv pc st := by
  intro H locs ls hP hD hS hl
  subst hw0
  obtain ⟨sa, hsa⟩ := XX.2.2.1 (is, text) htx
  refine vx_throwSW X.1.1 X.1.2.1 hl9 (names := ["java/lang/RuntimeException", "java/lang/Exception"]) (text := text) (sa := sa) (A := A) X.1.2.2.2.1 hfit (by decide) (X.1.2.2.2.2 _ hk) (X.1.2.2.2.2 _ hini) hsa
    (vx_hat (fun w hw => X.1.2.2.2.2 w (hat w hw)) hbad (fun w hw => va_Nw.use (xbad_on w hw) (XX.2.2.2 w hw))) hgood XX.1 XX.2.1 hS (hl.1.trans X.1.2.2.1.symm) d0 d3 d4 d7 d10 (fun x hx => (hout x hx).elim) hfr hlo hc hs X.2.2.2.2
    (fun t hvm hsz hkp => ⟨code, hp, ⟨hcls.symm, ?_, va_K.moved hvm X.2.1, hD⟩, ⟨Nat.le_trans hS.1 hsz, fun q h1 h2 => ?_⟩⟩) hS.2.2 hc2 hs2
  · exact va_P_mem.mpr fun q hq => (va_P_mem.mp hP q hq).kept (hkp q.1 (va_P_mem.mp hP q hq).lt)
  · rw [hkp q (Nat.lt_of_lt_of_le h1 hS.1)]
    exact hS.2.1 q h1 h2
theorem g_iretx {S : Type} {post : Int32 → S → Prop} {wf : S → va_W} {XC : String → State → State → Prop} {mc ms : Nat} (X : Cx p s m args meth c cc nL own Ts D tys A s.heap (some .int)) {v : Int32} (u : S) (hp : post v u) (hw : w = wf u) (hk : k ≤ mc) (hj : j ≤ ms) (hdg : decode cc pc = .ok (.ireturn, 1)) : GG p l e R s m args below meth c D A s.heap nL (vx_MQ below (va_Qi post (fun u t => Af D tys A (wf u) t) A) XC args s mc ms A) w k j lv pc [.int v] := fun H locs ls hP hD hS hl => vx_ret (g_iret X u hp hw hk hj hdg H locs ls hP hD hS hl)
/-- the beginning of a method that may throw -/
theorem g_ofx {y : MethodName} {ws ws2 : List Cond} {rm : Room} {av : List Value} {w0 : va_W} {sz : Nat} {Qc : Array Value → State → Outcome → State → Prop} {XC : String → State → State → Prop} {mc ms maxL : Nat} {bytes : ByteArray} (hy : plainName y.cls = true) (hws : ws = Cond.code y bytes maxL ret :: ws2) (hcls : y.cls = own) (hn : (lg_sl av).length ≤ maxL) (lv0 : List (Nat × Value)) (hlv : lv_args 0 av = lv0)
    (body : ∀ (p : Program) (e : Env) (s : State) (m : MethodId) (args : Array Value) (below : List Frame) (meth : Method) (c : Code), sz = s.heap.size → (∀ x ∈ c.exceptionTable.toList, False) → XS (va_A w0 s.heap.size) s → Cx p s m args meth c bytes maxL own ws D tys (va_A w0 s.heap.size) s.heap ret → GG p l e rm s m args below meth c D (va_A w0 s.heap.size) s.heap maxL (vx_MQ below Qc XC args s mc ms (va_A w0 sz)) w0 0 0 lv0 0 []) : vx_Met l y ws rm (va_Pc av (fun U => Bf D tys w0 sz U ∧ XS (va_A w0 sz) U)) Qc XC mc ms (va_A w0 sz) := by
  refine vx_ofW (cc := bytes) (maxL := maxL) (ret := ret) hy hws ?_
  intro p e s m args below meth c s₁ B hml hex hv
  obtain ⟨hav, ⟨hsz, hP, hK, hD0⟩, hXS⟩ := hv
  subst hav
  subst hlv
  have hown : s.vm.findClass own = some m.cls := by rw [← hcls]; exact findClass_of_methodNamed B.named
  have h := body p e s m av.toArray below meth c hsz.symm hex (by rw [hsz]; exact hXS) ⟨⟨B.exec, B.bytes, hml, hown, atoms_spec (ws := ws) B.pre⟩, hK, fun q h => Or.inr h, B.returns, B.notSynchronized⟩
  have hl := lv_entry av (n := maxL) hn
  rw [lg_entry_eq]
  exact h s.heap [] _ hP (hD0.self) va_S.rf hl
end GKX
theorem xb_0 : ∀ w ∈ (vx_atS RX7 67 "java/lang/IndexOutOfBoundsException" ["java/lang/RuntimeException", "java/lang/Exception"]).filter (fun w => !goodWord w), w ∈ xbad := by decide +kernel
theorem xg_0 : ∀ w ∈ Cond.classLink RX7 63 "java/lang/IndexOutOfBoundsException" :: Cond.initialized "java/lang/IndexOutOfBoundsException" :: vx_atS RX7 67 "java/lang/IndexOutOfBoundsException" ["java/lang/RuntimeException", "java/lang/Exception"], vx_ot w = true := by decide +kernel
theorem xb_1 : ∀ w ∈ (vx_atS RX7 87 "java/lang/IllegalArgumentException" ["java/lang/RuntimeException", "java/lang/Exception"]).filter (fun w => !goodWord w), w ∈ xbad := by decide +kernel
theorem xg_1 : ∀ w ∈ Cond.classLink RX7 83 "java/lang/IllegalArgumentException" :: Cond.initialized "java/lang/IllegalArgumentException" :: vx_atS RX7 87 "java/lang/IllegalArgumentException" ["java/lang/RuntimeException", "java/lang/Exception"], vx_ot w = true := by decide +kernel
theorem xb_2 : ∀ w ∈ (vx_atS RX7 137 "java/lang/IllegalStateException" ["java/lang/RuntimeException", "java/lang/Exception"]).filter (fun w => !goodWord w), w ∈ xbad := by decide +kernel
theorem xg_2 : ∀ w ∈ Cond.classLink RX7 133 "java/lang/IllegalStateException" :: Cond.initialized "java/lang/IllegalStateException" :: vx_atS RX7 137 "java/lang/IllegalStateException" ["java/lang/RuntimeException", "java/lang/Exception"], vx_ot w = true := by decide +kernel
