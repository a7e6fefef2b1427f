def wQ (ct : Nat → ClassId) (a : Nat → Nat) (o : Nat → Int64) : va_W := [(a 0, .inl (ct 4, 1, .inr (.inl o)))]
def XL (A : Nat → Prop) (U : State) : Prop := XS A U ∧ va_Nc "java/lang/IllegalArgumentException" "java/lang/IndexOutOfBoundsException" U ∧ va_Nc "java/lang/IllegalStateException" "java/lang/IllegalArgumentException" U
theorem XL.to {A B : Nat → Prop} {s U : State} (h : XL A s) (hW : s.WarmedH U.vm) (hS : ∀ a : Nat, a < s.heap.size → ¬ A a → U.heap[a]? = s.heap[a]?) (hBA : ∀ q, B q → A q) : XL B U := ⟨h.1.to hW hS hBA, h.2.1.moved hW.alike, h.2.2.moved hW.alike⟩
theorem XL.calling {A : Nat → Prop} {U : State} {g : JFrame} {mk : MethodId} {a : Array Value} (h : XL A U) : XL A (U.calling g mk a) := XL.to (A := A) (B := A) (s := U) (U := U.calling g mk a) h (State.WarmedH.refl U) (fun _ _ _ => rfl) (fun _ h => h)
theorem exn_castable {s : State} {A : Nat → Prop} (h : XS A s) (k : Nat) : va_Nw (.castable (exn k) (exn k)) s := by
  match k with
  | 0 => exact h.2.2.2 _ (List.mem_of_getElem? (i := 0) rfl)
  | 1 => exact h.2.2.2 _ (List.mem_of_getElem? (i := 1) rfl)
  | k + 2 => exact h.2.2.2 _ (List.mem_of_getElem? (i := 2) rfl)
/-- the contract of a method that catches what the class throws -/
abbrev Ch {S : Type} (l : Launch) (y : MethodName) (ws : List Cond) (rm : Room) (D : va_G) (tys : List (ClassId × FieldType)) (av : List Value) (w : va_W) (post : Int32 → S → Prop) (wf : S → va_W) (mc ms : Nat) : Prop := ∀ sz : Nat, Met l y ws rm (va_Pc av (fun U => Bf D tys w sz U ∧ XL (va_A w sz) U)) (va_Qi post (fun u t => Af D tys (va_A w sz) (wf u) t) (va_A w sz)) mc ms (va_A w sz)
section GK3
variable {p : Program} {l : Launch} {e : Env} {R : Room} {s : State} {m : MethodId} {args : Array Value} {below : List Frame} {meth : Method} {c : Code} {cc : ByteArray} {nL : Nat} {own : String} {Ts : List Cond} {D : va_G} {tys : List (ClassId × FieldType)} {A : Nat → Prop} {H0 : Heap} {ret : Option FieldType} {Q : State → Prop} {w : va_W} {k j : Nat} {lv lv2 : List (Nat × Value)} {pc : Nat} {st : List Value}
theorem g_last (X : Cx p s m args meth c cc nL own Ts D tys A H0 ret) (Wf : (Nat → Int64) → va_W) {a : Nat} (q0 t0 : Nat) {cA : ClassId} {n : Nat} {f : Nat → Int64} {i : Int32} {x : Int64} (hdg : decode cc pc = .ok (.lastore, 1)) (ha : w[q0]? = some (a, .inl (cA, n, .inr (.inl f)))) (ht : tys[t0]? = some (cA, .long)) (hi : vp_in i n) (hw : w.set q0 (a, .inl (cA, n, .inr (.inl (vp_updL f i.toNatClampNeg x)))) = Wf (vp_updL f i.toNatClampNeg x))
    (kk : ∀ z : Nat → Int64, z = vp_updL f i.toNatClampNeg x → GG p l e R s m args below meth c D A H0 nL Q (Wf z) k j lv (pc + 1) (st)) : GG p l e R s m args below meth c D A H0 nL Q w k j lv (pc) (.long x :: .int i :: .ref a :: st) := fun H locs ls hP hD hS hl => va_last X.1.1 X.1.2.1 X.2.1 hP hD hS q0 t0 ha ht hi hdg (fun H1 l1 hP1 hD1 hS1 => kk _ rfl H1 l1 ls (hw ▸ hP1) (hw ▸ hD1) hS1 hl)
theorem g_lald (X : Cx p s m args meth c cc nL own Ts D tys A H0 ret) {a : Nat} (q0 t0 : Nat) {cA : ClassId} {n : Nat} {f : Nat → Int64} {i : Int32} (hdg : decode cc pc = .ok (.laload, 1)) (ha : w[q0]? = some (a, .inl (cA, n, .inr (.inl f)))) (ht : tys[t0]? = some (cA, .long)) (hi : vp_in i n)
    (kk : GG p l e R s m args below meth c D A H0 nL Q w k j lv (pc + 1) (.long (f i.toNatClampNeg) :: st)) : GG p l e R s m args below meth c D A H0 nL Q w k j lv (pc) (.int i :: .ref a :: st) := fun H locs ls hP hD hS hl => va_lald X.1.1 X.1.2.1 X.2.1 hP q0 t0 ha ht hi hdg (kk H locs ls hP hD hS hl)
theorem g_slen (X : Cx p s m args meth c cc nL own Ts D tys A H0 ret) {b L : Nat} {xs : Nat → Int32} (hX : va_X b L xs s H0) (hbl : b < H0.size) (hbA : ¬ A b) (hdg : decode cc pc = .ok (.arraylength, 1))
    (kk : GG p l e R s m args below meth c D A H0 nL Q w k j lv (pc + 1) (.int (nI L) :: st)) : GG p l e R s m args below meth c D A H0 nL Q w k j lv (pc) (.ref b :: st) := fun H locs ls hP hD hS hl => va_slen X.1.1 X.1.2.1 hX hbl hbA hS hdg (kk H locs ls hP hD hS hl)
theorem g_sld (X : Cx p s m args meth c cc nL own Ts D tys A H0 ret) {b L : Nat} {xs : Nat → Int32} {i : Int32} (hX : va_X b L xs s H0) (hbl : b < H0.size) (hbA : ¬ A b) (hi : vp_in i L) (hdg : decode cc pc = .ok (.iaload, 1))
    (kk : GG p l e R s m args below meth c D A H0 nL Q w k j lv (pc + 1) (.int (xs i.toNatClampNeg) :: st)) : GG p l e R s m args below meth c D A H0 nL Q w k j lv (pc) (.int i :: .ref b :: st) := fun H locs ls hP hD hS hl => va_sld X.1.1 X.1.2.1 hX hbl hbA hS hi hdg (kk H locs ls hP hD hS hl)
/-- a call that may throw, and what it throws is caught here -/
theorem g_cxV (X : Cx p s m args meth c cc nL own Ts D tys A s.heap ret) (XX : XL A s) {S : Type} {post : Int32 → S → Prop} {wf : S → va_W} {px : Nat → Prop} {y : MethodName} {ws : List Cond} {rm : Room} {mc ms maxL index nn : Nat} {bytes : ByteArray} {rt : Option FieldType} {C : String} {b : Nat} {As : List Value} {wc : va_W} {st0 : List Value} (bs : List va_W) (b2 : S → List va_W) (W2 : S → va_W) (n : Nat) (isC isR : List Nat) (q0 : Nat) {ci : Nat} {qc : vw_C} {fs : List Value}
    (hM : Xi l y ws rm D tys (.ref b :: As) wc post wf px mc ms) (cw : CallW R s args own C index y bytes maxL rt ws rm mc ms nn) (hdg : decode cc pc = .ok (.invokevirtual index, 3)) (hst : st0 = As.reverse ++ .ref b :: st) (hlen : As.length = nn) (hroom : (st.map fun v => v.category).sum ≤ 8) (hf : k + mc ≤ R.cells ∧ j + ms ≤ R.slots) (h1 : w = fl bs) (h2 : wc = fl (isC.filterMap (fun i => bs[i]?))) (hn : bs.length = n) (hp : (isC ++ isR).isPerm (List.range n) = true) (h3 : ∀ u : S, wf u = fl (isC.filterMap (fun i => (b2 u)[i]?))) (h4 : ∀ u : S, isR.filterMap (fun i => (b2 u)[i]?) = isR.filterMap (fun i => bs[i]?)) (h5 : ∀ u : S, (b2 u).length = n) (h6 : ∀ u : S, fl (b2 u) = W2 u) (hci : vwCl[ci]? = some qc) (hCq : qc.1 = C) (hrc : wc[q0]? = some (b, .inr (ci, fs)))
    (kx : ∀ code : Nat, px code → ∃ (pre : List ExceptionTableEntry) (x : ExceptionTableEntry) (suf : List ExceptionTableEntry), c.exceptionTable.toList = pre ++ x :: suf ∧ (∀ z ∈ pre, z.catchType ≠ 0 ∧ ∃ nm : String, Cond.classLink own z.catchType nm ∈ Ts ∧ va_Nc (exn code) nm s) ∧ covers x pc = true ∧ x.catchType ≠ 0 ∧ Cond.classLink own x.catchType (exn code) ∈ Ts ∧ ∀ q9 : Nat, GG p l e R s m args below meth c D A s.heap nL Q w (k + mc) (j + ms) lv (x.handlerPc) ([.ref q9]))
    (kk : ∀ (r : Int32) (u : S), post r u → GG p l e R s m args below meth c D A s.heap nL Q (W2 u) (k + mc) (j + ms) lv (pc + 3) (.int r :: st)) : GG p l e R s m args below meth c D A s.heap nL Q w k j lv (pc) (st0) := by
  intro H locs ls hP hD hS hl
  subst hst
  have hpm : w.Perm (wc ++ fl (isR.filterMap (fun i => bs[i]?))) := by rw [h1, h2]; exact wd_pick bs isC isR hn hp
  obtain ⟨hPc, hDc⟩ := wd_L hpm hP hD
  have hF := wd_free hpm hD hS X.2.2.1
  refine vx_calli (vx_runV X.1 (hM H.size) cw ⟨(fun a U g mk h => by obtain ⟨z1, ⟨z2, z3, z4, z5⟩, z6⟩ := h; exact ⟨z1, ⟨z2, z3, va_K.moved (u := U) (U := U.calling g mk a) (Vm.Alike.refl U.vm) z4, z5⟩, z6.calling⟩), by rw [← hCq]; exact va_recv X.2.1 hPc hci hrc, (fun U hU hW => ⟨rfl, ⟨by rw [hU], by rw [hU]; exact hPc, va_K.moved hW.alike X.2.1, hDc.weaken (fun _ _ _ _ => trivial)⟩, XX.1.to hW (fun q h8 h9 => by rw [hU]; exact hS.2.1 q h8 h9) hF⟩)⟩ rfl hlen hl.1 rfl (lv_room hroom) hdg hf) hS (fun q _ h => hF q h) hF (fun q _ h => hF q h) (fun E ce q9 u t H1 l1 ht hvm hw hB hz1 hk1 hS2 hcell hcv hcl => ?_) (fun r u t H1 l1 ht hvm hw hB hz1 hk1 hS2 => ?_)
  · obtain ⟨hE, hB1, hB2, hB3⟩ := hB
    subst hE
    obtain ⟨hP2, hD2⟩ := wd_back hpm hpm hP hD hk1 hF (by rw [ht] at hB1; exact hB1) hB3
    obtain ⟨pre, x, suf, g1, g2, g3, g4, g5, g6⟩ := kx u hw
    exact vx_catch X.1.2.2.2.1 pre x suf g1 (fun z hz => Or.inr ⟨(g2 z hz).1, (g2 z hz).2.elim fun nm h => ⟨nm, X.1.2.2.2.2 _ h.1, h.2⟩⟩) g3 g4 (X.1.2.2.2.2 _ g5) (va_Nw.use rfl (exn_castable XX.1 u)) hcell hcv hcl (g6 q9 H1 l1 ls hP2 hD2 hS2 hl)
  · obtain ⟨hB1, hB2, hB3⟩ := hB
    have hpm2 : (W2 u).Perm (wf u ++ fl (isR.filterMap (fun i => bs[i]?))) := by rw [← h6 u, h3 u, ← h4 u]; exact wd_pick (b2 u) isC isR (h5 u) hp
    obtain ⟨hP2, hD2⟩ := wd_back hpm hpm2 hP hD hk1 hF (by rw [ht] at hB1; exact hB1) hB3
    exact kk r u hw H1 l1 ls hP2 hD2 hS2 hl
/-- a static call of a method that catches -/
theorem g_chS (X : Cx p s m args meth c cc nL own Ts D tys A s.heap ret) (XX : XL A s) {S : Type} {post : Int32 → S → Prop} {wf : S → va_W} {y : MethodName} {ws : List Cond} {rm : Room} {mc ms maxL index nn : Nat} {bytes : ByteArray} {rt : Option FieldType} {hh : List (Nat × Nat × Nat × Nat)} {As : List Value} {wc : va_W} {st0 : List Value} (bs : List va_W) (b2 : S → List va_W) (W2 : S → va_W) (n : Nat) (isC isR : List Nat)
    (hM : Ch l y ws rm D tys As wc post wf mc ms) (cw : vx_CSW R s args own index y bytes maxL rt hh ws rm mc ms nn) (hdg : decode cc pc = .ok (.invokestatic index, 3)) (hst : st0 = As.reverse ++ st) (hlen : As.length = nn) (hroom : (st.map fun v => v.category).sum ≤ 8) (hf : k + mc ≤ R.cells ∧ j + ms ≤ R.slots) (h1 : w = fl bs) (h2 : wc = fl (isC.filterMap (fun i => bs[i]?))) (hn : bs.length = n) (hp : (isC ++ isR).isPerm (List.range n) = true) (h3 : ∀ u : S, wf u = fl (isC.filterMap (fun i => (b2 u)[i]?))) (h4 : ∀ u : S, isR.filterMap (fun i => (b2 u)[i]?) = isR.filterMap (fun i => bs[i]?)) (h5 : ∀ u : S, (b2 u).length = n) (h6 : ∀ u : S, fl (b2 u) = W2 u)
    (kk : ∀ (r : Int32) (u : S), post r u → GG p l e R s m args below meth c D A s.heap nL Q (W2 u) (k + mc) (j + ms) lv (pc + 3) (.int r :: st)) : GG p l e R s m args below meth c D A s.heap nL Q w k j lv (pc) (st0) := by
  intro H locs ls hP hD hS hl
  subst hst
  have hpm : w.Perm (wc ++ fl (isR.filterMap (fun i => bs[i]?))) := by rw [h1, h2]; exact wd_pick bs isC isR hn hp
  obtain ⟨hPc, hDc⟩ := wd_L hpm hP hD
  have hF := wd_free hpm hD hS X.2.2.1
  refine va_calli (vx_runSW X.1 (hM H.size) cw ⟨(fun a U g mk h => by obtain ⟨z1, ⟨z2, z3, z4, z5⟩, z6⟩ := h; exact ⟨z1, ⟨z2, z3, va_K.moved (u := U) (U := U.calling g mk a) (Vm.Alike.refl U.vm) z4, z5⟩, z6.calling⟩), (fun U hU hW => ⟨rfl, ⟨by rw [hU], by rw [hU]; exact hPc, va_K.moved hW.alike X.2.1, hDc.weaken (fun _ _ _ _ => trivial)⟩, XX.to hW (fun q h8 h9 => by rw [hU]; exact hS.2.1 q h8 h9) hF⟩)⟩ rfl hlen hl.1 rfl (lv_room hroom) hdg hf) hS (fun q _ h => hF q h) hF (fun r u t H1 l1 ht hvm hw hB hz1 hk1 hS2 => ?_)
  obtain ⟨hB1, hB2, hB3⟩ := hB
  have hpm2 : (W2 u).Perm (wf u ++ fl (isR.filterMap (fun i => bs[i]?))) := by rw [← h6 u, h3 u, ← h4 u]; exact wd_pick (b2 u) isC isR (h5 u) hp
  obtain ⟨hP2, hD2⟩ := wd_back hpm hpm2 hP hD hk1 hF (by rw [ht] at hB1; exact hB1) hB3
  exact kk r u hw H1 l1 ls hP2 hD2 hS2 hl
theorem Met_ofWH {y : MethodName} {ws ws2 : List Cond} {rm : Room} {Pc : Array Value → State → Prop} {Qc : Array Value → State → Outcome → State → Prop} {mc ms : Nat} {free : Addr → Prop} {maxL : Nat} {hh : List (Nat × Nat × Nat × Nat)} (hy : plainName y.cls = true) (hw : ws = Cond.codeWith y cc maxL ret hh :: ws2)
    (body : ∀ p e s m args below meth c s₁, BodyLoose p l y (headSpec ws rm) cc maxL ret e s m args below meth c s₁ → c.maxLocals = maxL → Pc args s →
      W p l e (headSpec ws rm).room s m args below meth c s.heap [] 0 0 (MQ below Qc args s mc ms free) (entryFrame m args maxL)) : Met l y ws rm Pc Qc mc ms free := by
  refine MetFree.of_bodyS (code := cc) (maxLocals := maxL) (ret := ret) hy ?_ ?_
  · intro args s m h hn
    obtain ⟨m9, meth, c, hn9, h1, h2, h3, h4, -, h5, h6, -⟩ := Cond.codeWith_spec (atoms_spec (ws := ws) h _ (by rw [hw]; exact List.mem_cons_self))
    cases hn.symm.trans hn9
    exact ⟨meth, c, h1, h2, h3, h4, h5, h6⟩
  · intro p e s m args below meth c s₁ B hml hP _
    have hh0 : s₁.heap = s.heap := by rw [B.state]; rfl
    obtain ⟨t, a1, o, b1, b2, b3⟩ := body p e s m args below meth c s₁ B hml hP s₁ hh0 (Stand.of_body B)
    exact ⟨t, o, a1, b1, b2, ⟨b3.1, b3.2⟩⟩
theorem g_ofh {y : MethodName} {ws ws2 : List Cond} {rm : Room} {av : List Value} {w0 : va_W} {sz : Nat} {Qc : Array Value → State → Outcome → State → Prop} {mc ms maxL : Nat} {bytes : ByteArray} {hh : List (Nat × Nat × Nat × Nat)} (hy : plainName y.cls = true) (hws : ws = Cond.codeWith y bytes maxL ret hh :: ws2) (hcls : y.cls = own) (hn : (lg_sl av).length ≤ maxL) (lv0 : List (Nat × Value)) (hlv : lv_args 0 av = lv0)
    (body : ∀ (p : Program) (e : Env) (s : State) (m : MethodId) (args : Array Value) (below : List Frame) (meth : Method) (c : Code), sz = s.heap.size → c.exceptionTable.toList = tableOf hh → XL (va_A w0 s.heap.size) s → Cx p s m args meth c bytes maxL own ws D tys (va_A w0 s.heap.size) s.heap ret → GG p l e rm s m args below meth c D (va_A w0 s.heap.size) s.heap maxL (MQ below Qc args s mc ms (va_A w0 sz)) w0 0 0 lv0 0 []) : Met l y ws rm (va_Pc av (fun U => Bf D tys w0 sz U ∧ XL (va_A w0 sz) U)) Qc mc ms (va_A w0 sz) := by
  refine Met_ofWH (cc := bytes) (maxL := maxL) (ret := ret) hy hws ?_
  intro p e s m args below meth c s₁ B hml hv
  obtain ⟨hav, ⟨hsz, hP, hK, hD0⟩, hXL⟩ := hv
  subst hav
  subst hlv
  have hown : s.vm.findClass own = some m.cls := by rw [← hcls]; exact findClass_of_methodNamed B.named
  have hts := atoms_spec (ws := ws) B.pre
  have htab : c.exceptionTable.toList = tableOf hh := vx_table (x := y) B (hts _ (by rw [hws]; exact List.mem_cons_self))
  have h := body p e s m av.toArray below meth c hsz.symm htab (by rw [hsz]; exact hXL) ⟨⟨B.exec, B.bytes, hml, hown, hts⟩, hK, fun q h => Or.inr h, B.returns, B.notSynchronized⟩
  have hl := lv_entry av (n := maxL) hn
  rw [lg_entry_eq]
  exact h s.heap [] _ hP (hD0.self) va_S.rf hl
end GK3
