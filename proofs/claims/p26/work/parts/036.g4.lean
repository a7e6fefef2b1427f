section GK4
variable {p : Program} {l : Launch} {e : Env} {R : Room} {s : State} {m : MethodId} {args : Array Value} {below : List Frame} {meth : Method} {c : Code} {cc : ByteArray} {nL : Nat} {own : String} {Ts : List Cond} {D : va_G} {tys : List (ClassId × FieldType)} {A : Nat → Prop} {H0 : Heap} {ret : Option FieldType} {Q : State → Prop} {w : va_W} {k j : Nat} {lv lv2 : List (Nat × Value)} {pc : Nat} {st : List Value}
/-- cells that nobody needs any more -/
theorem g_drop {w2 : va_W} (wr : va_W) (h : w.Perm (w2 ++ wr)) (kk : GG p l e R s m args below meth c D A H0 nL Q w2 k j lv pc st) : GG p l e R s m args below meth c D A H0 nL Q w k j lv pc st := fun H locs ls hP hD hS hl => kk H locs ls (wd_L h hP hD).1 (wd_L h hP hD).2 hS hl
theorem g_alen (X : Cx p s m args meth c cc nL own Ts D tys A H0 ret) {a : Nat} (q0 t0 : Nat) {cA : ClassId} {x : vp_A} {v : Int32} {ty : FieldType} (hdg : decode cc pc = .ok (.arraylength, 1)) (ha : w[q0]? = some (a, .inl (cA, x))) (ht : tys[t0]? = some (cA, ty)) (hv : Int32.ofNat x.1 = v)
    (kk : GG p l e R s m args below meth c D A H0 nL Q w k j lv (pc + 1) (.int v :: st)) : GG p l e R s m args below meth c D A H0 nL Q w k j lv pc (.ref a :: st) := fun H locs ls hP hD hS hl => va_alen X.1.1 X.1.2.1 X.2.1 hP q0 t0 ha ht hv hdg (kk H locs ls hP hD hS hl)
theorem g_slen (X : Cx p s m args meth c cc nL own Ts D tys A H0 ret) {b L : Nat} {xs : Nat → Int32} (hX : va_X b L xs s H0) (hbl : b < H0.size) (hbA : ¬ A b) (hdg : decode cc pc = .ok (.arraylength, 1))
    (kk : GG p l e R s m args below meth c D A H0 nL Q w k j lv (pc + 1) (.int (nI L) :: st)) : GG p l e R s m args below meth c D A H0 nL Q w k j lv pc (.ref b :: st) := fun H locs ls hP hD hS hl => va_slen X.1.1 X.1.2.1 hX hbl hbA hS hdg (kk H locs ls hP hD hS hl)
theorem g_sld (X : Cx p s m args meth c cc nL own Ts D tys A H0 ret) {b L : Nat} {xs : Nat → Int32} {i : Int32} (hX : va_X b L xs s H0) (hbl : b < H0.size) (hbA : ¬ A b) (hi : vp_in i L) (hdg : decode cc pc = .ok (.iaload, 1))
    (kk : GG p l e R s m args below meth c D A H0 nL Q w k j lv (pc + 1) (.int (xs i.toNatClampNeg) :: st)) : GG p l e R s m args below meth c D A H0 nL Q w k j lv pc (.int i :: .ref b :: st) := fun H locs ls hP hD hS hl => va_sld X.1.1 X.1.2.1 hX hbl hbA hS hi hdg (kk H locs ls hP hD hS hl)
/-- a method that reads the script and nothing else -/
abbrev Cs (l : Launch) (y : MethodName) (ws : List Cond) (rm : Room) (D : va_G) (tys : List (ClassId × FieldType)) (b L : Nat) (xs : Nat → Int32) (av : List Value) (post : Int32 → Unit → Prop) : Prop := ∀ sz : Nat, Met l y ws rm (va_Pc av (fun U => Bf D tys [] sz U ∧ va_X b L xs U U.heap ∧ b < sz)) (va_Qi post (fun _ t => Af D tys (va_A [] sz) [] t) (va_A [] sz)) 0 0 (va_A [] sz)
theorem g_ccS (X : Cx p s m args meth c cc nL own Ts D tys A s.heap ret) {b L : Nat} {xs : Nat → Int32} (hX : va_X b L xs s s.heap) (hbl : b < s.heap.size) (hbA : ¬ A b) {post : Int32 → Unit → Prop} {y : MethodName} {ws : List Cond} {rm : Room} {maxL index nn : Nat} {bytes : ByteArray} {rt : Option FieldType} {As : List Value} {st0 : List Value}
    (hM : Cs l y ws rm D tys b L xs As post) (cw : CallB R s args own index y bytes maxL rt ws rm 0 0 nn ∧ (Cond.static y).before args s = true) (hdg : decode cc pc = .ok (.invokestatic index, 3)) (hst : st0 = As.reverse ++ st) (hlen : As.length = nn) (hroom : (st.map fun v => v.category).sum ≤ 8) (hf : k + 0 ≤ R.cells ∧ j + 0 ≤ R.slots)
    (kk : ∀ r : Int32, post r () → GG p l e R s m args below meth c D A s.heap nL Q w k j lv (pc + 3) (.int r :: st)) : GG p l e R s m args below meth c D A s.heap nL Q w k j lv pc st0 := by
  intro H locs ls hP hD hS hl
  subst hst
  have hpm : w.Perm (([] : va_W) ++ w) := List.Perm.refl _
  obtain ⟨hPc, hDc⟩ := wd_L hpm hP hD
  have hF := wd_free hpm hD hS X.2.2.1
  refine va_calli (va_runS X.1 (hM H.size) cw ⟨(fun a U g mk h => by obtain ⟨z1, ⟨z2, z3, z4, z5⟩, z6, z7⟩ := h; exact ⟨z1, ⟨z2, z3, va_K.moved (u := U) (U := U.calling g mk a) (Vm.Alike.refl U.vm) z4, z5⟩, va_X.moved (u := U) (U := U.calling g mk a) (Vm.Alike.refl U.vm) z6, z7⟩), (fun U hU hW => ⟨rfl, ⟨by rw [hU], by rw [hU]; exact hPc, va_K.moved hW.alike X.2.1, hDc.weaken (fun _ _ _ _ => trivial)⟩, by rw [hU]; exact (hX.kept (hS.2.1 b hbl hbA)).moved hW.alike, Nat.lt_of_lt_of_le hbl hS.1⟩)⟩ rfl hlen hl.1 rfl (lv_room hroom) hdg hf) hS (fun q _ h => hF q h) hF (fun r u t H1 l1 ht hvm hw hB hz1 hk1 hS2 => ?_)
  obtain ⟨hB1, hB2, hB3⟩ := hB
  obtain ⟨hP2, hD2⟩ := wd_back hpm hpm hP hD hk1 hF (by rw [ht] at hB1; exact hB1) hB3
  exact kk r hw H1 l1 ls hP2 hD2 hS2 hl
theorem g_ofs {y : MethodName} {ws ws2 : List Cond} {rm : Room} {av : List Value} {b L : Nat} {xs : Nat → Int32} {sz : Nat} {Qc : Array Value → State → Outcome → State → Prop} {mc ms maxL : Nat} {bytes : ByteArray} (hy : plainName y.cls = true) (hws : ws = Cond.code y bytes maxL ret :: ws2) (hcls : y.cls = own) (hn : (lg_sl av).length ≤ maxL) (lv0 : List (Nat × Value)) (hlv : lv_args 0 av = lv0)
    (body : ∀ (p : Program) (e : Env) (s : State) (m : MethodId) (args : Array Value) (below : List Frame) (meth : Method) (c : Code), sz = s.heap.size → va_X b L xs s s.heap → b < s.heap.size → ¬ va_A [] s.heap.size b → Cx p s m args meth c bytes maxL own ws D tys (va_A [] s.heap.size) s.heap ret → GG p l e rm s m args below meth c D (va_A [] s.heap.size) s.heap maxL (MQ below Qc args s mc ms (va_A [] sz)) [] 0 0 lv0 0 []) : Met l y ws rm (va_Pc av (fun U => Bf D tys [] sz U ∧ va_X b L xs U U.heap ∧ b < sz)) Qc mc ms (va_A [] sz) := by
  refine Met.ofW (cc := bytes) (maxL := maxL) (ret := ret) hy hws ?_
  intro p e s m args below meth c s₁ B hml hv
  obtain ⟨hav, ⟨hsz, hP, hK, hD0⟩, hX, hbl⟩ := hv
  subst hav
  subst hlv
  have hown : s.vm.findClass own = some m.cls := by rw [← hcls]; exact findClass_of_methodNamed B.named
  have h := body p e s m av.toArray below meth c hsz.symm hX (by rw [hsz]; exact hbl) (fun h => by
    rcases h with ⟨k, e, hk⟩ | h
    · cases hk
    · omega) ⟨⟨B.exec, B.bytes, hml, hown, atoms_spec (ws := ws) B.pre⟩, hK, fun q h => Or.inr h, B.returns, B.notSynchronized⟩
  have hl := lv_entry av (n := maxL) hn
  rw [lg_entry_eq]
  exact h s.heap [] _ hP (hD0.self) va_S.rf hl
end GK4
