theorem va_AOA_spec {t : FieldType} {u : State} (h : va_AOA t u) : ∃ comp c k, u.vm.findClass (FieldType.array t).toString = some comp ∧ u.vm.classes[c]? = some k ∧ k.kind = .array comp (.array t) ∧ u.vm.findClass ("[" ++ (FieldType.array t).toString) = some c := by
  simp only [va_AOA, Cond.before, Cond.holds, Cond.value, beq_iff_eq] at h
  cases hc : u.vm.findClass (FieldType.array t).toString with
  | none => simp [hc] at h
  | some comp =>
    simp only [hc, Option.bind_some, Option.bind_eq_some_iff, Option.map_eq_some_iff] at h
    obtain ⟨c, hi, k, hk, hb⟩ := h
    obtain ⟨hlt, hp, -⟩ := Array.findIdx?_eq_some_iff_getElem.mp hi
    have hkk : u.vm.classes[c] = k := (Array.getElem?_eq_some_iff.mp hk).2
    rw [hkk] at hp
    cases hkind : k.kind with
    | array component ty =>
      rw [hkind] at hb hp
      simp at hb hp
      exact ⟨comp, c, k, rfl, hk, by rw [hkind, hp, hb.1], hb.2⟩
    | _ => rw [hkind] at hb; simp at hb
theorem lw_xnest : ∀ w ∈ xnest, w ∈ lw_tbl ∧ w.onTables = true := by decide +kernel
theorem lw_aw : Cond.arrayClass .int ∈ lw_tbl ∧ Cond.arrayClass .boolean ∈ lw_tbl ∧ Cond.arrayOver (.object "ChronicleRows$State") ∈ lw_tbl ∧ Cond.arrayOver (.array .int) ∈ lw_tbl := by decide +kernel
theorem lw_i1 : Cond.instantiable RX1 2 ∈ lw_tbl := by decide +kernel
theorem lw_i2 : Cond.instantiable RX2 3 ∈ lw_tbl := by decide +kernel
theorem lw_i3 : Cond.instantiable RX3 13 ∈ lw_tbl := by decide +kernel
theorem lw_i4 : Cond.instantiable RX4 3 ∈ lw_tbl := by decide +kernel
theorem lw_i5 : Cond.instantiable RX5 10 ∈ lw_tbl := by decide +kernel
theorem lw_i6 : Cond.instantiable RX6 6 ∈ lw_tbl := by decide +kernel
theorem lw_i7 : Cond.instantiable RX7 8 ∈ lw_tbl := by decide +kernel
/-- what the law stands on, out of the tables' words -/
theorem lw_stand {s : State} {b : Addr} (hts : ∀ w ∈ lw_tbl, w.before #[Value.ref b] s = true) : ∃ (D : va_G) (ct : Nat → ClassId), va_K D vwCl (tyz ct) s ∧ NS s := by
  obtain ⟨c1, i1, h1⟩ := u_known (C := RX1) (T := TX1) (N := 2) hts inX1 (hts _ lw_i1)
  obtain ⟨c2, i2, h2⟩ := u_known (C := RX2) (T := TX2) (N := 3) hts inX2 (hts _ lw_i2)
  obtain ⟨c3, i3, h3⟩ := u_known (C := RX3) (T := TX3) (N := 13) hts inX3 (hts _ lw_i3)
  obtain ⟨c4, i4, h4⟩ := u_known (C := RX4) (T := TX4) (N := 3) hts inX4 (hts _ lw_i4)
  obtain ⟨c5, i5, h5⟩ := u_known (C := RX5) (T := TX5) (N := 10) hts inX5 (hts _ lw_i5)
  obtain ⟨c6, i6, h6⟩ := u_known (C := RX6) (T := TX6) (N := 6) hts inX6 (hts _ lw_i6)
  obtain ⟨c7, i7, h7⟩ := u_known (C := RX7) (T := TX7) (N := 8) hts inX7 (hts _ lw_i7)
  obtain ⟨aI, kI, pI, eI1, eI2, eI3⟩ := Cond.arrayClass_spec (hts _ lw_aw.1)
  obtain ⟨aB, kB, pB, eB1, eB2, eB3⟩ := Cond.arrayClass_spec (hts _ lw_aw.2.1)
  obtain ⟨pS, aS, kS, eS1, -, eS2, eS3, eS4⟩ := Cond.arrayOver_spec (hts _ lw_aw.2.2.1)
  obtain ⟨pG, aG, kG, eG1, eG2, eG3, eG4⟩ := va_AOA_spec (va_AOA.of (hts _ lw_aw.2.2.2))
  refine ⟨(fun k => match k with | 0 => c1 | 1 => c2 | 2 => c3 | 3 => c4 | 4 => c5 | 5 => c6 | _ => c7, fun k => match k with | 0 => i1 | 1 => i2 | 2 => i3 | 3 => i4 | 4 => i5 | 5 => i6 | _ => i7), (fun k => match k with | 0 => aI | 1 => aS | 2 => aB | _ => aG), ⟨?_, ?_⟩, ⟨?_, ?_, ?_⟩⟩
  · intro c q hq
    match c, hq with
    | 0, hq => (obtain rfl := Option.some.inj (show some (RX1, TX1, 2) = some q from hq); exact h1)
    | 1, hq => (obtain rfl := Option.some.inj (show some (RX2, TX2, 3) = some q from hq); exact h2)
    | 2, hq => (obtain rfl := Option.some.inj (show some (RX3, TX3, 13) = some q from hq); exact h3)
    | 3, hq => (obtain rfl := Option.some.inj (show some (RX4, TX4, 3) = some q from hq); exact h4)
    | 4, hq => (obtain rfl := Option.some.inj (show some (RX5, TX5, 10) = some q from hq); exact h5)
    | 5, hq => (obtain rfl := Option.some.inj (show some (RX6, TX6, 6) = some q from hq); exact h6)
    | 6, hq => (obtain rfl := Option.some.inj (show some (RX7, TX7, 8) = some q from hq); exact h7)
    | n + 7, hq => exact nomatch (show (none : Option vw_C) = some q from hq)
  · intro k q hq
    match k, hq with
    | 0, hq => (obtain rfl := Option.some.inj (show some (aI, FieldType.int) = some q from hq); exact ⟨fun n z => ⟨(fun k h => by cases h), kI, eI2, pI, eI3⟩, eI1⟩)
    | 1, hq => (obtain rfl := Option.some.inj (show some (aS, FieldType.object "ChronicleRows$State") = some q from hq); exact ⟨fun n z => ⟨(fun k h => by cases h), kS, eS2, pS, eS3⟩, kS, pS, eS2, eS3, eS1, eS4⟩)
    | 2, hq => (obtain rfl := Option.some.inj (show some (aB, FieldType.boolean) = some q from hq); exact ⟨fun n z => ⟨(fun k h => by cases h), kB, eB2, pB, eB3⟩, eB1⟩)
    | 3, hq => (obtain rfl := Option.some.inj (show some (aG, FieldType.array .int) = some q from hq); exact ⟨fun n z => ⟨(fun k h => by cases h), kG, eG2, pG, eG3⟩, eG4⟩)
    | n + 4, hq => exact nomatch (show (none : Option (ClassId × FieldType)) = some q from hq)
  · exact fun w hw => va_Nw.of (lw_xnest w hw).2 (hts _ (lw_xnest w hw).1)
  · exact va_AO.of (hts _ lw_aw.2.2.1)
  · exact va_AOA.of (hts _ lw_aw.2.2.2)
