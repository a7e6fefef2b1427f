set_option maxHeartbeats 20000000 in
set_option maxRecDepth 20000 in
theorem kL_law_23 {p : Program} {l : Launch} {e : Env} {s : State} {m : MethodId} {args : Array Value} {below : List Frame} {meth : Method} {c : Code} {D : va_G} {ct : Nat → ClassId} {A : Nat → Prop} {Q : State → Prop} {sb L : Nat} {xs : Nat → Int32} {g : Nat → Nat → Nat} {am qa : Nat → Nat} (hl9 : l.stackTraces = false) (X : Cx p s m args meth c cL_law 9 RL wsL_law D (tyz ct) A s.heap ret) (XX : XL A s) (hX : va_X sb L xs s s.heap) (hbl : sb < s.heap.size) (hbA : ¬ A sb) (hend : ∀ (k j : Nat) (w : va_W) (lv : List (Nat × Value)), k ≤ 601024 → j ≤ 7293034 → GG p l e room_1 s m args below meth c D A s.heap 9 Q (w) (k) (j) lv 1325 [.int 1]) :
    ∀ n : Nat, n ≤ 513 → ∀ (kc : Mem) (v : Mem) (sl : Nat → Mem) (b : Mem) (r : Nat → Mem) (tx : Mem) (y : Mem) (o : Mem) (x : Mem) (w : Mem) (hs : Int64) (ou : Nat → Int64) (x4 : Int32), PL_law_23 xs L n kc v sl b r tx y o x w hs ou x4 → GG p l e room_1 s m args below meth c D A s.heap 9 Q (fl [wC ct g kc, wS ct (g 1) v, wS ct (g 2) (sl 0), wS ct (g 3) (sl 1), wV ct g b, wS ct (g 5) (r 0), wS ct (g 6) (r 1), wS ct (g 7) (r 2), wS ct (g 8) (r 3), wS ct (g 9) (r 4), wS ct (g 10) (r 5), wT ct (g 11) tx, wL ct (g 12) y, wO ct (g 13) o, wR ct (g 14) x, wM ct am w hs, wQ ct qa ou]) (117 + (513 - n)) (2344 + 6 * (513 - n)) [(0, .ref sb), (1, .ref (g 0 0)), (2, .ref (am 0)), (3, .ref (qa 0)), (4, .int x4)] 23 [] := by
  intro n
  induction n with
  | zero =>
    intro _ kc v sl b r tx y o x w hs ou x4 hw
    exact hw.elim
  | succ n ih =>
    intro hn9 kc v sl b r tx y o x w hs ou x4 hw
    unfold PL_law_23 at hw
    refine g_iload X 4 dL_law_23 rfl ?_
    refine g_aload_n X 0 dL_law_25 rfl rfl ?_
    refine g_slen X hX hbl hbA dL_law_26 ?_
    refine g_iconst (v := 3) X rfl dL_law_27 ?_
    refine g_isub X dL_law_28 ?_
    refine g_icmp_gt X 1324 dL_law_29 (by decide) (fun c1 => ?_) (fun c1 => ?_)
    · replace hw := hw.1 c1
      refine g_iconst (v := 1) X rfl dL_law_1324 ?_
      exact hend _ _ _ _ (by omega) (by omega)
    · replace hw := hw.2 c1
      refine g_aload_n X 0 dL_law_32 rfl rfl ?_
      refine g_iload X 4 dL_law_33 rfl ?_
      obtain ⟨h2, hw⟩ := hw
      refine g_sld X hX hbl hbA h2 dL_law_35 ?_
      refine g_bipush (v := 31) X rfl dL_law_36 ?_
      refine g_iand X dL_law_38 ?_
      by_cases c3 : ((xs (ix x4)) &&& 31) = 0
      · replace hw := hw.1 c3
        refine g_tableIn X 144 dL_law_39 (by rw [c3]; decide) (by rw [c3]; decide) (by rw [c3]; rfl) (by decide) ?_
        refine g_aload_n X 1 dL_law_144 rfl rfl ?_
        refine g_aload_n X 0 dL_law_145 rfl rfl ?_
        refine g_iload X 4 dL_law_146 rfl ?_
        refine g_iconst (v := 1) X rfl dL_law_148 ?_
        refine g_iadd X dL_law_149 ?_
        obtain ⟨h4, hw⟩ := hw
        refine g_sld X hX hbl hbA h4 dL_law_150 ?_
        refine g_aload_n X 3 dL_law_151 rfl rfl ?_
        refine g_chS X XX [wC ct g kc, wS ct (g 1) v, wS ct (g 2) (sl 0), wS ct (g 3) (sl 1), wV ct g b, wS ct (g 5) (r 0), wS ct (g 6) (r 1), wS ct (g 7) (r 2), wS ct (g 8) (r 3), wS ct (g 9) (r 4), wS ct (g 10) (r 5), wT ct (g 11) tx, wL ct (g 12) y, wO ct (g 13) o, wR ct (g 14) x, wM ct am w hs, wQ ct qa ou] (fun (u6 : Mem × Mem × (Nat → Mem) × (Nat → Int64)) => [wC ct g kc, wS ct (g 1) u6.1, wS ct (g 2) (sl 0), wS ct (g 3) (sl 1), wV ct g u6.2.1, wS ct (g 5) (u6.2.2.1 0), wS ct (g 6) (u6.2.2.1 1), wS ct (g 7) (u6.2.2.1 2), wS ct (g 8) (u6.2.2.1 3), wS ct (g 9) (u6.2.2.1 4), wS ct (g 10) (u6.2.2.1 5), wT ct (g 11) tx, wL ct (g 12) y, wO ct (g 13) o, wR ct (g 14) x, wM ct am w hs, wQ ct qa u6.2.2.2]) (fun (u6 : Mem × Mem × (Nat → Mem) × (Nat → Int64)) => fl [wC ct g kc, wS ct (g 1) u6.1, wS ct (g 2) (sl 0), wS ct (g 3) (sl 1), wV ct g u6.2.1, wS ct (g 5) (u6.2.2.1 0), wS ct (g 6) (u6.2.2.1 1), wS ct (g 7) (u6.2.2.1 2), wS ct (g 8) (u6.2.2.1 3), wS ct (g 9) (u6.2.2.1 4), wS ct (g 10) (u6.2.2.1 5), wT ct (g 11) tx, wL ct (g 12) y, wO ct (g 13) o, wR ct (g 14) x, wM ct am w hs, wQ ct qa u6.2.2.2]) 17 [0, 1, 4, 5, 6, 7, 8, 9, 10, 16] [2, 3, 11, 12, 13, 14, 15] (kL_person l hl9 D ct g qa kc v b r ou (xs (ix (x4 + 1))) _ hw) (vx_cwSW 3 X.1.2.2.2.2 gL_law_L_person rfl rfl rfl (by decide +kernel) ⟨Nat.le_of_ble_eq_true rfl, Nat.le_of_ble_eq_true rfl⟩) dL_law_152 rfl rfl (Nat.le_of_ble_eq_true rfl) ⟨by show _ ≤ 601024; omega, by show _ ≤ 7293034; omega⟩ rfl rfl rfl (by decide) (fun _ => rfl) (fun _ => rfl) (fun _ => rfl) (fun _ => rfl) (fun r5 u6 hw => ?_)
        obtain ⟨v7, hv7⟩ : ∃ z : Mem, z = u6.1 := ⟨_, rfl⟩
        rw [← hv7] at hw
        rw [← hv7]
        obtain ⟨b8, hb8⟩ : ∃ z : Mem, z = u6.2.1 := ⟨_, rfl⟩
        rw [← hb8] at hw
        rw [← hb8]
        obtain ⟨r9, hr9⟩ : ∃ z : Nat → Mem, z = u6.2.2.1 := ⟨_, rfl⟩
        rw [← hr9] at hw
        rw [← hr9]
        obtain ⟨ou10, hou10⟩ : ∃ z : Nat → Int64, z = u6.2.2.2 := ⟨_, rfl⟩
        rw [← hou10] at hw
        rw [← hou10]
        refine g_istore X [(5, .int r5), (0, .ref sb), (1, .ref (g 0 0)), (2, .ref (am 0)), (3, .ref (qa 0)), (4, .int x4)] dL_law_155 (by decide) rfl ?_
        refine g_aload_n X 3 dL_law_157 rfl rfl ?_
        refine g_aload_n X 1 dL_law_158 rfl rfl ?_
        refine g_iload X 5 dL_law_159 rfl ?_
        refine g_iconst (v := 1) X rfl dL_law_161 ?_
        refine g_iadd X dL_law_162 ?_
        obtain ⟨h11, hw⟩ := hw
        refine g_sld X hX hbl hbA h11 dL_law_163 ?_
        refine g_ciV X [wC ct g kc, wS ct (g 1) v7, wS ct (g 2) (sl 0), wS ct (g 3) (sl 1), wV ct g b8, wS ct (g 5) (r9 0), wS ct (g 6) (r9 1), wS ct (g 7) (r9 2), wS ct (g 8) (r9 3), wS ct (g 9) (r9 4), wS ct (g 10) (r9 5), wT ct (g 11) tx, wL ct (g 12) y, wO ct (g 13) o, wR ct (g 14) x, wM ct am w hs, wQ ct qa ou10] (fun (u13 : Mem) => [wC ct g kc, wS ct (g 1) v7, wS ct (g 2) (sl 0), wS ct (g 3) (sl 1), wV ct g b8, wS ct (g 5) (r9 0), wS ct (g 6) (r9 1), wS ct (g 7) (r9 2), wS ct (g 8) (r9 3), wS ct (g 9) (r9 4), wS ct (g 10) (r9 5), wT ct (g 11) tx, wL ct (g 12) y, wO ct (g 13) o, wR ct (g 14) x, wM ct am u13 hs, wQ ct qa ou10]) (fun (u13 : Mem) => fl [wC ct g kc, wS ct (g 1) v7, wS ct (g 2) (sl 0), wS ct (g 3) (sl 1), wV ct g b8, wS ct (g 5) (r9 0), wS ct (g 6) (r9 1), wS ct (g 7) (r9 2), wS ct (g 8) (r9 3), wS ct (g 9) (r9 4), wS ct (g 10) (r9 5), wT ct (g 11) tx, wL ct (g 12) y, wO ct (g 13) o, wR ct (g 14) x, wM ct am u13 hs, wQ ct qa ou10]) 17 [15] [0, 1, 2, 3, 4, 5, 6, 7, 8, 9, 10, 11, 12, 13, 14, 16] 0 (kX8_person l D ct am w hs (xs (ix (x4 + 1))) _ hw) (cwV 1 X.1.2.2.2.2 gL_law_X8_person rfl rfl rfl (by decide +kernel) ⟨Nat.le_of_ble_eq_true rfl, Nat.le_of_ble_eq_true rfl⟩) dL_law_164 rfl rfl (Nat.le_of_ble_eq_true rfl) ⟨by show _ ≤ 601024; omega, by show _ ≤ 7293034; omega⟩ rfl rfl rfl (by decide) (fun _ => rfl) (fun _ => rfl) (fun _ => rfl) (fun _ => rfl) rfl rfl rfl (fun r12 u13 hw => ?_)
        obtain ⟨w14, hw14⟩ : ∃ z : Mem, z = u13 := ⟨_, rfl⟩
        rw [← hw14] at hw
        rw [← hw14]
        refine g_istore X [(6, .int r12), (5, .int r5), (0, .ref sb), (1, .ref (g 0 0)), (2, .ref (am 0)), (3, .ref (qa 0)), (4, .int x4)] dL_law_167 (by decide) rfl ?_
        refine g_aload_n X 4 dL_law_169 rfl rfl ?_
        refine g_ciV X [wC ct g kc, wS ct (g 1) v7, wS ct (g 2) (sl 0), wS ct (g 3) (sl 1), wV ct g b8, wS ct (g 5) (r9 0), wS ct (g 6) (r9 1), wS ct (g 7) (r9 2), wS ct (g 8) (r9 3), wS ct (g 9) (r9 4), wS ct (g 10) (r9 5), wT ct (g 11) tx, wL ct (g 12) y, wO ct (g 13) o, wR ct (g 14) x, wM ct am w14 hs, wQ ct qa ou10] (fun (_ : Unit) => [wC ct g kc, wS ct (g 1) v7, wS ct (g 2) (sl 0), wS ct (g 3) (sl 1), wV ct g b8, wS ct (g 5) (r9 0), wS ct (g 6) (r9 1), wS ct (g 7) (r9 2), wS ct (g 8) (r9 3), wS ct (g 9) (r9 4), wS ct (g 10) (r9 5), wT ct (g 11) tx, wL ct (g 12) y, wO ct (g 13) o, wR ct (g 14) x, wM ct am w14 hs, wQ ct qa ou10]) (fun _ => fl [wC ct g kc, wS ct (g 1) v7, wS ct (g 2) (sl 0), wS ct (g 3) (sl 1), wV ct g b8, wS ct (g 5) (r9 0), wS ct (g 6) (r9 1), wS ct (g 7) (r9 2), wS ct (g 8) (r9 3), wS ct (g 9) (r9 4), wS ct (g 10) (r9 5), wT ct (g 11) tx, wL ct (g 12) y, wO ct (g 13) o, wR ct (g 14) x, wM ct am w14 hs, wQ ct qa ou10]) 17 [15] [0, 1, 2, 3, 4, 5, 6, 7, 8, 9, 10, 11, 12, 13, 14, 16] 0 (kX8_thrown l D ct am w14 hs _ hw) (cwV 0 X.1.2.2.2.2 gL_law_X8_thrown rfl rfl rfl (by decide +kernel) ⟨Nat.le_of_ble_eq_true rfl, Nat.le_of_ble_eq_true rfl⟩) dL_law_170 rfl rfl (Nat.le_of_ble_eq_true rfl) ⟨by show _ ≤ 601024; omega, by show _ ≤ 7293034; omega⟩ rfl rfl rfl (by decide) (fun _ => rfl) (fun _ => rfl) (fun _ => rfl) (fun _ => rfl) rfl rfl rfl (fun r15 _ hw => ?_)
        refine g_iload X 1 dL_law_173 rfl ?_
        refine g_icmp_eq X 180 dL_law_175 (by decide) (fun c17 => ?_) (fun c17 => ?_)
        · replace hw := hw.1 c17
          refine g_iload X 1 dL_law_180 rfl ?_
          refine g_if_ne X 197 dL_law_182 (by decide) (fun c18 => ?_) (fun c18 => ?_)
          · replace hw := hw.1 c18
            refine g_goto X 1318 dL_law_197 (by decide) ?_
            refine g_iinc X [(4, .int (x4 + 3)), (6, .int r12), (5, .int r5), (0, .ref sb), (1, .ref (g 0 0)), (2, .ref (am 0)), (3, .ref (qa 0))] 6 dL_law_1318 rfl rfl (by decide) rfl ?_
            refine g_goto X 23 dL_law_1321 (by decide) ?_
            refine g_sub [(0, .ref sb), (1, .ref (g 0 0)), (2, .ref (am 0)), (3, .ref (qa 0)), (4, .int (x4 + 3))] [3, 4, 5, 6, 0] rfl ?_
            refine g_wide (k2 := 117 + (513 - n)) (j2 := 2344 + 6 * (513 - n)) (by omega) (by omega) ?_
            exact ih (by omega) _ _ _ _ _ _ _ _ _ _ _ _ _ hw
          · replace hw := hw.2 c18
            refine g_aload_n X 5 dL_law_185 rfl rfl ?_
            refine g_iconst (v := 0) X rfl dL_law_186 ?_
            refine g_lald X 116 4 dL_law_187 rfl rfl (vp_in_nI (n := 0) (by decide) (by decide)) ?_
            refine g_iload X 0 dL_law_188 rfl ?_
            refine g_i2l X dL_law_190 ?_
            refine g_lcmp X dL_law_191 ?_
            refine g_if_eq X 197 dL_law_192 (by decide) (fun c19 => ?_) (fun c19 => ?_)
            · replace hw := hw.1 c19
              refine g_goto X 1318 dL_law_197 (by decide) ?_
              refine g_iinc X [(4, .int (x4 + 3)), (6, .int r12), (5, .int r5), (0, .ref sb), (1, .ref (g 0 0)), (2, .ref (am 0)), (3, .ref (qa 0))] 6 dL_law_1318 rfl rfl (by decide) rfl ?_
              refine g_goto X 23 dL_law_1321 (by decide) ?_
              refine g_sub [(0, .ref sb), (1, .ref (g 0 0)), (2, .ref (am 0)), (3, .ref (qa 0)), (4, .int (x4 + 3))] [3, 4, 5, 6, 0] rfl ?_
              refine g_wide (k2 := 117 + (513 - n)) (j2 := 2344 + 6 * (513 - n)) (by omega) (by omega) ?_
              exact ih (by omega) _ _ _ _ _ _ _ _ _ _ _ _ _ hw
            · replace hw := hw.2 c19
              refine g_iconst (v := 0) X rfl dL_law_195 ?_
              exact hw.elim
        · replace hw := hw.2 c17
          refine g_iconst (v := 0) X rfl dL_law_178 ?_
          exact hw.elim
      · replace hw := hw.2 c3
        by_cases c20 : ((xs (ix x4)) &&& 31) = 1
        · replace hw := hw.1 c20
          refine g_tableIn X 200 dL_law_39 (by rw [c20]; decide) (by rw [c20]; decide) (by rw [c20]; rfl) (by decide) ?_
          refine g_aload_n X 1 dL_law_200 rfl rfl ?_
          refine g_aload_n X 0 dL_law_201 rfl rfl ?_
          refine g_iload X 4 dL_law_202 rfl ?_
          refine g_iconst (v := 1) X rfl dL_law_204 ?_
          refine g_iadd X dL_law_205 ?_
          obtain ⟨h21, hw⟩ := hw
          refine g_sld X hX hbl hbA h21 dL_law_206 ?_
          refine g_aload_n X 0 dL_law_207 rfl rfl ?_
          refine g_iload X 4 dL_law_208 rfl ?_
          refine g_iconst (v := 2) X rfl dL_law_210 ?_
          refine g_iadd X dL_law_211 ?_
          obtain ⟨h22, hw⟩ := hw
          refine g_sld X hX hbl hbA h22 dL_law_212 ?_
          refine g_aload_n X 3 dL_law_213 rfl rfl ?_
          refine g_chS X XX [wC ct g kc, wS ct (g 1) v, wS ct (g 2) (sl 0), wS ct (g 3) (sl 1), wV ct g b, wS ct (g 5) (r 0), wS ct (g 6) (r 1), wS ct (g 7) (r 2), wS ct (g 8) (r 3), wS ct (g 9) (r 4), wS ct (g 10) (r 5), wT ct (g 11) tx, wL ct (g 12) y, wO ct (g 13) o, wR ct (g 14) x, wM ct am w hs, wQ ct qa ou] (fun (u24 : Mem × Mem × (Nat → Mem) × (Nat → Int64)) => [wC ct g kc, wS ct (g 1) u24.1, wS ct (g 2) (sl 0), wS ct (g 3) (sl 1), wV ct g u24.2.1, wS ct (g 5) (u24.2.2.1 0), wS ct (g 6) (u24.2.2.1 1), wS ct (g 7) (u24.2.2.1 2), wS ct (g 8) (u24.2.2.1 3), wS ct (g 9) (u24.2.2.1 4), wS ct (g 10) (u24.2.2.1 5), wT ct (g 11) tx, wL ct (g 12) y, wO ct (g 13) o, wR ct (g 14) x, wM ct am w hs, wQ ct qa u24.2.2.2]) (fun (u24 : Mem × Mem × (Nat → Mem) × (Nat → Int64)) => fl [wC ct g kc, wS ct (g 1) u24.1, wS ct (g 2) (sl 0), wS ct (g 3) (sl 1), wV ct g u24.2.1, wS ct (g 5) (u24.2.2.1 0), wS ct (g 6) (u24.2.2.1 1), wS ct (g 7) (u24.2.2.1 2), wS ct (g 8) (u24.2.2.1 3), wS ct (g 9) (u24.2.2.1 4), wS ct (g 10) (u24.2.2.1 5), wT ct (g 11) tx, wL ct (g 12) y, wO ct (g 13) o, wR ct (g 14) x, wM ct am w hs, wQ ct qa u24.2.2.2]) 17 [0, 1, 4, 5, 6, 7, 8, 9, 10, 16] [2, 3, 11, 12, 13, 14, 15] (kL_marry l hl9 D ct g qa kc v b r ou (xs (ix (x4 + 1))) (xs (ix (x4 + 2))) _ hw) (vx_cwSW 4 X.1.2.2.2.2 gL_law_L_marry rfl rfl rfl (by decide +kernel) ⟨Nat.le_of_ble_eq_true rfl, Nat.le_of_ble_eq_true rfl⟩) dL_law_214 rfl rfl (Nat.le_of_ble_eq_true rfl) ⟨by show _ ≤ 601024; omega, by show _ ≤ 7293034; omega⟩ rfl rfl rfl (by decide) (fun _ => rfl) (fun _ => rfl) (fun _ => rfl) (fun _ => rfl) (fun r23 u24 hw => ?_)
          obtain ⟨v25, hv25⟩ : ∃ z : Mem, z = u24.1 := ⟨_, rfl⟩
          rw [← hv25] at hw
          rw [← hv25]
          obtain ⟨b26, hb26⟩ : ∃ z : Mem, z = u24.2.1 := ⟨_, rfl⟩
          rw [← hb26] at hw
          rw [← hb26]
          obtain ⟨r27, hr27⟩ : ∃ z : Nat → Mem, z = u24.2.2.1 := ⟨_, rfl⟩
          rw [← hr27] at hw
          rw [← hr27]
          obtain ⟨ou28, hou28⟩ : ∃ z : Nat → Int64, z = u24.2.2.2 := ⟨_, rfl⟩
          rw [← hou28] at hw
          rw [← hou28]
          refine g_istore X [(5, .int r23), (0, .ref sb), (1, .ref (g 0 0)), (2, .ref (am 0)), (3, .ref (qa 0)), (4, .int x4)] dL_law_217 (by decide) rfl ?_
          refine g_aload_n X 3 dL_law_219 rfl rfl ?_
          refine g_aload_n X 1 dL_law_220 rfl rfl ?_
          refine g_iload X 5 dL_law_221 rfl ?_
          refine g_iconst (v := 1) X rfl dL_law_223 ?_
          refine g_iadd X dL_law_224 ?_
          obtain ⟨h29, hw⟩ := hw
          refine g_sld X hX hbl hbA h29 dL_law_225 ?_
          refine g_aload_n X 1 dL_law_226 rfl rfl ?_
          refine g_iload X 5 dL_law_227 rfl ?_
          refine g_iconst (v := 2) X rfl dL_law_229 ?_
          refine g_iadd X dL_law_230 ?_
          obtain ⟨h30, hw⟩ := hw
          refine g_sld X hX hbl hbA h30 dL_law_231 ?_
          refine g_ciV X [wC ct g kc, wS ct (g 1) v25, wS ct (g 2) (sl 0), wS ct (g 3) (sl 1), wV ct g b26, wS ct (g 5) (r27 0), wS ct (g 6) (r27 1), wS ct (g 7) (r27 2), wS ct (g 8) (r27 3), wS ct (g 9) (r27 4), wS ct (g 10) (r27 5), wT ct (g 11) tx, wL ct (g 12) y, wO ct (g 13) o, wR ct (g 14) x, wM ct am w hs, wQ ct qa ou28] (fun (u32 : Mem) => [wC ct g kc, wS ct (g 1) v25, wS ct (g 2) (sl 0), wS ct (g 3) (sl 1), wV ct g b26, wS ct (g 5) (r27 0), wS ct (g 6) (r27 1), wS ct (g 7) (r27 2), wS ct (g 8) (r27 3), wS ct (g 9) (r27 4), wS ct (g 10) (r27 5), wT ct (g 11) tx, wL ct (g 12) y, wO ct (g 13) o, wR ct (g 14) x, wM ct am u32 hs, wQ ct qa ou28]) (fun (u32 : Mem) => fl [wC ct g kc, wS ct (g 1) v25, wS ct (g 2) (sl 0), wS ct (g 3) (sl 1), wV ct g b26, wS ct (g 5) (r27 0), wS ct (g 6) (r27 1), wS ct (g 7) (r27 2), wS ct (g 8) (r27 3), wS ct (g 9) (r27 4), wS ct (g 10) (r27 5), wT ct (g 11) tx, wL ct (g 12) y, wO ct (g 13) o, wR ct (g 14) x, wM ct am u32 hs, wQ ct qa ou28]) 17 [15] [0, 1, 2, 3, 4, 5, 6, 7, 8, 9, 10, 11, 12, 13, 14, 16] 0 (kX8_marry l D ct am w hs (xs (ix (x4 + 1))) (xs (ix (x4 + 2))) _ hw) (cwV 2 X.1.2.2.2.2 gL_law_X8_marry rfl rfl rfl (by decide +kernel) ⟨Nat.le_of_ble_eq_true rfl, Nat.le_of_ble_eq_true rfl⟩) dL_law_232 rfl rfl (Nat.le_of_ble_eq_true rfl) ⟨by show _ ≤ 601024; omega, by show _ ≤ 7293034; omega⟩ rfl rfl rfl (by decide) (fun _ => rfl) (fun _ => rfl) (fun _ => rfl) (fun _ => rfl) rfl rfl rfl (fun r31 u32 hw => ?_)
          obtain ⟨w33, hw33⟩ : ∃ z : Mem, z = u32 := ⟨_, rfl⟩
          rw [← hw33] at hw
          rw [← hw33]
          refine g_istore X [(6, .int r31), (5, .int r23), (0, .ref sb), (1, .ref (g 0 0)), (2, .ref (am 0)), (3, .ref (qa 0)), (4, .int x4)] dL_law_235 (by decide) rfl ?_
          refine g_aload_n X 4 dL_law_237 rfl rfl ?_
          refine g_ciV X [wC ct g kc, wS ct (g 1) v25, wS ct (g 2) (sl 0), wS ct (g 3) (sl 1), wV ct g b26, wS ct (g 5) (r27 0), wS ct (g 6) (r27 1), wS ct (g 7) (r27 2), wS ct (g 8) (r27 3), wS ct (g 9) (r27 4), wS ct (g 10) (r27 5), wT ct (g 11) tx, wL ct (g 12) y, wO ct (g 13) o, wR ct (g 14) x, wM ct am w33 hs, wQ ct qa ou28] (fun (_ : Unit) => [wC ct g kc, wS ct (g 1) v25, wS ct (g 2) (sl 0), wS ct (g 3) (sl 1), wV ct g b26, wS ct (g 5) (r27 0), wS ct (g 6) (r27 1), wS ct (g 7) (r27 2), wS ct (g 8) (r27 3), wS ct (g 9) (r27 4), wS ct (g 10) (r27 5), wT ct (g 11) tx, wL ct (g 12) y, wO ct (g 13) o, wR ct (g 14) x, wM ct am w33 hs, wQ ct qa ou28]) (fun _ => fl [wC ct g kc, wS ct (g 1) v25, wS ct (g 2) (sl 0), wS ct (g 3) (sl 1), wV ct g b26, wS ct (g 5) (r27 0), wS ct (g 6) (r27 1), wS ct (g 7) (r27 2), wS ct (g 8) (r27 3), wS ct (g 9) (r27 4), wS ct (g 10) (r27 5), wT ct (g 11) tx, wL ct (g 12) y, wO ct (g 13) o, wR ct (g 14) x, wM ct am w33 hs, wQ ct qa ou28]) 17 [15] [0, 1, 2, 3, 4, 5, 6, 7, 8, 9, 10, 11, 12, 13, 14, 16] 0 (kX8_thrown l D ct am w33 hs _ hw) (cwV 0 X.1.2.2.2.2 gL_law_X8_thrown rfl rfl rfl (by decide +kernel) ⟨Nat.le_of_ble_eq_true rfl, Nat.le_of_ble_eq_true rfl⟩) dL_law_238 rfl rfl (Nat.le_of_ble_eq_true rfl) ⟨by show _ ≤ 601024; omega, by show _ ≤ 7293034; omega⟩ rfl rfl rfl (by decide) (fun _ => rfl) (fun _ => rfl) (fun _ => rfl) (fun _ => rfl) rfl rfl rfl (fun r34 _ hw => ?_)
          refine g_iload X 1 dL_law_241 rfl ?_
          refine g_icmp_eq X 248 dL_law_243 (by decide) (fun c36 => ?_) (fun c36 => ?_)
          · replace hw := hw.1 c36
            refine g_iload X 1 dL_law_248 rfl ?_
            refine g_if_ne X 265 dL_law_250 (by decide) (fun c37 => ?_) (fun c37 => ?_)
            · replace hw := hw.1 c37
              refine g_goto X 1318 dL_law_265 (by decide) ?_
              refine g_iinc X [(4, .int (x4 + 3)), (6, .int r31), (5, .int r23), (0, .ref sb), (1, .ref (g 0 0)), (2, .ref (am 0)), (3, .ref (qa 0))] 6 dL_law_1318 rfl rfl (by decide) rfl ?_
              refine g_goto X 23 dL_law_1321 (by decide) ?_
              refine g_sub [(0, .ref sb), (1, .ref (g 0 0)), (2, .ref (am 0)), (3, .ref (qa 0)), (4, .int (x4 + 3))] [3, 4, 5, 6, 0] rfl ?_
              refine g_wide (k2 := 117 + (513 - n)) (j2 := 2344 + 6 * (513 - n)) (by omega) (by omega) ?_
              exact ih (by omega) _ _ _ _ _ _ _ _ _ _ _ _ _ hw
            · replace hw := hw.2 c37
              refine g_aload_n X 5 dL_law_253 rfl rfl ?_
              refine g_iconst (v := 0) X rfl dL_law_254 ?_
              refine g_lald X 116 4 dL_law_255 rfl rfl (vp_in_nI (n := 0) (by decide) (by decide)) ?_
              refine g_iload X 0 dL_law_256 rfl ?_
              refine g_i2l X dL_law_258 ?_
              refine g_lcmp X dL_law_259 ?_
              refine g_if_eq X 265 dL_law_260 (by decide) (fun c38 => ?_) (fun c38 => ?_)
              · replace hw := hw.1 c38
                refine g_goto X 1318 dL_law_265 (by decide) ?_
                refine g_iinc X [(4, .int (x4 + 3)), (6, .int r31), (5, .int r23), (0, .ref sb), (1, .ref (g 0 0)), (2, .ref (am 0)), (3, .ref (qa 0))] 6 dL_law_1318 rfl rfl (by decide) rfl ?_
                refine g_goto X 23 dL_law_1321 (by decide) ?_
                refine g_sub [(0, .ref sb), (1, .ref (g 0 0)), (2, .ref (am 0)), (3, .ref (qa 0)), (4, .int (x4 + 3))] [3, 4, 5, 6, 0] rfl ?_
                refine g_wide (k2 := 117 + (513 - n)) (j2 := 2344 + 6 * (513 - n)) (by omega) (by omega) ?_
                exact ih (by omega) _ _ _ _ _ _ _ _ _ _ _ _ _ hw
              · replace hw := hw.2 c38
                refine g_iconst (v := 0) X rfl dL_law_263 ?_
                exact hw.elim
          · replace hw := hw.2 c36
            refine g_iconst (v := 0) X rfl dL_law_246 ?_
            exact hw.elim
        · replace hw := hw.2 c20
          by_cases c39 : ((xs (ix x4)) &&& 31) = 2
          · replace hw := hw.1 c39
            refine g_tableIn X 268 dL_law_39 (by rw [c39]; decide) (by rw [c39]; decide) (by rw [c39]; rfl) (by decide) ?_
            refine g_aload_n X 1 dL_law_268 rfl rfl ?_
            refine g_aload_n X 0 dL_law_269 rfl rfl ?_
            refine g_iload X 4 dL_law_270 rfl ?_
            refine g_iconst (v := 1) X rfl dL_law_272 ?_
            refine g_iadd X dL_law_273 ?_
            obtain ⟨h40, hw⟩ := hw
            refine g_sld X hX hbl hbA h40 dL_law_274 ?_
            refine g_aload_n X 3 dL_law_275 rfl rfl ?_
            refine g_chS X XX [wC ct g kc, wS ct (g 1) v, wS ct (g 2) (sl 0), wS ct (g 3) (sl 1), wV ct g b, wS ct (g 5) (r 0), wS ct (g 6) (r 1), wS ct (g 7) (r 2), wS ct (g 8) (r 3), wS ct (g 9) (r 4), wS ct (g 10) (r 5), wT ct (g 11) tx, wL ct (g 12) y, wO ct (g 13) o, wR ct (g 14) x, wM ct am w hs, wQ ct qa ou] (fun (u42 : Mem × Mem × (Nat → Mem) × (Nat → Int64)) => [wC ct g kc, wS ct (g 1) u42.1, wS ct (g 2) (sl 0), wS ct (g 3) (sl 1), wV ct g u42.2.1, wS ct (g 5) (u42.2.2.1 0), wS ct (g 6) (u42.2.2.1 1), wS ct (g 7) (u42.2.2.1 2), wS ct (g 8) (u42.2.2.1 3), wS ct (g 9) (u42.2.2.1 4), wS ct (g 10) (u42.2.2.1 5), wT ct (g 11) tx, wL ct (g 12) y, wO ct (g 13) o, wR ct (g 14) x, wM ct am w hs, wQ ct qa u42.2.2.2]) (fun (u42 : Mem × Mem × (Nat → Mem) × (Nat → Int64)) => fl [wC ct g kc, wS ct (g 1) u42.1, wS ct (g 2) (sl 0), wS ct (g 3) (sl 1), wV ct g u42.2.1, wS ct (g 5) (u42.2.2.1 0), wS ct (g 6) (u42.2.2.1 1), wS ct (g 7) (u42.2.2.1 2), wS ct (g 8) (u42.2.2.1 3), wS ct (g 9) (u42.2.2.1 4), wS ct (g 10) (u42.2.2.1 5), wT ct (g 11) tx, wL ct (g 12) y, wO ct (g 13) o, wR ct (g 14) x, wM ct am w hs, wQ ct qa u42.2.2.2]) 17 [0, 1, 4, 5, 6, 7, 8, 9, 10, 16] [2, 3, 11, 12, 13, 14, 15] (kL_child l hl9 D ct g qa kc v b r ou (xs (ix (x4 + 1))) _ hw) (vx_cwSW 3 X.1.2.2.2.2 gL_law_L_child rfl rfl rfl (by decide +kernel) ⟨Nat.le_of_ble_eq_true rfl, Nat.le_of_ble_eq_true rfl⟩) dL_law_276 rfl rfl (Nat.le_of_ble_eq_true rfl) ⟨by show _ ≤ 601024; omega, by show _ ≤ 7293034; omega⟩ rfl rfl rfl (by decide) (fun _ => rfl) (fun _ => rfl) (fun _ => rfl) (fun _ => rfl) (fun r41 u42 hw => ?_)
            obtain ⟨v43, hv43⟩ : ∃ z : Mem, z = u42.1 := ⟨_, rfl⟩
            rw [← hv43] at hw
            rw [← hv43]
            obtain ⟨b44, hb44⟩ : ∃ z : Mem, z = u42.2.1 := ⟨_, rfl⟩
            rw [← hb44] at hw
            rw [← hb44]
            obtain ⟨r45, hr45⟩ : ∃ z : Nat → Mem, z = u42.2.2.1 := ⟨_, rfl⟩
            rw [← hr45] at hw
            rw [← hr45]
            obtain ⟨ou46, hou46⟩ : ∃ z : Nat → Int64, z = u42.2.2.2 := ⟨_, rfl⟩
            rw [← hou46] at hw
            rw [← hou46]
            refine g_istore X [(5, .int r41), (0, .ref sb), (1, .ref (g 0 0)), (2, .ref (am 0)), (3, .ref (qa 0)), (4, .int x4)] dL_law_279 (by decide) rfl ?_
            refine g_aload_n X 3 dL_law_281 rfl rfl ?_
            refine g_aload_n X 1 dL_law_282 rfl rfl ?_
            refine g_iload X 5 dL_law_283 rfl ?_
            refine g_iconst (v := 1) X rfl dL_law_285 ?_
            refine g_iadd X dL_law_286 ?_
            obtain ⟨h47, hw⟩ := hw
            refine g_sld X hX hbl hbA h47 dL_law_287 ?_
            refine g_ciV X [wC ct g kc, wS ct (g 1) v43, wS ct (g 2) (sl 0), wS ct (g 3) (sl 1), wV ct g b44, wS ct (g 5) (r45 0), wS ct (g 6) (r45 1), wS ct (g 7) (r45 2), wS ct (g 8) (r45 3), wS ct (g 9) (r45 4), wS ct (g 10) (r45 5), wT ct (g 11) tx, wL ct (g 12) y, wO ct (g 13) o, wR ct (g 14) x, wM ct am w hs, wQ ct qa ou46] (fun (u49 : Mem) => [wC ct g kc, wS ct (g 1) v43, wS ct (g 2) (sl 0), wS ct (g 3) (sl 1), wV ct g b44, wS ct (g 5) (r45 0), wS ct (g 6) (r45 1), wS ct (g 7) (r45 2), wS ct (g 8) (r45 3), wS ct (g 9) (r45 4), wS ct (g 10) (r45 5), wT ct (g 11) tx, wL ct (g 12) y, wO ct (g 13) o, wR ct (g 14) x, wM ct am u49 hs, wQ ct qa ou46]) (fun (u49 : Mem) => fl [wC ct g kc, wS ct (g 1) v43, wS ct (g 2) (sl 0), wS ct (g 3) (sl 1), wV ct g b44, wS ct (g 5) (r45 0), wS ct (g 6) (r45 1), wS ct (g 7) (r45 2), wS ct (g 8) (r45 3), wS ct (g 9) (r45 4), wS ct (g 10) (r45 5), wT ct (g 11) tx, wL ct (g 12) y, wO ct (g 13) o, wR ct (g 14) x, wM ct am u49 hs, wQ ct qa ou46]) 17 [15] [0, 1, 2, 3, 4, 5, 6, 7, 8, 9, 10, 11, 12, 13, 14, 16] 0 (kX8_child l D ct am w hs (xs (ix (x4 + 1))) _ hw) (cwV 1 X.1.2.2.2.2 gL_law_X8_child rfl rfl rfl (by decide +kernel) ⟨Nat.le_of_ble_eq_true rfl, Nat.le_of_ble_eq_true rfl⟩) dL_law_288 rfl rfl (Nat.le_of_ble_eq_true rfl) ⟨by show _ ≤ 601024; omega, by show _ ≤ 7293034; omega⟩ rfl rfl rfl (by decide) (fun _ => rfl) (fun _ => rfl) (fun _ => rfl) (fun _ => rfl) rfl rfl rfl (fun r48 u49 hw => ?_)
            obtain ⟨w50, hw50⟩ : ∃ z : Mem, z = u49 := ⟨_, rfl⟩
            rw [← hw50] at hw
            rw [← hw50]
            refine g_istore X [(6, .int r48), (5, .int r41), (0, .ref sb), (1, .ref (g 0 0)), (2, .ref (am 0)), (3, .ref (qa 0)), (4, .int x4)] dL_law_291 (by decide) rfl ?_
            refine g_aload_n X 4 dL_law_293 rfl rfl ?_
            refine g_ciV X [wC ct g kc, wS ct (g 1) v43, wS ct (g 2) (sl 0), wS ct (g 3) (sl 1), wV ct g b44, wS ct (g 5) (r45 0), wS ct (g 6) (r45 1), wS ct (g 7) (r45 2), wS ct (g 8) (r45 3), wS ct (g 9) (r45 4), wS ct (g 10) (r45 5), wT ct (g 11) tx, wL ct (g 12) y, wO ct (g 13) o, wR ct (g 14) x, wM ct am w50 hs, wQ ct qa ou46] (fun (_ : Unit) => [wC ct g kc, wS ct (g 1) v43, wS ct (g 2) (sl 0), wS ct (g 3) (sl 1), wV ct g b44, wS ct (g 5) (r45 0), wS ct (g 6) (r45 1), wS ct (g 7) (r45 2), wS ct (g 8) (r45 3), wS ct (g 9) (r45 4), wS ct (g 10) (r45 5), wT ct (g 11) tx, wL ct (g 12) y, wO ct (g 13) o, wR ct (g 14) x, wM ct am w50 hs, wQ ct qa ou46]) (fun _ => fl [wC ct g kc, wS ct (g 1) v43, wS ct (g 2) (sl 0), wS ct (g 3) (sl 1), wV ct g b44, wS ct (g 5) (r45 0), wS ct (g 6) (r45 1), wS ct (g 7) (r45 2), wS ct (g 8) (r45 3), wS ct (g 9) (r45 4), wS ct (g 10) (r45 5), wT ct (g 11) tx, wL ct (g 12) y, wO ct (g 13) o, wR ct (g 14) x, wM ct am w50 hs, wQ ct qa ou46]) 17 [15] [0, 1, 2, 3, 4, 5, 6, 7, 8, 9, 10, 11, 12, 13, 14, 16] 0 (kX8_thrown l D ct am w50 hs _ hw) (cwV 0 X.1.2.2.2.2 gL_law_X8_thrown rfl rfl rfl (by decide +kernel) ⟨Nat.le_of_ble_eq_true rfl, Nat.le_of_ble_eq_true rfl⟩) dL_law_294 rfl rfl (Nat.le_of_ble_eq_true rfl) ⟨by show _ ≤ 601024; omega, by show _ ≤ 7293034; omega⟩ rfl rfl rfl (by decide) (fun _ => rfl) (fun _ => rfl) (fun _ => rfl) (fun _ => rfl) rfl rfl rfl (fun r51 _ hw => ?_)
            refine g_iload X 1 dL_law_297 rfl ?_
            refine g_icmp_eq X 304 dL_law_299 (by decide) (fun c53 => ?_) (fun c53 => ?_)
            · replace hw := hw.1 c53
              refine g_iload X 1 dL_law_304 rfl ?_
              refine g_if_ne X 321 dL_law_306 (by decide) (fun c54 => ?_) (fun c54 => ?_)
              · replace hw := hw.1 c54
                refine g_goto X 1318 dL_law_321 (by decide) ?_
                refine g_iinc X [(4, .int (x4 + 3)), (6, .int r48), (5, .int r41), (0, .ref sb), (1, .ref (g 0 0)), (2, .ref (am 0)), (3, .ref (qa 0))] 6 dL_law_1318 rfl rfl (by decide) rfl ?_
                refine g_goto X 23 dL_law_1321 (by decide) ?_
                refine g_sub [(0, .ref sb), (1, .ref (g 0 0)), (2, .ref (am 0)), (3, .ref (qa 0)), (4, .int (x4 + 3))] [3, 4, 5, 6, 0] rfl ?_
                refine g_wide (k2 := 117 + (513 - n)) (j2 := 2344 + 6 * (513 - n)) (by omega) (by omega) ?_
                exact ih (by omega) _ _ _ _ _ _ _ _ _ _ _ _ _ hw
              · replace hw := hw.2 c54
                refine g_aload_n X 5 dL_law_309 rfl rfl ?_
                refine g_iconst (v := 0) X rfl dL_law_310 ?_
                refine g_lald X 116 4 dL_law_311 rfl rfl (vp_in_nI (n := 0) (by decide) (by decide)) ?_
                refine g_iload X 0 dL_law_312 rfl ?_
                refine g_i2l X dL_law_314 ?_
                refine g_lcmp X dL_law_315 ?_
                refine g_if_eq X 321 dL_law_316 (by decide) (fun c55 => ?_) (fun c55 => ?_)
                · replace hw := hw.1 c55
                  refine g_goto X 1318 dL_law_321 (by decide) ?_
                  refine g_iinc X [(4, .int (x4 + 3)), (6, .int r48), (5, .int r41), (0, .ref sb), (1, .ref (g 0 0)), (2, .ref (am 0)), (3, .ref (qa 0))] 6 dL_law_1318 rfl rfl (by decide) rfl ?_
                  refine g_goto X 23 dL_law_1321 (by decide) ?_
                  refine g_sub [(0, .ref sb), (1, .ref (g 0 0)), (2, .ref (am 0)), (3, .ref (qa 0)), (4, .int (x4 + 3))] [3, 4, 5, 6, 0] rfl ?_
                  refine g_wide (k2 := 117 + (513 - n)) (j2 := 2344 + 6 * (513 - n)) (by omega) (by omega) ?_
                  exact ih (by omega) _ _ _ _ _ _ _ _ _ _ _ _ _ hw
                · replace hw := hw.2 c55
                  refine g_iconst (v := 0) X rfl dL_law_319 ?_
                  exact hw.elim
            · replace hw := hw.2 c53
              refine g_iconst (v := 0) X rfl dL_law_302 ?_
              exact hw.elim
          · replace hw := hw.2 c39
            by_cases c56 : ((xs (ix x4)) &&& 31) = 3
            · replace hw := hw.1 c56
              refine g_tableIn X 324 dL_law_39 (by rw [c56]; decide) (by rw [c56]; decide) (by rw [c56]; rfl) (by decide) ?_
              refine g_aload_n X 1 dL_law_324 rfl rfl ?_
              refine g_aload_n X 0 dL_law_325 rfl rfl ?_
              refine g_iload X 4 dL_law_326 rfl ?_
              refine g_iconst (v := 1) X rfl dL_law_328 ?_
              refine g_iadd X dL_law_329 ?_
              obtain ⟨h57, hw⟩ := hw
              refine g_sld X hX hbl hbA h57 dL_law_330 ?_
              refine g_aload_n X 0 dL_law_331 rfl rfl ?_
              refine g_iload X 4 dL_law_332 rfl ?_
              refine g_iconst (v := 2) X rfl dL_law_334 ?_
              refine g_iadd X dL_law_335 ?_
              obtain ⟨h58, hw⟩ := hw
              refine g_sld X hX hbl hbA h58 dL_law_336 ?_
              refine g_aload_n X 3 dL_law_337 rfl rfl ?_
              refine g_chS X XX [wC ct g kc, wS ct (g 1) v, wS ct (g 2) (sl 0), wS ct (g 3) (sl 1), wV ct g b, wS ct (g 5) (r 0), wS ct (g 6) (r 1), wS ct (g 7) (r 2), wS ct (g 8) (r 3), wS ct (g 9) (r 4), wS ct (g 10) (r 5), wT ct (g 11) tx, wL ct (g 12) y, wO ct (g 13) o, wR ct (g 14) x, wM ct am w hs, wQ ct qa ou] (fun (u60 : Mem × Mem × (Nat → Mem) × Mem × (Nat → Int64)) => [wC ct g kc, wS ct (g 1) u60.1, wS ct (g 2) (sl 0), wS ct (g 3) (sl 1), wV ct g u60.2.1, wS ct (g 5) (u60.2.2.1 0), wS ct (g 6) (u60.2.2.1 1), wS ct (g 7) (u60.2.2.1 2), wS ct (g 8) (u60.2.2.1 3), wS ct (g 9) (u60.2.2.1 4), wS ct (g 10) (u60.2.2.1 5), wT ct (g 11) tx, wL ct (g 12) u60.2.2.2.1, wO ct (g 13) o, wR ct (g 14) x, wM ct am w hs, wQ ct qa u60.2.2.2.2]) (fun (u60 : Mem × Mem × (Nat → Mem) × Mem × (Nat → Int64)) => fl [wC ct g kc, wS ct (g 1) u60.1, wS ct (g 2) (sl 0), wS ct (g 3) (sl 1), wV ct g u60.2.1, wS ct (g 5) (u60.2.2.1 0), wS ct (g 6) (u60.2.2.1 1), wS ct (g 7) (u60.2.2.1 2), wS ct (g 8) (u60.2.2.1 3), wS ct (g 9) (u60.2.2.1 4), wS ct (g 10) (u60.2.2.1 5), wT ct (g 11) tx, wL ct (g 12) u60.2.2.2.1, wO ct (g 13) o, wR ct (g 14) x, wM ct am w hs, wQ ct qa u60.2.2.2.2]) 17 [0, 1, 4, 5, 6, 7, 8, 9, 10, 12, 16] [2, 3, 11, 13, 14, 15] (kL_swap l hl9 D ct g qa kc v b r y ou (xs (ix (x4 + 1))) (xs (ix (x4 + 2))) _ hw) (vx_cwSW 4 X.1.2.2.2.2 gL_law_L_swap rfl rfl rfl (by decide +kernel) ⟨Nat.le_of_ble_eq_true rfl, Nat.le_of_ble_eq_true rfl⟩) dL_law_338 rfl rfl (Nat.le_of_ble_eq_true rfl) ⟨by show _ ≤ 601024; omega, by show _ ≤ 7293034; omega⟩ rfl rfl rfl (by decide) (fun _ => rfl) (fun _ => rfl) (fun _ => rfl) (fun _ => rfl) (fun r59 u60 hw => ?_)
              obtain ⟨v61, hv61⟩ : ∃ z : Mem, z = u60.1 := ⟨_, rfl⟩
              rw [← hv61] at hw
              rw [← hv61]
              obtain ⟨b62, hb62⟩ : ∃ z : Mem, z = u60.2.1 := ⟨_, rfl⟩
              rw [← hb62] at hw
              rw [← hb62]
              obtain ⟨r63, hr63⟩ : ∃ z : Nat → Mem, z = u60.2.2.1 := ⟨_, rfl⟩
              rw [← hr63] at hw
              rw [← hr63]
              obtain ⟨y64, hy64⟩ : ∃ z : Mem, z = u60.2.2.2.1 := ⟨_, rfl⟩
              rw [← hy64] at hw
              rw [← hy64]
              obtain ⟨ou65, hou65⟩ : ∃ z : Nat → Int64, z = u60.2.2.2.2 := ⟨_, rfl⟩
              rw [← hou65] at hw
              rw [← hou65]
              refine g_istore X [(5, .int r59), (0, .ref sb), (1, .ref (g 0 0)), (2, .ref (am 0)), (3, .ref (qa 0)), (4, .int x4)] dL_law_341 (by decide) rfl ?_
              refine g_aload_n X 3 dL_law_343 rfl rfl ?_
              refine g_aload_n X 1 dL_law_344 rfl rfl ?_
              refine g_iload X 5 dL_law_345 rfl ?_
              refine g_iconst (v := 1) X rfl dL_law_347 ?_
              refine g_iadd X dL_law_348 ?_
              obtain ⟨h66, hw⟩ := hw
              refine g_sld X hX hbl hbA h66 dL_law_349 ?_
              refine g_aload_n X 1 dL_law_350 rfl rfl ?_
              refine g_iload X 5 dL_law_351 rfl ?_
              refine g_iconst (v := 2) X rfl dL_law_353 ?_
              refine g_iadd X dL_law_354 ?_
              obtain ⟨h67, hw⟩ := hw
              refine g_sld X hX hbl hbA h67 dL_law_355 ?_
              refine g_ciV X [wC ct g kc, wS ct (g 1) v61, wS ct (g 2) (sl 0), wS ct (g 3) (sl 1), wV ct g b62, wS ct (g 5) (r63 0), wS ct (g 6) (r63 1), wS ct (g 7) (r63 2), wS ct (g 8) (r63 3), wS ct (g 9) (r63 4), wS ct (g 10) (r63 5), wT ct (g 11) tx, wL ct (g 12) y64, wO ct (g 13) o, wR ct (g 14) x, wM ct am w hs, wQ ct qa ou65] (fun (u69 : Mem) => [wC ct g kc, wS ct (g 1) v61, wS ct (g 2) (sl 0), wS ct (g 3) (sl 1), wV ct g b62, wS ct (g 5) (r63 0), wS ct (g 6) (r63 1), wS ct (g 7) (r63 2), wS ct (g 8) (r63 3), wS ct (g 9) (r63 4), wS ct (g 10) (r63 5), wT ct (g 11) tx, wL ct (g 12) y64, wO ct (g 13) o, wR ct (g 14) x, wM ct am u69 hs, wQ ct qa ou65]) (fun (u69 : Mem) => fl [wC ct g kc, wS ct (g 1) v61, wS ct (g 2) (sl 0), wS ct (g 3) (sl 1), wV ct g b62, wS ct (g 5) (r63 0), wS ct (g 6) (r63 1), wS ct (g 7) (r63 2), wS ct (g 8) (r63 3), wS ct (g 9) (r63 4), wS ct (g 10) (r63 5), wT ct (g 11) tx, wL ct (g 12) y64, wO ct (g 13) o, wR ct (g 14) x, wM ct am u69 hs, wQ ct qa ou65]) 17 [15] [0, 1, 2, 3, 4, 5, 6, 7, 8, 9, 10, 11, 12, 13, 14, 16] 0 (kX8_swap l D ct am w hs (xs (ix (x4 + 1))) (xs (ix (x4 + 2))) _ hw) (cwV 2 X.1.2.2.2.2 gL_law_X8_swap rfl rfl rfl (by decide +kernel) ⟨Nat.le_of_ble_eq_true rfl, Nat.le_of_ble_eq_true rfl⟩) dL_law_356 rfl rfl (Nat.le_of_ble_eq_true rfl) ⟨by show _ ≤ 601024; omega, by show _ ≤ 7293034; omega⟩ rfl rfl rfl (by decide) (fun _ => rfl) (fun _ => rfl) (fun _ => rfl) (fun _ => rfl) rfl rfl rfl (fun r68 u69 hw => ?_)
              obtain ⟨w70, hw70⟩ : ∃ z : Mem, z = u69 := ⟨_, rfl⟩
              rw [← hw70] at hw
              rw [← hw70]
              refine g_istore X [(6, .int r68), (5, .int r59), (0, .ref sb), (1, .ref (g 0 0)), (2, .ref (am 0)), (3, .ref (qa 0)), (4, .int x4)] dL_law_359 (by decide) rfl ?_
              refine g_aload_n X 4 dL_law_361 rfl rfl ?_
              refine g_ciV X [wC ct g kc, wS ct (g 1) v61, wS ct (g 2) (sl 0), wS ct (g 3) (sl 1), wV ct g b62, wS ct (g 5) (r63 0), wS ct (g 6) (r63 1), wS ct (g 7) (r63 2), wS ct (g 8) (r63 3), wS ct (g 9) (r63 4), wS ct (g 10) (r63 5), wT ct (g 11) tx, wL ct (g 12) y64, wO ct (g 13) o, wR ct (g 14) x, wM ct am w70 hs, wQ ct qa ou65] (fun (_ : Unit) => [wC ct g kc, wS ct (g 1) v61, wS ct (g 2) (sl 0), wS ct (g 3) (sl 1), wV ct g b62, wS ct (g 5) (r63 0), wS ct (g 6) (r63 1), wS ct (g 7) (r63 2), wS ct (g 8) (r63 3), wS ct (g 9) (r63 4), wS ct (g 10) (r63 5), wT ct (g 11) tx, wL ct (g 12) y64, wO ct (g 13) o, wR ct (g 14) x, wM ct am w70 hs, wQ ct qa ou65]) (fun _ => fl [wC ct g kc, wS ct (g 1) v61, wS ct (g 2) (sl 0), wS ct (g 3) (sl 1), wV ct g b62, wS ct (g 5) (r63 0), wS ct (g 6) (r63 1), wS ct (g 7) (r63 2), wS ct (g 8) (r63 3), wS ct (g 9) (r63 4), wS ct (g 10) (r63 5), wT ct (g 11) tx, wL ct (g 12) y64, wO ct (g 13) o, wR ct (g 14) x, wM ct am w70 hs, wQ ct qa ou65]) 17 [15] [0, 1, 2, 3, 4, 5, 6, 7, 8, 9, 10, 11, 12, 13, 14, 16] 0 (kX8_thrown l D ct am w70 hs _ hw) (cwV 0 X.1.2.2.2.2 gL_law_X8_thrown rfl rfl rfl (by decide +kernel) ⟨Nat.le_of_ble_eq_true rfl, Nat.le_of_ble_eq_true rfl⟩) dL_law_362 rfl rfl (Nat.le_of_ble_eq_true rfl) ⟨by show _ ≤ 601024; omega, by show _ ≤ 7293034; omega⟩ rfl rfl rfl (by decide) (fun _ => rfl) (fun _ => rfl) (fun _ => rfl) (fun _ => rfl) rfl rfl rfl (fun r71 _ hw => ?_)
              refine g_iload X 1 dL_law_365 rfl ?_
              refine g_icmp_eq X 372 dL_law_367 (by decide) (fun c73 => ?_) (fun c73 => ?_)
              · replace hw := hw.1 c73
                refine g_iload X 1 dL_law_372 rfl ?_
                refine g_if_ne X 389 dL_law_374 (by decide) (fun c74 => ?_) (fun c74 => ?_)
                · replace hw := hw.1 c74
                  refine g_goto X 1318 dL_law_389 (by decide) ?_
                  refine g_iinc X [(4, .int (x4 + 3)), (6, .int r68), (5, .int r59), (0, .ref sb), (1, .ref (g 0 0)), (2, .ref (am 0)), (3, .ref (qa 0))] 6 dL_law_1318 rfl rfl (by decide) rfl ?_
                  refine g_goto X 23 dL_law_1321 (by decide) ?_
                  refine g_sub [(0, .ref sb), (1, .ref (g 0 0)), (2, .ref (am 0)), (3, .ref (qa 0)), (4, .int (x4 + 3))] [3, 4, 5, 6, 0] rfl ?_
                  refine g_wide (k2 := 117 + (513 - n)) (j2 := 2344 + 6 * (513 - n)) (by omega) (by omega) ?_
                  exact ih (by omega) _ _ _ _ _ _ _ _ _ _ _ _ _ hw
                · replace hw := hw.2 c74
                  refine g_aload_n X 5 dL_law_377 rfl rfl ?_
                  refine g_iconst (v := 0) X rfl dL_law_378 ?_
                  refine g_lald X 116 4 dL_law_379 rfl rfl (vp_in_nI (n := 0) (by decide) (by decide)) ?_
                  refine g_iload X 0 dL_law_380 rfl ?_
                  refine g_i2l X dL_law_382 ?_
                  refine g_lcmp X dL_law_383 ?_
                  refine g_if_eq X 389 dL_law_384 (by decide) (fun c75 => ?_) (fun c75 => ?_)
                  · replace hw := hw.1 c75
                    refine g_goto X 1318 dL_law_389 (by decide) ?_
                    refine g_iinc X [(4, .int (x4 + 3)), (6, .int r68), (5, .int r59), (0, .ref sb), (1, .ref (g 0 0)), (2, .ref (am 0)), (3, .ref (qa 0))] 6 dL_law_1318 rfl rfl (by decide) rfl ?_
                    refine g_goto X 23 dL_law_1321 (by decide) ?_
                    refine g_sub [(0, .ref sb), (1, .ref (g 0 0)), (2, .ref (am 0)), (3, .ref (qa 0)), (4, .int (x4 + 3))] [3, 4, 5, 6, 0] rfl ?_
                    refine g_wide (k2 := 117 + (513 - n)) (j2 := 2344 + 6 * (513 - n)) (by omega) (by omega) ?_
                    exact ih (by omega) _ _ _ _ _ _ _ _ _ _ _ _ _ hw
                  · replace hw := hw.2 c75
                    refine g_iconst (v := 0) X rfl dL_law_387 ?_
                    exact hw.elim
              · replace hw := hw.2 c73
                refine g_iconst (v := 0) X rfl dL_law_370 ?_
                exact hw.elim
            · replace hw := hw.2 c56
              by_cases c76 : ((xs (ix x4)) &&& 31) = 4
              · replace hw := hw.1 c76
                refine g_tableIn X 392 dL_law_39 (by rw [c76]; decide) (by rw [c76]; decide) (by rw [c76]; rfl) (by decide) ?_
                refine g_aload_n X 1 dL_law_392 rfl rfl ?_
                refine g_aload_n X 0 dL_law_393 rfl rfl ?_
                refine g_iload X 4 dL_law_394 rfl ?_
                refine g_iconst (v := 1) X rfl dL_law_396 ?_
                refine g_iadd X dL_law_397 ?_
                obtain ⟨h77, hw⟩ := hw
                refine g_sld X hX hbl hbA h77 dL_law_398 ?_
                refine g_aload_n X 3 dL_law_399 rfl rfl ?_
                refine g_chS X XX [wC ct g kc, wS ct (g 1) v, wS ct (g 2) (sl 0), wS ct (g 3) (sl 1), wV ct g b, wS ct (g 5) (r 0), wS ct (g 6) (r 1), wS ct (g 7) (r 2), wS ct (g 8) (r 3), wS ct (g 9) (r 4), wS ct (g 10) (r 5), wT ct (g 11) tx, wL ct (g 12) y, wO ct (g 13) o, wR ct (g 14) x, wM ct am w hs, wQ ct qa ou] (fun (u79 : Mem × Mem × (Nat → Mem) × Mem × (Nat → Int64)) => [wC ct g kc, wS ct (g 1) u79.1, wS ct (g 2) (sl 0), wS ct (g 3) (sl 1), wV ct g u79.2.1, wS ct (g 5) (u79.2.2.1 0), wS ct (g 6) (u79.2.2.1 1), wS ct (g 7) (u79.2.2.1 2), wS ct (g 8) (u79.2.2.1 3), wS ct (g 9) (u79.2.2.1 4), wS ct (g 10) (u79.2.2.1 5), wT ct (g 11) tx, wL ct (g 12) y, wO ct (g 13) u79.2.2.2.1, wR ct (g 14) x, wM ct am w hs, wQ ct qa u79.2.2.2.2]) (fun (u79 : Mem × Mem × (Nat → Mem) × Mem × (Nat → Int64)) => fl [wC ct g kc, wS ct (g 1) u79.1, wS ct (g 2) (sl 0), wS ct (g 3) (sl 1), wV ct g u79.2.1, wS ct (g 5) (u79.2.2.1 0), wS ct (g 6) (u79.2.2.1 1), wS ct (g 7) (u79.2.2.1 2), wS ct (g 8) (u79.2.2.1 3), wS ct (g 9) (u79.2.2.1 4), wS ct (g 10) (u79.2.2.1 5), wT ct (g 11) tx, wL ct (g 12) y, wO ct (g 13) u79.2.2.2.1, wR ct (g 14) x, wM ct am w hs, wQ ct qa u79.2.2.2.2]) 17 [0, 1, 4, 5, 6, 7, 8, 9, 10, 13, 16] [2, 3, 11, 12, 14, 15] (kL_byParents l hl9 D ct g qa kc v b r o ou (xs (ix (x4 + 1))) _ hw) (vx_cwSW 3 X.1.2.2.2.2 gL_law_L_byParents rfl rfl rfl (by decide +kernel) ⟨Nat.le_of_ble_eq_true rfl, Nat.le_of_ble_eq_true rfl⟩) dL_law_400 rfl rfl (Nat.le_of_ble_eq_true rfl) ⟨by show _ ≤ 601024; omega, by show _ ≤ 7293034; omega⟩ rfl rfl rfl (by decide) (fun _ => rfl) (fun _ => rfl) (fun _ => rfl) (fun _ => rfl) (fun r78 u79 hw => ?_)
                obtain ⟨v80, hv80⟩ : ∃ z : Mem, z = u79.1 := ⟨_, rfl⟩
                rw [← hv80] at hw
                rw [← hv80]
                obtain ⟨b81, hb81⟩ : ∃ z : Mem, z = u79.2.1 := ⟨_, rfl⟩
                rw [← hb81] at hw
                rw [← hb81]
                obtain ⟨r82, hr82⟩ : ∃ z : Nat → Mem, z = u79.2.2.1 := ⟨_, rfl⟩
                rw [← hr82] at hw
                rw [← hr82]
                obtain ⟨o83, ho83⟩ : ∃ z : Mem, z = u79.2.2.2.1 := ⟨_, rfl⟩
                rw [← ho83] at hw
                rw [← ho83]
                obtain ⟨ou84, hou84⟩ : ∃ z : Nat → Int64, z = u79.2.2.2.2 := ⟨_, rfl⟩
                rw [← hou84] at hw
                rw [← hou84]
                refine g_istore X [(5, .int r78), (0, .ref sb), (1, .ref (g 0 0)), (2, .ref (am 0)), (3, .ref (qa 0)), (4, .int x4)] dL_law_403 (by decide) rfl ?_
                refine g_aload_n X 3 dL_law_405 rfl rfl ?_
                refine g_aload_n X 1 dL_law_406 rfl rfl ?_
                refine g_iload X 5 dL_law_407 rfl ?_
                refine g_iconst (v := 1) X rfl dL_law_409 ?_
                refine g_iadd X dL_law_410 ?_
                obtain ⟨h85, hw⟩ := hw
                refine g_sld X hX hbl hbA h85 dL_law_411 ?_
                refine g_ciV X [wC ct g kc, wS ct (g 1) v80, wS ct (g 2) (sl 0), wS ct (g 3) (sl 1), wV ct g b81, wS ct (g 5) (r82 0), wS ct (g 6) (r82 1), wS ct (g 7) (r82 2), wS ct (g 8) (r82 3), wS ct (g 9) (r82 4), wS ct (g 10) (r82 5), wT ct (g 11) tx, wL ct (g 12) y, wO ct (g 13) o83, wR ct (g 14) x, wM ct am w hs, wQ ct qa ou84] (fun (u87 : Mem) => [wC ct g kc, wS ct (g 1) v80, wS ct (g 2) (sl 0), wS ct (g 3) (sl 1), wV ct g b81, wS ct (g 5) (r82 0), wS ct (g 6) (r82 1), wS ct (g 7) (r82 2), wS ct (g 8) (r82 3), wS ct (g 9) (r82 4), wS ct (g 10) (r82 5), wT ct (g 11) tx, wL ct (g 12) y, wO ct (g 13) o83, wR ct (g 14) x, wM ct am u87 hs, wQ ct qa ou84]) (fun (u87 : Mem) => fl [wC ct g kc, wS ct (g 1) v80, wS ct (g 2) (sl 0), wS ct (g 3) (sl 1), wV ct g b81, wS ct (g 5) (r82 0), wS ct (g 6) (r82 1), wS ct (g 7) (r82 2), wS ct (g 8) (r82 3), wS ct (g 9) (r82 4), wS ct (g 10) (r82 5), wT ct (g 11) tx, wL ct (g 12) y, wO ct (g 13) o83, wR ct (g 14) x, wM ct am u87 hs, wQ ct qa ou84]) 17 [15] [0, 1, 2, 3, 4, 5, 6, 7, 8, 9, 10, 11, 12, 13, 14, 16] 0 (kX8_byParents l D ct am w hs (xs (ix (x4 + 1))) _ hw) (cwV 1 X.1.2.2.2.2 gL_law_X8_byParents rfl rfl rfl (by decide +kernel) ⟨Nat.le_of_ble_eq_true rfl, Nat.le_of_ble_eq_true rfl⟩) dL_law_412 rfl rfl (Nat.le_of_ble_eq_true rfl) ⟨by show _ ≤ 601024; omega, by show _ ≤ 7293034; omega⟩ rfl rfl rfl (by decide) (fun _ => rfl) (fun _ => rfl) (fun _ => rfl) (fun _ => rfl) rfl rfl rfl (fun r86 u87 hw => ?_)
                obtain ⟨w88, hw88⟩ : ∃ z : Mem, z = u87 := ⟨_, rfl⟩
                rw [← hw88] at hw
                rw [← hw88]
                refine g_istore X [(6, .int r86), (5, .int r78), (0, .ref sb), (1, .ref (g 0 0)), (2, .ref (am 0)), (3, .ref (qa 0)), (4, .int x4)] dL_law_415 (by decide) rfl ?_
                refine g_aload_n X 4 dL_law_417 rfl rfl ?_
                refine g_ciV X [wC ct g kc, wS ct (g 1) v80, wS ct (g 2) (sl 0), wS ct (g 3) (sl 1), wV ct g b81, wS ct (g 5) (r82 0), wS ct (g 6) (r82 1), wS ct (g 7) (r82 2), wS ct (g 8) (r82 3), wS ct (g 9) (r82 4), wS ct (g 10) (r82 5), wT ct (g 11) tx, wL ct (g 12) y, wO ct (g 13) o83, wR ct (g 14) x, wM ct am w88 hs, wQ ct qa ou84] (fun (_ : Unit) => [wC ct g kc, wS ct (g 1) v80, wS ct (g 2) (sl 0), wS ct (g 3) (sl 1), wV ct g b81, wS ct (g 5) (r82 0), wS ct (g 6) (r82 1), wS ct (g 7) (r82 2), wS ct (g 8) (r82 3), wS ct (g 9) (r82 4), wS ct (g 10) (r82 5), wT ct (g 11) tx, wL ct (g 12) y, wO ct (g 13) o83, wR ct (g 14) x, wM ct am w88 hs, wQ ct qa ou84]) (fun _ => fl [wC ct g kc, wS ct (g 1) v80, wS ct (g 2) (sl 0), wS ct (g 3) (sl 1), wV ct g b81, wS ct (g 5) (r82 0), wS ct (g 6) (r82 1), wS ct (g 7) (r82 2), wS ct (g 8) (r82 3), wS ct (g 9) (r82 4), wS ct (g 10) (r82 5), wT ct (g 11) tx, wL ct (g 12) y, wO ct (g 13) o83, wR ct (g 14) x, wM ct am w88 hs, wQ ct qa ou84]) 17 [15] [0, 1, 2, 3, 4, 5, 6, 7, 8, 9, 10, 11, 12, 13, 14, 16] 0 (kX8_thrown l D ct am w88 hs _ hw) (cwV 0 X.1.2.2.2.2 gL_law_X8_thrown rfl rfl rfl (by decide +kernel) ⟨Nat.le_of_ble_eq_true rfl, Nat.le_of_ble_eq_true rfl⟩) dL_law_418 rfl rfl (Nat.le_of_ble_eq_true rfl) ⟨by show _ ≤ 601024; omega, by show _ ≤ 7293034; omega⟩ rfl rfl rfl (by decide) (fun _ => rfl) (fun _ => rfl) (fun _ => rfl) (fun _ => rfl) rfl rfl rfl (fun r89 _ hw => ?_)
                refine g_iload X 1 dL_law_421 rfl ?_
                refine g_icmp_eq X 428 dL_law_423 (by decide) (fun c91 => ?_) (fun c91 => ?_)
                · replace hw := hw.1 c91
                  refine g_iload X 1 dL_law_428 rfl ?_
                  refine g_if_ne X 445 dL_law_430 (by decide) (fun c92 => ?_) (fun c92 => ?_)
                  · replace hw := hw.1 c92
                    refine g_goto X 1318 dL_law_445 (by decide) ?_
                    refine g_iinc X [(4, .int (x4 + 3)), (6, .int r86), (5, .int r78), (0, .ref sb), (1, .ref (g 0 0)), (2, .ref (am 0)), (3, .ref (qa 0))] 6 dL_law_1318 rfl rfl (by decide) rfl ?_
                    refine g_goto X 23 dL_law_1321 (by decide) ?_
                    refine g_sub [(0, .ref sb), (1, .ref (g 0 0)), (2, .ref (am 0)), (3, .ref (qa 0)), (4, .int (x4 + 3))] [3, 4, 5, 6, 0] rfl ?_
                    refine g_wide (k2 := 117 + (513 - n)) (j2 := 2344 + 6 * (513 - n)) (by omega) (by omega) ?_
                    exact ih (by omega) _ _ _ _ _ _ _ _ _ _ _ _ _ hw
                  · replace hw := hw.2 c92
                    refine g_aload_n X 5 dL_law_433 rfl rfl ?_
                    refine g_iconst (v := 0) X rfl dL_law_434 ?_
                    refine g_lald X 116 4 dL_law_435 rfl rfl (vp_in_nI (n := 0) (by decide) (by decide)) ?_
                    refine g_iload X 0 dL_law_436 rfl ?_
                    refine g_i2l X dL_law_438 ?_
                    refine g_lcmp X dL_law_439 ?_
                    refine g_if_eq X 445 dL_law_440 (by decide) (fun c93 => ?_) (fun c93 => ?_)
                    · replace hw := hw.1 c93
                      refine g_goto X 1318 dL_law_445 (by decide) ?_
                      refine g_iinc X [(4, .int (x4 + 3)), (6, .int r86), (5, .int r78), (0, .ref sb), (1, .ref (g 0 0)), (2, .ref (am 0)), (3, .ref (qa 0))] 6 dL_law_1318 rfl rfl (by decide) rfl ?_
                      refine g_goto X 23 dL_law_1321 (by decide) ?_
                      refine g_sub [(0, .ref sb), (1, .ref (g 0 0)), (2, .ref (am 0)), (3, .ref (qa 0)), (4, .int (x4 + 3))] [3, 4, 5, 6, 0] rfl ?_
                      refine g_wide (k2 := 117 + (513 - n)) (j2 := 2344 + 6 * (513 - n)) (by omega) (by omega) ?_
                      exact ih (by omega) _ _ _ _ _ _ _ _ _ _ _ _ _ hw
                    · replace hw := hw.2 c93
                      refine g_iconst (v := 0) X rfl dL_law_443 ?_
                      exact hw.elim
                · replace hw := hw.2 c91
                  refine g_iconst (v := 0) X rfl dL_law_426 ?_
                  exact hw.elim
              · replace hw := hw.2 c76
                by_cases c94 : ((xs (ix x4)) &&& 31) = 5
                · replace hw := hw.1 c94
                  refine g_tableIn X 448 dL_law_39 (by rw [c94]; decide) (by rw [c94]; decide) (by rw [c94]; rfl) (by decide) ?_
                  refine g_aload_n X 1 dL_law_448 rfl rfl ?_
                  refine g_aload_n X 0 dL_law_449 rfl rfl ?_
                  refine g_iload X 4 dL_law_450 rfl ?_
                  refine g_iconst (v := 1) X rfl dL_law_452 ?_
                  refine g_iadd X dL_law_453 ?_
                  obtain ⟨h95, hw⟩ := hw
                  refine g_sld X hX hbl hbA h95 dL_law_454 ?_
                  refine g_aload_n X 3 dL_law_455 rfl rfl ?_
                  refine g_chS X XX [wC ct g kc, wS ct (g 1) v, wS ct (g 2) (sl 0), wS ct (g 3) (sl 1), wV ct g b, wS ct (g 5) (r 0), wS ct (g 6) (r 1), wS ct (g 7) (r 2), wS ct (g 8) (r 3), wS ct (g 9) (r 4), wS ct (g 10) (r 5), wT ct (g 11) tx, wL ct (g 12) y, wO ct (g 13) o, wR ct (g 14) x, wM ct am w hs, wQ ct qa ou] (fun (u97 : Mem × Mem × (Nat → Mem) × Mem × (Nat → Int64)) => [wC ct g kc, wS ct (g 1) u97.1, wS ct (g 2) (sl 0), wS ct (g 3) (sl 1), wV ct g u97.2.1, wS ct (g 5) (u97.2.2.1 0), wS ct (g 6) (u97.2.2.1 1), wS ct (g 7) (u97.2.2.1 2), wS ct (g 8) (u97.2.2.1 3), wS ct (g 9) (u97.2.2.1 4), wS ct (g 10) (u97.2.2.1 5), wT ct (g 11) tx, wL ct (g 12) y, wO ct (g 13) o, wR ct (g 14) u97.2.2.2.1, wM ct am w hs, wQ ct qa u97.2.2.2.2]) (fun (u97 : Mem × Mem × (Nat → Mem) × Mem × (Nat → Int64)) => fl [wC ct g kc, wS ct (g 1) u97.1, wS ct (g 2) (sl 0), wS ct (g 3) (sl 1), wV ct g u97.2.1, wS ct (g 5) (u97.2.2.1 0), wS ct (g 6) (u97.2.2.1 1), wS ct (g 7) (u97.2.2.1 2), wS ct (g 8) (u97.2.2.1 3), wS ct (g 9) (u97.2.2.1 4), wS ct (g 10) (u97.2.2.1 5), wT ct (g 11) tx, wL ct (g 12) y, wO ct (g 13) o, wR ct (g 14) u97.2.2.2.1, wM ct am w hs, wQ ct qa u97.2.2.2.2]) 17 [0, 1, 4, 5, 6, 7, 8, 9, 10, 14, 16] [2, 3, 11, 12, 13, 15] (kL_untangle l hl9 D ct g qa kc v b r x ou (xs (ix (x4 + 1))) _ hw) (vx_cwSW 3 X.1.2.2.2.2 gL_law_L_untangle rfl rfl rfl (by decide +kernel) ⟨Nat.le_of_ble_eq_true rfl, Nat.le_of_ble_eq_true rfl⟩) dL_law_456 rfl rfl (Nat.le_of_ble_eq_true rfl) ⟨by show _ ≤ 601024; omega, by show _ ≤ 7293034; omega⟩ rfl rfl rfl (by decide) (fun _ => rfl) (fun _ => rfl) (fun _ => rfl) (fun _ => rfl) (fun r96 u97 hw => ?_)
                  obtain ⟨v98, hv98⟩ : ∃ z : Mem, z = u97.1 := ⟨_, rfl⟩
                  rw [← hv98] at hw
                  rw [← hv98]
                  obtain ⟨b99, hb99⟩ : ∃ z : Mem, z = u97.2.1 := ⟨_, rfl⟩
                  rw [← hb99] at hw
                  rw [← hb99]
                  obtain ⟨r100, hr100⟩ : ∃ z : Nat → Mem, z = u97.2.2.1 := ⟨_, rfl⟩
                  rw [← hr100] at hw
                  rw [← hr100]
                  obtain ⟨x101, hx101⟩ : ∃ z : Mem, z = u97.2.2.2.1 := ⟨_, rfl⟩
                  rw [← hx101] at hw
                  rw [← hx101]
                  obtain ⟨ou102, hou102⟩ : ∃ z : Nat → Int64, z = u97.2.2.2.2 := ⟨_, rfl⟩
                  rw [← hou102] at hw
                  rw [← hou102]
                  refine g_istore X [(5, .int r96), (0, .ref sb), (1, .ref (g 0 0)), (2, .ref (am 0)), (3, .ref (qa 0)), (4, .int x4)] dL_law_459 (by decide) rfl ?_
                  refine g_aload_n X 3 dL_law_461 rfl rfl ?_
                  refine g_aload_n X 1 dL_law_462 rfl rfl ?_
                  refine g_iload X 5 dL_law_463 rfl ?_
                  refine g_iconst (v := 1) X rfl dL_law_465 ?_
                  refine g_iadd X dL_law_466 ?_
                  obtain ⟨h103, hw⟩ := hw
                  refine g_sld X hX hbl hbA h103 dL_law_467 ?_
                  refine g_ciV X [wC ct g kc, wS ct (g 1) v98, wS ct (g 2) (sl 0), wS ct (g 3) (sl 1), wV ct g b99, wS ct (g 5) (r100 0), wS ct (g 6) (r100 1), wS ct (g 7) (r100 2), wS ct (g 8) (r100 3), wS ct (g 9) (r100 4), wS ct (g 10) (r100 5), wT ct (g 11) tx, wL ct (g 12) y, wO ct (g 13) o, wR ct (g 14) x101, wM ct am w hs, wQ ct qa ou102] (fun (u105 : Mem) => [wC ct g kc, wS ct (g 1) v98, wS ct (g 2) (sl 0), wS ct (g 3) (sl 1), wV ct g b99, wS ct (g 5) (r100 0), wS ct (g 6) (r100 1), wS ct (g 7) (r100 2), wS ct (g 8) (r100 3), wS ct (g 9) (r100 4), wS ct (g 10) (r100 5), wT ct (g 11) tx, wL ct (g 12) y, wO ct (g 13) o, wR ct (g 14) x101, wM ct am u105 hs, wQ ct qa ou102]) (fun (u105 : Mem) => fl [wC ct g kc, wS ct (g 1) v98, wS ct (g 2) (sl 0), wS ct (g 3) (sl 1), wV ct g b99, wS ct (g 5) (r100 0), wS ct (g 6) (r100 1), wS ct (g 7) (r100 2), wS ct (g 8) (r100 3), wS ct (g 9) (r100 4), wS ct (g 10) (r100 5), wT ct (g 11) tx, wL ct (g 12) y, wO ct (g 13) o, wR ct (g 14) x101, wM ct am u105 hs, wQ ct qa ou102]) 17 [15] [0, 1, 2, 3, 4, 5, 6, 7, 8, 9, 10, 11, 12, 13, 14, 16] 0 (kX8_untangle l D ct am w hs (xs (ix (x4 + 1))) _ hw) (cwV 1 X.1.2.2.2.2 gL_law_X8_untangle rfl rfl rfl (by decide +kernel) ⟨Nat.le_of_ble_eq_true rfl, Nat.le_of_ble_eq_true rfl⟩) dL_law_468 rfl rfl (Nat.le_of_ble_eq_true rfl) ⟨by show _ ≤ 601024; omega, by show _ ≤ 7293034; omega⟩ rfl rfl rfl (by decide) (fun _ => rfl) (fun _ => rfl) (fun _ => rfl) (fun _ => rfl) rfl rfl rfl (fun r104 u105 hw => ?_)
                  obtain ⟨w106, hw106⟩ : ∃ z : Mem, z = u105 := ⟨_, rfl⟩
                  rw [← hw106] at hw
                  rw [← hw106]
                  refine g_istore X [(6, .int r104), (5, .int r96), (0, .ref sb), (1, .ref (g 0 0)), (2, .ref (am 0)), (3, .ref (qa 0)), (4, .int x4)] dL_law_471 (by decide) rfl ?_
                  refine g_aload_n X 4 dL_law_473 rfl rfl ?_
                  refine g_ciV X [wC ct g kc, wS ct (g 1) v98, wS ct (g 2) (sl 0), wS ct (g 3) (sl 1), wV ct g b99, wS ct (g 5) (r100 0), wS ct (g 6) (r100 1), wS ct (g 7) (r100 2), wS ct (g 8) (r100 3), wS ct (g 9) (r100 4), wS ct (g 10) (r100 5), wT ct (g 11) tx, wL ct (g 12) y, wO ct (g 13) o, wR ct (g 14) x101, wM ct am w106 hs, wQ ct qa ou102] (fun (_ : Unit) => [wC ct g kc, wS ct (g 1) v98, wS ct (g 2) (sl 0), wS ct (g 3) (sl 1), wV ct g b99, wS ct (g 5) (r100 0), wS ct (g 6) (r100 1), wS ct (g 7) (r100 2), wS ct (g 8) (r100 3), wS ct (g 9) (r100 4), wS ct (g 10) (r100 5), wT ct (g 11) tx, wL ct (g 12) y, wO ct (g 13) o, wR ct (g 14) x101, wM ct am w106 hs, wQ ct qa ou102]) (fun _ => fl [wC ct g kc, wS ct (g 1) v98, wS ct (g 2) (sl 0), wS ct (g 3) (sl 1), wV ct g b99, wS ct (g 5) (r100 0), wS ct (g 6) (r100 1), wS ct (g 7) (r100 2), wS ct (g 8) (r100 3), wS ct (g 9) (r100 4), wS ct (g 10) (r100 5), wT ct (g 11) tx, wL ct (g 12) y, wO ct (g 13) o, wR ct (g 14) x101, wM ct am w106 hs, wQ ct qa ou102]) 17 [15] [0, 1, 2, 3, 4, 5, 6, 7, 8, 9, 10, 11, 12, 13, 14, 16] 0 (kX8_thrown l D ct am w106 hs _ hw) (cwV 0 X.1.2.2.2.2 gL_law_X8_thrown rfl rfl rfl (by decide +kernel) ⟨Nat.le_of_ble_eq_true rfl, Nat.le_of_ble_eq_true rfl⟩) dL_law_474 rfl rfl (Nat.le_of_ble_eq_true rfl) ⟨by show _ ≤ 601024; omega, by show _ ≤ 7293034; omega⟩ rfl rfl rfl (by decide) (fun _ => rfl) (fun _ => rfl) (fun _ => rfl) (fun _ => rfl) rfl rfl rfl (fun r107 _ hw => ?_)
                  refine g_iload X 1 dL_law_477 rfl ?_
                  refine g_icmp_eq X 484 dL_law_479 (by decide) (fun c109 => ?_) (fun c109 => ?_)
                  · replace hw := hw.1 c109
                    refine g_iload X 1 dL_law_484 rfl ?_
                    refine g_if_ne X 501 dL_law_486 (by decide) (fun c110 => ?_) (fun c110 => ?_)
                    · replace hw := hw.1 c110
                      refine g_goto X 1318 dL_law_501 (by decide) ?_
                      refine g_iinc X [(4, .int (x4 + 3)), (6, .int r104), (5, .int r96), (0, .ref sb), (1, .ref (g 0 0)), (2, .ref (am 0)), (3, .ref (qa 0))] 6 dL_law_1318 rfl rfl (by decide) rfl ?_
                      refine g_goto X 23 dL_law_1321 (by decide) ?_
                      refine g_sub [(0, .ref sb), (1, .ref (g 0 0)), (2, .ref (am 0)), (3, .ref (qa 0)), (4, .int (x4 + 3))] [3, 4, 5, 6, 0] rfl ?_
                      refine g_wide (k2 := 117 + (513 - n)) (j2 := 2344 + 6 * (513 - n)) (by omega) (by omega) ?_
                      exact ih (by omega) _ _ _ _ _ _ _ _ _ _ _ _ _ hw
                    · replace hw := hw.2 c110
                      refine g_aload_n X 5 dL_law_489 rfl rfl ?_
                      refine g_iconst (v := 0) X rfl dL_law_490 ?_
                      refine g_lald X 116 4 dL_law_491 rfl rfl (vp_in_nI (n := 0) (by decide) (by decide)) ?_
                      refine g_iload X 0 dL_law_492 rfl ?_
                      refine g_i2l X dL_law_494 ?_
                      refine g_lcmp X dL_law_495 ?_
                      refine g_if_eq X 501 dL_law_496 (by decide) (fun c111 => ?_) (fun c111 => ?_)
                      · replace hw := hw.1 c111
                        refine g_goto X 1318 dL_law_501 (by decide) ?_
                        refine g_iinc X [(4, .int (x4 + 3)), (6, .int r104), (5, .int r96), (0, .ref sb), (1, .ref (g 0 0)), (2, .ref (am 0)), (3, .ref (qa 0))] 6 dL_law_1318 rfl rfl (by decide) rfl ?_
                        refine g_goto X 23 dL_law_1321 (by decide) ?_
                        refine g_sub [(0, .ref sb), (1, .ref (g 0 0)), (2, .ref (am 0)), (3, .ref (qa 0)), (4, .int (x4 + 3))] [3, 4, 5, 6, 0] rfl ?_
                        refine g_wide (k2 := 117 + (513 - n)) (j2 := 2344 + 6 * (513 - n)) (by omega) (by omega) ?_
                        exact ih (by omega) _ _ _ _ _ _ _ _ _ _ _ _ _ hw
                      · replace hw := hw.2 c111
                        refine g_iconst (v := 0) X rfl dL_law_499 ?_
                        exact hw.elim
                  · replace hw := hw.2 c109
                    refine g_iconst (v := 0) X rfl dL_law_482 ?_
                    exact hw.elim
                · replace hw := hw.2 c94
                  by_cases c112 : ((xs (ix x4)) &&& 31) = 6
                  · replace hw := hw.1 c112
                    refine g_tableIn X 504 dL_law_39 (by rw [c112]; decide) (by rw [c112]; decide) (by rw [c112]; rfl) (by decide) ?_
                    refine g_aload_n X 1 dL_law_504 rfl rfl ?_
                    refine g_aload_n X 0 dL_law_505 rfl rfl ?_
                    refine g_iload X 4 dL_law_506 rfl ?_
                    refine g_iconst (v := 1) X rfl dL_law_508 ?_
                    refine g_iadd X dL_law_509 ?_
                    obtain ⟨h113, hw⟩ := hw
                    refine g_sld X hX hbl hbA h113 dL_law_510 ?_
                    refine g_aload_n X 3 dL_law_511 rfl rfl ?_
                    refine g_chS X XX [wC ct g kc, wS ct (g 1) v, wS ct (g 2) (sl 0), wS ct (g 3) (sl 1), wV ct g b, wS ct (g 5) (r 0), wS ct (g 6) (r 1), wS ct (g 7) (r 2), wS ct (g 8) (r 3), wS ct (g 9) (r 4), wS ct (g 10) (r 5), wT ct (g 11) tx, wL ct (g 12) y, wO ct (g 13) o, wR ct (g 14) x, wM ct am w hs, wQ ct qa ou] (fun (u115 : Mem × (Nat → Int64)) => [wC ct g kc, wS ct (g 1) v, wS ct (g 2) (sl 0), wS ct (g 3) (sl 1), wV ct g b, wS ct (g 5) (r 0), wS ct (g 6) (r 1), wS ct (g 7) (r 2), wS ct (g 8) (r 3), wS ct (g 9) (r 4), wS ct (g 10) (r 5), wT ct (g 11) u115.1, wL ct (g 12) y, wO ct (g 13) o, wR ct (g 14) x, wM ct am w hs, wQ ct qa u115.2]) (fun (u115 : Mem × (Nat → Int64)) => fl [wC ct g kc, wS ct (g 1) v, wS ct (g 2) (sl 0), wS ct (g 3) (sl 1), wV ct g b, wS ct (g 5) (r 0), wS ct (g 6) (r 1), wS ct (g 7) (r 2), wS ct (g 8) (r 3), wS ct (g 9) (r 4), wS ct (g 10) (r 5), wT ct (g 11) u115.1, wL ct (g 12) y, wO ct (g 13) o, wR ct (g 14) x, wM ct am w hs, wQ ct qa u115.2]) 17 [0, 11, 16] [1, 2, 3, 4, 5, 6, 7, 8, 9, 10, 12, 13, 14, 15] (kL_append l hl9 D ct g qa kc tx ou (xs (ix (x4 + 1))) _ hw) (vx_cwSW 3 X.1.2.2.2.2 gL_law_L_append rfl rfl rfl (by decide +kernel) ⟨Nat.le_of_ble_eq_true rfl, Nat.le_of_ble_eq_true rfl⟩) dL_law_512 rfl rfl (Nat.le_of_ble_eq_true rfl) ⟨by show _ ≤ 601024; omega, by show _ ≤ 7293034; omega⟩ rfl rfl rfl (by decide) (fun _ => rfl) (fun _ => rfl) (fun _ => rfl) (fun _ => rfl) (fun r114 u115 hw => ?_)
                    obtain ⟨tx116, htx116⟩ : ∃ z : Mem, z = u115.1 := ⟨_, rfl⟩
                    rw [← htx116] at hw
                    rw [← htx116]
                    obtain ⟨ou117, hou117⟩ : ∃ z : Nat → Int64, z = u115.2 := ⟨_, rfl⟩
                    rw [← hou117] at hw
                    rw [← hou117]
                    refine g_istore X [(5, .int r114), (0, .ref sb), (1, .ref (g 0 0)), (2, .ref (am 0)), (3, .ref (qa 0)), (4, .int x4)] dL_law_515 (by decide) rfl ?_
                    refine g_aload_n X 3 dL_law_517 rfl rfl ?_
                    refine g_aload_n X 1 dL_law_518 rfl rfl ?_
                    refine g_iload X 5 dL_law_519 rfl ?_
                    refine g_iconst (v := 1) X rfl dL_law_521 ?_
                    refine g_iadd X dL_law_522 ?_
                    obtain ⟨h118, hw⟩ := hw
                    refine g_sld X hX hbl hbA h118 dL_law_523 ?_
                    refine g_ciV X [wC ct g kc, wS ct (g 1) v, wS ct (g 2) (sl 0), wS ct (g 3) (sl 1), wV ct g b, wS ct (g 5) (r 0), wS ct (g 6) (r 1), wS ct (g 7) (r 2), wS ct (g 8) (r 3), wS ct (g 9) (r 4), wS ct (g 10) (r 5), wT ct (g 11) tx116, wL ct (g 12) y, wO ct (g 13) o, wR ct (g 14) x, wM ct am w hs, wQ ct qa ou117] (fun (u120 : Mem) => [wC ct g kc, wS ct (g 1) v, wS ct (g 2) (sl 0), wS ct (g 3) (sl 1), wV ct g b, wS ct (g 5) (r 0), wS ct (g 6) (r 1), wS ct (g 7) (r 2), wS ct (g 8) (r 3), wS ct (g 9) (r 4), wS ct (g 10) (r 5), wT ct (g 11) tx116, wL ct (g 12) y, wO ct (g 13) o, wR ct (g 14) x, wM ct am u120 hs, wQ ct qa ou117]) (fun (u120 : Mem) => fl [wC ct g kc, wS ct (g 1) v, wS ct (g 2) (sl 0), wS ct (g 3) (sl 1), wV ct g b, wS ct (g 5) (r 0), wS ct (g 6) (r 1), wS ct (g 7) (r 2), wS ct (g 8) (r 3), wS ct (g 9) (r 4), wS ct (g 10) (r 5), wT ct (g 11) tx116, wL ct (g 12) y, wO ct (g 13) o, wR ct (g 14) x, wM ct am u120 hs, wQ ct qa ou117]) 17 [15] [0, 1, 2, 3, 4, 5, 6, 7, 8, 9, 10, 11, 12, 13, 14, 16] 0 (kX8_append l D ct am w hs (xs (ix (x4 + 1))) _ hw) (cwV 1 X.1.2.2.2.2 gL_law_X8_append rfl rfl rfl (by decide +kernel) ⟨Nat.le_of_ble_eq_true rfl, Nat.le_of_ble_eq_true rfl⟩) dL_law_524 rfl rfl (Nat.le_of_ble_eq_true rfl) ⟨by show _ ≤ 601024; omega, by show _ ≤ 7293034; omega⟩ rfl rfl rfl (by decide) (fun _ => rfl) (fun _ => rfl) (fun _ => rfl) (fun _ => rfl) rfl rfl rfl (fun r119 u120 hw => ?_)
                    obtain ⟨w121, hw121⟩ : ∃ z : Mem, z = u120 := ⟨_, rfl⟩
                    rw [← hw121] at hw
                    rw [← hw121]
                    refine g_istore X [(6, .int r119), (5, .int r114), (0, .ref sb), (1, .ref (g 0 0)), (2, .ref (am 0)), (3, .ref (qa 0)), (4, .int x4)] dL_law_527 (by decide) rfl ?_
                    refine g_aload_n X 4 dL_law_529 rfl rfl ?_
                    refine g_ciV X [wC ct g kc, wS ct (g 1) v, wS ct (g 2) (sl 0), wS ct (g 3) (sl 1), wV ct g b, wS ct (g 5) (r 0), wS ct (g 6) (r 1), wS ct (g 7) (r 2), wS ct (g 8) (r 3), wS ct (g 9) (r 4), wS ct (g 10) (r 5), wT ct (g 11) tx116, wL ct (g 12) y, wO ct (g 13) o, wR ct (g 14) x, wM ct am w121 hs, wQ ct qa ou117] (fun (_ : Unit) => [wC ct g kc, wS ct (g 1) v, wS ct (g 2) (sl 0), wS ct (g 3) (sl 1), wV ct g b, wS ct (g 5) (r 0), wS ct (g 6) (r 1), wS ct (g 7) (r 2), wS ct (g 8) (r 3), wS ct (g 9) (r 4), wS ct (g 10) (r 5), wT ct (g 11) tx116, wL ct (g 12) y, wO ct (g 13) o, wR ct (g 14) x, wM ct am w121 hs, wQ ct qa ou117]) (fun _ => fl [wC ct g kc, wS ct (g 1) v, wS ct (g 2) (sl 0), wS ct (g 3) (sl 1), wV ct g b, wS ct (g 5) (r 0), wS ct (g 6) (r 1), wS ct (g 7) (r 2), wS ct (g 8) (r 3), wS ct (g 9) (r 4), wS ct (g 10) (r 5), wT ct (g 11) tx116, wL ct (g 12) y, wO ct (g 13) o, wR ct (g 14) x, wM ct am w121 hs, wQ ct qa ou117]) 17 [15] [0, 1, 2, 3, 4, 5, 6, 7, 8, 9, 10, 11, 12, 13, 14, 16] 0 (kX8_thrown l D ct am w121 hs _ hw) (cwV 0 X.1.2.2.2.2 gL_law_X8_thrown rfl rfl rfl (by decide +kernel) ⟨Nat.le_of_ble_eq_true rfl, Nat.le_of_ble_eq_true rfl⟩) dL_law_530 rfl rfl (Nat.le_of_ble_eq_true rfl) ⟨by show _ ≤ 601024; omega, by show _ ≤ 7293034; omega⟩ rfl rfl rfl (by decide) (fun _ => rfl) (fun _ => rfl) (fun _ => rfl) (fun _ => rfl) rfl rfl rfl (fun r122 _ hw => ?_)
                    refine g_iload X 1 dL_law_533 rfl ?_
                    refine g_icmp_eq X 540 dL_law_535 (by decide) (fun c124 => ?_) (fun c124 => ?_)
                    · replace hw := hw.1 c124
                      refine g_iload X 1 dL_law_540 rfl ?_
                      refine g_if_ne X 557 dL_law_542 (by decide) (fun c125 => ?_) (fun c125 => ?_)
                      · replace hw := hw.1 c125
                        refine g_goto X 1318 dL_law_557 (by decide) ?_
                        refine g_iinc X [(4, .int (x4 + 3)), (6, .int r119), (5, .int r114), (0, .ref sb), (1, .ref (g 0 0)), (2, .ref (am 0)), (3, .ref (qa 0))] 6 dL_law_1318 rfl rfl (by decide) rfl ?_
                        refine g_goto X 23 dL_law_1321 (by decide) ?_
                        refine g_sub [(0, .ref sb), (1, .ref (g 0 0)), (2, .ref (am 0)), (3, .ref (qa 0)), (4, .int (x4 + 3))] [3, 4, 5, 6, 0] rfl ?_
                        refine g_wide (k2 := 117 + (513 - n)) (j2 := 2344 + 6 * (513 - n)) (by omega) (by omega) ?_
                        exact ih (by omega) _ _ _ _ _ _ _ _ _ _ _ _ _ hw
                      · replace hw := hw.2 c125
                        refine g_aload_n X 5 dL_law_545 rfl rfl ?_
                        refine g_iconst (v := 0) X rfl dL_law_546 ?_
                        refine g_lald X 116 4 dL_law_547 rfl rfl (vp_in_nI (n := 0) (by decide) (by decide)) ?_
                        refine g_iload X 0 dL_law_548 rfl ?_
                        refine g_i2l X dL_law_550 ?_
                        refine g_lcmp X dL_law_551 ?_
                        refine g_if_eq X 557 dL_law_552 (by decide) (fun c126 => ?_) (fun c126 => ?_)
                        · replace hw := hw.1 c126
                          refine g_goto X 1318 dL_law_557 (by decide) ?_
                          refine g_iinc X [(4, .int (x4 + 3)), (6, .int r119), (5, .int r114), (0, .ref sb), (1, .ref (g 0 0)), (2, .ref (am 0)), (3, .ref (qa 0))] 6 dL_law_1318 rfl rfl (by decide) rfl ?_
                          refine g_goto X 23 dL_law_1321 (by decide) ?_
                          refine g_sub [(0, .ref sb), (1, .ref (g 0 0)), (2, .ref (am 0)), (3, .ref (qa 0)), (4, .int (x4 + 3))] [3, 4, 5, 6, 0] rfl ?_
                          refine g_wide (k2 := 117 + (513 - n)) (j2 := 2344 + 6 * (513 - n)) (by omega) (by omega) ?_
                          exact ih (by omega) _ _ _ _ _ _ _ _ _ _ _ _ _ hw
                        · replace hw := hw.2 c126
                          refine g_iconst (v := 0) X rfl dL_law_555 ?_
                          exact hw.elim
                    · replace hw := hw.2 c124
                      refine g_iconst (v := 0) X rfl dL_law_538 ?_
                      exact hw.elim
                  · replace hw := hw.2 c112
                    by_cases c127 : ((xs (ix x4)) &&& 31) = 7
                    · replace hw := hw.1 c127
                      refine g_tableIn X 560 dL_law_39 (by rw [c127]; decide) (by rw [c127]; decide) (by rw [c127]; rfl) (by decide) ?_
                      refine g_aload_n X 1 dL_law_560 rfl rfl ?_
                      refine g_ciV X [wC ct g kc, wS ct (g 1) v, wS ct (g 2) (sl 0), wS ct (g 3) (sl 1), wV ct g b, wS ct (g 5) (r 0), wS ct (g 6) (r 1), wS ct (g 7) (r 2), wS ct (g 8) (r 3), wS ct (g 9) (r 4), wS ct (g 10) (r 5), wT ct (g 11) tx, wL ct (g 12) y, wO ct (g 13) o, wR ct (g 14) x, wM ct am w hs, wQ ct qa ou] (fun (u129 : Mem) => [wC ct g kc, wS ct (g 1) v, wS ct (g 2) (sl 0), wS ct (g 3) (sl 1), wV ct g b, wS ct (g 5) (r 0), wS ct (g 6) (r 1), wS ct (g 7) (r 2), wS ct (g 8) (r 3), wS ct (g 9) (r 4), wS ct (g 10) (r 5), wT ct (g 11) u129, wL ct (g 12) y, wO ct (g 13) o, wR ct (g 14) x, wM ct am w hs, wQ ct qa ou]) (fun (u129 : Mem) => fl [wC ct g kc, wS ct (g 1) v, wS ct (g 2) (sl 0), wS ct (g 3) (sl 1), wV ct g b, wS ct (g 5) (r 0), wS ct (g 6) (r 1), wS ct (g 7) (r 2), wS ct (g 8) (r 3), wS ct (g 9) (r 4), wS ct (g 10) (r 5), wT ct (g 11) u129, wL ct (g 12) y, wO ct (g 13) o, wR ct (g 14) x, wM ct am w hs, wQ ct qa ou]) 17 [0, 11] [1, 2, 3, 4, 5, 6, 7, 8, 9, 10, 12, 13, 14, 15, 16] 0 (kX7_clearBuffer l D ct g kc tx _ hw) (cwV 0 X.1.2.2.2.2 gL_law_X7_clearBuffer rfl rfl rfl (by decide +kernel) ⟨Nat.le_of_ble_eq_true rfl, Nat.le_of_ble_eq_true rfl⟩) dL_law_561 rfl rfl (Nat.le_of_ble_eq_true rfl) ⟨by show _ ≤ 601024; omega, by show _ ≤ 7293034; omega⟩ rfl rfl rfl (by decide) (fun _ => rfl) (fun _ => rfl) (fun _ => rfl) (fun _ => rfl) rfl rfl rfl (fun r128 u129 hw => ?_)
                      obtain ⟨tx130, htx130⟩ : ∃ z : Mem, z = u129 := ⟨_, rfl⟩
                      rw [← htx130] at hw
                      rw [← htx130]
                      refine g_aload_n X 2 dL_law_564 rfl rfl ?_
                      refine g_ciV X [wC ct g kc, wS ct (g 1) v, wS ct (g 2) (sl 0), wS ct (g 3) (sl 1), wV ct g b, wS ct (g 5) (r 0), wS ct (g 6) (r 1), wS ct (g 7) (r 2), wS ct (g 8) (r 3), wS ct (g 9) (r 4), wS ct (g 10) (r 5), wT ct (g 11) tx130, wL ct (g 12) y, wO ct (g 13) o, wR ct (g 14) x, wM ct am w hs, wQ ct qa ou] (fun (u132 : Mem) => [wC ct g kc, wS ct (g 1) v, wS ct (g 2) (sl 0), wS ct (g 3) (sl 1), wV ct g b, wS ct (g 5) (r 0), wS ct (g 6) (r 1), wS ct (g 7) (r 2), wS ct (g 8) (r 3), wS ct (g 9) (r 4), wS ct (g 10) (r 5), wT ct (g 11) tx130, wL ct (g 12) y, wO ct (g 13) o, wR ct (g 14) x, wM ct am u132 hs, wQ ct qa ou]) (fun (u132 : Mem) => fl [wC ct g kc, wS ct (g 1) v, wS ct (g 2) (sl 0), wS ct (g 3) (sl 1), wV ct g b, wS ct (g 5) (r 0), wS ct (g 6) (r 1), wS ct (g 7) (r 2), wS ct (g 8) (r 3), wS ct (g 9) (r 4), wS ct (g 10) (r 5), wT ct (g 11) tx130, wL ct (g 12) y, wO ct (g 13) o, wR ct (g 14) x, wM ct am u132 hs, wQ ct qa ou]) 17 [15] [0, 1, 2, 3, 4, 5, 6, 7, 8, 9, 10, 11, 12, 13, 14, 16] 0 (kX8_clearBuffer l D ct am w hs _ hw) (cwV 0 X.1.2.2.2.2 gL_law_X8_clearBuffer rfl rfl rfl (by decide +kernel) ⟨Nat.le_of_ble_eq_true rfl, Nat.le_of_ble_eq_true rfl⟩) dL_law_565 rfl rfl (Nat.le_of_ble_eq_true rfl) ⟨by show _ ≤ 601024; omega, by show _ ≤ 7293034; omega⟩ rfl rfl rfl (by decide) (fun _ => rfl) (fun _ => rfl) (fun _ => rfl) (fun _ => rfl) rfl rfl rfl (fun r131 u132 hw => ?_)
                      obtain ⟨w133, hw133⟩ : ∃ z : Mem, z = u132 := ⟨_, rfl⟩
                      rw [← hw133] at hw
                      rw [← hw133]
                      refine g_icmp_eq X 1318 dL_law_568 (by decide) (fun c134 => ?_) (fun c134 => ?_)
                      · replace hw := hw.1 c134
                        refine g_iinc X [(4, .int (x4 + 3)), (0, .ref sb), (1, .ref (g 0 0)), (2, .ref (am 0)), (3, .ref (qa 0))] 4 dL_law_1318 rfl rfl (by decide) rfl ?_
                        refine g_goto X 23 dL_law_1321 (by decide) ?_
                        refine g_sub [(0, .ref sb), (1, .ref (g 0 0)), (2, .ref (am 0)), (3, .ref (qa 0)), (4, .int (x4 + 3))] [1, 2, 3, 4, 0] rfl ?_
                        refine g_wide (k2 := 117 + (513 - n)) (j2 := 2344 + 6 * (513 - n)) (by omega) (by omega) ?_
                        exact ih (by omega) _ _ _ _ _ _ _ _ _ _ _ _ _ hw
                      · replace hw := hw.2 c134
                        refine g_iconst (v := 0) X rfl dL_law_571 ?_
                        exact hw.elim
                    · replace hw := hw.2 c127
                      by_cases c135 : ((xs (ix x4)) &&& 31) = 8
                      · replace hw := hw.1 c135
                        refine g_tableIn X 573 dL_law_39 (by rw [c135]; decide) (by rw [c135]; decide) (by rw [c135]; rfl) (by decide) ?_
                        refine g_aload_n X 1 dL_law_573 rfl rfl ?_
                        refine g_ciV X [wC ct g kc, wS ct (g 1) v, wS ct (g 2) (sl 0), wS ct (g 3) (sl 1), wV ct g b, wS ct (g 5) (r 0), wS ct (g 6) (r 1), wS ct (g 7) (r 2), wS ct (g 8) (r 3), wS ct (g 9) (r 4), wS ct (g 10) (r 5), wT ct (g 11) tx, wL ct (g 12) y, wO ct (g 13) o, wR ct (g 14) x, wM ct am w hs, wQ ct qa ou] (fun (_ : Unit) => [wC ct g kc, wS ct (g 1) v, wS ct (g 2) (sl 0), wS ct (g 3) (sl 1), wV ct g b, wS ct (g 5) (r 0), wS ct (g 6) (r 1), wS ct (g 7) (r 2), wS ct (g 8) (r 3), wS ct (g 9) (r 4), wS ct (g 10) (r 5), wT ct (g 11) tx, wL ct (g 12) y, wO ct (g 13) o, wR ct (g 14) x, wM ct am w hs, wQ ct qa ou]) (fun _ => fl [wC ct g kc, wS ct (g 1) v, wS ct (g 2) (sl 0), wS ct (g 3) (sl 1), wV ct g b, wS ct (g 5) (r 0), wS ct (g 6) (r 1), wS ct (g 7) (r 2), wS ct (g 8) (r 3), wS ct (g 9) (r 4), wS ct (g 10) (r 5), wT ct (g 11) tx, wL ct (g 12) y, wO ct (g 13) o, wR ct (g 14) x, wM ct am w hs, wQ ct qa ou]) 17 [0, 11] [1, 2, 3, 4, 5, 6, 7, 8, 9, 10, 12, 13, 14, 15, 16] 0 (kX7_firstError l D ct g kc tx _ hw) (cwV 0 X.1.2.2.2.2 gL_law_X7_firstError rfl rfl rfl (by decide +kernel) ⟨Nat.le_of_ble_eq_true rfl, Nat.le_of_ble_eq_true rfl⟩) dL_law_574 rfl rfl (Nat.le_of_ble_eq_true rfl) ⟨by show _ ≤ 601024; omega, by show _ ≤ 7293034; omega⟩ rfl rfl rfl (by decide) (fun _ => rfl) (fun _ => rfl) (fun _ => rfl) (fun _ => rfl) rfl rfl rfl (fun r136 _ hw => ?_)
                        refine g_aload_n X 2 dL_law_577 rfl rfl ?_
                        refine g_ciV X [wC ct g kc, wS ct (g 1) v, wS ct (g 2) (sl 0), wS ct (g 3) (sl 1), wV ct g b, wS ct (g 5) (r 0), wS ct (g 6) (r 1), wS ct (g 7) (r 2), wS ct (g 8) (r 3), wS ct (g 9) (r 4), wS ct (g 10) (r 5), wT ct (g 11) tx, wL ct (g 12) y, wO ct (g 13) o, wR ct (g 14) x, wM ct am w hs, wQ ct qa ou] (fun (u139 : Mem) => [wC ct g kc, wS ct (g 1) v, wS ct (g 2) (sl 0), wS ct (g 3) (sl 1), wV ct g b, wS ct (g 5) (r 0), wS ct (g 6) (r 1), wS ct (g 7) (r 2), wS ct (g 8) (r 3), wS ct (g 9) (r 4), wS ct (g 10) (r 5), wT ct (g 11) tx, wL ct (g 12) y, wO ct (g 13) o, wR ct (g 14) x, wM ct am u139 hs, wQ ct qa ou]) (fun (u139 : Mem) => fl [wC ct g kc, wS ct (g 1) v, wS ct (g 2) (sl 0), wS ct (g 3) (sl 1), wV ct g b, wS ct (g 5) (r 0), wS ct (g 6) (r 1), wS ct (g 7) (r 2), wS ct (g 8) (r 3), wS ct (g 9) (r 4), wS ct (g 10) (r 5), wT ct (g 11) tx, wL ct (g 12) y, wO ct (g 13) o, wR ct (g 14) x, wM ct am u139 hs, wQ ct qa ou]) 17 [15] [0, 1, 2, 3, 4, 5, 6, 7, 8, 9, 10, 11, 12, 13, 14, 16] 0 (kX8_firstError l D ct am w hs _ hw) (cwV 0 X.1.2.2.2.2 gL_law_X8_firstError rfl rfl rfl (by decide +kernel) ⟨Nat.le_of_ble_eq_true rfl, Nat.le_of_ble_eq_true rfl⟩) dL_law_578 rfl rfl (Nat.le_of_ble_eq_true rfl) ⟨by show _ ≤ 601024; omega, by show _ ≤ 7293034; omega⟩ rfl rfl rfl (by decide) (fun _ => rfl) (fun _ => rfl) (fun _ => rfl) (fun _ => rfl) rfl rfl rfl (fun r138 u139 hw => ?_)
                        obtain ⟨w140, hw140⟩ : ∃ z : Mem, z = u139 := ⟨_, rfl⟩
                        rw [← hw140] at hw
                        rw [← hw140]
                        refine g_icmp_eq X 1318 dL_law_581 (by decide) (fun c141 => ?_) (fun c141 => ?_)
                        · replace hw := hw.1 c141
                          refine g_iinc X [(4, .int (x4 + 3)), (0, .ref sb), (1, .ref (g 0 0)), (2, .ref (am 0)), (3, .ref (qa 0))] 4 dL_law_1318 rfl rfl (by decide) rfl ?_
                          refine g_goto X 23 dL_law_1321 (by decide) ?_
                          refine g_sub [(0, .ref sb), (1, .ref (g 0 0)), (2, .ref (am 0)), (3, .ref (qa 0)), (4, .int (x4 + 3))] [1, 2, 3, 4, 0] rfl ?_
                          refine g_wide (k2 := 117 + (513 - n)) (j2 := 2344 + 6 * (513 - n)) (by omega) (by omega) ?_
                          exact ih (by omega) _ _ _ _ _ _ _ _ _ _ _ _ _ hw
                        · replace hw := hw.2 c141
                          refine g_iconst (v := 0) X rfl dL_law_584 ?_
                          exact hw.elim
                      · replace hw := hw.2 c135
                        by_cases c142 : ((xs (ix x4)) &&& 31) = 9
                        · replace hw := hw.1 c142
                          refine g_tableIn X 586 dL_law_39 (by rw [c142]; decide) (by rw [c142]; decide) (by rw [c142]; rfl) (by decide) ?_
                          refine g_aload_n X 1 dL_law_586 rfl rfl ?_
                          refine g_aload_n X 3 dL_law_587 rfl rfl ?_
                          refine g_chS X XX [wC ct g kc, wS ct (g 1) v, wS ct (g 2) (sl 0), wS ct (g 3) (sl 1), wV ct g b, wS ct (g 5) (r 0), wS ct (g 6) (r 1), wS ct (g 7) (r 2), wS ct (g 8) (r 3), wS ct (g 9) (r 4), wS ct (g 10) (r 5), wT ct (g 11) tx, wL ct (g 12) y, wO ct (g 13) o, wR ct (g 14) x, wM ct am w hs, wQ ct qa ou] (fun (u144 : Mem × Mem × (Nat → Mem) × Mem × (Nat → Int64)) => [wC ct g kc, wS ct (g 1) u144.1, wS ct (g 2) (sl 0), wS ct (g 3) (sl 1), wV ct g u144.2.1, wS ct (g 5) (u144.2.2.1 0), wS ct (g 6) (u144.2.2.1 1), wS ct (g 7) (u144.2.2.1 2), wS ct (g 8) (u144.2.2.1 3), wS ct (g 9) (u144.2.2.1 4), wS ct (g 10) (u144.2.2.1 5), wT ct (g 11) u144.2.2.2.1, wL ct (g 12) y, wO ct (g 13) o, wR ct (g 14) x, wM ct am w hs, wQ ct qa u144.2.2.2.2]) (fun (u144 : Mem × Mem × (Nat → Mem) × Mem × (Nat → Int64)) => fl [wC ct g kc, wS ct (g 1) u144.1, wS ct (g 2) (sl 0), wS ct (g 3) (sl 1), wV ct g u144.2.1, wS ct (g 5) (u144.2.2.1 0), wS ct (g 6) (u144.2.2.1 1), wS ct (g 7) (u144.2.2.1 2), wS ct (g 8) (u144.2.2.1 3), wS ct (g 9) (u144.2.2.1 4), wS ct (g 10) (u144.2.2.1 5), wT ct (g 11) u144.2.2.2.1, wL ct (g 12) y, wO ct (g 13) o, wR ct (g 14) x, wM ct am w hs, wQ ct qa u144.2.2.2.2]) 17 [0, 1, 4, 5, 6, 7, 8, 9, 10, 11, 16] [2, 3, 12, 13, 14, 15] (kL_run l hl9 D ct g qa kc v b r tx ou _ hw) (vx_cwSW 2 X.1.2.2.2.2 gL_law_L_run rfl rfl rfl (by decide +kernel) ⟨Nat.le_of_ble_eq_true rfl, Nat.le_of_ble_eq_true rfl⟩) dL_law_588 rfl rfl (Nat.le_of_ble_eq_true rfl) ⟨by show _ ≤ 601024; omega, by show _ ≤ 7293034; omega⟩ rfl rfl rfl (by decide) (fun _ => rfl) (fun _ => rfl) (fun _ => rfl) (fun _ => rfl) (fun r143 u144 hw => ?_)
                          obtain ⟨v145, hv145⟩ : ∃ z : Mem, z = u144.1 := ⟨_, rfl⟩
                          rw [← hv145] at hw
                          rw [← hv145]
                          obtain ⟨b146, hb146⟩ : ∃ z : Mem, z = u144.2.1 := ⟨_, rfl⟩
                          rw [← hb146] at hw
                          rw [← hb146]
                          obtain ⟨r147, hr147⟩ : ∃ z : Nat → Mem, z = u144.2.2.1 := ⟨_, rfl⟩
                          rw [← hr147] at hw
                          rw [← hr147]
                          obtain ⟨tx148, htx148⟩ : ∃ z : Mem, z = u144.2.2.2.1 := ⟨_, rfl⟩
                          rw [← htx148] at hw
                          rw [← htx148]
                          obtain ⟨ou149, hou149⟩ : ∃ z : Nat → Int64, z = u144.2.2.2.2 := ⟨_, rfl⟩
                          rw [← hou149] at hw
                          rw [← hou149]
                          refine g_istore X [(5, .int r143), (0, .ref sb), (1, .ref (g 0 0)), (2, .ref (am 0)), (3, .ref (qa 0)), (4, .int x4)] dL_law_591 (by decide) rfl ?_
                          refine g_aload_n X 3 dL_law_593 rfl rfl ?_
                          refine g_ciV X [wC ct g kc, wS ct (g 1) v145, wS ct (g 2) (sl 0), wS ct (g 3) (sl 1), wV ct g b146, wS ct (g 5) (r147 0), wS ct (g 6) (r147 1), wS ct (g 7) (r147 2), wS ct (g 8) (r147 3), wS ct (g 9) (r147 4), wS ct (g 10) (r147 5), wT ct (g 11) tx148, wL ct (g 12) y, wO ct (g 13) o, wR ct (g 14) x, wM ct am w hs, wQ ct qa ou149] (fun (u151 : Mem) => [wC ct g kc, wS ct (g 1) v145, wS ct (g 2) (sl 0), wS ct (g 3) (sl 1), wV ct g b146, wS ct (g 5) (r147 0), wS ct (g 6) (r147 1), wS ct (g 7) (r147 2), wS ct (g 8) (r147 3), wS ct (g 9) (r147 4), wS ct (g 10) (r147 5), wT ct (g 11) tx148, wL ct (g 12) y, wO ct (g 13) o, wR ct (g 14) x, wM ct am u151 hs, wQ ct qa ou149]) (fun (u151 : Mem) => fl [wC ct g kc, wS ct (g 1) v145, wS ct (g 2) (sl 0), wS ct (g 3) (sl 1), wV ct g b146, wS ct (g 5) (r147 0), wS ct (g 6) (r147 1), wS ct (g 7) (r147 2), wS ct (g 8) (r147 3), wS ct (g 9) (r147 4), wS ct (g 10) (r147 5), wT ct (g 11) tx148, wL ct (g 12) y, wO ct (g 13) o, wR ct (g 14) x, wM ct am u151 hs, wQ ct qa ou149]) 17 [15] [0, 1, 2, 3, 4, 5, 6, 7, 8, 9, 10, 11, 12, 13, 14, 16] 0 (kX8_run l D ct am w hs _ hw) (cwV 0 X.1.2.2.2.2 gL_law_X8_run rfl rfl rfl (by decide +kernel) ⟨Nat.le_of_ble_eq_true rfl, Nat.le_of_ble_eq_true rfl⟩) dL_law_594 rfl rfl (Nat.le_of_ble_eq_true rfl) ⟨by show _ ≤ 601024; omega, by show _ ≤ 7293034; omega⟩ rfl rfl rfl (by decide) (fun _ => rfl) (fun _ => rfl) (fun _ => rfl) (fun _ => rfl) rfl rfl rfl (fun r150 u151 hw => ?_)
                          obtain ⟨w152, hw152⟩ : ∃ z : Mem, z = u151 := ⟨_, rfl⟩
                          rw [← hw152] at hw
                          rw [← hw152]
                          refine g_istore X [(6, .int r150), (5, .int r143), (0, .ref sb), (1, .ref (g 0 0)), (2, .ref (am 0)), (3, .ref (qa 0)), (4, .int x4)] dL_law_597 (by decide) rfl ?_
                          refine g_aload_n X 4 dL_law_599 rfl rfl ?_
                          refine g_ciV X [wC ct g kc, wS ct (g 1) v145, wS ct (g 2) (sl 0), wS ct (g 3) (sl 1), wV ct g b146, wS ct (g 5) (r147 0), wS ct (g 6) (r147 1), wS ct (g 7) (r147 2), wS ct (g 8) (r147 3), wS ct (g 9) (r147 4), wS ct (g 10) (r147 5), wT ct (g 11) tx148, wL ct (g 12) y, wO ct (g 13) o, wR ct (g 14) x, wM ct am w152 hs, wQ ct qa ou149] (fun (_ : Unit) => [wC ct g kc, wS ct (g 1) v145, wS ct (g 2) (sl 0), wS ct (g 3) (sl 1), wV ct g b146, wS ct (g 5) (r147 0), wS ct (g 6) (r147 1), wS ct (g 7) (r147 2), wS ct (g 8) (r147 3), wS ct (g 9) (r147 4), wS ct (g 10) (r147 5), wT ct (g 11) tx148, wL ct (g 12) y, wO ct (g 13) o, wR ct (g 14) x, wM ct am w152 hs, wQ ct qa ou149]) (fun _ => fl [wC ct g kc, wS ct (g 1) v145, wS ct (g 2) (sl 0), wS ct (g 3) (sl 1), wV ct g b146, wS ct (g 5) (r147 0), wS ct (g 6) (r147 1), wS ct (g 7) (r147 2), wS ct (g 8) (r147 3), wS ct (g 9) (r147 4), wS ct (g 10) (r147 5), wT ct (g 11) tx148, wL ct (g 12) y, wO ct (g 13) o, wR ct (g 14) x, wM ct am w152 hs, wQ ct qa ou149]) 17 [15] [0, 1, 2, 3, 4, 5, 6, 7, 8, 9, 10, 11, 12, 13, 14, 16] 0 (kX8_thrown l D ct am w152 hs _ hw) (cwV 0 X.1.2.2.2.2 gL_law_X8_thrown rfl rfl rfl (by decide +kernel) ⟨Nat.le_of_ble_eq_true rfl, Nat.le_of_ble_eq_true rfl⟩) dL_law_600 rfl rfl (Nat.le_of_ble_eq_true rfl) ⟨by show _ ≤ 601024; omega, by show _ ≤ 7293034; omega⟩ rfl rfl rfl (by decide) (fun _ => rfl) (fun _ => rfl) (fun _ => rfl) (fun _ => rfl) rfl rfl rfl (fun r153 _ hw => ?_)
                          refine g_iload X 1 dL_law_603 rfl ?_
                          refine g_icmp_eq X 610 dL_law_605 (by decide) (fun c155 => ?_) (fun c155 => ?_)
                          · replace hw := hw.1 c155
                            refine g_iload X 1 dL_law_610 rfl ?_
                            refine g_if_ne X 627 dL_law_612 (by decide) (fun c156 => ?_) (fun c156 => ?_)
                            · replace hw := hw.1 c156
                              refine g_goto X 1318 dL_law_627 (by decide) ?_
                              refine g_iinc X [(4, .int (x4 + 3)), (6, .int r150), (5, .int r143), (0, .ref sb), (1, .ref (g 0 0)), (2, .ref (am 0)), (3, .ref (qa 0))] 6 dL_law_1318 rfl rfl (by decide) rfl ?_
                              refine g_goto X 23 dL_law_1321 (by decide) ?_
                              refine g_sub [(0, .ref sb), (1, .ref (g 0 0)), (2, .ref (am 0)), (3, .ref (qa 0)), (4, .int (x4 + 3))] [3, 4, 5, 6, 0] rfl ?_
                              refine g_wide (k2 := 117 + (513 - n)) (j2 := 2344 + 6 * (513 - n)) (by omega) (by omega) ?_
                              exact ih (by omega) _ _ _ _ _ _ _ _ _ _ _ _ _ hw
                            · replace hw := hw.2 c156
                              refine g_aload_n X 5 dL_law_615 rfl rfl ?_
                              refine g_iconst (v := 0) X rfl dL_law_616 ?_
                              refine g_lald X 116 4 dL_law_617 rfl rfl (vp_in_nI (n := 0) (by decide) (by decide)) ?_
                              refine g_iload X 0 dL_law_618 rfl ?_
                              refine g_i2l X dL_law_620 ?_
                              refine g_lcmp X dL_law_621 ?_
                              refine g_if_eq X 627 dL_law_622 (by decide) (fun c157 => ?_) (fun c157 => ?_)
                              · replace hw := hw.1 c157
                                refine g_goto X 1318 dL_law_627 (by decide) ?_
                                refine g_iinc X [(4, .int (x4 + 3)), (6, .int r150), (5, .int r143), (0, .ref sb), (1, .ref (g 0 0)), (2, .ref (am 0)), (3, .ref (qa 0))] 6 dL_law_1318 rfl rfl (by decide) rfl ?_
                                refine g_goto X 23 dL_law_1321 (by decide) ?_
                                refine g_sub [(0, .ref sb), (1, .ref (g 0 0)), (2, .ref (am 0)), (3, .ref (qa 0)), (4, .int (x4 + 3))] [3, 4, 5, 6, 0] rfl ?_
                                refine g_wide (k2 := 117 + (513 - n)) (j2 := 2344 + 6 * (513 - n)) (by omega) (by omega) ?_
                                exact ih (by omega) _ _ _ _ _ _ _ _ _ _ _ _ _ hw
                              · replace hw := hw.2 c157
                                refine g_iconst (v := 0) X rfl dL_law_625 ?_
                                exact hw.elim
                          · replace hw := hw.2 c155
                            refine g_iconst (v := 0) X rfl dL_law_608 ?_
                            exact hw.elim
                        · replace hw := hw.2 c142
                          by_cases c158 : ((xs (ix x4)) &&& 31) = 10
                          · replace hw := hw.1 c158
                            refine g_tableIn X 630 dL_law_39 (by rw [c158]; decide) (by rw [c158]; decide) (by rw [c158]; rfl) (by decide) ?_
                            refine g_aload_n X 1 dL_law_630 rfl rfl ?_
                            refine g_aload_n X 0 dL_law_631 rfl rfl ?_
                            refine g_iload X 4 dL_law_632 rfl ?_
                            refine g_iconst (v := 1) X rfl dL_law_634 ?_
                            refine g_iadd X dL_law_635 ?_
                            obtain ⟨h159, hw⟩ := hw
                            refine g_sld X hX hbl hbA h159 dL_law_636 ?_
                            refine g_aload_n X 3 dL_law_637 rfl rfl ?_
                            refine g_chS X XX [wC ct g kc, wS ct (g 1) v, wS ct (g 2) (sl 0), wS ct (g 3) (sl 1), wV ct g b, wS ct (g 5) (r 0), wS ct (g 6) (r 1), wS ct (g 7) (r 2), wS ct (g 8) (r 3), wS ct (g 9) (r 4), wS ct (g 10) (r 5), wT ct (g 11) tx, wL ct (g 12) y, wO ct (g 13) o, wR ct (g 14) x, wM ct am w hs, wQ ct qa ou] (fun (u161 : Mem × (Nat → Mem) × (Nat → Int64)) => [wC ct g u161.1, wS ct (g 1) v, wS ct (g 2) (u161.2.1 0), wS ct (g 3) (u161.2.1 1), wV ct g b, wS ct (g 5) (r 0), wS ct (g 6) (r 1), wS ct (g 7) (r 2), wS ct (g 8) (r 3), wS ct (g 9) (r 4), wS ct (g 10) (r 5), wT ct (g 11) tx, wL ct (g 12) y, wO ct (g 13) o, wR ct (g 14) x, wM ct am w hs, wQ ct qa u161.2.2]) (fun (u161 : Mem × (Nat → Mem) × (Nat → Int64)) => fl [wC ct g u161.1, wS ct (g 1) v, wS ct (g 2) (u161.2.1 0), wS ct (g 3) (u161.2.1 1), wV ct g b, wS ct (g 5) (r 0), wS ct (g 6) (r 1), wS ct (g 7) (r 2), wS ct (g 8) (r 3), wS ct (g 9) (r 4), wS ct (g 10) (r 5), wT ct (g 11) tx, wL ct (g 12) y, wO ct (g 13) o, wR ct (g 14) x, wM ct am w hs, wQ ct qa u161.2.2]) 17 [0, 1, 2, 3, 16] [4, 5, 6, 7, 8, 9, 10, 11, 12, 13, 14, 15] (kL_keep l hl9 D ct g qa kc v sl ou (xs (ix (x4 + 1))) _ hw) (vx_cwSW 3 X.1.2.2.2.2 gL_law_L_keep rfl rfl rfl (by decide +kernel) ⟨Nat.le_of_ble_eq_true rfl, Nat.le_of_ble_eq_true rfl⟩) dL_law_638 rfl rfl (Nat.le_of_ble_eq_true rfl) ⟨by show _ ≤ 601024; omega, by show _ ≤ 7293034; omega⟩ rfl rfl rfl (by decide) (fun _ => rfl) (fun _ => rfl) (fun _ => rfl) (fun _ => rfl) (fun r160 u161 hw => ?_)
                            obtain ⟨kc162, hkc162⟩ : ∃ z : Mem, z = u161.1 := ⟨_, rfl⟩
                            rw [← hkc162] at hw
                            rw [← hkc162]
                            obtain ⟨sl163, hsl163⟩ : ∃ z : Nat → Mem, z = u161.2.1 := ⟨_, rfl⟩
                            rw [← hsl163] at hw
                            rw [← hsl163]
                            obtain ⟨ou164, hou164⟩ : ∃ z : Nat → Int64, z = u161.2.2 := ⟨_, rfl⟩
                            rw [← hou164] at hw
                            rw [← hou164]
                            refine g_istore X [(5, .int r160), (0, .ref sb), (1, .ref (g 0 0)), (2, .ref (am 0)), (3, .ref (qa 0)), (4, .int x4)] dL_law_641 (by decide) rfl ?_
                            refine g_aload_n X 3 dL_law_643 rfl rfl ?_
                            refine g_aload_n X 1 dL_law_644 rfl rfl ?_
                            refine g_iload X 5 dL_law_645 rfl ?_
                            refine g_iconst (v := 1) X rfl dL_law_647 ?_
                            refine g_iadd X dL_law_648 ?_
                            obtain ⟨h165, hw⟩ := hw
                            refine g_sld X hX hbl hbA h165 dL_law_649 ?_
                            refine g_ciV X [wC ct g kc162, wS ct (g 1) v, wS ct (g 2) (sl163 0), wS ct (g 3) (sl163 1), wV ct g b, wS ct (g 5) (r 0), wS ct (g 6) (r 1), wS ct (g 7) (r 2), wS ct (g 8) (r 3), wS ct (g 9) (r 4), wS ct (g 10) (r 5), wT ct (g 11) tx, wL ct (g 12) y, wO ct (g 13) o, wR ct (g 14) x, wM ct am w hs, wQ ct qa ou164] (fun (u167 : Mem) => [wC ct g kc162, wS ct (g 1) v, wS ct (g 2) (sl163 0), wS ct (g 3) (sl163 1), wV ct g b, wS ct (g 5) (r 0), wS ct (g 6) (r 1), wS ct (g 7) (r 2), wS ct (g 8) (r 3), wS ct (g 9) (r 4), wS ct (g 10) (r 5), wT ct (g 11) tx, wL ct (g 12) y, wO ct (g 13) o, wR ct (g 14) x, wM ct am u167 hs, wQ ct qa ou164]) (fun (u167 : Mem) => fl [wC ct g kc162, wS ct (g 1) v, wS ct (g 2) (sl163 0), wS ct (g 3) (sl163 1), wV ct g b, wS ct (g 5) (r 0), wS ct (g 6) (r 1), wS ct (g 7) (r 2), wS ct (g 8) (r 3), wS ct (g 9) (r 4), wS ct (g 10) (r 5), wT ct (g 11) tx, wL ct (g 12) y, wO ct (g 13) o, wR ct (g 14) x, wM ct am u167 hs, wQ ct qa ou164]) 17 [15] [0, 1, 2, 3, 4, 5, 6, 7, 8, 9, 10, 11, 12, 13, 14, 16] 0 (kX8_keep l D ct am w hs (xs (ix (x4 + 1))) _ hw) (cwV 1 X.1.2.2.2.2 gL_law_X8_keep rfl rfl rfl (by decide +kernel) ⟨Nat.le_of_ble_eq_true rfl, Nat.le_of_ble_eq_true rfl⟩) dL_law_650 rfl rfl (Nat.le_of_ble_eq_true rfl) ⟨by show _ ≤ 601024; omega, by show _ ≤ 7293034; omega⟩ rfl rfl rfl (by decide) (fun _ => rfl) (fun _ => rfl) (fun _ => rfl) (fun _ => rfl) rfl rfl rfl (fun r166 u167 hw => ?_)
                            obtain ⟨w168, hw168⟩ : ∃ z : Mem, z = u167 := ⟨_, rfl⟩
                            rw [← hw168] at hw
                            rw [← hw168]
                            refine g_istore X [(6, .int r166), (5, .int r160), (0, .ref sb), (1, .ref (g 0 0)), (2, .ref (am 0)), (3, .ref (qa 0)), (4, .int x4)] dL_law_653 (by decide) rfl ?_
                            refine g_aload_n X 4 dL_law_655 rfl rfl ?_
                            refine g_ciV X [wC ct g kc162, wS ct (g 1) v, wS ct (g 2) (sl163 0), wS ct (g 3) (sl163 1), wV ct g b, wS ct (g 5) (r 0), wS ct (g 6) (r 1), wS ct (g 7) (r 2), wS ct (g 8) (r 3), wS ct (g 9) (r 4), wS ct (g 10) (r 5), wT ct (g 11) tx, wL ct (g 12) y, wO ct (g 13) o, wR ct (g 14) x, wM ct am w168 hs, wQ ct qa ou164] (fun (_ : Unit) => [wC ct g kc162, wS ct (g 1) v, wS ct (g 2) (sl163 0), wS ct (g 3) (sl163 1), wV ct g b, wS ct (g 5) (r 0), wS ct (g 6) (r 1), wS ct (g 7) (r 2), wS ct (g 8) (r 3), wS ct (g 9) (r 4), wS ct (g 10) (r 5), wT ct (g 11) tx, wL ct (g 12) y, wO ct (g 13) o, wR ct (g 14) x, wM ct am w168 hs, wQ ct qa ou164]) (fun _ => fl [wC ct g kc162, wS ct (g 1) v, wS ct (g 2) (sl163 0), wS ct (g 3) (sl163 1), wV ct g b, wS ct (g 5) (r 0), wS ct (g 6) (r 1), wS ct (g 7) (r 2), wS ct (g 8) (r 3), wS ct (g 9) (r 4), wS ct (g 10) (r 5), wT ct (g 11) tx, wL ct (g 12) y, wO ct (g 13) o, wR ct (g 14) x, wM ct am w168 hs, wQ ct qa ou164]) 17 [15] [0, 1, 2, 3, 4, 5, 6, 7, 8, 9, 10, 11, 12, 13, 14, 16] 0 (kX8_thrown l D ct am w168 hs _ hw) (cwV 0 X.1.2.2.2.2 gL_law_X8_thrown rfl rfl rfl (by decide +kernel) ⟨Nat.le_of_ble_eq_true rfl, Nat.le_of_ble_eq_true rfl⟩) dL_law_656 rfl rfl (Nat.le_of_ble_eq_true rfl) ⟨by show _ ≤ 601024; omega, by show _ ≤ 7293034; omega⟩ rfl rfl rfl (by decide) (fun _ => rfl) (fun _ => rfl) (fun _ => rfl) (fun _ => rfl) rfl rfl rfl (fun r169 _ hw => ?_)
                            refine g_iload X 1 dL_law_659 rfl ?_
                            refine g_icmp_eq X 666 dL_law_661 (by decide) (fun c171 => ?_) (fun c171 => ?_)
                            · replace hw := hw.1 c171
                              refine g_iload X 1 dL_law_666 rfl ?_
                              refine g_if_ne X 683 dL_law_668 (by decide) (fun c172 => ?_) (fun c172 => ?_)
                              · replace hw := hw.1 c172
                                refine g_goto X 1318 dL_law_683 (by decide) ?_
                                refine g_iinc X [(4, .int (x4 + 3)), (6, .int r166), (5, .int r160), (0, .ref sb), (1, .ref (g 0 0)), (2, .ref (am 0)), (3, .ref (qa 0))] 6 dL_law_1318 rfl rfl (by decide) rfl ?_
                                refine g_goto X 23 dL_law_1321 (by decide) ?_
                                refine g_sub [(0, .ref sb), (1, .ref (g 0 0)), (2, .ref (am 0)), (3, .ref (qa 0)), (4, .int (x4 + 3))] [3, 4, 5, 6, 0] rfl ?_
                                refine g_wide (k2 := 117 + (513 - n)) (j2 := 2344 + 6 * (513 - n)) (by omega) (by omega) ?_
                                exact ih (by omega) _ _ _ _ _ _ _ _ _ _ _ _ _ hw
                              · replace hw := hw.2 c172
                                refine g_aload_n X 5 dL_law_671 rfl rfl ?_
                                refine g_iconst (v := 0) X rfl dL_law_672 ?_
                                refine g_lald X 116 4 dL_law_673 rfl rfl (vp_in_nI (n := 0) (by decide) (by decide)) ?_
                                refine g_iload X 0 dL_law_674 rfl ?_
                                refine g_i2l X dL_law_676 ?_
                                refine g_lcmp X dL_law_677 ?_
                                refine g_if_eq X 683 dL_law_678 (by decide) (fun c173 => ?_) (fun c173 => ?_)
                                · replace hw := hw.1 c173
                                  refine g_goto X 1318 dL_law_683 (by decide) ?_
                                  refine g_iinc X [(4, .int (x4 + 3)), (6, .int r166), (5, .int r160), (0, .ref sb), (1, .ref (g 0 0)), (2, .ref (am 0)), (3, .ref (qa 0))] 6 dL_law_1318 rfl rfl (by decide) rfl ?_
                                  refine g_goto X 23 dL_law_1321 (by decide) ?_
                                  refine g_sub [(0, .ref sb), (1, .ref (g 0 0)), (2, .ref (am 0)), (3, .ref (qa 0)), (4, .int (x4 + 3))] [3, 4, 5, 6, 0] rfl ?_
                                  refine g_wide (k2 := 117 + (513 - n)) (j2 := 2344 + 6 * (513 - n)) (by omega) (by omega) ?_
                                  exact ih (by omega) _ _ _ _ _ _ _ _ _ _ _ _ _ hw
                                · replace hw := hw.2 c173
                                  refine g_iconst (v := 0) X rfl dL_law_681 ?_
                                  exact hw.elim
                            · replace hw := hw.2 c171
                              refine g_iconst (v := 0) X rfl dL_law_664 ?_
                              exact hw.elim
                          · replace hw := hw.2 c158
                            by_cases c174 : ((xs (ix x4)) &&& 31) = 11
                            · replace hw := hw.1 c174
                              refine g_tableIn X 686 dL_law_39 (by rw [c174]; decide) (by rw [c174]; decide) (by rw [c174]; rfl) (by decide) ?_
                              refine g_aload_n X 1 dL_law_686 rfl rfl ?_
                              refine g_aload_n X 0 dL_law_687 rfl rfl ?_
                              refine g_iload X 4 dL_law_688 rfl ?_
                              refine g_iconst (v := 1) X rfl dL_law_690 ?_
                              refine g_iadd X dL_law_691 ?_
                              obtain ⟨h175, hw⟩ := hw
                              refine g_sld X hX hbl hbA h175 dL_law_692 ?_
                              refine g_aload_n X 3 dL_law_693 rfl rfl ?_
                              refine g_chS X XX [wC ct g kc, wS ct (g 1) v, wS ct (g 2) (sl 0), wS ct (g 3) (sl 1), wV ct g b, wS ct (g 5) (r 0), wS ct (g 6) (r 1), wS ct (g 7) (r 2), wS ct (g 8) (r 3), wS ct (g 9) (r 4), wS ct (g 10) (r 5), wT ct (g 11) tx, wL ct (g 12) y, wO ct (g 13) o, wR ct (g 14) x, wM ct am w hs, wQ ct qa ou] (fun (u177 : Mem × Mem × (Nat → Mem) × (Nat → Int64)) => [wC ct g kc, wS ct (g 1) u177.1, wS ct (g 2) (sl 0), wS ct (g 3) (sl 1), wV ct g u177.2.1, wS ct (g 5) (u177.2.2.1 0), wS ct (g 6) (u177.2.2.1 1), wS ct (g 7) (u177.2.2.1 2), wS ct (g 8) (u177.2.2.1 3), wS ct (g 9) (u177.2.2.1 4), wS ct (g 10) (u177.2.2.1 5), wT ct (g 11) tx, wL ct (g 12) y, wO ct (g 13) o, wR ct (g 14) x, wM ct am w hs, wQ ct qa u177.2.2.2]) (fun (u177 : Mem × Mem × (Nat → Mem) × (Nat → Int64)) => fl [wC ct g kc, wS ct (g 1) u177.1, wS ct (g 2) (sl 0), wS ct (g 3) (sl 1), wV ct g u177.2.1, wS ct (g 5) (u177.2.2.1 0), wS ct (g 6) (u177.2.2.1 1), wS ct (g 7) (u177.2.2.1 2), wS ct (g 8) (u177.2.2.1 3), wS ct (g 9) (u177.2.2.1 4), wS ct (g 10) (u177.2.2.1 5), wT ct (g 11) tx, wL ct (g 12) y, wO ct (g 13) o, wR ct (g 14) x, wM ct am w hs, wQ ct qa u177.2.2.2]) 17 [0, 1, 2, 3, 4, 5, 6, 7, 8, 9, 10, 16] [11, 12, 13, 14, 15] (kL_goBack l hl9 D ct g qa kc v sl b r ou (xs (ix (x4 + 1))) _ hw) (vx_cwSW 3 X.1.2.2.2.2 gL_law_L_goBack rfl rfl rfl (by decide +kernel) ⟨Nat.le_of_ble_eq_true rfl, Nat.le_of_ble_eq_true rfl⟩) dL_law_694 rfl rfl (Nat.le_of_ble_eq_true rfl) ⟨by show _ ≤ 601024; omega, by show _ ≤ 7293034; omega⟩ rfl rfl rfl (by decide) (fun _ => rfl) (fun _ => rfl) (fun _ => rfl) (fun _ => rfl) (fun r176 u177 hw => ?_)
                              obtain ⟨v178, hv178⟩ : ∃ z : Mem, z = u177.1 := ⟨_, rfl⟩
                              rw [← hv178] at hw
                              rw [← hv178]
                              obtain ⟨b179, hb179⟩ : ∃ z : Mem, z = u177.2.1 := ⟨_, rfl⟩
                              rw [← hb179] at hw
                              rw [← hb179]
                              obtain ⟨r180, hr180⟩ : ∃ z : Nat → Mem, z = u177.2.2.1 := ⟨_, rfl⟩
                              rw [← hr180] at hw
                              rw [← hr180]
                              obtain ⟨ou181, hou181⟩ : ∃ z : Nat → Int64, z = u177.2.2.2 := ⟨_, rfl⟩
                              rw [← hou181] at hw
                              rw [← hou181]
                              refine g_istore X [(5, .int r176), (0, .ref sb), (1, .ref (g 0 0)), (2, .ref (am 0)), (3, .ref (qa 0)), (4, .int x4)] dL_law_697 (by decide) rfl ?_
                              refine g_aload_n X 3 dL_law_699 rfl rfl ?_
                              refine g_aload_n X 1 dL_law_700 rfl rfl ?_
                              refine g_iload X 5 dL_law_701 rfl ?_
                              refine g_iconst (v := 1) X rfl dL_law_703 ?_
                              refine g_iadd X dL_law_704 ?_
                              obtain ⟨h182, hw⟩ := hw
                              refine g_sld X hX hbl hbA h182 dL_law_705 ?_
                              refine g_ciV X [wC ct g kc, wS ct (g 1) v178, wS ct (g 2) (sl 0), wS ct (g 3) (sl 1), wV ct g b179, wS ct (g 5) (r180 0), wS ct (g 6) (r180 1), wS ct (g 7) (r180 2), wS ct (g 8) (r180 3), wS ct (g 9) (r180 4), wS ct (g 10) (r180 5), wT ct (g 11) tx, wL ct (g 12) y, wO ct (g 13) o, wR ct (g 14) x, wM ct am w hs, wQ ct qa ou181] (fun (u184 : Mem) => [wC ct g kc, wS ct (g 1) v178, wS ct (g 2) (sl 0), wS ct (g 3) (sl 1), wV ct g b179, wS ct (g 5) (r180 0), wS ct (g 6) (r180 1), wS ct (g 7) (r180 2), wS ct (g 8) (r180 3), wS ct (g 9) (r180 4), wS ct (g 10) (r180 5), wT ct (g 11) tx, wL ct (g 12) y, wO ct (g 13) o, wR ct (g 14) x, wM ct am u184 hs, wQ ct qa ou181]) (fun (u184 : Mem) => fl [wC ct g kc, wS ct (g 1) v178, wS ct (g 2) (sl 0), wS ct (g 3) (sl 1), wV ct g b179, wS ct (g 5) (r180 0), wS ct (g 6) (r180 1), wS ct (g 7) (r180 2), wS ct (g 8) (r180 3), wS ct (g 9) (r180 4), wS ct (g 10) (r180 5), wT ct (g 11) tx, wL ct (g 12) y, wO ct (g 13) o, wR ct (g 14) x, wM ct am u184 hs, wQ ct qa ou181]) 17 [15] [0, 1, 2, 3, 4, 5, 6, 7, 8, 9, 10, 11, 12, 13, 14, 16] 0 (kX8_goBack l D ct am w hs (xs (ix (x4 + 1))) _ hw) (cwV 1 X.1.2.2.2.2 gL_law_X8_goBack rfl rfl rfl (by decide +kernel) ⟨Nat.le_of_ble_eq_true rfl, Nat.le_of_ble_eq_true rfl⟩) dL_law_706 rfl rfl (Nat.le_of_ble_eq_true rfl) ⟨by show _ ≤ 601024; omega, by show _ ≤ 7293034; omega⟩ rfl rfl rfl (by decide) (fun _ => rfl) (fun _ => rfl) (fun _ => rfl) (fun _ => rfl) rfl rfl rfl (fun r183 u184 hw => ?_)
                              obtain ⟨w185, hw185⟩ : ∃ z : Mem, z = u184 := ⟨_, rfl⟩
                              rw [← hw185] at hw
                              rw [← hw185]
                              refine g_istore X [(6, .int r183), (5, .int r176), (0, .ref sb), (1, .ref (g 0 0)), (2, .ref (am 0)), (3, .ref (qa 0)), (4, .int x4)] dL_law_709 (by decide) rfl ?_
                              refine g_aload_n X 4 dL_law_711 rfl rfl ?_
                              refine g_ciV X [wC ct g kc, wS ct (g 1) v178, wS ct (g 2) (sl 0), wS ct (g 3) (sl 1), wV ct g b179, wS ct (g 5) (r180 0), wS ct (g 6) (r180 1), wS ct (g 7) (r180 2), wS ct (g 8) (r180 3), wS ct (g 9) (r180 4), wS ct (g 10) (r180 5), wT ct (g 11) tx, wL ct (g 12) y, wO ct (g 13) o, wR ct (g 14) x, wM ct am w185 hs, wQ ct qa ou181] (fun (_ : Unit) => [wC ct g kc, wS ct (g 1) v178, wS ct (g 2) (sl 0), wS ct (g 3) (sl 1), wV ct g b179, wS ct (g 5) (r180 0), wS ct (g 6) (r180 1), wS ct (g 7) (r180 2), wS ct (g 8) (r180 3), wS ct (g 9) (r180 4), wS ct (g 10) (r180 5), wT ct (g 11) tx, wL ct (g 12) y, wO ct (g 13) o, wR ct (g 14) x, wM ct am w185 hs, wQ ct qa ou181]) (fun _ => fl [wC ct g kc, wS ct (g 1) v178, wS ct (g 2) (sl 0), wS ct (g 3) (sl 1), wV ct g b179, wS ct (g 5) (r180 0), wS ct (g 6) (r180 1), wS ct (g 7) (r180 2), wS ct (g 8) (r180 3), wS ct (g 9) (r180 4), wS ct (g 10) (r180 5), wT ct (g 11) tx, wL ct (g 12) y, wO ct (g 13) o, wR ct (g 14) x, wM ct am w185 hs, wQ ct qa ou181]) 17 [15] [0, 1, 2, 3, 4, 5, 6, 7, 8, 9, 10, 11, 12, 13, 14, 16] 0 (kX8_thrown l D ct am w185 hs _ hw) (cwV 0 X.1.2.2.2.2 gL_law_X8_thrown rfl rfl rfl (by decide +kernel) ⟨Nat.le_of_ble_eq_true rfl, Nat.le_of_ble_eq_true rfl⟩) dL_law_712 rfl rfl (Nat.le_of_ble_eq_true rfl) ⟨by show _ ≤ 601024; omega, by show _ ≤ 7293034; omega⟩ rfl rfl rfl (by decide) (fun _ => rfl) (fun _ => rfl) (fun _ => rfl) (fun _ => rfl) rfl rfl rfl (fun r186 _ hw => ?_)
                              refine g_iload X 1 dL_law_715 rfl ?_
                              refine g_icmp_eq X 722 dL_law_717 (by decide) (fun c188 => ?_) (fun c188 => ?_)
                              · replace hw := hw.1 c188
                                refine g_iload X 1 dL_law_722 rfl ?_
                                refine g_if_ne X 739 dL_law_724 (by decide) (fun c189 => ?_) (fun c189 => ?_)
                                · replace hw := hw.1 c189
                                  refine g_goto X 1318 dL_law_739 (by decide) ?_
                                  refine g_iinc X [(4, .int (x4 + 3)), (6, .int r183), (5, .int r176), (0, .ref sb), (1, .ref (g 0 0)), (2, .ref (am 0)), (3, .ref (qa 0))] 6 dL_law_1318 rfl rfl (by decide) rfl ?_
                                  refine g_goto X 23 dL_law_1321 (by decide) ?_
                                  refine g_sub [(0, .ref sb), (1, .ref (g 0 0)), (2, .ref (am 0)), (3, .ref (qa 0)), (4, .int (x4 + 3))] [3, 4, 5, 6, 0] rfl ?_
                                  refine g_wide (k2 := 117 + (513 - n)) (j2 := 2344 + 6 * (513 - n)) (by omega) (by omega) ?_
                                  exact ih (by omega) _ _ _ _ _ _ _ _ _ _ _ _ _ hw
                                · replace hw := hw.2 c189
                                  refine g_aload_n X 5 dL_law_727 rfl rfl ?_
                                  refine g_iconst (v := 0) X rfl dL_law_728 ?_
                                  refine g_lald X 116 4 dL_law_729 rfl rfl (vp_in_nI (n := 0) (by decide) (by decide)) ?_
                                  refine g_iload X 0 dL_law_730 rfl ?_
                                  refine g_i2l X dL_law_732 ?_
                                  refine g_lcmp X dL_law_733 ?_
                                  refine g_if_eq X 739 dL_law_734 (by decide) (fun c190 => ?_) (fun c190 => ?_)
                                  · replace hw := hw.1 c190
                                    refine g_goto X 1318 dL_law_739 (by decide) ?_
                                    refine g_iinc X [(4, .int (x4 + 3)), (6, .int r183), (5, .int r176), (0, .ref sb), (1, .ref (g 0 0)), (2, .ref (am 0)), (3, .ref (qa 0))] 6 dL_law_1318 rfl rfl (by decide) rfl ?_
                                    refine g_goto X 23 dL_law_1321 (by decide) ?_
                                    refine g_sub [(0, .ref sb), (1, .ref (g 0 0)), (2, .ref (am 0)), (3, .ref (qa 0)), (4, .int (x4 + 3))] [3, 4, 5, 6, 0] rfl ?_
                                    refine g_wide (k2 := 117 + (513 - n)) (j2 := 2344 + 6 * (513 - n)) (by omega) (by omega) ?_
                                    exact ih (by omega) _ _ _ _ _ _ _ _ _ _ _ _ _ hw
                                  · replace hw := hw.2 c190
                                    refine g_iconst (v := 0) X rfl dL_law_737 ?_
                                    exact hw.elim
                              · replace hw := hw.2 c188
                                refine g_iconst (v := 0) X rfl dL_law_720 ?_
                                exact hw.elim
                            · replace hw := hw.2 c174
                              by_cases c191 : ((xs (ix x4)) &&& 31) = 12
                              · replace hw := hw.1 c191
                                refine g_tableIn X 742 dL_law_39 (by rw [c191]; decide) (by rw [c191]; decide) (by rw [c191]; rfl) (by decide) ?_
                                refine g_aload_n X 1 dL_law_742 rfl rfl ?_
                                refine g_aload_n X 3 dL_law_743 rfl rfl ?_
                                refine g_chS X XX [wC ct g kc, wS ct (g 1) v, wS ct (g 2) (sl 0), wS ct (g 3) (sl 1), wV ct g b, wS ct (g 5) (r 0), wS ct (g 6) (r 1), wS ct (g 7) (r 2), wS ct (g 8) (r 3), wS ct (g 9) (r 4), wS ct (g 10) (r 5), wT ct (g 11) tx, wL ct (g 12) y, wO ct (g 13) o, wR ct (g 14) x, wM ct am w hs, wQ ct qa ou] (fun (u193 : Mem × Mem × (Nat → Int64)) => [wC ct g kc, wS ct (g 1) u193.1, wS ct (g 2) (sl 0), wS ct (g 3) (sl 1), wV ct g u193.2.1, wS ct (g 5) (r 0), wS ct (g 6) (r 1), wS ct (g 7) (r 2), wS ct (g 8) (r 3), wS ct (g 9) (r 4), wS ct (g 10) (r 5), wT ct (g 11) tx, wL ct (g 12) y, wO ct (g 13) o, wR ct (g 14) x, wM ct am w hs, wQ ct qa u193.2.2]) (fun (u193 : Mem × Mem × (Nat → Int64)) => fl [wC ct g kc, wS ct (g 1) u193.1, wS ct (g 2) (sl 0), wS ct (g 3) (sl 1), wV ct g u193.2.1, wS ct (g 5) (r 0), wS ct (g 6) (r 1), wS ct (g 7) (r 2), wS ct (g 8) (r 3), wS ct (g 9) (r 4), wS ct (g 10) (r 5), wT ct (g 11) tx, wL ct (g 12) y, wO ct (g 13) o, wR ct (g 14) x, wM ct am w hs, wQ ct qa u193.2.2]) 17 [0, 1, 4, 5, 6, 7, 8, 9, 10, 16] [2, 3, 11, 12, 13, 14, 15] (kL_undo l hl9 D ct g qa kc v b r ou _ hw) (vx_cwSW 2 X.1.2.2.2.2 gL_law_L_undo rfl rfl rfl (by decide +kernel) ⟨Nat.le_of_ble_eq_true rfl, Nat.le_of_ble_eq_true rfl⟩) dL_law_744 rfl rfl (Nat.le_of_ble_eq_true rfl) ⟨by show _ ≤ 601024; omega, by show _ ≤ 7293034; omega⟩ rfl rfl rfl (by decide) (fun _ => rfl) (fun _ => rfl) (fun _ => rfl) (fun _ => rfl) (fun r192 u193 hw => ?_)
                                obtain ⟨v194, hv194⟩ : ∃ z : Mem, z = u193.1 := ⟨_, rfl⟩
                                rw [← hv194] at hw
                                rw [← hv194]
                                obtain ⟨b195, hb195⟩ : ∃ z : Mem, z = u193.2.1 := ⟨_, rfl⟩
                                rw [← hb195] at hw
                                rw [← hb195]
                                obtain ⟨ou196, hou196⟩ : ∃ z : Nat → Int64, z = u193.2.2 := ⟨_, rfl⟩
                                rw [← hou196] at hw
                                rw [← hou196]
                                refine g_istore X [(5, .int r192), (0, .ref sb), (1, .ref (g 0 0)), (2, .ref (am 0)), (3, .ref (qa 0)), (4, .int x4)] dL_law_747 (by decide) rfl ?_
                                refine g_aload_n X 3 dL_law_749 rfl rfl ?_
                                refine g_ciV X [wC ct g kc, wS ct (g 1) v194, wS ct (g 2) (sl 0), wS ct (g 3) (sl 1), wV ct g b195, wS ct (g 5) (r 0), wS ct (g 6) (r 1), wS ct (g 7) (r 2), wS ct (g 8) (r 3), wS ct (g 9) (r 4), wS ct (g 10) (r 5), wT ct (g 11) tx, wL ct (g 12) y, wO ct (g 13) o, wR ct (g 14) x, wM ct am w hs, wQ ct qa ou196] (fun (u198 : Mem) => [wC ct g kc, wS ct (g 1) v194, wS ct (g 2) (sl 0), wS ct (g 3) (sl 1), wV ct g b195, wS ct (g 5) (r 0), wS ct (g 6) (r 1), wS ct (g 7) (r 2), wS ct (g 8) (r 3), wS ct (g 9) (r 4), wS ct (g 10) (r 5), wT ct (g 11) tx, wL ct (g 12) y, wO ct (g 13) o, wR ct (g 14) x, wM ct am u198 hs, wQ ct qa ou196]) (fun (u198 : Mem) => fl [wC ct g kc, wS ct (g 1) v194, wS ct (g 2) (sl 0), wS ct (g 3) (sl 1), wV ct g b195, wS ct (g 5) (r 0), wS ct (g 6) (r 1), wS ct (g 7) (r 2), wS ct (g 8) (r 3), wS ct (g 9) (r 4), wS ct (g 10) (r 5), wT ct (g 11) tx, wL ct (g 12) y, wO ct (g 13) o, wR ct (g 14) x, wM ct am u198 hs, wQ ct qa ou196]) 17 [15] [0, 1, 2, 3, 4, 5, 6, 7, 8, 9, 10, 11, 12, 13, 14, 16] 0 (kX8_undo l D ct am w hs _ hw) (cwV 0 X.1.2.2.2.2 gL_law_X8_undo rfl rfl rfl (by decide +kernel) ⟨Nat.le_of_ble_eq_true rfl, Nat.le_of_ble_eq_true rfl⟩) dL_law_750 rfl rfl (Nat.le_of_ble_eq_true rfl) ⟨by show _ ≤ 601024; omega, by show _ ≤ 7293034; omega⟩ rfl rfl rfl (by decide) (fun _ => rfl) (fun _ => rfl) (fun _ => rfl) (fun _ => rfl) rfl rfl rfl (fun r197 u198 hw => ?_)
                                obtain ⟨w199, hw199⟩ : ∃ z : Mem, z = u198 := ⟨_, rfl⟩
                                rw [← hw199] at hw
                                rw [← hw199]
                                refine g_istore X [(6, .int r197), (5, .int r192), (0, .ref sb), (1, .ref (g 0 0)), (2, .ref (am 0)), (3, .ref (qa 0)), (4, .int x4)] dL_law_753 (by decide) rfl ?_
                                refine g_aload_n X 4 dL_law_755 rfl rfl ?_
                                refine g_ciV X [wC ct g kc, wS ct (g 1) v194, wS ct (g 2) (sl 0), wS ct (g 3) (sl 1), wV ct g b195, wS ct (g 5) (r 0), wS ct (g 6) (r 1), wS ct (g 7) (r 2), wS ct (g 8) (r 3), wS ct (g 9) (r 4), wS ct (g 10) (r 5), wT ct (g 11) tx, wL ct (g 12) y, wO ct (g 13) o, wR ct (g 14) x, wM ct am w199 hs, wQ ct qa ou196] (fun (_ : Unit) => [wC ct g kc, wS ct (g 1) v194, wS ct (g 2) (sl 0), wS ct (g 3) (sl 1), wV ct g b195, wS ct (g 5) (r 0), wS ct (g 6) (r 1), wS ct (g 7) (r 2), wS ct (g 8) (r 3), wS ct (g 9) (r 4), wS ct (g 10) (r 5), wT ct (g 11) tx, wL ct (g 12) y, wO ct (g 13) o, wR ct (g 14) x, wM ct am w199 hs, wQ ct qa ou196]) (fun _ => fl [wC ct g kc, wS ct (g 1) v194, wS ct (g 2) (sl 0), wS ct (g 3) (sl 1), wV ct g b195, wS ct (g 5) (r 0), wS ct (g 6) (r 1), wS ct (g 7) (r 2), wS ct (g 8) (r 3), wS ct (g 9) (r 4), wS ct (g 10) (r 5), wT ct (g 11) tx, wL ct (g 12) y, wO ct (g 13) o, wR ct (g 14) x, wM ct am w199 hs, wQ ct qa ou196]) 17 [15] [0, 1, 2, 3, 4, 5, 6, 7, 8, 9, 10, 11, 12, 13, 14, 16] 0 (kX8_thrown l D ct am w199 hs _ hw) (cwV 0 X.1.2.2.2.2 gL_law_X8_thrown rfl rfl rfl (by decide +kernel) ⟨Nat.le_of_ble_eq_true rfl, Nat.le_of_ble_eq_true rfl⟩) dL_law_756 rfl rfl (Nat.le_of_ble_eq_true rfl) ⟨by show _ ≤ 601024; omega, by show _ ≤ 7293034; omega⟩ rfl rfl rfl (by decide) (fun _ => rfl) (fun _ => rfl) (fun _ => rfl) (fun _ => rfl) rfl rfl rfl (fun r200 _ hw => ?_)
                                refine g_iload X 1 dL_law_759 rfl ?_
                                refine g_icmp_eq X 766 dL_law_761 (by decide) (fun c202 => ?_) (fun c202 => ?_)
                                · replace hw := hw.1 c202
                                  refine g_iload X 1 dL_law_766 rfl ?_
                                  refine g_if_ne X 783 dL_law_768 (by decide) (fun c203 => ?_) (fun c203 => ?_)
                                  · replace hw := hw.1 c203
                                    refine g_goto X 1318 dL_law_783 (by decide) ?_
                                    refine g_iinc X [(4, .int (x4 + 3)), (6, .int r197), (5, .int r192), (0, .ref sb), (1, .ref (g 0 0)), (2, .ref (am 0)), (3, .ref (qa 0))] 6 dL_law_1318 rfl rfl (by decide) rfl ?_
                                    refine g_goto X 23 dL_law_1321 (by decide) ?_
                                    refine g_sub [(0, .ref sb), (1, .ref (g 0 0)), (2, .ref (am 0)), (3, .ref (qa 0)), (4, .int (x4 + 3))] [3, 4, 5, 6, 0] rfl ?_
                                    refine g_wide (k2 := 117 + (513 - n)) (j2 := 2344 + 6 * (513 - n)) (by omega) (by omega) ?_
                                    exact ih (by omega) _ _ _ _ _ _ _ _ _ _ _ _ _ hw
                                  · replace hw := hw.2 c203
                                    refine g_aload_n X 5 dL_law_771 rfl rfl ?_
                                    refine g_iconst (v := 0) X rfl dL_law_772 ?_
                                    refine g_lald X 116 4 dL_law_773 rfl rfl (vp_in_nI (n := 0) (by decide) (by decide)) ?_
                                    refine g_iload X 0 dL_law_774 rfl ?_
                                    refine g_i2l X dL_law_776 ?_
                                    refine g_lcmp X dL_law_777 ?_
                                    refine g_if_eq X 783 dL_law_778 (by decide) (fun c204 => ?_) (fun c204 => ?_)
                                    · replace hw := hw.1 c204
                                      refine g_goto X 1318 dL_law_783 (by decide) ?_
                                      refine g_iinc X [(4, .int (x4 + 3)), (6, .int r197), (5, .int r192), (0, .ref sb), (1, .ref (g 0 0)), (2, .ref (am 0)), (3, .ref (qa 0))] 6 dL_law_1318 rfl rfl (by decide) rfl ?_
                                      refine g_goto X 23 dL_law_1321 (by decide) ?_
                                      refine g_sub [(0, .ref sb), (1, .ref (g 0 0)), (2, .ref (am 0)), (3, .ref (qa 0)), (4, .int (x4 + 3))] [3, 4, 5, 6, 0] rfl ?_
                                      refine g_wide (k2 := 117 + (513 - n)) (j2 := 2344 + 6 * (513 - n)) (by omega) (by omega) ?_
                                      exact ih (by omega) _ _ _ _ _ _ _ _ _ _ _ _ _ hw
                                    · replace hw := hw.2 c204
                                      refine g_iconst (v := 0) X rfl dL_law_781 ?_
                                      exact hw.elim
                                · replace hw := hw.2 c202
                                  refine g_iconst (v := 0) X rfl dL_law_764 ?_
                                  exact hw.elim
                              · replace hw := hw.2 c191
                                by_cases c205 : ((xs (ix x4)) &&& 31) = 13
                                · replace hw := hw.1 c205
                                  refine g_tableIn X 786 dL_law_39 (by rw [c205]; decide) (by rw [c205]; decide) (by rw [c205]; rfl) (by decide) ?_
                                  refine g_aload_n X 1 dL_law_786 rfl rfl ?_
                                  refine g_aload_n X 0 dL_law_787 rfl rfl ?_
                                  refine g_iload X 4 dL_law_788 rfl ?_
                                  refine g_iconst (v := 1) X rfl dL_law_790 ?_
                                  refine g_iadd X dL_law_791 ?_
                                  obtain ⟨h206, hw⟩ := hw
                                  refine g_sld X hX hbl hbA h206 dL_law_792 ?_
                                  refine g_aload_n X 0 dL_law_793 rfl rfl ?_
                                  refine g_iload X 4 dL_law_794 rfl ?_
                                  refine g_iconst (v := 2) X rfl dL_law_796 ?_
                                  refine g_iadd X dL_law_797 ?_
                                  obtain ⟨h207, hw⟩ := hw
                                  refine g_sld X hX hbl hbA h207 dL_law_798 ?_
                                  refine g_aload_n X 3 dL_law_799 rfl rfl ?_
                                  refine g_chS X XX [wC ct g kc, wS ct (g 1) v, wS ct (g 2) (sl 0), wS ct (g 3) (sl 1), wV ct g b, wS ct (g 5) (r 0), wS ct (g 6) (r 1), wS ct (g 7) (r 2), wS ct (g 8) (r 3), wS ct (g 9) (r 4), wS ct (g 10) (r 5), wT ct (g 11) tx, wL ct (g 12) y, wO ct (g 13) o, wR ct (g 14) x, wM ct am w hs, wQ ct qa ou] (fun (u209 : (Nat → Int64)) => [wC ct g kc, wS ct (g 1) v, wS ct (g 2) (sl 0), wS ct (g 3) (sl 1), wV ct g b, wS ct (g 5) (r 0), wS ct (g 6) (r 1), wS ct (g 7) (r 2), wS ct (g 8) (r 3), wS ct (g 9) (r 4), wS ct (g 10) (r 5), wT ct (g 11) tx, wL ct (g 12) y, wO ct (g 13) o, wR ct (g 14) x, wM ct am w hs, wQ ct qa u209]) (fun (u209 : (Nat → Int64)) => fl [wC ct g kc, wS ct (g 1) v, wS ct (g 2) (sl 0), wS ct (g 3) (sl 1), wV ct g b, wS ct (g 5) (r 0), wS ct (g 6) (r 1), wS ct (g 7) (r 2), wS ct (g 8) (r 3), wS ct (g 9) (r 4), wS ct (g 10) (r 5), wT ct (g 11) tx, wL ct (g 12) y, wO ct (g 13) o, wR ct (g 14) x, wM ct am w hs, wQ ct qa u209]) 17 [0, 1, 16] [2, 3, 4, 5, 6, 7, 8, 9, 10, 11, 12, 13, 14, 15] (kL_personOf l hl9 D ct g qa kc v ou (xs (ix (x4 + 1))) (xs (ix (x4 + 2))) _ hw) (vx_cwSW 4 X.1.2.2.2.2 gL_law_L_personOf rfl rfl rfl (by decide +kernel) ⟨Nat.le_of_ble_eq_true rfl, Nat.le_of_ble_eq_true rfl⟩) dL_law_800 rfl rfl (Nat.le_of_ble_eq_true rfl) ⟨by show _ ≤ 601024; omega, by show _ ≤ 7293034; omega⟩ rfl rfl rfl (by decide) (fun _ => rfl) (fun _ => rfl) (fun _ => rfl) (fun _ => rfl) (fun r208 u209 hw => ?_)
                                  obtain ⟨ou210, hou210⟩ : ∃ z : Nat → Int64, z = u209 := ⟨_, rfl⟩
                                  rw [← hou210] at hw
                                  rw [← hou210]
                                  refine g_istore X [(5, .int r208), (0, .ref sb), (1, .ref (g 0 0)), (2, .ref (am 0)), (3, .ref (qa 0)), (4, .int x4)] dL_law_803 (by decide) rfl ?_
                                  refine g_aload_n X 3 dL_law_805 rfl rfl ?_
                                  refine g_aload_n X 1 dL_law_806 rfl rfl ?_
                                  refine g_iload X 5 dL_law_807 rfl ?_
                                  refine g_iconst (v := 1) X rfl dL_law_809 ?_
                                  refine g_iadd X dL_law_810 ?_
                                  obtain ⟨h211, hw⟩ := hw
                                  refine g_sld X hX hbl hbA h211 dL_law_811 ?_
                                  refine g_aload_n X 1 dL_law_812 rfl rfl ?_
                                  refine g_iload X 5 dL_law_813 rfl ?_
                                  refine g_iconst (v := 2) X rfl dL_law_815 ?_
                                  refine g_iadd X dL_law_816 ?_
                                  obtain ⟨h212, hw⟩ := hw
                                  refine g_sld X hX hbl hbA h212 dL_law_817 ?_
                                  refine g_ciV X [wC ct g kc, wS ct (g 1) v, wS ct (g 2) (sl 0), wS ct (g 3) (sl 1), wV ct g b, wS ct (g 5) (r 0), wS ct (g 6) (r 1), wS ct (g 7) (r 2), wS ct (g 8) (r 3), wS ct (g 9) (r 4), wS ct (g 10) (r 5), wT ct (g 11) tx, wL ct (g 12) y, wO ct (g 13) o, wR ct (g 14) x, wM ct am w hs, wQ ct qa ou210] (fun (u214 : Mem) => [wC ct g kc, wS ct (g 1) v, wS ct (g 2) (sl 0), wS ct (g 3) (sl 1), wV ct g b, wS ct (g 5) (r 0), wS ct (g 6) (r 1), wS ct (g 7) (r 2), wS ct (g 8) (r 3), wS ct (g 9) (r 4), wS ct (g 10) (r 5), wT ct (g 11) tx, wL ct (g 12) y, wO ct (g 13) o, wR ct (g 14) x, wM ct am u214 hs, wQ ct qa ou210]) (fun (u214 : Mem) => fl [wC ct g kc, wS ct (g 1) v, wS ct (g 2) (sl 0), wS ct (g 3) (sl 1), wV ct g b, wS ct (g 5) (r 0), wS ct (g 6) (r 1), wS ct (g 7) (r 2), wS ct (g 8) (r 3), wS ct (g 9) (r 4), wS ct (g 10) (r 5), wT ct (g 11) tx, wL ct (g 12) y, wO ct (g 13) o, wR ct (g 14) x, wM ct am u214 hs, wQ ct qa ou210]) 17 [15] [0, 1, 2, 3, 4, 5, 6, 7, 8, 9, 10, 11, 12, 13, 14, 16] 0 (kX8_personOf l D ct am w hs (xs (ix (x4 + 1))) (xs (ix (x4 + 2))) _ hw) (cwV 2 X.1.2.2.2.2 gL_law_X8_personOf rfl rfl rfl (by decide +kernel) ⟨Nat.le_of_ble_eq_true rfl, Nat.le_of_ble_eq_true rfl⟩) dL_law_818 rfl rfl (Nat.le_of_ble_eq_true rfl) ⟨by show _ ≤ 601024; omega, by show _ ≤ 7293034; omega⟩ rfl rfl rfl (by decide) (fun _ => rfl) (fun _ => rfl) (fun _ => rfl) (fun _ => rfl) rfl rfl rfl (fun r213 u214 hw => ?_)
                                  obtain ⟨w215, hw215⟩ : ∃ z : Mem, z = u214 := ⟨_, rfl⟩
                                  rw [← hw215] at hw
                                  rw [← hw215]
                                  refine g_istore X [(6, .int r213), (5, .int r208), (0, .ref sb), (1, .ref (g 0 0)), (2, .ref (am 0)), (3, .ref (qa 0)), (4, .int x4)] dL_law_821 (by decide) rfl ?_
                                  refine g_aload_n X 4 dL_law_823 rfl rfl ?_
                                  refine g_ciV X [wC ct g kc, wS ct (g 1) v, wS ct (g 2) (sl 0), wS ct (g 3) (sl 1), wV ct g b, wS ct (g 5) (r 0), wS ct (g 6) (r 1), wS ct (g 7) (r 2), wS ct (g 8) (r 3), wS ct (g 9) (r 4), wS ct (g 10) (r 5), wT ct (g 11) tx, wL ct (g 12) y, wO ct (g 13) o, wR ct (g 14) x, wM ct am w215 hs, wQ ct qa ou210] (fun (_ : Unit) => [wC ct g kc, wS ct (g 1) v, wS ct (g 2) (sl 0), wS ct (g 3) (sl 1), wV ct g b, wS ct (g 5) (r 0), wS ct (g 6) (r 1), wS ct (g 7) (r 2), wS ct (g 8) (r 3), wS ct (g 9) (r 4), wS ct (g 10) (r 5), wT ct (g 11) tx, wL ct (g 12) y, wO ct (g 13) o, wR ct (g 14) x, wM ct am w215 hs, wQ ct qa ou210]) (fun _ => fl [wC ct g kc, wS ct (g 1) v, wS ct (g 2) (sl 0), wS ct (g 3) (sl 1), wV ct g b, wS ct (g 5) (r 0), wS ct (g 6) (r 1), wS ct (g 7) (r 2), wS ct (g 8) (r 3), wS ct (g 9) (r 4), wS ct (g 10) (r 5), wT ct (g 11) tx, wL ct (g 12) y, wO ct (g 13) o, wR ct (g 14) x, wM ct am w215 hs, wQ ct qa ou210]) 17 [15] [0, 1, 2, 3, 4, 5, 6, 7, 8, 9, 10, 11, 12, 13, 14, 16] 0 (kX8_thrown l D ct am w215 hs _ hw) (cwV 0 X.1.2.2.2.2 gL_law_X8_thrown rfl rfl rfl (by decide +kernel) ⟨Nat.le_of_ble_eq_true rfl, Nat.le_of_ble_eq_true rfl⟩) dL_law_824 rfl rfl (Nat.le_of_ble_eq_true rfl) ⟨by show _ ≤ 601024; omega, by show _ ≤ 7293034; omega⟩ rfl rfl rfl (by decide) (fun _ => rfl) (fun _ => rfl) (fun _ => rfl) (fun _ => rfl) rfl rfl rfl (fun r216 _ hw => ?_)
                                  refine g_iload X 1 dL_law_827 rfl ?_
                                  refine g_icmp_eq X 834 dL_law_829 (by decide) (fun c218 => ?_) (fun c218 => ?_)
                                  · replace hw := hw.1 c218
                                    refine g_iload X 1 dL_law_834 rfl ?_
                                    refine g_if_ne X 851 dL_law_836 (by decide) (fun c219 => ?_) (fun c219 => ?_)
                                    · replace hw := hw.1 c219
                                      refine g_goto X 1318 dL_law_851 (by decide) ?_
                                      refine g_iinc X [(4, .int (x4 + 3)), (6, .int r213), (5, .int r208), (0, .ref sb), (1, .ref (g 0 0)), (2, .ref (am 0)), (3, .ref (qa 0))] 6 dL_law_1318 rfl rfl (by decide) rfl ?_
                                      refine g_goto X 23 dL_law_1321 (by decide) ?_
                                      refine g_sub [(0, .ref sb), (1, .ref (g 0 0)), (2, .ref (am 0)), (3, .ref (qa 0)), (4, .int (x4 + 3))] [3, 4, 5, 6, 0] rfl ?_
                                      refine g_wide (k2 := 117 + (513 - n)) (j2 := 2344 + 6 * (513 - n)) (by omega) (by omega) ?_
                                      exact ih (by omega) _ _ _ _ _ _ _ _ _ _ _ _ _ hw
                                    · replace hw := hw.2 c219
                                      refine g_aload_n X 5 dL_law_839 rfl rfl ?_
                                      refine g_iconst (v := 0) X rfl dL_law_840 ?_
                                      refine g_lald X 116 4 dL_law_841 rfl rfl (vp_in_nI (n := 0) (by decide) (by decide)) ?_
                                      refine g_iload X 0 dL_law_842 rfl ?_
                                      refine g_i2l X dL_law_844 ?_
                                      refine g_lcmp X dL_law_845 ?_
                                      refine g_if_eq X 851 dL_law_846 (by decide) (fun c220 => ?_) (fun c220 => ?_)
                                      · replace hw := hw.1 c220
                                        refine g_goto X 1318 dL_law_851 (by decide) ?_
                                        refine g_iinc X [(4, .int (x4 + 3)), (6, .int r213), (5, .int r208), (0, .ref sb), (1, .ref (g 0 0)), (2, .ref (am 0)), (3, .ref (qa 0))] 6 dL_law_1318 rfl rfl (by decide) rfl ?_
                                        refine g_goto X 23 dL_law_1321 (by decide) ?_
                                        refine g_sub [(0, .ref sb), (1, .ref (g 0 0)), (2, .ref (am 0)), (3, .ref (qa 0)), (4, .int (x4 + 3))] [3, 4, 5, 6, 0] rfl ?_
                                        refine g_wide (k2 := 117 + (513 - n)) (j2 := 2344 + 6 * (513 - n)) (by omega) (by omega) ?_
                                        exact ih (by omega) _ _ _ _ _ _ _ _ _ _ _ _ _ hw
                                      · replace hw := hw.2 c220
                                        refine g_iconst (v := 0) X rfl dL_law_849 ?_
                                        exact hw.elim
                                  · replace hw := hw.2 c218
                                    refine g_iconst (v := 0) X rfl dL_law_832 ?_
                                    exact hw.elim
                                · replace hw := hw.2 c205
                                  by_cases c221 : ((xs (ix x4)) &&& 31) = 14
                                  · replace hw := hw.1 c221
                                    refine g_tableIn X 854 dL_law_39 (by rw [c221]; decide) (by rw [c221]; decide) (by rw [c221]; rfl) (by decide) ?_
                                    refine g_aload_n X 1 dL_law_854 rfl rfl ?_
                                    refine g_aload_n X 0 dL_law_855 rfl rfl ?_
                                    refine g_iload X 4 dL_law_856 rfl ?_
                                    refine g_iconst (v := 1) X rfl dL_law_858 ?_
                                    refine g_iadd X dL_law_859 ?_
                                    obtain ⟨h222, hw⟩ := hw
                                    refine g_sld X hX hbl hbA h222 dL_law_860 ?_
                                    refine g_aload_n X 0 dL_law_861 rfl rfl ?_
                                    refine g_iload X 4 dL_law_862 rfl ?_
                                    refine g_iconst (v := 2) X rfl dL_law_864 ?_
                                    refine g_iadd X dL_law_865 ?_
                                    obtain ⟨h223, hw⟩ := hw
                                    refine g_sld X hX hbl hbA h223 dL_law_866 ?_
                                    refine g_aload_n X 3 dL_law_867 rfl rfl ?_
                                    refine g_chS X XX [wC ct g kc, wS ct (g 1) v, wS ct (g 2) (sl 0), wS ct (g 3) (sl 1), wV ct g b, wS ct (g 5) (r 0), wS ct (g 6) (r 1), wS ct (g 7) (r 2), wS ct (g 8) (r 3), wS ct (g 9) (r 4), wS ct (g 10) (r 5), wT ct (g 11) tx, wL ct (g 12) y, wO ct (g 13) o, wR ct (g 14) x, wM ct am w hs, wQ ct qa ou] (fun (u225 : (Nat → Int64)) => [wC ct g kc, wS ct (g 1) v, wS ct (g 2) (sl 0), wS ct (g 3) (sl 1), wV ct g b, wS ct (g 5) (r 0), wS ct (g 6) (r 1), wS ct (g 7) (r 2), wS ct (g 8) (r 3), wS ct (g 9) (r 4), wS ct (g 10) (r 5), wT ct (g 11) tx, wL ct (g 12) y, wO ct (g 13) o, wR ct (g 14) x, wM ct am w hs, wQ ct qa u225]) (fun (u225 : (Nat → Int64)) => fl [wC ct g kc, wS ct (g 1) v, wS ct (g 2) (sl 0), wS ct (g 3) (sl 1), wV ct g b, wS ct (g 5) (r 0), wS ct (g 6) (r 1), wS ct (g 7) (r 2), wS ct (g 8) (r 3), wS ct (g 9) (r 4), wS ct (g 10) (r 5), wT ct (g 11) tx, wL ct (g 12) y, wO ct (g 13) o, wR ct (g 14) x, wM ct am w hs, wQ ct qa u225]) 17 [0, 1, 16] [2, 3, 4, 5, 6, 7, 8, 9, 10, 11, 12, 13, 14, 15] (kL_coupleOf l hl9 D ct g qa kc v ou (xs (ix (x4 + 1))) (xs (ix (x4 + 2))) _ hw) (vx_cwSW 4 X.1.2.2.2.2 gL_law_L_coupleOf rfl rfl rfl (by decide +kernel) ⟨Nat.le_of_ble_eq_true rfl, Nat.le_of_ble_eq_true rfl⟩) dL_law_868 rfl rfl (Nat.le_of_ble_eq_true rfl) ⟨by show _ ≤ 601024; omega, by show _ ≤ 7293034; omega⟩ rfl rfl rfl (by decide) (fun _ => rfl) (fun _ => rfl) (fun _ => rfl) (fun _ => rfl) (fun r224 u225 hw => ?_)
                                    obtain ⟨ou226, hou226⟩ : ∃ z : Nat → Int64, z = u225 := ⟨_, rfl⟩
                                    rw [← hou226] at hw
                                    rw [← hou226]
                                    refine g_istore X [(5, .int r224), (0, .ref sb), (1, .ref (g 0 0)), (2, .ref (am 0)), (3, .ref (qa 0)), (4, .int x4)] dL_law_871 (by decide) rfl ?_
                                    refine g_aload_n X 3 dL_law_873 rfl rfl ?_
                                    refine g_aload_n X 1 dL_law_874 rfl rfl ?_
                                    refine g_iload X 5 dL_law_875 rfl ?_
                                    refine g_iconst (v := 1) X rfl dL_law_877 ?_
                                    refine g_iadd X dL_law_878 ?_
                                    obtain ⟨h227, hw⟩ := hw
                                    refine g_sld X hX hbl hbA h227 dL_law_879 ?_
                                    refine g_aload_n X 1 dL_law_880 rfl rfl ?_
                                    refine g_iload X 5 dL_law_881 rfl ?_
                                    refine g_iconst (v := 2) X rfl dL_law_883 ?_
                                    refine g_iadd X dL_law_884 ?_
                                    obtain ⟨h228, hw⟩ := hw
                                    refine g_sld X hX hbl hbA h228 dL_law_885 ?_
                                    refine g_ciV X [wC ct g kc, wS ct (g 1) v, wS ct (g 2) (sl 0), wS ct (g 3) (sl 1), wV ct g b, wS ct (g 5) (r 0), wS ct (g 6) (r 1), wS ct (g 7) (r 2), wS ct (g 8) (r 3), wS ct (g 9) (r 4), wS ct (g 10) (r 5), wT ct (g 11) tx, wL ct (g 12) y, wO ct (g 13) o, wR ct (g 14) x, wM ct am w hs, wQ ct qa ou226] (fun (u230 : Mem) => [wC ct g kc, wS ct (g 1) v, wS ct (g 2) (sl 0), wS ct (g 3) (sl 1), wV ct g b, wS ct (g 5) (r 0), wS ct (g 6) (r 1), wS ct (g 7) (r 2), wS ct (g 8) (r 3), wS ct (g 9) (r 4), wS ct (g 10) (r 5), wT ct (g 11) tx, wL ct (g 12) y, wO ct (g 13) o, wR ct (g 14) x, wM ct am u230 hs, wQ ct qa ou226]) (fun (u230 : Mem) => fl [wC ct g kc, wS ct (g 1) v, wS ct (g 2) (sl 0), wS ct (g 3) (sl 1), wV ct g b, wS ct (g 5) (r 0), wS ct (g 6) (r 1), wS ct (g 7) (r 2), wS ct (g 8) (r 3), wS ct (g 9) (r 4), wS ct (g 10) (r 5), wT ct (g 11) tx, wL ct (g 12) y, wO ct (g 13) o, wR ct (g 14) x, wM ct am u230 hs, wQ ct qa ou226]) 17 [15] [0, 1, 2, 3, 4, 5, 6, 7, 8, 9, 10, 11, 12, 13, 14, 16] 0 (kX8_coupleOf l D ct am w hs (xs (ix (x4 + 1))) (xs (ix (x4 + 2))) _ hw) (cwV 2 X.1.2.2.2.2 gL_law_X8_coupleOf rfl rfl rfl (by decide +kernel) ⟨Nat.le_of_ble_eq_true rfl, Nat.le_of_ble_eq_true rfl⟩) dL_law_886 rfl rfl (Nat.le_of_ble_eq_true rfl) ⟨by show _ ≤ 601024; omega, by show _ ≤ 7293034; omega⟩ rfl rfl rfl (by decide) (fun _ => rfl) (fun _ => rfl) (fun _ => rfl) (fun _ => rfl) rfl rfl rfl (fun r229 u230 hw => ?_)
                                    obtain ⟨w231, hw231⟩ : ∃ z : Mem, z = u230 := ⟨_, rfl⟩
                                    rw [← hw231] at hw
                                    rw [← hw231]
                                    refine g_istore X [(6, .int r229), (5, .int r224), (0, .ref sb), (1, .ref (g 0 0)), (2, .ref (am 0)), (3, .ref (qa 0)), (4, .int x4)] dL_law_889 (by decide) rfl ?_
                                    refine g_aload_n X 4 dL_law_891 rfl rfl ?_
                                    refine g_ciV X [wC ct g kc, wS ct (g 1) v, wS ct (g 2) (sl 0), wS ct (g 3) (sl 1), wV ct g b, wS ct (g 5) (r 0), wS ct (g 6) (r 1), wS ct (g 7) (r 2), wS ct (g 8) (r 3), wS ct (g 9) (r 4), wS ct (g 10) (r 5), wT ct (g 11) tx, wL ct (g 12) y, wO ct (g 13) o, wR ct (g 14) x, wM ct am w231 hs, wQ ct qa ou226] (fun (_ : Unit) => [wC ct g kc, wS ct (g 1) v, wS ct (g 2) (sl 0), wS ct (g 3) (sl 1), wV ct g b, wS ct (g 5) (r 0), wS ct (g 6) (r 1), wS ct (g 7) (r 2), wS ct (g 8) (r 3), wS ct (g 9) (r 4), wS ct (g 10) (r 5), wT ct (g 11) tx, wL ct (g 12) y, wO ct (g 13) o, wR ct (g 14) x, wM ct am w231 hs, wQ ct qa ou226]) (fun _ => fl [wC ct g kc, wS ct (g 1) v, wS ct (g 2) (sl 0), wS ct (g 3) (sl 1), wV ct g b, wS ct (g 5) (r 0), wS ct (g 6) (r 1), wS ct (g 7) (r 2), wS ct (g 8) (r 3), wS ct (g 9) (r 4), wS ct (g 10) (r 5), wT ct (g 11) tx, wL ct (g 12) y, wO ct (g 13) o, wR ct (g 14) x, wM ct am w231 hs, wQ ct qa ou226]) 17 [15] [0, 1, 2, 3, 4, 5, 6, 7, 8, 9, 10, 11, 12, 13, 14, 16] 0 (kX8_thrown l D ct am w231 hs _ hw) (cwV 0 X.1.2.2.2.2 gL_law_X8_thrown rfl rfl rfl (by decide +kernel) ⟨Nat.le_of_ble_eq_true rfl, Nat.le_of_ble_eq_true rfl⟩) dL_law_892 rfl rfl (Nat.le_of_ble_eq_true rfl) ⟨by show _ ≤ 601024; omega, by show _ ≤ 7293034; omega⟩ rfl rfl rfl (by decide) (fun _ => rfl) (fun _ => rfl) (fun _ => rfl) (fun _ => rfl) rfl rfl rfl (fun r232 _ hw => ?_)
                                    refine g_iload X 1 dL_law_895 rfl ?_
                                    refine g_icmp_eq X 902 dL_law_897 (by decide) (fun c234 => ?_) (fun c234 => ?_)
                                    · replace hw := hw.1 c234
                                      refine g_iload X 1 dL_law_902 rfl ?_
                                      refine g_if_ne X 919 dL_law_904 (by decide) (fun c235 => ?_) (fun c235 => ?_)
                                      · replace hw := hw.1 c235
                                        refine g_goto X 1318 dL_law_919 (by decide) ?_
                                        refine g_iinc X [(4, .int (x4 + 3)), (6, .int r229), (5, .int r224), (0, .ref sb), (1, .ref (g 0 0)), (2, .ref (am 0)), (3, .ref (qa 0))] 6 dL_law_1318 rfl rfl (by decide) rfl ?_
                                        refine g_goto X 23 dL_law_1321 (by decide) ?_
                                        refine g_sub [(0, .ref sb), (1, .ref (g 0 0)), (2, .ref (am 0)), (3, .ref (qa 0)), (4, .int (x4 + 3))] [3, 4, 5, 6, 0] rfl ?_
                                        refine g_wide (k2 := 117 + (513 - n)) (j2 := 2344 + 6 * (513 - n)) (by omega) (by omega) ?_
                                        exact ih (by omega) _ _ _ _ _ _ _ _ _ _ _ _ _ hw
                                      · replace hw := hw.2 c235
                                        refine g_aload_n X 5 dL_law_907 rfl rfl ?_
                                        refine g_iconst (v := 0) X rfl dL_law_908 ?_
                                        refine g_lald X 116 4 dL_law_909 rfl rfl (vp_in_nI (n := 0) (by decide) (by decide)) ?_
                                        refine g_iload X 0 dL_law_910 rfl ?_
                                        refine g_i2l X dL_law_912 ?_
                                        refine g_lcmp X dL_law_913 ?_
                                        refine g_if_eq X 919 dL_law_914 (by decide) (fun c236 => ?_) (fun c236 => ?_)
                                        · replace hw := hw.1 c236
                                          refine g_goto X 1318 dL_law_919 (by decide) ?_
                                          refine g_iinc X [(4, .int (x4 + 3)), (6, .int r229), (5, .int r224), (0, .ref sb), (1, .ref (g 0 0)), (2, .ref (am 0)), (3, .ref (qa 0))] 6 dL_law_1318 rfl rfl (by decide) rfl ?_
                                          refine g_goto X 23 dL_law_1321 (by decide) ?_
                                          refine g_sub [(0, .ref sb), (1, .ref (g 0 0)), (2, .ref (am 0)), (3, .ref (qa 0)), (4, .int (x4 + 3))] [3, 4, 5, 6, 0] rfl ?_
                                          refine g_wide (k2 := 117 + (513 - n)) (j2 := 2344 + 6 * (513 - n)) (by omega) (by omega) ?_
                                          exact ih (by omega) _ _ _ _ _ _ _ _ _ _ _ _ _ hw
                                        · replace hw := hw.2 c236
                                          refine g_iconst (v := 0) X rfl dL_law_917 ?_
                                          exact hw.elim
                                    · replace hw := hw.2 c234
                                      refine g_iconst (v := 0) X rfl dL_law_900 ?_
                                      exact hw.elim
                                  · replace hw := hw.2 c221
                                    by_cases c237 : ((xs (ix x4)) &&& 31) = 15
                                    · replace hw := hw.1 c237
                                      refine g_tableIn X 922 dL_law_39 (by rw [c237]; decide) (by rw [c237]; decide) (by rw [c237]; rfl) (by decide) ?_
                                      refine g_aload_n X 1 dL_law_922 rfl rfl ?_
                                      refine g_aload_n X 0 dL_law_923 rfl rfl ?_
                                      refine g_iload X 4 dL_law_924 rfl ?_
                                      refine g_iconst (v := 1) X rfl dL_law_926 ?_
                                      refine g_iadd X dL_law_927 ?_
                                      obtain ⟨h238, hw⟩ := hw
                                      refine g_sld X hX hbl hbA h238 dL_law_928 ?_
                                      refine g_aload_n X 0 dL_law_929 rfl rfl ?_
                                      refine g_iload X 4 dL_law_930 rfl ?_
                                      refine g_iconst (v := 2) X rfl dL_law_932 ?_
                                      refine g_iadd X dL_law_933 ?_
                                      obtain ⟨h239, hw⟩ := hw
                                      refine g_sld X hX hbl hbA h239 dL_law_934 ?_
                                      refine g_aload_n X 3 dL_law_935 rfl rfl ?_
                                      refine g_chS X XX [wC ct g kc, wS ct (g 1) v, wS ct (g 2) (sl 0), wS ct (g 3) (sl 1), wV ct g b, wS ct (g 5) (r 0), wS ct (g 6) (r 1), wS ct (g 7) (r 2), wS ct (g 8) (r 3), wS ct (g 9) (r 4), wS ct (g 10) (r 5), wT ct (g 11) tx, wL ct (g 12) y, wO ct (g 13) o, wR ct (g 14) x, wM ct am w hs, wQ ct qa ou] (fun (u241 : (Nat → Int64)) => [wC ct g kc, wS ct (g 1) v, wS ct (g 2) (sl 0), wS ct (g 3) (sl 1), wV ct g b, wS ct (g 5) (r 0), wS ct (g 6) (r 1), wS ct (g 7) (r 2), wS ct (g 8) (r 3), wS ct (g 9) (r 4), wS ct (g 10) (r 5), wT ct (g 11) tx, wL ct (g 12) y, wO ct (g 13) o, wR ct (g 14) x, wM ct am w hs, wQ ct qa u241]) (fun (u241 : (Nat → Int64)) => fl [wC ct g kc, wS ct (g 1) v, wS ct (g 2) (sl 0), wS ct (g 3) (sl 1), wV ct g b, wS ct (g 5) (r 0), wS ct (g 6) (r 1), wS ct (g 7) (r 2), wS ct (g 8) (r 3), wS ct (g 9) (r 4), wS ct (g 10) (r 5), wT ct (g 11) tx, wL ct (g 12) y, wO ct (g 13) o, wR ct (g 14) x, wM ct am w hs, wQ ct qa u241]) 17 [0, 1, 16] [2, 3, 4, 5, 6, 7, 8, 9, 10, 11, 12, 13, 14, 15] (kL_at l hl9 D ct g qa kc v ou (xs (ix (x4 + 1))) (xs (ix (x4 + 2))) _ hw) (vx_cwSW 4 X.1.2.2.2.2 gL_law_L_at rfl rfl rfl (by decide +kernel) ⟨Nat.le_of_ble_eq_true rfl, Nat.le_of_ble_eq_true rfl⟩) dL_law_936 rfl rfl (Nat.le_of_ble_eq_true rfl) ⟨by show _ ≤ 601024; omega, by show _ ≤ 7293034; omega⟩ rfl rfl rfl (by decide) (fun _ => rfl) (fun _ => rfl) (fun _ => rfl) (fun _ => rfl) (fun r240 u241 hw => ?_)
                                      obtain ⟨ou242, hou242⟩ : ∃ z : Nat → Int64, z = u241 := ⟨_, rfl⟩
                                      rw [← hou242] at hw
                                      rw [← hou242]
                                      refine g_istore X [(5, .int r240), (0, .ref sb), (1, .ref (g 0 0)), (2, .ref (am 0)), (3, .ref (qa 0)), (4, .int x4)] dL_law_939 (by decide) rfl ?_
                                      refine g_aload_n X 3 dL_law_941 rfl rfl ?_
                                      refine g_aload_n X 1 dL_law_942 rfl rfl ?_
                                      refine g_iload X 5 dL_law_943 rfl ?_
                                      refine g_iconst (v := 1) X rfl dL_law_945 ?_
                                      refine g_iadd X dL_law_946 ?_
                                      obtain ⟨h243, hw⟩ := hw
                                      refine g_sld X hX hbl hbA h243 dL_law_947 ?_
                                      refine g_aload_n X 1 dL_law_948 rfl rfl ?_
                                      refine g_iload X 5 dL_law_949 rfl ?_
                                      refine g_iconst (v := 2) X rfl dL_law_951 ?_
                                      refine g_iadd X dL_law_952 ?_
                                      obtain ⟨h244, hw⟩ := hw
                                      refine g_sld X hX hbl hbA h244 dL_law_953 ?_
                                      refine g_ciV X [wC ct g kc, wS ct (g 1) v, wS ct (g 2) (sl 0), wS ct (g 3) (sl 1), wV ct g b, wS ct (g 5) (r 0), wS ct (g 6) (r 1), wS ct (g 7) (r 2), wS ct (g 8) (r 3), wS ct (g 9) (r 4), wS ct (g 10) (r 5), wT ct (g 11) tx, wL ct (g 12) y, wO ct (g 13) o, wR ct (g 14) x, wM ct am w hs, wQ ct qa ou242] (fun (u246 : Mem) => [wC ct g kc, wS ct (g 1) v, wS ct (g 2) (sl 0), wS ct (g 3) (sl 1), wV ct g b, wS ct (g 5) (r 0), wS ct (g 6) (r 1), wS ct (g 7) (r 2), wS ct (g 8) (r 3), wS ct (g 9) (r 4), wS ct (g 10) (r 5), wT ct (g 11) tx, wL ct (g 12) y, wO ct (g 13) o, wR ct (g 14) x, wM ct am u246 hs, wQ ct qa ou242]) (fun (u246 : Mem) => fl [wC ct g kc, wS ct (g 1) v, wS ct (g 2) (sl 0), wS ct (g 3) (sl 1), wV ct g b, wS ct (g 5) (r 0), wS ct (g 6) (r 1), wS ct (g 7) (r 2), wS ct (g 8) (r 3), wS ct (g 9) (r 4), wS ct (g 10) (r 5), wT ct (g 11) tx, wL ct (g 12) y, wO ct (g 13) o, wR ct (g 14) x, wM ct am u246 hs, wQ ct qa ou242]) 17 [15] [0, 1, 2, 3, 4, 5, 6, 7, 8, 9, 10, 11, 12, 13, 14, 16] 0 (kX8_at l D ct am w hs (xs (ix (x4 + 1))) (xs (ix (x4 + 2))) _ hw) (cwV 2 X.1.2.2.2.2 gL_law_X8_at rfl rfl rfl (by decide +kernel) ⟨Nat.le_of_ble_eq_true rfl, Nat.le_of_ble_eq_true rfl⟩) dL_law_954 rfl rfl (Nat.le_of_ble_eq_true rfl) ⟨by show _ ≤ 601024; omega, by show _ ≤ 7293034; omega⟩ rfl rfl rfl (by decide) (fun _ => rfl) (fun _ => rfl) (fun _ => rfl) (fun _ => rfl) rfl rfl rfl (fun r245 u246 hw => ?_)
                                      obtain ⟨w247, hw247⟩ : ∃ z : Mem, z = u246 := ⟨_, rfl⟩
                                      rw [← hw247] at hw
                                      rw [← hw247]
                                      refine g_istore X [(6, .int r245), (5, .int r240), (0, .ref sb), (1, .ref (g 0 0)), (2, .ref (am 0)), (3, .ref (qa 0)), (4, .int x4)] dL_law_957 (by decide) rfl ?_
                                      refine g_aload_n X 4 dL_law_959 rfl rfl ?_
                                      refine g_ciV X [wC ct g kc, wS ct (g 1) v, wS ct (g 2) (sl 0), wS ct (g 3) (sl 1), wV ct g b, wS ct (g 5) (r 0), wS ct (g 6) (r 1), wS ct (g 7) (r 2), wS ct (g 8) (r 3), wS ct (g 9) (r 4), wS ct (g 10) (r 5), wT ct (g 11) tx, wL ct (g 12) y, wO ct (g 13) o, wR ct (g 14) x, wM ct am w247 hs, wQ ct qa ou242] (fun (_ : Unit) => [wC ct g kc, wS ct (g 1) v, wS ct (g 2) (sl 0), wS ct (g 3) (sl 1), wV ct g b, wS ct (g 5) (r 0), wS ct (g 6) (r 1), wS ct (g 7) (r 2), wS ct (g 8) (r 3), wS ct (g 9) (r 4), wS ct (g 10) (r 5), wT ct (g 11) tx, wL ct (g 12) y, wO ct (g 13) o, wR ct (g 14) x, wM ct am w247 hs, wQ ct qa ou242]) (fun _ => fl [wC ct g kc, wS ct (g 1) v, wS ct (g 2) (sl 0), wS ct (g 3) (sl 1), wV ct g b, wS ct (g 5) (r 0), wS ct (g 6) (r 1), wS ct (g 7) (r 2), wS ct (g 8) (r 3), wS ct (g 9) (r 4), wS ct (g 10) (r 5), wT ct (g 11) tx, wL ct (g 12) y, wO ct (g 13) o, wR ct (g 14) x, wM ct am w247 hs, wQ ct qa ou242]) 17 [15] [0, 1, 2, 3, 4, 5, 6, 7, 8, 9, 10, 11, 12, 13, 14, 16] 0 (kX8_thrown l D ct am w247 hs _ hw) (cwV 0 X.1.2.2.2.2 gL_law_X8_thrown rfl rfl rfl (by decide +kernel) ⟨Nat.le_of_ble_eq_true rfl, Nat.le_of_ble_eq_true rfl⟩) dL_law_960 rfl rfl (Nat.le_of_ble_eq_true rfl) ⟨by show _ ≤ 601024; omega, by show _ ≤ 7293034; omega⟩ rfl rfl rfl (by decide) (fun _ => rfl) (fun _ => rfl) (fun _ => rfl) (fun _ => rfl) rfl rfl rfl (fun r248 _ hw => ?_)
                                      refine g_iload X 1 dL_law_963 rfl ?_
                                      refine g_icmp_eq X 970 dL_law_965 (by decide) (fun c250 => ?_) (fun c250 => ?_)
                                      · replace hw := hw.1 c250
                                        refine g_iload X 1 dL_law_970 rfl ?_
                                        refine g_if_ne X 987 dL_law_972 (by decide) (fun c251 => ?_) (fun c251 => ?_)
                                        · replace hw := hw.1 c251
                                          refine g_goto X 1318 dL_law_987 (by decide) ?_
                                          refine g_iinc X [(4, .int (x4 + 3)), (6, .int r245), (5, .int r240), (0, .ref sb), (1, .ref (g 0 0)), (2, .ref (am 0)), (3, .ref (qa 0))] 6 dL_law_1318 rfl rfl (by decide) rfl ?_
                                          refine g_goto X 23 dL_law_1321 (by decide) ?_
                                          refine g_sub [(0, .ref sb), (1, .ref (g 0 0)), (2, .ref (am 0)), (3, .ref (qa 0)), (4, .int (x4 + 3))] [3, 4, 5, 6, 0] rfl ?_
                                          refine g_wide (k2 := 117 + (513 - n)) (j2 := 2344 + 6 * (513 - n)) (by omega) (by omega) ?_
                                          exact ih (by omega) _ _ _ _ _ _ _ _ _ _ _ _ _ hw
                                        · replace hw := hw.2 c251
                                          refine g_aload_n X 5 dL_law_975 rfl rfl ?_
                                          refine g_iconst (v := 0) X rfl dL_law_976 ?_
                                          refine g_lald X 116 4 dL_law_977 rfl rfl (vp_in_nI (n := 0) (by decide) (by decide)) ?_
                                          refine g_iload X 0 dL_law_978 rfl ?_
                                          refine g_i2l X dL_law_980 ?_
                                          refine g_lcmp X dL_law_981 ?_
                                          refine g_if_eq X 987 dL_law_982 (by decide) (fun c252 => ?_) (fun c252 => ?_)
                                          · replace hw := hw.1 c252
                                            refine g_goto X 1318 dL_law_987 (by decide) ?_
                                            refine g_iinc X [(4, .int (x4 + 3)), (6, .int r245), (5, .int r240), (0, .ref sb), (1, .ref (g 0 0)), (2, .ref (am 0)), (3, .ref (qa 0))] 6 dL_law_1318 rfl rfl (by decide) rfl ?_
                                            refine g_goto X 23 dL_law_1321 (by decide) ?_
                                            refine g_sub [(0, .ref sb), (1, .ref (g 0 0)), (2, .ref (am 0)), (3, .ref (qa 0)), (4, .int (x4 + 3))] [3, 4, 5, 6, 0] rfl ?_
                                            refine g_wide (k2 := 117 + (513 - n)) (j2 := 2344 + 6 * (513 - n)) (by omega) (by omega) ?_
                                            exact ih (by omega) _ _ _ _ _ _ _ _ _ _ _ _ _ hw
                                          · replace hw := hw.2 c252
                                            refine g_iconst (v := 0) X rfl dL_law_985 ?_
                                            exact hw.elim
                                      · replace hw := hw.2 c250
                                        refine g_iconst (v := 0) X rfl dL_law_968 ?_
                                        exact hw.elim
                                    · replace hw := hw.2 c237
                                      by_cases c253 : ((xs (ix x4)) &&& 31) = 16
                                      · replace hw := hw.1 c253
                                        refine g_tableIn X 990 dL_law_39 (by rw [c253]; decide) (by rw [c253]; decide) (by rw [c253]; rfl) (by decide) ?_
                                        refine g_aload_n X 1 dL_law_990 rfl rfl ?_
                                        refine g_aload_n X 0 dL_law_991 rfl rfl ?_
                                        refine g_iload X 4 dL_law_992 rfl ?_
                                        refine g_iconst (v := 1) X rfl dL_law_994 ?_
                                        refine g_iadd X dL_law_995 ?_
                                        obtain ⟨h254, hw⟩ := hw
                                        refine g_sld X hX hbl hbA h254 dL_law_996 ?_
                                        refine g_aload_n X 0 dL_law_997 rfl rfl ?_
                                        refine g_iload X 4 dL_law_998 rfl ?_
                                        refine g_iconst (v := 2) X rfl dL_law_1000 ?_
                                        refine g_iadd X dL_law_1001 ?_
                                        obtain ⟨h255, hw⟩ := hw
                                        refine g_sld X hX hbl hbA h255 dL_law_1002 ?_
                                        refine g_aload_n X 3 dL_law_1003 rfl rfl ?_
                                        refine g_chS X XX [wC ct g kc, wS ct (g 1) v, wS ct (g 2) (sl 0), wS ct (g 3) (sl 1), wV ct g b, wS ct (g 5) (r 0), wS ct (g 6) (r 1), wS ct (g 7) (r 2), wS ct (g 8) (r 3), wS ct (g 9) (r 4), wS ct (g 10) (r 5), wT ct (g 11) tx, wL ct (g 12) y, wO ct (g 13) o, wR ct (g 14) x, wM ct am w hs, wQ ct qa ou] (fun (u257 : Mem × (Nat → Int64)) => [wC ct g kc, wS ct (g 1) v, wS ct (g 2) (sl 0), wS ct (g 3) (sl 1), wV ct g b, wS ct (g 5) (r 0), wS ct (g 6) (r 1), wS ct (g 7) (r 2), wS ct (g 8) (r 3), wS ct (g 9) (r 4), wS ct (g 10) (r 5), wT ct (g 11) tx, wL ct (g 12) u257.1, wO ct (g 13) o, wR ct (g 14) x, wM ct am w hs, wQ ct qa u257.2]) (fun (u257 : Mem × (Nat → Int64)) => fl [wC ct g kc, wS ct (g 1) v, wS ct (g 2) (sl 0), wS ct (g 3) (sl 1), wV ct g b, wS ct (g 5) (r 0), wS ct (g 6) (r 1), wS ct (g 7) (r 2), wS ct (g 8) (r 3), wS ct (g 9) (r 4), wS ct (g 10) (r 5), wT ct (g 11) tx, wL ct (g 12) u257.1, wO ct (g 13) o, wR ct (g 14) x, wM ct am w hs, wQ ct qa u257.2]) 17 [0, 1, 12, 16] [2, 3, 4, 5, 6, 7, 8, 9, 10, 11, 13, 14, 15] (kL_crossings l hl9 D ct g qa kc v y ou (xs (ix (x4 + 1))) (xs (ix (x4 + 2))) _ hw) (vx_cwSW 4 X.1.2.2.2.2 gL_law_L_crossings rfl rfl rfl (by decide +kernel) ⟨Nat.le_of_ble_eq_true rfl, Nat.le_of_ble_eq_true rfl⟩) dL_law_1004 rfl rfl (Nat.le_of_ble_eq_true rfl) ⟨by show _ ≤ 601024; omega, by show _ ≤ 7293034; omega⟩ rfl rfl rfl (by decide) (fun _ => rfl) (fun _ => rfl) (fun _ => rfl) (fun _ => rfl) (fun r256 u257 hw => ?_)
                                        obtain ⟨y258, hy258⟩ : ∃ z : Mem, z = u257.1 := ⟨_, rfl⟩
                                        rw [← hy258] at hw
                                        rw [← hy258]
                                        obtain ⟨ou259, hou259⟩ : ∃ z : Nat → Int64, z = u257.2 := ⟨_, rfl⟩
                                        rw [← hou259] at hw
                                        rw [← hou259]
                                        refine g_istore X [(5, .int r256), (0, .ref sb), (1, .ref (g 0 0)), (2, .ref (am 0)), (3, .ref (qa 0)), (4, .int x4)] dL_law_1007 (by decide) rfl ?_
                                        refine g_aload_n X 3 dL_law_1009 rfl rfl ?_
                                        refine g_aload_n X 1 dL_law_1010 rfl rfl ?_
                                        refine g_iload X 5 dL_law_1011 rfl ?_
                                        refine g_iconst (v := 1) X rfl dL_law_1013 ?_
                                        refine g_iadd X dL_law_1014 ?_
                                        obtain ⟨h260, hw⟩ := hw
                                        refine g_sld X hX hbl hbA h260 dL_law_1015 ?_
                                        refine g_aload_n X 1 dL_law_1016 rfl rfl ?_
                                        refine g_iload X 5 dL_law_1017 rfl ?_
                                        refine g_iconst (v := 2) X rfl dL_law_1019 ?_
                                        refine g_iadd X dL_law_1020 ?_
                                        obtain ⟨h261, hw⟩ := hw
                                        refine g_sld X hX hbl hbA h261 dL_law_1021 ?_
                                        refine g_ciV X [wC ct g kc, wS ct (g 1) v, wS ct (g 2) (sl 0), wS ct (g 3) (sl 1), wV ct g b, wS ct (g 5) (r 0), wS ct (g 6) (r 1), wS ct (g 7) (r 2), wS ct (g 8) (r 3), wS ct (g 9) (r 4), wS ct (g 10) (r 5), wT ct (g 11) tx, wL ct (g 12) y258, wO ct (g 13) o, wR ct (g 14) x, wM ct am w hs, wQ ct qa ou259] (fun (u263 : Mem) => [wC ct g kc, wS ct (g 1) v, wS ct (g 2) (sl 0), wS ct (g 3) (sl 1), wV ct g b, wS ct (g 5) (r 0), wS ct (g 6) (r 1), wS ct (g 7) (r 2), wS ct (g 8) (r 3), wS ct (g 9) (r 4), wS ct (g 10) (r 5), wT ct (g 11) tx, wL ct (g 12) y258, wO ct (g 13) o, wR ct (g 14) x, wM ct am u263 hs, wQ ct qa ou259]) (fun (u263 : Mem) => fl [wC ct g kc, wS ct (g 1) v, wS ct (g 2) (sl 0), wS ct (g 3) (sl 1), wV ct g b, wS ct (g 5) (r 0), wS ct (g 6) (r 1), wS ct (g 7) (r 2), wS ct (g 8) (r 3), wS ct (g 9) (r 4), wS ct (g 10) (r 5), wT ct (g 11) tx, wL ct (g 12) y258, wO ct (g 13) o, wR ct (g 14) x, wM ct am u263 hs, wQ ct qa ou259]) 17 [15] [0, 1, 2, 3, 4, 5, 6, 7, 8, 9, 10, 11, 12, 13, 14, 16] 0 (kX8_crossings l D ct am w hs (xs (ix (x4 + 1))) (xs (ix (x4 + 2))) _ hw) (cwV 2 X.1.2.2.2.2 gL_law_X8_crossings rfl rfl rfl (by decide +kernel) ⟨Nat.le_of_ble_eq_true rfl, Nat.le_of_ble_eq_true rfl⟩) dL_law_1022 rfl rfl (Nat.le_of_ble_eq_true rfl) ⟨by show _ ≤ 601024; omega, by show _ ≤ 7293034; omega⟩ rfl rfl rfl (by decide) (fun _ => rfl) (fun _ => rfl) (fun _ => rfl) (fun _ => rfl) rfl rfl rfl (fun r262 u263 hw => ?_)
                                        obtain ⟨w264, hw264⟩ : ∃ z : Mem, z = u263 := ⟨_, rfl⟩
                                        rw [← hw264] at hw
                                        rw [← hw264]
                                        refine g_istore X [(6, .int r262), (5, .int r256), (0, .ref sb), (1, .ref (g 0 0)), (2, .ref (am 0)), (3, .ref (qa 0)), (4, .int x4)] dL_law_1025 (by decide) rfl ?_
                                        refine g_aload_n X 4 dL_law_1027 rfl rfl ?_
                                        refine g_ciV X [wC ct g kc, wS ct (g 1) v, wS ct (g 2) (sl 0), wS ct (g 3) (sl 1), wV ct g b, wS ct (g 5) (r 0), wS ct (g 6) (r 1), wS ct (g 7) (r 2), wS ct (g 8) (r 3), wS ct (g 9) (r 4), wS ct (g 10) (r 5), wT ct (g 11) tx, wL ct (g 12) y258, wO ct (g 13) o, wR ct (g 14) x, wM ct am w264 hs, wQ ct qa ou259] (fun (_ : Unit) => [wC ct g kc, wS ct (g 1) v, wS ct (g 2) (sl 0), wS ct (g 3) (sl 1), wV ct g b, wS ct (g 5) (r 0), wS ct (g 6) (r 1), wS ct (g 7) (r 2), wS ct (g 8) (r 3), wS ct (g 9) (r 4), wS ct (g 10) (r 5), wT ct (g 11) tx, wL ct (g 12) y258, wO ct (g 13) o, wR ct (g 14) x, wM ct am w264 hs, wQ ct qa ou259]) (fun _ => fl [wC ct g kc, wS ct (g 1) v, wS ct (g 2) (sl 0), wS ct (g 3) (sl 1), wV ct g b, wS ct (g 5) (r 0), wS ct (g 6) (r 1), wS ct (g 7) (r 2), wS ct (g 8) (r 3), wS ct (g 9) (r 4), wS ct (g 10) (r 5), wT ct (g 11) tx, wL ct (g 12) y258, wO ct (g 13) o, wR ct (g 14) x, wM ct am w264 hs, wQ ct qa ou259]) 17 [15] [0, 1, 2, 3, 4, 5, 6, 7, 8, 9, 10, 11, 12, 13, 14, 16] 0 (kX8_thrown l D ct am w264 hs _ hw) (cwV 0 X.1.2.2.2.2 gL_law_X8_thrown rfl rfl rfl (by decide +kernel) ⟨Nat.le_of_ble_eq_true rfl, Nat.le_of_ble_eq_true rfl⟩) dL_law_1028 rfl rfl (Nat.le_of_ble_eq_true rfl) ⟨by show _ ≤ 601024; omega, by show _ ≤ 7293034; omega⟩ rfl rfl rfl (by decide) (fun _ => rfl) (fun _ => rfl) (fun _ => rfl) (fun _ => rfl) rfl rfl rfl (fun r265 _ hw => ?_)
                                        refine g_iload X 1 dL_law_1031 rfl ?_
                                        refine g_icmp_eq X 1038 dL_law_1033 (by decide) (fun c267 => ?_) (fun c267 => ?_)
                                        · replace hw := hw.1 c267
                                          refine g_iload X 1 dL_law_1038 rfl ?_
                                          refine g_if_ne X 1055 dL_law_1040 (by decide) (fun c268 => ?_) (fun c268 => ?_)
                                          · replace hw := hw.1 c268
                                            refine g_goto X 1318 dL_law_1055 (by decide) ?_
                                            refine g_iinc X [(4, .int (x4 + 3)), (6, .int r262), (5, .int r256), (0, .ref sb), (1, .ref (g 0 0)), (2, .ref (am 0)), (3, .ref (qa 0))] 6 dL_law_1318 rfl rfl (by decide) rfl ?_
                                            refine g_goto X 23 dL_law_1321 (by decide) ?_
                                            refine g_sub [(0, .ref sb), (1, .ref (g 0 0)), (2, .ref (am 0)), (3, .ref (qa 0)), (4, .int (x4 + 3))] [3, 4, 5, 6, 0] rfl ?_
                                            refine g_wide (k2 := 117 + (513 - n)) (j2 := 2344 + 6 * (513 - n)) (by omega) (by omega) ?_
                                            exact ih (by omega) _ _ _ _ _ _ _ _ _ _ _ _ _ hw
                                          · replace hw := hw.2 c268
                                            refine g_aload_n X 5 dL_law_1043 rfl rfl ?_
                                            refine g_iconst (v := 0) X rfl dL_law_1044 ?_
                                            refine g_lald X 116 4 dL_law_1045 rfl rfl (vp_in_nI (n := 0) (by decide) (by decide)) ?_
                                            refine g_iload X 0 dL_law_1046 rfl ?_
                                            refine g_i2l X dL_law_1048 ?_
                                            refine g_lcmp X dL_law_1049 ?_
                                            refine g_if_eq X 1055 dL_law_1050 (by decide) (fun c269 => ?_) (fun c269 => ?_)
                                            · replace hw := hw.1 c269
                                              refine g_goto X 1318 dL_law_1055 (by decide) ?_
                                              refine g_iinc X [(4, .int (x4 + 3)), (6, .int r262), (5, .int r256), (0, .ref sb), (1, .ref (g 0 0)), (2, .ref (am 0)), (3, .ref (qa 0))] 6 dL_law_1318 rfl rfl (by decide) rfl ?_
                                              refine g_goto X 23 dL_law_1321 (by decide) ?_
                                              refine g_sub [(0, .ref sb), (1, .ref (g 0 0)), (2, .ref (am 0)), (3, .ref (qa 0)), (4, .int (x4 + 3))] [3, 4, 5, 6, 0] rfl ?_
                                              refine g_wide (k2 := 117 + (513 - n)) (j2 := 2344 + 6 * (513 - n)) (by omega) (by omega) ?_
                                              exact ih (by omega) _ _ _ _ _ _ _ _ _ _ _ _ _ hw
                                            · replace hw := hw.2 c269
                                              refine g_iconst (v := 0) X rfl dL_law_1053 ?_
                                              exact hw.elim
                                        · replace hw := hw.2 c267
                                          refine g_iconst (v := 0) X rfl dL_law_1036 ?_
                                          exact hw.elim
                                      · replace hw := hw.2 c253
                                        by_cases c270 : ((xs (ix x4)) &&& 31) = 17
                                        · replace hw := hw.1 c270
                                          refine g_tableIn X 1058 dL_law_39 (by rw [c270]; decide) (by rw [c270]; decide) (by rw [c270]; rfl) (by decide) ?_
                                          refine g_aload_n X 1 dL_law_1058 rfl rfl ?_
                                          refine g_aload_n X 0 dL_law_1059 rfl rfl ?_
                                          refine g_iload X 4 dL_law_1060 rfl ?_
                                          refine g_iconst (v := 1) X rfl dL_law_1062 ?_
                                          refine g_iadd X dL_law_1063 ?_
                                          obtain ⟨h271, hw⟩ := hw
                                          refine g_sld X hX hbl hbA h271 dL_law_1064 ?_
                                          refine g_aload_n X 3 dL_law_1065 rfl rfl ?_
                                          refine g_chS X XX [wC ct g kc, wS ct (g 1) v, wS ct (g 2) (sl 0), wS ct (g 3) (sl 1), wV ct g b, wS ct (g 5) (r 0), wS ct (g 6) (r 1), wS ct (g 7) (r 2), wS ct (g 8) (r 3), wS ct (g 9) (r 4), wS ct (g 10) (r 5), wT ct (g 11) tx, wL ct (g 12) y, wO ct (g 13) o, wR ct (g 14) x, wM ct am w hs, wQ ct qa ou] (fun (u273 : Mem × (Nat → Int64)) => [wC ct g kc, wS ct (g 1) v, wS ct (g 2) (sl 0), wS ct (g 3) (sl 1), wV ct g b, wS ct (g 5) (r 0), wS ct (g 6) (r 1), wS ct (g 7) (r 2), wS ct (g 8) (r 3), wS ct (g 9) (r 4), wS ct (g 10) (r 5), wT ct (g 11) tx, wL ct (g 12) u273.1, wO ct (g 13) o, wR ct (g 14) x, wM ct am w hs, wQ ct qa u273.2]) (fun (u273 : Mem × (Nat → Int64)) => fl [wC ct g kc, wS ct (g 1) v, wS ct (g 2) (sl 0), wS ct (g 3) (sl 1), wV ct g b, wS ct (g 5) (r 0), wS ct (g 6) (r 1), wS ct (g 7) (r 2), wS ct (g 8) (r 3), wS ct (g 9) (r 4), wS ct (g 10) (r 5), wT ct (g 11) tx, wL ct (g 12) u273.1, wO ct (g 13) o, wR ct (g 14) x, wM ct am w hs, wQ ct qa u273.2]) 17 [0, 1, 4, 12, 16] [2, 3, 5, 6, 7, 8, 9, 10, 11, 13, 14, 15] (kL_count l hl9 D ct g qa kc v b y ou (xs (ix (x4 + 1))) _ hw) (vx_cwSW 3 X.1.2.2.2.2 gL_law_L_count rfl rfl rfl (by decide +kernel) ⟨Nat.le_of_ble_eq_true rfl, Nat.le_of_ble_eq_true rfl⟩) dL_law_1066 rfl rfl (Nat.le_of_ble_eq_true rfl) ⟨by show _ ≤ 601024; omega, by show _ ≤ 7293034; omega⟩ rfl rfl rfl (by decide) (fun _ => rfl) (fun _ => rfl) (fun _ => rfl) (fun _ => rfl) (fun r272 u273 hw => ?_)
                                          obtain ⟨y274, hy274⟩ : ∃ z : Mem, z = u273.1 := ⟨_, rfl⟩
                                          rw [← hy274] at hw
                                          rw [← hy274]
                                          obtain ⟨ou275, hou275⟩ : ∃ z : Nat → Int64, z = u273.2 := ⟨_, rfl⟩
                                          rw [← hou275] at hw
                                          rw [← hou275]
                                          refine g_istore X [(5, .int r272), (0, .ref sb), (1, .ref (g 0 0)), (2, .ref (am 0)), (3, .ref (qa 0)), (4, .int x4)] dL_law_1069 (by decide) rfl ?_
                                          refine g_aload_n X 3 dL_law_1071 rfl rfl ?_
                                          refine g_aload_n X 1 dL_law_1072 rfl rfl ?_
                                          refine g_iload X 5 dL_law_1073 rfl ?_
                                          refine g_iconst (v := 1) X rfl dL_law_1075 ?_
                                          refine g_iadd X dL_law_1076 ?_
                                          obtain ⟨h276, hw⟩ := hw
                                          refine g_sld X hX hbl hbA h276 dL_law_1077 ?_
                                          refine g_ciV X [wC ct g kc, wS ct (g 1) v, wS ct (g 2) (sl 0), wS ct (g 3) (sl 1), wV ct g b, wS ct (g 5) (r 0), wS ct (g 6) (r 1), wS ct (g 7) (r 2), wS ct (g 8) (r 3), wS ct (g 9) (r 4), wS ct (g 10) (r 5), wT ct (g 11) tx, wL ct (g 12) y274, wO ct (g 13) o, wR ct (g 14) x, wM ct am w hs, wQ ct qa ou275] (fun (u278 : Mem) => [wC ct g kc, wS ct (g 1) v, wS ct (g 2) (sl 0), wS ct (g 3) (sl 1), wV ct g b, wS ct (g 5) (r 0), wS ct (g 6) (r 1), wS ct (g 7) (r 2), wS ct (g 8) (r 3), wS ct (g 9) (r 4), wS ct (g 10) (r 5), wT ct (g 11) tx, wL ct (g 12) y274, wO ct (g 13) o, wR ct (g 14) x, wM ct am u278 hs, wQ ct qa ou275]) (fun (u278 : Mem) => fl [wC ct g kc, wS ct (g 1) v, wS ct (g 2) (sl 0), wS ct (g 3) (sl 1), wV ct g b, wS ct (g 5) (r 0), wS ct (g 6) (r 1), wS ct (g 7) (r 2), wS ct (g 8) (r 3), wS ct (g 9) (r 4), wS ct (g 10) (r 5), wT ct (g 11) tx, wL ct (g 12) y274, wO ct (g 13) o, wR ct (g 14) x, wM ct am u278 hs, wQ ct qa ou275]) 17 [15] [0, 1, 2, 3, 4, 5, 6, 7, 8, 9, 10, 11, 12, 13, 14, 16] 0 (kX8_count l D ct am w hs (xs (ix (x4 + 1))) _ hw) (cwV 1 X.1.2.2.2.2 gL_law_X8_count rfl rfl rfl (by decide +kernel) ⟨Nat.le_of_ble_eq_true rfl, Nat.le_of_ble_eq_true rfl⟩) dL_law_1078 rfl rfl (Nat.le_of_ble_eq_true rfl) ⟨by show _ ≤ 601024; omega, by show _ ≤ 7293034; omega⟩ rfl rfl rfl (by decide) (fun _ => rfl) (fun _ => rfl) (fun _ => rfl) (fun _ => rfl) rfl rfl rfl (fun r277 u278 hw => ?_)
                                          obtain ⟨w279, hw279⟩ : ∃ z : Mem, z = u278 := ⟨_, rfl⟩
                                          rw [← hw279] at hw
                                          rw [← hw279]
                                          refine g_istore X [(6, .int r277), (5, .int r272), (0, .ref sb), (1, .ref (g 0 0)), (2, .ref (am 0)), (3, .ref (qa 0)), (4, .int x4)] dL_law_1081 (by decide) rfl ?_
                                          refine g_aload_n X 4 dL_law_1083 rfl rfl ?_
                                          refine g_ciV X [wC ct g kc, wS ct (g 1) v, wS ct (g 2) (sl 0), wS ct (g 3) (sl 1), wV ct g b, wS ct (g 5) (r 0), wS ct (g 6) (r 1), wS ct (g 7) (r 2), wS ct (g 8) (r 3), wS ct (g 9) (r 4), wS ct (g 10) (r 5), wT ct (g 11) tx, wL ct (g 12) y274, wO ct (g 13) o, wR ct (g 14) x, wM ct am w279 hs, wQ ct qa ou275] (fun (_ : Unit) => [wC ct g kc, wS ct (g 1) v, wS ct (g 2) (sl 0), wS ct (g 3) (sl 1), wV ct g b, wS ct (g 5) (r 0), wS ct (g 6) (r 1), wS ct (g 7) (r 2), wS ct (g 8) (r 3), wS ct (g 9) (r 4), wS ct (g 10) (r 5), wT ct (g 11) tx, wL ct (g 12) y274, wO ct (g 13) o, wR ct (g 14) x, wM ct am w279 hs, wQ ct qa ou275]) (fun _ => fl [wC ct g kc, wS ct (g 1) v, wS ct (g 2) (sl 0), wS ct (g 3) (sl 1), wV ct g b, wS ct (g 5) (r 0), wS ct (g 6) (r 1), wS ct (g 7) (r 2), wS ct (g 8) (r 3), wS ct (g 9) (r 4), wS ct (g 10) (r 5), wT ct (g 11) tx, wL ct (g 12) y274, wO ct (g 13) o, wR ct (g 14) x, wM ct am w279 hs, wQ ct qa ou275]) 17 [15] [0, 1, 2, 3, 4, 5, 6, 7, 8, 9, 10, 11, 12, 13, 14, 16] 0 (kX8_thrown l D ct am w279 hs _ hw) (cwV 0 X.1.2.2.2.2 gL_law_X8_thrown rfl rfl rfl (by decide +kernel) ⟨Nat.le_of_ble_eq_true rfl, Nat.le_of_ble_eq_true rfl⟩) dL_law_1084 rfl rfl (Nat.le_of_ble_eq_true rfl) ⟨by show _ ≤ 601024; omega, by show _ ≤ 7293034; omega⟩ rfl rfl rfl (by decide) (fun _ => rfl) (fun _ => rfl) (fun _ => rfl) (fun _ => rfl) rfl rfl rfl (fun r280 _ hw => ?_)
                                          refine g_iload X 1 dL_law_1087 rfl ?_
                                          refine g_icmp_eq X 1094 dL_law_1089 (by decide) (fun c282 => ?_) (fun c282 => ?_)
                                          · replace hw := hw.1 c282
                                            refine g_iload X 1 dL_law_1094 rfl ?_
                                            refine g_if_ne X 1111 dL_law_1096 (by decide) (fun c283 => ?_) (fun c283 => ?_)
                                            · replace hw := hw.1 c283
                                              refine g_goto X 1318 dL_law_1111 (by decide) ?_
                                              refine g_iinc X [(4, .int (x4 + 3)), (6, .int r277), (5, .int r272), (0, .ref sb), (1, .ref (g 0 0)), (2, .ref (am 0)), (3, .ref (qa 0))] 6 dL_law_1318 rfl rfl (by decide) rfl ?_
                                              refine g_goto X 23 dL_law_1321 (by decide) ?_
                                              refine g_sub [(0, .ref sb), (1, .ref (g 0 0)), (2, .ref (am 0)), (3, .ref (qa 0)), (4, .int (x4 + 3))] [3, 4, 5, 6, 0] rfl ?_
                                              refine g_wide (k2 := 117 + (513 - n)) (j2 := 2344 + 6 * (513 - n)) (by omega) (by omega) ?_
                                              exact ih (by omega) _ _ _ _ _ _ _ _ _ _ _ _ _ hw
                                            · replace hw := hw.2 c283
                                              refine g_aload_n X 5 dL_law_1099 rfl rfl ?_
                                              refine g_iconst (v := 0) X rfl dL_law_1100 ?_
                                              refine g_lald X 116 4 dL_law_1101 rfl rfl (vp_in_nI (n := 0) (by decide) (by decide)) ?_
                                              refine g_iload X 0 dL_law_1102 rfl ?_
                                              refine g_i2l X dL_law_1104 ?_
                                              refine g_lcmp X dL_law_1105 ?_
                                              refine g_if_eq X 1111 dL_law_1106 (by decide) (fun c284 => ?_) (fun c284 => ?_)
                                              · replace hw := hw.1 c284
                                                refine g_goto X 1318 dL_law_1111 (by decide) ?_
                                                refine g_iinc X [(4, .int (x4 + 3)), (6, .int r277), (5, .int r272), (0, .ref sb), (1, .ref (g 0 0)), (2, .ref (am 0)), (3, .ref (qa 0))] 6 dL_law_1318 rfl rfl (by decide) rfl ?_
                                                refine g_goto X 23 dL_law_1321 (by decide) ?_
                                                refine g_sub [(0, .ref sb), (1, .ref (g 0 0)), (2, .ref (am 0)), (3, .ref (qa 0)), (4, .int (x4 + 3))] [3, 4, 5, 6, 0] rfl ?_
                                                refine g_wide (k2 := 117 + (513 - n)) (j2 := 2344 + 6 * (513 - n)) (by omega) (by omega) ?_
                                                exact ih (by omega) _ _ _ _ _ _ _ _ _ _ _ _ _ hw
                                              · replace hw := hw.2 c284
                                                refine g_iconst (v := 0) X rfl dL_law_1109 ?_
                                                exact hw.elim
                                          · replace hw := hw.2 c282
                                            refine g_iconst (v := 0) X rfl dL_law_1092 ?_
                                            exact hw.elim
                                        · replace hw := hw.2 c270
                                          by_cases c285 : ((xs (ix x4)) &&& 31) = 18
                                          · replace hw := hw.1 c285
                                            refine g_tableIn X 1114 dL_law_39 (by rw [c285]; decide) (by rw [c285]; decide) (by rw [c285]; rfl) (by decide) ?_
                                            refine g_aload_n X 1 dL_law_1114 rfl rfl ?_
                                            refine g_aload_n X 0 dL_law_1115 rfl rfl ?_
                                            refine g_iload X 4 dL_law_1116 rfl ?_
                                            refine g_iconst (v := 1) X rfl dL_law_1118 ?_
                                            refine g_iadd X dL_law_1119 ?_
                                            obtain ⟨h286, hw⟩ := hw
                                            refine g_sld X hX hbl hbA h286 dL_law_1120 ?_
                                            refine g_aload_n X 0 dL_law_1121 rfl rfl ?_
                                            refine g_iload X 4 dL_law_1122 rfl ?_
                                            refine g_iconst (v := 2) X rfl dL_law_1124 ?_
                                            refine g_iadd X dL_law_1125 ?_
                                            obtain ⟨h287, hw⟩ := hw
                                            refine g_sld X hX hbl hbA h287 dL_law_1126 ?_
                                            refine g_aload_n X 3 dL_law_1127 rfl rfl ?_
                                            refine g_chS X XX [wC ct g kc, wS ct (g 1) v, wS ct (g 2) (sl 0), wS ct (g 3) (sl 1), wV ct g b, wS ct (g 5) (r 0), wS ct (g 6) (r 1), wS ct (g 7) (r 2), wS ct (g 8) (r 3), wS ct (g 9) (r 4), wS ct (g 10) (r 5), wT ct (g 11) tx, wL ct (g 12) y, wO ct (g 13) o, wR ct (g 14) x, wM ct am w hs, wQ ct qa ou] (fun (u289 : Mem × (Nat → Int64)) => [wC ct g kc, wS ct (g 1) v, wS ct (g 2) (sl 0), wS ct (g 3) (sl 1), wV ct g b, wS ct (g 5) (r 0), wS ct (g 6) (r 1), wS ct (g 7) (r 2), wS ct (g 8) (r 3), wS ct (g 9) (r 4), wS ct (g 10) (r 5), wT ct (g 11) tx, wL ct (g 12) y, wO ct (g 13) o, wR ct (g 14) u289.1, wM ct am w hs, wQ ct qa u289.2]) (fun (u289 : Mem × (Nat → Int64)) => fl [wC ct g kc, wS ct (g 1) v, wS ct (g 2) (sl 0), wS ct (g 3) (sl 1), wV ct g b, wS ct (g 5) (r 0), wS ct (g 6) (r 1), wS ct (g 7) (r 2), wS ct (g 8) (r 3), wS ct (g 9) (r 4), wS ct (g 10) (r 5), wT ct (g 11) tx, wL ct (g 12) y, wO ct (g 13) o, wR ct (g 14) u289.1, wM ct am w hs, wQ ct qa u289.2]) 17 [0, 1, 14, 16] [2, 3, 4, 5, 6, 7, 8, 9, 10, 11, 12, 13, 15] (kL_least l hl9 D ct g qa kc v x ou (xs (ix (x4 + 1))) (xs (ix (x4 + 2))) _ hw) (vx_cwSW 4 X.1.2.2.2.2 gL_law_L_least rfl rfl rfl (by decide +kernel) ⟨Nat.le_of_ble_eq_true rfl, Nat.le_of_ble_eq_true rfl⟩) dL_law_1128 rfl rfl (Nat.le_of_ble_eq_true rfl) ⟨by show _ ≤ 601024; omega, by show _ ≤ 7293034; omega⟩ rfl rfl rfl (by decide) (fun _ => rfl) (fun _ => rfl) (fun _ => rfl) (fun _ => rfl) (fun r288 u289 hw => ?_)
                                            obtain ⟨x290, hx290⟩ : ∃ z : Mem, z = u289.1 := ⟨_, rfl⟩
                                            rw [← hx290] at hw
                                            rw [← hx290]
                                            obtain ⟨ou291, hou291⟩ : ∃ z : Nat → Int64, z = u289.2 := ⟨_, rfl⟩
                                            rw [← hou291] at hw
                                            rw [← hou291]
                                            refine g_istore X [(5, .int r288), (0, .ref sb), (1, .ref (g 0 0)), (2, .ref (am 0)), (3, .ref (qa 0)), (4, .int x4)] dL_law_1131 (by decide) rfl ?_
                                            refine g_aload_n X 3 dL_law_1133 rfl rfl ?_
                                            refine g_aload_n X 1 dL_law_1134 rfl rfl ?_
                                            refine g_iload X 5 dL_law_1135 rfl ?_
                                            refine g_iconst (v := 1) X rfl dL_law_1137 ?_
                                            refine g_iadd X dL_law_1138 ?_
                                            obtain ⟨h292, hw⟩ := hw
                                            refine g_sld X hX hbl hbA h292 dL_law_1139 ?_
                                            refine g_aload_n X 1 dL_law_1140 rfl rfl ?_
                                            refine g_iload X 5 dL_law_1141 rfl ?_
                                            refine g_iconst (v := 2) X rfl dL_law_1143 ?_
                                            refine g_iadd X dL_law_1144 ?_
                                            obtain ⟨h293, hw⟩ := hw
                                            refine g_sld X hX hbl hbA h293 dL_law_1145 ?_
                                            refine g_ciV X [wC ct g kc, wS ct (g 1) v, wS ct (g 2) (sl 0), wS ct (g 3) (sl 1), wV ct g b, wS ct (g 5) (r 0), wS ct (g 6) (r 1), wS ct (g 7) (r 2), wS ct (g 8) (r 3), wS ct (g 9) (r 4), wS ct (g 10) (r 5), wT ct (g 11) tx, wL ct (g 12) y, wO ct (g 13) o, wR ct (g 14) x290, wM ct am w hs, wQ ct qa ou291] (fun (u295 : Mem) => [wC ct g kc, wS ct (g 1) v, wS ct (g 2) (sl 0), wS ct (g 3) (sl 1), wV ct g b, wS ct (g 5) (r 0), wS ct (g 6) (r 1), wS ct (g 7) (r 2), wS ct (g 8) (r 3), wS ct (g 9) (r 4), wS ct (g 10) (r 5), wT ct (g 11) tx, wL ct (g 12) y, wO ct (g 13) o, wR ct (g 14) x290, wM ct am u295 hs, wQ ct qa ou291]) (fun (u295 : Mem) => fl [wC ct g kc, wS ct (g 1) v, wS ct (g 2) (sl 0), wS ct (g 3) (sl 1), wV ct g b, wS ct (g 5) (r 0), wS ct (g 6) (r 1), wS ct (g 7) (r 2), wS ct (g 8) (r 3), wS ct (g 9) (r 4), wS ct (g 10) (r 5), wT ct (g 11) tx, wL ct (g 12) y, wO ct (g 13) o, wR ct (g 14) x290, wM ct am u295 hs, wQ ct qa ou291]) 17 [15] [0, 1, 2, 3, 4, 5, 6, 7, 8, 9, 10, 11, 12, 13, 14, 16] 0 (kX8_least l D ct am w hs (xs (ix (x4 + 1))) (xs (ix (x4 + 2))) _ hw) (cwV 2 X.1.2.2.2.2 gL_law_X8_least rfl rfl rfl (by decide +kernel) ⟨Nat.le_of_ble_eq_true rfl, Nat.le_of_ble_eq_true rfl⟩) dL_law_1146 rfl rfl (Nat.le_of_ble_eq_true rfl) ⟨by show _ ≤ 601024; omega, by show _ ≤ 7293034; omega⟩ rfl rfl rfl (by decide) (fun _ => rfl) (fun _ => rfl) (fun _ => rfl) (fun _ => rfl) rfl rfl rfl (fun r294 u295 hw => ?_)
                                            obtain ⟨w296, hw296⟩ : ∃ z : Mem, z = u295 := ⟨_, rfl⟩
                                            rw [← hw296] at hw
                                            rw [← hw296]
                                            refine g_istore X [(6, .int r294), (5, .int r288), (0, .ref sb), (1, .ref (g 0 0)), (2, .ref (am 0)), (3, .ref (qa 0)), (4, .int x4)] dL_law_1149 (by decide) rfl ?_
                                            refine g_aload_n X 4 dL_law_1151 rfl rfl ?_
                                            refine g_ciV X [wC ct g kc, wS ct (g 1) v, wS ct (g 2) (sl 0), wS ct (g 3) (sl 1), wV ct g b, wS ct (g 5) (r 0), wS ct (g 6) (r 1), wS ct (g 7) (r 2), wS ct (g 8) (r 3), wS ct (g 9) (r 4), wS ct (g 10) (r 5), wT ct (g 11) tx, wL ct (g 12) y, wO ct (g 13) o, wR ct (g 14) x290, wM ct am w296 hs, wQ ct qa ou291] (fun (_ : Unit) => [wC ct g kc, wS ct (g 1) v, wS ct (g 2) (sl 0), wS ct (g 3) (sl 1), wV ct g b, wS ct (g 5) (r 0), wS ct (g 6) (r 1), wS ct (g 7) (r 2), wS ct (g 8) (r 3), wS ct (g 9) (r 4), wS ct (g 10) (r 5), wT ct (g 11) tx, wL ct (g 12) y, wO ct (g 13) o, wR ct (g 14) x290, wM ct am w296 hs, wQ ct qa ou291]) (fun _ => fl [wC ct g kc, wS ct (g 1) v, wS ct (g 2) (sl 0), wS ct (g 3) (sl 1), wV ct g b, wS ct (g 5) (r 0), wS ct (g 6) (r 1), wS ct (g 7) (r 2), wS ct (g 8) (r 3), wS ct (g 9) (r 4), wS ct (g 10) (r 5), wT ct (g 11) tx, wL ct (g 12) y, wO ct (g 13) o, wR ct (g 14) x290, wM ct am w296 hs, wQ ct qa ou291]) 17 [15] [0, 1, 2, 3, 4, 5, 6, 7, 8, 9, 10, 11, 12, 13, 14, 16] 0 (kX8_thrown l D ct am w296 hs _ hw) (cwV 0 X.1.2.2.2.2 gL_law_X8_thrown rfl rfl rfl (by decide +kernel) ⟨Nat.le_of_ble_eq_true rfl, Nat.le_of_ble_eq_true rfl⟩) dL_law_1152 rfl rfl (Nat.le_of_ble_eq_true rfl) ⟨by show _ ≤ 601024; omega, by show _ ≤ 7293034; omega⟩ rfl rfl rfl (by decide) (fun _ => rfl) (fun _ => rfl) (fun _ => rfl) (fun _ => rfl) rfl rfl rfl (fun r297 _ hw => ?_)
                                            refine g_iload X 1 dL_law_1155 rfl ?_
                                            refine g_icmp_eq X 1162 dL_law_1157 (by decide) (fun c299 => ?_) (fun c299 => ?_)
                                            · replace hw := hw.1 c299
                                              refine g_iload X 1 dL_law_1162 rfl ?_
                                              refine g_if_ne X 1179 dL_law_1164 (by decide) (fun c300 => ?_) (fun c300 => ?_)
                                              · replace hw := hw.1 c300
                                                refine g_goto X 1318 dL_law_1179 (by decide) ?_
                                                refine g_iinc X [(4, .int (x4 + 3)), (6, .int r294), (5, .int r288), (0, .ref sb), (1, .ref (g 0 0)), (2, .ref (am 0)), (3, .ref (qa 0))] 6 dL_law_1318 rfl rfl (by decide) rfl ?_
                                                refine g_goto X 23 dL_law_1321 (by decide) ?_
                                                refine g_sub [(0, .ref sb), (1, .ref (g 0 0)), (2, .ref (am 0)), (3, .ref (qa 0)), (4, .int (x4 + 3))] [3, 4, 5, 6, 0] rfl ?_
                                                refine g_wide (k2 := 117 + (513 - n)) (j2 := 2344 + 6 * (513 - n)) (by omega) (by omega) ?_
                                                exact ih (by omega) _ _ _ _ _ _ _ _ _ _ _ _ _ hw
                                              · replace hw := hw.2 c300
                                                refine g_aload_n X 5 dL_law_1167 rfl rfl ?_
                                                refine g_iconst (v := 0) X rfl dL_law_1168 ?_
                                                refine g_lald X 116 4 dL_law_1169 rfl rfl (vp_in_nI (n := 0) (by decide) (by decide)) ?_
                                                refine g_iload X 0 dL_law_1170 rfl ?_
                                                refine g_i2l X dL_law_1172 ?_
                                                refine g_lcmp X dL_law_1173 ?_
                                                refine g_if_eq X 1179 dL_law_1174 (by decide) (fun c301 => ?_) (fun c301 => ?_)
                                                · replace hw := hw.1 c301
                                                  refine g_goto X 1318 dL_law_1179 (by decide) ?_
                                                  refine g_iinc X [(4, .int (x4 + 3)), (6, .int r294), (5, .int r288), (0, .ref sb), (1, .ref (g 0 0)), (2, .ref (am 0)), (3, .ref (qa 0))] 6 dL_law_1318 rfl rfl (by decide) rfl ?_
                                                  refine g_goto X 23 dL_law_1321 (by decide) ?_
                                                  refine g_sub [(0, .ref sb), (1, .ref (g 0 0)), (2, .ref (am 0)), (3, .ref (qa 0)), (4, .int (x4 + 3))] [3, 4, 5, 6, 0] rfl ?_
                                                  refine g_wide (k2 := 117 + (513 - n)) (j2 := 2344 + 6 * (513 - n)) (by omega) (by omega) ?_
                                                  exact ih (by omega) _ _ _ _ _ _ _ _ _ _ _ _ _ hw
                                                · replace hw := hw.2 c301
                                                  refine g_iconst (v := 0) X rfl dL_law_1177 ?_
                                                  exact hw.elim
                                            · replace hw := hw.2 c299
                                              refine g_iconst (v := 0) X rfl dL_law_1160 ?_
                                              exact hw.elim
                                          · replace hw := hw.2 c285
                                            by_cases c302 : ((xs (ix x4)) &&& 31) = 19
                                            · replace hw := hw.1 c302
                                              refine g_tableIn X 1182 dL_law_39 (by rw [c302]; decide) (by rw [c302]; decide) (by rw [c302]; rfl) (by decide) ?_
                                              refine g_aload_n X 1 dL_law_1182 rfl rfl ?_
                                              refine g_ciV X [wC ct g kc, wS ct (g 1) v, wS ct (g 2) (sl 0), wS ct (g 3) (sl 1), wV ct g b, wS ct (g 5) (r 0), wS ct (g 6) (r 1), wS ct (g 7) (r 2), wS ct (g 8) (r 3), wS ct (g 9) (r 4), wS ct (g 10) (r 5), wT ct (g 11) tx, wL ct (g 12) y, wO ct (g 13) o, wR ct (g 14) x, wM ct am w hs, wQ ct qa ou] (fun (u304 : Mem × Mem) => [wC ct g kc, wS ct (g 1) u304.1, wS ct (g 2) (sl 0), wS ct (g 3) (sl 1), wV ct g b, wS ct (g 5) (r 0), wS ct (g 6) (r 1), wS ct (g 7) (r 2), wS ct (g 8) (r 3), wS ct (g 9) (r 4), wS ct (g 10) (r 5), wT ct (g 11) tx, wL ct (g 12) u304.2, wO ct (g 13) o, wR ct (g 14) x, wM ct am w hs, wQ ct qa ou]) (fun (u304 : Mem × Mem) => fl [wC ct g kc, wS ct (g 1) u304.1, wS ct (g 2) (sl 0), wS ct (g 3) (sl 1), wV ct g b, wS ct (g 5) (r 0), wS ct (g 6) (r 1), wS ct (g 7) (r 2), wS ct (g 8) (r 3), wS ct (g 9) (r 4), wS ct (g 10) (r 5), wT ct (g 11) tx, wL ct (g 12) u304.2, wO ct (g 13) o, wR ct (g 14) x, wM ct am w hs, wQ ct qa ou]) 17 [0, 1, 12] [2, 3, 4, 5, 6, 7, 8, 9, 10, 11, 13, 14, 15, 16] 0 (kX7_bestSwap l D ct g kc v y _ hw) (cwV 0 X.1.2.2.2.2 gL_law_X7_bestSwap rfl rfl rfl (by decide +kernel) ⟨Nat.le_of_ble_eq_true rfl, Nat.le_of_ble_eq_true rfl⟩) dL_law_1183 rfl rfl (Nat.le_of_ble_eq_true rfl) ⟨by show _ ≤ 601024; omega, by show _ ≤ 7293034; omega⟩ rfl rfl rfl (by decide) (fun _ => rfl) (fun _ => rfl) (fun _ => rfl) (fun _ => rfl) rfl rfl rfl (fun r303 u304 hw => ?_)
                                              obtain ⟨v305, hv305⟩ : ∃ z : Mem, z = u304.1 := ⟨_, rfl⟩
                                              rw [← hv305] at hw
                                              rw [← hv305]
                                              obtain ⟨y306, hy306⟩ : ∃ z : Mem, z = u304.2 := ⟨_, rfl⟩
                                              rw [← hy306] at hw
                                              rw [← hy306]
                                              refine g_aload_n X 2 dL_law_1186 rfl rfl ?_
                                              refine g_ciV X [wC ct g kc, wS ct (g 1) v305, wS ct (g 2) (sl 0), wS ct (g 3) (sl 1), wV ct g b, wS ct (g 5) (r 0), wS ct (g 6) (r 1), wS ct (g 7) (r 2), wS ct (g 8) (r 3), wS ct (g 9) (r 4), wS ct (g 10) (r 5), wT ct (g 11) tx, wL ct (g 12) y306, wO ct (g 13) o, wR ct (g 14) x, wM ct am w hs, wQ ct qa ou] (fun (u308 : Mem) => [wC ct g kc, wS ct (g 1) v305, wS ct (g 2) (sl 0), wS ct (g 3) (sl 1), wV ct g b, wS ct (g 5) (r 0), wS ct (g 6) (r 1), wS ct (g 7) (r 2), wS ct (g 8) (r 3), wS ct (g 9) (r 4), wS ct (g 10) (r 5), wT ct (g 11) tx, wL ct (g 12) y306, wO ct (g 13) o, wR ct (g 14) x, wM ct am u308 hs, wQ ct qa ou]) (fun (u308 : Mem) => fl [wC ct g kc, wS ct (g 1) v305, wS ct (g 2) (sl 0), wS ct (g 3) (sl 1), wV ct g b, wS ct (g 5) (r 0), wS ct (g 6) (r 1), wS ct (g 7) (r 2), wS ct (g 8) (r 3), wS ct (g 9) (r 4), wS ct (g 10) (r 5), wT ct (g 11) tx, wL ct (g 12) y306, wO ct (g 13) o, wR ct (g 14) x, wM ct am u308 hs, wQ ct qa ou]) 17 [15] [0, 1, 2, 3, 4, 5, 6, 7, 8, 9, 10, 11, 12, 13, 14, 16] 0 (kX8_bestSwap l D ct am w hs _ hw) (cwV 0 X.1.2.2.2.2 gL_law_X8_bestSwap rfl rfl rfl (by decide +kernel) ⟨Nat.le_of_ble_eq_true rfl, Nat.le_of_ble_eq_true rfl⟩) dL_law_1187 rfl rfl (Nat.le_of_ble_eq_true rfl) ⟨by show _ ≤ 601024; omega, by show _ ≤ 7293034; omega⟩ rfl rfl rfl (by decide) (fun _ => rfl) (fun _ => rfl) (fun _ => rfl) (fun _ => rfl) rfl rfl rfl (fun r307 u308 hw => ?_)
                                              obtain ⟨w309, hw309⟩ : ∃ z : Mem, z = u308 := ⟨_, rfl⟩
                                              rw [← hw309] at hw
                                              rw [← hw309]
                                              refine g_icmp_eq X 1318 dL_law_1190 (by decide) (fun c310 => ?_) (fun c310 => ?_)
                                              · replace hw := hw.1 c310
                                                refine g_iinc X [(4, .int (x4 + 3)), (0, .ref sb), (1, .ref (g 0 0)), (2, .ref (am 0)), (3, .ref (qa 0))] 4 dL_law_1318 rfl rfl (by decide) rfl ?_
                                                refine g_goto X 23 dL_law_1321 (by decide) ?_
                                                refine g_sub [(0, .ref sb), (1, .ref (g 0 0)), (2, .ref (am 0)), (3, .ref (qa 0)), (4, .int (x4 + 3))] [1, 2, 3, 4, 0] rfl ?_
                                                refine g_wide (k2 := 117 + (513 - n)) (j2 := 2344 + 6 * (513 - n)) (by omega) (by omega) ?_
                                                exact ih (by omega) _ _ _ _ _ _ _ _ _ _ _ _ _ hw
                                              · replace hw := hw.2 c310
                                                refine g_iconst (v := 0) X rfl dL_law_1193 ?_
                                                exact hw.elim
                                            · replace hw := hw.2 c302
                                              by_cases c311 : ((xs (ix x4)) &&& 31) = 20
                                              · replace hw := hw.1 c311
                                                refine g_tableIn X 1195 dL_law_39 (by rw [c311]; decide) (by rw [c311]; decide) (by rw [c311]; rfl) (by decide) ?_
                                                refine g_aload_n X 1 dL_law_1195 rfl rfl ?_
                                                refine g_aload_n X 0 dL_law_1196 rfl rfl ?_
                                                refine g_iload X 4 dL_law_1197 rfl ?_
                                                refine g_iconst (v := 1) X rfl dL_law_1199 ?_
                                                refine g_iadd X dL_law_1200 ?_
                                                obtain ⟨h312, hw⟩ := hw
                                                refine g_sld X hX hbl hbA h312 dL_law_1201 ?_
                                                refine g_aload_n X 0 dL_law_1202 rfl rfl ?_
                                                refine g_iload X 4 dL_law_1203 rfl ?_
                                                refine g_iconst (v := 2) X rfl dL_law_1205 ?_
                                                refine g_iadd X dL_law_1206 ?_
                                                obtain ⟨h313, hw⟩ := hw
                                                refine g_sld X hX hbl hbA h313 dL_law_1207 ?_
                                                refine g_aload_n X 3 dL_law_1208 rfl rfl ?_
                                                refine g_chS X XX [wC ct g kc, wS ct (g 1) v, wS ct (g 2) (sl 0), wS ct (g 3) (sl 1), wV ct g b, wS ct (g 5) (r 0), wS ct (g 6) (r 1), wS ct (g 7) (r 2), wS ct (g 8) (r 3), wS ct (g 9) (r 4), wS ct (g 10) (r 5), wT ct (g 11) tx, wL ct (g 12) y, wO ct (g 13) o, wR ct (g 14) x, wM ct am w hs, wQ ct qa ou] (fun (u315 : (Nat → Int64)) => [wC ct g kc, wS ct (g 1) v, wS ct (g 2) (sl 0), wS ct (g 3) (sl 1), wV ct g b, wS ct (g 5) (r 0), wS ct (g 6) (r 1), wS ct (g 7) (r 2), wS ct (g 8) (r 3), wS ct (g 9) (r 4), wS ct (g 10) (r 5), wT ct (g 11) tx, wL ct (g 12) y, wO ct (g 13) o, wR ct (g 14) x, wM ct am w hs, wQ ct qa u315]) (fun (u315 : (Nat → Int64)) => fl [wC ct g kc, wS ct (g 1) v, wS ct (g 2) (sl 0), wS ct (g 3) (sl 1), wV ct g b, wS ct (g 5) (r 0), wS ct (g 6) (r 1), wS ct (g 7) (r 2), wS ct (g 8) (r 3), wS ct (g 9) (r 4), wS ct (g 10) (r 5), wT ct (g 11) tx, wL ct (g 12) y, wO ct (g 13) o, wR ct (g 14) x, wM ct am w hs, wQ ct qa u315]) 17 [0, 1, 16] [2, 3, 4, 5, 6, 7, 8, 9, 10, 11, 12, 13, 14, 15] (kL_nearness l hl9 D ct g qa kc v ou (xs (ix (x4 + 1))) (xs (ix (x4 + 2))) _ hw) (vx_cwSW 4 X.1.2.2.2.2 gL_law_L_nearness rfl rfl rfl (by decide +kernel) ⟨Nat.le_of_ble_eq_true rfl, Nat.le_of_ble_eq_true rfl⟩) dL_law_1209 rfl rfl (Nat.le_of_ble_eq_true rfl) ⟨by show _ ≤ 601024; omega, by show _ ≤ 7293034; omega⟩ rfl rfl rfl (by decide) (fun _ => rfl) (fun _ => rfl) (fun _ => rfl) (fun _ => rfl) (fun r314 u315 hw => ?_)
                                                obtain ⟨ou316, hou316⟩ : ∃ z : Nat → Int64, z = u315 := ⟨_, rfl⟩
                                                rw [← hou316] at hw
                                                rw [← hou316]
                                                refine g_istore X [(5, .int r314), (0, .ref sb), (1, .ref (g 0 0)), (2, .ref (am 0)), (3, .ref (qa 0)), (4, .int x4)] dL_law_1212 (by decide) rfl ?_
                                                refine g_aload_n X 3 dL_law_1214 rfl rfl ?_
                                                refine g_aload_n X 1 dL_law_1215 rfl rfl ?_
                                                refine g_iload X 5 dL_law_1216 rfl ?_
                                                refine g_iconst (v := 1) X rfl dL_law_1218 ?_
                                                refine g_iadd X dL_law_1219 ?_
                                                obtain ⟨h317, hw⟩ := hw
                                                refine g_sld X hX hbl hbA h317 dL_law_1220 ?_
                                                refine g_aload_n X 1 dL_law_1221 rfl rfl ?_
                                                refine g_iload X 5 dL_law_1222 rfl ?_
                                                refine g_iconst (v := 2) X rfl dL_law_1224 ?_
                                                refine g_iadd X dL_law_1225 ?_
                                                obtain ⟨h318, hw⟩ := hw
                                                refine g_sld X hX hbl hbA h318 dL_law_1226 ?_
                                                refine g_ciV X [wC ct g kc, wS ct (g 1) v, wS ct (g 2) (sl 0), wS ct (g 3) (sl 1), wV ct g b, wS ct (g 5) (r 0), wS ct (g 6) (r 1), wS ct (g 7) (r 2), wS ct (g 8) (r 3), wS ct (g 9) (r 4), wS ct (g 10) (r 5), wT ct (g 11) tx, wL ct (g 12) y, wO ct (g 13) o, wR ct (g 14) x, wM ct am w hs, wQ ct qa ou316] (fun (u320 : Mem) => [wC ct g kc, wS ct (g 1) v, wS ct (g 2) (sl 0), wS ct (g 3) (sl 1), wV ct g b, wS ct (g 5) (r 0), wS ct (g 6) (r 1), wS ct (g 7) (r 2), wS ct (g 8) (r 3), wS ct (g 9) (r 4), wS ct (g 10) (r 5), wT ct (g 11) tx, wL ct (g 12) y, wO ct (g 13) o, wR ct (g 14) x, wM ct am u320 hs, wQ ct qa ou316]) (fun (u320 : Mem) => fl [wC ct g kc, wS ct (g 1) v, wS ct (g 2) (sl 0), wS ct (g 3) (sl 1), wV ct g b, wS ct (g 5) (r 0), wS ct (g 6) (r 1), wS ct (g 7) (r 2), wS ct (g 8) (r 3), wS ct (g 9) (r 4), wS ct (g 10) (r 5), wT ct (g 11) tx, wL ct (g 12) y, wO ct (g 13) o, wR ct (g 14) x, wM ct am u320 hs, wQ ct qa ou316]) 17 [15] [0, 1, 2, 3, 4, 5, 6, 7, 8, 9, 10, 11, 12, 13, 14, 16] 0 (kX8_nearness l D ct am w hs (xs (ix (x4 + 1))) (xs (ix (x4 + 2))) _ hw) (cwV 2 X.1.2.2.2.2 gL_law_X8_nearness rfl rfl rfl (by decide +kernel) ⟨Nat.le_of_ble_eq_true rfl, Nat.le_of_ble_eq_true rfl⟩) dL_law_1227 rfl rfl (Nat.le_of_ble_eq_true rfl) ⟨by show _ ≤ 601024; omega, by show _ ≤ 7293034; omega⟩ rfl rfl rfl (by decide) (fun _ => rfl) (fun _ => rfl) (fun _ => rfl) (fun _ => rfl) rfl rfl rfl (fun r319 u320 hw => ?_)
                                                obtain ⟨w321, hw321⟩ : ∃ z : Mem, z = u320 := ⟨_, rfl⟩
                                                rw [← hw321] at hw
                                                rw [← hw321]
                                                refine g_istore X [(6, .int r319), (5, .int r314), (0, .ref sb), (1, .ref (g 0 0)), (2, .ref (am 0)), (3, .ref (qa 0)), (4, .int x4)] dL_law_1230 (by decide) rfl ?_
                                                refine g_aload_n X 4 dL_law_1232 rfl rfl ?_
                                                refine g_ciV X [wC ct g kc, wS ct (g 1) v, wS ct (g 2) (sl 0), wS ct (g 3) (sl 1), wV ct g b, wS ct (g 5) (r 0), wS ct (g 6) (r 1), wS ct (g 7) (r 2), wS ct (g 8) (r 3), wS ct (g 9) (r 4), wS ct (g 10) (r 5), wT ct (g 11) tx, wL ct (g 12) y, wO ct (g 13) o, wR ct (g 14) x, wM ct am w321 hs, wQ ct qa ou316] (fun (_ : Unit) => [wC ct g kc, wS ct (g 1) v, wS ct (g 2) (sl 0), wS ct (g 3) (sl 1), wV ct g b, wS ct (g 5) (r 0), wS ct (g 6) (r 1), wS ct (g 7) (r 2), wS ct (g 8) (r 3), wS ct (g 9) (r 4), wS ct (g 10) (r 5), wT ct (g 11) tx, wL ct (g 12) y, wO ct (g 13) o, wR ct (g 14) x, wM ct am w321 hs, wQ ct qa ou316]) (fun _ => fl [wC ct g kc, wS ct (g 1) v, wS ct (g 2) (sl 0), wS ct (g 3) (sl 1), wV ct g b, wS ct (g 5) (r 0), wS ct (g 6) (r 1), wS ct (g 7) (r 2), wS ct (g 8) (r 3), wS ct (g 9) (r 4), wS ct (g 10) (r 5), wT ct (g 11) tx, wL ct (g 12) y, wO ct (g 13) o, wR ct (g 14) x, wM ct am w321 hs, wQ ct qa ou316]) 17 [15] [0, 1, 2, 3, 4, 5, 6, 7, 8, 9, 10, 11, 12, 13, 14, 16] 0 (kX8_thrown l D ct am w321 hs _ hw) (cwV 0 X.1.2.2.2.2 gL_law_X8_thrown rfl rfl rfl (by decide +kernel) ⟨Nat.le_of_ble_eq_true rfl, Nat.le_of_ble_eq_true rfl⟩) dL_law_1233 rfl rfl (Nat.le_of_ble_eq_true rfl) ⟨by show _ ≤ 601024; omega, by show _ ≤ 7293034; omega⟩ rfl rfl rfl (by decide) (fun _ => rfl) (fun _ => rfl) (fun _ => rfl) (fun _ => rfl) rfl rfl rfl (fun r322 _ hw => ?_)
                                                refine g_iload X 1 dL_law_1236 rfl ?_
                                                refine g_icmp_eq X 1243 dL_law_1238 (by decide) (fun c324 => ?_) (fun c324 => ?_)
                                                · replace hw := hw.1 c324
                                                  refine g_iload X 1 dL_law_1243 rfl ?_
                                                  refine g_if_ne X 1260 dL_law_1245 (by decide) (fun c325 => ?_) (fun c325 => ?_)
                                                  · replace hw := hw.1 c325
                                                    refine g_goto X 1318 dL_law_1260 (by decide) ?_
                                                    refine g_iinc X [(4, .int (x4 + 3)), (6, .int r319), (5, .int r314), (0, .ref sb), (1, .ref (g 0 0)), (2, .ref (am 0)), (3, .ref (qa 0))] 6 dL_law_1318 rfl rfl (by decide) rfl ?_
                                                    refine g_goto X 23 dL_law_1321 (by decide) ?_
                                                    refine g_sub [(0, .ref sb), (1, .ref (g 0 0)), (2, .ref (am 0)), (3, .ref (qa 0)), (4, .int (x4 + 3))] [3, 4, 5, 6, 0] rfl ?_
                                                    refine g_wide (k2 := 117 + (513 - n)) (j2 := 2344 + 6 * (513 - n)) (by omega) (by omega) ?_
                                                    exact ih (by omega) _ _ _ _ _ _ _ _ _ _ _ _ _ hw
                                                  · replace hw := hw.2 c325
                                                    refine g_aload_n X 5 dL_law_1248 rfl rfl ?_
                                                    refine g_iconst (v := 0) X rfl dL_law_1249 ?_
                                                    refine g_lald X 116 4 dL_law_1250 rfl rfl (vp_in_nI (n := 0) (by decide) (by decide)) ?_
                                                    refine g_iload X 0 dL_law_1251 rfl ?_
                                                    refine g_i2l X dL_law_1253 ?_
                                                    refine g_lcmp X dL_law_1254 ?_
                                                    refine g_if_eq X 1260 dL_law_1255 (by decide) (fun c326 => ?_) (fun c326 => ?_)
                                                    · replace hw := hw.1 c326
                                                      refine g_goto X 1318 dL_law_1260 (by decide) ?_
                                                      refine g_iinc X [(4, .int (x4 + 3)), (6, .int r319), (5, .int r314), (0, .ref sb), (1, .ref (g 0 0)), (2, .ref (am 0)), (3, .ref (qa 0))] 6 dL_law_1318 rfl rfl (by decide) rfl ?_
                                                      refine g_goto X 23 dL_law_1321 (by decide) ?_
                                                      refine g_sub [(0, .ref sb), (1, .ref (g 0 0)), (2, .ref (am 0)), (3, .ref (qa 0)), (4, .int (x4 + 3))] [3, 4, 5, 6, 0] rfl ?_
                                                      refine g_wide (k2 := 117 + (513 - n)) (j2 := 2344 + 6 * (513 - n)) (by omega) (by omega) ?_
                                                      exact ih (by omega) _ _ _ _ _ _ _ _ _ _ _ _ _ hw
                                                    · replace hw := hw.2 c326
                                                      refine g_iconst (v := 0) X rfl dL_law_1258 ?_
                                                      exact hw.elim
                                                · replace hw := hw.2 c324
                                                  refine g_iconst (v := 0) X rfl dL_law_1241 ?_
                                                  exact hw.elim
                                              · replace hw := hw.2 c311
                                                by_cases c327 : ((xs (ix x4)) &&& 31) = 21
                                                · replace hw := hw.1 c327
                                                  refine g_tableIn X 1263 dL_law_39 (by rw [c327]; decide) (by rw [c327]; decide) (by rw [c327]; rfl) (by decide) ?_
                                                  refine g_aload_n X 1 dL_law_1263 rfl rfl ?_
                                                  refine g_cdV X [wC ct g kc, wS ct (g 1) v, wS ct (g 2) (sl 0), wS ct (g 3) (sl 1), wV ct g b, wS ct (g 5) (r 0), wS ct (g 6) (r 1), wS ct (g 7) (r 2), wS ct (g 8) (r 3), wS ct (g 9) (r 4), wS ct (g 10) (r 5), wT ct (g 11) tx, wL ct (g 12) y, wO ct (g 13) o, wR ct (g 14) x, wM ct am w hs, wQ ct qa ou] (fun (_ : Unit) => [wC ct g kc, wS ct (g 1) v, wS ct (g 2) (sl 0), wS ct (g 3) (sl 1), wV ct g b, wS ct (g 5) (r 0), wS ct (g 6) (r 1), wS ct (g 7) (r 2), wS ct (g 8) (r 3), wS ct (g 9) (r 4), wS ct (g 10) (r 5), wT ct (g 11) tx, wL ct (g 12) y, wO ct (g 13) o, wR ct (g 14) x, wM ct am w hs, wQ ct qa ou]) (fun _ => fl [wC ct g kc, wS ct (g 1) v, wS ct (g 2) (sl 0), wS ct (g 3) (sl 1), wV ct g b, wS ct (g 5) (r 0), wS ct (g 6) (r 1), wS ct (g 7) (r 2), wS ct (g 8) (r 3), wS ct (g 9) (r 4), wS ct (g 10) (r 5), wT ct (g 11) tx, wL ct (g 12) y, wO ct (g 13) o, wR ct (g 14) x, wM ct am w hs, wQ ct qa ou]) 17 [0, 1] [2, 3, 4, 5, 6, 7, 8, 9, 10, 11, 12, 13, 14, 15, 16] 0 (kX7_straightShare l D ct g kc v _ hw) (cwV 0 X.1.2.2.2.2 gL_law_X7_straightShare rfl rfl rfl (by decide +kernel) ⟨Nat.le_of_ble_eq_true rfl, Nat.le_of_ble_eq_true rfl⟩) dL_law_1264 rfl rfl (Nat.le_of_ble_eq_true rfl) ⟨by show _ ≤ 601024; omega, by show _ ≤ 7293034; omega⟩ rfl rfl rfl (by decide) (fun _ => rfl) (fun _ => rfl) (fun _ => rfl) (fun _ => rfl) rfl rfl rfl (fun r328 _ hw => ?_)
                                                  refine g_dstore X [(5, .double r328), (0, .ref sb), (1, .ref (g 0 0)), (2, .ref (am 0)), (3, .ref (qa 0)), (4, .int x4)] dL_law_1267 (by decide) rfl ?_
                                                  refine g_aload_n X 3 dL_law_1269 rfl rfl ?_
                                                  refine g_cdV X [wC ct g kc, wS ct (g 1) v, wS ct (g 2) (sl 0), wS ct (g 3) (sl 1), wV ct g b, wS ct (g 5) (r 0), wS ct (g 6) (r 1), wS ct (g 7) (r 2), wS ct (g 8) (r 3), wS ct (g 9) (r 4), wS ct (g 10) (r 5), wT ct (g 11) tx, wL ct (g 12) y, wO ct (g 13) o, wR ct (g 14) x, wM ct am w hs, wQ ct qa ou] (fun (u331 : Mem) => [wC ct g kc, wS ct (g 1) v, wS ct (g 2) (sl 0), wS ct (g 3) (sl 1), wV ct g b, wS ct (g 5) (r 0), wS ct (g 6) (r 1), wS ct (g 7) (r 2), wS ct (g 8) (r 3), wS ct (g 9) (r 4), wS ct (g 10) (r 5), wT ct (g 11) tx, wL ct (g 12) y, wO ct (g 13) o, wR ct (g 14) x, wM ct am u331 hs, wQ ct qa ou]) (fun (u331 : Mem) => fl [wC ct g kc, wS ct (g 1) v, wS ct (g 2) (sl 0), wS ct (g 3) (sl 1), wV ct g b, wS ct (g 5) (r 0), wS ct (g 6) (r 1), wS ct (g 7) (r 2), wS ct (g 8) (r 3), wS ct (g 9) (r 4), wS ct (g 10) (r 5), wT ct (g 11) tx, wL ct (g 12) y, wO ct (g 13) o, wR ct (g 14) x, wM ct am u331 hs, wQ ct qa ou]) 17 [15] [0, 1, 2, 3, 4, 5, 6, 7, 8, 9, 10, 11, 12, 13, 14, 16] 0 (kX8_straightShare l D ct am w hs _ hw) (cwV 0 X.1.2.2.2.2 gL_law_X8_straightShare rfl rfl rfl (by decide +kernel) ⟨Nat.le_of_ble_eq_true rfl, Nat.le_of_ble_eq_true rfl⟩) dL_law_1270 rfl rfl (Nat.le_of_ble_eq_true rfl) ⟨by show _ ≤ 601024; omega, by show _ ≤ 7293034; omega⟩ rfl rfl rfl (by decide) (fun _ => rfl) (fun _ => rfl) (fun _ => rfl) (fun _ => rfl) rfl rfl rfl (fun r330 u331 hw => ?_)
                                                  obtain ⟨w332, hw332⟩ : ∃ z : Mem, z = u331 := ⟨_, rfl⟩
                                                  rw [← hw332] at hw
                                                  rw [← hw332]
                                                  refine g_dstore X [(7, .double r330), (5, .double r328), (0, .ref sb), (1, .ref (g 0 0)), (2, .ref (am 0)), (3, .ref (qa 0)), (4, .int x4)] dL_law_1273 (by decide) rfl ?_
                                                  refine g_dload X 1 dL_law_1275 rfl ?_
                                                  refine g_dload X 0 dL_law_1277 rfl ?_
                                                  refine g_dcmp X dL_law_1279 ?_
                                                  refine g_if_eq X 1301 dL_law_1280 (by decide) (fun c333 => ?_) (fun c333 => ?_)
                                                  · replace hw := hw.1 c333
                                                    refine g_goto X 1318 dL_law_1301 (by decide) ?_
                                                    refine g_iinc X [(4, .int (x4 + 3)), (7, .double r330), (5, .double r328), (0, .ref sb), (1, .ref (g 0 0)), (2, .ref (am 0)), (3, .ref (qa 0))] 6 dL_law_1318 rfl rfl (by decide) rfl ?_
                                                    refine g_goto X 23 dL_law_1321 (by decide) ?_
                                                    refine g_sub [(0, .ref sb), (1, .ref (g 0 0)), (2, .ref (am 0)), (3, .ref (qa 0)), (4, .int (x4 + 3))] [3, 4, 5, 6, 0] rfl ?_
                                                    refine g_wide (k2 := 117 + (513 - n)) (j2 := 2344 + 6 * (513 - n)) (by omega) (by omega) ?_
                                                    exact ih (by omega) _ _ _ _ _ _ _ _ _ _ _ _ _ hw
                                                  · replace hw := hw.2 c333
                                                    refine g_dload X 1 dL_law_1283 rfl ?_
                                                    refine g_dload X 1 dL_law_1285 rfl ?_
                                                    refine g_dcmp X dL_law_1287 ?_
                                                    refine g_if_eq X 1299 dL_law_1288 (by decide) (fun c334 => ?_) (fun c334 => ?_)
                                                    · replace hw := hw.1 c334
                                                      refine g_iconst (v := 0) X rfl dL_law_1299 ?_
                                                      exact hw.elim
                                                    · replace hw := hw.2 c334
                                                      refine g_dload X 0 dL_law_1291 rfl ?_
                                                      refine g_dload X 0 dL_law_1293 rfl ?_
                                                      refine g_dcmp X dL_law_1295 ?_
                                                      refine g_if_ne X 1301 dL_law_1296 (by decide) (fun c335 => ?_) (fun c335 => ?_)
                                                      · replace hw := hw.1 c335
                                                        refine g_goto X 1318 dL_law_1301 (by decide) ?_
                                                        refine g_iinc X [(4, .int (x4 + 3)), (7, .double r330), (5, .double r328), (0, .ref sb), (1, .ref (g 0 0)), (2, .ref (am 0)), (3, .ref (qa 0))] 6 dL_law_1318 rfl rfl (by decide) rfl ?_
                                                        refine g_goto X 23 dL_law_1321 (by decide) ?_
                                                        refine g_sub [(0, .ref sb), (1, .ref (g 0 0)), (2, .ref (am 0)), (3, .ref (qa 0)), (4, .int (x4 + 3))] [3, 4, 5, 6, 0] rfl ?_
                                                        refine g_wide (k2 := 117 + (513 - n)) (j2 := 2344 + 6 * (513 - n)) (by omega) (by omega) ?_
                                                        exact ih (by omega) _ _ _ _ _ _ _ _ _ _ _ _ _ hw
                                                      · replace hw := hw.2 c335
                                                        refine g_iconst (v := 0) X rfl dL_law_1299 ?_
                                                        exact hw.elim
                                                · replace hw := hw.2 c327
                                                  by_cases c336 : ((xs (ix x4)) &&& 31) = 22
                                                  · replace hw := hw.1 c336
                                                    refine g_tableIn X 1304 dL_law_39 (by rw [c336]; decide) (by rw [c336]; decide) (by rw [c336]; rfl) (by decide) ?_
                                                    refine g_aload_n X 1 dL_law_1304 rfl rfl ?_
                                                    refine g_clV X [wC ct g kc, wS ct (g 1) v, wS ct (g 2) (sl 0), wS ct (g 3) (sl 1), wV ct g b, wS ct (g 5) (r 0), wS ct (g 6) (r 1), wS ct (g 7) (r 2), wS ct (g 8) (r 3), wS ct (g 9) (r 4), wS ct (g 10) (r 5), wT ct (g 11) tx, wL ct (g 12) y, wO ct (g 13) o, wR ct (g 14) x, wM ct am w hs, wQ ct qa ou] (fun (u338 : Mem × Mem × Mem) => [wC ct g kc, wS ct (g 1) u338.1, wS ct (g 2) (sl 0), wS ct (g 3) (sl 1), wV ct g b, wS ct (g 5) (r 0), wS ct (g 6) (r 1), wS ct (g 7) (r 2), wS ct (g 8) (r 3), wS ct (g 9) (r 4), wS ct (g 10) (r 5), wT ct (g 11) tx, wL ct (g 12) u338.2.1, wO ct (g 13) o, wR ct (g 14) u338.2.2, wM ct am w hs, wQ ct qa ou]) (fun (u338 : Mem × Mem × Mem) => fl [wC ct g kc, wS ct (g 1) u338.1, wS ct (g 2) (sl 0), wS ct (g 3) (sl 1), wV ct g b, wS ct (g 5) (r 0), wS ct (g 6) (r 1), wS ct (g 7) (r 2), wS ct (g 8) (r 3), wS ct (g 9) (r 4), wS ct (g 10) (r 5), wT ct (g 11) tx, wL ct (g 12) u338.2.1, wO ct (g 13) o, wR ct (g 14) u338.2.2, wM ct am w hs, wQ ct qa ou]) 17 [0, 1, 4, 11, 12, 14] [2, 3, 5, 6, 7, 8, 9, 10, 13, 15, 16] 0 (kX7_digest l D ct g kc v b tx y x _ hw) (cwV 0 X.1.2.2.2.2 gL_law_X7_digest rfl rfl rfl (by decide +kernel) ⟨Nat.le_of_ble_eq_true rfl, Nat.le_of_ble_eq_true rfl⟩) dL_law_1305 rfl rfl (Nat.le_of_ble_eq_true rfl) ⟨by show _ ≤ 601024; omega, by show _ ≤ 7293034; omega⟩ rfl rfl rfl (by decide) (fun _ => rfl) (fun _ => rfl) (fun _ => rfl) (fun _ => rfl) rfl rfl rfl (fun r337 u338 hw => ?_)
                                                    obtain ⟨v339, hv339⟩ : ∃ z : Mem, z = u338.1 := ⟨_, rfl⟩
                                                    rw [← hv339] at hw
                                                    rw [← hv339]
                                                    obtain ⟨y340, hy340⟩ : ∃ z : Mem, z = u338.2.1 := ⟨_, rfl⟩
                                                    rw [← hy340] at hw
                                                    rw [← hy340]
                                                    obtain ⟨x341, hx341⟩ : ∃ z : Mem, z = u338.2.2 := ⟨_, rfl⟩
                                                    rw [← hx341] at hw
                                                    rw [← hx341]
                                                    refine g_aload_n X 2 dL_law_1308 rfl rfl ?_
                                                    refine g_clV X [wC ct g kc, wS ct (g 1) v339, wS ct (g 2) (sl 0), wS ct (g 3) (sl 1), wV ct g b, wS ct (g 5) (r 0), wS ct (g 6) (r 1), wS ct (g 7) (r 2), wS ct (g 8) (r 3), wS ct (g 9) (r 4), wS ct (g 10) (r 5), wT ct (g 11) tx, wL ct (g 12) y340, wO ct (g 13) o, wR ct (g 14) x341, wM ct am w hs, wQ ct qa ou] (fun (u343 : Mem × Int64) => [wC ct g kc, wS ct (g 1) v339, wS ct (g 2) (sl 0), wS ct (g 3) (sl 1), wV ct g b, wS ct (g 5) (r 0), wS ct (g 6) (r 1), wS ct (g 7) (r 2), wS ct (g 8) (r 3), wS ct (g 9) (r 4), wS ct (g 10) (r 5), wT ct (g 11) tx, wL ct (g 12) y340, wO ct (g 13) o, wR ct (g 14) x341, wM ct am u343.1 u343.2, wQ ct qa ou]) (fun (u343 : Mem × Int64) => fl [wC ct g kc, wS ct (g 1) v339, wS ct (g 2) (sl 0), wS ct (g 3) (sl 1), wV ct g b, wS ct (g 5) (r 0), wS ct (g 6) (r 1), wS ct (g 7) (r 2), wS ct (g 8) (r 3), wS ct (g 9) (r 4), wS ct (g 10) (r 5), wT ct (g 11) tx, wL ct (g 12) y340, wO ct (g 13) o, wR ct (g 14) x341, wM ct am u343.1 u343.2, wQ ct qa ou]) 17 [15] [0, 1, 2, 3, 4, 5, 6, 7, 8, 9, 10, 11, 12, 13, 14, 16] 0 (kX8_digest l D ct am w hs _ hw) (cwV 0 X.1.2.2.2.2 gL_law_X8_digest rfl rfl rfl (by decide +kernel) ⟨Nat.le_of_ble_eq_true rfl, Nat.le_of_ble_eq_true rfl⟩) dL_law_1309 rfl rfl (Nat.le_of_ble_eq_true rfl) ⟨by show _ ≤ 601024; omega, by show _ ≤ 7293034; omega⟩ rfl rfl rfl (by decide) (fun _ => rfl) (fun _ => rfl) (fun _ => rfl) (fun _ => rfl) rfl rfl rfl (fun r342 u343 hw => ?_)
                                                    obtain ⟨w344, hw344⟩ : ∃ z : Mem, z = u343.1 := ⟨_, rfl⟩
                                                    rw [← hw344] at hw
                                                    rw [← hw344]
                                                    obtain ⟨hs345, hhs345⟩ : ∃ z : Int64, z = u343.2 := ⟨_, rfl⟩
                                                    rw [← hhs345] at hw
                                                    rw [← hhs345]
                                                    refine g_lcmp X dL_law_1312 ?_
                                                    refine g_if_eq X 1318 dL_law_1313 (by decide) (fun c346 => ?_) (fun c346 => ?_)
                                                    · replace hw := hw.1 c346
                                                      refine g_iinc X [(4, .int (x4 + 3)), (0, .ref sb), (1, .ref (g 0 0)), (2, .ref (am 0)), (3, .ref (qa 0))] 4 dL_law_1318 rfl rfl (by decide) rfl ?_
                                                      refine g_goto X 23 dL_law_1321 (by decide) ?_
                                                      refine g_sub [(0, .ref sb), (1, .ref (g 0 0)), (2, .ref (am 0)), (3, .ref (qa 0)), (4, .int (x4 + 3))] [1, 2, 3, 4, 0] rfl ?_
                                                      refine g_wide (k2 := 117 + (513 - n)) (j2 := 2344 + 6 * (513 - n)) (by omega) (by omega) ?_
                                                      exact ih (by omega) _ _ _ _ _ _ _ _ _ _ _ _ _ hw
                                                    · replace hw := hw.2 c346
                                                      refine g_iconst (v := 0) X rfl dL_law_1316 ?_
                                                      exact hw.elim
                                                  · replace hw := hw.2 c336
                                                    refine g_tableOut X 1318 dL_law_39 (by have tc3 := lv_neT c3 (show (0 : Int32).toInt = 0 from rfl); have tc20 := lv_neT c20 (show (1 : Int32).toInt = 1 from rfl); have tc39 := lv_neT c39 (show (2 : Int32).toInt = 2 from rfl); have tc56 := lv_neT c56 (show (3 : Int32).toInt = 3 from rfl); have tc76 := lv_neT c76 (show (4 : Int32).toInt = 4 from rfl); have tc94 := lv_neT c94 (show (5 : Int32).toInt = 5 from rfl); have tc112 := lv_neT c112 (show (6 : Int32).toInt = 6 from rfl); have tc127 := lv_neT c127 (show (7 : Int32).toInt = 7 from rfl); have tc135 := lv_neT c135 (show (8 : Int32).toInt = 8 from rfl); have tc142 := lv_neT c142 (show (9 : Int32).toInt = 9 from rfl); have tc158 := lv_neT c158 (show (10 : Int32).toInt = 10 from rfl); have tc174 := lv_neT c174 (show (11 : Int32).toInt = 11 from rfl); have tc191 := lv_neT c191 (show (12 : Int32).toInt = 12 from rfl); have tc205 := lv_neT c205 (show (13 : Int32).toInt = 13 from rfl); have tc221 := lv_neT c221 (show (14 : Int32).toInt = 14 from rfl); have tc237 := lv_neT c237 (show (15 : Int32).toInt = 15 from rfl); have tc253 := lv_neT c253 (show (16 : Int32).toInt = 16 from rfl); have tc270 := lv_neT c270 (show (17 : Int32).toInt = 17 from rfl); have tc285 := lv_neT c285 (show (18 : Int32).toInt = 18 from rfl); have tc302 := lv_neT c302 (show (19 : Int32).toInt = 19 from rfl); have tc311 := lv_neT c311 (show (20 : Int32).toInt = 20 from rfl); have tc327 := lv_neT c327 (show (21 : Int32).toInt = 21 from rfl); have tc336 := lv_neT c336 (show (22 : Int32).toInt = 22 from rfl); omega) (by decide) ?_
                                                    refine g_iinc X [(4, .int (x4 + 3)), (0, .ref sb), (1, .ref (g 0 0)), (2, .ref (am 0)), (3, .ref (qa 0))] 4 dL_law_1318 rfl rfl (by decide) rfl ?_
                                                    refine g_goto X 23 dL_law_1321 (by decide) ?_
                                                    refine g_sub [(0, .ref sb), (1, .ref (g 0 0)), (2, .ref (am 0)), (3, .ref (qa 0)), (4, .int (x4 + 3))] [1, 2, 3, 4, 0] rfl ?_
                                                    refine g_wide (k2 := 117 + (513 - n)) (j2 := 2344 + 6 * (513 - n)) (by omega) (by omega) ?_
                                                    exact ih (by omega) _ _ _ _ _ _ _ _ _ _ _ _ _ hw
