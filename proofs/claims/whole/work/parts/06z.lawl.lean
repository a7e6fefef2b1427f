set_option maxHeartbeats 20000000 in
set_option maxRecDepth 20000 in
theorem kL_law_23 {p : Program} {l : Launch} {e : Env} {s : State} {m : MethodId} {args : Array Value} {below : List Frame} {meth : Method} {c : Code} {D : va_G} {ct : Nat → ClassId} {A : Nat → Prop} {Q : State → Prop} {sb L : Nat} {xs : Nat → Int32} {g : Nat → Nat → Nat} {am qa : Nat → Nat} (hl9 : l.stackTraces = false) (X : Cx p s m args meth c cL_law 9 RL wsL_law D (tyz ct) A s.heap ret) (XX : XL A s) (hX : va_X sb L xs s s.heap) (hbl : sb < s.heap.size) (hbA : ¬ A sb) (hend : ∀ (k j : Nat) (w : va_W) (lv : List (Nat × Value)), k ≤ 601024 → j ≤ 7293034 → GG p l e room_1 s m args below meth c D A s.heap 9 Q (w) (k) (j) lv 1325 [.int 1]) :
    ∀ n : Nat, n ≤ 513 → ∀ (kc : Mem) (v : Mem) (sl : Nat → Mem) (b : Mem) (r : Nat → Mem) (tx : Mem) (y : Mem) (o : Mem) (x : Mem) (w : Mem) (hs : Int64) (ou : Nat → Int64) (x4 : Int32), PL_law_23 xs L n kc v sl b r tx y o x w hs ou x4 → GG p l e room_1 s m args below meth c D A s.heap 9 Q (fl [wC ct g kc, wS ct (g 1) v, wS ct (g 2) (sl 0), wS ct (g 3) (sl 1), wV ct g b, wS ct (g 5) (r 0), wS ct (g 6) (r 1), wS ct (g 7) (r 2), wS ct (g 8) (r 3), wS ct (g 9) (r 4), wS ct (g 10) (r 5), wT ct (g 11) tx, wL ct (g 12) y, wO ct (g 13) o, wR ct (g 14) x, wM ct am w hs, wQ ct qa ou]) (117 + (513 - n)) (2344 + 6 * (513 - n)) [(0, .ref sb), (1, .ref (g 0 0)), (2, .ref (am 0)), (3, .ref (qa 0)), (4, .int x4)] 23 [] := by
  intro n
  induction n with
  | zero =>
    intro _ kc v sl b r tx y o x w hs ou x4 hw
    exact hw.elim
  | succ n ih =>
    intro hn9 kc v sl b r tx y o x w hs ou x4 hw
    unfold PL_law_23 at hw
    refine g_iload X 4 dL_law_23 rfl ?_
    refine g_aload_n X 0 dL_law_25 rfl rfl ?_
    refine g_slen X hX hbl hbA dL_law_26 ?_
    refine g_iconst (v := 3) X rfl dL_law_27 ?_
    refine g_isub X dL_law_28 ?_
    refine g_icmp_gt X 1324 dL_law_29 (by decide) (fun c1 => ?_) (fun c1 => ?_)
    · replace hw := hw.1 c1
      refine g_iconst (v := 1) X rfl dL_law_1324 ?_
      exact hend _ _ _ _ (by omega) (by omega)
    · replace hw := hw.2 c1
      refine g_aload_n X 0 dL_law_32 rfl rfl ?_
      refine g_iload X 4 dL_law_33 rfl ?_
      obtain ⟨h2, hw⟩ := hw
      refine g_sld X hX hbl hbA h2 dL_law_35 ?_
      refine g_bipush (v := 31) X rfl dL_law_36 ?_
      refine g_iand X dL_law_38 ?_
      by_cases c3 : ((xs (ix x4)) &&& 31) = 0
      · replace hw := hw.1 c3
        refine g_tableIn X 144 dL_law_39 (by rw [c3]; decide) (by rw [c3]; decide) (by rw [c3]; rfl) (by decide) ?_
        exact kL_arm_0 hl9 X XX hX hbl hbA hend ih hn9 kc v sl b r tx y o x w hs ou x4 c3 hw
      · replace hw := hw.2 c3
        by_cases c20 : ((xs (ix x4)) &&& 31) = 1
        · replace hw := hw.1 c20
          refine g_tableIn X 200 dL_law_39 (by rw [c20]; decide) (by rw [c20]; decide) (by rw [c20]; rfl) (by decide) ?_
          exact kL_arm_1 hl9 X XX hX hbl hbA hend ih hn9 kc v sl b r tx y o x w hs ou x4 c20 hw
        · replace hw := hw.2 c20
          by_cases c39 : ((xs (ix x4)) &&& 31) = 2
          · replace hw := hw.1 c39
            refine g_tableIn X 268 dL_law_39 (by rw [c39]; decide) (by rw [c39]; decide) (by rw [c39]; rfl) (by decide) ?_
            exact kL_arm_2 hl9 X XX hX hbl hbA hend ih hn9 kc v sl b r tx y o x w hs ou x4 c39 hw
          · replace hw := hw.2 c39
            by_cases c56 : ((xs (ix x4)) &&& 31) = 3
            · replace hw := hw.1 c56
              refine g_tableIn X 324 dL_law_39 (by rw [c56]; decide) (by rw [c56]; decide) (by rw [c56]; rfl) (by decide) ?_
              exact kL_arm_3 hl9 X XX hX hbl hbA hend ih hn9 kc v sl b r tx y o x w hs ou x4 c56 hw
            · replace hw := hw.2 c56
              by_cases c76 : ((xs (ix x4)) &&& 31) = 4
              · replace hw := hw.1 c76
                refine g_tableIn X 392 dL_law_39 (by rw [c76]; decide) (by rw [c76]; decide) (by rw [c76]; rfl) (by decide) ?_
                exact kL_arm_4 hl9 X XX hX hbl hbA hend ih hn9 kc v sl b r tx y o x w hs ou x4 c76 hw
              · replace hw := hw.2 c76
                by_cases c94 : ((xs (ix x4)) &&& 31) = 5
                · replace hw := hw.1 c94
                  refine g_tableIn X 448 dL_law_39 (by rw [c94]; decide) (by rw [c94]; decide) (by rw [c94]; rfl) (by decide) ?_
                  exact kL_arm_5 hl9 X XX hX hbl hbA hend ih hn9 kc v sl b r tx y o x w hs ou x4 c94 hw
                · replace hw := hw.2 c94
                  by_cases c112 : ((xs (ix x4)) &&& 31) = 6
                  · replace hw := hw.1 c112
                    refine g_tableIn X 504 dL_law_39 (by rw [c112]; decide) (by rw [c112]; decide) (by rw [c112]; rfl) (by decide) ?_
                    exact kL_arm_6 hl9 X XX hX hbl hbA hend ih hn9 kc v sl b r tx y o x w hs ou x4 c112 hw
                  · replace hw := hw.2 c112
                    by_cases c127 : ((xs (ix x4)) &&& 31) = 7
                    · replace hw := hw.1 c127
                      refine g_tableIn X 560 dL_law_39 (by rw [c127]; decide) (by rw [c127]; decide) (by rw [c127]; rfl) (by decide) ?_
                      exact kL_arm_7 hl9 X XX hX hbl hbA hend ih hn9 kc v sl b r tx y o x w hs ou x4 c127 hw
                    · replace hw := hw.2 c127
                      by_cases c135 : ((xs (ix x4)) &&& 31) = 8
                      · replace hw := hw.1 c135
                        refine g_tableIn X 573 dL_law_39 (by rw [c135]; decide) (by rw [c135]; decide) (by rw [c135]; rfl) (by decide) ?_
                        exact kL_arm_8 hl9 X XX hX hbl hbA hend ih hn9 kc v sl b r tx y o x w hs ou x4 c135 hw
                      · replace hw := hw.2 c135
                        by_cases c142 : ((xs (ix x4)) &&& 31) = 9
                        · replace hw := hw.1 c142
                          refine g_tableIn X 586 dL_law_39 (by rw [c142]; decide) (by rw [c142]; decide) (by rw [c142]; rfl) (by decide) ?_
                          exact kL_arm_9 hl9 X XX hX hbl hbA hend ih hn9 kc v sl b r tx y o x w hs ou x4 c142 hw
                        · replace hw := hw.2 c142
                          by_cases c158 : ((xs (ix x4)) &&& 31) = 10
                          · replace hw := hw.1 c158
                            refine g_tableIn X 630 dL_law_39 (by rw [c158]; decide) (by rw [c158]; decide) (by rw [c158]; rfl) (by decide) ?_
                            exact kL_arm_10 hl9 X XX hX hbl hbA hend ih hn9 kc v sl b r tx y o x w hs ou x4 c158 hw
                          · replace hw := hw.2 c158
                            by_cases c174 : ((xs (ix x4)) &&& 31) = 11
                            · replace hw := hw.1 c174
                              refine g_tableIn X 686 dL_law_39 (by rw [c174]; decide) (by rw [c174]; decide) (by rw [c174]; rfl) (by decide) ?_
                              exact kL_arm_11 hl9 X XX hX hbl hbA hend ih hn9 kc v sl b r tx y o x w hs ou x4 c174 hw
                            · replace hw := hw.2 c174
                              by_cases c191 : ((xs (ix x4)) &&& 31) = 12
                              · replace hw := hw.1 c191
                                refine g_tableIn X 742 dL_law_39 (by rw [c191]; decide) (by rw [c191]; decide) (by rw [c191]; rfl) (by decide) ?_
                                exact kL_arm_12 hl9 X XX hX hbl hbA hend ih hn9 kc v sl b r tx y o x w hs ou x4 c191 hw
                              · replace hw := hw.2 c191
                                by_cases c205 : ((xs (ix x4)) &&& 31) = 13
                                · replace hw := hw.1 c205
                                  refine g_tableIn X 786 dL_law_39 (by rw [c205]; decide) (by rw [c205]; decide) (by rw [c205]; rfl) (by decide) ?_
                                  exact kL_arm_13 hl9 X XX hX hbl hbA hend ih hn9 kc v sl b r tx y o x w hs ou x4 c205 hw
                                · replace hw := hw.2 c205
                                  by_cases c221 : ((xs (ix x4)) &&& 31) = 14
                                  · replace hw := hw.1 c221
                                    refine g_tableIn X 854 dL_law_39 (by rw [c221]; decide) (by rw [c221]; decide) (by rw [c221]; rfl) (by decide) ?_
                                    exact kL_arm_14 hl9 X XX hX hbl hbA hend ih hn9 kc v sl b r tx y o x w hs ou x4 c221 hw
                                  · replace hw := hw.2 c221
                                    by_cases c237 : ((xs (ix x4)) &&& 31) = 15
                                    · replace hw := hw.1 c237
                                      refine g_tableIn X 922 dL_law_39 (by rw [c237]; decide) (by rw [c237]; decide) (by rw [c237]; rfl) (by decide) ?_
                                      exact kL_arm_15 hl9 X XX hX hbl hbA hend ih hn9 kc v sl b r tx y o x w hs ou x4 c237 hw
                                    · replace hw := hw.2 c237
                                      by_cases c253 : ((xs (ix x4)) &&& 31) = 16
                                      · replace hw := hw.1 c253
                                        refine g_tableIn X 990 dL_law_39 (by rw [c253]; decide) (by rw [c253]; decide) (by rw [c253]; rfl) (by decide) ?_
                                        exact kL_arm_16 hl9 X XX hX hbl hbA hend ih hn9 kc v sl b r tx y o x w hs ou x4 c253 hw
                                      · replace hw := hw.2 c253
                                        by_cases c270 : ((xs (ix x4)) &&& 31) = 17
                                        · replace hw := hw.1 c270
                                          refine g_tableIn X 1058 dL_law_39 (by rw [c270]; decide) (by rw [c270]; decide) (by rw [c270]; rfl) (by decide) ?_
                                          exact kL_arm_17 hl9 X XX hX hbl hbA hend ih hn9 kc v sl b r tx y o x w hs ou x4 c270 hw
                                        · replace hw := hw.2 c270
                                          by_cases c285 : ((xs (ix x4)) &&& 31) = 18
                                          · replace hw := hw.1 c285
                                            refine g_tableIn X 1114 dL_law_39 (by rw [c285]; decide) (by rw [c285]; decide) (by rw [c285]; rfl) (by decide) ?_
                                            exact kL_arm_18 hl9 X XX hX hbl hbA hend ih hn9 kc v sl b r tx y o x w hs ou x4 c285 hw
                                          · replace hw := hw.2 c285
                                            by_cases c302 : ((xs (ix x4)) &&& 31) = 19
                                            · replace hw := hw.1 c302
                                              refine g_tableIn X 1182 dL_law_39 (by rw [c302]; decide) (by rw [c302]; decide) (by rw [c302]; rfl) (by decide) ?_
                                              exact kL_arm_19 hl9 X XX hX hbl hbA hend ih hn9 kc v sl b r tx y o x w hs ou x4 c302 hw
                                            · replace hw := hw.2 c302
                                              by_cases c311 : ((xs (ix x4)) &&& 31) = 20
                                              · replace hw := hw.1 c311
                                                refine g_tableIn X 1195 dL_law_39 (by rw [c311]; decide) (by rw [c311]; decide) (by rw [c311]; rfl) (by decide) ?_
                                                exact kL_arm_20 hl9 X XX hX hbl hbA hend ih hn9 kc v sl b r tx y o x w hs ou x4 c311 hw
                                              · replace hw := hw.2 c311
                                                by_cases c327 : ((xs (ix x4)) &&& 31) = 21
                                                · replace hw := hw.1 c327
                                                  refine g_tableIn X 1263 dL_law_39 (by rw [c327]; decide) (by rw [c327]; decide) (by rw [c327]; rfl) (by decide) ?_
                                                  exact kL_arm_21 hl9 X XX hX hbl hbA hend ih hn9 kc v sl b r tx y o x w hs ou x4 c327 hw
                                                · replace hw := hw.2 c327
                                                  by_cases c336 : ((xs (ix x4)) &&& 31) = 22
                                                  · replace hw := hw.1 c336
                                                    refine g_tableIn X 1304 dL_law_39 (by rw [c336]; decide) (by rw [c336]; decide) (by rw [c336]; rfl) (by decide) ?_
                                                    exact kL_arm_22 hl9 X XX hX hbl hbA hend ih hn9 kc v sl b r tx y o x w hs ou x4 c336 hw
                                                  · replace hw := hw.2 c336
                                                    refine g_tableOut X 1318 dL_law_39 (by have tc3 := lv_neT c3 (show (0 : Int32).toInt = 0 from rfl); have tc20 := lv_neT c20 (show (1 : Int32).toInt = 1 from rfl); have tc39 := lv_neT c39 (show (2 : Int32).toInt = 2 from rfl); have tc56 := lv_neT c56 (show (3 : Int32).toInt = 3 from rfl); have tc76 := lv_neT c76 (show (4 : Int32).toInt = 4 from rfl); have tc94 := lv_neT c94 (show (5 : Int32).toInt = 5 from rfl); have tc112 := lv_neT c112 (show (6 : Int32).toInt = 6 from rfl); have tc127 := lv_neT c127 (show (7 : Int32).toInt = 7 from rfl); have tc135 := lv_neT c135 (show (8 : Int32).toInt = 8 from rfl); have tc142 := lv_neT c142 (show (9 : Int32).toInt = 9 from rfl); have tc158 := lv_neT c158 (show (10 : Int32).toInt = 10 from rfl); have tc174 := lv_neT c174 (show (11 : Int32).toInt = 11 from rfl); have tc191 := lv_neT c191 (show (12 : Int32).toInt = 12 from rfl); have tc205 := lv_neT c205 (show (13 : Int32).toInt = 13 from rfl); have tc221 := lv_neT c221 (show (14 : Int32).toInt = 14 from rfl); have tc237 := lv_neT c237 (show (15 : Int32).toInt = 15 from rfl); have tc253 := lv_neT c253 (show (16 : Int32).toInt = 16 from rfl); have tc270 := lv_neT c270 (show (17 : Int32).toInt = 17 from rfl); have tc285 := lv_neT c285 (show (18 : Int32).toInt = 18 from rfl); have tc302 := lv_neT c302 (show (19 : Int32).toInt = 19 from rfl); have tc311 := lv_neT c311 (show (20 : Int32).toInt = 20 from rfl); have tc327 := lv_neT c327 (show (21 : Int32).toInt = 21 from rfl); have tc336 := lv_neT c336 (show (22 : Int32).toInt = 22 from rfl); have tz : ((xs x4.toNatClampNeg) &&& 31).toInt = ((xs (ix x4)) &&& 31).toInt := rfl; omega) (by decide) ?_
                                                    refine g_iinc X [(4, .int (x4 + 3)), (0, .ref sb), (1, .ref (g 0 0)), (2, .ref (am 0)), (3, .ref (qa 0))] 4 dL_law_1318 rfl rfl (by decide) rfl ?_
                                                    refine g_goto X 23 dL_law_1321 (by decide) ?_
                                                    refine g_sub [(0, .ref sb), (1, .ref (g 0 0)), (2, .ref (am 0)), (3, .ref (qa 0)), (4, .int (x4 + 3))] [1, 2, 3, 4, 0] rfl ?_
                                                    refine g_wide (k2 := 117 + (513 - n)) (j2 := 2344 + 6 * (513 - n)) (by omega) (by omega) ?_
                                                    exact ih (by omega) _ _ _ _ _ _ _ _ _ _ _ _ _ hw

