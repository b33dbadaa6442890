def f_L_sw (N Ln : Nat) (xs : Nat → Int32) (v4 : Int32) (M : Mm) : Option (Bool × Mm) :=
  lt ((xs v4.toNatClampNeg) &&& (63 : Int32)) (fun x => if x = (0 : Int32) then f_L_c0 N Ln xs v4 M else if x = (1 : Int32) then f_L_c1 N Ln xs v4 M else if x = (2 : Int32) then f_L_c2 N Ln xs v4 M else if x = (3 : Int32) then f_L_c3 N Ln xs v4 M else if x = (4 : Int32) then f_L_c4 N Ln xs v4 M else if x = (5 : Int32) then f_L_c5 N Ln xs v4 M else if x = (6 : Int32) then f_L_c6 N Ln xs v4 M else if x = (7 : Int32) then f_L_c7 N Ln xs v4 M else if x = (8 : Int32) then f_L_c8 N Ln xs v4 M else if x = (9 : Int32) then f_L_c9 N Ln xs v4 M else if x = (10 : Int32) then f_L_c10 N Ln xs v4 M else if x = (11 : Int32) then f_L_c11 N Ln xs v4 M else if x = (12 : Int32) then f_L_c12 N Ln xs v4 M else if x = (13 : Int32) then f_L_c13 N Ln xs v4 M else if x = (14 : Int32) then f_L_c14 N Ln xs v4 M else if x = (15 : Int32) then f_L_c15 N Ln xs v4 M else if x = (16 : Int32) then f_L_c16 N Ln xs v4 M else if x = (17 : Int32) then f_L_c17 N Ln xs v4 M else if x = (18 : Int32) then f_L_c18 N Ln xs v4 M else if x = (19 : Int32) then f_L_c19 N Ln xs v4 M else if x = (20 : Int32) then f_L_c20 N Ln xs v4 M else if x = (21 : Int32) then f_L_c21 N Ln xs v4 M else if x = (22 : Int32) then f_L_c22 N Ln xs v4 M else if x = (23 : Int32) then f_L_c23 N Ln xs v4 M else if x = (24 : Int32) then f_L_c24 N Ln xs v4 M else if x = (25 : Int32) then f_L_c25 N Ln xs v4 M else if x = (26 : Int32) then f_L_c26 N Ln xs v4 M else if x = (27 : Int32) then f_L_c27 N Ln xs v4 M else if x = (28 : Int32) then f_L_c28 N Ln xs v4 M else if x = (29 : Int32) then f_L_c29 N Ln xs v4 M else if x = (30 : Int32) then f_L_c30 N Ln xs v4 M else if x = (31 : Int32) then f_L_c31 N Ln xs v4 M else if x = (32 : Int32) then f_L_c32 N Ln xs v4 M else if x = (33 : Int32) then f_L_c33 N Ln xs v4 M else if x = (34 : Int32) then f_L_c34 N Ln xs v4 M else if x = (35 : Int32) then f_L_c35 N Ln xs v4 M else if x = (36 : Int32) then f_L_c36 N Ln xs v4 M else if x = (37 : Int32) then f_L_c37 N Ln xs v4 M else if x = (38 : Int32) then f_L_c38 N Ln xs v4 M else if x = (39 : Int32) then f_L_c39 N Ln xs v4 M else if x = (40 : Int32) then f_L_c40 N Ln xs v4 M else if x = (41 : Int32) then f_L_c41 N Ln xs v4 M else if x = (42 : Int32) then f_L_c42 N Ln xs v4 M else if x = (43 : Int32) then f_L_c43 N Ln xs v4 M else if x = (44 : Int32) then f_L_c44 N Ln xs v4 M else if x = (45 : Int32) then f_L_c45 N Ln xs v4 M else if x = (46 : Int32) then f_L_c46 N Ln xs v4 M else if x = (47 : Int32) then f_L_c47 N Ln xs v4 M else some (true, M))
set_option maxRecDepth 20000 in
set_option maxHeartbeats 4000000 in
theorem ok_sw {N Ln : Nat} {xs : Nat → Int32} {X : am_X} {l : Launch} (hl : l.stackTraces = false) (hC : am_C X l room_1 cL_law_ RL (some .boolean)) (hs : am_SC X xs Ln) {v4 : Int32} {M M' : Mm} {ce sl : Nat} {Q : State → Prop} (hce : ce + 100 ≤ 601024) (hsl : sl + 1000 ≤ 7293034) (h : f_L_sw N Ln xs v4 M = some (true, M')) (k : am_V X LY M' (ce + 3) (sl + 18) Q 2644 [some (.ref am_sc), some (.ref 0), some (.ref 208), some (.ref 219), some (.int v4), none, none] []) {y : Int32} (ey : y = (xs v4.toNatClampNeg) &&& (63 : Int32)) : am_V X LY M ce sl Q 40 [some (.ref am_sc), some (.ref 0), some (.ref 208), some (.ref 219), some (.int v4), none, none] [.int y] := by
  unfold f_L_sw at h
  obtain ⟨x, e_x, h⟩ := lt_some h
  rw [ey, ← e_x]
  by_cases c0 : x = (0 : Int32)
  · rw [if_pos c0] at h
    refine v_tableIn hC 248 dL_law__40 (by rw [c0]; decide) (by rw [c0]; decide) (by rw [c0]; first | done | rfl) rfl ?_
    exact okc_0 hl hC hs hce hsl h k
  · rw [if_neg c0] at h
    by_cases c1 : x = (1 : Int32)
    · rw [if_pos c1] at h
      refine v_tableIn hC 321 dL_law__40 (by rw [c1]; decide) (by rw [c1]; decide) (by rw [c1]; first | done | rfl) rfl ?_
      exact okc_1 hl hC hs hce hsl h k
    · rw [if_neg c1] at h
      by_cases c2 : x = (2 : Int32)
      · rw [if_pos c2] at h
        refine v_tableIn hC 346 dL_law__40 (by rw [c2]; decide) (by rw [c2]; decide) (by rw [c2]; first | done | rfl) rfl ?_
        exact okc_2 hl hC hs hce hsl h k
      · rw [if_neg c2] at h
        by_cases c3 : x = (3 : Int32)
        · rw [if_pos c3] at h
          refine v_tableIn hC 390 dL_law__40 (by rw [c3]; decide) (by rw [c3]; decide) (by rw [c3]; first | done | rfl) rfl ?_
          exact okc_3 hl hC hs hce hsl h k
        · rw [if_neg c3] at h
          by_cases c4 : x = (4 : Int32)
          · rw [if_pos c4] at h
            refine v_tableIn hC 434 dL_law__40 (by rw [c4]; decide) (by rw [c4]; decide) (by rw [c4]; first | done | rfl) rfl ?_
            exact okc_4 hl hC hs hce hsl h k
          · rw [if_neg c4] at h
            by_cases c5 : x = (5 : Int32)
            · rw [if_pos c5] at h
              refine v_tableIn hC 447 dL_law__40 (by rw [c5]; decide) (by rw [c5]; decide) (by rw [c5]; first | done | rfl) rfl ?_
              exact okc_5 hl hC hs hce hsl h k
            · rw [if_neg c5] at h
              by_cases c6 : x = (6 : Int32)
              · rw [if_pos c6] at h
                refine v_tableIn hC 515 dL_law__40 (by rw [c6]; decide) (by rw [c6]; decide) (by rw [c6]; first | done | rfl) rfl ?_
                exact okc_6 hl hC hs hce hsl h k
              · rw [if_neg c6] at h
                by_cases c7 : x = (7 : Int32)
                · rw [if_pos c7] at h
                  refine v_tableIn hC 583 dL_law__40 (by rw [c7]; decide) (by rw [c7]; decide) (by rw [c7]; first | done | rfl) rfl ?_
                  exact okc_7 hl hC hs hce hsl h k
                · rw [if_neg c7] at h
                  by_cases c8 : x = (8 : Int32)
                  · rw [if_pos c8] at h
                    refine v_tableIn hC 651 dL_law__40 (by rw [c8]; decide) (by rw [c8]; decide) (by rw [c8]; first | done | rfl) rfl ?_
                    exact okc_8 hl hC hs hce hsl h k
                  · rw [if_neg c8] at h
                    by_cases c9 : x = (9 : Int32)
                    · rw [if_pos c9] at h
                      refine v_tableIn hC 707 dL_law__40 (by rw [c9]; decide) (by rw [c9]; decide) (by rw [c9]; first | done | rfl) rfl ?_
                      exact okc_9 hl hC hs hce hsl h k
                    · rw [if_neg c9] at h
                      by_cases c10 : x = (10 : Int32)
                      · rw [if_pos c10] at h
                        refine v_tableIn hC 775 dL_law__40 (by rw [c10]; decide) (by rw [c10]; decide) (by rw [c10]; first | done | rfl) rfl ?_
                        exact okc_10 hl hC hs hce hsl h k
                      · rw [if_neg c10] at h
                        by_cases c11 : x = (11 : Int32)
                        · rw [if_pos c11] at h
                          refine v_tableIn hC 831 dL_law__40 (by rw [c11]; decide) (by rw [c11]; decide) (by rw [c11]; first | done | rfl) rfl ?_
                          exact okc_11 hl hC hs hce hsl h k
                        · rw [if_neg c11] at h
                          by_cases c12 : x = (12 : Int32)
                          · rw [if_pos c12] at h
                            refine v_tableIn hC 899 dL_law__40 (by rw [c12]; decide) (by rw [c12]; decide) (by rw [c12]; first | done | rfl) rfl ?_
                            exact okc_12 hl hC hs hce hsl h k
                          · rw [if_neg c12] at h
                            by_cases c13 : x = (13 : Int32)
                            · rw [if_pos c13] at h
                              refine v_tableIn hC 967 dL_law__40 (by rw [c13]; decide) (by rw [c13]; decide) (by rw [c13]; first | done | rfl) rfl ?_
                              exact okc_13 hl hC hs hce hsl h k
                            · rw [if_neg c13] at h
                              by_cases c14 : x = (14 : Int32)
                              · rw [if_pos c14] at h
                                refine v_tableIn hC 1058 dL_law__40 (by rw [c14]; decide) (by rw [c14]; decide) (by rw [c14]; first | done | rfl) rfl ?_
                                exact okc_14 hl hC hs hce hsl h k
                              · rw [if_neg c14] at h
                                by_cases c15 : x = (15 : Int32)
                                · rw [if_pos c15] at h
                                  refine v_tableIn hC 1149 dL_law__40 (by rw [c15]; decide) (by rw [c15]; decide) (by rw [c15]; first | done | rfl) rfl ?_
                                  exact okc_15 hl hC hs hce hsl h k
                                · rw [if_neg c15] at h
                                  by_cases c16 : x = (16 : Int32)
                                  · rw [if_pos c16] at h
                                    refine v_tableIn hC 1205 dL_law__40 (by rw [c16]; decide) (by rw [c16]; decide) (by rw [c16]; first | done | rfl) rfl ?_
                                    exact okc_16 hl hC hs hce hsl h k
                                  · rw [if_neg c16] at h
                                    by_cases c17 : x = (17 : Int32)
                                    · rw [if_pos c17] at h
                                      refine v_tableIn hC 1261 dL_law__40 (by rw [c17]; decide) (by rw [c17]; decide) (by rw [c17]; first | done | rfl) rfl ?_
                                      exact okc_17 hl hC hs hce hsl h k
                                    · rw [if_neg c17] at h
                                      by_cases c18 : x = (18 : Int32)
                                      · rw [if_pos c18] at h
                                        refine v_tableIn hC 1274 dL_law__40 (by rw [c18]; decide) (by rw [c18]; decide) (by rw [c18]; first | done | rfl) rfl ?_
                                        exact okc_18 hl hC hs hce hsl h k
                                      · rw [if_neg c18] at h
                                        by_cases c19 : x = (19 : Int32)
                                        · rw [if_pos c19] at h
                                          refine v_tableIn hC 1287 dL_law__40 (by rw [c19]; decide) (by rw [c19]; decide) (by rw [c19]; first | done | rfl) rfl ?_
                                          exact okc_19 hl hC hs hce hsl h k
                                        · rw [if_neg c19] at h
                                          by_cases c20 : x = (20 : Int32)
                                          · rw [if_pos c20] at h
                                            refine v_tableIn hC 1355 dL_law__40 (by rw [c20]; decide) (by rw [c20]; decide) (by rw [c20]; first | done | rfl) rfl ?_
                                            exact okc_20 hl hC hs hce hsl h k
                                          · rw [if_neg c20] at h
                                            by_cases c21 : x = (21 : Int32)
                                            · rw [if_pos c21] at h
                                              refine v_tableIn hC 1411 dL_law__40 (by rw [c21]; decide) (by rw [c21]; decide) (by rw [c21]; first | done | rfl) rfl ?_
                                              exact okc_21 hl hC hs hce hsl h k
                                            · rw [if_neg c21] at h
                                              by_cases c22 : x = (22 : Int32)
                                              · rw [if_pos c22] at h
                                                refine v_tableIn hC 1479 dL_law__40 (by rw [c22]; decide) (by rw [c22]; decide) (by rw [c22]; first | done | rfl) rfl ?_
                                                exact okc_22 hl hC hs hce hsl h k
                                              · rw [if_neg c22] at h
                                                by_cases c23 : x = (23 : Int32)
                                                · rw [if_pos c23] at h
                                                  refine v_tableIn hC 1547 dL_law__40 (by rw [c23]; decide) (by rw [c23]; decide) (by rw [c23]; first | done | rfl) rfl ?_
                                                  exact okc_23 hl hC hs hce hsl h k
                                                · rw [if_neg c23] at h
                                                  by_cases c24 : x = (24 : Int32)
                                                  · rw [if_pos c24] at h
                                                    refine v_tableIn hC 1560 dL_law__40 (by rw [c24]; decide) (by rw [c24]; decide) (by rw [c24]; first | done | rfl) rfl ?_
                                                    exact okc_24 hl hC hs hce hsl h k
                                                  · rw [if_neg c24] at h
                                                    by_cases c25 : x = (25 : Int32)
                                                    · rw [if_pos c25] at h
                                                      refine v_tableIn hC 1628 dL_law__40 (by rw [c25]; decide) (by rw [c25]; decide) (by rw [c25]; first | done | rfl) rfl ?_
                                                      exact okc_25 hl hC hs hce hsl h k
                                                    · rw [if_neg c25] at h
                                                      by_cases c26 : x = (26 : Int32)
                                                      · rw [if_pos c26] at h
                                                        refine v_tableIn hC 1700 dL_law__40 (by rw [c26]; decide) (by rw [c26]; decide) (by rw [c26]; first | done | rfl) rfl ?_
                                                        exact okc_26 hl hC hs hce hsl h k
                                                      · rw [if_neg c26] at h
                                                        by_cases c27 : x = (27 : Int32)
                                                        · rw [if_pos c27] at h
                                                          refine v_tableIn hC 1756 dL_law__40 (by rw [c27]; decide) (by rw [c27]; decide) (by rw [c27]; first | done | rfl) rfl ?_
                                                          exact okc_27 hl hC hs hce hsl h k
                                                        · rw [if_neg c27] at h
                                                          by_cases c28 : x = (28 : Int32)
                                                          · rw [if_pos c28] at h
                                                            refine v_tableIn hC 1812 dL_law__40 (by rw [c28]; decide) (by rw [c28]; decide) (by rw [c28]; first | done | rfl) rfl ?_
                                                            exact okc_28 hl hC hs hce hsl h k
                                                          · rw [if_neg c28] at h
                                                            by_cases c29 : x = (29 : Int32)
                                                            · rw [if_pos c29] at h
                                                              refine v_tableIn hC 1825 dL_law__40 (by rw [c29]; decide) (by rw [c29]; decide) (by rw [c29]; first | done | rfl) rfl ?_
                                                              exact okc_29 hl hC hs hce hsl h k
                                                            · rw [if_neg c29] at h
                                                              by_cases c30 : x = (30 : Int32)
                                                              · rw [if_pos c30] at h
                                                                refine v_tableIn hC 1893 dL_law__40 (by rw [c30]; decide) (by rw [c30]; decide) (by rw [c30]; first | done | rfl) rfl ?_
                                                                exact okc_30 hl hC hs hce hsl h k
                                                              · rw [if_neg c30] at h
                                                                by_cases c31 : x = (31 : Int32)
                                                                · rw [if_pos c31] at h
                                                                  refine v_tableIn hC 1906 dL_law__40 (by rw [c31]; decide) (by rw [c31]; decide) (by rw [c31]; first | done | rfl) rfl ?_
                                                                  exact okc_31 hl hC hs hce hsl h k
                                                                · rw [if_neg c31] at h
                                                                  by_cases c32 : x = (32 : Int32)
                                                                  · rw [if_pos c32] at h
                                                                    refine v_tableIn hC 1962 dL_law__40 (by rw [c32]; decide) (by rw [c32]; decide) (by rw [c32]; first | done | rfl) rfl ?_
                                                                    exact okc_32 hl hC hs hce hsl h k
                                                                  · rw [if_neg c32] at h
                                                                    by_cases c33 : x = (33 : Int32)
                                                                    · rw [if_pos c33] at h
                                                                      refine v_tableIn hC 2030 dL_law__40 (by rw [c33]; decide) (by rw [c33]; decide) (by rw [c33]; first | done | rfl) rfl ?_
                                                                      exact okc_33 hl hC hs hce hsl h k
                                                                    · rw [if_neg c33] at h
                                                                      by_cases c34 : x = (34 : Int32)
                                                                      · rw [if_pos c34] at h
                                                                        refine v_tableIn hC 2043 dL_law__40 (by rw [c34]; decide) (by rw [c34]; decide) (by rw [c34]; first | done | rfl) rfl ?_
                                                                        exact okc_34 hl hC hs hce hsl h k
                                                                      · rw [if_neg c34] at h
                                                                        by_cases c35 : x = (35 : Int32)
                                                                        · rw [if_pos c35] at h
                                                                          refine v_tableIn hC 2099 dL_law__40 (by rw [c35]; decide) (by rw [c35]; decide) (by rw [c35]; first | done | rfl) rfl ?_
                                                                          exact okc_35 hl hC hs hce hsl h k
                                                                        · rw [if_neg c35] at h
                                                                          by_cases c36 : x = (36 : Int32)
                                                                          · rw [if_pos c36] at h
                                                                            refine v_tableIn hC 2112 dL_law__40 (by rw [c36]; decide) (by rw [c36]; decide) (by rw [c36]; first | done | rfl) rfl ?_
                                                                            exact okc_36 hl hC hs hce hsl h k
                                                                          · rw [if_neg c36] at h
                                                                            by_cases c37 : x = (37 : Int32)
                                                                            · rw [if_pos c37] at h
                                                                              refine v_tableIn hC 2125 dL_law__40 (by rw [c37]; decide) (by rw [c37]; decide) (by rw [c37]; first | done | rfl) rfl ?_
                                                                              exact okc_37 hl hC hs hce hsl h k
                                                                            · rw [if_neg c37] at h
                                                                              by_cases c38 : x = (38 : Int32)
                                                                              · rw [if_pos c38] at h
                                                                                refine v_tableIn hC 2181 dL_law__40 (by rw [c38]; decide) (by rw [c38]; decide) (by rw [c38]; first | done | rfl) rfl ?_
                                                                                exact okc_38 hl hC hs hce hsl h k
                                                                              · rw [if_neg c38] at h
                                                                                by_cases c39 : x = (39 : Int32)
                                                                                · rw [if_pos c39] at h
                                                                                  refine v_tableIn hC 2237 dL_law__40 (by rw [c39]; decide) (by rw [c39]; decide) (by rw [c39]; first | done | rfl) rfl ?_
                                                                                  exact okc_39 hl hC hs hce hsl h k
                                                                                · rw [if_neg c39] at h
                                                                                  by_cases c40 : x = (40 : Int32)
                                                                                  · rw [if_pos c40] at h
                                                                                    refine v_tableIn hC 2321 dL_law__40 (by rw [c40]; decide) (by rw [c40]; decide) (by rw [c40]; first | done | rfl) rfl ?_
                                                                                    exact okc_40 hl hC hs hce hsl h k
                                                                                  · rw [if_neg c40] at h
                                                                                    by_cases c41 : x = (41 : Int32)
                                                                                    · rw [if_pos c41] at h
                                                                                      refine v_tableIn hC 2405 dL_law__40 (by rw [c41]; decide) (by rw [c41]; decide) (by rw [c41]; first | done | rfl) rfl ?_
                                                                                      exact okc_41 hl hC hs hce hsl h k
                                                                                    · rw [if_neg c41] at h
                                                                                      by_cases c42 : x = (42 : Int32)
                                                                                      · rw [if_pos c42] at h
                                                                                        refine v_tableIn hC 2489 dL_law__40 (by rw [c42]; decide) (by rw [c42]; decide) (by rw [c42]; first | done | rfl) rfl ?_
                                                                                        exact okc_42 hl hC hs hce hsl h k
                                                                                      · rw [if_neg c42] at h
                                                                                        by_cases c43 : x = (43 : Int32)
                                                                                        · rw [if_pos c43] at h
                                                                                          refine v_tableIn hC 2557 dL_law__40 (by rw [c43]; decide) (by rw [c43]; decide) (by rw [c43]; first | done | rfl) rfl ?_
                                                                                          exact okc_43 hl hC hs hce hsl h k
                                                                                        · rw [if_neg c43] at h
                                                                                          by_cases c44 : x = (44 : Int32)
                                                                                          · rw [if_pos c44] at h
                                                                                            refine v_tableIn hC 2582 dL_law__40 (by rw [c44]; decide) (by rw [c44]; decide) (by rw [c44]; first | done | rfl) rfl ?_
                                                                                            exact okc_44 hl hC hs hce hsl h k
                                                                                          · rw [if_neg c44] at h
                                                                                            by_cases c45 : x = (45 : Int32)
                                                                                            · rw [if_pos c45] at h
                                                                                              refine v_tableIn hC 2595 dL_law__40 (by rw [c45]; decide) (by rw [c45]; decide) (by rw [c45]; first | done | rfl) rfl ?_
                                                                                              exact okc_45 hl hC hs hce hsl h k
                                                                                            · rw [if_neg c45] at h
                                                                                              by_cases c46 : x = (46 : Int32)
                                                                                              · rw [if_pos c46] at h
                                                                                                refine v_tableIn hC 2606 dL_law__40 (by rw [c46]; decide) (by rw [c46]; decide) (by rw [c46]; first | done | rfl) rfl ?_
                                                                                                exact okc_46 hl hC hs hce hsl h k
                                                                                              · rw [if_neg c46] at h
                                                                                                by_cases c47 : x = (47 : Int32)
                                                                                                · rw [if_pos c47] at h
                                                                                                  refine v_tableIn hC 2619 dL_law__40 (by rw [c47]; decide) (by rw [c47]; decide) (by rw [c47]; first | done | rfl) rfl ?_
                                                                                                  exact okc_47 hl hC hs hce hsl h k
                                                                                                · rw [if_neg c47] at h
                                                                                                  refine v_tableOut hC 2644 dL_law__40 (by have t_c0 := lv_neT (k := (0 : Int32)) (a := 0) c0 rfl; have t_c1 := lv_neT (k := (1 : Int32)) (a := 1) c1 rfl; have t_c2 := lv_neT (k := (2 : Int32)) (a := 2) c2 rfl; have t_c3 := lv_neT (k := (3 : Int32)) (a := 3) c3 rfl; have t_c4 := lv_neT (k := (4 : Int32)) (a := 4) c4 rfl; have t_c5 := lv_neT (k := (5 : Int32)) (a := 5) c5 rfl; have t_c6 := lv_neT (k := (6 : Int32)) (a := 6) c6 rfl; have t_c7 := lv_neT (k := (7 : Int32)) (a := 7) c7 rfl; have t_c8 := lv_neT (k := (8 : Int32)) (a := 8) c8 rfl; have t_c9 := lv_neT (k := (9 : Int32)) (a := 9) c9 rfl; have t_c10 := lv_neT (k := (10 : Int32)) (a := 10) c10 rfl; have t_c11 := lv_neT (k := (11 : Int32)) (a := 11) c11 rfl; have t_c12 := lv_neT (k := (12 : Int32)) (a := 12) c12 rfl; have t_c13 := lv_neT (k := (13 : Int32)) (a := 13) c13 rfl; have t_c14 := lv_neT (k := (14 : Int32)) (a := 14) c14 rfl; have t_c15 := lv_neT (k := (15 : Int32)) (a := 15) c15 rfl; have t_c16 := lv_neT (k := (16 : Int32)) (a := 16) c16 rfl; have t_c17 := lv_neT (k := (17 : Int32)) (a := 17) c17 rfl; have t_c18 := lv_neT (k := (18 : Int32)) (a := 18) c18 rfl; have t_c19 := lv_neT (k := (19 : Int32)) (a := 19) c19 rfl; have t_c20 := lv_neT (k := (20 : Int32)) (a := 20) c20 rfl; have t_c21 := lv_neT (k := (21 : Int32)) (a := 21) c21 rfl; have t_c22 := lv_neT (k := (22 : Int32)) (a := 22) c22 rfl; have t_c23 := lv_neT (k := (23 : Int32)) (a := 23) c23 rfl; have t_c24 := lv_neT (k := (24 : Int32)) (a := 24) c24 rfl; have t_c25 := lv_neT (k := (25 : Int32)) (a := 25) c25 rfl; have t_c26 := lv_neT (k := (26 : Int32)) (a := 26) c26 rfl; have t_c27 := lv_neT (k := (27 : Int32)) (a := 27) c27 rfl; have t_c28 := lv_neT (k := (28 : Int32)) (a := 28) c28 rfl; have t_c29 := lv_neT (k := (29 : Int32)) (a := 29) c29 rfl; have t_c30 := lv_neT (k := (30 : Int32)) (a := 30) c30 rfl; have t_c31 := lv_neT (k := (31 : Int32)) (a := 31) c31 rfl; have t_c32 := lv_neT (k := (32 : Int32)) (a := 32) c32 rfl; have t_c33 := lv_neT (k := (33 : Int32)) (a := 33) c33 rfl; have t_c34 := lv_neT (k := (34 : Int32)) (a := 34) c34 rfl; have t_c35 := lv_neT (k := (35 : Int32)) (a := 35) c35 rfl; have t_c36 := lv_neT (k := (36 : Int32)) (a := 36) c36 rfl; have t_c37 := lv_neT (k := (37 : Int32)) (a := 37) c37 rfl; have t_c38 := lv_neT (k := (38 : Int32)) (a := 38) c38 rfl; have t_c39 := lv_neT (k := (39 : Int32)) (a := 39) c39 rfl; have t_c40 := lv_neT (k := (40 : Int32)) (a := 40) c40 rfl; have t_c41 := lv_neT (k := (41 : Int32)) (a := 41) c41 rfl; have t_c42 := lv_neT (k := (42 : Int32)) (a := 42) c42 rfl; have t_c43 := lv_neT (k := (43 : Int32)) (a := 43) c43 rfl; have t_c44 := lv_neT (k := (44 : Int32)) (a := 44) c44 rfl; have t_c45 := lv_neT (k := (45 : Int32)) (a := 45) c45 rfl; have t_c46 := lv_neT (k := (46 : Int32)) (a := 46) c46 rfl; have t_c47 := lv_neT (k := (47 : Int32)) (a := 47) c47 rfl; omega) rfl ?_
                                                                                                  cases h
                                                                                                  exact v_widen (k := ce + 3) (n := sl + 18) (by omega) (by omega) k
def f_L_loop (N Ln : Nat) (xs : Nat → Int32) : Nat → Int32 → Mm → Option Mm
  | 0, _, _ => none
  | n + 1, v4, M => if (Int32.ofNat Ln - (6 : Int32)) < v4 then some M else grd (inb v4 Ln) (match f_L_sw N Ln xs v4 M with
    | some (true, M1) => f_L_loop N Ln xs n (v4 + (6 : Int32)) M1
    | _ => none)
set_option maxRecDepth 20000 in
set_option maxHeartbeats 4000000 in
theorem ok_loop {N Ln : Nat} {xs : Nat → Int32} {X : am_X} {l : Launch} (hl : l.stackTraces = false) (hC : am_C X l room_1 cL_law_ RL (some .boolean)) (hs : am_SC X xs Ln) {Q : State → Prop} (M9 : Mm) (C S : Nat) (hC9 : C + 100 ≤ 601024) (hS9 : S + 1000 ≤ 7293034)
    (kx : ∀ (M : Mm) (v4 : Int32) (ce sl : Nat), ce ≤ C → sl ≤ S → am_V X LY M ce sl Q 2650 [some (.ref am_sc), some (.ref 0), some (.ref 208), some (.ref 219), some (.int v4), none, none] []) : ∀ (n : Nat) (v4 : Int32) (M M' : Mm) (ce sl : Nat), ce + 3 * n ≤ C → sl + 18 * n ≤ S → f_L_loop N Ln xs n v4 M = some M' → am_V X LY M ce sl Q 23 [some (.ref am_sc), some (.ref 0), some (.ref 208), some (.ref 219), some (.int v4), none, none] [] := by
  intro n
  induction n with
  | zero => intro v4 M M' ce sl _ _ h; cases h
  | succ n ih =>
    intro v4 M M' ce sl h1 h2 h
    simp only [f_L_loop] at h
    refine v_iload hC dL_law__23 rfl ?_
    refine v_aload_n hC dL_law__25 rfl ?_
    refine v_ssn hC hs dL_law__26 ?_
    refine v_bipush (v := (6 : Int32)) hC dL_law__27 rfl ?_
    refine v_isub hC dL_law__29 ?_
    refine v_icmp_gt hC 2650 dL_law__30 rfl (fun c => ?_) (fun c => ?_)
    · exact kx M v4 ce sl (by omega) (by omega)
    · rw [if_neg c] at h
      obtain ⟨g, h⟩ := grd_some h
      split at h
      · rename_i M1 hsw
        refine v_aload_n hC dL_law__33 rfl ?_
        refine v_iload hC dL_law__34 rfl ?_
        refine v_ssl hC hs (inb_in g) dL_law__36 ?_
        refine v_bipush (v := (63 : Int32)) hC dL_law__37 rfl ?_
        refine v_iand hC dL_law__39 ?_
        refine ok_sw hl hC hs (by omega) (by omega) hsw ?_ rfl
        refine w_iinc hC (v4 + (6 : Int32)) dL_law__2644 rfl rfl [some (.ref am_sc), some (.ref 0), some (.ref 208), some (.ref 219), some (.int (v4 + (6 : Int32))), none, none] rfl ?_
        refine v_goto (tg := 23) hC dL_law__2647 rfl ?_
        exact ih (v4 + 6) M1 M' _ _ (by rw [Nat.mul_succ] at h1; omega) (by rw [Nat.mul_succ] at h2; omega) h
      · cases h
