def f_X11_dinerHas (N : Nat) (v1 : Int32) (v2 : Int32) (v3 : Int32) (v4 : Int32) (M : Mm) : Option (Int32 × Mm) :=
  (if v4 = (0 : Int32) then some ((2 : Int32), M) else bnd (f_X11_servedTo N v1 v2 v3 v4 M) (fun r2 M3 => (if r2 ≤ (0 : Int32) then some ((0 : Int32), M3) else bnd (f_X11_of N v2 (1 : Int32) M3) (fun r6 M7 => some (r6, M7)))))
set_option maxRecDepth 20000 in
set_option maxHeartbeats 4000000 in
theorem ok_X11_dinerHas {l : Launch} {N : Nat} {v1 v2 v3 v4 : Int32} {M : Mm} {r : Int32} {M' : Mm} (h : f_X11_dinerHas N v1 v2 v3 v4 M = some (r, M')) : am_M l yX11_dinerHas cX11_dinerHas 5 (some .int) 8 0 0 LY M [.ref 208, .int v1, .int v2, .int v3, .int v4] (.inl (some (.int r))) M' := by
  unfold f_X11_dinerHas at h
  refine am_intro (by decide) (by simp [Value.category]) (Nat.le_of_ble_eq_true rfl) (fun X hC hnt => ?_)
  refine am_start (L := [some (.ref 208), some (.int v1), some (.int v2), some (.int v3), some (.int v4)]) rfl ?_
  refine v_iload hC dX11_dinerHas_0 rfl ?_
  refine v_if_ne hC 9 dX11_dinerHas_2 rfl (fun c1 => ?_) (fun c1 => ?_)
  · rw [if_neg c1] at h
    refine v_aload_n hC dX11_dinerHas_9 rfl ?_
    refine v_iload_n hC dX11_dinerHas_10 rfl ?_
    refine v_iload_n hC dX11_dinerHas_11 rfl ?_
    refine v_iload_n hC dX11_dinerHas_12 rfl ?_
    refine v_iload hC dX11_dinerHas_13 rfl ?_
    obtain ⟨r2, M3, q4, h⟩ := bnd_some h
    refine w_callVi hC [.int v1, .int v2, .int v3, .int v4] [] (ok_X11_servedTo q4) mv_X11_servedTo aw_1787 ly_208 rfl (Nat.le_of_ble_eq_true rfl) ⟨by decide, by decide⟩ ⟨by decide, by decide⟩ dX11_dinerHas_15 ?_
    refine v_if_le hC 30 dX11_dinerHas_18 rfl (fun c5 => ?_) (fun c5 => ?_)
    · rw [if_pos c5] at h
      refine v_iconst (v := (0 : Int32)) hC dX11_dinerHas_30 rfl ?_
      cases h
      exact v_iret hC (by decide) (by decide) dX11_dinerHas_31
    · rw [if_neg c5] at h
      refine v_aload_n hC dX11_dinerHas_21 rfl ?_
      refine v_iload_n hC dX11_dinerHas_22 rfl ?_
      refine v_iconst (v := (1 : Int32)) hC dX11_dinerHas_23 rfl ?_
      obtain ⟨r6, M7, q8, h⟩ := bnd_some h
      refine w_callVi hC [.int v2, .int (1 : Int32)] [] (ok_X11_of q8) mv_X11_of aw_1380 ly_208 rfl (Nat.le_of_ble_eq_true rfl) ⟨by decide, by decide⟩ ⟨by decide, by decide⟩ dX11_dinerHas_24 ?_
      refine v_goto (tg := 31) hC dX11_dinerHas_27 rfl ?_
      cases h
      exact v_iret hC (by decide) (by decide) dX11_dinerHas_31
  · rw [if_pos c1] at h
    refine v_iconst (v := (2 : Int32)) hC dX11_dinerHas_5 rfl ?_
    refine v_goto (tg := 31) hC dX11_dinerHas_6 rfl ?_
    cases h
    exact v_iret hC (by decide) (by decide) dX11_dinerHas_31
def f_X11_rests_50 (N : Nat) (M : Mm) : Option (Int32 × Mm) :=
  some ((0 : Int32), M)
def f_X11_rests (N : Nat) (v1 : Int32) (v2 : Int32) (v3 : Int32) (v4 : Int32) (M : Mm) : Option (Int32 × Mm) :=
  bnd (f_X11_servedTo N v1 v2 v3 v4 M) (fun r1 M2 => bnd (f_X11_servedTo N v1 v2 ((1 : Int32) - v3) v4 M2) (fun r4 M5 => (if r1 < r4 then f_X11_rests_50 N M5 else bnd (f_X11_dinerHas N v1 v2 v3 v4 M5) (fun r8 M9 => bnd (f_X11_dinerHas N v1 v2 v3 ((1 : Int32) - v4) M9) (fun r11 M12 => (if r8 < r11 then f_X11_rests_50 N M12 else some ((1 : Int32), M12)))))))
set_option maxRecDepth 20000 in
set_option maxHeartbeats 4000000 in
theorem ok_X11_rests_50 {N : Nat} {X : am_X} {l : Launch} (hC : am_C X l (am_rm 9 0 0) cX11_rests yX11_rests.cls (some .boolean)) (hnt : am_NT X) {M : Mm} {r : Int32} {M' : Mm} (h : f_X11_rests_50 N M = some (r, M')) : am_V X LY M 0 0 (am_Q X LY 0 0 (.inl (some (.int r))) M') 50 [none, none, none, none, none] [] := by
  unfold f_X11_rests_50 at h
  refine v_iconst (v := (0 : Int32)) hC dX11_rests_50 rfl ?_
  cases h
  exact v_zret hC (by decide) (by decide) (by decide) dX11_rests_51
set_option maxRecDepth 20000 in
set_option maxHeartbeats 4000000 in
theorem ok_X11_rests {l : Launch} {N : Nat} {v1 v2 v3 v4 : Int32} {M : Mm} {r : Int32} {M' : Mm} (h : f_X11_rests N v1 v2 v3 v4 M = some (r, M')) : am_M l yX11_rests cX11_rests 5 (some .boolean) 9 0 0 LY M [.ref 208, .int v1, .int v2, .int v3, .int v4] (.inl (some (.int r))) M' := by
  unfold f_X11_rests at h
  refine am_intro (by decide) (by simp [Value.category]) (Nat.le_of_ble_eq_true rfl) (fun X hC hnt => ?_)
  refine am_start (L := [some (.ref 208), some (.int v1), some (.int v2), some (.int v3), some (.int v4)]) rfl ?_
  refine v_aload_n hC dX11_rests_0 rfl ?_
  refine v_iload_n hC dX11_rests_1 rfl ?_
  refine v_iload_n hC dX11_rests_2 rfl ?_
  refine v_iload_n hC dX11_rests_3 rfl ?_
  refine v_iload hC dX11_rests_4 rfl ?_
  obtain ⟨r1, M2, q3, h⟩ := bnd_some h
  refine w_callVi hC [.int v1, .int v2, .int v3, .int v4] [] (ok_X11_servedTo q3) mv_X11_servedTo aw_1787 ly_208 rfl (Nat.le_of_ble_eq_true rfl) ⟨by decide, by decide⟩ ⟨by decide, by decide⟩ dX11_rests_6 ?_
  refine v_aload_n hC dX11_rests_9 rfl ?_
  refine v_iload_n hC dX11_rests_10 rfl ?_
  refine v_iload_n hC dX11_rests_11 rfl ?_
  refine v_iconst (v := (1 : Int32)) hC dX11_rests_12 rfl ?_
  refine v_iload_n hC dX11_rests_13 rfl ?_
  refine v_isub hC dX11_rests_14 ?_
  refine v_iload hC dX11_rests_15 rfl ?_
  obtain ⟨r4, M5, q6, h⟩ := bnd_some h
  refine w_callVi hC [.int v1, .int v2, .int ((1 : Int32) - v3), .int v4] [.int r1] (ok_X11_servedTo q6) mv_X11_servedTo aw_1787 ly_208 rfl (Nat.le_of_ble_eq_true rfl) ⟨by decide, by decide⟩ ⟨by decide, by decide⟩ dX11_rests_17 ?_
  refine v_icmp_lt hC 50 dX11_rests_20 rfl (fun c7 => ?_) (fun c7 => ?_)
  · rw [if_pos c7] at h
    refine v_drop [false, false, false, false, false] [none, none, none, none, none] rfl ?_
    exact ok_X11_rests_50 hC hnt h
  · rw [if_neg c7] at h
    refine v_aload_n hC dX11_rests_23 rfl ?_
    refine v_iload_n hC dX11_rests_24 rfl ?_
    refine v_iload_n hC dX11_rests_25 rfl ?_
    refine v_iload_n hC dX11_rests_26 rfl ?_
    refine v_iload hC dX11_rests_27 rfl ?_
    obtain ⟨r8, M9, q10, h⟩ := bnd_some h
    refine w_callVi hC [.int v1, .int v2, .int v3, .int v4] [] (ok_X11_dinerHas q10) mv_X11_dinerHas aw_1791 ly_208 rfl (Nat.le_of_ble_eq_true rfl) ⟨by decide, by decide⟩ ⟨by decide, by decide⟩ dX11_rests_29 ?_
    refine v_aload_n hC dX11_rests_32 rfl ?_
    refine v_iload_n hC dX11_rests_33 rfl ?_
    refine v_iload_n hC dX11_rests_34 rfl ?_
    refine v_iload_n hC dX11_rests_35 rfl ?_
    refine v_iconst (v := (1 : Int32)) hC dX11_rests_36 rfl ?_
    refine v_iload hC dX11_rests_37 rfl ?_
    refine v_isub hC dX11_rests_39 ?_
    obtain ⟨r11, M12, q13, h⟩ := bnd_some h
    refine w_callVi hC [.int v1, .int v2, .int v3, .int ((1 : Int32) - v4)] [.int r8] (ok_X11_dinerHas q13) mv_X11_dinerHas aw_1791 ly_208 rfl (Nat.le_of_ble_eq_true rfl) ⟨by decide, by decide⟩ ⟨by decide, by decide⟩ dX11_rests_40 ?_
    refine v_icmp_lt hC 50 dX11_rests_43 rfl (fun c14 => ?_) (fun c14 => ?_)
    · rw [if_pos c14] at h
      refine v_drop [false, false, false, false, false] [none, none, none, none, none] rfl ?_
      exact ok_X11_rests_50 hC hnt h
    · rw [if_neg c14] at h
      refine v_iconst (v := (1 : Int32)) hC dX11_rests_46 rfl ?_
      refine v_goto (tg := 51) hC dX11_rests_47 rfl ?_
      cases h
      exact v_zret hC (by decide) (by decide) (by decide) dX11_rests_51
def f_X11_game_55 (N : Nat) : Nat → Int32 → Int32 → Int32 → Int32 → Mm → Option (Int32 × Mm)
  | 0, _, _, _, _, _ => none
  | n + 1, v1, v2, v3, v4, M => (if (4 : Int32) ≤ v4 then some (v3, M) else bnd (f_X11_rests N v2 v1 (v4 / (2 : Int32)) (v4 - v4 / (2 : Int32) * (2 : Int32)) M) (fun r23 M24 => (if r23 = (0 : Int32) then lt (v3 ||| (0 : Int32)) (fun x27 => f_X11_game_55 N n v1 v2 x27 (v4 + (1 : Int32)) M24) else lt (v3 ||| ((1 : Int32) <<< (v4 &&& 31))) (fun x29 => f_X11_game_55 N n v1 v2 x29 (v4 + (1 : Int32)) M24))))
def f_X11_game_22 (N : Nat) : Nat → Int32 → Int32 → Mm → Option (Int32 × Mm)
  | 0, _, _, _ => none
  | n + 1, v1, v2, M => bnd (f_X11_cellars N M) (fun r9 M10 => (if r9 ≤ v2 then some ((-1 : Int32), M10) else bnd (f_X11_isFree N v2 M10) (fun r13 M14 => (if r13 = (0 : Int32) then bnd (f_X11_eaterOf N v2 M14) (fun r18 M19 => (if r18 = v1 then f_X11_game_55 N N v1 v2 (0 : Int32) (0 : Int32) M19 else f_X11_game_22 N n v1 (v2 + (1 : Int32)) M19)) else f_X11_game_22 N n v1 (v2 + (1 : Int32)) M14))))
def f_X11_game (N : Nat) (v1 : Int32) (M : Mm) : Option (Int32 × Mm) :=
  lt (wr M 208 0 (0 : Int32)) (fun M1 => bnd (f_X11_noDiner N v1 M1) (fun r2 M3 => bnd (f_X11_throwsIf N r2 (1 : Int32) M3) (fun r5 M6 => (if r5 = (0 : Int32) then f_X11_game_22 N N v1 (0 : Int32) M6 else some ((0 : Int32), M6)))))
set_option maxRecDepth 20000 in
set_option maxHeartbeats 4000000 in
theorem ok_X11_game_55 {N : Nat} {X : am_X} {l : Launch} (hC : am_C X l (am_rm 10 0 0) cX11_game yX11_game.cls (some .int)) (hnt : am_NT X) : ∀ (n : Nat) (v1 v2 v3 v4 : Int32) (M : Mm) (r : Int32) (M' : Mm), f_X11_game_55 N n v1 v2 v3 v4 M = some (r, M') → am_V X LY M 0 0 (am_Q X LY 0 0 (.inl (some (.int r))) M') 55 [some (.ref 208), some (.int v1), some (.int v2), some (.int v3), some (.int v4)] [] := by
  intro n
  induction n with
  | zero => intro v1 v2 v3 v4 M r M' h; cases h
  | succ n ih =>
    intro v1 v2 v3 v4 M r M' h
    simp only [f_X11_game_55] at h
    refine v_iload hC dX11_game_55 rfl ?_
    refine v_iconst (v := (4 : Int32)) hC dX11_game_57 rfl ?_
    refine v_icmp_ge hC 95 dX11_game_58 rfl (fun c22 => ?_) (fun c22 => ?_)
    · rw [if_pos c22] at h
      refine v_iload_n hC dX11_game_95 rfl ?_
      cases h
      exact v_iret hC (by decide) (by decide) dX11_game_96
    · rw [if_neg c22] at h
      refine v_iload_n hC dX11_game_61 rfl ?_
      refine v_aload_n hC dX11_game_62 rfl ?_
      refine v_iload_n hC dX11_game_63 rfl ?_
      refine v_iload_n hC dX11_game_64 rfl ?_
      refine v_iload hC dX11_game_65 rfl ?_
      refine v_iconst (v := (2 : Int32)) hC dX11_game_67 rfl ?_
      refine v_idiv hC dX11_game_68 (by decide) ?_
      refine v_iload hC dX11_game_69 rfl ?_
      refine v_iconst (v := (2 : Int32)) hC dX11_game_71 rfl ?_
      refine v_irem hC dX11_game_72 (by decide) ?_
      obtain ⟨r23, M24, q25, h⟩ := bnd_some h
      refine w_callVi hC [.int v2, .int v1, .int (v4 / (2 : Int32)), .int (v4 - v4 / (2 : Int32) * (2 : Int32))] [.int v3] (ok_X11_rests q25) mv_X11_rests aw_1783 ly_208 rfl (Nat.le_of_ble_eq_true rfl) ⟨by decide, by decide⟩ ⟨by decide, by decide⟩ dX11_game_73 ?_
      refine v_if_eq hC 86 dX11_game_76 rfl (fun c26 => ?_) (fun c26 => ?_)
      · rw [if_pos c26] at h
        refine v_iconst (v := (0 : Int32)) hC dX11_game_86 rfl ?_
        refine v_ior hC dX11_game_87 ?_
        obtain ⟨x27, e_x27, h⟩ := lt_some h
        refine v_nam e_x27 ?_
        refine w_istore_n hC dX11_game_88 (ltk rfl) [some (.ref 208), some (.int v1), some (.int v2), some (.int x27), some (.int v4)] rfl ?_
        refine w_iinc hC (v4 + (1 : Int32)) dX11_game_89 rfl rfl [some (.ref 208), some (.int v1), some (.int v2), some (.int x27), some (.int (v4 + (1 : Int32)))] rfl ?_
        refine v_goto (tg := 55) hC dX11_game_92 rfl ?_
        exact ih _ _ _ _ _ _ _ h
      · rw [if_neg c26] at h
        refine v_iconst (v := (1 : Int32)) hC dX11_game_79 rfl ?_
        refine v_iload hC dX11_game_80 rfl ?_
        refine v_ishl hC dX11_game_82 ?_
        refine v_goto (tg := 87) hC dX11_game_83 rfl ?_
        refine v_ior hC dX11_game_87 ?_
        obtain ⟨x29, e_x29, h⟩ := lt_some h
        refine v_nam e_x29 ?_
        refine w_istore_n hC dX11_game_88 (ltk rfl) [some (.ref 208), some (.int v1), some (.int v2), some (.int x29), some (.int v4)] rfl ?_
        refine w_iinc hC (v4 + (1 : Int32)) dX11_game_89 rfl rfl [some (.ref 208), some (.int v1), some (.int v2), some (.int x29), some (.int (v4 + (1 : Int32)))] rfl ?_
        refine v_goto (tg := 55) hC dX11_game_92 rfl ?_
        exact ih _ _ _ _ _ _ _ h
set_option maxRecDepth 20000 in
set_option maxHeartbeats 4000000 in
theorem ok_X11_game_22 {N : Nat} {X : am_X} {l : Launch} (hC : am_C X l (am_rm 10 0 0) cX11_game yX11_game.cls (some .int)) (hnt : am_NT X) : ∀ (n : Nat) (v1 v2 : Int32) (M : Mm) (r : Int32) (M' : Mm), f_X11_game_22 N n v1 v2 M = some (r, M') → am_V X LY M 0 0 (am_Q X LY 0 0 (.inl (some (.int r))) M') 22 [some (.ref 208), some (.int v1), some (.int v2), none, none] [] := by
  intro n
  induction n with
  | zero => intro v1 v2 M r M' h; cases h
  | succ n ih =>
    intro v1 v2 M r M' h
    simp only [f_X11_game_22] at h
    refine v_iload_n hC dX11_game_22 rfl ?_
    refine v_aload_n hC dX11_game_23 rfl ?_
    obtain ⟨r9, M10, q11, h⟩ := bnd_some h
    refine w_callVi hC [] [.int v2] (ok_X11_cellars q11) mv_X11_cellars aw_1397 ly_208 rfl (Nat.le_of_ble_eq_true rfl) ⟨by decide, by decide⟩ ⟨by decide, by decide⟩ dX11_game_24 ?_
    refine v_icmp_ge hC 103 dX11_game_27 rfl (fun c12 => ?_) (fun c12 => ?_)
    · rw [if_pos c12] at h
      refine v_iconst (v := (-1 : Int32)) hC dX11_game_103 rfl ?_
      cases h
      exact v_iret hC (by decide) (by decide) dX11_game_104
    · rw [if_neg c12] at h
      refine v_aload_n hC dX11_game_30 rfl ?_
      refine v_iload_n hC dX11_game_31 rfl ?_
      obtain ⟨r13, M14, q15, h⟩ := bnd_some h
      refine w_callVi hC [.int v2] [] (ok_X11_isFree q15) mv_X11_isFree aw_1525 ly_208 rfl (Nat.le_of_ble_eq_true rfl) ⟨by decide, by decide⟩ ⟨by decide, by decide⟩ dX11_game_32 ?_
      refine v_if_ne hC 97 dX11_game_35 rfl (fun c16 => ?_) (fun c16 => ?_)
      · rw [if_neg c16] at h
        refine w_iinc hC (v2 + (1 : Int32)) dX11_game_97 rfl rfl [some (.ref 208), some (.int v1), some (.int (v2 + (1 : Int32))), none, none] rfl ?_
        refine v_goto (tg := 22) hC dX11_game_100 rfl ?_
        exact ih _ _ _ _ _ h
      · rw [if_pos c16] at h
        refine v_aload_n hC dX11_game_38 rfl ?_
        refine v_iload_n hC dX11_game_39 rfl ?_
        obtain ⟨r18, M19, q20, h⟩ := bnd_some h
        refine w_callVi hC [.int v2] [] (ok_X11_eaterOf q20) mv_X11_eaterOf aw_1506 ly_208 rfl (Nat.le_of_ble_eq_true rfl) ⟨by decide, by decide⟩ ⟨by decide, by decide⟩ dX11_game_40 ?_
        refine v_iload_n hC dX11_game_43 rfl ?_
        refine v_icmp_eq hC 50 dX11_game_44 rfl (fun c21 => ?_) (fun c21 => ?_)
        · rw [if_pos c21] at h
          refine v_iconst (v := (0 : Int32)) hC dX11_game_50 rfl ?_
          refine w_istore_n hC dX11_game_51 (ltk rfl) [some (.ref 208), some (.int v1), some (.int v2), some (.int (0 : Int32)), none] rfl ?_
          refine v_iconst (v := (0 : Int32)) hC dX11_game_52 rfl ?_
          refine w_istore hC dX11_game_53 (ltk rfl) [some (.ref 208), some (.int v1), some (.int v2), some (.int (0 : Int32)), some (.int (0 : Int32))] rfl ?_
          exact ok_X11_game_55 hC hnt N _ _ _ _ _ _ _ h
        · rw [if_neg c21] at h
          refine v_goto (tg := 97) hC dX11_game_47 rfl ?_
          refine w_iinc hC (v2 + (1 : Int32)) dX11_game_97 rfl rfl [some (.ref 208), some (.int v1), some (.int (v2 + (1 : Int32))), none, none] rfl ?_
          refine v_goto (tg := 22) hC dX11_game_100 rfl ?_
          exact ih _ _ _ _ _ h
set_option maxRecDepth 20000 in
set_option maxHeartbeats 4000000 in
theorem ok_X11_game {l : Launch} {N : Nat} {v1 : Int32} {M : Mm} {r : Int32} {M' : Mm} (h : f_X11_game N v1 M = some (r, M')) : am_M l yX11_game cX11_game 5 (some .int) 10 0 0 LY M [.ref 208, .int v1] (.inl (some (.int r))) M' := by
  unfold f_X11_game at h
  refine am_intro (by decide) (by simp [Value.category]) (Nat.le_of_ble_eq_true rfl) (fun X hC hnt => ?_)
  refine am_start (L := [some (.ref 208), some (.int v1), none, none, none]) rfl ?_
  refine v_aload_n hC dX11_game_0 rfl ?_
  refine v_iconst (v := (0 : Int32)) hC dX11_game_1 rfl ?_
  obtain ⟨M1, e_M1, h⟩ := lt_some h
  refine w_puti (k := 0) hC cls_X11 ly_208 (by decide) rfl aw_1231 rfl rfl ⟨rfl, rfl⟩ dX11_game_2 e_M1 ?_
  refine v_aload_n hC dX11_game_5 rfl ?_
  refine v_aload_n hC dX11_game_6 rfl ?_
  refine v_iload_n hC dX11_game_7 rfl ?_
  obtain ⟨r2, M3, q4, h⟩ := bnd_some h
  refine w_callVi hC [.int v1] [.ref 208] (ok_X11_noDiner q4) mv_X11_noDiner aw_1482 ly_208 rfl (Nat.le_of_ble_eq_true rfl) ⟨by decide, by decide⟩ ⟨by decide, by decide⟩ dX11_game_8 ?_
  refine v_iconst (v := (1 : Int32)) hC dX11_game_11 rfl ?_
  obtain ⟨r5, M6, q7, h⟩ := bnd_some h
  refine w_callVi hC [.int r2, .int (1 : Int32)] [] (ok_X11_throwsIf q7) mv_X11_throwsIf aw_1470 ly_208 rfl (Nat.le_of_ble_eq_true rfl) ⟨by decide, by decide⟩ ⟨by decide, by decide⟩ dX11_game_12 ?_
  refine v_if_eq hC 20 dX11_game_15 rfl (fun c8 => ?_) (fun c8 => ?_)
  · rw [if_pos c8] at h
    refine v_iconst (v := (0 : Int32)) hC dX11_game_20 rfl ?_
    refine w_istore_n hC dX11_game_21 (ltk rfl) [some (.ref 208), some (.int v1), some (.int (0 : Int32)), none, none] rfl ?_
    exact ok_X11_game_22 hC hnt N _ _ _ _ _ h
  · rw [if_neg c8] at h
    refine v_iconst (v := (0 : Int32)) hC dX11_game_18 rfl ?_
    cases h
    exact v_iret hC (by decide) (by decide) dX11_game_19
def f_X11_crowd_79 (N : Nat) (k11 : Int32 → Int32 → Int32 → Mm → Option (Int32 × Mm)) (v2 : Int32) (v3 : Int32) (v4 : Int32) (s0 : Int32) (M : Mm) : Option (Int32 × Mm) :=
  lt (if v2 < v4 then v4 else v2) (fun x8 => k11 s0 x8 (v3 + (1 : Int32)) M)
def f_X11_crowd_58 (N : Nat) (k23 : Int32 → Int32 → Int32 → Int32 → Int32 → Mm → Option (Int32 × Mm)) (v1 : Int32) (v2 : Int32) (v3 : Int32) (v5 : Int32) (s0 : Int32) (M : Mm) : Option (Int32 × Mm) :=
  lt (s0 + (0 : Int32)) (fun x14 => k23 v1 v2 v3 x14 (v5 + (1 : Int32)) M)
def f_X11_crowd_23 (N : Nat) (k11 : Int32 → Int32 → Int32 → Mm → Option (Int32 × Mm)) : Nat → Int32 → Int32 → Int32 → Int32 → Int32 → Mm → Option (Int32 × Mm)
  | 0, _, _, _, _, _, _ => none
  | n + 1, v1, v2, v3, v4, v5, M => bnd (f_X11_cellars N M) (fun r3 M4 => (if r3 ≤ v5 then (if v4 ≤ v2 then f_X11_crowd_79 N k11 v2 v3 v4 v1 M4 else f_X11_crowd_79 N k11 v2 v3 v4 v3 M4) else bnd (f_X11_isFree N v5 M4) (fun r10 M11 => (if r10 = (0 : Int32) then bnd (f_X11_ofCellar N v5 (0 : Int32) M11) (fun r16 M17 => (if r16 = v3 then lt (v4 + (1 : Int32)) (fun x20 => f_X11_crowd_23 N k11 n v1 v2 v3 x20 (v5 + (1 : Int32)) M17) else f_X11_crowd_58 N (fun v1 v2 v3 v4 v5 M => f_X11_crowd_23 N k11 n v1 v2 v3 v4 v5 M) v1 v2 v3 v5 v4 M17)) else f_X11_crowd_58 N (fun v1 v2 v3 v4 v5 M => f_X11_crowd_23 N k11 n v1 v2 v3 v4 v5 M) v1 v2 v3 v5 v4 M11))))
def f_X11_crowd_11 (N : Nat) : Nat → Int32 → Int32 → Int32 → Mm → Option (Int32 × Mm)
  | 0, _, _, _, _ => none
  | n + 1, v1, v2, v3, M => (if (10 : Int32) ≤ v3 then some (v1, M) else f_X11_crowd_23 N (fun v1 v2 v3 M => f_X11_crowd_11 N n v1 v2 v3 M) N v1 v2 v3 (0 : Int32) (0 : Int32) M)
def f_X11_crowd (N : Nat) (M : Mm) : Option (Int32 × Mm) :=
  lt (wr M 208 0 (0 : Int32)) (fun M1 => f_X11_crowd_11 N N (-1 : Int32) (0 : Int32) (0 : Int32) M1)
set_option maxRecDepth 20000 in
set_option maxHeartbeats 4000000 in
theorem ok_X11_crowd_79 {N : Nat} {X : am_X} {l : Launch} (hC : am_C X l (am_rm 4 0 0) cX11_crowd yX11_crowd.cls (some .int)) (hnt : am_NT X) {k11 : Int32 → Int32 → Int32 → Mm → Option (Int32 × Mm)} (hk11 : ∀ (v1 v2 v3 : Int32) (M : Mm) (r : Int32) (M' : Mm), k11 v1 v2 v3 M = some (r, M') → am_V X LY M 0 0 (am_Q X LY 0 0 (.inl (some (.int r))) M') 11 [some (.ref 208), some (.int v1), some (.int v2), some (.int v3), none, none] []) {v2 v3 v4 s0 : Int32} {M : Mm} {r : Int32} {M' : Mm} (h : f_X11_crowd_79 N k11 v2 v3 v4 s0 M = some (r, M')) : am_V X LY M 0 0 (am_Q X LY 0 0 (.inl (some (.int r))) M') 79 [some (.ref 208), none, some (.int v2), some (.int v3), some (.int v4), none] [.int s0] := by
  unfold f_X11_crowd_79 at h
  refine w_istore_n hC dX11_crowd_79 (ltk rfl) [some (.ref 208), some (.int s0), some (.int v2), some (.int v3), some (.int v4), none] rfl ?_
  refine v_iload_n hC dX11_crowd_80 rfl ?_
  refine v_iload hC dX11_crowd_81 rfl ?_
  refine v_mmax hC aw_1537 wm_max (Nat.le_of_ble_eq_true rfl) (Nat.le_of_ble_eq_true rfl) (Nat.le_of_ble_eq_true rfl) (Nat.le_of_ble_eq_true rfl) dX11_crowd_83 ?_
  obtain ⟨x8, e_x8, h⟩ := lt_some h
  refine v_nam e_x8 ?_
  refine w_istore_n hC dX11_crowd_86 (ltk rfl) [some (.ref 208), some (.int s0), some (.int x8), some (.int v3), some (.int v4), none] rfl ?_
  refine w_iinc hC (v3 + (1 : Int32)) dX11_crowd_87 rfl rfl [some (.ref 208), some (.int s0), some (.int x8), some (.int (v3 + (1 : Int32))), some (.int v4), none] rfl ?_
  refine v_goto (tg := 11) hC dX11_crowd_90 rfl ?_
  refine v_drop [true, true, true, true, false, false] [some (.ref 208), some (.int s0), some (.int x8), some (.int (v3 + (1 : Int32))), none, none] rfl ?_
  exact hk11 _ _ _ _ _ _ h
set_option maxRecDepth 20000 in
set_option maxHeartbeats 4000000 in
theorem ok_X11_crowd_58 {N : Nat} {X : am_X} {l : Launch} (hC : am_C X l (am_rm 4 0 0) cX11_crowd yX11_crowd.cls (some .int)) (hnt : am_NT X) {k23 : Int32 → Int32 → Int32 → Int32 → Int32 → Mm → Option (Int32 × Mm)} (hk23 : ∀ (v1 v2 v3 v4 v5 : Int32) (M : Mm) (r : Int32) (M' : Mm), k23 v1 v2 v3 v4 v5 M = some (r, M') → am_V X LY M 0 0 (am_Q X LY 0 0 (.inl (some (.int r))) M') 23 [some (.ref 208), some (.int v1), some (.int v2), some (.int v3), some (.int v4), some (.int v5)] []) {v1 v2 v3 v5 s0 : Int32} {M : Mm} {r : Int32} {M' : Mm} (h : f_X11_crowd_58 N k23 v1 v2 v3 v5 s0 M = some (r, M')) : am_V X LY M 0 0 (am_Q X LY 0 0 (.inl (some (.int r))) M') 58 [some (.ref 208), some (.int v1), some (.int v2), some (.int v3), none, some (.int v5)] [.int s0] := by
  unfold f_X11_crowd_58 at h
  refine v_iconst (v := (0 : Int32)) hC dX11_crowd_58 rfl ?_
  refine v_iadd hC dX11_crowd_59 ?_
  obtain ⟨x14, e_x14, h⟩ := lt_some h
  refine v_nam e_x14 ?_
  refine w_istore hC dX11_crowd_60 (ltk rfl) [some (.ref 208), some (.int v1), some (.int v2), some (.int v3), some (.int x14), some (.int v5)] rfl ?_
  refine w_iinc hC (v5 + (1 : Int32)) dX11_crowd_62 rfl rfl [some (.ref 208), some (.int v1), some (.int v2), some (.int v3), some (.int x14), some (.int (v5 + (1 : Int32)))] rfl ?_
  refine v_goto (tg := 23) hC dX11_crowd_65 rfl ?_
  exact hk23 _ _ _ _ _ _ _ _ h
set_option maxRecDepth 20000 in
set_option maxHeartbeats 4000000 in
theorem ok_X11_crowd_23 {N : Nat} {X : am_X} {l : Launch} (hC : am_C X l (am_rm 4 0 0) cX11_crowd yX11_crowd.cls (some .int)) (hnt : am_NT X) {k11 : Int32 → Int32 → Int32 → Mm → Option (Int32 × Mm)} (hk11 : ∀ (v1 v2 v3 : Int32) (M : Mm) (r : Int32) (M' : Mm), k11 v1 v2 v3 M = some (r, M') → am_V X LY M 0 0 (am_Q X LY 0 0 (.inl (some (.int r))) M') 11 [some (.ref 208), some (.int v1), some (.int v2), some (.int v3), none, none] []) : ∀ (n : Nat) (v1 v2 v3 v4 v5 : Int32) (M : Mm) (r : Int32) (M' : Mm), f_X11_crowd_23 N k11 n v1 v2 v3 v4 v5 M = some (r, M') → am_V X LY M 0 0 (am_Q X LY 0 0 (.inl (some (.int r))) M') 23 [some (.ref 208), some (.int v1), some (.int v2), some (.int v3), some (.int v4), some (.int v5)] [] := by
  intro n
  induction n with
  | zero => intro v1 v2 v3 v4 v5 M r M' h; cases h
  | succ n ih =>
    intro v1 v2 v3 v4 v5 M r M' h
    simp only [f_X11_crowd_23] at h
    refine v_iload hC dX11_crowd_23 rfl ?_
    refine v_aload_n hC dX11_crowd_25 rfl ?_
    obtain ⟨r3, M4, q5, h⟩ := bnd_some h
    refine w_callVi hC [] [.int v5] (ok_X11_cellars q5) mv_X11_cellars aw_1397 ly_208 rfl (Nat.le_of_ble_eq_true rfl) ⟨by decide, by decide⟩ ⟨by decide, by decide⟩ dX11_crowd_26 ?_
    refine v_icmp_ge hC 68 dX11_crowd_29 rfl (fun c6 => ?_) (fun c6 => ?_)
    · rw [if_pos c6] at h
      refine v_iload hC dX11_crowd_68 rfl ?_
      refine v_iload_n hC dX11_crowd_70 rfl ?_
      refine v_icmp_le hC 78 dX11_crowd_71 rfl (fun c7 => ?_) (fun c7 => ?_)
      · rw [if_pos c7] at h
        refine v_iload_n hC dX11_crowd_78 rfl ?_
        refine v_drop [true, false, true, true, true, false] [some (.ref 208), none, some (.int v2), some (.int v3), some (.int v4), none] rfl ?_
        exact ok_X11_crowd_79 hC hnt hk11 h
      · rw [if_neg c7] at h
        refine v_iload_n hC dX11_crowd_74 rfl ?_
        refine v_goto (tg := 79) hC dX11_crowd_75 rfl ?_
        refine v_drop [true, false, true, true, true, false] [some (.ref 208), none, some (.int v2), some (.int v3), some (.int v4), none] rfl ?_
        exact ok_X11_crowd_79 hC hnt hk11 h
    · rw [if_neg c6] at h
      refine v_iload hC dX11_crowd_32 rfl ?_
      refine v_aload_n hC dX11_crowd_34 rfl ?_
      refine v_iload hC dX11_crowd_35 rfl ?_
      obtain ⟨r10, M11, q12, h⟩ := bnd_some h
      refine w_callVi hC [.int v5] [.int v4] (ok_X11_isFree q12) mv_X11_isFree aw_1525 ly_208 rfl (Nat.le_of_ble_eq_true rfl) ⟨by decide, by decide⟩ ⟨by decide, by decide⟩ dX11_crowd_37 ?_
      refine v_if_ne hC 58 dX11_crowd_40 rfl (fun c13 => ?_) (fun c13 => ?_)
      · rw [if_neg c13] at h
        refine v_drop [true, true, true, true, false, true] [some (.ref 208), some (.int v1), some (.int v2), some (.int v3), none, some (.int v5)] rfl ?_
        exact ok_X11_crowd_58 hC hnt (fun v1 v2 v3 v4 v5 M r M' h => ih v1 v2 v3 v4 v5 M r M' h) h
      · rw [if_pos c13] at h
        refine v_aload_n hC dX11_crowd_43 rfl ?_
        refine v_iload hC dX11_crowd_44 rfl ?_
        refine v_iconst (v := (0 : Int32)) hC dX11_crowd_46 rfl ?_
        obtain ⟨r16, M17, q18, h⟩ := bnd_some h
        refine w_callVi hC [.int v5, .int (0 : Int32)] [.int v4] (ok_X11_ofCellar q18) mv_X11_ofCellar aw_1510 ly_208 rfl (Nat.le_of_ble_eq_true rfl) ⟨by decide, by decide⟩ ⟨by decide, by decide⟩ dX11_crowd_47 ?_
        refine v_iload_n hC dX11_crowd_50 rfl ?_
        refine v_icmp_ne hC 58 dX11_crowd_51 rfl (fun c19 => ?_) (fun c19 => ?_)
        · rw [if_neg c19] at h
          refine v_drop [true, true, true, true, false, true] [some (.ref 208), some (.int v1), some (.int v2), some (.int v3), none, some (.int v5)] rfl ?_
          exact ok_X11_crowd_58 hC hnt (fun v1 v2 v3 v4 v5 M r M' h => ih v1 v2 v3 v4 v5 M r M' h) h
        · rw [if_pos c19] at h
          refine v_iconst (v := (1 : Int32)) hC dX11_crowd_54 rfl ?_
          refine v_goto (tg := 59) hC dX11_crowd_55 rfl ?_
          refine v_iadd hC dX11_crowd_59 ?_
          obtain ⟨x20, e_x20, h⟩ := lt_some h
          refine v_nam e_x20 ?_
          refine w_istore hC dX11_crowd_60 (ltk rfl) [some (.ref 208), some (.int v1), some (.int v2), some (.int v3), some (.int x20), some (.int v5)] rfl ?_
          refine w_iinc hC (v5 + (1 : Int32)) dX11_crowd_62 rfl rfl [some (.ref 208), some (.int v1), some (.int v2), some (.int v3), some (.int x20), some (.int (v5 + (1 : Int32)))] rfl ?_
          refine v_goto (tg := 23) hC dX11_crowd_65 rfl ?_
          exact ih _ _ _ _ _ _ _ _ h
set_option maxRecDepth 20000 in
set_option maxHeartbeats 4000000 in
theorem ok_X11_crowd_11 {N : Nat} {X : am_X} {l : Launch} (hC : am_C X l (am_rm 4 0 0) cX11_crowd yX11_crowd.cls (some .int)) (hnt : am_NT X) : ∀ (n : Nat) (v1 v2 v3 : Int32) (M : Mm) (r : Int32) (M' : Mm), f_X11_crowd_11 N n v1 v2 v3 M = some (r, M') → am_V X LY M 0 0 (am_Q X LY 0 0 (.inl (some (.int r))) M') 11 [some (.ref 208), some (.int v1), some (.int v2), some (.int v3), none, none] [] := by
  intro n
  induction n with
  | zero => intro v1 v2 v3 M r M' h; cases h
  | succ n ih =>
    intro v1 v2 v3 M r M' h
    simp only [f_X11_crowd_11] at h
    refine v_iload_n hC dX11_crowd_11 rfl ?_
    refine v_bipush (v := (10 : Int32)) hC dX11_crowd_12 rfl ?_
    refine v_icmp_ge hC 93 dX11_crowd_14 rfl (fun c2 => ?_) (fun c2 => ?_)
    · rw [if_pos c2] at h
      refine v_iload_n hC dX11_crowd_93 rfl ?_
      cases h
      exact v_iret hC (by decide) (by decide) dX11_crowd_94
    · rw [if_neg c2] at h
      refine v_iconst (v := (0 : Int32)) hC dX11_crowd_17 rfl ?_
      refine w_istore hC dX11_crowd_18 (ltk rfl) [some (.ref 208), some (.int v1), some (.int v2), some (.int v3), some (.int (0 : Int32)), none] rfl ?_
      refine v_iconst (v := (0 : Int32)) hC dX11_crowd_20 rfl ?_
      refine w_istore hC dX11_crowd_21 (ltk rfl) [some (.ref 208), some (.int v1), some (.int v2), some (.int v3), some (.int (0 : Int32)), some (.int (0 : Int32))] rfl ?_
      exact ok_X11_crowd_23 hC hnt (fun v1 v2 v3 M r M' h => ih v1 v2 v3 M r M' h) N _ _ _ _ _ _ _ _ h
set_option maxRecDepth 20000 in
set_option maxHeartbeats 4000000 in
theorem ok_X11_crowd {l : Launch} {N : Nat} {M : Mm} {r : Int32} {M' : Mm} (h : f_X11_crowd N M = some (r, M')) : am_M l yX11_crowd cX11_crowd 6 (some .int) 4 0 0 LY M [.ref 208] (.inl (some (.int r))) M' := by
  unfold f_X11_crowd at h
  refine am_intro (by decide) (by simp [Value.category]) (Nat.le_of_ble_eq_true rfl) (fun X hC hnt => ?_)
  refine am_start (L := [some (.ref 208), none, none, none, none, none]) rfl ?_
  refine v_aload_n hC dX11_crowd_0 rfl ?_
  refine v_iconst (v := (0 : Int32)) hC dX11_crowd_1 rfl ?_
  obtain ⟨M1, e_M1, h⟩ := lt_some h
  refine w_puti (k := 0) hC cls_X11 ly_208 (by decide) rfl aw_1231 rfl rfl ⟨rfl, rfl⟩ dX11_crowd_2 e_M1 ?_
  refine v_iconst (v := (-1 : Int32)) hC dX11_crowd_5 rfl ?_
  refine w_istore_n hC dX11_crowd_6 (ltk rfl) [some (.ref 208), some (.int (-1 : Int32)), none, none, none, none] rfl ?_
  refine v_iconst (v := (0 : Int32)) hC dX11_crowd_7 rfl ?_
  refine w_istore_n hC dX11_crowd_8 (ltk rfl) [some (.ref 208), some (.int (-1 : Int32)), some (.int (0 : Int32)), none, none, none] rfl ?_
  refine v_iconst (v := (0 : Int32)) hC dX11_crowd_9 rfl ?_
  refine w_istore_n hC dX11_crowd_10 (ltk rfl) [some (.ref 208), some (.int (-1 : Int32)), some (.int (0 : Int32)), some (.int (0 : Int32)), none, none] rfl ?_
  exact ok_X11_crowd_11 hC hnt N _ _ _ _ _ _ h
def f_X11_gaps_9 (N : Nat) : Nat → Int32 → Int32 → Mm → Option (Int32 × Mm)
  | 0, _, _, _ => none
  | n + 1, v1, v2, M => (if (10 : Int32) ≤ v2 then some (v1, M) else bnd (f_X11_dinerIn N v2 M) (fun r3 M4 => (if r3 = (-1 : Int32) then lt (v1 ||| ((1 : Int32) <<< (v2 &&& 31))) (fun x9 => f_X11_gaps_9 N n x9 (v2 + (1 : Int32)) M4) else lt (v1 ||| (0 : Int32)) (fun x7 => f_X11_gaps_9 N n x7 (v2 + (1 : Int32)) M4))))
def f_X11_gaps (N : Nat) (M : Mm) : Option (Int32 × Mm) :=
  lt (wr M 208 0 (0 : Int32)) (fun M1 => f_X11_gaps_9 N N (0 : Int32) (0 : Int32) M1)
set_option maxRecDepth 20000 in
set_option maxHeartbeats 4000000 in
theorem ok_X11_gaps_9 {N : Nat} {X : am_X} {l : Launch} (hC : am_C X l (am_rm 4 0 0) cX11_gaps yX11_gaps.cls (some .int)) (hnt : am_NT X) : ∀ (n : Nat) (v1 v2 : Int32) (M : Mm) (r : Int32) (M' : Mm), f_X11_gaps_9 N n v1 v2 M = some (r, M') → am_V X LY M 0 0 (am_Q X LY 0 0 (.inl (some (.int r))) M') 9 [some (.ref 208), some (.int v1), some (.int v2)] [] := by
  intro n
  induction n with
  | zero => intro v1 v2 M r M' h; cases h
  | succ n ih =>
    intro v1 v2 M r M' h
    simp only [f_X11_gaps_9] at h
    refine v_iload_n hC dX11_gaps_9 rfl ?_
    refine v_bipush (v := (10 : Int32)) hC dX11_gaps_10 rfl ?_
    refine v_icmp_ge hC 40 dX11_gaps_12 rfl (fun c2 => ?_) (fun c2 => ?_)
    · rw [if_pos c2] at h
      refine v_iload_n hC dX11_gaps_40 rfl ?_
      cases h
      exact v_iret hC (by decide) (by decide) dX11_gaps_41
    · rw [if_neg c2] at h
      refine v_iload_n hC dX11_gaps_15 rfl ?_
      refine v_aload_n hC dX11_gaps_16 rfl ?_
      refine v_iload_n hC dX11_gaps_17 rfl ?_
      obtain ⟨r3, M4, q5, h⟩ := bnd_some h
      refine w_callVi hC [.int v2] [.int v1] (ok_X11_dinerIn q5) mv_X11_dinerIn aw_1376 ly_208 rfl (Nat.le_of_ble_eq_true rfl) ⟨by decide, by decide⟩ ⟨by decide, by decide⟩ dX11_gaps_18 ?_
      refine v_iconst (v := (-1 : Int32)) hC dX11_gaps_21 rfl ?_
      refine v_icmp_ne hC 31 dX11_gaps_22 rfl (fun c6 => ?_) (fun c6 => ?_)
      · rw [if_neg c6] at h
        refine v_iconst (v := (0 : Int32)) hC dX11_gaps_31 rfl ?_
        refine v_ior hC dX11_gaps_32 ?_
        obtain ⟨x7, e_x7, h⟩ := lt_some h
        refine v_nam e_x7 ?_
        refine w_istore_n hC dX11_gaps_33 (ltk rfl) [some (.ref 208), some (.int x7), some (.int v2)] rfl ?_
        refine w_iinc hC (v2 + (1 : Int32)) dX11_gaps_34 rfl rfl [some (.ref 208), some (.int x7), some (.int (v2 + (1 : Int32)))] rfl ?_
        refine v_goto (tg := 9) hC dX11_gaps_37 rfl ?_
        exact ih _ _ _ _ _ h
      · rw [if_pos c6] at h
        refine v_iconst (v := (1 : Int32)) hC dX11_gaps_25 rfl ?_
        refine v_iload_n hC dX11_gaps_26 rfl ?_
        refine v_ishl hC dX11_gaps_27 ?_
        refine v_goto (tg := 32) hC dX11_gaps_28 rfl ?_
        refine v_ior hC dX11_gaps_32 ?_
        obtain ⟨x9, e_x9, h⟩ := lt_some h
        refine v_nam e_x9 ?_
        refine w_istore_n hC dX11_gaps_33 (ltk rfl) [some (.ref 208), some (.int x9), some (.int v2)] rfl ?_
        refine w_iinc hC (v2 + (1 : Int32)) dX11_gaps_34 rfl rfl [some (.ref 208), some (.int x9), some (.int (v2 + (1 : Int32)))] rfl ?_
        refine v_goto (tg := 9) hC dX11_gaps_37 rfl ?_
        exact ih _ _ _ _ _ h
set_option maxRecDepth 20000 in
set_option maxHeartbeats 4000000 in
theorem ok_X11_gaps {l : Launch} {N : Nat} {M : Mm} {r : Int32} {M' : Mm} (h : f_X11_gaps N M = some (r, M')) : am_M l yX11_gaps cX11_gaps 3 (some .int) 4 0 0 LY M [.ref 208] (.inl (some (.int r))) M' := by
  unfold f_X11_gaps at h
  refine am_intro (by decide) (by simp [Value.category]) (Nat.le_of_ble_eq_true rfl) (fun X hC hnt => ?_)
  refine am_start (L := [some (.ref 208), none, none]) rfl ?_
  refine v_aload_n hC dX11_gaps_0 rfl ?_
  refine v_iconst (v := (0 : Int32)) hC dX11_gaps_1 rfl ?_
  obtain ⟨M1, e_M1, h⟩ := lt_some h
  refine w_puti (k := 0) hC cls_X11 ly_208 (by decide) rfl aw_1231 rfl rfl ⟨rfl, rfl⟩ dX11_gaps_2 e_M1 ?_
  refine v_iconst (v := (0 : Int32)) hC dX11_gaps_5 rfl ?_
  refine w_istore_n hC dX11_gaps_6 (ltk rfl) [some (.ref 208), some (.int (0 : Int32)), none] rfl ?_
  refine v_iconst (v := (0 : Int32)) hC dX11_gaps_7 rfl ?_
  refine w_istore_n hC dX11_gaps_8 (ltk rfl) [some (.ref 208), some (.int (0 : Int32)), some (.int (0 : Int32))] rfl ?_
  exact ok_X11_gaps_9 hC hnt N _ _ _ _ _ h
def f_X11_meets_79 (N : Nat) (k37 : Int32 → Int32 → Int32 → Int32 → Mm → Option (Int32 × Mm)) (v1 : Int32) (v3 : Int32) (v4 : Int32) (s0 : Int32) (M : Mm) : Option (Int32 × Mm) :=
  lt (s0 ||| (0 : Int32)) (fun x28 => k37 v1 x28 v3 (v4 + (1 : Int32)) M)
def f_X11_meets_37 (N : Nat) (k28 : Int32 → Int32 → Int32 → Mm → Option (Int32 × Mm)) : Nat → Int32 → Int32 → Int32 → Int32 → Mm → Option (Int32 × Mm)
  | 0, _, _, _, _, _ => none
  | n + 1, v1, v2, v3, v4, M => bnd (f_X11_cellars N M) (fun r16 M17 => (if r16 ≤ v4 then bnd (f_X11_oneCourse N (1 : Int32) M17) (fun r20 M21 => k28 v1 v2 (v3 + (1 : Int32)) M21) else bnd (f_X11_isFree N v4 M17) (fun r24 M25 => (if r24 = (0 : Int32) then bnd (f_X11_ofCellar N v4 (0 : Int32) M25) (fun r30 M31 => bnd (f_X11_of N v1 (0 : Int32) M31) (fun r33 M34 => (if r30 = r33 then lt (v2 ||| ((1 : Int32) <<< (v4 &&& 31))) (fun x37 => f_X11_meets_37 N k28 n v1 x37 v3 (v4 + (1 : Int32)) M34) else f_X11_meets_79 N (fun v1 v2 v3 v4 M => f_X11_meets_37 N k28 n v1 v2 v3 v4 M) v1 v3 v4 v2 M34))) else f_X11_meets_79 N (fun v1 v2 v3 v4 M => f_X11_meets_37 N k28 n v1 v2 v3 v4 M) v1 v3 v4 v2 M25))))
def f_X11_meets_28 (N : Nat) : Nat → Int32 → Int32 → Int32 → Mm → Option (Int32 × Mm)
  | 0, _, _, _, _ => none
  | n + 1, v1, v2, v3, M => (if (12 : Int32) ≤ v3 then bnd (f_X11_bringsBack N M) (fun r13 M14 => some (v2, M14)) else f_X11_meets_37 N (fun v1 v2 v3 M => f_X11_meets_28 N n v1 v2 v3 M) N v1 v2 v3 (0 : Int32) M)
def f_X11_meets (N : Nat) (v1 : Int32) (M : Mm) : Option (Int32 × Mm) :=
  lt (wr M 208 0 (0 : Int32)) (fun M1 => bnd (f_X11_noDiner N v1 M1) (fun r2 M3 => bnd (f_X11_throwsIf N r2 (1 : Int32) M3) (fun r5 M6 => (if r5 = (0 : Int32) then bnd (f_X11_keepsAll N M6) (fun r9 M10 => f_X11_meets_28 N N v1 (0 : Int32) (0 : Int32) M10) else some ((0 : Int32), M6)))))
set_option maxRecDepth 20000 in
set_option maxHeartbeats 4000000 in
theorem ok_X11_meets_79 {N : Nat} {X : am_X} {l : Launch} (hC : am_C X l (am_rm 10 0 0) cX11_meets yX11_meets.cls (some .int)) (hnt : am_NT X) {k37 : Int32 → Int32 → Int32 → Int32 → Mm → Option (Int32 × Mm)} (hk37 : ∀ (v1 v2 v3 v4 : Int32) (M : Mm) (r : Int32) (M' : Mm), k37 v1 v2 v3 v4 M = some (r, M') → am_V X LY M 0 0 (am_Q X LY 0 0 (.inl (some (.int r))) M') 37 [some (.ref 208), some (.int v1), some (.int v2), some (.int v3), some (.int v4)] []) {v1 v3 v4 s0 : Int32} {M : Mm} {r : Int32} {M' : Mm} (h : f_X11_meets_79 N k37 v1 v3 v4 s0 M = some (r, M')) : am_V X LY M 0 0 (am_Q X LY 0 0 (.inl (some (.int r))) M') 79 [some (.ref 208), some (.int v1), none, some (.int v3), some (.int v4)] [.int s0] := by
  unfold f_X11_meets_79 at h
  refine v_iconst (v := (0 : Int32)) hC dX11_meets_79 rfl ?_
  refine v_ior hC dX11_meets_80 ?_
  obtain ⟨x28, e_x28, h⟩ := lt_some h
  refine v_nam e_x28 ?_
  refine w_istore_n hC dX11_meets_81 (ltk rfl) [some (.ref 208), some (.int v1), some (.int x28), some (.int v3), some (.int v4)] rfl ?_
  refine w_iinc hC (v4 + (1 : Int32)) dX11_meets_82 rfl rfl [some (.ref 208), some (.int v1), some (.int x28), some (.int v3), some (.int (v4 + (1 : Int32)))] rfl ?_
  refine v_goto (tg := 37) hC dX11_meets_85 rfl ?_
  exact hk37 _ _ _ _ _ _ _ h
set_option maxRecDepth 20000 in
set_option maxHeartbeats 4000000 in
theorem ok_X11_meets_37 {N : Nat} {X : am_X} {l : Launch} (hC : am_C X l (am_rm 10 0 0) cX11_meets yX11_meets.cls (some .int)) (hnt : am_NT X) {k28 : Int32 → Int32 → Int32 → Mm → Option (Int32 × Mm)} (hk28 : ∀ (v1 v2 v3 : Int32) (M : Mm) (r : Int32) (M' : Mm), k28 v1 v2 v3 M = some (r, M') → am_V X LY M 0 0 (am_Q X LY 0 0 (.inl (some (.int r))) M') 28 [some (.ref 208), some (.int v1), some (.int v2), some (.int v3), none] []) : ∀ (n : Nat) (v1 v2 v3 v4 : Int32) (M : Mm) (r : Int32) (M' : Mm), f_X11_meets_37 N k28 n v1 v2 v3 v4 M = some (r, M') → am_V X LY M 0 0 (am_Q X LY 0 0 (.inl (some (.int r))) M') 37 [some (.ref 208), some (.int v1), some (.int v2), some (.int v3), some (.int v4)] [] := by
  intro n
  induction n with
  | zero => intro v1 v2 v3 v4 M r M' h; cases h
  | succ n ih =>
    intro v1 v2 v3 v4 M r M' h
    simp only [f_X11_meets_37] at h
    refine v_iload hC dX11_meets_37 rfl ?_
    refine v_aload_n hC dX11_meets_39 rfl ?_
    obtain ⟨r16, M17, q18, h⟩ := bnd_some h
    refine w_callVi hC [] [.int v4] (ok_X11_cellars q18) mv_X11_cellars aw_1397 ly_208 rfl (Nat.le_of_ble_eq_true rfl) ⟨by decide, by decide⟩ ⟨by decide, by decide⟩ dX11_meets_40 ?_
    refine v_icmp_ge hC 88 dX11_meets_43 rfl (fun c19 => ?_) (fun c19 => ?_)
    · rw [if_pos c19] at h
      refine v_aload_n hC dX11_meets_88 rfl ?_
      refine v_iconst (v := (1 : Int32)) hC dX11_meets_89 rfl ?_
      obtain ⟨r20, M21, q22, h⟩ := bnd_some h
      refine w_callVi hC [.int (1 : Int32)] [] (ok_X11_oneCourse q22) mv_X11_oneCourse aw_1602 ly_208 rfl (Nat.le_of_ble_eq_true rfl) ⟨by decide, by decide⟩ ⟨by decide, by decide⟩ dX11_meets_90 ?_
      refine v_pop hC dX11_meets_93 rfl ?_
      refine w_iinc hC (v3 + (1 : Int32)) dX11_meets_94 rfl rfl [some (.ref 208), some (.int v1), some (.int v2), some (.int (v3 + (1 : Int32))), some (.int v4)] rfl ?_
      refine v_goto (tg := 28) hC dX11_meets_97 rfl ?_
      refine v_drop [true, true, true, true, false] [some (.ref 208), some (.int v1), some (.int v2), some (.int (v3 + (1 : Int32))), none] rfl ?_
      exact hk28 _ _ _ _ _ _ h
    · rw [if_neg c19] at h
      refine v_iload_n hC dX11_meets_46 rfl ?_
      refine v_aload_n hC dX11_meets_47 rfl ?_
      refine v_iload hC dX11_meets_48 rfl ?_
      obtain ⟨r24, M25, q26, h⟩ := bnd_some h
      refine w_callVi hC [.int v4] [.int v2] (ok_X11_isFree q26) mv_X11_isFree aw_1525 ly_208 rfl (Nat.le_of_ble_eq_true rfl) ⟨by decide, by decide⟩ ⟨by decide, by decide⟩ dX11_meets_50 ?_
      refine v_if_ne hC 79 dX11_meets_53 rfl (fun c27 => ?_) (fun c27 => ?_)
      · rw [if_neg c27] at h
        refine v_drop [true, true, false, true, true] [some (.ref 208), some (.int v1), none, some (.int v3), some (.int v4)] rfl ?_
        exact ok_X11_meets_79 hC hnt (fun v1 v2 v3 v4 M r M' h => ih v1 v2 v3 v4 M r M' h) h
      · rw [if_pos c27] at h
        refine v_aload_n hC dX11_meets_56 rfl ?_
        refine v_iload hC dX11_meets_57 rfl ?_
        refine v_iconst (v := (0 : Int32)) hC dX11_meets_59 rfl ?_
        obtain ⟨r30, M31, q32, h⟩ := bnd_some h
        refine w_callVi hC [.int v4, .int (0 : Int32)] [.int v2] (ok_X11_ofCellar q32) mv_X11_ofCellar aw_1510 ly_208 rfl (Nat.le_of_ble_eq_true rfl) ⟨by decide, by decide⟩ ⟨by decide, by decide⟩ dX11_meets_60 ?_
        refine v_aload_n hC dX11_meets_63 rfl ?_
        refine v_iload_n hC dX11_meets_64 rfl ?_
        refine v_iconst (v := (0 : Int32)) hC dX11_meets_65 rfl ?_
        obtain ⟨r33, M34, q35, h⟩ := bnd_some h
        refine w_callVi hC [.int v1, .int (0 : Int32)] [.int r30, .int v2] (ok_X11_of q35) mv_X11_of aw_1380 ly_208 rfl (Nat.le_of_ble_eq_true rfl) ⟨by decide, by decide⟩ ⟨by decide, by decide⟩ dX11_meets_66 ?_
        refine v_icmp_ne hC 79 dX11_meets_69 rfl (fun c36 => ?_) (fun c36 => ?_)
        · rw [if_neg c36] at h
          refine v_drop [true, true, false, true, true] [some (.ref 208), some (.int v1), none, some (.int v3), some (.int v4)] rfl ?_
          exact ok_X11_meets_79 hC hnt (fun v1 v2 v3 v4 M r M' h => ih v1 v2 v3 v4 M r M' h) h
        · rw [if_pos c36] at h
          refine v_iconst (v := (1 : Int32)) hC dX11_meets_72 rfl ?_
          refine v_iload hC dX11_meets_73 rfl ?_
          refine v_ishl hC dX11_meets_75 ?_
          refine v_goto (tg := 80) hC dX11_meets_76 rfl ?_
          refine v_ior hC dX11_meets_80 ?_
          obtain ⟨x37, e_x37, h⟩ := lt_some h
          refine v_nam e_x37 ?_
          refine w_istore_n hC dX11_meets_81 (ltk rfl) [some (.ref 208), some (.int v1), some (.int x37), some (.int v3), some (.int v4)] rfl ?_
          refine w_iinc hC (v4 + (1 : Int32)) dX11_meets_82 rfl rfl [some (.ref 208), some (.int v1), some (.int x37), some (.int v3), some (.int (v4 + (1 : Int32)))] rfl ?_
          refine v_goto (tg := 37) hC dX11_meets_85 rfl ?_
          exact ih _ _ _ _ _ _ _ h
set_option maxRecDepth 20000 in
set_option maxHeartbeats 4000000 in
theorem ok_X11_meets_28 {N : Nat} {X : am_X} {l : Launch} (hC : am_C X l (am_rm 10 0 0) cX11_meets yX11_meets.cls (some .int)) (hnt : am_NT X) : ∀ (n : Nat) (v1 v2 v3 : Int32) (M : Mm) (r : Int32) (M' : Mm), f_X11_meets_28 N n v1 v2 v3 M = some (r, M') → am_V X LY M 0 0 (am_Q X LY 0 0 (.inl (some (.int r))) M') 28 [some (.ref 208), some (.int v1), some (.int v2), some (.int v3), none] [] := by
  intro n
  induction n with
  | zero => intro v1 v2 v3 M r M' h; cases h
  | succ n ih =>
    intro v1 v2 v3 M r M' h
    simp only [f_X11_meets_28] at h
    refine v_iload_n hC dX11_meets_28 rfl ?_
    refine v_bipush (v := (12 : Int32)) hC dX11_meets_29 rfl ?_
    refine v_icmp_ge hC 100 dX11_meets_31 rfl (fun c12 => ?_) (fun c12 => ?_)
    · rw [if_pos c12] at h
      refine v_aload_n hC dX11_meets_100 rfl ?_
      obtain ⟨r13, M14, q15, h⟩ := bnd_some h
      refine w_callVv hC [] [] (ok_X11_bringsBack q15) mv_X11_bringsBack aw_1648 ly_208 rfl (Nat.le_of_ble_eq_true rfl) ⟨by decide, by decide⟩ ⟨by decide, by decide⟩ dX11_meets_101 ?_
      refine v_iload_n hC dX11_meets_104 rfl ?_
      cases h
      exact v_iret hC (by decide) (by decide) dX11_meets_105
    · rw [if_neg c12] at h
      refine v_iconst (v := (0 : Int32)) hC dX11_meets_34 rfl ?_
      refine w_istore hC dX11_meets_35 (ltk rfl) [some (.ref 208), some (.int v1), some (.int v2), some (.int v3), some (.int (0 : Int32))] rfl ?_
      exact ok_X11_meets_37 hC hnt (fun v1 v2 v3 M r M' h => ih v1 v2 v3 M r M' h) N _ _ _ _ _ _ _ h
set_option maxRecDepth 20000 in
set_option maxHeartbeats 4000000 in
theorem ok_X11_meets {l : Launch} {N : Nat} {v1 : Int32} {M : Mm} {r : Int32} {M' : Mm} (h : f_X11_meets N v1 M = some (r, M')) : am_M l yX11_meets cX11_meets 5 (some .int) 10 0 0 LY M [.ref 208, .int v1] (.inl (some (.int r))) M' := by
  unfold f_X11_meets at h
  refine am_intro (by decide) (by simp [Value.category]) (Nat.le_of_ble_eq_true rfl) (fun X hC hnt => ?_)
  refine am_start (L := [some (.ref 208), some (.int v1), none, none, none]) rfl ?_
  refine v_aload_n hC dX11_meets_0 rfl ?_
  refine v_iconst (v := (0 : Int32)) hC dX11_meets_1 rfl ?_
  obtain ⟨M1, e_M1, h⟩ := lt_some h
  refine w_puti (k := 0) hC cls_X11 ly_208 (by decide) rfl aw_1231 rfl rfl ⟨rfl, rfl⟩ dX11_meets_2 e_M1 ?_
  refine v_aload_n hC dX11_meets_5 rfl ?_
  refine v_aload_n hC dX11_meets_6 rfl ?_
  refine v_iload_n hC dX11_meets_7 rfl ?_
  obtain ⟨r2, M3, q4, h⟩ := bnd_some h
  refine w_callVi hC [.int v1] [.ref 208] (ok_X11_noDiner q4) mv_X11_noDiner aw_1482 ly_208 rfl (Nat.le_of_ble_eq_true rfl) ⟨by decide, by decide⟩ ⟨by decide, by decide⟩ dX11_meets_8 ?_
  refine v_iconst (v := (1 : Int32)) hC dX11_meets_11 rfl ?_
  obtain ⟨r5, M6, q7, h⟩ := bnd_some h
  refine w_callVi hC [.int r2, .int (1 : Int32)] [] (ok_X11_throwsIf q7) mv_X11_throwsIf aw_1470 ly_208 rfl (Nat.le_of_ble_eq_true rfl) ⟨by decide, by decide⟩ ⟨by decide, by decide⟩ dX11_meets_12 ?_
  refine v_if_eq hC 20 dX11_meets_15 rfl (fun c8 => ?_) (fun c8 => ?_)
  · rw [if_pos c8] at h
    refine v_iconst (v := (0 : Int32)) hC dX11_meets_20 rfl ?_
    refine w_istore_n hC dX11_meets_21 (ltk rfl) [some (.ref 208), some (.int v1), some (.int (0 : Int32)), none, none] rfl ?_
    refine v_aload_n hC dX11_meets_22 rfl ?_
    obtain ⟨r9, M10, q11, h⟩ := bnd_some h
    refine w_callVv hC [] [] (ok_X11_keepsAll q11) mv_X11_keepsAll aw_1640 ly_208 rfl (Nat.le_of_ble_eq_true rfl) ⟨by decide, by decide⟩ ⟨by decide, by decide⟩ dX11_meets_23 ?_
    refine v_iconst (v := (0 : Int32)) hC dX11_meets_26 rfl ?_
    refine w_istore_n hC dX11_meets_27 (ltk rfl) [some (.ref 208), some (.int v1), some (.int (0 : Int32)), some (.int (0 : Int32)), none] rfl ?_
    exact ok_X11_meets_28 hC hnt N _ _ _ _ _ _ h
  · rw [if_neg c8] at h
    refine v_iconst (v := (0 : Int32)) hC dX11_meets_18 rfl ?_
    cases h
    exact v_iret hC (by decide) (by decide) dX11_meets_19
def f_X11_trial_48 (N : Nat) (s0 : Int32) (M : Mm) : Option (Int32 × Mm) :=
  bnd (f_X11_bringsBack N M) (fun r17 M18 => some (s0, M18))
def f_X11_trial (N : Nat) (v1 : Int32) (v2 : Int32) (M : Mm) : Option (Int32 × Mm) :=
  lt (wr M 208 0 (0 : Int32)) (fun M1 => bnd (f_X11_noAhead N v1 M1) (fun r2 M3 => bnd (f_X11_throwsIf N r2 (1 : Int32) M3) (fun r5 M6 => (if r5 = (0 : Int32) then bnd (f_X11_keepsAll N M6) (fun r9 M10 => bnd (f_X11_goesOn N v1 (0 : Int32) M10) (fun r12 M13 => (if v2 = (0 : Int32) then grd (inb (9 : Int32) 2107) (f_X11_trial_48 N (M13 209 ((9 : Int32)).toNatClampNeg) M13) else bnd (f_X11_heldOnes N M13) (fun r20 M21 => f_X11_trial_48 N r20 M21)))) else some ((0 : Int32), M6)))))
set_option maxRecDepth 20000 in
set_option maxHeartbeats 4000000 in
theorem ok_X11_trial_48 {N : Nat} {X : am_X} {l : Launch} (hC : am_C X l (am_rm 11 0 0) cX11_trial yX11_trial.cls (some .int)) (hnt : am_NT X) {s0 : Int32} {M : Mm} {r : Int32} {M' : Mm} (h : f_X11_trial_48 N s0 M = some (r, M')) : am_V X LY M 0 0 (am_Q X LY 0 0 (.inl (some (.int r))) M') 48 [some (.ref 208), none, none, none] [.int s0] := by
  unfold f_X11_trial_48 at h
  refine w_istore_n hC dX11_trial_48 (ltk rfl) [some (.ref 208), none, none, some (.int s0)] rfl ?_
  refine v_aload_n hC dX11_trial_49 rfl ?_
  obtain ⟨r17, M18, q19, h⟩ := bnd_some h
  refine w_callVv hC [] [] (ok_X11_bringsBack q19) mv_X11_bringsBack aw_1648 ly_208 rfl (Nat.le_of_ble_eq_true rfl) ⟨by decide, by decide⟩ ⟨by decide, by decide⟩ dX11_trial_50 ?_
  refine v_iload_n hC dX11_trial_53 rfl ?_
  cases h
  exact v_iret hC (by decide) (by decide) dX11_trial_54
set_option maxRecDepth 20000 in
set_option maxHeartbeats 4000000 in
theorem ok_X11_trial {l : Launch} {N : Nat} {v1 v2 : Int32} {M : Mm} {r : Int32} {M' : Mm} (h : f_X11_trial N v1 v2 M = some (r, M')) : am_M l yX11_trial cX11_trial 4 (some .int) 11 0 0 LY M [.ref 208, .int v1, .int v2] (.inl (some (.int r))) M' := by
  unfold f_X11_trial at h
  refine am_intro (by decide) (by simp [Value.category]) (Nat.le_of_ble_eq_true rfl) (fun X hC hnt => ?_)
  refine am_start (L := [some (.ref 208), some (.int v1), some (.int v2), none]) rfl ?_
  refine v_aload_n hC dX11_trial_0 rfl ?_
  refine v_iconst (v := (0 : Int32)) hC dX11_trial_1 rfl ?_
  obtain ⟨M1, e_M1, h⟩ := lt_some h
  refine w_puti (k := 0) hC cls_X11 ly_208 (by decide) rfl aw_1231 rfl rfl ⟨rfl, rfl⟩ dX11_trial_2 e_M1 ?_
  refine v_aload_n hC dX11_trial_5 rfl ?_
  refine v_iload_n hC dX11_trial_6 rfl ?_
  obtain ⟨r2, M3, q4, h⟩ := bnd_some h
  refine w_callSi hC [.int v1] [.ref 208] (ok_X11_noAhead q4) ms_X11_noAhead aw_1667 rfl (Nat.le_of_ble_eq_true rfl) ⟨by decide, by decide⟩ ⟨by decide, by decide⟩ dX11_trial_7 ?_
  refine v_iconst (v := (1 : Int32)) hC dX11_trial_10 rfl ?_
  obtain ⟨r5, M6, q7, h⟩ := bnd_some h
  refine w_callVi hC [.int r2, .int (1 : Int32)] [] (ok_X11_throwsIf q7) mv_X11_throwsIf aw_1470 ly_208 rfl (Nat.le_of_ble_eq_true rfl) ⟨by decide, by decide⟩ ⟨by decide, by decide⟩ dX11_trial_11 ?_
  refine v_if_eq hC 19 dX11_trial_14 rfl (fun c8 => ?_) (fun c8 => ?_)
  · rw [if_pos c8] at h
    refine v_aload_n hC dX11_trial_19 rfl ?_
    obtain ⟨r9, M10, q11, h⟩ := bnd_some h
    refine w_callVv hC [] [] (ok_X11_keepsAll q11) mv_X11_keepsAll aw_1640 ly_208 rfl (Nat.le_of_ble_eq_true rfl) ⟨by decide, by decide⟩ ⟨by decide, by decide⟩ dX11_trial_20 ?_
    refine v_aload_n hC dX11_trial_23 rfl ?_
    refine v_iload_n hC dX11_trial_24 rfl ?_
    refine v_iconst (v := (0 : Int32)) hC dX11_trial_25 rfl ?_
    obtain ⟨r12, M13, q14, h⟩ := bnd_some h
    refine w_callVi hC [.int v1, .int (0 : Int32)] [] (ok_X11_goesOn q14) mv_X11_goesOn aw_1598 ly_208 rfl (Nat.le_of_ble_eq_true rfl) ⟨by decide, by decide⟩ ⟨by decide, by decide⟩ dX11_trial_26 ?_
    refine v_pop hC dX11_trial_29 rfl ?_
    refine v_iload_n hC dX11_trial_30 rfl ?_
    refine v_if_eq hC 41 dX11_trial_31 rfl (fun c15 => ?_) (fun c15 => ?_)
    · rw [if_pos c15] at h
      refine v_aload_n hC dX11_trial_41 rfl ?_
      refine v_geta (k := 1) (b := 209) hC cls_X11 ly_208 (by decide) rfl aw_1232 rfl dX11_trial_42 ?_
      refine v_bipush (v := (9 : Int32)) hC dX11_trial_45 rfl ?_
      obtain ⟨g16, h⟩ := grd_some h
      refine v_iald hC ly_209 (inb_in g16) dX11_trial_47 ?_
      refine v_drop [true, false, false, false] [some (.ref 208), none, none, none] rfl ?_
      exact ok_X11_trial_48 hC hnt h
    · rw [if_neg c15] at h
      refine v_aload_n hC dX11_trial_34 rfl ?_
      obtain ⟨r20, M21, q22, h⟩ := bnd_some h
      refine w_callVi hC [] [] (ok_X11_heldOnes q22) mv_X11_heldOnes aw_1644 ly_208 rfl (Nat.le_of_ble_eq_true rfl) ⟨by decide, by decide⟩ ⟨by decide, by decide⟩ dX11_trial_35 ?_
      refine v_goto (tg := 48) hC dX11_trial_38 rfl ?_
      refine v_drop [true, false, false, false] [some (.ref 208), none, none, none] rfl ?_
      exact ok_X11_trial_48 hC hnt h
  · rw [if_neg c8] at h
    refine v_iconst (v := (0 : Int32)) hC dX11_trial_17 rfl ?_
    cases h
    exact v_iret hC (by decide) (by decide) dX11_trial_18
def f_X11_span_28 (N : Nat) : Nat → Int32 → Int32 → Int32 → Int32 → Mm → Option (Int32 × Mm)
  | 0, _, _, _, _, _ => none
  | n + 1, v1, v2, v3, v4, M => (if (6 : Int32) < v4 then some (v3, M) else grd (inb (11 : Int32) 2107) (lt (wr M 209 ((11 : Int32)).toNatClampNeg v4) (fun M14 => bnd (f_X11_goesOn N v1 (0 : Int32) M14) (fun r15 M16 => grd (inb (9 : Int32) 2107) (lt (M16 209 ((9 : Int32)).toNatClampNeg) (fun x19 => bnd (f_X11_bringsBack N M16) (fun r20 M21 => (if (0 : Int32) ≤ v3 then (if v2 = (0 : Int32) then lt (if x19 < v3 then x19 else v3) (fun x25 => f_X11_span_28 N n v1 v2 x25 (v4 + (1 : Int32)) M21) else lt (if v3 < x19 then x19 else v3) (fun x27 => f_X11_span_28 N n v1 v2 x27 (v4 + (1 : Int32)) M21)) else f_X11_span_28 N n v1 v2 x19 (v4 + (1 : Int32)) M21))))))))
def f_X11_span (N : Nat) (v1 : Int32) (v2 : Int32) (M : Mm) : Option (Int32 × Mm) :=
  lt (wr M 208 0 (0 : Int32)) (fun M1 => bnd (f_X11_noAhead N v1 M1) (fun r2 M3 => bnd (f_X11_throwsIf N r2 (1 : Int32) M3) (fun r5 M6 => (if r5 = (0 : Int32) then bnd (f_X11_keepsAll N M6) (fun r9 M10 => f_X11_span_28 N N v1 v2 (-1 : Int32) (1 : Int32) M10) else some ((0 : Int32), M6)))))
set_option maxRecDepth 20000 in
set_option maxHeartbeats 4000000 in
theorem ok_X11_span_28 {N : Nat} {X : am_X} {l : Launch} (hC : am_C X l (am_rm 11 0 0) cX11_span yX11_span.cls (some .int)) (hnt : am_NT X) : ∀ (n : Nat) (v1 v2 v3 v4 : Int32) (M : Mm) (r : Int32) (M' : Mm), f_X11_span_28 N n v1 v2 v3 v4 M = some (r, M') → am_V X LY M 0 0 (am_Q X LY 0 0 (.inl (some (.int r))) M') 28 [some (.ref 208), some (.int v1), some (.int v2), some (.int v3), some (.int v4), none] [] := by
  intro n
  induction n with
  | zero => intro v1 v2 v3 v4 M r M' h; cases h
  | succ n ih =>
    intro v1 v2 v3 v4 M r M' h
    simp only [f_X11_span_28] at h
    refine v_iload hC dX11_span_28 rfl ?_
    refine v_bipush (v := (6 : Int32)) hC dX11_span_30 rfl ?_
    refine v_icmp_gt hC 99 dX11_span_32 rfl (fun c12 => ?_) (fun c12 => ?_)
    · rw [if_pos c12] at h
      refine v_iload_n hC dX11_span_99 rfl ?_
      cases h
      exact v_iret hC (by decide) (by decide) dX11_span_100
    · rw [if_neg c12] at h
      refine v_aload_n hC dX11_span_35 rfl ?_
      refine v_geta (k := 1) (b := 209) hC cls_X11 ly_208 (by decide) rfl aw_1232 rfl dX11_span_36 ?_
      refine v_bipush (v := (11 : Int32)) hC dX11_span_39 rfl ?_
      refine v_iload hC dX11_span_41 rfl ?_
      obtain ⟨g13, h⟩ := grd_some h
      obtain ⟨M14, e_M14, h⟩ := lt_some h
      refine w_iast hC ly_209 (inb_in g13) dX11_span_43 e_M14 ?_
      refine v_aload_n hC dX11_span_44 rfl ?_
      refine v_iload_n hC dX11_span_45 rfl ?_
      refine v_iconst (v := (0 : Int32)) hC dX11_span_46 rfl ?_
      obtain ⟨r15, M16, q17, h⟩ := bnd_some h
      refine w_callVi hC [.int v1, .int (0 : Int32)] [] (ok_X11_goesOn q17) mv_X11_goesOn aw_1598 ly_208 rfl (Nat.le_of_ble_eq_true rfl) ⟨by decide, by decide⟩ ⟨by decide, by decide⟩ dX11_span_47 ?_
      refine v_pop hC dX11_span_50 rfl ?_
      refine v_aload_n hC dX11_span_51 rfl ?_
      refine v_geta (k := 1) (b := 209) hC cls_X11 ly_208 (by decide) rfl aw_1232 rfl dX11_span_52 ?_
      refine v_bipush (v := (9 : Int32)) hC dX11_span_55 rfl ?_
      obtain ⟨g18, h⟩ := grd_some h
      refine v_iald hC ly_209 (inb_in g18) dX11_span_57 ?_
      obtain ⟨x19, e_x19, h⟩ := lt_some h
      refine v_nam e_x19 ?_
      refine w_istore hC dX11_span_58 (ltk rfl) [some (.ref 208), some (.int v1), some (.int v2), some (.int v3), some (.int v4), some (.int x19)] rfl ?_
      refine v_aload_n hC dX11_span_60 rfl ?_
      obtain ⟨r20, M21, q22, h⟩ := bnd_some h
      refine w_callVv hC [] [] (ok_X11_bringsBack q22) mv_X11_bringsBack aw_1648 ly_208 rfl (Nat.le_of_ble_eq_true rfl) ⟨by decide, by decide⟩ ⟨by decide, by decide⟩ dX11_span_61 ?_
      refine v_iload_n hC dX11_span_64 rfl ?_
      refine v_if_ge hC 73 dX11_span_65 rfl (fun c23 => ?_) (fun c23 => ?_)
      · rw [if_pos c23] at h
        refine v_iload_n hC dX11_span_73 rfl ?_
        refine v_if_eq hC 86 dX11_span_74 rfl (fun c24 => ?_) (fun c24 => ?_)
        · rw [if_pos c24] at h
          refine v_iload_n hC dX11_span_86 rfl ?_
          refine v_iload hC dX11_span_87 rfl ?_
          refine v_mmin hC aw_1550 wm_min (Nat.le_of_ble_eq_true rfl) (Nat.le_of_ble_eq_true rfl) (Nat.le_of_ble_eq_true rfl) (Nat.le_of_ble_eq_true rfl) dX11_span_89 ?_
          obtain ⟨x25, e_x25, h⟩ := lt_some h
          refine v_nam e_x25 ?_
          refine w_istore_n hC dX11_span_92 (ltk rfl) [some (.ref 208), some (.int v1), some (.int v2), some (.int x25), some (.int v4), some (.int x19)] rfl ?_
          refine w_iinc hC (v4 + (1 : Int32)) dX11_span_93 rfl rfl [some (.ref 208), some (.int v1), some (.int v2), some (.int x25), some (.int (v4 + (1 : Int32))), some (.int x19)] rfl ?_
          refine v_goto (tg := 28) hC dX11_span_96 rfl ?_
          refine v_drop [true, true, true, true, true, false] [some (.ref 208), some (.int v1), some (.int v2), some (.int x25), some (.int (v4 + (1 : Int32))), none] rfl ?_
          exact ih _ _ _ _ _ _ _ h
        · rw [if_neg c24] at h
          refine v_iload_n hC dX11_span_77 rfl ?_
          refine v_iload hC dX11_span_78 rfl ?_
          refine v_mmax hC aw_1537 wm_max (Nat.le_of_ble_eq_true rfl) (Nat.le_of_ble_eq_true rfl) (Nat.le_of_ble_eq_true rfl) (Nat.le_of_ble_eq_true rfl) dX11_span_80 ?_
          refine v_goto (tg := 92) hC dX11_span_83 rfl ?_
          obtain ⟨x27, e_x27, h⟩ := lt_some h
          refine v_nam e_x27 ?_
          refine w_istore_n hC dX11_span_92 (ltk rfl) [some (.ref 208), some (.int v1), some (.int v2), some (.int x27), some (.int v4), some (.int x19)] rfl ?_
          refine w_iinc hC (v4 + (1 : Int32)) dX11_span_93 rfl rfl [some (.ref 208), some (.int v1), some (.int v2), some (.int x27), some (.int (v4 + (1 : Int32))), some (.int x19)] rfl ?_
          refine v_goto (tg := 28) hC dX11_span_96 rfl ?_
          refine v_drop [true, true, true, true, true, false] [some (.ref 208), some (.int v1), some (.int v2), some (.int x27), some (.int (v4 + (1 : Int32))), none] rfl ?_
          exact ih _ _ _ _ _ _ _ h
      · rw [if_neg c23] at h
        refine v_iload hC dX11_span_68 rfl ?_
        refine v_goto (tg := 92) hC dX11_span_70 rfl ?_
        refine w_istore_n hC dX11_span_92 (ltk rfl) [some (.ref 208), some (.int v1), some (.int v2), some (.int x19), some (.int v4), some (.int x19)] rfl ?_
        refine w_iinc hC (v4 + (1 : Int32)) dX11_span_93 rfl rfl [some (.ref 208), some (.int v1), some (.int v2), some (.int x19), some (.int (v4 + (1 : Int32))), some (.int x19)] rfl ?_
        refine v_goto (tg := 28) hC dX11_span_96 rfl ?_
        refine v_drop [true, true, true, true, true, false] [some (.ref 208), some (.int v1), some (.int v2), some (.int x19), some (.int (v4 + (1 : Int32))), none] rfl ?_
        exact ih _ _ _ _ _ _ _ h
set_option maxRecDepth 20000 in
set_option maxHeartbeats 4000000 in
theorem ok_X11_span {l : Launch} {N : Nat} {v1 v2 : Int32} {M : Mm} {r : Int32} {M' : Mm} (h : f_X11_span N v1 v2 M = some (r, M')) : am_M l yX11_span cX11_span 6 (some .int) 11 0 0 LY M [.ref 208, .int v1, .int v2] (.inl (some (.int r))) M' := by
  unfold f_X11_span at h
  refine am_intro (by decide) (by simp [Value.category]) (Nat.le_of_ble_eq_true rfl) (fun X hC hnt => ?_)
  refine am_start (L := [some (.ref 208), some (.int v1), some (.int v2), none, none, none]) rfl ?_
  refine v_aload_n hC dX11_span_0 rfl ?_
  refine v_iconst (v := (0 : Int32)) hC dX11_span_1 rfl ?_
  obtain ⟨M1, e_M1, h⟩ := lt_some h
  refine w_puti (k := 0) hC cls_X11 ly_208 (by decide) rfl aw_1231 rfl rfl ⟨rfl, rfl⟩ dX11_span_2 e_M1 ?_
  refine v_aload_n hC dX11_span_5 rfl ?_
  refine v_iload_n hC dX11_span_6 rfl ?_
  obtain ⟨r2, M3, q4, h⟩ := bnd_some h
  refine w_callSi hC [.int v1] [.ref 208] (ok_X11_noAhead q4) ms_X11_noAhead aw_1667 rfl (Nat.le_of_ble_eq_true rfl) ⟨by decide, by decide⟩ ⟨by decide, by decide⟩ dX11_span_7 ?_
  refine v_iconst (v := (1 : Int32)) hC dX11_span_10 rfl ?_
  obtain ⟨r5, M6, q7, h⟩ := bnd_some h
  refine w_callVi hC [.int r2, .int (1 : Int32)] [] (ok_X11_throwsIf q7) mv_X11_throwsIf aw_1470 ly_208 rfl (Nat.le_of_ble_eq_true rfl) ⟨by decide, by decide⟩ ⟨by decide, by decide⟩ dX11_span_11 ?_
  refine v_if_eq hC 19 dX11_span_14 rfl (fun c8 => ?_) (fun c8 => ?_)
  · rw [if_pos c8] at h
    refine v_aload_n hC dX11_span_19 rfl ?_
    obtain ⟨r9, M10, q11, h⟩ := bnd_some h
    refine w_callVv hC [] [] (ok_X11_keepsAll q11) mv_X11_keepsAll aw_1640 ly_208 rfl (Nat.le_of_ble_eq_true rfl) ⟨by decide, by decide⟩ ⟨by decide, by decide⟩ dX11_span_20 ?_
    refine v_iconst (v := (-1 : Int32)) hC dX11_span_23 rfl ?_
    refine w_istore_n hC dX11_span_24 (ltk rfl) [some (.ref 208), some (.int v1), some (.int v2), some (.int (-1 : Int32)), none, none] rfl ?_
    refine v_iconst (v := (1 : Int32)) hC dX11_span_25 rfl ?_
    refine w_istore hC dX11_span_26 (ltk rfl) [some (.ref 208), some (.int v1), some (.int v2), some (.int (-1 : Int32)), some (.int (1 : Int32)), none] rfl ?_
    exact ok_X11_span_28 hC hnt N _ _ _ _ _ _ _ h
  · rw [if_neg c8] at h
    refine v_iconst (v := (0 : Int32)) hC dX11_span_17 rfl ?_
    cases h
    exact v_iret hC (by decide) (by decide) dX11_span_18
def f_X11_ofLog (N : Nat) (v1 : Int32) (v2 : Int32) (M : Mm) : Option (Int32 × Mm) :=
  grd (inb (((109 : Int32) + ((5 : Int32) * v1)) + v2) 2107) (some ((M 209 ((((109 : Int32) + ((5 : Int32) * v1)) + v2)).toNatClampNeg), M))
set_option maxRecDepth 20000 in
set_option maxHeartbeats 4000000 in
theorem ok_X11_ofLog {l : Launch} {N : Nat} {v1 v2 : Int32} {M : Mm} {r : Int32} {M' : Mm} (h : f_X11_ofLog N v1 v2 M = some (r, M')) : am_M l yX11_ofLog cX11_ofLog 3 (some .int) 1 0 0 LY M [.ref 208, .int v1, .int v2] (.inl (some (.int r))) M' := by
  unfold f_X11_ofLog at h
  refine am_intro (by decide) (by simp [Value.category]) (Nat.le_of_ble_eq_true rfl) (fun X hC hnt => ?_)
  refine am_start (L := [some (.ref 208), some (.int v1), some (.int v2)]) rfl ?_
  refine v_aload_n hC dX11_ofLog_0 rfl ?_
  refine v_geta (k := 1) (b := 209) hC cls_X11 ly_208 (by decide) rfl aw_1232 rfl dX11_ofLog_1 ?_
  refine v_bipush (v := (109 : Int32)) hC dX11_ofLog_4 rfl ?_
  refine v_iconst (v := (5 : Int32)) hC dX11_ofLog_6 rfl ?_
  refine v_iload_n hC dX11_ofLog_7 rfl ?_
  refine v_imul hC dX11_ofLog_8 ?_
  refine v_iadd hC dX11_ofLog_9 ?_
  refine v_iload_n hC dX11_ofLog_10 rfl ?_
  refine v_iadd hC dX11_ofLog_11 ?_
  obtain ⟨g1, h⟩ := grd_some h
  refine v_iald hC ly_209 (inb_in g1) dX11_ofLog_12 ?_
  cases h
  exact v_iret hC (by decide) (by decide) dX11_ofLog_13
def f_X11_led_36 (N : Nat) : Nat → Int32 → Int32 → Int32 → Int32 → Int32 → Mm → Option (Int32 × Mm)
  | 0, _, _, _, _, _, _ => none
  | n + 1, v1, v2, v3, v4, v5, M => (if v5 < (0 : Int32) then (if v2 = (0 : Int32) then some (v3, M) else some (v4, M)) else bnd (f_X11_ofLog N v5 (3 : Int32) M) (fun r13 M14 => (if r13 = v1 then bnd (f_X11_ofLog N v5 (0 : Int32) M14) (fun r18 M19 => f_X11_led_36 N n v1 v2 (v3 + (1 : Int32)) r18 (v5 + (-1 : Int32)) M19) else f_X11_led_36 N n v1 v2 v3 v4 (v5 + (-1 : Int32)) M14)))
def f_X11_led (N : Nat) (v1 : Int32) (v2 : Int32) (M : Mm) : Option (Int32 × Mm) :=
  lt (wr M 208 0 (0 : Int32)) (fun M1 => bnd (f_X11_noCellar N v1 M1) (fun r2 M3 => bnd (f_X11_throwsIf N r2 (1 : Int32) M3) (fun r5 M6 => (if r5 = (0 : Int32) then grd (inb (10 : Int32) 2107) (lt ((M6 209 ((10 : Int32)).toNatClampNeg) - (1 : Int32)) (fun x10 => f_X11_led_36 N N v1 v2 (0 : Int32) (-1 : Int32) x10 M6)) else some ((0 : Int32), M6)))))
set_option maxRecDepth 20000 in
set_option maxHeartbeats 4000000 in
theorem ok_X11_led_36 {N : Nat} {X : am_X} {l : Launch} (hC : am_C X l (am_rm 3 0 0) cX11_led yX11_led.cls (some .int)) (hnt : am_NT X) : ∀ (n : Nat) (v1 v2 v3 v4 v5 : Int32) (M : Mm) (r : Int32) (M' : Mm), f_X11_led_36 N n v1 v2 v3 v4 v5 M = some (r, M') → am_V X LY M 0 0 (am_Q X LY 0 0 (.inl (some (.int r))) M') 36 [some (.ref 208), some (.int v1), some (.int v2), some (.int v3), some (.int v4), some (.int v5)] [] := by
  intro n
  induction n with
  | zero => intro v1 v2 v3 v4 v5 M r M' h; cases h
  | succ n ih =>
    intro v1 v2 v3 v4 v5 M r M' h
    simp only [f_X11_led_36] at h
    refine v_iload hC dX11_led_36 rfl ?_
    refine v_if_lt hC 73 dX11_led_38 rfl (fun c11 => ?_) (fun c11 => ?_)
    · rw [if_pos c11] at h
      refine v_iload_n hC dX11_led_73 rfl ?_
      refine v_if_eq hC 82 dX11_led_74 rfl (fun c12 => ?_) (fun c12 => ?_)
      · rw [if_pos c12] at h
        refine v_iload_n hC dX11_led_82 rfl ?_
        cases h
        exact v_iret hC (by decide) (by decide) dX11_led_83
      · rw [if_neg c12] at h
        refine v_iload hC dX11_led_77 rfl ?_
        refine v_goto (tg := 83) hC dX11_led_79 rfl ?_
        cases h
        exact v_iret hC (by decide) (by decide) dX11_led_83
    · rw [if_neg c11] at h
      refine v_aload_n hC dX11_led_41 rfl ?_
      refine v_iload hC dX11_led_42 rfl ?_
      refine v_iconst (v := (3 : Int32)) hC dX11_led_44 rfl ?_
      obtain ⟨r13, M14, q15, h⟩ := bnd_some h
      refine w_callVi hC [.int v5, .int (3 : Int32)] [] (ok_X11_ofLog q15) mv_X11_ofLog aw_1819 ly_208 rfl (Nat.le_of_ble_eq_true rfl) ⟨by decide, by decide⟩ ⟨by decide, by decide⟩ dX11_led_45 ?_
      refine v_iload_n hC dX11_led_48 rfl ?_
      refine v_icmp_eq hC 55 dX11_led_49 rfl (fun c16 => ?_) (fun c16 => ?_)
      · rw [if_pos c16] at h
        refine w_iinc hC (v3 + (1 : Int32)) dX11_led_55 rfl rfl [some (.ref 208), some (.int v1), some (.int v2), some (.int (v3 + (1 : Int32))), some (.int v4), some (.int v5)] rfl ?_
        refine v_aload_n hC dX11_led_58 rfl ?_
        refine v_iload hC dX11_led_59 rfl ?_
        refine v_iconst (v := (0 : Int32)) hC dX11_led_61 rfl ?_
        obtain ⟨r18, M19, q20, h⟩ := bnd_some h
        refine w_callVi hC [.int v5, .int (0 : Int32)] [] (ok_X11_ofLog q20) mv_X11_ofLog aw_1819 ly_208 rfl (Nat.le_of_ble_eq_true rfl) ⟨by decide, by decide⟩ ⟨by decide, by decide⟩ dX11_led_62 ?_
        refine w_istore hC dX11_led_65 (ltk rfl) [some (.ref 208), some (.int v1), some (.int v2), some (.int (v3 + (1 : Int32))), some (.int r18), some (.int v5)] rfl ?_
        refine w_iinc hC (v5 + (-1 : Int32)) dX11_led_67 rfl rfl [some (.ref 208), some (.int v1), some (.int v2), some (.int (v3 + (1 : Int32))), some (.int r18), some (.int (v5 + (-1 : Int32)))] rfl ?_
        refine v_goto (tg := 36) hC dX11_led_70 rfl ?_
        exact ih _ _ _ _ _ _ _ _ h
      · rw [if_neg c16] at h
        refine v_goto (tg := 67) hC dX11_led_52 rfl ?_
        refine w_iinc hC (v5 + (-1 : Int32)) dX11_led_67 rfl rfl [some (.ref 208), some (.int v1), some (.int v2), some (.int v3), some (.int v4), some (.int (v5 + (-1 : Int32)))] rfl ?_
        refine v_goto (tg := 36) hC dX11_led_70 rfl ?_
        exact ih _ _ _ _ _ _ _ _ h
set_option maxRecDepth 20000 in
set_option maxHeartbeats 4000000 in
theorem ok_X11_led {l : Launch} {N : Nat} {v1 v2 : Int32} {M : Mm} {r : Int32} {M' : Mm} (h : f_X11_led N v1 v2 M = some (r, M')) : am_M l yX11_led cX11_led 6 (some .int) 3 0 0 LY M [.ref 208, .int v1, .int v2] (.inl (some (.int r))) M' := by
  unfold f_X11_led at h
  refine am_intro (by decide) (by simp [Value.category]) (Nat.le_of_ble_eq_true rfl) (fun X hC hnt => ?_)
  refine am_start (L := [some (.ref 208), some (.int v1), some (.int v2), none, none, none]) rfl ?_
  refine v_aload_n hC dX11_led_0 rfl ?_
  refine v_iconst (v := (0 : Int32)) hC dX11_led_1 rfl ?_
  obtain ⟨M1, e_M1, h⟩ := lt_some h
  refine w_puti (k := 0) hC cls_X11 ly_208 (by decide) rfl aw_1231 rfl rfl ⟨rfl, rfl⟩ dX11_led_2 e_M1 ?_
  refine v_aload_n hC dX11_led_5 rfl ?_
  refine v_aload_n hC dX11_led_6 rfl ?_
  refine v_iload_n hC dX11_led_7 rfl ?_
  obtain ⟨r2, M3, q4, h⟩ := bnd_some h
  refine w_callVi hC [.int v1] [.ref 208] (ok_X11_noCellar q4) mv_X11_noCellar aw_1502 ly_208 rfl (Nat.le_of_ble_eq_true rfl) ⟨by decide, by decide⟩ ⟨by decide, by decide⟩ dX11_led_8 ?_
  refine v_iconst (v := (1 : Int32)) hC dX11_led_11 rfl ?_
  obtain ⟨r5, M6, q7, h⟩ := bnd_some h
  refine w_callVi hC [.int r2, .int (1 : Int32)] [] (ok_X11_throwsIf q7) mv_X11_throwsIf aw_1470 ly_208 rfl (Nat.le_of_ble_eq_true rfl) ⟨by decide, by decide⟩ ⟨by decide, by decide⟩ dX11_led_12 ?_
  refine v_if_eq hC 20 dX11_led_15 rfl (fun c8 => ?_) (fun c8 => ?_)
  · rw [if_pos c8] at h
    refine v_iconst (v := (0 : Int32)) hC dX11_led_20 rfl ?_
    refine w_istore_n hC dX11_led_21 (ltk rfl) [some (.ref 208), some (.int v1), some (.int v2), some (.int (0 : Int32)), none, none] rfl ?_
    refine v_iconst (v := (-1 : Int32)) hC dX11_led_22 rfl ?_
    refine w_istore hC dX11_led_23 (ltk rfl) [some (.ref 208), some (.int v1), some (.int v2), some (.int (0 : Int32)), some (.int (-1 : Int32)), none] rfl ?_
    refine v_aload_n hC dX11_led_25 rfl ?_
    refine v_geta (k := 1) (b := 209) hC cls_X11 ly_208 (by decide) rfl aw_1232 rfl dX11_led_26 ?_
    refine v_bipush (v := (10 : Int32)) hC dX11_led_29 rfl ?_
    obtain ⟨g9, h⟩ := grd_some h
    refine v_iald hC ly_209 (inb_in g9) dX11_led_31 ?_
    refine v_iconst (v := (1 : Int32)) hC dX11_led_32 rfl ?_
    refine v_isub hC dX11_led_33 ?_
    obtain ⟨x10, e_x10, h⟩ := lt_some h
    refine v_nam e_x10 ?_
    refine w_istore hC dX11_led_34 (ltk rfl) [some (.ref 208), some (.int v1), some (.int v2), some (.int (0 : Int32)), some (.int (-1 : Int32)), some (.int x10)] rfl ?_
    exact ok_X11_led_36 hC hnt N _ _ _ _ _ _ _ _ h
  · rw [if_neg c8] at h
    refine v_iconst (v := (0 : Int32)) hC dX11_led_18 rfl ?_
    cases h
    exact v_iret hC (by decide) (by decide) dX11_led_19
def f_X11_log_20 (N : Nat) (v1 : Int32) (v2 : Int32) (s1 : Int32) (M : Mm) : Option (Int32 × Mm) :=
  bnd (f_X11_throwsIf N s1 (1 : Int32) M) (fun r6 M7 => (if r6 = (0 : Int32) then grd (inb (10 : Int32) 2107) (bnd (f_X11_in N v1 (0 : Int32) ((M7 209 ((10 : Int32)).toNatClampNeg) - (1 : Int32)) M7) (fun r11 M12 => (if r11 = (0 : Int32) then some ((-1 : Int32), M12) else bnd (f_X11_ofLog N v1 v2 M12) (fun r15 M16 => some (r15, M16))))) else some ((0 : Int32), M7)))
def f_X11_log (N : Nat) (v1 : Int32) (v2 : Int32) (M : Mm) : Option (Int32 × Mm) :=
  lt (wr M 208 0 (0 : Int32)) (fun M1 => bnd (f_X11_in N v2 (0 : Int32) (4 : Int32) M1) (fun r2 M3 => (if r2 = (0 : Int32) then f_X11_log_20 N v1 v2 (1 : Int32) M3 else f_X11_log_20 N v1 v2 (0 : Int32) M3)))
set_option maxRecDepth 20000 in
set_option maxHeartbeats 4000000 in
theorem ok_X11_log_20 {N : Nat} {X : am_X} {l : Launch} (hC : am_C X l (am_rm 2 0 0) cX11_log yX11_log.cls (some .int)) (hnt : am_NT X) {v1 v2 s1 : Int32} {M : Mm} {r : Int32} {M' : Mm} (h : f_X11_log_20 N v1 v2 s1 M = some (r, M')) : am_V X LY M 0 0 (am_Q X LY 0 0 (.inl (some (.int r))) M') 20 [some (.ref 208), some (.int v1), some (.int v2)] [.int s1, .ref 208] := by
  unfold f_X11_log_20 at h
  refine v_iconst (v := (1 : Int32)) hC dX11_log_20 rfl ?_
  obtain ⟨r6, M7, q8, h⟩ := bnd_some h
  refine w_callVi hC [.int s1, .int (1 : Int32)] [] (ok_X11_throwsIf q8) mv_X11_throwsIf aw_1470 ly_208 rfl (Nat.le_of_ble_eq_true rfl) ⟨by decide, by decide⟩ ⟨by decide, by decide⟩ dX11_log_21 ?_
  refine v_if_eq hC 29 dX11_log_24 rfl (fun c9 => ?_) (fun c9 => ?_)
  · rw [if_pos c9] at h
    refine v_iload_n hC dX11_log_29 rfl ?_
    refine v_iconst (v := (0 : Int32)) hC dX11_log_30 rfl ?_
    refine v_aload_n hC dX11_log_31 rfl ?_
    refine v_geta (k := 1) (b := 209) hC cls_X11 ly_208 (by decide) rfl aw_1232 rfl dX11_log_32 ?_
    refine v_bipush (v := (10 : Int32)) hC dX11_log_35 rfl ?_
    obtain ⟨g10, h⟩ := grd_some h
    refine v_iald hC ly_209 (inb_in g10) dX11_log_37 ?_
    refine v_iconst (v := (1 : Int32)) hC dX11_log_38 rfl ?_
    refine v_isub hC dX11_log_39 ?_
    obtain ⟨r11, M12, q13, h⟩ := bnd_some h
    refine w_callSi hC [.int v1, .int (0 : Int32), .int ((M7 209 ((10 : Int32)).toNatClampNeg) - (1 : Int32))] [] (ok_X11_in q13) ms_X11_in aw_1404 rfl (Nat.le_of_ble_eq_true rfl) ⟨by decide, by decide⟩ ⟨by decide, by decide⟩ dX11_log_40 ?_
    refine v_if_eq hC 55 dX11_log_43 rfl (fun c14 => ?_) (fun c14 => ?_)
    · rw [if_pos c14] at h
      refine v_iconst (v := (-1 : Int32)) hC dX11_log_55 rfl ?_
      cases h
      exact v_iret hC (by decide) (by decide) dX11_log_56
    · rw [if_neg c14] at h
      refine v_aload_n hC dX11_log_46 rfl ?_
      refine v_iload_n hC dX11_log_47 rfl ?_
      refine v_iload_n hC dX11_log_48 rfl ?_
      obtain ⟨r15, M16, q17, h⟩ := bnd_some h
      refine w_callVi hC [.int v1, .int v2] [] (ok_X11_ofLog q17) mv_X11_ofLog aw_1819 ly_208 rfl (Nat.le_of_ble_eq_true rfl) ⟨by decide, by decide⟩ ⟨by decide, by decide⟩ dX11_log_49 ?_
      refine v_goto (tg := 56) hC dX11_log_52 rfl ?_
      cases h
      exact v_iret hC (by decide) (by decide) dX11_log_56
  · rw [if_neg c9] at h
    refine v_iconst (v := (0 : Int32)) hC dX11_log_27 rfl ?_
    cases h
    exact v_iret hC (by decide) (by decide) dX11_log_28
set_option maxRecDepth 20000 in
set_option maxHeartbeats 4000000 in
theorem ok_X11_log {l : Launch} {N : Nat} {v1 v2 : Int32} {M : Mm} {r : Int32} {M' : Mm} (h : f_X11_log N v1 v2 M = some (r, M')) : am_M l yX11_log cX11_log 3 (some .int) 2 0 0 LY M [.ref 208, .int v1, .int v2] (.inl (some (.int r))) M' := by
  unfold f_X11_log at h
  refine am_intro (by decide) (by simp [Value.category]) (Nat.le_of_ble_eq_true rfl) (fun X hC hnt => ?_)
  refine am_start (L := [some (.ref 208), some (.int v1), some (.int v2)]) rfl ?_
  refine v_aload_n hC dX11_log_0 rfl ?_
  refine v_iconst (v := (0 : Int32)) hC dX11_log_1 rfl ?_
  obtain ⟨M1, e_M1, h⟩ := lt_some h
  refine w_puti (k := 0) hC cls_X11 ly_208 (by decide) rfl aw_1231 rfl rfl ⟨rfl, rfl⟩ dX11_log_2 e_M1 ?_
  refine v_aload_n hC dX11_log_5 rfl ?_
  refine v_iload_n hC dX11_log_6 rfl ?_
  refine v_iconst (v := (0 : Int32)) hC dX11_log_7 rfl ?_
  refine v_iconst (v := (4 : Int32)) hC dX11_log_8 rfl ?_
  obtain ⟨r2, M3, q4, h⟩ := bnd_some h
  refine w_callSi hC [.int v2, .int (0 : Int32), .int (4 : Int32)] [.ref 208] (ok_X11_in q4) ms_X11_in aw_1404 rfl (Nat.le_of_ble_eq_true rfl) ⟨by decide, by decide⟩ ⟨by decide, by decide⟩ dX11_log_9 ?_
  refine v_if_ne hC 19 dX11_log_12 rfl (fun c5 => ?_) (fun c5 => ?_)
  · rw [if_neg c5] at h
    refine v_iconst (v := (0 : Int32)) hC dX11_log_19 rfl ?_
    exact ok_X11_log_20 hC hnt h
  · rw [if_pos c5] at h
    refine v_iconst (v := (1 : Int32)) hC dX11_log_15 rfl ?_
    refine v_goto (tg := 20) hC dX11_log_16 rfl ?_
    exact ok_X11_log_20 hC hnt h
def f_X11_seed (N : Nat) (v1 : Int32) (M : Mm) : Option (Int32 × Mm) :=
  lt (wr M 208 0 (0 : Int32)) (fun M1 => grd (inb (11 : Int32) 2107) (lt (M1 209 ((11 : Int32)).toNatClampNeg) (fun x3 => grd (inb (11 : Int32) 2107) (lt (wr M1 209 ((11 : Int32)).toNatClampNeg v1) (fun M5 => some (x3, M5))))))
set_option maxRecDepth 20000 in
set_option maxHeartbeats 4000000 in
theorem ok_X11_seed {l : Launch} {N : Nat} {v1 : Int32} {M : Mm} {r : Int32} {M' : Mm} (h : f_X11_seed N v1 M = some (r, M')) : am_M l yX11_seed cX11_seed 3 (some .int) 1 0 0 LY M [.ref 208, .int v1] (.inl (some (.int r))) M' := by
  unfold f_X11_seed at h
  refine am_intro (by decide) (by simp [Value.category]) (Nat.le_of_ble_eq_true rfl) (fun X hC hnt => ?_)
  refine am_start (L := [some (.ref 208), some (.int v1), none]) rfl ?_
  refine v_aload_n hC dX11_seed_0 rfl ?_
  refine v_iconst (v := (0 : Int32)) hC dX11_seed_1 rfl ?_
  obtain ⟨M1, e_M1, h⟩ := lt_some h
  refine w_puti (k := 0) hC cls_X11 ly_208 (by decide) rfl aw_1231 rfl rfl ⟨rfl, rfl⟩ dX11_seed_2 e_M1 ?_
  refine v_aload_n hC dX11_seed_5 rfl ?_
  refine v_geta (k := 1) (b := 209) hC cls_X11 ly_208 (by decide) rfl aw_1232 rfl dX11_seed_6 ?_
  refine v_bipush (v := (11 : Int32)) hC dX11_seed_9 rfl ?_
  obtain ⟨g2, h⟩ := grd_some h
  refine v_iald hC ly_209 (inb_in g2) dX11_seed_11 ?_
  obtain ⟨x3, e_x3, h⟩ := lt_some h
  refine v_nam e_x3 ?_
  refine w_istore_n hC dX11_seed_12 (ltk rfl) [some (.ref 208), some (.int v1), some (.int x3)] rfl ?_
  refine v_aload_n hC dX11_seed_13 rfl ?_
  refine v_geta (k := 1) (b := 209) hC cls_X11 ly_208 (by decide) rfl aw_1232 rfl dX11_seed_14 ?_
  refine v_bipush (v := (11 : Int32)) hC dX11_seed_17 rfl ?_
  refine v_iload_n hC dX11_seed_19 rfl ?_
  obtain ⟨g4, h⟩ := grd_some h
  obtain ⟨M5, e_M5, h⟩ := lt_some h
  refine w_iast hC ly_209 (inb_in g4) dX11_seed_20 e_M5 ?_
  refine v_iload_n hC dX11_seed_21 rfl ?_
  cases h
  exact v_iret hC (by decide) (by decide) dX11_seed_22
def f_X11_count_110 (N : Nat) (v1 : Int32) (M : Mm) : Option (Int32 × Mm) :=
  bnd (f_X11_in N v1 (0 : Int32) (9 : Int32) M) (fun r7 M8 => (if r7 = (0 : Int32) then some ((-1 : Int32), M8) else grd (inb v1 2107) (some ((M8 209 (v1).toNatClampNeg), M8))))
def f_X11_count (N : Nat) (v1 : Int32) (M : Mm) : Option (Int32 × Mm) :=
  lt (wr M 208 0 (0 : Int32)) (fun M1 => (if v1 = (3 : Int32) then grd (inb (3 : Int32) 2107) ((if (M1 209 ((3 : Int32)).toNatClampNeg) = (1 : Int32) then grd (inb (409 : Int32) 2107) (some ((M1 209 ((409 : Int32)).toNatClampNeg), M1)) else some ((-1 : Int32), M1))) else (if v1 = (4 : Int32) then f_X11_count_110 N v1 M1 else (if v1 = (5 : Int32) then f_X11_count_110 N v1 M1 else (if v1 = (6 : Int32) then f_X11_count_110 N v1 M1 else (if v1 = (7 : Int32) then f_X11_count_110 N v1 M1 else (if v1 = (8 : Int32) then f_X11_count_110 N v1 M1 else (if v1 = (9 : Int32) then f_X11_count_110 N v1 M1 else (if v1 = (10 : Int32) then bnd (f_X11_grainsOfAll N M1) (fun r18 M19 => some (r18, M19)) else (if v1 = (11 : Int32) then bnd (f_X11_dietOnes N M1) (fun r22 M23 => some (r22, M23)) else (if v1 = (12 : Int32) then grd (inb (10 : Int32) 2107) (some ((M1 209 ((10 : Int32)).toNatClampNeg), M1)) else (if v1 = (13 : Int32) then some ((M1 208 7), M1) else f_X11_count_110 N v1 M1))))))))))))
set_option maxRecDepth 20000 in
set_option maxHeartbeats 4000000 in
theorem ok_X11_count_110 {N : Nat} {X : am_X} {l : Launch} (hC : am_C X l (am_rm 5 0 0) cX11_count yX11_count.cls (some .int)) (hnt : am_NT X) {v1 : Int32} {M : Mm} {r : Int32} {M' : Mm} (h : f_X11_count_110 N v1 M = some (r, M')) : am_V X LY M 0 0 (am_Q X LY 0 0 (.inl (some (.int r))) M') 110 [some (.ref 208), some (.int v1)] [] := by
  unfold f_X11_count_110 at h
  refine v_iload_n hC dX11_count_110 rfl ?_
  refine v_iconst (v := (0 : Int32)) hC dX11_count_111 rfl ?_
  refine v_bipush (v := (9 : Int32)) hC dX11_count_112 rfl ?_
  obtain ⟨r7, M8, q9, h⟩ := bnd_some h
  refine w_callSi hC [.int v1, .int (0 : Int32), .int (9 : Int32)] [] (ok_X11_in q9) ms_X11_in aw_1404 rfl (Nat.le_of_ble_eq_true rfl) ⟨by decide, by decide⟩ ⟨by decide, by decide⟩ dX11_count_114 ?_
  refine v_if_eq hC 129 dX11_count_117 rfl (fun c10 => ?_) (fun c10 => ?_)
  · rw [if_pos c10] at h
    refine v_iconst (v := (-1 : Int32)) hC dX11_count_129 rfl ?_
    cases h
    exact v_iret hC (by decide) (by decide) dX11_count_130
  · rw [if_neg c10] at h
    refine v_aload_n hC dX11_count_120 rfl ?_
    refine v_geta (k := 1) (b := 209) hC cls_X11 ly_208 (by decide) rfl aw_1232 rfl dX11_count_121 ?_
    refine v_iload_n hC dX11_count_124 rfl ?_
    obtain ⟨g11, h⟩ := grd_some h
    refine v_iald hC ly_209 (inb_in g11) dX11_count_125 ?_
    refine v_goto (tg := 130) hC dX11_count_126 rfl ?_
    cases h
    exact v_iret hC (by decide) (by decide) dX11_count_130
set_option maxRecDepth 20000 in
set_option maxHeartbeats 4000000 in
theorem ok_X11_count {l : Launch} {N : Nat} {v1 : Int32} {M : Mm} {r : Int32} {M' : Mm} (h : f_X11_count N v1 M = some (r, M')) : am_M l yX11_count cX11_count 2 (some .int) 5 0 0 LY M [.ref 208, .int v1] (.inl (some (.int r))) M' := by
  unfold f_X11_count at h
  refine am_intro (by decide) (by simp [Value.category]) (Nat.le_of_ble_eq_true rfl) (fun X hC hnt => ?_)
  refine am_start (L := [some (.ref 208), some (.int v1)]) rfl ?_
  refine v_aload_n hC dX11_count_0 rfl ?_
  refine v_iconst (v := (0 : Int32)) hC dX11_count_1 rfl ?_
  obtain ⟨M1, e_M1, h⟩ := lt_some h
  refine w_puti (k := 0) hC cls_X11 ly_208 (by decide) rfl aw_1231 rfl rfl ⟨rfl, rfl⟩ dX11_count_2 e_M1 ?_
  refine v_iload_n hC dX11_count_5 rfl ?_
  by_cases c2 : v1 = (3 : Int32)
  · rw [if_pos c2] at h
    refine v_tableIn hC 64 dX11_count_6 (by rw [c2]; decide) (by rw [c2]; decide) (by rw [c2]; first | done | rfl) rfl ?_
    refine v_aload_n hC dX11_count_64 rfl ?_
    refine v_geta (k := 1) (b := 209) hC cls_X11 ly_208 (by decide) rfl aw_1232 rfl dX11_count_65 ?_
    refine v_iconst (v := (3 : Int32)) hC dX11_count_68 rfl ?_
    obtain ⟨g3, h⟩ := grd_some h
    refine v_iald hC ly_209 (inb_in g3) dX11_count_69 ?_
    refine v_iconst (v := (1 : Int32)) hC dX11_count_70 rfl ?_
    refine v_icmp_ne hC 85 dX11_count_71 rfl (fun c4 => ?_) (fun c4 => ?_)
    · rw [if_neg c4] at h
      refine v_iconst (v := (-1 : Int32)) hC dX11_count_85 rfl ?_
      cases h
      exact v_iret hC (by decide) (by decide) dX11_count_86
    · rw [if_pos c4] at h
      refine v_aload_n hC dX11_count_74 rfl ?_
      refine v_geta (k := 1) (b := 209) hC cls_X11 ly_208 (by decide) rfl aw_1232 rfl dX11_count_75 ?_
      refine v_sipush (v := (409 : Int32)) hC dX11_count_78 rfl ?_
      obtain ⟨g5, h⟩ := grd_some h
      refine v_iald hC ly_209 (inb_in g5) dX11_count_81 ?_
      refine v_goto (tg := 86) hC dX11_count_82 rfl ?_
      cases h
      exact v_iret hC (by decide) (by decide) dX11_count_86
  · rw [if_neg c2] at h
    by_cases c6 : v1 = (4 : Int32)
    · rw [if_pos c6] at h
      refine v_tableIn hC 110 dX11_count_6 (by rw [c6]; decide) (by rw [c6]; decide) (by rw [c6]; first | done | rfl) rfl ?_
      exact ok_X11_count_110 hC hnt h
    · rw [if_neg c6] at h
      by_cases c12 : v1 = (5 : Int32)
      · rw [if_pos c12] at h
        refine v_tableIn hC 110 dX11_count_6 (by rw [c12]; decide) (by rw [c12]; decide) (by rw [c12]; first | done | rfl) rfl ?_
        exact ok_X11_count_110 hC hnt h
      · rw [if_neg c12] at h
        by_cases c13 : v1 = (6 : Int32)
        · rw [if_pos c13] at h
          refine v_tableIn hC 110 dX11_count_6 (by rw [c13]; decide) (by rw [c13]; decide) (by rw [c13]; first | done | rfl) rfl ?_
          exact ok_X11_count_110 hC hnt h
        · rw [if_neg c13] at h
          by_cases c14 : v1 = (7 : Int32)
          · rw [if_pos c14] at h
            refine v_tableIn hC 110 dX11_count_6 (by rw [c14]; decide) (by rw [c14]; decide) (by rw [c14]; first | done | rfl) rfl ?_
            exact ok_X11_count_110 hC hnt h
          · rw [if_neg c14] at h
            by_cases c15 : v1 = (8 : Int32)
            · rw [if_pos c15] at h
              refine v_tableIn hC 110 dX11_count_6 (by rw [c15]; decide) (by rw [c15]; decide) (by rw [c15]; first | done | rfl) rfl ?_
              exact ok_X11_count_110 hC hnt h
            · rw [if_neg c15] at h
              by_cases c16 : v1 = (9 : Int32)
              · rw [if_pos c16] at h
                refine v_tableIn hC 110 dX11_count_6 (by rw [c16]; decide) (by rw [c16]; decide) (by rw [c16]; first | done | rfl) rfl ?_
                exact ok_X11_count_110 hC hnt h
              · rw [if_neg c16] at h
                by_cases c17 : v1 = (10 : Int32)
                · rw [if_pos c17] at h
                  refine v_tableIn hC 87 dX11_count_6 (by rw [c17]; decide) (by rw [c17]; decide) (by rw [c17]; first | done | rfl) rfl ?_
                  refine v_aload_n hC dX11_count_87 rfl ?_
                  obtain ⟨r18, M19, q20, h⟩ := bnd_some h
                  refine w_callVi hC [] [] (ok_X11_grainsOfAll q20) mv_X11_grainsOfAll aw_1759 ly_208 rfl (Nat.le_of_ble_eq_true rfl) ⟨by decide, by decide⟩ ⟨by decide, by decide⟩ dX11_count_88 ?_
                  cases h
                  exact v_iret hC (by decide) (by decide) dX11_count_91
                · rw [if_neg c17] at h
                  by_cases c21 : v1 = (11 : Int32)
                  · rw [if_pos c21] at h
                    refine v_tableIn hC 92 dX11_count_6 (by rw [c21]; decide) (by rw [c21]; decide) (by rw [c21]; first | done | rfl) rfl ?_
                    refine v_aload_n hC dX11_count_92 rfl ?_
                    obtain ⟨r22, M23, q24, h⟩ := bnd_some h
                    refine w_callVi hC [] [] (ok_X11_dietOnes q24) mv_X11_dietOnes aw_1702 ly_208 rfl (Nat.le_of_ble_eq_true rfl) ⟨by decide, by decide⟩ ⟨by decide, by decide⟩ dX11_count_93 ?_
                    cases h
                    exact v_iret hC (by decide) (by decide) dX11_count_96
                  · rw [if_neg c21] at h
                    by_cases c25 : v1 = (12 : Int32)
                    · rw [if_pos c25] at h
                      refine v_tableIn hC 97 dX11_count_6 (by rw [c25]; decide) (by rw [c25]; decide) (by rw [c25]; first | done | rfl) rfl ?_
                      refine v_aload_n hC dX11_count_97 rfl ?_
                      refine v_geta (k := 1) (b := 209) hC cls_X11 ly_208 (by decide) rfl aw_1232 rfl dX11_count_98 ?_
                      refine v_bipush (v := (10 : Int32)) hC dX11_count_101 rfl ?_
                      obtain ⟨g26, h⟩ := grd_some h
                      refine v_iald hC ly_209 (inb_in g26) dX11_count_103 ?_
                      cases h
                      exact v_iret hC (by decide) (by decide) dX11_count_104
                    · rw [if_neg c25] at h
                      by_cases c27 : v1 = (13 : Int32)
                      · rw [if_pos c27] at h
                        refine v_tableIn hC 105 dX11_count_6 (by rw [c27]; decide) (by rw [c27]; decide) (by rw [c27]; first | done | rfl) rfl ?_
                        refine v_aload_n hC dX11_count_105 rfl ?_
                        refine v_geti (k := 7) hC cls_X11 ly_208 (by decide) rfl aw_1238 rfl dX11_count_106 ?_
                        cases h
                        exact v_iret hC (by decide) (by decide) dX11_count_109
                      · rw [if_neg c27] at h
                        refine v_tableOut hC 110 dX11_count_6 (by have t_c2 := lv_neT (k := (3 : Int32)) (a := 3) c2 rfl; have t_c6 := lv_neT (k := (4 : Int32)) (a := 4) c6 rfl; have t_c12 := lv_neT (k := (5 : Int32)) (a := 5) c12 rfl; have t_c13 := lv_neT (k := (6 : Int32)) (a := 6) c13 rfl; have t_c14 := lv_neT (k := (7 : Int32)) (a := 7) c14 rfl; have t_c15 := lv_neT (k := (8 : Int32)) (a := 8) c15 rfl; have t_c16 := lv_neT (k := (9 : Int32)) (a := 9) c16 rfl; have t_c17 := lv_neT (k := (10 : Int32)) (a := 10) c17 rfl; have t_c21 := lv_neT (k := (11 : Int32)) (a := 11) c21 rfl; have t_c25 := lv_neT (k := (12 : Int32)) (a := 12) c25 rfl; have t_c27 := lv_neT (k := (13 : Int32)) (a := 13) c27 rfl; omega) rfl ?_
                        exact ok_X11_count_110 hC hnt h
