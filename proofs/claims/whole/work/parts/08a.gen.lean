def f_X6_hasOf_26 (N : Nat) (a0 : Nat) (M : Mm) : Option (Int32 × Mm) :=
  some ((0 : Int32), M)
def f_X6_hasOf (N : Nat) (a0 : Nat) (v1 : Int32) (v2 : Int32) (M : Mm) : Option (Int32 × Mm) :=
  lt ((v1 * (6 : Int32)) + v2) (fun x1 => (if x1 < (0 : Int32) then f_X6_hasOf_26 N a0 M else (if (48 : Int32) ≤ x1 then f_X6_hasOf_26 N a0 M else grd (inb x1 48) (some ((M (a0 + 3) (x1).toNatClampNeg), M)))))
set_option maxRecDepth 20000 in
set_option maxHeartbeats 4000000 in
theorem ok_X6_hasOf_26 {N : Nat} {X : am_X} {l : Launch} (hC : am_C X l (am_rm 1 0 0) cX6_hasOf yX6_hasOf.cls (some .int)) (hnt : am_NT X) {a0 : Nat} (h0 : kTable a0) {M : Mm} {r : Int32} {M' : Mm} (h : f_X6_hasOf_26 N a0 M = some (r, M')) : am_V X LY M 0 0 (am_Q X LY 0 0 (.inl (some (.int r))) M') 26 [none, none, none, none] [] := by
  unfold f_X6_hasOf_26 at h
  refine v_iconst (v := (0 : Int32)) hC dX6_hasOf_26 rfl ?_
  cases h
  exact v_iret hC (by decide) (by decide) dX6_hasOf_27
set_option maxRecDepth 20000 in
set_option maxHeartbeats 4000000 in
theorem ok_X6_hasOf {l : Launch} {N : Nat} {a0 : Nat} {v1 v2 : Int32} {M : Mm} {r : Int32} {M' : Mm} (h0 : kTable a0) (h : f_X6_hasOf N a0 v1 v2 M = some (r, M')) : am_M l yX6_hasOf cX6_hasOf 4 (some .int) 1 0 0 LY M [.ref a0, .int v1, .int v2] (.inl (some (.int r))) M' := by
  unfold f_X6_hasOf at h
  refine am_intro (by decide) (by simp [Value.category]) (Nat.le_of_ble_eq_true rfl) (fun X hC hnt => ?_)
  refine am_start (L := [some (.ref a0), some (.int v1), some (.int v2), none]) rfl ?_
  refine v_iload_n hC dX6_hasOf_0 rfl ?_
  refine v_bipush (v := (6 : Int32)) hC dX6_hasOf_1 rfl ?_
  refine v_imul hC dX6_hasOf_3 ?_
  refine v_iload_n hC dX6_hasOf_4 rfl ?_
  refine v_iadd hC dX6_hasOf_5 ?_
  obtain ⟨x1, e_x1, h⟩ := lt_some h
  refine v_nam e_x1 ?_
  refine w_istore_n hC dX6_hasOf_6 (ltk rfl) [some (.ref a0), some (.int v1), some (.int v2), some (.int x1)] rfl ?_
  refine v_iload_n hC dX6_hasOf_7 rfl ?_
  refine v_if_lt hC 26 dX6_hasOf_8 rfl (fun c2 => ?_) (fun c2 => ?_)
  · rw [if_pos c2] at h
    refine v_drop [false, false, false, false] [none, none, none, none] rfl ?_
    exact ok_X6_hasOf_26 hC hnt h0 h
  · rw [if_neg c2] at h
    refine v_iload_n hC dX6_hasOf_11 rfl ?_
    refine v_bipush (v := (48 : Int32)) hC dX6_hasOf_12 rfl ?_
    refine v_icmp_ge hC 26 dX6_hasOf_14 rfl (fun c3 => ?_) (fun c3 => ?_)
    · rw [if_pos c3] at h
      refine v_drop [false, false, false, false] [none, none, none, none] rfl ?_
      exact ok_X6_hasOf_26 hC hnt h0 h
    · rw [if_neg c3] at h
      refine v_aload_n hC dX6_hasOf_17 rfl ?_
      refine v_geta (k := 13) (b := (a0 + 3)) hC cls_X6 h0.1 (by decide) rfl aw_124 rfl dX6_hasOf_18 ?_
      refine v_iload_n hC dX6_hasOf_21 rfl ?_
      obtain ⟨g4, h⟩ := grd_some h
      refine v_iald hC (kT_has h0) (inb_in g4) dX6_hasOf_22 ?_
      refine v_goto (tg := 27) hC dX6_hasOf_23 rfl ?_
      cases h
      exact v_iret hC (by decide) (by decide) dX6_hasOf_27
def f_X6_isOnDiet (N : Nat) (a0 : Nat) (v1 : Int32) (M : Mm) : Option (Int32 × Mm) :=
  (if (((M a0 2) >>> (v1 &&& 31)) &&& (1 : Int32)) = (1 : Int32) then some ((1 : Int32), M) else some ((0 : Int32), M))
set_option maxRecDepth 20000 in
set_option maxHeartbeats 4000000 in
theorem ok_X6_isOnDiet {l : Launch} {N : Nat} {a0 : Nat} {v1 : Int32} {M : Mm} {r : Int32} {M' : Mm} (h0 : kTable a0) (h : f_X6_isOnDiet N a0 v1 M = some (r, M')) : am_M l yX6_isOnDiet cX6_isOnDiet 2 (some .boolean) 1 0 0 LY M [.ref a0, .int v1] (.inl (some (.int r))) M' := by
  unfold f_X6_isOnDiet at h
  refine am_intro (by decide) (by simp [Value.category]) (Nat.le_of_ble_eq_true rfl) (fun X hC hnt => ?_)
  refine am_start (L := [some (.ref a0), some (.int v1)]) rfl ?_
  refine v_aload_n hC dX6_isOnDiet_0 rfl ?_
  refine v_geti (k := 2) hC cls_X6 h0.1 (by decide) rfl aw_92 rfl dX6_isOnDiet_1 ?_
  refine v_iload_n hC dX6_isOnDiet_4 rfl ?_
  refine v_ishr hC dX6_isOnDiet_5 ?_
  refine v_iconst (v := (1 : Int32)) hC dX6_isOnDiet_6 rfl ?_
  refine v_iand hC dX6_isOnDiet_7 ?_
  refine v_iconst (v := (1 : Int32)) hC dX6_isOnDiet_8 rfl ?_
  refine v_icmp_ne hC 16 dX6_isOnDiet_9 rfl (fun c1 => ?_) (fun c1 => ?_)
  · rw [if_neg c1] at h
    refine v_iconst (v := (0 : Int32)) hC dX6_isOnDiet_16 rfl ?_
    cases h
    exact v_zret hC (by decide) (by decide) (by decide) dX6_isOnDiet_17
  · rw [if_pos c1] at h
    refine v_iconst (v := (1 : Int32)) hC dX6_isOnDiet_12 rfl ?_
    refine v_goto (tg := 17) hC dX6_isOnDiet_13 rfl ?_
    cases h
    exact v_zret hC (by decide) (by decide) (by decide) dX6_isOnDiet_17
def f_X0_tell (N : Nat) (a1 : Nat) (v2 : Int32) (v3 : Int32) (M : Mm) : Option (Int32 × Mm) :=
  (if v2 < (0 : Int32) then some (0, M) else (if (5 : Int32) ≤ v2 then some (0, M) else (if v3 < (0 : Int32) then some (0, M) else (if v3 < (8 : Int32) then lt (wr M 40 0 v3) (fun M5 => lt (wr M5 40 1 v2) (fun M6 => grd (inb v3 8) (lt (wr M6 40 2 (M6 (a1 + 2) (v3).toNatClampNeg)) (fun M8 => grd (inb v2 5) (lt (wr M8 40 3 (M8 (a1 + 6) (v2).toNatClampNeg)) (fun M10 => grd (inb v2 5) (lt (wr M10 40 4 (M10 (a1 + 7) (v2).toNatClampNeg)) (fun M12 => grd (inb v2 5) (bnd (f_X6_hasOf N a1 v3 (M12 (a1 + 5) (v2).toNatClampNeg) M12) (fun r14 M15 => lt (wr M15 40 5 r14) (fun M17 => lt (wr M17 40 6 (M17 a1 4)) (fun M18 => bnd (f_X6_isOnDiet N a1 v3 M18) (fun r19 M20 => grd (isb r19) (lt (wr M20 40 7 r19) (fun M22 => (if (((M22 a1 3) >>> ((M22 40 6) &&& 31)) &&& (1 : Int32)) = (1 : Int32) then lt (wr M22 40 8 (1 : Int32)) (fun M26 => some (0, M26)) else lt (wr M22 40 8 (0 : Int32)) (fun M25 => some (0, M25)))))))))))))))))) else some (0, M)))))
set_option maxRecDepth 20000 in
set_option maxHeartbeats 4000000 in
theorem ok_X0_tell {l : Launch} {N : Nat} {a1 : Nat} {v2 v3 : Int32} {M : Mm} {r : Int32} {M' : Mm} (h1 : kTable a1) (h : f_X0_tell N a1 v2 v3 M = some (r, M')) : am_M l yX0_tell cX0_tell 4 none 2 0 0 LY M [.ref 40, .ref a1, .int v2, .int v3] (.inl none) M' := by
  unfold f_X0_tell at h
  refine am_intro (by decide) (by simp [Value.category]) (Nat.le_of_ble_eq_true rfl) (fun X hC hnt => ?_)
  refine am_start (L := [some (.ref 40), some (.ref a1), some (.int v2), some (.int v3)]) rfl ?_
  refine v_iload_n hC dX0_tell_0 rfl ?_
  refine v_if_lt hC 19 dX0_tell_1 rfl (fun c1 => ?_) (fun c1 => ?_)
  · rw [if_pos c1] at h
    cases h
    exact v_vret hC (by decide) (by decide) dX0_tell_19
  · rw [if_neg c1] at h
    refine v_iload_n hC dX0_tell_4 rfl ?_
    refine v_iconst (v := (5 : Int32)) hC dX0_tell_5 rfl ?_
    refine v_icmp_ge hC 19 dX0_tell_6 rfl (fun c2 => ?_) (fun c2 => ?_)
    · rw [if_pos c2] at h
      cases h
      exact v_vret hC (by decide) (by decide) dX0_tell_19
    · rw [if_neg c2] at h
      refine v_iload_n hC dX0_tell_9 rfl ?_
      refine v_if_lt hC 19 dX0_tell_10 rfl (fun c3 => ?_) (fun c3 => ?_)
      · rw [if_pos c3] at h
        cases h
        exact v_vret hC (by decide) (by decide) dX0_tell_19
      · rw [if_neg c3] at h
        refine v_iload_n hC dX0_tell_13 rfl ?_
        refine v_bipush (v := (8 : Int32)) hC dX0_tell_14 rfl ?_
        refine v_icmp_lt hC 20 dX0_tell_16 rfl (fun c4 => ?_) (fun c4 => ?_)
        · rw [if_pos c4] at h
          refine v_aload_n hC dX0_tell_20 rfl ?_
          refine v_iload_n hC dX0_tell_21 rfl ?_
          obtain ⟨M5, e_M5, h⟩ := lt_some h
          refine w_puti (k := 0) hC cls_X0 ly_40 (by decide) rfl aw_244 rfl rfl ⟨rfl, rfl⟩ dX0_tell_22 e_M5 ?_
          refine v_aload_n hC dX0_tell_25 rfl ?_
          refine v_iload_n hC dX0_tell_26 rfl ?_
          obtain ⟨M6, e_M6, h⟩ := lt_some h
          refine w_puti (k := 1) hC cls_X0 ly_40 (by decide) rfl aw_246 rfl rfl ⟨rfl, rfl⟩ dX0_tell_27 e_M6 ?_
          refine v_aload_n hC dX0_tell_30 rfl ?_
          refine v_aload_n hC dX0_tell_31 rfl ?_
          refine v_geta (k := 12) (b := (a1 + 2)) hC cls_X6 h1.1 (by decide) rfl aw_122 rfl dX0_tell_32 ?_
          refine v_iload_n hC dX0_tell_35 rfl ?_
          obtain ⟨g7, h⟩ := grd_some h
          refine v_iald hC (kT_taste h1) (inb_in g7) dX0_tell_36 ?_
          obtain ⟨M8, e_M8, h⟩ := lt_some h
          refine w_puti (k := 2) hC cls_X0 ly_40 (by decide) rfl aw_248 rfl rfl ⟨rfl, rfl⟩ dX0_tell_37 e_M8 ?_
          refine v_aload_n hC dX0_tell_40 rfl ?_
          refine v_aload_n hC dX0_tell_41 rfl ?_
          refine v_geta (k := 16) (b := (a1 + 6)) hC cls_X6 h1.1 (by decide) rfl aw_133 rfl dX0_tell_42 ?_
          refine v_iload_n hC dX0_tell_45 rfl ?_
          obtain ⟨g9, h⟩ := grd_some h
          refine v_iald hC (kT_grains h1) (inb_in g9) dX0_tell_46 ?_
          obtain ⟨M10, e_M10, h⟩ := lt_some h
          refine w_puti (k := 3) hC cls_X0 ly_40 (by decide) rfl aw_250 rfl rfl ⟨rfl, rfl⟩ dX0_tell_47 e_M10 ?_
          refine v_aload_n hC dX0_tell_50 rfl ?_
          refine v_aload_n hC dX0_tell_51 rfl ?_
          refine v_geta (k := 17) (b := (a1 + 7)) hC cls_X6 h1.1 (by decide) rfl aw_137 rfl dX0_tell_52 ?_
          refine v_iload_n hC dX0_tell_55 rfl ?_
          obtain ⟨g11, h⟩ := grd_some h
          refine v_iald hC (kT_set h1) (inb_in g11) dX0_tell_56 ?_
          obtain ⟨M12, e_M12, h⟩ := lt_some h
          refine w_puti (k := 4) hC cls_X0 ly_40 (by decide) rfl aw_253 rfl rfl ⟨rfl, rfl⟩ dX0_tell_57 e_M12 ?_
          refine v_aload_n hC dX0_tell_60 rfl ?_
          refine v_aload_n hC dX0_tell_61 rfl ?_
          refine v_iload_n hC dX0_tell_62 rfl ?_
          refine v_aload_n hC dX0_tell_63 rfl ?_
          refine v_geta (k := 15) (b := (a1 + 5)) hC cls_X6 h1.1 (by decide) rfl aw_129 rfl dX0_tell_64 ?_
          refine v_iload_n hC dX0_tell_67 rfl ?_
          obtain ⟨g13, h⟩ := grd_some h
          refine v_iald hC (kT_trait h1) (inb_in g13) dX0_tell_68 ?_
          obtain ⟨r14, M15, q16, h⟩ := bnd_some h
          refine w_callVi hC [.int v3, .int (M12 (a1 + 5) (v2).toNatClampNeg)] [.ref 40] (ok_X6_hasOf h1 q16) mv_X6_hasOf aw_437 h1.1 rfl (Nat.le_of_ble_eq_true rfl) ⟨by decide, by decide⟩ ⟨by decide, by decide⟩ dX0_tell_69 ?_
          obtain ⟨M17, e_M17, h⟩ := lt_some h
          refine w_puti (k := 5) hC cls_X0 ly_40 (by decide) rfl aw_255 rfl rfl ⟨rfl, rfl⟩ dX0_tell_72 e_M17 ?_
          refine v_aload_n hC dX0_tell_75 rfl ?_
          refine v_aload_n hC dX0_tell_76 rfl ?_
          refine v_geti (k := 4) hC cls_X6 h1.1 (by decide) rfl aw_98 rfl dX0_tell_77 ?_
          obtain ⟨M18, e_M18, h⟩ := lt_some h
          refine w_puti (k := 6) hC cls_X0 ly_40 (by decide) rfl aw_258 rfl rfl ⟨rfl, rfl⟩ dX0_tell_80 e_M18 ?_
          refine v_aload_n hC dX0_tell_83 rfl ?_
          refine v_aload_n hC dX0_tell_84 rfl ?_
          refine v_iload_n hC dX0_tell_85 rfl ?_
          obtain ⟨r19, M20, q21, h⟩ := bnd_some h
          refine w_callVi hC [.int v3] [.ref 40] (ok_X6_isOnDiet h1 q21) mv_X6_isOnDiet aw_441 h1.1 rfl (Nat.le_of_ble_eq_true rfl) ⟨by decide, by decide⟩ ⟨by decide, by decide⟩ dX0_tell_86 ?_
          obtain ⟨g23, h⟩ := grd_some h
          obtain ⟨M22, e_M22, h⟩ := lt_some h
          refine w_puti (k := 7) hC cls_X0 ly_40 (by decide) rfl aw_260 rfl rfl (isb_nar g23) dX0_tell_89 e_M22 ?_
          refine v_aload_n hC dX0_tell_92 rfl ?_
          refine v_aload_n hC dX0_tell_93 rfl ?_
          refine v_geti (k := 3) hC cls_X6 h1.1 (by decide) rfl aw_95 rfl dX0_tell_94 ?_
          refine v_aload_n hC dX0_tell_97 rfl ?_
          refine v_geti (k := 6) hC cls_X0 ly_40 (by decide) rfl aw_258 rfl dX0_tell_98 ?_
          refine v_ishr hC dX0_tell_101 ?_
          refine v_iconst (v := (1 : Int32)) hC dX0_tell_102 rfl ?_
          refine v_iand hC dX0_tell_103 ?_
          refine v_iconst (v := (1 : Int32)) hC dX0_tell_104 rfl ?_
          refine v_icmp_ne hC 112 dX0_tell_105 rfl (fun c24 => ?_) (fun c24 => ?_)
          · rw [if_neg c24] at h
            refine v_iconst (v := (0 : Int32)) hC dX0_tell_112 rfl ?_
            obtain ⟨M25, e_M25, h⟩ := lt_some h
            refine w_puti (k := 8) hC cls_X0 ly_40 (by decide) rfl aw_263 rfl rfl ⟨by decide, by decide⟩ dX0_tell_113 e_M25 ?_
            cases h
            exact v_vret hC (by decide) (by decide) dX0_tell_116
          · rw [if_pos c24] at h
            refine v_iconst (v := (1 : Int32)) hC dX0_tell_108 rfl ?_
            refine v_goto (tg := 113) hC dX0_tell_109 rfl ?_
            obtain ⟨M26, e_M26, h⟩ := lt_some h
            refine w_puti (k := 8) hC cls_X0 ly_40 (by decide) rfl aw_263 rfl rfl ⟨by decide, by decide⟩ dX0_tell_113 e_M26 ?_
            cases h
            exact v_vret hC (by decide) (by decide) dX0_tell_116
        · rw [if_neg c4] at h
          cases h
          exact v_vret hC (by decide) (by decide) dX0_tell_19
def f_X1_clears (N : Nat) (a0 : Nat) (M : Mm) : Option (Int32 × Mm) :=
  lt (wr M a0 0 (1 : Int32)) (fun M1 => lt (wr M1 a0 1 (0 : Int32)) (fun M2 => lt (wr M2 a0 2 (0 : Int32)) (fun M3 => some (0, M3))))
set_option maxRecDepth 20000 in
set_option maxHeartbeats 4000000 in
theorem ok_X1_clears {l : Launch} {N : Nat} {a0 : Nat} {M : Mm} {r : Int32} {M' : Mm} (h0 : kLaw a0) (h : f_X1_clears N a0 M = some (r, M')) : am_M l yX1_clears cX1_clears 1 none 1 0 0 LY M [.ref a0] (.inl none) M' := by
  unfold f_X1_clears at h
  refine am_intro (by decide) (by simp [Value.category]) (Nat.le_of_ble_eq_true rfl) (fun X hC hnt => ?_)
  refine am_start (L := [some (.ref a0)]) rfl ?_
  refine v_aload_n hC dX1_clears_0 rfl ?_
  refine v_iconst (v := (1 : Int32)) hC dX1_clears_1 rfl ?_
  obtain ⟨M1, e_M1, h⟩ := lt_some h
  refine w_puti (k := 0) hC cls_X1 h0.1 (by decide) rfl aw_187 rfl rfl ⟨by decide, by decide⟩ dX1_clears_2 e_M1 ?_
  refine v_aload_n hC dX1_clears_5 rfl ?_
  refine v_iconst (v := (0 : Int32)) hC dX1_clears_6 rfl ?_
  obtain ⟨M2, e_M2, h⟩ := lt_some h
  refine w_puti (k := 1) hC cls_X1 h0.1 (by decide) rfl aw_189 rfl rfl ⟨rfl, rfl⟩ dX1_clears_7 e_M2 ?_
  refine v_aload_n hC dX1_clears_10 rfl ?_
  refine v_iconst (v := (0 : Int32)) hC dX1_clears_11 rfl ?_
  obtain ⟨M3, e_M3, h⟩ := lt_some h
  refine w_puti (k := 2) hC cls_X1 h0.1 (by decide) rfl aw_191 rfl rfl ⟨rfl, rfl⟩ dX1_clears_12 e_M3 ?_
  cases h
  exact v_vret hC (by decide) (by decide) dX1_clears_15
def f_X1_copies (N : Nat) (a0 : Nat) (a1 : Nat) (M : Mm) : Option (Int32 × Mm) :=
  grd (isb (M a1 0)) (lt (wr M a0 0 (M a1 0)) (fun M1 => lt (wr M1 a0 1 (M1 a1 1)) (fun M3 => lt (wr M3 a0 2 (M3 a1 2)) (fun M4 => lt (cpy M4 (a1 + 1) (a0 + 1) 12) (fun M5 => lt (cpy M5 (a1 + 2) (a0 + 2) 12) (fun M6 => lt (cpy M6 (a1 + 3) (a0 + 3) 12) (fun M7 => lt (cpy M7 (a1 + 4) (a0 + 4) 12) (fun M8 => lt (cpy M8 (a1 + 5) (a0 + 5) 400) (fun M9 => some (0, M9))))))))))
set_option maxRecDepth 20000 in
set_option maxHeartbeats 4000000 in
theorem ok_X1_copies {l : Launch} {N : Nat} {a0 a1 : Nat} {M : Mm} {r : Int32} {M' : Mm} (h0 : kLaw a0) (h1 : kLaw a1) (h : f_X1_copies N a0 a1 M = some (r, M')) : am_M l yX1_copies cX1_copies 2 none 1 0 0 LY M [.ref a0, .ref a1] (.inl none) M' := by
  unfold f_X1_copies at h
  refine am_intro (by decide) (by simp [Value.category]) (Nat.le_of_ble_eq_true rfl) (fun X hC hnt => ?_)
  refine am_start (L := [some (.ref a0), some (.ref a1)]) rfl ?_
  refine v_aload_n hC dX1_copies_0 rfl ?_
  refine v_aload_n hC dX1_copies_1 rfl ?_
  refine v_geti (k := 0) hC cls_X1 h1.1 (by decide) rfl aw_187 rfl dX1_copies_2 ?_
  obtain ⟨g2, h⟩ := grd_some h
  obtain ⟨M1, e_M1, h⟩ := lt_some h
  refine w_puti (k := 0) hC cls_X1 h0.1 (by decide) rfl aw_187 rfl rfl (isb_nar g2) dX1_copies_5 e_M1 ?_
  refine v_aload_n hC dX1_copies_8 rfl ?_
  refine v_aload_n hC dX1_copies_9 rfl ?_
  refine v_geti (k := 1) hC cls_X1 h1.1 (by decide) rfl aw_189 rfl dX1_copies_10 ?_
  obtain ⟨M3, e_M3, h⟩ := lt_some h
  refine w_puti (k := 1) hC cls_X1 h0.1 (by decide) rfl aw_189 rfl rfl ⟨rfl, rfl⟩ dX1_copies_13 e_M3 ?_
  refine v_aload_n hC dX1_copies_16 rfl ?_
  refine v_aload_n hC dX1_copies_17 rfl ?_
  refine v_geti (k := 2) hC cls_X1 h1.1 (by decide) rfl aw_191 rfl dX1_copies_18 ?_
  obtain ⟨M4, e_M4, h⟩ := lt_some h
  refine w_puti (k := 2) hC cls_X1 h0.1 (by decide) rfl aw_191 rfl rfl ⟨rfl, rfl⟩ dX1_copies_21 e_M4 ?_
  refine v_aload_n hC dX1_copies_24 rfl ?_
  refine v_geta (k := 3) (b := (a1 + 1)) hC cls_X1 h1.1 (by decide) rfl aw_193 rfl dX1_copies_25 ?_
  refine v_iconst (v := (0 : Int32)) hC dX1_copies_28 rfl ?_
  refine v_aload_n hC dX1_copies_29 rfl ?_
  refine v_geta (k := 3) (b := (a0 + 1)) hC cls_X1 h0.1 (by decide) rfl aw_193 rfl dX1_copies_30 ?_
  refine v_iconst (v := (0 : Int32)) hC dX1_copies_33 rfl ?_
  refine v_bipush (v := (12 : Int32)) hC dX1_copies_34 rfl ?_
  obtain ⟨M5, e_M5, h⟩ := lt_some h
  refine w_copy (N := 12) hC rfl (by decide) (kL_kind h1) (kL_kind h0) (by decide) (by decide) aw_566 aw_403 aw_402 aw_12 (by decide) (Nat.le_of_ble_eq_true rfl) dX1_copies_36 e_M5 ?_
  refine v_aload_n hC dX1_copies_39 rfl ?_
  refine v_geta (k := 4) (b := (a1 + 2)) hC cls_X1 h1.1 (by decide) rfl aw_194 rfl dX1_copies_40 ?_
  refine v_iconst (v := (0 : Int32)) hC dX1_copies_43 rfl ?_
  refine v_aload_n hC dX1_copies_44 rfl ?_
  refine v_geta (k := 4) (b := (a0 + 2)) hC cls_X1 h0.1 (by decide) rfl aw_194 rfl dX1_copies_45 ?_
  refine v_iconst (v := (0 : Int32)) hC dX1_copies_48 rfl ?_
  refine v_bipush (v := (12 : Int32)) hC dX1_copies_49 rfl ?_
  obtain ⟨M6, e_M6, h⟩ := lt_some h
  refine w_copy (N := 12) hC rfl (by decide) (kL_n h1) (kL_n h0) (by decide) (by decide) aw_566 aw_403 aw_402 aw_12 (by decide) (Nat.le_of_ble_eq_true rfl) dX1_copies_51 e_M6 ?_
  refine v_aload_n hC dX1_copies_54 rfl ?_
  refine v_geta (k := 5) (b := (a1 + 3)) hC cls_X1 h1.1 (by decide) rfl aw_195 rfl dX1_copies_55 ?_
  refine v_iconst (v := (0 : Int32)) hC dX1_copies_58 rfl ?_
  refine v_aload_n hC dX1_copies_59 rfl ?_
  refine v_geta (k := 5) (b := (a0 + 3)) hC cls_X1 h0.1 (by decide) rfl aw_195 rfl dX1_copies_60 ?_
  refine v_iconst (v := (0 : Int32)) hC dX1_copies_63 rfl ?_
  refine v_bipush (v := (12 : Int32)) hC dX1_copies_64 rfl ?_
  obtain ⟨M7, e_M7, h⟩ := lt_some h
  refine w_copy (N := 12) hC rfl (by decide) (kL_from h1) (kL_from h0) (by decide) (by decide) aw_566 aw_403 aw_402 aw_12 (by decide) (Nat.le_of_ble_eq_true rfl) dX1_copies_66 e_M7 ?_
  refine v_aload_n hC dX1_copies_69 rfl ?_
  refine v_geta (k := 6) (b := (a1 + 4)) hC cls_X1 h1.1 (by decide) rfl aw_196 rfl dX1_copies_70 ?_
  refine v_iconst (v := (0 : Int32)) hC dX1_copies_73 rfl ?_
  refine v_aload_n hC dX1_copies_74 rfl ?_
  refine v_geta (k := 6) (b := (a0 + 4)) hC cls_X1 h0.1 (by decide) rfl aw_196 rfl dX1_copies_75 ?_
  refine v_iconst (v := (0 : Int32)) hC dX1_copies_78 rfl ?_
  refine v_bipush (v := (12 : Int32)) hC dX1_copies_79 rfl ?_
  obtain ⟨M8, e_M8, h⟩ := lt_some h
  refine w_copy (N := 12) hC rfl (by decide) (kL_to h1) (kL_to h0) (by decide) (by decide) aw_566 aw_403 aw_402 aw_12 (by decide) (Nat.le_of_ble_eq_true rfl) dX1_copies_81 e_M8 ?_
  refine v_aload_n hC dX1_copies_84 rfl ?_
  refine v_geta (k := 7) (b := (a1 + 5)) hC cls_X1 h1.1 (by decide) rfl aw_197 rfl dX1_copies_85 ?_
  refine v_iconst (v := (0 : Int32)) hC dX1_copies_88 rfl ?_
  refine v_aload_n hC dX1_copies_89 rfl ?_
  refine v_geta (k := 7) (b := (a0 + 5)) hC cls_X1 h0.1 (by decide) rfl aw_197 rfl dX1_copies_90 ?_
  refine v_iconst (v := (0 : Int32)) hC dX1_copies_93 rfl ?_
  refine v_sipush (v := (400 : Int32)) hC dX1_copies_94 rfl ?_
  obtain ⟨M9, e_M9, h⟩ := lt_some h
  refine w_copy (N := 400) hC rfl (by decide) (kL_code h1) (kL_code h0) (by decide) (by decide) aw_566 aw_403 aw_402 aw_12 (by decide) (Nat.le_of_ble_eq_true rfl) dX1_copies_97 e_M9 ?_
  cases h
  exact v_vret hC (by decide) (by decide) dX1_copies_100
def f_X1_addsStep (N : Nat) (a0 : Nat) (v1 : Int32) (M : Mm) : Option (Int32 × Mm) :=
  (if (400 : Int32) ≤ (M a0 2) then some (0, M) else grd (inb (M a0 2) 400) (lt (wr M (a0 + 5) ((M a0 2)).toNatClampNeg v1) (fun M3 => lt (wr M3 a0 2 ((M3 a0 2) + (1 : Int32))) (fun M4 => some (0, M4)))))
set_option maxRecDepth 20000 in
set_option maxHeartbeats 4000000 in
theorem ok_X1_addsStep {l : Launch} {N : Nat} {a0 : Nat} {v1 : Int32} {M : Mm} {r : Int32} {M' : Mm} (h0 : kLaw a0) (h : f_X1_addsStep N a0 v1 M = some (r, M')) : am_M l yX1_addsStep cX1_addsStep 2 none 1 0 0 LY M [.ref a0, .int v1] (.inl none) M' := by
  unfold f_X1_addsStep at h
  refine am_intro (by decide) (by simp [Value.category]) (Nat.le_of_ble_eq_true rfl) (fun X hC hnt => ?_)
  refine am_start (L := [some (.ref a0), some (.int v1)]) rfl ?_
  refine v_aload_n hC dX1_addsStep_0 rfl ?_
  refine v_geti (k := 2) hC cls_X1 h0.1 (by decide) rfl aw_191 rfl dX1_addsStep_1 ?_
  refine v_sipush (v := (400 : Int32)) hC dX1_addsStep_4 rfl ?_
  refine v_icmp_ge hC 30 dX1_addsStep_7 rfl (fun c1 => ?_) (fun c1 => ?_)
  · rw [if_pos c1] at h
    cases h
    exact v_vret hC (by decide) (by decide) dX1_addsStep_30
  · rw [if_neg c1] at h
    refine v_aload_n hC dX1_addsStep_10 rfl ?_
    refine v_geta (k := 7) (b := (a0 + 5)) hC cls_X1 h0.1 (by decide) rfl aw_197 rfl dX1_addsStep_11 ?_
    refine v_aload_n hC dX1_addsStep_14 rfl ?_
    refine v_geti (k := 2) hC cls_X1 h0.1 (by decide) rfl aw_191 rfl dX1_addsStep_15 ?_
    refine v_iload_n hC dX1_addsStep_18 rfl ?_
    obtain ⟨g2, h⟩ := grd_some h
    obtain ⟨M3, e_M3, h⟩ := lt_some h
    refine w_iast hC (kL_code h0) (inb_in g2) dX1_addsStep_19 e_M3 ?_
    refine v_aload_n hC dX1_addsStep_20 rfl ?_
    refine v_dup hC dX1_addsStep_21 rfl ?_
    refine v_geti (k := 2) hC cls_X1 h0.1 (by decide) rfl aw_191 rfl dX1_addsStep_22 ?_
    refine v_iconst (v := (1 : Int32)) hC dX1_addsStep_25 rfl ?_
    refine v_iadd hC dX1_addsStep_26 ?_
    obtain ⟨M4, e_M4, h⟩ := lt_some h
    refine w_puti (k := 2) hC cls_X1 h0.1 (by decide) rfl aw_191 rfl rfl ⟨rfl, rfl⟩ dX1_addsStep_27 e_M4 ?_
    cases h
    exact v_vret hC (by decide) (by decide) dX1_addsStep_30
def f_X1_addsLine (N : Nat) (a0 : Nat) (v1 : Int32) (v2 : Int32) (v3 : Int32) (M : Mm) : Option (Int32 × Mm) :=
  (if (12 : Int32) ≤ (M a0 1) then some (0, M) else grd (inb (M a0 1) 12) (lt (wr M (a0 + 1) ((M a0 1)).toNatClampNeg v1) (fun M3 => grd (inb (M3 a0 1) 12) (lt (wr M3 (a0 + 2) ((M3 a0 1)).toNatClampNeg v2) (fun M5 => grd (inb (M5 a0 1) 12) (lt (wr M5 (a0 + 3) ((M5 a0 1)).toNatClampNeg v3) (fun M7 => grd (inb (M7 a0 1) 12) (lt (wr M7 (a0 + 4) ((M7 a0 1)).toNatClampNeg (M7 a0 2)) (fun M9 => lt (wr M9 a0 1 ((M9 a0 1) + (1 : Int32))) (fun M10 => some (0, M10)))))))))))
set_option maxRecDepth 20000 in
set_option maxHeartbeats 4000000 in
theorem ok_X1_addsLine {l : Launch} {N : Nat} {a0 : Nat} {v1 v2 v3 : Int32} {M : Mm} {r : Int32} {M' : Mm} (h0 : kLaw a0) (h : f_X1_addsLine N a0 v1 v2 v3 M = some (r, M')) : am_M l yX1_addsLine cX1_addsLine 4 none 1 0 0 LY M [.ref a0, .int v1, .int v2, .int v3] (.inl none) M' := by
  unfold f_X1_addsLine at h
  refine am_intro (by decide) (by simp [Value.category]) (Nat.le_of_ble_eq_true rfl) (fun X hC hnt => ?_)
  refine am_start (L := [some (.ref a0), some (.int v1), some (.int v2), some (.int v3)]) rfl ?_
  refine v_aload_n hC dX1_addsLine_0 rfl ?_
  refine v_geti (k := 1) hC cls_X1 h0.1 (by decide) rfl aw_189 rfl dX1_addsLine_1 ?_
  refine v_bipush (v := (12 : Int32)) hC dX1_addsLine_4 rfl ?_
  refine v_icmp_ge hC 62 dX1_addsLine_6 rfl (fun c1 => ?_) (fun c1 => ?_)
  · rw [if_pos c1] at h
    cases h
    exact v_vret hC (by decide) (by decide) dX1_addsLine_62
  · rw [if_neg c1] at h
    refine v_aload_n hC dX1_addsLine_9 rfl ?_
    refine v_geta (k := 3) (b := (a0 + 1)) hC cls_X1 h0.1 (by decide) rfl aw_193 rfl dX1_addsLine_10 ?_
    refine v_aload_n hC dX1_addsLine_13 rfl ?_
    refine v_geti (k := 1) hC cls_X1 h0.1 (by decide) rfl aw_189 rfl dX1_addsLine_14 ?_
    refine v_iload_n hC dX1_addsLine_17 rfl ?_
    obtain ⟨g2, h⟩ := grd_some h
    obtain ⟨M3, e_M3, h⟩ := lt_some h
    refine w_iast hC (kL_kind h0) (inb_in g2) dX1_addsLine_18 e_M3 ?_
    refine v_aload_n hC dX1_addsLine_19 rfl ?_
    refine v_geta (k := 4) (b := (a0 + 2)) hC cls_X1 h0.1 (by decide) rfl aw_194 rfl dX1_addsLine_20 ?_
    refine v_aload_n hC dX1_addsLine_23 rfl ?_
    refine v_geti (k := 1) hC cls_X1 h0.1 (by decide) rfl aw_189 rfl dX1_addsLine_24 ?_
    refine v_iload_n hC dX1_addsLine_27 rfl ?_
    obtain ⟨g4, h⟩ := grd_some h
    obtain ⟨M5, e_M5, h⟩ := lt_some h
    refine w_iast hC (kL_n h0) (inb_in g4) dX1_addsLine_28 e_M5 ?_
    refine v_aload_n hC dX1_addsLine_29 rfl ?_
    refine v_geta (k := 5) (b := (a0 + 3)) hC cls_X1 h0.1 (by decide) rfl aw_195 rfl dX1_addsLine_30 ?_
    refine v_aload_n hC dX1_addsLine_33 rfl ?_
    refine v_geti (k := 1) hC cls_X1 h0.1 (by decide) rfl aw_189 rfl dX1_addsLine_34 ?_
    refine v_iload_n hC dX1_addsLine_37 rfl ?_
    obtain ⟨g6, h⟩ := grd_some h
    obtain ⟨M7, e_M7, h⟩ := lt_some h
    refine w_iast hC (kL_from h0) (inb_in g6) dX1_addsLine_38 e_M7 ?_
    refine v_aload_n hC dX1_addsLine_39 rfl ?_
    refine v_geta (k := 6) (b := (a0 + 4)) hC cls_X1 h0.1 (by decide) rfl aw_196 rfl dX1_addsLine_40 ?_
    refine v_aload_n hC dX1_addsLine_43 rfl ?_
    refine v_geti (k := 1) hC cls_X1 h0.1 (by decide) rfl aw_189 rfl dX1_addsLine_44 ?_
    refine v_aload_n hC dX1_addsLine_47 rfl ?_
    refine v_geti (k := 2) hC cls_X1 h0.1 (by decide) rfl aw_191 rfl dX1_addsLine_48 ?_
    obtain ⟨g8, h⟩ := grd_some h
    obtain ⟨M9, e_M9, h⟩ := lt_some h
    refine w_iast hC (kL_to h0) (inb_in g8) dX1_addsLine_51 e_M9 ?_
    refine v_aload_n hC dX1_addsLine_52 rfl ?_
    refine v_dup hC dX1_addsLine_53 rfl ?_
    refine v_geti (k := 1) hC cls_X1 h0.1 (by decide) rfl aw_189 rfl dX1_addsLine_54 ?_
    refine v_iconst (v := (1 : Int32)) hC dX1_addsLine_57 rfl ?_
    refine v_iadd hC dX1_addsLine_58 ?_
    obtain ⟨M10, e_M10, h⟩ := lt_some h
    refine w_puti (k := 1) hC cls_X1 h0.1 (by decide) rfl aw_189 rfl rfl ⟨rfl, rfl⟩ dX1_addsLine_59 e_M10 ?_
    cases h
    exact v_vret hC (by decide) (by decide) dX1_addsLine_62
def f_X1_part (N : Nat) (v0 : Int32) (M : Mm) : Option (Int32 × Mm) :=
  (if v0 = (1256 : Int32) then some ((M 40 0), M) else (if v0 = (1257 : Int32) then some ((M 40 2), M) else (if v0 = (1260 : Int32) then some ((M 40 1), M) else (if v0 = (1261 : Int32) then some ((M 40 3), M) else (if v0 = (1268 : Int32) then some ((M 40 6), M) else (if v0 = (1276 : Int32) then some ((M 40 5), M) else some ((0 : Int32), M)))))))
set_option maxRecDepth 20000 in
set_option maxHeartbeats 4000000 in
theorem ok_X1_part {l : Launch} {N : Nat} {v0 : Int32} {M : Mm} {r : Int32} {M' : Mm} (h : f_X1_part N v0 M = some (r, M')) : am_M l yX1_part cX1_part 2 (some .int) 1 0 0 LY M [.int v0, .ref 40] (.inl (some (.int r))) M' := by
  unfold f_X1_part at h
  refine am_intro (by decide) (by simp [Value.category]) (Nat.le_of_ble_eq_true rfl) (fun X hC hnt => ?_)
  refine am_start (L := [some (.int v0), some (.ref 40)]) rfl ?_
  refine v_iload_n hC dX1_part_0 rfl ?_
  by_cases c1 : v0 = (1256 : Int32)
  · rw [if_pos c1] at h
    refine v_lookup hC 60 dX1_part_1 (by decide) (by rw [c1]; first | done | rfl) rfl ?_
    refine v_aload_n hC dX1_part_60 rfl ?_
    refine v_geti (k := 0) hC cls_X0 ly_40 (by decide) rfl aw_245 rfl dX1_part_61 ?_
    cases h
    exact v_iret hC (by decide) (by decide) dX1_part_64
  · rw [if_neg c1] at h
    by_cases c2 : v0 = (1257 : Int32)
    · rw [if_pos c2] at h
      refine v_lookup hC 70 dX1_part_1 (by decide) (by rw [c2]; first | done | rfl) rfl ?_
      refine v_aload_n hC dX1_part_70 rfl ?_
      refine v_geti (k := 2) hC cls_X0 ly_40 (by decide) rfl aw_249 rfl dX1_part_71 ?_
      cases h
      exact v_iret hC (by decide) (by decide) dX1_part_74
    · rw [if_neg c2] at h
      by_cases c3 : v0 = (1260 : Int32)
      · rw [if_pos c3] at h
        refine v_lookup hC 65 dX1_part_1 (by decide) (by rw [c3]; first | done | rfl) rfl ?_
        refine v_aload_n hC dX1_part_65 rfl ?_
        refine v_geti (k := 1) hC cls_X0 ly_40 (by decide) rfl aw_247 rfl dX1_part_66 ?_
        cases h
        exact v_iret hC (by decide) (by decide) dX1_part_69
      · rw [if_neg c3] at h
        by_cases c4 : v0 = (1261 : Int32)
        · rw [if_pos c4] at h
          refine v_lookup hC 75 dX1_part_1 (by decide) (by rw [c4]; first | done | rfl) rfl ?_
          refine v_aload_n hC dX1_part_75 rfl ?_
          refine v_geti (k := 3) hC cls_X0 ly_40 (by decide) rfl aw_251 rfl dX1_part_76 ?_
          cases h
          exact v_iret hC (by decide) (by decide) dX1_part_79
        · rw [if_neg c4] at h
          by_cases c5 : v0 = (1268 : Int32)
          · rw [if_pos c5] at h
            refine v_lookup hC 85 dX1_part_1 (by decide) (by rw [c5]; first | done | rfl) rfl ?_
            refine v_aload_n hC dX1_part_85 rfl ?_
            refine v_geti (k := 6) hC cls_X0 ly_40 (by decide) rfl aw_259 rfl dX1_part_86 ?_
            cases h
            exact v_iret hC (by decide) (by decide) dX1_part_89
          · rw [if_neg c5] at h
            by_cases c6 : v0 = (1276 : Int32)
            · rw [if_pos c6] at h
              refine v_lookup hC 80 dX1_part_1 (by decide) (by rw [c6]; first | done | rfl) rfl ?_
              refine v_aload_n hC dX1_part_80 rfl ?_
              refine v_geti (k := 5) hC cls_X0 ly_40 (by decide) rfl aw_256 rfl dX1_part_81 ?_
              cases h
              exact v_iret hC (by decide) (by decide) dX1_part_84
            · rw [if_neg c6] at h
              refine v_lookup hC 90 dX1_part_1 (by decide) ((lv_osw (k := (1256 : Int32)) c1 rfl).trans <| (lv_osw (k := (1257 : Int32)) c2 rfl).trans <| (lv_osw (k := (1260 : Int32)) c3 rfl).trans <| (lv_osw (k := (1261 : Int32)) c4 rfl).trans <| (lv_osw (k := (1268 : Int32)) c5 rfl).trans <| (lv_osw (k := (1276 : Int32)) c6 rfl).trans <| rfl) rfl ?_
              refine v_iconst (v := (0 : Int32)) hC dX1_part_90 rfl ?_
              cases h
              exact v_iret hC (by decide) (by decide) dX1_part_91
def f_X1_holds_307 (N : Nat) (a0 : Nat) (v4 : Int32) (M : Mm) : Option (Int32 × Mm) :=
  (if (v4 &&& (1 : Int32)) = (1 : Int32) then some ((1 : Int32), M) else some ((0 : Int32), M))
def f_X1_holds_158 (N : Nat) (a0 : Nat) (k16 : Int32 → Int32 → Int32 → Int32 → Int32 → Mm → Option (Int32 × Mm)) (v2 : Int32) (v5 : Int32) (v7 : Int32) (s0 : Int32) (s1 : Int32) (M : Mm) : Option (Int32 × Mm) :=
  lt (s0 ||| s1) (fun x12 => k16 v2 x12 v5 (0 : Int32) (v7 + (1 : Int32)) M)
def f_X1_holds_183 (N : Nat) (a0 : Nat) (k16 : Int32 → Int32 → Int32 → Int32 → Int32 → Mm → Option (Int32 × Mm)) (v2 : Int32) (v5 : Int32) (v7 : Int32) (s0 : Int32) (s1 : Int32) (M : Mm) : Option (Int32 × Mm) :=
  lt (s0 ||| s1) (fun x16 => k16 v2 x16 v5 (0 : Int32) (v7 + (1 : Int32)) M)
def f_X1_holds_208 (N : Nat) (a0 : Nat) (k16 : Int32 → Int32 → Int32 → Int32 → Int32 → Mm → Option (Int32 × Mm)) (v2 : Int32) (v5 : Int32) (v6 : Int32) (v7 : Int32) (s0 : Int32) (s1 : Int32) (M : Mm) : Option (Int32 × Mm) :=
  lt (s0 ||| s1) (fun x20 => k16 v2 x20 v5 v6 (v7 + (1 : Int32)) M)
def f_X1_holds_271 (N : Nat) (a0 : Nat) (k16 : Int32 → Int32 → Int32 → Int32 → Int32 → Mm → Option (Int32 × Mm)) (v2 : Int32) (v5 : Int32) (v6 : Int32) (v7 : Int32) (s0 : Int32) (M : Mm) : Option (Int32 × Mm) :=
  k16 v2 s0 v5 v6 (v7 + (1 : Int32)) M
def f_X1_holds_234 (N : Nat) (a0 : Nat) (k16 : Int32 → Int32 → Int32 → Int32 → Int32 → Mm → Option (Int32 × Mm)) (v2 : Int32) (v5 : Int32) (v6 : Int32) (v7 : Int32) (s0 : Int32) (s1 : Int32) (M : Mm) : Option (Int32 × Mm) :=
  lt (s0 ||| s1) (fun x33 => k16 v2 x33 v5 v6 (v7 + (1 : Int32)) M)
def f_X1_holds_16 (N : Nat) (a0 : Nat) : Nat → Int32 → Int32 → Int32 → Int32 → Int32 → Mm → Option (Int32 × Mm)
  | 0, _, _, _, _, _, _ => none
  | n + 1, v2, v4, v5, v6, v7, M => (if v2 ≤ v7 then f_X1_holds_307 N a0 v4 M else (if (400 : Int32) ≤ v7 then f_X1_holds_307 N a0 v4 M else grd (inb v7 400) (lt (M (a0 + 5) (v7).toNatClampNeg) (fun x6 => (if (1000 : Int32) ≤ x6 then (if x6 = (1001 : Int32) then f_X1_holds_16 N a0 n v2 v4 v6 (0 : Int32) (v7 + (1 : Int32)) M else (if x6 = (1002 : Int32) then (if v6 ≤ v5 then f_X1_holds_158 N a0 (fun v2 v4 v5 v6 v7 M => f_X1_holds_16 N a0 n v2 v4 v5 v6 v7 M) v2 v5 v7 (v4 <<< ((1 : Int32) &&& 31)) (0 : Int32) M else f_X1_holds_158 N a0 (fun v2 v4 v5 v6 v7 M => f_X1_holds_16 N a0 n v2 v4 v5 v6 v7 M) v2 v5 v7 (v4 <<< ((1 : Int32) &&& 31)) (1 : Int32) M) else (if x6 = (1003 : Int32) then (if v5 ≤ v6 then f_X1_holds_183 N a0 (fun v2 v4 v5 v6 v7 M => f_X1_holds_16 N a0 n v2 v4 v5 v6 v7 M) v2 v5 v7 (v4 <<< ((1 : Int32) &&& 31)) (0 : Int32) M else f_X1_holds_183 N a0 (fun v2 v4 v5 v6 v7 M => f_X1_holds_16 N a0 n v2 v4 v5 v6 v7 M) v2 v5 v7 (v4 <<< ((1 : Int32) &&& 31)) (1 : Int32) M) else (if x6 = (1259 : Int32) then (if (M 40 7) = (0 : Int32) then f_X1_holds_208 N a0 (fun v2 v4 v5 v6 v7 M => f_X1_holds_16 N a0 n v2 v4 v5 v6 v7 M) v2 v5 v6 v7 (v4 <<< ((1 : Int32) &&& 31)) (0 : Int32) M else f_X1_holds_208 N a0 (fun v2 v4 v5 v6 v7 M => f_X1_holds_16 N a0 n v2 v4 v5 v6 v7 M) v2 v5 v6 v7 (v4 <<< ((1 : Int32) &&& 31)) (1 : Int32) M) else (if x6 = (1272 : Int32) then lt ((v4 >>> ((1 : Int32) &&& 31)) ||| (v4 &&& (1 : Int32))) (fun x23 => f_X1_holds_16 N a0 n v2 x23 v5 v6 (v7 + (1 : Int32)) M) else (if x6 = (1273 : Int32) then (if (v4 &&& (1 : Int32)) = (1 : Int32) then f_X1_holds_271 N a0 (fun v2 v4 v5 v6 v7 M => f_X1_holds_16 N a0 n v2 v4 v5 v6 v7 M) v2 v5 v6 v7 (v4 >>> ((1 : Int32) &&& 31)) M else f_X1_holds_271 N a0 (fun v2 v4 v5 v6 v7 M => f_X1_holds_16 N a0 n v2 v4 v5 v6 v7 M) v2 v5 v6 v7 ((v4 >>> ((1 : Int32) &&& 31)) &&& (-2 : Int32)) M) else (if x6 = (1274 : Int32) then lt (v4 ^^^ (1 : Int32)) (fun x29 => f_X1_holds_16 N a0 n v2 x29 v5 v6 (v7 + (1 : Int32)) M) else (if x6 = (1275 : Int32) then (if (M 40 2) < (M 40 3) then f_X1_holds_234 N a0 (fun v2 v4 v5 v6 v7 M => f_X1_holds_16 N a0 n v2 v4 v5 v6 v7 M) v2 v5 v6 v7 (v4 <<< ((1 : Int32) &&& 31)) (0 : Int32) M else f_X1_holds_234 N a0 (fun v2 v4 v5 v6 v7 M => f_X1_holds_16 N a0 n v2 v4 v5 v6 v7 M) v2 v5 v6 v7 (v4 <<< ((1 : Int32) &&& 31)) (1 : Int32) M) else bnd (f_X1_part N x6 M) (fun r35 M36 => lt (v6 + r35) (fun x38 => f_X1_holds_16 N a0 n v2 v4 v5 x38 (v7 + (1 : Int32)) M36)))))))))) else lt (v6 + x6) (fun x40 => f_X1_holds_16 N a0 n v2 v4 v5 x40 (v7 + (1 : Int32)) M))))))
def f_X1_holds (N : Nat) (a0 : Nat) (v1 : Int32) (v2 : Int32) (M : Mm) : Option (Int32 × Mm) :=
  lt (if (0 : Int32) < v1 then v1 else (0 : Int32)) (fun x1 => f_X1_holds_16 N a0 N v2 (1 : Int32) (0 : Int32) (0 : Int32) x1 M)
set_option maxRecDepth 20000 in
set_option maxHeartbeats 4000000 in
theorem ok_X1_holds_307 {N : Nat} {X : am_X} {l : Launch} (hC : am_C X l (am_rm 2 0 0) cX1_holds yX1_holds.cls (some .boolean)) (hnt : am_NT X) {a0 : Nat} (h0 : kLaw a0) {v4 : Int32} {M : Mm} {r : Int32} {M' : Mm} (h : f_X1_holds_307 N a0 v4 M = some (r, M')) : am_V X LY M 0 0 (am_Q X LY 0 0 (.inl (some (.int r))) M') 307 [none, none, none, none, some (.int v4), none, none, none, none] [] := by
  unfold f_X1_holds_307 at h
  refine v_iload hC dX1_holds_307 rfl ?_
  refine v_iconst (v := (1 : Int32)) hC dX1_holds_309 rfl ?_
  refine v_iand hC dX1_holds_310 ?_
  refine v_iconst (v := (1 : Int32)) hC dX1_holds_311 rfl ?_
  refine v_icmp_ne hC 319 dX1_holds_312 rfl (fun c3 => ?_) (fun c3 => ?_)
  · rw [if_neg c3] at h
    refine v_iconst (v := (0 : Int32)) hC dX1_holds_319 rfl ?_
    cases h
    exact v_zret hC (by decide) (by decide) (by decide) dX1_holds_320
  · rw [if_pos c3] at h
    refine v_iconst (v := (1 : Int32)) hC dX1_holds_315 rfl ?_
    refine v_goto (tg := 320) hC dX1_holds_316 rfl ?_
    cases h
    exact v_zret hC (by decide) (by decide) (by decide) dX1_holds_320
set_option maxRecDepth 20000 in
set_option maxHeartbeats 4000000 in
theorem ok_X1_holds_158 {N : Nat} {X : am_X} {l : Launch} (hC : am_C X l (am_rm 2 0 0) cX1_holds yX1_holds.cls (some .boolean)) (hnt : am_NT X) {a0 : Nat} (h0 : kLaw a0) {k16 : Int32 → Int32 → Int32 → Int32 → Int32 → Mm → Option (Int32 × Mm)} (hk16 : ∀ (v2 v4 v5 v6 v7 : Int32) (M : Mm) (r : Int32) (M' : Mm), k16 v2 v4 v5 v6 v7 M = some (r, M') → am_V X LY M 0 0 (am_Q X LY 0 0 (.inl (some (.int r))) M') 16 [some (.ref a0), none, some (.int v2), some (.ref 40), some (.int v4), some (.int v5), some (.int v6), some (.int v7), none] []) {v2 v5 v7 s0 s1 : Int32} {M : Mm} {r : Int32} {M' : Mm} (h : f_X1_holds_158 N a0 k16 v2 v5 v7 s0 s1 M = some (r, M')) : am_V X LY M 0 0 (am_Q X LY 0 0 (.inl (some (.int r))) M') 158 [some (.ref a0), none, some (.int v2), some (.ref 40), none, some (.int v5), none, some (.int v7), none] [.int s1, .int s0] := by
  unfold f_X1_holds_158 at h
  refine v_ior hC dX1_holds_158 ?_
  obtain ⟨x12, e_x12, h⟩ := lt_some h
  refine v_nam e_x12 ?_
  refine w_istore hC dX1_holds_159 (ltk rfl) [some (.ref a0), none, some (.int v2), some (.ref 40), some (.int x12), some (.int v5), none, some (.int v7), none] rfl ?_
  refine v_iconst (v := (0 : Int32)) hC dX1_holds_161 rfl ?_
  refine w_istore hC dX1_holds_162 (ltk rfl) [some (.ref a0), none, some (.int v2), some (.ref 40), some (.int x12), some (.int v5), some (.int (0 : Int32)), some (.int v7), none] rfl ?_
  refine v_goto (tg := 301) hC dX1_holds_164 rfl ?_
  refine w_iinc hC (v7 + (1 : Int32)) dX1_holds_301 rfl rfl [some (.ref a0), none, some (.int v2), some (.ref 40), some (.int x12), some (.int v5), some (.int (0 : Int32)), some (.int (v7 + (1 : Int32))), none] rfl ?_
  refine v_goto (tg := 16) hC dX1_holds_304 rfl ?_
  exact hk16 _ _ _ _ _ _ _ _ h
set_option maxRecDepth 20000 in
set_option maxHeartbeats 4000000 in
theorem ok_X1_holds_183 {N : Nat} {X : am_X} {l : Launch} (hC : am_C X l (am_rm 2 0 0) cX1_holds yX1_holds.cls (some .boolean)) (hnt : am_NT X) {a0 : Nat} (h0 : kLaw a0) {k16 : Int32 → Int32 → Int32 → Int32 → Int32 → Mm → Option (Int32 × Mm)} (hk16 : ∀ (v2 v4 v5 v6 v7 : Int32) (M : Mm) (r : Int32) (M' : Mm), k16 v2 v4 v5 v6 v7 M = some (r, M') → am_V X LY M 0 0 (am_Q X LY 0 0 (.inl (some (.int r))) M') 16 [some (.ref a0), none, some (.int v2), some (.ref 40), some (.int v4), some (.int v5), some (.int v6), some (.int v7), none] []) {v2 v5 v7 s0 s1 : Int32} {M : Mm} {r : Int32} {M' : Mm} (h : f_X1_holds_183 N a0 k16 v2 v5 v7 s0 s1 M = some (r, M')) : am_V X LY M 0 0 (am_Q X LY 0 0 (.inl (some (.int r))) M') 183 [some (.ref a0), none, some (.int v2), some (.ref 40), none, some (.int v5), none, some (.int v7), none] [.int s1, .int s0] := by
  unfold f_X1_holds_183 at h
  refine v_ior hC dX1_holds_183 ?_
  obtain ⟨x16, e_x16, h⟩ := lt_some h
  refine v_nam e_x16 ?_
  refine w_istore hC dX1_holds_184 (ltk rfl) [some (.ref a0), none, some (.int v2), some (.ref 40), some (.int x16), some (.int v5), none, some (.int v7), none] rfl ?_
  refine v_iconst (v := (0 : Int32)) hC dX1_holds_186 rfl ?_
  refine w_istore hC dX1_holds_187 (ltk rfl) [some (.ref a0), none, some (.int v2), some (.ref 40), some (.int x16), some (.int v5), some (.int (0 : Int32)), some (.int v7), none] rfl ?_
  refine v_goto (tg := 301) hC dX1_holds_189 rfl ?_
  refine w_iinc hC (v7 + (1 : Int32)) dX1_holds_301 rfl rfl [some (.ref a0), none, some (.int v2), some (.ref 40), some (.int x16), some (.int v5), some (.int (0 : Int32)), some (.int (v7 + (1 : Int32))), none] rfl ?_
  refine v_goto (tg := 16) hC dX1_holds_304 rfl ?_
  exact hk16 _ _ _ _ _ _ _ _ h
set_option maxRecDepth 20000 in
set_option maxHeartbeats 4000000 in
theorem ok_X1_holds_208 {N : Nat} {X : am_X} {l : Launch} (hC : am_C X l (am_rm 2 0 0) cX1_holds yX1_holds.cls (some .boolean)) (hnt : am_NT X) {a0 : Nat} (h0 : kLaw a0) {k16 : Int32 → Int32 → Int32 → Int32 → Int32 → Mm → Option (Int32 × Mm)} (hk16 : ∀ (v2 v4 v5 v6 v7 : Int32) (M : Mm) (r : Int32) (M' : Mm), k16 v2 v4 v5 v6 v7 M = some (r, M') → am_V X LY M 0 0 (am_Q X LY 0 0 (.inl (some (.int r))) M') 16 [some (.ref a0), none, some (.int v2), some (.ref 40), some (.int v4), some (.int v5), some (.int v6), some (.int v7), none] []) {v2 v5 v6 v7 s0 s1 : Int32} {M : Mm} {r : Int32} {M' : Mm} (h : f_X1_holds_208 N a0 k16 v2 v5 v6 v7 s0 s1 M = some (r, M')) : am_V X LY M 0 0 (am_Q X LY 0 0 (.inl (some (.int r))) M') 208 [some (.ref a0), none, some (.int v2), some (.ref 40), none, some (.int v5), some (.int v6), some (.int v7), none] [.int s1, .int s0] := by
  unfold f_X1_holds_208 at h
  refine v_ior hC dX1_holds_208 ?_
  obtain ⟨x20, e_x20, h⟩ := lt_some h
  refine v_nam e_x20 ?_
  refine w_istore hC dX1_holds_209 (ltk rfl) [some (.ref a0), none, some (.int v2), some (.ref 40), some (.int x20), some (.int v5), some (.int v6), some (.int v7), none] rfl ?_
  refine v_goto (tg := 301) hC dX1_holds_211 rfl ?_
  refine w_iinc hC (v7 + (1 : Int32)) dX1_holds_301 rfl rfl [some (.ref a0), none, some (.int v2), some (.ref 40), some (.int x20), some (.int v5), some (.int v6), some (.int (v7 + (1 : Int32))), none] rfl ?_
  refine v_goto (tg := 16) hC dX1_holds_304 rfl ?_
  exact hk16 _ _ _ _ _ _ _ _ h
set_option maxRecDepth 20000 in
set_option maxHeartbeats 4000000 in
theorem ok_X1_holds_271 {N : Nat} {X : am_X} {l : Launch} (hC : am_C X l (am_rm 2 0 0) cX1_holds yX1_holds.cls (some .boolean)) (hnt : am_NT X) {a0 : Nat} (h0 : kLaw a0) {k16 : Int32 → Int32 → Int32 → Int32 → Int32 → Mm → Option (Int32 × Mm)} (hk16 : ∀ (v2 v4 v5 v6 v7 : Int32) (M : Mm) (r : Int32) (M' : Mm), k16 v2 v4 v5 v6 v7 M = some (r, M') → am_V X LY M 0 0 (am_Q X LY 0 0 (.inl (some (.int r))) M') 16 [some (.ref a0), none, some (.int v2), some (.ref 40), some (.int v4), some (.int v5), some (.int v6), some (.int v7), none] []) {v2 v5 v6 v7 s0 : Int32} {M : Mm} {r : Int32} {M' : Mm} (h : f_X1_holds_271 N a0 k16 v2 v5 v6 v7 s0 M = some (r, M')) : am_V X LY M 0 0 (am_Q X LY 0 0 (.inl (some (.int r))) M') 271 [some (.ref a0), none, some (.int v2), some (.ref 40), none, some (.int v5), some (.int v6), some (.int v7), none] [.int s0] := by
  unfold f_X1_holds_271 at h
  refine w_istore hC dX1_holds_271 (ltk rfl) [some (.ref a0), none, some (.int v2), some (.ref 40), some (.int s0), some (.int v5), some (.int v6), some (.int v7), none] rfl ?_
  refine v_goto (tg := 301) hC dX1_holds_273 rfl ?_
  refine w_iinc hC (v7 + (1 : Int32)) dX1_holds_301 rfl rfl [some (.ref a0), none, some (.int v2), some (.ref 40), some (.int s0), some (.int v5), some (.int v6), some (.int (v7 + (1 : Int32))), none] rfl ?_
  refine v_goto (tg := 16) hC dX1_holds_304 rfl ?_
  exact hk16 _ _ _ _ _ _ _ _ h
set_option maxRecDepth 20000 in
set_option maxHeartbeats 4000000 in
theorem ok_X1_holds_234 {N : Nat} {X : am_X} {l : Launch} (hC : am_C X l (am_rm 2 0 0) cX1_holds yX1_holds.cls (some .boolean)) (hnt : am_NT X) {a0 : Nat} (h0 : kLaw a0) {k16 : Int32 → Int32 → Int32 → Int32 → Int32 → Mm → Option (Int32 × Mm)} (hk16 : ∀ (v2 v4 v5 v6 v7 : Int32) (M : Mm) (r : Int32) (M' : Mm), k16 v2 v4 v5 v6 v7 M = some (r, M') → am_V X LY M 0 0 (am_Q X LY 0 0 (.inl (some (.int r))) M') 16 [some (.ref a0), none, some (.int v2), some (.ref 40), some (.int v4), some (.int v5), some (.int v6), some (.int v7), none] []) {v2 v5 v6 v7 s0 s1 : Int32} {M : Mm} {r : Int32} {M' : Mm} (h : f_X1_holds_234 N a0 k16 v2 v5 v6 v7 s0 s1 M = some (r, M')) : am_V X LY M 0 0 (am_Q X LY 0 0 (.inl (some (.int r))) M') 234 [some (.ref a0), none, some (.int v2), some (.ref 40), none, some (.int v5), some (.int v6), some (.int v7), none] [.int s1, .int s0] := by
  unfold f_X1_holds_234 at h
  refine v_ior hC dX1_holds_234 ?_
  obtain ⟨x33, e_x33, h⟩ := lt_some h
  refine v_nam e_x33 ?_
  refine w_istore hC dX1_holds_235 (ltk rfl) [some (.ref a0), none, some (.int v2), some (.ref 40), some (.int x33), some (.int v5), some (.int v6), some (.int v7), none] rfl ?_
  refine v_goto (tg := 301) hC dX1_holds_237 rfl ?_
  refine w_iinc hC (v7 + (1 : Int32)) dX1_holds_301 rfl rfl [some (.ref a0), none, some (.int v2), some (.ref 40), some (.int x33), some (.int v5), some (.int v6), some (.int (v7 + (1 : Int32))), none] rfl ?_
  refine v_goto (tg := 16) hC dX1_holds_304 rfl ?_
  exact hk16 _ _ _ _ _ _ _ _ h
set_option maxRecDepth 20000 in
set_option maxHeartbeats 4000000 in
theorem ok_X1_holds_16 {N : Nat} {X : am_X} {l : Launch} (hC : am_C X l (am_rm 2 0 0) cX1_holds yX1_holds.cls (some .boolean)) (hnt : am_NT X) {a0 : Nat} (h0 : kLaw a0) : ∀ (n : Nat) (v2 v4 v5 v6 v7 : Int32) (M : Mm) (r : Int32) (M' : Mm), f_X1_holds_16 N a0 n v2 v4 v5 v6 v7 M = some (r, M') → am_V X LY M 0 0 (am_Q X LY 0 0 (.inl (some (.int r))) M') 16 [some (.ref a0), none, some (.int v2), some (.ref 40), some (.int v4), some (.int v5), some (.int v6), some (.int v7), none] [] := by
  intro n
  induction n with
  | zero => intro v2 v4 v5 v6 v7 M r M' h; cases h
  | succ n ih =>
    intro v2 v4 v5 v6 v7 M r M' h
    simp only [f_X1_holds_16] at h
    refine v_iload hC dX1_holds_16 rfl ?_
    refine v_iload_n hC dX1_holds_18 rfl ?_
    refine v_icmp_ge hC 307 dX1_holds_19 rfl (fun c2 => ?_) (fun c2 => ?_)
    · rw [if_pos c2] at h
      refine v_drop [false, false, false, false, true, false, false, false, false] [none, none, none, none, some (.int v4), none, none, none, none] rfl ?_
      exact ok_X1_holds_307 hC hnt h0 h
    · rw [if_neg c2] at h
      refine v_iload hC dX1_holds_22 rfl ?_
      refine v_sipush (v := (400 : Int32)) hC dX1_holds_24 rfl ?_
      refine v_icmp_ge hC 307 dX1_holds_27 rfl (fun c4 => ?_) (fun c4 => ?_)
      · rw [if_pos c4] at h
        refine v_drop [false, false, false, false, true, false, false, false, false] [none, none, none, none, some (.int v4), none, none, none, none] rfl ?_
        exact ok_X1_holds_307 hC hnt h0 h
      · rw [if_neg c4] at h
        refine v_aload_n hC dX1_holds_30 rfl ?_
        refine v_geta (k := 7) (b := (a0 + 5)) hC cls_X1 h0.1 (by decide) rfl aw_197 rfl dX1_holds_31 ?_
        refine v_iload hC dX1_holds_34 rfl ?_
        obtain ⟨g5, h⟩ := grd_some h
        refine v_iald hC (kL_code h0) (inb_in g5) dX1_holds_36 ?_
        obtain ⟨x6, e_x6, h⟩ := lt_some h
        refine v_nam e_x6 ?_
        refine w_istore hC dX1_holds_37 (ltk rfl) [some (.ref a0), none, some (.int v2), some (.ref 40), some (.int v4), some (.int v5), some (.int v6), some (.int v7), some (.int x6)] rfl ?_
        refine v_iload hC dX1_holds_39 rfl ?_
        refine v_sipush (v := (1000 : Int32)) hC dX1_holds_41 rfl ?_
        refine v_icmp_ge hC 57 dX1_holds_44 rfl (fun c7 => ?_) (fun c7 => ?_)
        · rw [if_pos c7] at h
          refine v_iload hC dX1_holds_57 rfl ?_
          by_cases c8 : x6 = (1001 : Int32)
          · rw [if_pos c8] at h
            refine v_lookup hC 132 dX1_holds_59 (by decide) (by rw [c8]; first | done | rfl) rfl ?_
            refine v_iload hC dX1_holds_132 rfl ?_
            refine w_istore hC dX1_holds_134 (ltk rfl) [some (.ref a0), none, some (.int v2), some (.ref 40), some (.int v4), some (.int v6), some (.int v6), some (.int v7), some (.int x6)] rfl ?_
            refine v_iconst (v := (0 : Int32)) hC dX1_holds_136 rfl ?_
            refine w_istore hC dX1_holds_137 (ltk rfl) [some (.ref a0), none, some (.int v2), some (.ref 40), some (.int v4), some (.int v6), some (.int (0 : Int32)), some (.int v7), some (.int x6)] rfl ?_
            refine v_goto (tg := 301) hC dX1_holds_139 rfl ?_
            refine w_iinc hC (v7 + (1 : Int32)) dX1_holds_301 rfl rfl [some (.ref a0), none, some (.int v2), some (.ref 40), some (.int v4), some (.int v6), some (.int (0 : Int32)), some (.int (v7 + (1 : Int32))), some (.int x6)] rfl ?_
            refine v_goto (tg := 16) hC dX1_holds_304 rfl ?_
            refine v_drop [true, false, true, true, true, true, true, true, false] [some (.ref a0), none, some (.int v2), some (.ref 40), some (.int v4), some (.int v6), some (.int (0 : Int32)), some (.int (v7 + (1 : Int32))), none] rfl ?_
            exact ih _ _ _ _ _ _ _ _ h
          · rw [if_neg c8] at h
            by_cases c10 : x6 = (1002 : Int32)
            · rw [if_pos c10] at h
              refine v_lookup hC 142 dX1_holds_59 (by decide) (by rw [c10]; first | done | rfl) rfl ?_
              refine v_iload hC dX1_holds_142 rfl ?_
              refine v_iconst (v := (1 : Int32)) hC dX1_holds_144 rfl ?_
              refine v_ishl hC dX1_holds_145 ?_
              refine v_iload hC dX1_holds_146 rfl ?_
              refine v_iload hC dX1_holds_148 rfl ?_
              refine v_icmp_ge hC 157 dX1_holds_150 rfl (fun c11 => ?_) (fun c11 => ?_)
              · rw [if_pos c11] at h
                refine v_iconst (v := (0 : Int32)) hC dX1_holds_157 rfl ?_
                refine v_drop [true, false, true, true, false, true, false, true, false] [some (.ref a0), none, some (.int v2), some (.ref 40), none, some (.int v5), none, some (.int v7), none] rfl ?_
                exact ok_X1_holds_158 hC hnt h0 (fun v2 v4 v5 v6 v7 M r M' h => ih v2 v4 v5 v6 v7 M r M' h) h
              · rw [if_neg c11] at h
                refine v_iconst (v := (1 : Int32)) hC dX1_holds_153 rfl ?_
                refine v_goto (tg := 158) hC dX1_holds_154 rfl ?_
                refine v_drop [true, false, true, true, false, true, false, true, false] [some (.ref a0), none, some (.int v2), some (.ref 40), none, some (.int v5), none, some (.int v7), none] rfl ?_
                exact ok_X1_holds_158 hC hnt h0 (fun v2 v4 v5 v6 v7 M r M' h => ih v2 v4 v5 v6 v7 M r M' h) h
            · rw [if_neg c10] at h
              by_cases c14 : x6 = (1003 : Int32)
              · rw [if_pos c14] at h
                refine v_lookup hC 167 dX1_holds_59 (by decide) (by rw [c14]; first | done | rfl) rfl ?_
                refine v_iload hC dX1_holds_167 rfl ?_
                refine v_iconst (v := (1 : Int32)) hC dX1_holds_169 rfl ?_
                refine v_ishl hC dX1_holds_170 ?_
                refine v_iload hC dX1_holds_171 rfl ?_
                refine v_iload hC dX1_holds_173 rfl ?_
                refine v_icmp_le hC 182 dX1_holds_175 rfl (fun c15 => ?_) (fun c15 => ?_)
                · rw [if_pos c15] at h
                  refine v_iconst (v := (0 : Int32)) hC dX1_holds_182 rfl ?_
                  refine v_drop [true, false, true, true, false, true, false, true, false] [some (.ref a0), none, some (.int v2), some (.ref 40), none, some (.int v5), none, some (.int v7), none] rfl ?_
                  exact ok_X1_holds_183 hC hnt h0 (fun v2 v4 v5 v6 v7 M r M' h => ih v2 v4 v5 v6 v7 M r M' h) h
                · rw [if_neg c15] at h
                  refine v_iconst (v := (1 : Int32)) hC dX1_holds_178 rfl ?_
                  refine v_goto (tg := 183) hC dX1_holds_179 rfl ?_
                  refine v_drop [true, false, true, true, false, true, false, true, false] [some (.ref a0), none, some (.int v2), some (.ref 40), none, some (.int v5), none, some (.int v7), none] rfl ?_
                  exact ok_X1_holds_183 hC hnt h0 (fun v2 v4 v5 v6 v7 M r M' h => ih v2 v4 v5 v6 v7 M r M' h) h
              · rw [if_neg c14] at h
                by_cases c18 : x6 = (1259 : Int32)
                · rw [if_pos c18] at h
                  refine v_lookup hC 192 dX1_holds_59 (by decide) (by rw [c18]; first | done | rfl) rfl ?_
                  refine v_iload hC dX1_holds_192 rfl ?_
                  refine v_iconst (v := (1 : Int32)) hC dX1_holds_194 rfl ?_
                  refine v_ishl hC dX1_holds_195 ?_
                  refine v_aload_n hC dX1_holds_196 rfl ?_
                  refine v_geti (k := 7) hC cls_X0 ly_40 (by decide) rfl aw_261 rfl dX1_holds_197 ?_
                  refine v_if_eq hC 207 dX1_holds_200 rfl (fun c19 => ?_) (fun c19 => ?_)
                  · rw [if_pos c19] at h
                    refine v_iconst (v := (0 : Int32)) hC dX1_holds_207 rfl ?_
                    refine v_drop [true, false, true, true, false, true, true, true, false] [some (.ref a0), none, some (.int v2), some (.ref 40), none, some (.int v5), some (.int v6), some (.int v7), none] rfl ?_
                    exact ok_X1_holds_208 hC hnt h0 (fun v2 v4 v5 v6 v7 M r M' h => ih v2 v4 v5 v6 v7 M r M' h) h
                  · rw [if_neg c19] at h
                    refine v_iconst (v := (1 : Int32)) hC dX1_holds_203 rfl ?_
                    refine v_goto (tg := 208) hC dX1_holds_204 rfl ?_
                    refine v_drop [true, false, true, true, false, true, true, true, false] [some (.ref a0), none, some (.int v2), some (.ref 40), none, some (.int v5), some (.int v6), some (.int v7), none] rfl ?_
                    exact ok_X1_holds_208 hC hnt h0 (fun v2 v4 v5 v6 v7 M r M' h => ih v2 v4 v5 v6 v7 M r M' h) h
                · rw [if_neg c18] at h
                  by_cases c22 : x6 = (1272 : Int32)
                  · rw [if_pos c22] at h
                    refine v_lookup hC 276 dX1_holds_59 (by decide) (by rw [c22]; first | done | rfl) rfl ?_
                    refine v_iload hC dX1_holds_276 rfl ?_
                    refine v_iconst (v := (1 : Int32)) hC dX1_holds_278 rfl ?_
                    refine v_ishr hC dX1_holds_279 ?_
                    refine v_iload hC dX1_holds_280 rfl ?_
                    refine v_iconst (v := (1 : Int32)) hC dX1_holds_282 rfl ?_
                    refine v_iand hC dX1_holds_283 ?_
                    refine v_ior hC dX1_holds_284 ?_
                    obtain ⟨x23, e_x23, h⟩ := lt_some h
                    refine v_nam e_x23 ?_
                    refine w_istore hC dX1_holds_285 (ltk rfl) [some (.ref a0), none, some (.int v2), some (.ref 40), some (.int x23), some (.int v5), some (.int v6), some (.int v7), some (.int x6)] rfl ?_
                    refine v_goto (tg := 301) hC dX1_holds_287 rfl ?_
                    refine w_iinc hC (v7 + (1 : Int32)) dX1_holds_301 rfl rfl [some (.ref a0), none, some (.int v2), some (.ref 40), some (.int x23), some (.int v5), some (.int v6), some (.int (v7 + (1 : Int32))), some (.int x6)] rfl ?_
                    refine v_goto (tg := 16) hC dX1_holds_304 rfl ?_
                    refine v_drop [true, false, true, true, true, true, true, true, false] [some (.ref a0), none, some (.int v2), some (.ref 40), some (.int x23), some (.int v5), some (.int v6), some (.int (v7 + (1 : Int32))), none] rfl ?_
                    exact ih _ _ _ _ _ _ _ _ h
                  · rw [if_neg c22] at h
                    by_cases c25 : x6 = (1273 : Int32)
                    · rw [if_pos c25] at h
                      refine v_lookup hC 249 dX1_holds_59 (by decide) (by rw [c25]; first | done | rfl) rfl ?_
                      refine v_iload hC dX1_holds_249 rfl ?_
                      refine v_iconst (v := (1 : Int32)) hC dX1_holds_251 rfl ?_
                      refine v_iand hC dX1_holds_252 ?_
                      refine v_iconst (v := (1 : Int32)) hC dX1_holds_253 rfl ?_
                      refine v_icmp_ne hC 264 dX1_holds_254 rfl (fun c26 => ?_) (fun c26 => ?_)
                      · rw [if_neg c26] at h
                        refine v_iload hC dX1_holds_264 rfl ?_
                        refine v_iconst (v := (1 : Int32)) hC dX1_holds_266 rfl ?_
                        refine v_ishr hC dX1_holds_267 ?_
                        refine v_bipush (v := (-2 : Int32)) hC dX1_holds_268 rfl ?_
                        refine v_iand hC dX1_holds_270 ?_
                        refine v_drop [true, false, true, true, false, true, true, true, false] [some (.ref a0), none, some (.int v2), some (.ref 40), none, some (.int v5), some (.int v6), some (.int v7), none] rfl ?_
                        exact ok_X1_holds_271 hC hnt h0 (fun v2 v4 v5 v6 v7 M r M' h => ih v2 v4 v5 v6 v7 M r M' h) h
                      · rw [if_pos c26] at h
                        refine v_iload hC dX1_holds_257 rfl ?_
                        refine v_iconst (v := (1 : Int32)) hC dX1_holds_259 rfl ?_
                        refine v_ishr hC dX1_holds_260 ?_
                        refine v_goto (tg := 271) hC dX1_holds_261 rfl ?_
                        refine v_drop [true, false, true, true, false, true, true, true, false] [some (.ref a0), none, some (.int v2), some (.ref 40), none, some (.int v5), some (.int v6), some (.int v7), none] rfl ?_
                        exact ok_X1_holds_271 hC hnt h0 (fun v2 v4 v5 v6 v7 M r M' h => ih v2 v4 v5 v6 v7 M r M' h) h
                    · rw [if_neg c25] at h
                      by_cases c28 : x6 = (1274 : Int32)
                      · rw [if_pos c28] at h
                        refine v_lookup hC 240 dX1_holds_59 (by decide) (by rw [c28]; first | done | rfl) rfl ?_
                        refine v_iload hC dX1_holds_240 rfl ?_
                        refine v_iconst (v := (1 : Int32)) hC dX1_holds_242 rfl ?_
                        refine v_ixor hC dX1_holds_243 ?_
                        obtain ⟨x29, e_x29, h⟩ := lt_some h
                        refine v_nam e_x29 ?_
                        refine w_istore hC dX1_holds_244 (ltk rfl) [some (.ref a0), none, some (.int v2), some (.ref 40), some (.int x29), some (.int v5), some (.int v6), some (.int v7), some (.int x6)] rfl ?_
                        refine v_goto (tg := 301) hC dX1_holds_246 rfl ?_
                        refine w_iinc hC (v7 + (1 : Int32)) dX1_holds_301 rfl rfl [some (.ref a0), none, some (.int v2), some (.ref 40), some (.int x29), some (.int v5), some (.int v6), some (.int (v7 + (1 : Int32))), some (.int x6)] rfl ?_
                        refine v_goto (tg := 16) hC dX1_holds_304 rfl ?_
                        refine v_drop [true, false, true, true, true, true, true, true, false] [some (.ref a0), none, some (.int v2), some (.ref 40), some (.int x29), some (.int v5), some (.int v6), some (.int (v7 + (1 : Int32))), none] rfl ?_
                        exact ih _ _ _ _ _ _ _ _ h
                      · rw [if_neg c28] at h
                        by_cases c31 : x6 = (1275 : Int32)
                        · rw [if_pos c31] at h
                          refine v_lookup hC 214 dX1_holds_59 (by decide) (by rw [c31]; first | done | rfl) rfl ?_
                          refine v_iload hC dX1_holds_214 rfl ?_
                          refine v_iconst (v := (1 : Int32)) hC dX1_holds_216 rfl ?_
                          refine v_ishl hC dX1_holds_217 ?_
                          refine v_aload_n hC dX1_holds_218 rfl ?_
                          refine v_geti (k := 3) hC cls_X0 ly_40 (by decide) rfl aw_251 rfl dX1_holds_219 ?_
                          refine v_aload_n hC dX1_holds_222 rfl ?_
                          refine v_geti (k := 2) hC cls_X0 ly_40 (by decide) rfl aw_249 rfl dX1_holds_223 ?_
                          refine v_icmp_gt hC 233 dX1_holds_226 rfl (fun c32 => ?_) (fun c32 => ?_)
                          · rw [if_pos c32] at h
                            refine v_iconst (v := (0 : Int32)) hC dX1_holds_233 rfl ?_
                            refine v_drop [true, false, true, true, false, true, true, true, false] [some (.ref a0), none, some (.int v2), some (.ref 40), none, some (.int v5), some (.int v6), some (.int v7), none] rfl ?_
                            exact ok_X1_holds_234 hC hnt h0 (fun v2 v4 v5 v6 v7 M r M' h => ih v2 v4 v5 v6 v7 M r M' h) h
                          · rw [if_neg c32] at h
                            refine v_iconst (v := (1 : Int32)) hC dX1_holds_229 rfl ?_
                            refine v_goto (tg := 234) hC dX1_holds_230 rfl ?_
                            refine v_drop [true, false, true, true, false, true, true, true, false] [some (.ref a0), none, some (.int v2), some (.ref 40), none, some (.int v5), some (.int v6), some (.int v7), none] rfl ?_
                            exact ok_X1_holds_234 hC hnt h0 (fun v2 v4 v5 v6 v7 M r M' h => ih v2 v4 v5 v6 v7 M r M' h) h
                        · rw [if_neg c31] at h
                          refine v_lookup hC 290 dX1_holds_59 (by decide) ((lv_osw (k := (1001 : Int32)) c8 rfl).trans <| (lv_osw (k := (1002 : Int32)) c10 rfl).trans <| (lv_osw (k := (1003 : Int32)) c14 rfl).trans <| (lv_osw (k := (1259 : Int32)) c18 rfl).trans <| (lv_osw (k := (1272 : Int32)) c22 rfl).trans <| (lv_osw (k := (1273 : Int32)) c25 rfl).trans <| (lv_osw (k := (1274 : Int32)) c28 rfl).trans <| (lv_osw (k := (1275 : Int32)) c31 rfl).trans <| rfl) rfl ?_
                          refine v_iload hC dX1_holds_290 rfl ?_
                          refine v_iload hC dX1_holds_292 rfl ?_
                          refine v_aload_n hC dX1_holds_294 rfl ?_
                          obtain ⟨r35, M36, q37, h⟩ := bnd_some h
                          refine w_callSi hC [.int x6, .ref 40] [.int v6] (ok_X1_part q37) ms_X1_part aw_456 rfl (Nat.le_of_ble_eq_true rfl) ⟨by decide, by decide⟩ ⟨by decide, by decide⟩ dX1_holds_295 ?_
                          refine v_iadd hC dX1_holds_298 ?_
                          obtain ⟨x38, e_x38, h⟩ := lt_some h
                          refine v_nam e_x38 ?_
                          refine w_istore hC dX1_holds_299 (ltk rfl) [some (.ref a0), none, some (.int v2), some (.ref 40), some (.int v4), some (.int v5), some (.int x38), some (.int v7), some (.int x6)] rfl ?_
                          refine w_iinc hC (v7 + (1 : Int32)) dX1_holds_301 rfl rfl [some (.ref a0), none, some (.int v2), some (.ref 40), some (.int v4), some (.int v5), some (.int x38), some (.int (v7 + (1 : Int32))), some (.int x6)] rfl ?_
                          refine v_goto (tg := 16) hC dX1_holds_304 rfl ?_
                          refine v_drop [true, false, true, true, true, true, true, true, false] [some (.ref a0), none, some (.int v2), some (.ref 40), some (.int v4), some (.int v5), some (.int x38), some (.int (v7 + (1 : Int32))), none] rfl ?_
                          exact ih _ _ _ _ _ _ _ _ h
        · rw [if_neg c7] at h
          refine v_iload hC dX1_holds_47 rfl ?_
          refine v_iload hC dX1_holds_49 rfl ?_
          refine v_iadd hC dX1_holds_51 ?_
          obtain ⟨x40, e_x40, h⟩ := lt_some h
          refine v_nam e_x40 ?_
          refine w_istore hC dX1_holds_52 (ltk rfl) [some (.ref a0), none, some (.int v2), some (.ref 40), some (.int v4), some (.int v5), some (.int x40), some (.int v7), some (.int x6)] rfl ?_
          refine v_goto (tg := 301) hC dX1_holds_54 rfl ?_
          refine w_iinc hC (v7 + (1 : Int32)) dX1_holds_301 rfl rfl [some (.ref a0), none, some (.int v2), some (.ref 40), some (.int v4), some (.int v5), some (.int x40), some (.int (v7 + (1 : Int32))), some (.int x6)] rfl ?_
          refine v_goto (tg := 16) hC dX1_holds_304 rfl ?_
          refine v_drop [true, false, true, true, true, true, true, true, false] [some (.ref a0), none, some (.int v2), some (.ref 40), some (.int v4), some (.int v5), some (.int x40), some (.int (v7 + (1 : Int32))), none] rfl ?_
          exact ih _ _ _ _ _ _ _ _ h
set_option maxRecDepth 20000 in
set_option maxHeartbeats 4000000 in
theorem ok_X1_holds {l : Launch} {N : Nat} {a0 : Nat} {v1 v2 : Int32} {M : Mm} {r : Int32} {M' : Mm} (h0 : kLaw a0) (h : f_X1_holds N a0 v1 v2 M = some (r, M')) : am_M l yX1_holds cX1_holds 9 (some .boolean) 2 0 0 LY M [.ref a0, .int v1, .int v2, .ref 40] (.inl (some (.int r))) M' := by
  unfold f_X1_holds at h
  refine am_intro (by decide) (by simp [Value.category]) (Nat.le_of_ble_eq_true rfl) (fun X hC hnt => ?_)
  refine am_start (L := [some (.ref a0), some (.int v1), some (.int v2), some (.ref 40), none, none, none, none, none]) rfl ?_
  refine v_iconst (v := (1 : Int32)) hC dX1_holds_0 rfl ?_
  refine w_istore hC dX1_holds_1 (ltk rfl) [some (.ref a0), some (.int v1), some (.int v2), some (.ref 40), some (.int (1 : Int32)), none, none, none, none] rfl ?_
  refine v_iconst (v := (0 : Int32)) hC dX1_holds_3 rfl ?_
  refine w_istore hC dX1_holds_4 (ltk rfl) [some (.ref a0), some (.int v1), some (.int v2), some (.ref 40), some (.int (1 : Int32)), some (.int (0 : Int32)), none, none, none] rfl ?_
  refine v_iconst (v := (0 : Int32)) hC dX1_holds_6 rfl ?_
  refine w_istore hC dX1_holds_7 (ltk rfl) [some (.ref a0), some (.int v1), some (.int v2), some (.ref 40), some (.int (1 : Int32)), some (.int (0 : Int32)), some (.int (0 : Int32)), none, none] rfl ?_
  refine v_iconst (v := (0 : Int32)) hC dX1_holds_9 rfl ?_
  refine v_iload_n hC dX1_holds_10 rfl ?_
  refine v_mmax hC aw_449 wm_max (Nat.le_of_ble_eq_true rfl) (Nat.le_of_ble_eq_true rfl) (Nat.le_of_ble_eq_true rfl) (Nat.le_of_ble_eq_true rfl) dX1_holds_11 ?_
  obtain ⟨x1, e_x1, h⟩ := lt_some h
  refine v_nam e_x1 ?_
  refine w_istore hC dX1_holds_14 (ltk rfl) [some (.ref a0), some (.int v1), some (.int v2), some (.ref 40), some (.int (1 : Int32)), some (.int (0 : Int32)), some (.int (0 : Int32)), some (.int x1), none] rfl ?_
  refine v_drop [true, false, true, true, true, true, true, true, false] [some (.ref a0), none, some (.int v2), some (.ref 40), some (.int (1 : Int32)), some (.int (0 : Int32)), some (.int (0 : Int32)), some (.int x1), none] rfl ?_
  exact ok_X1_holds_16 hC hnt h0 N _ _ _ _ _ _ _ _ h
def f_X1_pinch_141 (N : Nat) (a0 : Nat) (v2 : Int32) (M : Mm) : Option (Int32 × Mm) :=
  some ((if (0 : Int32) < (if (M 40 3) < v2 then (M 40 3) else v2) then (if (M 40 3) < v2 then (M 40 3) else v2) else (0 : Int32)), M)
def f_X1_pinch_94 (N : Nat) (a0 : Nat) (k36 : Int32 → Int32 → Mm → Option (Int32 × Mm)) (v2 : Int32) (v3 : Int32) (M : Mm) : Option (Int32 × Mm) :=
  grd (inb v3 12) ((if (M (a0 + 1) (v3).toNatClampNeg) = (270 : Int32) then grd (inb v3 12) (grd (inb v3 12) (bnd (f_X1_holds N a0 (M (a0 + 3) (v3).toNatClampNeg) (M (a0 + 4) (v3).toNatClampNeg) M) (fun r13 M14 => (if r13 = (0 : Int32) then k36 v2 (v3 + (1 : Int32)) M14 else grd (inb v3 12) (lt (v2 - (M14 (a0 + 2) (v3).toNatClampNeg)) (fun x19 => k36 x19 (v3 + (1 : Int32)) M14)))))) else k36 v2 (v3 + (1 : Int32)) M))
def f_X1_pinch_36 (N : Nat) (a0 : Nat) : Nat → Int32 → Int32 → Mm → Option (Int32 × Mm)
  | 0, _, _, _ => none
  | n + 1, v2, v3, M => (if (M a0 1) ≤ v3 then f_X1_pinch_141 N a0 v2 M else (if (12 : Int32) ≤ v3 then f_X1_pinch_141 N a0 v2 M else grd (inb v3 12) ((if (M (a0 + 1) (v3).toNatClampNeg) = (269 : Int32) then grd (inb v3 12) (grd (inb v3 12) (bnd (f_X1_holds N a0 (M (a0 + 3) (v3).toNatClampNeg) (M (a0 + 4) (v3).toNatClampNeg) M) (fun r23 M24 => (if r23 = (0 : Int32) then f_X1_pinch_94 N a0 (fun v2 v3 M => f_X1_pinch_36 N a0 n v2 v3 M) v2 v3 M24 else grd (inb v3 12) (lt (v2 + (M24 (a0 + 2) (v3).toNatClampNeg)) (fun x28 => f_X1_pinch_36 N a0 n x28 (v3 + (1 : Int32)) M24)))))) else f_X1_pinch_94 N a0 (fun v2 v3 M => f_X1_pinch_36 N a0 n v2 v3 M) v2 v3 M))))
def f_X1_pinch_25 (N : Nat) (a0 : Nat) (s0 : Int32) (s1 : Int32) (M : Mm) : Option (Int32 × Mm) :=
  lt (if s0 < (s1 - (M 40 4)) then (s1 - (M 40 4)) else s0) (fun x3 => f_X1_pinch_36 N a0 N x3 (0 : Int32) M)
def f_X1_pinch (N : Nat) (a0 : Nat) (M : Mm) : Option (Int32 × Mm) :=
  (if (M 40 8) = (0 : Int32) then (if (M 40 7) = (0 : Int32) then f_X1_pinch_25 N a0 (0 : Int32) (M 40 2) M else f_X1_pinch_25 N a0 (0 : Int32) (0 : Int32) M) else some ((0 : Int32), M))
set_option maxRecDepth 20000 in
set_option maxHeartbeats 4000000 in
theorem ok_X1_pinch_141 {N : Nat} {X : am_X} {l : Launch} (hC : am_C X l (am_rm 3 0 0) cX1_pinch yX1_pinch.cls (some .int)) (hnt : am_NT X) {a0 : Nat} (h0 : kLaw a0) {v2 : Int32} {M : Mm} {r : Int32} {M' : Mm} (h : f_X1_pinch_141 N a0 v2 M = some (r, M')) : am_V X LY M 0 0 (am_Q X LY 0 0 (.inl (some (.int r))) M') 141 [none, some (.ref 40), some (.int v2), none] [] := by
  unfold f_X1_pinch_141 at h
  refine v_iconst (v := (0 : Int32)) hC dX1_pinch_141 rfl ?_
  refine v_iload_n hC dX1_pinch_142 rfl ?_
  refine v_aload_n hC dX1_pinch_143 rfl ?_
  refine v_geti (k := 3) hC cls_X0 ly_40 (by decide) rfl aw_251 rfl dX1_pinch_144 ?_
  refine v_mmin hC aw_459 wm_min (Nat.le_of_ble_eq_true rfl) (Nat.le_of_ble_eq_true rfl) (Nat.le_of_ble_eq_true rfl) (Nat.le_of_ble_eq_true rfl) dX1_pinch_147 ?_
  refine v_mmax hC aw_449 wm_max (Nat.le_of_ble_eq_true rfl) (Nat.le_of_ble_eq_true rfl) (Nat.le_of_ble_eq_true rfl) (Nat.le_of_ble_eq_true rfl) dX1_pinch_150 ?_
  cases h
  exact v_iret hC (by decide) (by decide) dX1_pinch_153
set_option maxRecDepth 20000 in
set_option maxHeartbeats 4000000 in
theorem ok_X1_pinch_94 {N : Nat} {X : am_X} {l : Launch} (hC : am_C X l (am_rm 3 0 0) cX1_pinch yX1_pinch.cls (some .int)) (hnt : am_NT X) {a0 : Nat} (h0 : kLaw a0) {k36 : Int32 → Int32 → Mm → Option (Int32 × Mm)} (hk36 : ∀ (v2 v3 : Int32) (M : Mm) (r : Int32) (M' : Mm), k36 v2 v3 M = some (r, M') → am_V X LY M 0 0 (am_Q X LY 0 0 (.inl (some (.int r))) M') 36 [some (.ref a0), some (.ref 40), some (.int v2), some (.int v3)] []) {v2 v3 : Int32} {M : Mm} {r : Int32} {M' : Mm} (h : f_X1_pinch_94 N a0 k36 v2 v3 M = some (r, M')) : am_V X LY M 0 0 (am_Q X LY 0 0 (.inl (some (.int r))) M') 94 [some (.ref a0), some (.ref 40), some (.int v2), some (.int v3)] [] := by
  unfold f_X1_pinch_94 at h
  refine v_aload_n hC dX1_pinch_94 rfl ?_
  refine v_geta (k := 3) (b := (a0 + 1)) hC cls_X1 h0.1 (by decide) rfl aw_193 rfl dX1_pinch_95 ?_
  refine v_iload_n hC dX1_pinch_98 rfl ?_
  obtain ⟨g8, h⟩ := grd_some h
  refine v_iald hC (kL_kind h0) (inb_in g8) dX1_pinch_99 ?_
  refine v_sipush (v := (270 : Int32)) hC dX1_pinch_100 rfl ?_
  refine v_icmp_ne hC 135 dX1_pinch_103 rfl (fun c9 => ?_) (fun c9 => ?_)
  · rw [if_neg c9] at h
    refine w_iinc hC (v3 + (1 : Int32)) dX1_pinch_135 rfl rfl [some (.ref a0), some (.ref 40), some (.int v2), some (.int (v3 + (1 : Int32)))] rfl ?_
    refine v_goto (tg := 36) hC dX1_pinch_138 rfl ?_
    exact hk36 _ _ _ _ _ h
  · rw [if_pos c9] at h
    refine v_aload_n hC dX1_pinch_106 rfl ?_
    refine v_aload_n hC dX1_pinch_107 rfl ?_
    refine v_geta (k := 5) (b := (a0 + 3)) hC cls_X1 h0.1 (by decide) rfl aw_195 rfl dX1_pinch_108 ?_
    refine v_iload_n hC dX1_pinch_111 rfl ?_
    obtain ⟨g11, h⟩ := grd_some h
    refine v_iald hC (kL_from h0) (inb_in g11) dX1_pinch_112 ?_
    refine v_aload_n hC dX1_pinch_113 rfl ?_
    refine v_geta (k := 6) (b := (a0 + 4)) hC cls_X1 h0.1 (by decide) rfl aw_196 rfl dX1_pinch_114 ?_
    refine v_iload_n hC dX1_pinch_117 rfl ?_
    obtain ⟨g12, h⟩ := grd_some h
    refine v_iald hC (kL_to h0) (inb_in g12) dX1_pinch_118 ?_
    refine v_aload_n hC dX1_pinch_119 rfl ?_
    obtain ⟨r13, M14, q15, h⟩ := bnd_some h
    refine w_callVi hC [.int (M (a0 + 3) (v3).toNatClampNeg), .int (M (a0 + 4) (v3).toNatClampNeg), .ref 40] [] (ok_X1_holds h0 q15) mv_X1_holds aw_452 h0.1 rfl (Nat.le_of_ble_eq_true rfl) ⟨by decide, by decide⟩ ⟨by decide, by decide⟩ dX1_pinch_120 ?_
    refine v_if_eq hC 135 dX1_pinch_123 rfl (fun c16 => ?_) (fun c16 => ?_)
    · rw [if_pos c16] at h
      refine w_iinc hC (v3 + (1 : Int32)) dX1_pinch_135 rfl rfl [some (.ref a0), some (.ref 40), some (.int v2), some (.int (v3 + (1 : Int32)))] rfl ?_
      refine v_goto (tg := 36) hC dX1_pinch_138 rfl ?_
      exact hk36 _ _ _ _ _ h
    · rw [if_neg c16] at h
      refine v_iload_n hC dX1_pinch_126 rfl ?_
      refine v_aload_n hC dX1_pinch_127 rfl ?_
      refine v_geta (k := 4) (b := (a0 + 2)) hC cls_X1 h0.1 (by decide) rfl aw_194 rfl dX1_pinch_128 ?_
      refine v_iload_n hC dX1_pinch_131 rfl ?_
      obtain ⟨g18, h⟩ := grd_some h
      refine v_iald hC (kL_n h0) (inb_in g18) dX1_pinch_132 ?_
      refine v_isub hC dX1_pinch_133 ?_
      obtain ⟨x19, e_x19, h⟩ := lt_some h
      refine v_nam e_x19 ?_
      refine w_istore_n hC dX1_pinch_134 (ltk rfl) [some (.ref a0), some (.ref 40), some (.int x19), some (.int v3)] rfl ?_
      refine w_iinc hC (v3 + (1 : Int32)) dX1_pinch_135 rfl rfl [some (.ref a0), some (.ref 40), some (.int x19), some (.int (v3 + (1 : Int32)))] rfl ?_
      refine v_goto (tg := 36) hC dX1_pinch_138 rfl ?_
      exact hk36 _ _ _ _ _ h
set_option maxRecDepth 20000 in
set_option maxHeartbeats 4000000 in
theorem ok_X1_pinch_36 {N : Nat} {X : am_X} {l : Launch} (hC : am_C X l (am_rm 3 0 0) cX1_pinch yX1_pinch.cls (some .int)) (hnt : am_NT X) {a0 : Nat} (h0 : kLaw a0) : ∀ (n : Nat) (v2 v3 : Int32) (M : Mm) (r : Int32) (M' : Mm), f_X1_pinch_36 N a0 n v2 v3 M = some (r, M') → am_V X LY M 0 0 (am_Q X LY 0 0 (.inl (some (.int r))) M') 36 [some (.ref a0), some (.ref 40), some (.int v2), some (.int v3)] [] := by
  intro n
  induction n with
  | zero => intro v2 v3 M r M' h; cases h
  | succ n ih =>
    intro v2 v3 M r M' h
    simp only [f_X1_pinch_36] at h
    refine v_iload_n hC dX1_pinch_36 rfl ?_
    refine v_aload_n hC dX1_pinch_37 rfl ?_
    refine v_geti (k := 1) hC cls_X1 h0.1 (by decide) rfl aw_189 rfl dX1_pinch_38 ?_
    refine v_icmp_ge hC 141 dX1_pinch_41 rfl (fun c4 => ?_) (fun c4 => ?_)
    · rw [if_pos c4] at h
      refine v_drop [false, true, true, false] [none, some (.ref 40), some (.int v2), none] rfl ?_
      exact ok_X1_pinch_141 hC hnt h0 h
    · rw [if_neg c4] at h
      refine v_iload_n hC dX1_pinch_44 rfl ?_
      refine v_bipush (v := (12 : Int32)) hC dX1_pinch_45 rfl ?_
      refine v_icmp_ge hC 141 dX1_pinch_47 rfl (fun c5 => ?_) (fun c5 => ?_)
      · rw [if_pos c5] at h
        refine v_drop [false, true, true, false] [none, some (.ref 40), some (.int v2), none] rfl ?_
        exact ok_X1_pinch_141 hC hnt h0 h
      · rw [if_neg c5] at h
        refine v_aload_n hC dX1_pinch_50 rfl ?_
        refine v_geta (k := 3) (b := (a0 + 1)) hC cls_X1 h0.1 (by decide) rfl aw_193 rfl dX1_pinch_51 ?_
        refine v_iload_n hC dX1_pinch_54 rfl ?_
        obtain ⟨g6, h⟩ := grd_some h
        refine v_iald hC (kL_kind h0) (inb_in g6) dX1_pinch_55 ?_
        refine v_sipush (v := (269 : Int32)) hC dX1_pinch_56 rfl ?_
        refine v_icmp_ne hC 94 dX1_pinch_59 rfl (fun c7 => ?_) (fun c7 => ?_)
        · rw [if_neg c7] at h
          exact ok_X1_pinch_94 hC hnt h0 (fun v2 v3 M r M' h => ih v2 v3 M r M' h) h
        · rw [if_pos c7] at h
          refine v_aload_n hC dX1_pinch_62 rfl ?_
          refine v_aload_n hC dX1_pinch_63 rfl ?_
          refine v_geta (k := 5) (b := (a0 + 3)) hC cls_X1 h0.1 (by decide) rfl aw_195 rfl dX1_pinch_64 ?_
          refine v_iload_n hC dX1_pinch_67 rfl ?_
          obtain ⟨g21, h⟩ := grd_some h
          refine v_iald hC (kL_from h0) (inb_in g21) dX1_pinch_68 ?_
          refine v_aload_n hC dX1_pinch_69 rfl ?_
          refine v_geta (k := 6) (b := (a0 + 4)) hC cls_X1 h0.1 (by decide) rfl aw_196 rfl dX1_pinch_70 ?_
          refine v_iload_n hC dX1_pinch_73 rfl ?_
          obtain ⟨g22, h⟩ := grd_some h
          refine v_iald hC (kL_to h0) (inb_in g22) dX1_pinch_74 ?_
          refine v_aload_n hC dX1_pinch_75 rfl ?_
          obtain ⟨r23, M24, q25, h⟩ := bnd_some h
          refine w_callVi hC [.int (M (a0 + 3) (v3).toNatClampNeg), .int (M (a0 + 4) (v3).toNatClampNeg), .ref 40] [] (ok_X1_holds h0 q25) mv_X1_holds aw_452 h0.1 rfl (Nat.le_of_ble_eq_true rfl) ⟨by decide, by decide⟩ ⟨by decide, by decide⟩ dX1_pinch_76 ?_
          refine v_if_eq hC 94 dX1_pinch_79 rfl (fun c26 => ?_) (fun c26 => ?_)
          · rw [if_pos c26] at h
            exact ok_X1_pinch_94 hC hnt h0 (fun v2 v3 M r M' h => ih v2 v3 M r M' h) h
          · rw [if_neg c26] at h
            refine v_iload_n hC dX1_pinch_82 rfl ?_
            refine v_aload_n hC dX1_pinch_83 rfl ?_
            refine v_geta (k := 4) (b := (a0 + 2)) hC cls_X1 h0.1 (by decide) rfl aw_194 rfl dX1_pinch_84 ?_
            refine v_iload_n hC dX1_pinch_87 rfl ?_
            obtain ⟨g27, h⟩ := grd_some h
            refine v_iald hC (kL_n h0) (inb_in g27) dX1_pinch_88 ?_
            refine v_iadd hC dX1_pinch_89 ?_
            obtain ⟨x28, e_x28, h⟩ := lt_some h
            refine v_nam e_x28 ?_
            refine w_istore_n hC dX1_pinch_90 (ltk rfl) [some (.ref a0), some (.ref 40), some (.int x28), some (.int v3)] rfl ?_
            refine v_goto (tg := 135) hC dX1_pinch_91 rfl ?_
            refine w_iinc hC (v3 + (1 : Int32)) dX1_pinch_135 rfl rfl [some (.ref a0), some (.ref 40), some (.int x28), some (.int (v3 + (1 : Int32)))] rfl ?_
            refine v_goto (tg := 36) hC dX1_pinch_138 rfl ?_
            exact ih _ _ _ _ _ h
set_option maxRecDepth 20000 in
set_option maxHeartbeats 4000000 in
theorem ok_X1_pinch_25 {N : Nat} {X : am_X} {l : Launch} (hC : am_C X l (am_rm 3 0 0) cX1_pinch yX1_pinch.cls (some .int)) (hnt : am_NT X) {a0 : Nat} (h0 : kLaw a0) {s0 s1 : Int32} {M : Mm} {r : Int32} {M' : Mm} (h : f_X1_pinch_25 N a0 s0 s1 M = some (r, M')) : am_V X LY M 0 0 (am_Q X LY 0 0 (.inl (some (.int r))) M') 25 [some (.ref a0), some (.ref 40), none, none] [.int s1, .int s0] := by
  unfold f_X1_pinch_25 at h
  refine v_aload_n hC dX1_pinch_25 rfl ?_
  refine v_geti (k := 4) hC cls_X0 ly_40 (by decide) rfl aw_254 rfl dX1_pinch_26 ?_
  refine v_isub hC dX1_pinch_29 ?_
  refine v_mmax hC aw_449 wm_max (Nat.le_of_ble_eq_true rfl) (Nat.le_of_ble_eq_true rfl) (Nat.le_of_ble_eq_true rfl) (Nat.le_of_ble_eq_true rfl) dX1_pinch_30 ?_
  obtain ⟨x3, e_x3, h⟩ := lt_some h
  refine v_nam e_x3 ?_
  refine w_istore_n hC dX1_pinch_33 (ltk rfl) [some (.ref a0), some (.ref 40), some (.int x3), none] rfl ?_
  refine v_iconst (v := (0 : Int32)) hC dX1_pinch_34 rfl ?_
  refine w_istore_n hC dX1_pinch_35 (ltk rfl) [some (.ref a0), some (.ref 40), some (.int x3), some (.int (0 : Int32))] rfl ?_
  exact ok_X1_pinch_36 hC hnt h0 N _ _ _ _ _ h
set_option maxRecDepth 20000 in
set_option maxHeartbeats 4000000 in
theorem ok_X1_pinch {l : Launch} {N : Nat} {a0 : Nat} {M : Mm} {r : Int32} {M' : Mm} (h0 : kLaw a0) (h : f_X1_pinch N a0 M = some (r, M')) : am_M l yX1_pinch cX1_pinch 4 (some .int) 3 0 0 LY M [.ref a0, .ref 40] (.inl (some (.int r))) M' := by
  unfold f_X1_pinch at h
  refine am_intro (by decide) (by simp [Value.category]) (Nat.le_of_ble_eq_true rfl) (fun X hC hnt => ?_)
  refine am_start (L := [some (.ref a0), some (.ref 40), none, none]) rfl ?_
  refine v_aload_n hC dX1_pinch_0 rfl ?_
  refine v_geti (k := 8) hC cls_X0 ly_40 (by decide) rfl aw_264 rfl dX1_pinch_1 ?_
  refine v_if_eq hC 9 dX1_pinch_4 rfl (fun c1 => ?_) (fun c1 => ?_)
  · rw [if_pos c1] at h
    refine v_iconst (v := (0 : Int32)) hC dX1_pinch_9 rfl ?_
    refine v_aload_n hC dX1_pinch_10 rfl ?_
    refine v_geti (k := 7) hC cls_X0 ly_40 (by decide) rfl aw_261 rfl dX1_pinch_11 ?_
    refine v_if_eq hC 21 dX1_pinch_14 rfl (fun c2 => ?_) (fun c2 => ?_)
    · rw [if_pos c2] at h
      refine v_aload_n hC dX1_pinch_21 rfl ?_
      refine v_geti (k := 2) hC cls_X0 ly_40 (by decide) rfl aw_249 rfl dX1_pinch_22 ?_
      exact ok_X1_pinch_25 hC hnt h0 h
    · rw [if_neg c2] at h
      refine v_iconst (v := (0 : Int32)) hC dX1_pinch_17 rfl ?_
      refine v_goto (tg := 25) hC dX1_pinch_18 rfl ?_
      exact ok_X1_pinch_25 hC hnt h0 h
  · rw [if_neg c1] at h
    refine v_iconst (v := (0 : Int32)) hC dX1_pinch_7 rfl ?_
    cases h
    exact v_iret hC (by decide) (by decide) dX1_pinch_8
def f_X1_setsBy_4 (N : Nat) (a0 : Nat) : Nat → Int32 → Int32 → Mm → Option (Int32 × Mm)
  | 0, _, _, _ => none
  | n + 1, v2, v3, M => (if (M a0 1) ≤ v3 then some (v2, M) else (if (12 : Int32) ≤ v3 then some (v2, M) else grd (inb v3 12) ((if (M (a0 + 1) (v3).toNatClampNeg) = (262 : Int32) then grd (inb v3 12) (grd (inb v3 12) (bnd (f_X1_holds N a0 (M (a0 + 3) (v3).toNatClampNeg) (M (a0 + 4) (v3).toNatClampNeg) M) (fun r8 M9 => (if r8 = (0 : Int32) then f_X1_setsBy_4 N a0 n v2 (v3 + (1 : Int32)) M9 else grd (inb v3 12) (lt (v2 + (M9 (a0 + 2) (v3).toNatClampNeg)) (fun x14 => f_X1_setsBy_4 N a0 n x14 (v3 + (1 : Int32)) M9)))))) else f_X1_setsBy_4 N a0 n v2 (v3 + (1 : Int32)) M))))
def f_X1_setsBy (N : Nat) (a0 : Nat) (M : Mm) : Option (Int32 × Mm) :=
  f_X1_setsBy_4 N a0 N (1 : Int32) (0 : Int32) M
set_option maxRecDepth 20000 in
set_option maxHeartbeats 4000000 in
theorem ok_X1_setsBy_4 {N : Nat} {X : am_X} {l : Launch} (hC : am_C X l (am_rm 3 0 0) cX1_setsBy yX1_setsBy.cls (some .int)) (hnt : am_NT X) {a0 : Nat} (h0 : kLaw a0) : ∀ (n : Nat) (v2 v3 : Int32) (M : Mm) (r : Int32) (M' : Mm), f_X1_setsBy_4 N a0 n v2 v3 M = some (r, M') → am_V X LY M 0 0 (am_Q X LY 0 0 (.inl (some (.int r))) M') 4 [some (.ref a0), some (.ref 40), some (.int v2), some (.int v3)] [] := by
  intro n
  induction n with
  | zero => intro v2 v3 M r M' h; cases h
  | succ n ih =>
    intro v2 v3 M r M' h
    simp only [f_X1_setsBy_4] at h
    refine v_iload_n hC dX1_setsBy_4 rfl ?_
    refine v_aload_n hC dX1_setsBy_5 rfl ?_
    refine v_geti (k := 1) hC cls_X1 h0.1 (by decide) rfl aw_189 rfl dX1_setsBy_6 ?_
    refine v_icmp_ge hC 65 dX1_setsBy_9 rfl (fun c1 => ?_) (fun c1 => ?_)
    · rw [if_pos c1] at h
      refine v_iload_n hC dX1_setsBy_65 rfl ?_
      cases h
      exact v_iret hC (by decide) (by decide) dX1_setsBy_66
    · rw [if_neg c1] at h
      refine v_iload_n hC dX1_setsBy_12 rfl ?_
      refine v_bipush (v := (12 : Int32)) hC dX1_setsBy_13 rfl ?_
      refine v_icmp_ge hC 65 dX1_setsBy_15 rfl (fun c2 => ?_) (fun c2 => ?_)
      · rw [if_pos c2] at h
        refine v_iload_n hC dX1_setsBy_65 rfl ?_
        cases h
        exact v_iret hC (by decide) (by decide) dX1_setsBy_66
      · rw [if_neg c2] at h
        refine v_aload_n hC dX1_setsBy_18 rfl ?_
        refine v_geta (k := 3) (b := (a0 + 1)) hC cls_X1 h0.1 (by decide) rfl aw_193 rfl dX1_setsBy_19 ?_
        refine v_iload_n hC dX1_setsBy_22 rfl ?_
        obtain ⟨g3, h⟩ := grd_some h
        refine v_iald hC (kL_kind h0) (inb_in g3) dX1_setsBy_23 ?_
        refine v_sipush (v := (262 : Int32)) hC dX1_setsBy_24 rfl ?_
        refine v_icmp_ne hC 59 dX1_setsBy_27 rfl (fun c4 => ?_) (fun c4 => ?_)
        · rw [if_neg c4] at h
          refine w_iinc hC (v3 + (1 : Int32)) dX1_setsBy_59 rfl rfl [some (.ref a0), some (.ref 40), some (.int v2), some (.int (v3 + (1 : Int32)))] rfl ?_
          refine v_goto (tg := 4) hC dX1_setsBy_62 rfl ?_
          exact ih _ _ _ _ _ h
        · rw [if_pos c4] at h
          refine v_aload_n hC dX1_setsBy_30 rfl ?_
          refine v_aload_n hC dX1_setsBy_31 rfl ?_
          refine v_geta (k := 5) (b := (a0 + 3)) hC cls_X1 h0.1 (by decide) rfl aw_195 rfl dX1_setsBy_32 ?_
          refine v_iload_n hC dX1_setsBy_35 rfl ?_
          obtain ⟨g6, h⟩ := grd_some h
          refine v_iald hC (kL_from h0) (inb_in g6) dX1_setsBy_36 ?_
          refine v_aload_n hC dX1_setsBy_37 rfl ?_
          refine v_geta (k := 6) (b := (a0 + 4)) hC cls_X1 h0.1 (by decide) rfl aw_196 rfl dX1_setsBy_38 ?_
          refine v_iload_n hC dX1_setsBy_41 rfl ?_
          obtain ⟨g7, h⟩ := grd_some h
          refine v_iald hC (kL_to h0) (inb_in g7) dX1_setsBy_42 ?_
          refine v_aload_n hC dX1_setsBy_43 rfl ?_
          obtain ⟨r8, M9, q10, h⟩ := bnd_some h
          refine w_callVi hC [.int (M (a0 + 3) (v3).toNatClampNeg), .int (M (a0 + 4) (v3).toNatClampNeg), .ref 40] [] (ok_X1_holds h0 q10) mv_X1_holds aw_452 h0.1 rfl (Nat.le_of_ble_eq_true rfl) ⟨by decide, by decide⟩ ⟨by decide, by decide⟩ dX1_setsBy_44 ?_
          refine v_if_eq hC 59 dX1_setsBy_47 rfl (fun c11 => ?_) (fun c11 => ?_)
          · rw [if_pos c11] at h
            refine w_iinc hC (v3 + (1 : Int32)) dX1_setsBy_59 rfl rfl [some (.ref a0), some (.ref 40), some (.int v2), some (.int (v3 + (1 : Int32)))] rfl ?_
            refine v_goto (tg := 4) hC dX1_setsBy_62 rfl ?_
            exact ih _ _ _ _ _ h
          · rw [if_neg c11] at h
            refine v_iload_n hC dX1_setsBy_50 rfl ?_
            refine v_aload_n hC dX1_setsBy_51 rfl ?_
            refine v_geta (k := 4) (b := (a0 + 2)) hC cls_X1 h0.1 (by decide) rfl aw_194 rfl dX1_setsBy_52 ?_
            refine v_iload_n hC dX1_setsBy_55 rfl ?_
            obtain ⟨g13, h⟩ := grd_some h
            refine v_iald hC (kL_n h0) (inb_in g13) dX1_setsBy_56 ?_
            refine v_iadd hC dX1_setsBy_57 ?_
            obtain ⟨x14, e_x14, h⟩ := lt_some h
            refine v_nam e_x14 ?_
            refine w_istore_n hC dX1_setsBy_58 (ltk rfl) [some (.ref a0), some (.ref 40), some (.int x14), some (.int v3)] rfl ?_
            refine w_iinc hC (v3 + (1 : Int32)) dX1_setsBy_59 rfl rfl [some (.ref a0), some (.ref 40), some (.int x14), some (.int (v3 + (1 : Int32)))] rfl ?_
            refine v_goto (tg := 4) hC dX1_setsBy_62 rfl ?_
            exact ih _ _ _ _ _ h
set_option maxRecDepth 20000 in
set_option maxHeartbeats 4000000 in
theorem ok_X1_setsBy {l : Launch} {N : Nat} {a0 : Nat} {M : Mm} {r : Int32} {M' : Mm} (h0 : kLaw a0) (h : f_X1_setsBy N a0 M = some (r, M')) : am_M l yX1_setsBy cX1_setsBy 4 (some .int) 3 0 0 LY M [.ref a0, .ref 40] (.inl (some (.int r))) M' := by
  unfold f_X1_setsBy at h
  refine am_intro (by decide) (by simp [Value.category]) (Nat.le_of_ble_eq_true rfl) (fun X hC hnt => ?_)
  refine am_start (L := [some (.ref a0), some (.ref 40), none, none]) rfl ?_
  refine v_iconst (v := (1 : Int32)) hC dX1_setsBy_0 rfl ?_
  refine w_istore_n hC dX1_setsBy_1 (ltk rfl) [some (.ref a0), some (.ref 40), some (.int (1 : Int32)), none] rfl ?_
  refine v_iconst (v := (0 : Int32)) hC dX1_setsBy_2 rfl ?_
  refine w_istore_n hC dX1_setsBy_3 (ltk rfl) [some (.ref a0), some (.ref 40), some (.int (1 : Int32)), some (.int (0 : Int32))] rfl ?_
  exact ok_X1_setsBy_4 hC hnt h0 N _ _ _ _ _ h
def f_X9_eats (N : Nat) (v1 : Int32) (M : Mm) : Option (Int32 × Mm) :=
  (if (M 3 4) < (0 : Int32) then some ((0 : Int32), M) else (if (400 : Int32) < (M 3 4) then some ((0 : Int32), M) else grd (inb (M 3 4) 401) ((if (M 4 ((M 3 4)).toNatClampNeg) = v1 then lt (wr M 3 4 ((M 3 4) + (1 : Int32))) (fun M5 => some ((1 : Int32), M5)) else some ((0 : Int32), M)))))
set_option maxRecDepth 20000 in
set_option maxHeartbeats 4000000 in
theorem ok_X9_eats {l : Launch} {N : Nat} {v1 : Int32} {M : Mm} {r : Int32} {M' : Mm} (h : f_X9_eats N v1 M = some (r, M')) : am_M l yX9_eats cX9_eats 2 (some .boolean) 1 0 0 LY M [.ref 3, .int v1] (.inl (some (.int r))) M' := by
  unfold f_X9_eats at h
  refine am_intro (by decide) (by simp [Value.category]) (Nat.le_of_ble_eq_true rfl) (fun X hC hnt => ?_)
  refine am_start (L := [some (.ref 3), some (.int v1)]) rfl ?_
  refine v_aload_n hC dX9_eats_0 rfl ?_
  refine v_geti (k := 4) hC cls_X9 ly_3 (by decide) rfl aw_63 rfl dX9_eats_1 ?_
  refine v_if_lt hC 30 dX9_eats_4 rfl (fun c1 => ?_) (fun c1 => ?_)
  · rw [if_pos c1] at h
    refine v_iconst (v := (0 : Int32)) hC dX9_eats_30 rfl ?_
    cases h
    exact v_zret hC (by decide) (by decide) (by decide) dX9_eats_31
  · rw [if_neg c1] at h
    refine v_aload_n hC dX9_eats_7 rfl ?_
    refine v_geti (k := 4) hC cls_X9 ly_3 (by decide) rfl aw_63 rfl dX9_eats_8 ?_
    refine v_sipush (v := (400 : Int32)) hC dX9_eats_11 rfl ?_
    refine v_icmp_gt hC 30 dX9_eats_14 rfl (fun c2 => ?_) (fun c2 => ?_)
    · rw [if_pos c2] at h
      refine v_iconst (v := (0 : Int32)) hC dX9_eats_30 rfl ?_
      cases h
      exact v_zret hC (by decide) (by decide) (by decide) dX9_eats_31
    · rw [if_neg c2] at h
      refine v_aload_n hC dX9_eats_17 rfl ?_
      refine v_geta (k := 0) (b := 4) hC cls_X9 ly_3 (by decide) rfl aw_59 rfl dX9_eats_18 ?_
      refine v_aload_n hC dX9_eats_21 rfl ?_
      refine v_geti (k := 4) hC cls_X9 ly_3 (by decide) rfl aw_63 rfl dX9_eats_22 ?_
      obtain ⟨g3, h⟩ := grd_some h
      refine v_iald hC ly_4 (inb_in g3) dX9_eats_25 ?_
      refine v_iload_n hC dX9_eats_26 rfl ?_
      refine v_icmp_eq hC 32 dX9_eats_27 rfl (fun c4 => ?_) (fun c4 => ?_)
      · rw [if_pos c4] at h
        refine v_aload_n hC dX9_eats_32 rfl ?_
        refine v_dup hC dX9_eats_33 rfl ?_
        refine v_geti (k := 4) hC cls_X9 ly_3 (by decide) rfl aw_63 rfl dX9_eats_34 ?_
        refine v_iconst (v := (1 : Int32)) hC dX9_eats_37 rfl ?_
        refine v_iadd hC dX9_eats_38 ?_
        obtain ⟨M5, e_M5, h⟩ := lt_some h
        refine w_puti (k := 4) hC cls_X9 ly_3 (by decide) rfl aw_63 rfl rfl ⟨rfl, rfl⟩ dX9_eats_39 e_M5 ?_
        refine v_iconst (v := (1 : Int32)) hC dX9_eats_42 rfl ?_
        cases h
        exact v_zret hC (by decide) (by decide) (by decide) dX9_eats_43
      · rw [if_neg c4] at h
        refine v_iconst (v := (0 : Int32)) hC dX9_eats_30 rfl ?_
        cases h
        exact v_zret hC (by decide) (by decide) (by decide) dX9_eats_31
def f_X9_eatsNumber (N : Nat) (v1 : Int32) (v2 : Int32) (M : Mm) : Option (Int32 × Mm) :=
  (if (M 3 4) < (0 : Int32) then some ((-1 : Int32), M) else (if (400 : Int32) < (M 3 4) then some ((-1 : Int32), M) else grd (inb (M 3 4) 401) ((if (M 4 ((M 3 4)).toNatClampNeg) = (301 : Int32) then grd (inb (M 3 4) 401) ((if (M 6 ((M 3 4)).toNatClampNeg) < v1 then some ((-1 : Int32), M) else grd (inb (M 3 4) 401) ((if (M 6 ((M 3 4)).toNatClampNeg) ≤ v2 then grd (inb (M 3 4) 401) (lt (M 6 ((M 3 4)).toNatClampNeg) (fun x10 => lt (wr M 3 4 ((M 3 4) + (1 : Int32))) (fun M11 => some (x10, M11)))) else some ((-1 : Int32), M))))) else some ((-1 : Int32), M)))))
set_option maxRecDepth 20000 in
set_option maxHeartbeats 4000000 in
theorem ok_X9_eatsNumber {l : Launch} {N : Nat} {v1 v2 : Int32} {M : Mm} {r : Int32} {M' : Mm} (h : f_X9_eatsNumber N v1 v2 M = some (r, M')) : am_M l yX9_eatsNumber cX9_eatsNumber 4 (some .int) 1 0 0 LY M [.ref 3, .int v1, .int v2] (.inl (some (.int r))) M' := by
  unfold f_X9_eatsNumber at h
  refine am_intro (by decide) (by simp [Value.category]) (Nat.le_of_ble_eq_true rfl) (fun X hC hnt => ?_)
  refine am_start (L := [some (.ref 3), some (.int v1), some (.int v2), none]) rfl ?_
  refine v_aload_n hC dX9_eatsNumber_0 rfl ?_
  refine v_geti (k := 4) hC cls_X9 ly_3 (by decide) rfl aw_63 rfl dX9_eatsNumber_1 ?_
  refine v_if_lt hC 58 dX9_eatsNumber_4 rfl (fun c1 => ?_) (fun c1 => ?_)
  · rw [if_pos c1] at h
    refine v_iconst (v := (-1 : Int32)) hC dX9_eatsNumber_58 rfl ?_
    cases h
    exact v_iret hC (by decide) (by decide) dX9_eatsNumber_59
  · rw [if_neg c1] at h
    refine v_aload_n hC dX9_eatsNumber_7 rfl ?_
    refine v_geti (k := 4) hC cls_X9 ly_3 (by decide) rfl aw_63 rfl dX9_eatsNumber_8 ?_
    refine v_sipush (v := (400 : Int32)) hC dX9_eatsNumber_11 rfl ?_
    refine v_icmp_gt hC 58 dX9_eatsNumber_14 rfl (fun c2 => ?_) (fun c2 => ?_)
    · rw [if_pos c2] at h
      refine v_iconst (v := (-1 : Int32)) hC dX9_eatsNumber_58 rfl ?_
      cases h
      exact v_iret hC (by decide) (by decide) dX9_eatsNumber_59
    · rw [if_neg c2] at h
      refine v_aload_n hC dX9_eatsNumber_17 rfl ?_
      refine v_geta (k := 0) (b := 4) hC cls_X9 ly_3 (by decide) rfl aw_59 rfl dX9_eatsNumber_18 ?_
      refine v_aload_n hC dX9_eatsNumber_21 rfl ?_
      refine v_geti (k := 4) hC cls_X9 ly_3 (by decide) rfl aw_63 rfl dX9_eatsNumber_22 ?_
      obtain ⟨g3, h⟩ := grd_some h
      refine v_iald hC ly_4 (inb_in g3) dX9_eatsNumber_25 ?_
      refine v_sipush (v := (301 : Int32)) hC dX9_eatsNumber_26 rfl ?_
      refine v_icmp_ne hC 58 dX9_eatsNumber_29 rfl (fun c4 => ?_) (fun c4 => ?_)
      · rw [if_neg c4] at h
        refine v_iconst (v := (-1 : Int32)) hC dX9_eatsNumber_58 rfl ?_
        cases h
        exact v_iret hC (by decide) (by decide) dX9_eatsNumber_59
      · rw [if_pos c4] at h
        refine v_aload_n hC dX9_eatsNumber_32 rfl ?_
        refine v_geta (k := 2) (b := 6) hC cls_X9 ly_3 (by decide) rfl aw_61 rfl dX9_eatsNumber_33 ?_
        refine v_aload_n hC dX9_eatsNumber_36 rfl ?_
        refine v_geti (k := 4) hC cls_X9 ly_3 (by decide) rfl aw_63 rfl dX9_eatsNumber_37 ?_
        obtain ⟨g5, h⟩ := grd_some h
        refine v_iald hC ly_6 (inb_in g5) dX9_eatsNumber_40 ?_
        refine v_iload_n hC dX9_eatsNumber_41 rfl ?_
        refine v_icmp_lt hC 58 dX9_eatsNumber_42 rfl (fun c6 => ?_) (fun c6 => ?_)
        · rw [if_pos c6] at h
          refine v_iconst (v := (-1 : Int32)) hC dX9_eatsNumber_58 rfl ?_
          cases h
          exact v_iret hC (by decide) (by decide) dX9_eatsNumber_59
        · rw [if_neg c6] at h
          refine v_aload_n hC dX9_eatsNumber_45 rfl ?_
          refine v_geta (k := 2) (b := 6) hC cls_X9 ly_3 (by decide) rfl aw_61 rfl dX9_eatsNumber_46 ?_
          refine v_aload_n hC dX9_eatsNumber_49 rfl ?_
          refine v_geti (k := 4) hC cls_X9 ly_3 (by decide) rfl aw_63 rfl dX9_eatsNumber_50 ?_
          obtain ⟨g7, h⟩ := grd_some h
          refine v_iald hC ly_6 (inb_in g7) dX9_eatsNumber_53 ?_
          refine v_iload_n hC dX9_eatsNumber_54 rfl ?_
          refine v_icmp_le hC 60 dX9_eatsNumber_55 rfl (fun c8 => ?_) (fun c8 => ?_)
          · rw [if_pos c8] at h
            refine v_aload_n hC dX9_eatsNumber_60 rfl ?_
            refine v_geta (k := 2) (b := 6) hC cls_X9 ly_3 (by decide) rfl aw_61 rfl dX9_eatsNumber_61 ?_
            refine v_aload_n hC dX9_eatsNumber_64 rfl ?_
            refine v_geti (k := 4) hC cls_X9 ly_3 (by decide) rfl aw_63 rfl dX9_eatsNumber_65 ?_
            obtain ⟨g9, h⟩ := grd_some h
            refine v_iald hC ly_6 (inb_in g9) dX9_eatsNumber_68 ?_
            obtain ⟨x10, e_x10, h⟩ := lt_some h
            refine v_nam e_x10 ?_
            refine w_istore_n hC dX9_eatsNumber_69 (ltk rfl) [some (.ref 3), some (.int v1), some (.int v2), some (.int x10)] rfl ?_
            refine v_aload_n hC dX9_eatsNumber_70 rfl ?_
            refine v_dup hC dX9_eatsNumber_71 rfl ?_
            refine v_geti (k := 4) hC cls_X9 ly_3 (by decide) rfl aw_63 rfl dX9_eatsNumber_72 ?_
            refine v_iconst (v := (1 : Int32)) hC dX9_eatsNumber_75 rfl ?_
            refine v_iadd hC dX9_eatsNumber_76 ?_
            obtain ⟨M11, e_M11, h⟩ := lt_some h
            refine w_puti (k := 4) hC cls_X9 ly_3 (by decide) rfl aw_63 rfl rfl ⟨rfl, rfl⟩ dX9_eatsNumber_77 e_M11 ?_
            refine v_iload_n hC dX9_eatsNumber_80 rfl ?_
            cases h
            exact v_iret hC (by decide) (by decide) dX9_eatsNumber_81
          · rw [if_neg c8] at h
            refine v_iconst (v := (-1 : Int32)) hC dX9_eatsNumber_58 rfl ?_
            cases h
            exact v_iret hC (by decide) (by decide) dX9_eatsNumber_59
def f_X9_kind_29 (N : Nat) (M : Mm) : Option (Int32 × Mm) :=
  some ((303 : Int32), M)
def f_X9_kind (N : Nat) (M : Mm) : Option (Int32 × Mm) :=
  (if (M 3 4) < (0 : Int32) then f_X9_kind_29 N M else (if (400 : Int32) < (M 3 4) then f_X9_kind_29 N M else grd (inb (M 3 4) 401) (some ((M 4 ((M 3 4)).toNatClampNeg), M))))
set_option maxRecDepth 20000 in
set_option maxHeartbeats 4000000 in
theorem ok_X9_kind_29 {N : Nat} {X : am_X} {l : Launch} (hC : am_C X l (am_rm 1 0 0) cX9_kind yX9_kind.cls (some .int)) (hnt : am_NT X) {M : Mm} {r : Int32} {M' : Mm} (h : f_X9_kind_29 N M = some (r, M')) : am_V X LY M 0 0 (am_Q X LY 0 0 (.inl (some (.int r))) M') 29 [none] [] := by
  unfold f_X9_kind_29 at h
  refine v_sipush (v := (303 : Int32)) hC dX9_kind_29 rfl ?_
  cases h
  exact v_iret hC (by decide) (by decide) dX9_kind_32
set_option maxRecDepth 20000 in
set_option maxHeartbeats 4000000 in
theorem ok_X9_kind {l : Launch} {N : Nat} {M : Mm} {r : Int32} {M' : Mm} (h : f_X9_kind N M = some (r, M')) : am_M l yX9_kind cX9_kind 1 (some .int) 1 0 0 LY M [.ref 3] (.inl (some (.int r))) M' := by
  unfold f_X9_kind at h
  refine am_intro (by decide) (by simp [Value.category]) (Nat.le_of_ble_eq_true rfl) (fun X hC hnt => ?_)
  refine am_start (L := [some (.ref 3)]) rfl ?_
  refine v_aload_n hC dX9_kind_0 rfl ?_
  refine v_geti (k := 4) hC cls_X9 ly_3 (by decide) rfl aw_63 rfl dX9_kind_1 ?_
  refine v_if_lt hC 29 dX9_kind_4 rfl (fun c1 => ?_) (fun c1 => ?_)
  · rw [if_pos c1] at h
    refine v_drop [false] [none] rfl ?_
    exact ok_X9_kind_29 hC hnt h
  · rw [if_neg c1] at h
    refine v_aload_n hC dX9_kind_7 rfl ?_
    refine v_geti (k := 4) hC cls_X9 ly_3 (by decide) rfl aw_63 rfl dX9_kind_8 ?_
    refine v_sipush (v := (400 : Int32)) hC dX9_kind_11 rfl ?_
    refine v_icmp_gt hC 29 dX9_kind_14 rfl (fun c2 => ?_) (fun c2 => ?_)
    · rw [if_pos c2] at h
      refine v_drop [false] [none] rfl ?_
      exact ok_X9_kind_29 hC hnt h
    · rw [if_neg c2] at h
      refine v_aload_n hC dX9_kind_17 rfl ?_
      refine v_geta (k := 0) (b := 4) hC cls_X9 ly_3 (by decide) rfl aw_59 rfl dX9_kind_18 ?_
      refine v_aload_n hC dX9_kind_21 rfl ?_
      refine v_geti (k := 4) hC cls_X9 ly_3 (by decide) rfl aw_63 rfl dX9_kind_22 ?_
      obtain ⟨g3, h⟩ := grd_some h
      refine v_iald hC ly_4 (inb_in g3) dX9_kind_25 ?_
      refine v_goto (tg := 32) hC dX9_kind_26 rfl ?_
      cases h
      exact v_iret hC (by decide) (by decide) dX9_kind_32
def f_X2_readsSum_98 (N : Nat) (a1 : Nat) (k2 : Int32 → Mm → Option (Int32 × Mm)) (v2 : Int32) (M : Mm) : Option (Int32 × Mm) :=
  bnd (f_X9_eats N (43 : Int32) M) (fun r13 M14 => (if r13 = (0 : Int32) then some ((1 : Int32), M14) else k2 (v2 + (1 : Int32)) M14))
def f_X2_readsSum_78 (N : Nat) (a1 : Nat) (k2 : Int32 → Mm → Option (Int32 × Mm)) (v2 : Int32) (v3 : Int32) (M : Mm) : Option (Int32 × Mm) :=
  bnd (f_X1_addsStep N a1 ((1000 : Int32) + v3) M) (fun r7 M8 => bnd (f_X9_eats N v3 M8) (fun r10 M11 => f_X2_readsSum_98 N a1 k2 v2 M11))
def f_X2_readsSum_2 (N : Nat) (a1 : Nat) : Nat → Int32 → Mm → Option (Int32 × Mm)
  | 0, _, _ => none
  | n + 1, v2, M => (if (400 : Int32) ≤ v2 then some ((0 : Int32), M) else bnd (f_X9_kind N M) (fun r2 M3 => (if r2 = (301 : Int32) then bnd (f_X9_eatsNumber N (0 : Int32) (999 : Int32) M3) (fun r23 M24 => bnd (f_X1_addsStep N a1 r23 M24) (fun r26 M27 => f_X2_readsSum_98 N a1 (fun v2 M => f_X2_readsSum_2 N a1 n v2 M) v2 M27)) else (if r2 = (256 : Int32) then f_X2_readsSum_78 N a1 (fun v2 M => f_X2_readsSum_2 N a1 n v2 M) v2 r2 M3 else (if r2 = (260 : Int32) then f_X2_readsSum_78 N a1 (fun v2 M => f_X2_readsSum_2 N a1 n v2 M) v2 r2 M3 else (if r2 = (257 : Int32) then f_X2_readsSum_78 N a1 (fun v2 M => f_X2_readsSum_2 N a1 n v2 M) v2 r2 M3 else (if r2 = (261 : Int32) then f_X2_readsSum_78 N a1 (fun v2 M => f_X2_readsSum_2 N a1 n v2 M) v2 r2 M3 else (if r2 = (276 : Int32) then f_X2_readsSum_78 N a1 (fun v2 M => f_X2_readsSum_2 N a1 n v2 M) v2 r2 M3 else (if r2 = (268 : Int32) then f_X2_readsSum_78 N a1 (fun v2 M => f_X2_readsSum_2 N a1 n v2 M) v2 r2 M3 else some ((0 : Int32), M3))))))))))
def f_X2_readsSum (N : Nat) (a1 : Nat) (M : Mm) : Option (Int32 × Mm) :=
  f_X2_readsSum_2 N a1 N (0 : Int32) M
set_option maxRecDepth 20000 in
set_option maxHeartbeats 4000000 in
theorem ok_X2_readsSum_98 {N : Nat} {X : am_X} {l : Launch} (hC : am_C X l (am_rm 2 0 0) cX2_readsSum yX2_readsSum.cls (some .boolean)) (hnt : am_NT X) {a1 : Nat} (h1 : kLaw a1) {k2 : Int32 → Mm → Option (Int32 × Mm)} (hk2 : ∀ (v2 : Int32) (M : Mm) (r : Int32) (M' : Mm), k2 v2 M = some (r, M') → am_V X LY M 0 0 (am_Q X LY 0 0 (.inl (some (.int r))) M') 2 [some (.ref 3), some (.ref a1), some (.int v2), none] []) {v2 : Int32} {M : Mm} {r : Int32} {M' : Mm} (h : f_X2_readsSum_98 N a1 k2 v2 M = some (r, M')) : am_V X LY M 0 0 (am_Q X LY 0 0 (.inl (some (.int r))) M') 98 [some (.ref 3), some (.ref a1), some (.int v2), none] [] := by
  unfold f_X2_readsSum_98 at h
  refine v_aload_n hC dX2_readsSum_98 rfl ?_
  refine v_bipush (v := (43 : Int32)) hC dX2_readsSum_99 rfl ?_
  obtain ⟨r13, M14, q15, h⟩ := bnd_some h
  refine w_callVi hC [.int (43 : Int32)] [] (ok_X9_eats q15) mv_X9_eats aw_812 ly_3 rfl (Nat.le_of_ble_eq_true rfl) ⟨by decide, by decide⟩ ⟨by decide, by decide⟩ dX2_readsSum_101 ?_
  refine v_if_ne hC 109 dX2_readsSum_104 rfl (fun c16 => ?_) (fun c16 => ?_)
  · rw [if_neg c16] at h
    refine w_iinc hC (v2 + (1 : Int32)) dX2_readsSum_109 rfl rfl [some (.ref 3), some (.ref a1), some (.int (v2 + (1 : Int32))), none] rfl ?_
    refine v_goto (tg := 2) hC dX2_readsSum_112 rfl ?_
    exact hk2 _ _ _ _ h
  · rw [if_pos c16] at h
    refine v_iconst (v := (1 : Int32)) hC dX2_readsSum_107 rfl ?_
    cases h
    exact v_zret hC (by decide) (by decide) (by decide) dX2_readsSum_108
set_option maxRecDepth 20000 in
set_option maxHeartbeats 4000000 in
theorem ok_X2_readsSum_78 {N : Nat} {X : am_X} {l : Launch} (hC : am_C X l (am_rm 2 0 0) cX2_readsSum yX2_readsSum.cls (some .boolean)) (hnt : am_NT X) {a1 : Nat} (h1 : kLaw a1) {k2 : Int32 → Mm → Option (Int32 × Mm)} (hk2 : ∀ (v2 : Int32) (M : Mm) (r : Int32) (M' : Mm), k2 v2 M = some (r, M') → am_V X LY M 0 0 (am_Q X LY 0 0 (.inl (some (.int r))) M') 2 [some (.ref 3), some (.ref a1), some (.int v2), none] []) {v2 v3 : Int32} {M : Mm} {r : Int32} {M' : Mm} (h : f_X2_readsSum_78 N a1 k2 v2 v3 M = some (r, M')) : am_V X LY M 0 0 (am_Q X LY 0 0 (.inl (some (.int r))) M') 78 [some (.ref 3), some (.ref a1), some (.int v2), some (.int v3)] [] := by
  unfold f_X2_readsSum_78 at h
  refine v_aload_n hC dX2_readsSum_78 rfl ?_
  refine v_sipush (v := (1000 : Int32)) hC dX2_readsSum_79 rfl ?_
  refine v_iload_n hC dX2_readsSum_82 rfl ?_
  refine v_iadd hC dX2_readsSum_83 ?_
  obtain ⟨r7, M8, q9, h⟩ := bnd_some h
  refine w_callVv hC [.int ((1000 : Int32) + v3)] [] (ok_X1_addsStep h1 q9) mv_X1_addsStep aw_823 h1.1 rfl (Nat.le_of_ble_eq_true rfl) ⟨by decide, by decide⟩ ⟨by decide, by decide⟩ dX2_readsSum_84 ?_
  refine v_aload_n hC dX2_readsSum_87 rfl ?_
  refine v_iload_n hC dX2_readsSum_88 rfl ?_
  obtain ⟨r10, M11, q12, h⟩ := bnd_some h
  refine w_callVi hC [.int v3] [] (ok_X9_eats q12) mv_X9_eats aw_812 ly_3 rfl (Nat.le_of_ble_eq_true rfl) ⟨by decide, by decide⟩ ⟨by decide, by decide⟩ dX2_readsSum_89 ?_
  refine v_pop hC dX2_readsSum_92 rfl ?_
  refine v_goto (tg := 98) hC dX2_readsSum_93 rfl ?_
  refine v_drop [true, true, true, false] [some (.ref 3), some (.ref a1), some (.int v2), none] rfl ?_
  exact ok_X2_readsSum_98 hC hnt h1 hk2 h
set_option maxRecDepth 20000 in
set_option maxHeartbeats 4000000 in
theorem ok_X2_readsSum_2 {N : Nat} {X : am_X} {l : Launch} (hC : am_C X l (am_rm 2 0 0) cX2_readsSum yX2_readsSum.cls (some .boolean)) (hnt : am_NT X) {a1 : Nat} (h1 : kLaw a1) : ∀ (n : Nat) (v2 : Int32) (M : Mm) (r : Int32) (M' : Mm), f_X2_readsSum_2 N a1 n v2 M = some (r, M') → am_V X LY M 0 0 (am_Q X LY 0 0 (.inl (some (.int r))) M') 2 [some (.ref 3), some (.ref a1), some (.int v2), none] [] := by
  intro n
  induction n with
  | zero => intro v2 M r M' h; cases h
  | succ n ih =>
    intro v2 M r M' h
    simp only [f_X2_readsSum_2] at h
    refine v_iload_n hC dX2_readsSum_2 rfl ?_
    refine v_sipush (v := (400 : Int32)) hC dX2_readsSum_3 rfl ?_
    refine v_icmp_ge hC 115 dX2_readsSum_6 rfl (fun c1 => ?_) (fun c1 => ?_)
    · rw [if_pos c1] at h
      refine v_iconst (v := (0 : Int32)) hC dX2_readsSum_115 rfl ?_
      cases h
      exact v_zret hC (by decide) (by decide) (by decide) dX2_readsSum_116
    · rw [if_neg c1] at h
      refine v_aload_n hC dX2_readsSum_9 rfl ?_
      obtain ⟨r2, M3, q4, h⟩ := bnd_some h
      refine w_callVi hC [] [] (ok_X9_kind q4) mv_X9_kind aw_808 ly_3 rfl (Nat.le_of_ble_eq_true rfl) ⟨by decide, by decide⟩ ⟨by decide, by decide⟩ dX2_readsSum_10 ?_
      refine w_istore_n hC dX2_readsSum_13 (ltk rfl) [some (.ref 3), some (.ref a1), some (.int v2), some (.int r2)] rfl ?_
      refine v_iload_n hC dX2_readsSum_14 rfl ?_
      refine v_sipush (v := (301 : Int32)) hC dX2_readsSum_15 rfl ?_
      refine v_icmp_ne hC 36 dX2_readsSum_18 rfl (fun c5 => ?_) (fun c5 => ?_)
      · rw [if_neg c5] at h
        refine v_iload_n hC dX2_readsSum_36 rfl ?_
        refine v_sipush (v := (256 : Int32)) hC dX2_readsSum_37 rfl ?_
        refine v_icmp_eq hC 78 dX2_readsSum_40 rfl (fun c6 => ?_) (fun c6 => ?_)
        · rw [if_pos c6] at h
          exact ok_X2_readsSum_78 hC hnt h1 (fun v2 M r M' h => ih v2 M r M' h) h
        · rw [if_neg c6] at h
          refine v_iload_n hC dX2_readsSum_43 rfl ?_
          refine v_sipush (v := (260 : Int32)) hC dX2_readsSum_44 rfl ?_
          refine v_icmp_eq hC 78 dX2_readsSum_47 rfl (fun c18 => ?_) (fun c18 => ?_)
          · rw [if_pos c18] at h
            exact ok_X2_readsSum_78 hC hnt h1 (fun v2 M r M' h => ih v2 M r M' h) h
          · rw [if_neg c18] at h
            refine v_iload_n hC dX2_readsSum_50 rfl ?_
            refine v_sipush (v := (257 : Int32)) hC dX2_readsSum_51 rfl ?_
            refine v_icmp_eq hC 78 dX2_readsSum_54 rfl (fun c19 => ?_) (fun c19 => ?_)
            · rw [if_pos c19] at h
              exact ok_X2_readsSum_78 hC hnt h1 (fun v2 M r M' h => ih v2 M r M' h) h
            · rw [if_neg c19] at h
              refine v_iload_n hC dX2_readsSum_57 rfl ?_
              refine v_sipush (v := (261 : Int32)) hC dX2_readsSum_58 rfl ?_
              refine v_icmp_eq hC 78 dX2_readsSum_61 rfl (fun c20 => ?_) (fun c20 => ?_)
              · rw [if_pos c20] at h
                exact ok_X2_readsSum_78 hC hnt h1 (fun v2 M r M' h => ih v2 M r M' h) h
              · rw [if_neg c20] at h
                refine v_iload_n hC dX2_readsSum_64 rfl ?_
                refine v_sipush (v := (276 : Int32)) hC dX2_readsSum_65 rfl ?_
                refine v_icmp_eq hC 78 dX2_readsSum_68 rfl (fun c21 => ?_) (fun c21 => ?_)
                · rw [if_pos c21] at h
                  exact ok_X2_readsSum_78 hC hnt h1 (fun v2 M r M' h => ih v2 M r M' h) h
                · rw [if_neg c21] at h
                  refine v_iload_n hC dX2_readsSum_71 rfl ?_
                  refine v_sipush (v := (268 : Int32)) hC dX2_readsSum_72 rfl ?_
                  refine v_icmp_ne hC 96 dX2_readsSum_75 rfl (fun c22 => ?_) (fun c22 => ?_)
                  · rw [if_neg c22] at h
                    refine v_iconst (v := (0 : Int32)) hC dX2_readsSum_96 rfl ?_
                    cases h
                    exact v_zret hC (by decide) (by decide) (by decide) dX2_readsSum_97
                  · rw [if_pos c22] at h
                    exact ok_X2_readsSum_78 hC hnt h1 (fun v2 M r M' h => ih v2 M r M' h) h
      · rw [if_pos c5] at h
        refine v_aload_n hC dX2_readsSum_21 rfl ?_
        refine v_aload_n hC dX2_readsSum_22 rfl ?_
        refine v_iconst (v := (0 : Int32)) hC dX2_readsSum_23 rfl ?_
        refine v_sipush (v := (999 : Int32)) hC dX2_readsSum_24 rfl ?_
        obtain ⟨r23, M24, q25, h⟩ := bnd_some h
        refine w_callVi hC [.int (0 : Int32), .int (999 : Int32)] [.ref a1] (ok_X9_eatsNumber q25) mv_X9_eatsNumber aw_813 ly_3 rfl (Nat.le_of_ble_eq_true rfl) ⟨by decide, by decide⟩ ⟨by decide, by decide⟩ dX2_readsSum_27 ?_
        obtain ⟨r26, M27, q28, h⟩ := bnd_some h
        refine w_callVv hC [.int r23] [] (ok_X1_addsStep h1 q28) mv_X1_addsStep aw_823 h1.1 rfl (Nat.le_of_ble_eq_true rfl) ⟨by decide, by decide⟩ ⟨by decide, by decide⟩ dX2_readsSum_30 ?_
        refine v_goto (tg := 98) hC dX2_readsSum_33 rfl ?_
        refine v_drop [true, true, true, false] [some (.ref 3), some (.ref a1), some (.int v2), none] rfl ?_
        exact ok_X2_readsSum_98 hC hnt h1 (fun v2 M r M' h => ih v2 M r M' h) h
set_option maxRecDepth 20000 in
set_option maxHeartbeats 4000000 in
theorem ok_X2_readsSum {l : Launch} {N : Nat} {a1 : Nat} {M : Mm} {r : Int32} {M' : Mm} (h1 : kLaw a1) (h : f_X2_readsSum N a1 M = some (r, M')) : am_M l yX2_readsSum cX2_readsSum 4 (some .boolean) 2 0 0 LY M [.ref 3, .ref a1] (.inl (some (.int r))) M' := by
  unfold f_X2_readsSum at h
  refine am_intro (by decide) (by simp [Value.category]) (Nat.le_of_ble_eq_true rfl) (fun X hC hnt => ?_)
  refine am_start (L := [some (.ref 3), some (.ref a1), none, none]) rfl ?_
  refine v_iconst (v := (0 : Int32)) hC dX2_readsSum_0 rfl ?_
  refine w_istore_n hC dX2_readsSum_1 (ltk rfl) [some (.ref 3), some (.ref a1), some (.int (0 : Int32)), none] rfl ?_
  exact ok_X2_readsSum_2 hC hnt h1 N _ _ _ _ h
def f_X2_readsAll_13 (N : Nat) (a1 : Nat) (kA : Int32 → Mm → Option (Int32 × Mm)) : Nat → Int32 → Int32 → Mm → Option (Int32 × Mm)
  | 0, _, _, _ => none
  | n + 1, v2, v3, M => (if (400 : Int32) ≤ v3 then some ((1 : Int32), M) else bnd (f_X9_eats N (273 : Int32) M) (fun r6 M7 => (if r6 = (0 : Int32) then some ((1 : Int32), M7) else bnd (kA v2 M7) (fun r10 M11 => (if r10 = (0 : Int32) then some ((0 : Int32), M11) else bnd (f_X1_addsStep N a1 (1273 : Int32) M11) (fun r14 M15 => f_X2_readsAll_13 N a1 kA n v2 (v3 + (1 : Int32)) M15))))))
def f_X2_readsAll (N : Nat) (a1 : Nat) (kA : Int32 → Mm → Option (Int32 × Mm)) (v2 : Int32) (M : Mm) : Option (Int32 × Mm) :=
  bnd (kA v2 M) (fun r1 M2 => (if r1 = (0 : Int32) then some ((0 : Int32), M2) else f_X2_readsAll_13 N a1 kA N v2 (0 : Int32) M2))
set_option maxRecDepth 20000 in
set_option maxHeartbeats 4000000 in
theorem ok_X2_readsAll_13 {N : Nat} {X : am_X} {l : Launch} {D : Nat} {kA : Int32 → Mm → Option (Int32 × Mm)} {a1 : Nat} (hC : am_C X l (am_rm (D + 1) 0 0) cX2_readsAll yX2_readsAll.cls (some .boolean)) (hnt : am_NT X) (hA : ∀ (w2 : Int32) (M : Mm) (r : Int32) (M' : Mm), kA w2 M = some (r, M') → am_M l yX2_readsAtom cX2_readsAtom 5 (some .boolean) D 0 0 LY M [.ref 3, .ref a1, .int w2] (.inl (some (.int r))) M') (hD : 8 ≤ D) (h1 : kLaw a1) : ∀ (n : Nat) (v2 v3 : Int32) (M : Mm) (r : Int32) (M' : Mm), f_X2_readsAll_13 N a1 kA n v2 v3 M = some (r, M') → am_V X LY M 0 0 (am_Q X LY 0 0 (.inl (some (.int r))) M') 13 [some (.ref 3), some (.ref a1), some (.int v2), some (.int v3)] [] := by
  intro n
  induction n with
  | zero => intro v2 v3 M r M' h; cases h
  | succ n ih =>
    intro v2 v3 M r M' h
    simp only [f_X2_readsAll_13] at h
    refine v_iload_n hC dX2_readsAll_13 rfl ?_
    refine v_sipush (v := (400 : Int32)) hC dX2_readsAll_14 rfl ?_
    refine v_icmp_ge hC 54 dX2_readsAll_17 rfl (fun c5 => ?_) (fun c5 => ?_)
    · rw [if_pos c5] at h
      refine v_iconst (v := (1 : Int32)) hC dX2_readsAll_54 rfl ?_
      cases h
      exact v_zret hC (by decide) (Nat.le_refl _) (Nat.le_refl _) dX2_readsAll_55
    · rw [if_neg c5] at h
      refine v_aload_n hC dX2_readsAll_20 rfl ?_
      refine v_sipush (v := (273 : Int32)) hC dX2_readsAll_21 rfl ?_
      obtain ⟨r6, M7, q8, h⟩ := bnd_some h
      refine w_callVi hC [.int (273 : Int32)] [] (ok_X9_eats q8) mv_X9_eats aw_812 ly_3 rfl (Nat.le_of_ble_eq_true rfl) ⟨by simp only [am_rm]; omega, by simp only [am_rm]; omega⟩ ⟨Nat.le_refl _, Nat.le_refl _⟩ dX2_readsAll_24 ?_
      refine v_if_eq hC 54 dX2_readsAll_27 rfl (fun c9 => ?_) (fun c9 => ?_)
      · rw [if_pos c9] at h
        refine v_iconst (v := (1 : Int32)) hC dX2_readsAll_54 rfl ?_
        cases h
        exact v_zret hC (by decide) (Nat.le_refl _) (Nat.le_refl _) dX2_readsAll_55
      · rw [if_neg c9] at h
        refine v_aload_n hC dX2_readsAll_30 rfl ?_
        refine v_aload_n hC dX2_readsAll_31 rfl ?_
        refine v_iload_n hC dX2_readsAll_32 rfl ?_
        obtain ⟨r10, M11, q12, h⟩ := bnd_some h
        refine w_callSi hC [.ref 3, .ref a1, .int v2] [] (hA _ _ _ _ q12) ms_X2_readsAtom aw_820 rfl (Nat.le_of_ble_eq_true rfl) ⟨by simp only [am_rm]; omega, by simp only [am_rm]; omega⟩ ⟨Nat.le_refl _, Nat.le_refl _⟩ dX2_readsAll_33 ?_
        refine v_if_ne hC 41 dX2_readsAll_36 rfl (fun c13 => ?_) (fun c13 => ?_)
        · rw [if_neg c13] at h
          refine v_aload_n hC dX2_readsAll_41 rfl ?_
          refine v_sipush (v := (1273 : Int32)) hC dX2_readsAll_42 rfl ?_
          obtain ⟨r14, M15, q16, h⟩ := bnd_some h
          refine w_callVv hC [.int (1273 : Int32)] [] (ok_X1_addsStep h1 q16) mv_X1_addsStep aw_823 h1.1 rfl (Nat.le_of_ble_eq_true rfl) ⟨by simp only [am_rm]; omega, by simp only [am_rm]; omega⟩ ⟨Nat.le_refl _, Nat.le_refl _⟩ dX2_readsAll_45 ?_
          refine w_iinc hC (v3 + (1 : Int32)) dX2_readsAll_48 rfl rfl [some (.ref 3), some (.ref a1), some (.int v2), some (.int (v3 + (1 : Int32)))] rfl ?_
          refine v_goto (tg := 13) hC dX2_readsAll_51 rfl ?_
          exact ih _ _ _ _ _ h
        · rw [if_pos c13] at h
          refine v_iconst (v := (0 : Int32)) hC dX2_readsAll_39 rfl ?_
          cases h
          exact v_zret hC (by decide) (Nat.le_refl _) (Nat.le_refl _) dX2_readsAll_40
set_option maxRecDepth 20000 in
set_option maxHeartbeats 4000000 in
theorem ok_X2_readsAll {l : Launch} {N : Nat} {a1 : Nat} {v2 : Int32} {M : Mm} {r : Int32} {M' : Mm} (h1 : kLaw a1) {D : Nat} {kA : Int32 → Mm → Option (Int32 × Mm)} (hA : ∀ (w2 : Int32) (M : Mm) (r : Int32) (M' : Mm), kA w2 M = some (r, M') → am_M l yX2_readsAtom cX2_readsAtom 5 (some .boolean) D 0 0 LY M [.ref 3, .ref a1, .int w2] (.inl (some (.int r))) M') (hD : 8 ≤ D) (h : f_X2_readsAll N a1 kA v2 M = some (r, M')) : am_M l yX2_readsAll cX2_readsAll 4 (some .boolean) (D + 1) 0 0 LY M [.ref 3, .ref a1, .int v2] (.inl (some (.int r))) M' := by
  unfold f_X2_readsAll at h
  refine am_intro (by decide) (by simp [Value.category]) (Nat.le_of_ble_eq_true rfl) (fun X hC hnt => ?_)
  refine am_start (L := [some (.ref 3), some (.ref a1), some (.int v2), none]) rfl ?_
  refine v_aload_n hC dX2_readsAll_0 rfl ?_
  refine v_aload_n hC dX2_readsAll_1 rfl ?_
  refine v_iload_n hC dX2_readsAll_2 rfl ?_
  obtain ⟨r1, M2, q3, h⟩ := bnd_some h
  refine w_callSi hC [.ref 3, .ref a1, .int v2] [] (hA _ _ _ _ q3) ms_X2_readsAtom aw_820 rfl (Nat.le_of_ble_eq_true rfl) ⟨by simp only [am_rm]; omega, by simp only [am_rm]; omega⟩ ⟨Nat.le_refl _, Nat.le_refl _⟩ dX2_readsAll_3 ?_
  refine v_if_ne hC 11 dX2_readsAll_6 rfl (fun c4 => ?_) (fun c4 => ?_)
  · rw [if_neg c4] at h
    refine v_iconst (v := (0 : Int32)) hC dX2_readsAll_11 rfl ?_
    refine w_istore_n hC dX2_readsAll_12 (ltk rfl) [some (.ref 3), some (.ref a1), some (.int v2), some (.int (0 : Int32))] rfl ?_
    exact ok_X2_readsAll_13 hC hnt hA hD h1 N _ _ _ _ _ h
  · rw [if_pos c4] at h
    refine v_iconst (v := (0 : Int32)) hC dX2_readsAll_9 rfl ?_
    cases h
    exact v_zret hC (by decide) (Nat.le_refl _) (Nat.le_refl _) dX2_readsAll_10
def f_X2_readsCondition_13 (N : Nat) (a1 : Nat) (kA : Int32 → Mm → Option (Int32 × Mm)) : Nat → Int32 → Int32 → Mm → Option (Int32 × Mm)
  | 0, _, _, _ => none
  | n + 1, v2, v3, M => (if (400 : Int32) ≤ v3 then some ((1 : Int32), M) else bnd (f_X9_eats N (272 : Int32) M) (fun r6 M7 => (if r6 = (0 : Int32) then some ((1 : Int32), M7) else bnd (f_X2_readsAll N a1 kA v2 M7) (fun r10 M11 => (if r10 = (0 : Int32) then some ((0 : Int32), M11) else bnd (f_X1_addsStep N a1 (1272 : Int32) M11) (fun r14 M15 => f_X2_readsCondition_13 N a1 kA n v2 (v3 + (1 : Int32)) M15))))))
def f_X2_readsCondition (N : Nat) (a1 : Nat) (kA : Int32 → Mm → Option (Int32 × Mm)) (v2 : Int32) (M : Mm) : Option (Int32 × Mm) :=
  bnd (f_X2_readsAll N a1 kA v2 M) (fun r1 M2 => (if r1 = (0 : Int32) then some ((0 : Int32), M2) else f_X2_readsCondition_13 N a1 kA N v2 (0 : Int32) M2))
set_option maxRecDepth 20000 in
set_option maxHeartbeats 4000000 in
theorem ok_X2_readsCondition_13 {N : Nat} {X : am_X} {l : Launch} {D : Nat} {kA : Int32 → Mm → Option (Int32 × Mm)} {a1 : Nat} (hC : am_C X l (am_rm (D + 2) 0 0) cX2_readsCondition yX2_readsCondition.cls (some .boolean)) (hnt : am_NT X) (hA : ∀ (w2 : Int32) (M : Mm) (r : Int32) (M' : Mm), kA w2 M = some (r, M') → am_M l yX2_readsAtom cX2_readsAtom 5 (some .boolean) D 0 0 LY M [.ref 3, .ref a1, .int w2] (.inl (some (.int r))) M') (hD : 8 ≤ D) (h1 : kLaw a1) : ∀ (n : Nat) (v2 v3 : Int32) (M : Mm) (r : Int32) (M' : Mm), f_X2_readsCondition_13 N a1 kA n v2 v3 M = some (r, M') → am_V X LY M 0 0 (am_Q X LY 0 0 (.inl (some (.int r))) M') 13 [some (.ref 3), some (.ref a1), some (.int v2), some (.int v3)] [] := by
  intro n
  induction n with
  | zero => intro v2 v3 M r M' h; cases h
  | succ n ih =>
    intro v2 v3 M r M' h
    simp only [f_X2_readsCondition_13] at h
    refine v_iload_n hC dX2_readsCondition_13 rfl ?_
    refine v_sipush (v := (400 : Int32)) hC dX2_readsCondition_14 rfl ?_
    refine v_icmp_ge hC 54 dX2_readsCondition_17 rfl (fun c5 => ?_) (fun c5 => ?_)
    · rw [if_pos c5] at h
      refine v_iconst (v := (1 : Int32)) hC dX2_readsCondition_54 rfl ?_
      cases h
      exact v_zret hC (by decide) (Nat.le_refl _) (Nat.le_refl _) dX2_readsCondition_55
    · rw [if_neg c5] at h
      refine v_aload_n hC dX2_readsCondition_20 rfl ?_
      refine v_sipush (v := (272 : Int32)) hC dX2_readsCondition_21 rfl ?_
      obtain ⟨r6, M7, q8, h⟩ := bnd_some h
      refine w_callVi hC [.int (272 : Int32)] [] (ok_X9_eats q8) mv_X9_eats aw_812 ly_3 rfl (Nat.le_of_ble_eq_true rfl) ⟨by simp only [am_rm]; omega, by simp only [am_rm]; omega⟩ ⟨Nat.le_refl _, Nat.le_refl _⟩ dX2_readsCondition_24 ?_
      refine v_if_eq hC 54 dX2_readsCondition_27 rfl (fun c9 => ?_) (fun c9 => ?_)
      · rw [if_pos c9] at h
        refine v_iconst (v := (1 : Int32)) hC dX2_readsCondition_54 rfl ?_
        cases h
        exact v_zret hC (by decide) (Nat.le_refl _) (Nat.le_refl _) dX2_readsCondition_55
      · rw [if_neg c9] at h
        refine v_aload_n hC dX2_readsCondition_30 rfl ?_
        refine v_aload_n hC dX2_readsCondition_31 rfl ?_
        refine v_iload_n hC dX2_readsCondition_32 rfl ?_
        obtain ⟨r10, M11, q12, h⟩ := bnd_some h
        refine w_callSi hC [.ref 3, .ref a1, .int v2] [] (ok_X2_readsAll h1 hA hD q12) ms_X2_readsAll aw_817 rfl (Nat.le_of_ble_eq_true rfl) ⟨by simp only [am_rm]; omega, by simp only [am_rm]; omega⟩ ⟨Nat.le_refl _, Nat.le_refl _⟩ dX2_readsCondition_33 ?_
        refine v_if_ne hC 41 dX2_readsCondition_36 rfl (fun c13 => ?_) (fun c13 => ?_)
        · rw [if_neg c13] at h
          refine v_aload_n hC dX2_readsCondition_41 rfl ?_
          refine v_sipush (v := (1272 : Int32)) hC dX2_readsCondition_42 rfl ?_
          obtain ⟨r14, M15, q16, h⟩ := bnd_some h
          refine w_callVv hC [.int (1272 : Int32)] [] (ok_X1_addsStep h1 q16) mv_X1_addsStep aw_823 h1.1 rfl (Nat.le_of_ble_eq_true rfl) ⟨by simp only [am_rm]; omega, by simp only [am_rm]; omega⟩ ⟨Nat.le_refl _, Nat.le_refl _⟩ dX2_readsCondition_45 ?_
          refine w_iinc hC (v3 + (1 : Int32)) dX2_readsCondition_48 rfl rfl [some (.ref 3), some (.ref a1), some (.int v2), some (.int (v3 + (1 : Int32)))] rfl ?_
          refine v_goto (tg := 13) hC dX2_readsCondition_51 rfl ?_
          exact ih _ _ _ _ _ h
        · rw [if_pos c13] at h
          refine v_iconst (v := (0 : Int32)) hC dX2_readsCondition_39 rfl ?_
          cases h
          exact v_zret hC (by decide) (Nat.le_refl _) (Nat.le_refl _) dX2_readsCondition_40
set_option maxRecDepth 20000 in
set_option maxHeartbeats 4000000 in
theorem ok_X2_readsCondition {l : Launch} {N : Nat} {a1 : Nat} {v2 : Int32} {M : Mm} {r : Int32} {M' : Mm} (h1 : kLaw a1) {D : Nat} {kA : Int32 → Mm → Option (Int32 × Mm)} (hA : ∀ (w2 : Int32) (M : Mm) (r : Int32) (M' : Mm), kA w2 M = some (r, M') → am_M l yX2_readsAtom cX2_readsAtom 5 (some .boolean) D 0 0 LY M [.ref 3, .ref a1, .int w2] (.inl (some (.int r))) M') (hD : 8 ≤ D) (h : f_X2_readsCondition N a1 kA v2 M = some (r, M')) : am_M l yX2_readsCondition cX2_readsCondition 4 (some .boolean) (D + 2) 0 0 LY M [.ref 3, .ref a1, .int v2] (.inl (some (.int r))) M' := by
  unfold f_X2_readsCondition at h
  refine am_intro (by decide) (by simp [Value.category]) (Nat.le_of_ble_eq_true rfl) (fun X hC hnt => ?_)
  refine am_start (L := [some (.ref 3), some (.ref a1), some (.int v2), none]) rfl ?_
  refine v_aload_n hC dX2_readsCondition_0 rfl ?_
  refine v_aload_n hC dX2_readsCondition_1 rfl ?_
  refine v_iload_n hC dX2_readsCondition_2 rfl ?_
  obtain ⟨r1, M2, q3, h⟩ := bnd_some h
  refine w_callSi hC [.ref 3, .ref a1, .int v2] [] (ok_X2_readsAll h1 hA hD q3) ms_X2_readsAll aw_817 rfl (Nat.le_of_ble_eq_true rfl) ⟨by simp only [am_rm]; omega, by simp only [am_rm]; omega⟩ ⟨Nat.le_refl _, Nat.le_refl _⟩ dX2_readsCondition_3 ?_
  refine v_if_ne hC 11 dX2_readsCondition_6 rfl (fun c4 => ?_) (fun c4 => ?_)
  · rw [if_neg c4] at h
    refine v_iconst (v := (0 : Int32)) hC dX2_readsCondition_11 rfl ?_
    refine w_istore_n hC dX2_readsCondition_12 (ltk rfl) [some (.ref 3), some (.ref a1), some (.int v2), some (.int (0 : Int32))] rfl ?_
    exact ok_X2_readsCondition_13 hC hnt hA hD h1 N _ _ _ _ _ h
  · rw [if_pos c4] at h
    refine v_iconst (v := (0 : Int32)) hC dX2_readsCondition_9 rfl ?_
    cases h
    exact v_zret hC (by decide) (Nat.le_refl _) (Nat.le_refl _) dX2_readsCondition_10
def f_X2_readsAtom_b_98 (N : Nat) (a1 : Nat) (kA : Int32 → Mm → Option (Int32 × Mm)) (v3 : Int32) (M : Mm) : Option (Int32 × Mm) :=
  bnd (f_X1_addsStep N a1 ((1000 : Int32) + v3) M) (fun r7 M8 => bnd (f_X9_eats N v3 M8) (fun r10 M11 => grd (isb r10) (some (r10, M11))))
def f_X2_readsAtom_b_188 (N : Nat) (a1 : Nat) (kA : Int32 → Mm → Option (Int32 × Mm)) (s1 : Int32) (M : Mm) : Option (Int32 × Mm) :=
  bnd (f_X1_addsStep N a1 s1 M) (fun r35 M36 => some ((1 : Int32), M36))
def f_X2_readsAtom_b_143 (N : Nat) (a1 : Nat) (kA : Int32 → Mm → Option (Int32 × Mm)) (v4 : Int32) (M : Mm) : Option (Int32 × Mm) :=
  bnd (f_X9_eats N v4 M) (fun r23 M24 => (if r23 = (0 : Int32) then some ((0 : Int32), M24) else bnd (f_X1_addsStep N a1 (1001 : Int32) M24) (fun r27 M28 => bnd (f_X2_readsSum N a1 M28) (fun r30 M31 => (if r30 = (0 : Int32) then some ((0 : Int32), M31) else (if v4 = (60 : Int32) then f_X2_readsAtom_b_188 N a1 kA (1002 : Int32) M31 else f_X2_readsAtom_b_188 N a1 kA (1003 : Int32) M31))))))
def f_X2_readsAtom_b_79 (N : Nat) (a1 : Nat) (kA : Int32 → Mm → Option (Int32 × Mm)) (M : Mm) : Option (Int32 × Mm) :=
  bnd (f_X9_kind N M) (fun r3 M4 => (if r3 = (259 : Int32) then f_X2_readsAtom_b_98 N a1 kA r3 M4 else (if r3 = (275 : Int32) then f_X2_readsAtom_b_98 N a1 kA r3 M4 else bnd (f_X2_readsSum N a1 M4) (fun r15 M16 => (if r15 = (0 : Int32) then some ((0 : Int32), M16) else bnd (f_X9_kind N M16) (fun r19 M20 => (if r19 = (60 : Int32) then f_X2_readsAtom_b_143 N a1 kA r19 M20 else (if r19 = (62 : Int32) then f_X2_readsAtom_b_143 N a1 kA r19 M20 else some ((0 : Int32), M20)))))))))
def f_X2_readsAtom_b_77 (N : Nat) (a1 : Nat) (kA : Int32 → Mm → Option (Int32 × Mm)) (M : Mm) : Option (Int32 × Mm) :=
  some ((0 : Int32), M)
def f_X2_readsAtom_b_38 (N : Nat) (a1 : Nat) (kA : Int32 → Mm → Option (Int32 × Mm)) (v2 : Int32) (M : Mm) : Option (Int32 × Mm) :=
  (if (6 : Int32) ≤ v2 then f_X2_readsAtom_b_79 N a1 kA M else bnd (f_X9_eats N (40 : Int32) M) (fun r39 M40 => (if r39 = (0 : Int32) then f_X2_readsAtom_b_79 N a1 kA M40 else bnd (f_X2_readsCondition N a1 kA (v2 + (1 : Int32)) M40) (fun r43 M44 => (if r43 = (0 : Int32) then f_X2_readsAtom_b_77 N a1 kA M44 else bnd (f_X9_eats N (41 : Int32) M44) (fun r47 M48 => (if r47 = (0 : Int32) then f_X2_readsAtom_b_77 N a1 kA M48 else some ((1 : Int32), M48))))))))
def f_X2_readsAtom_b (N : Nat) (a1 : Nat) (kA : Int32 → Mm → Option (Int32 × Mm)) (v2 : Int32) (M : Mm) : Option (Int32 × Mm) :=
  (if (6 : Int32) ≤ v2 then f_X2_readsAtom_b_38 N a1 kA v2 M else bnd (f_X9_eats N (274 : Int32) M) (fun r51 M52 => (if r51 = (0 : Int32) then f_X2_readsAtom_b_38 N a1 kA v2 M52 else bnd (kA (v2 + (1 : Int32)) M52) (fun r55 M56 => (if r55 = (0 : Int32) then some ((0 : Int32), M56) else bnd (f_X1_addsStep N a1 (1274 : Int32) M56) (fun r59 M60 => some ((1 : Int32), M60)))))))
set_option maxRecDepth 20000 in
set_option maxHeartbeats 4000000 in
theorem ok_X2_readsAtom_b_98 {N : Nat} {X : am_X} {l : Launch} {D : Nat} {kA : Int32 → Mm → Option (Int32 × Mm)} {a1 : Nat} (hC : am_C X l (am_rm (D + 3) 0 0) cX2_readsAtom yX2_readsAtom.cls (some .boolean)) (hnt : am_NT X) (hA : ∀ (w2 : Int32) (M : Mm) (r : Int32) (M' : Mm), kA w2 M = some (r, M') → am_M l yX2_readsAtom cX2_readsAtom 5 (some .boolean) D 0 0 LY M [.ref 3, .ref a1, .int w2] (.inl (some (.int r))) M') (hD : 8 ≤ D) (h1 : kLaw a1) {v3 : Int32} {M : Mm} {r : Int32} {M' : Mm} (h : f_X2_readsAtom_b_98 N a1 kA v3 M = some (r, M')) : am_V X LY M 0 0 (am_Q X LY 0 0 (.inl (some (.int r))) M') 98 [some (.ref 3), some (.ref a1), none, some (.int v3), none] [] := by
  unfold f_X2_readsAtom_b_98 at h
  refine v_aload_n hC dX2_readsAtom_98 rfl ?_
  refine v_sipush (v := (1000 : Int32)) hC dX2_readsAtom_99 rfl ?_
  refine v_iload_n hC dX2_readsAtom_102 rfl ?_
  refine v_iadd hC dX2_readsAtom_103 ?_
  obtain ⟨r7, M8, q9, h⟩ := bnd_some h
  refine w_callVv hC [.int ((1000 : Int32) + v3)] [] (ok_X1_addsStep h1 q9) mv_X1_addsStep aw_823 h1.1 rfl (Nat.le_of_ble_eq_true rfl) ⟨by simp only [am_rm]; omega, by simp only [am_rm]; omega⟩ ⟨Nat.le_refl _, Nat.le_refl _⟩ dX2_readsAtom_104 ?_
  refine v_aload_n hC dX2_readsAtom_107 rfl ?_
  refine v_iload_n hC dX2_readsAtom_108 rfl ?_
  obtain ⟨r10, M11, q12, h⟩ := bnd_some h
  refine w_callVi hC [.int v3] [] (ok_X9_eats q12) mv_X9_eats aw_812 ly_3 rfl (Nat.le_of_ble_eq_true rfl) ⟨by simp only [am_rm]; omega, by simp only [am_rm]; omega⟩ ⟨Nat.le_refl _, Nat.le_refl _⟩ dX2_readsAtom_109 ?_
  obtain ⟨g13, h⟩ := grd_some h
  cases h
  exact v_zret hC (isb_nar g13).1 (Nat.le_refl _) (Nat.le_refl _) dX2_readsAtom_112
set_option maxRecDepth 20000 in
set_option maxHeartbeats 4000000 in
theorem ok_X2_readsAtom_b_188 {N : Nat} {X : am_X} {l : Launch} {D : Nat} {kA : Int32 → Mm → Option (Int32 × Mm)} {a1 : Nat} (hC : am_C X l (am_rm (D + 3) 0 0) cX2_readsAtom yX2_readsAtom.cls (some .boolean)) (hnt : am_NT X) (hA : ∀ (w2 : Int32) (M : Mm) (r : Int32) (M' : Mm), kA w2 M = some (r, M') → am_M l yX2_readsAtom cX2_readsAtom 5 (some .boolean) D 0 0 LY M [.ref 3, .ref a1, .int w2] (.inl (some (.int r))) M') (hD : 8 ≤ D) (h1 : kLaw a1) {s1 : Int32} {M : Mm} {r : Int32} {M' : Mm} (h : f_X2_readsAtom_b_188 N a1 kA s1 M = some (r, M')) : am_V X LY M 0 0 (am_Q X LY 0 0 (.inl (some (.int r))) M') 188 [none, none, none, none, none] [.int s1, .ref a1] := by
  unfold f_X2_readsAtom_b_188 at h
  obtain ⟨r35, M36, q37, h⟩ := bnd_some h
  refine w_callVv hC [.int s1] [] (ok_X1_addsStep h1 q37) mv_X1_addsStep aw_823 h1.1 rfl (Nat.le_of_ble_eq_true rfl) ⟨by simp only [am_rm]; omega, by simp only [am_rm]; omega⟩ ⟨Nat.le_refl _, Nat.le_refl _⟩ dX2_readsAtom_188 ?_
  refine v_iconst (v := (1 : Int32)) hC dX2_readsAtom_191 rfl ?_
  cases h
  exact v_zret hC (by decide) (Nat.le_refl _) (Nat.le_refl _) dX2_readsAtom_192
set_option maxRecDepth 20000 in
set_option maxHeartbeats 4000000 in
theorem ok_X2_readsAtom_b_143 {N : Nat} {X : am_X} {l : Launch} {D : Nat} {kA : Int32 → Mm → Option (Int32 × Mm)} {a1 : Nat} (hC : am_C X l (am_rm (D + 3) 0 0) cX2_readsAtom yX2_readsAtom.cls (some .boolean)) (hnt : am_NT X) (hA : ∀ (w2 : Int32) (M : Mm) (r : Int32) (M' : Mm), kA w2 M = some (r, M') → am_M l yX2_readsAtom cX2_readsAtom 5 (some .boolean) D 0 0 LY M [.ref 3, .ref a1, .int w2] (.inl (some (.int r))) M') (hD : 8 ≤ D) (h1 : kLaw a1) {v4 : Int32} {M : Mm} {r : Int32} {M' : Mm} (h : f_X2_readsAtom_b_143 N a1 kA v4 M = some (r, M')) : am_V X LY M 0 0 (am_Q X LY 0 0 (.inl (some (.int r))) M') 143 [some (.ref 3), some (.ref a1), none, none, some (.int v4)] [] := by
  unfold f_X2_readsAtom_b_143 at h
  refine v_aload_n hC dX2_readsAtom_143 rfl ?_
  refine v_iload hC dX2_readsAtom_144 rfl ?_
  obtain ⟨r23, M24, q25, h⟩ := bnd_some h
  refine w_callVi hC [.int v4] [] (ok_X9_eats q25) mv_X9_eats aw_812 ly_3 rfl (Nat.le_of_ble_eq_true rfl) ⟨by simp only [am_rm]; omega, by simp only [am_rm]; omega⟩ ⟨Nat.le_refl _, Nat.le_refl _⟩ dX2_readsAtom_146 ?_
  refine v_if_ne hC 154 dX2_readsAtom_149 rfl (fun c26 => ?_) (fun c26 => ?_)
  · rw [if_neg c26] at h
    refine v_aload_n hC dX2_readsAtom_154 rfl ?_
    refine v_sipush (v := (1001 : Int32)) hC dX2_readsAtom_155 rfl ?_
    obtain ⟨r27, M28, q29, h⟩ := bnd_some h
    refine w_callVv hC [.int (1001 : Int32)] [] (ok_X1_addsStep h1 q29) mv_X1_addsStep aw_823 h1.1 rfl (Nat.le_of_ble_eq_true rfl) ⟨by simp only [am_rm]; omega, by simp only [am_rm]; omega⟩ ⟨Nat.le_refl _, Nat.le_refl _⟩ dX2_readsAtom_158 ?_
    refine v_aload_n hC dX2_readsAtom_161 rfl ?_
    refine v_aload_n hC dX2_readsAtom_162 rfl ?_
    obtain ⟨r30, M31, q32, h⟩ := bnd_some h
    refine w_callSi hC [.ref 3, .ref a1] [] (ok_X2_readsSum h1 q32) ms_X2_readsSum aw_827 rfl (Nat.le_of_ble_eq_true rfl) ⟨by simp only [am_rm]; omega, by simp only [am_rm]; omega⟩ ⟨Nat.le_refl _, Nat.le_refl _⟩ dX2_readsAtom_163 ?_
    refine v_if_ne hC 171 dX2_readsAtom_166 rfl (fun c33 => ?_) (fun c33 => ?_)
    · rw [if_neg c33] at h
      refine v_aload_n hC dX2_readsAtom_171 rfl ?_
      refine v_iload hC dX2_readsAtom_172 rfl ?_
      refine v_bipush (v := (60 : Int32)) hC dX2_readsAtom_174 rfl ?_
      refine v_icmp_ne hC 185 dX2_readsAtom_176 rfl (fun c34 => ?_) (fun c34 => ?_)
      · rw [if_neg c34] at h
        refine v_sipush (v := (1003 : Int32)) hC dX2_readsAtom_185 rfl ?_
        refine v_drop [false, false, false, false, false] [none, none, none, none, none] rfl ?_
        exact ok_X2_readsAtom_b_188 hC hnt hA hD h1 h
      · rw [if_pos c34] at h
        refine v_sipush (v := (1002 : Int32)) hC dX2_readsAtom_179 rfl ?_
        refine v_goto (tg := 188) hC dX2_readsAtom_182 rfl ?_
        refine v_drop [false, false, false, false, false] [none, none, none, none, none] rfl ?_
        exact ok_X2_readsAtom_b_188 hC hnt hA hD h1 h
    · rw [if_pos c33] at h
      refine v_iconst (v := (0 : Int32)) hC dX2_readsAtom_169 rfl ?_
      cases h
      exact v_zret hC (by decide) (Nat.le_refl _) (Nat.le_refl _) dX2_readsAtom_170
  · rw [if_pos c26] at h
    refine v_iconst (v := (0 : Int32)) hC dX2_readsAtom_152 rfl ?_
    cases h
    exact v_zret hC (by decide) (Nat.le_refl _) (Nat.le_refl _) dX2_readsAtom_153
set_option maxRecDepth 20000 in
set_option maxHeartbeats 4000000 in
theorem ok_X2_readsAtom_b_79 {N : Nat} {X : am_X} {l : Launch} {D : Nat} {kA : Int32 → Mm → Option (Int32 × Mm)} {a1 : Nat} (hC : am_C X l (am_rm (D + 3) 0 0) cX2_readsAtom yX2_readsAtom.cls (some .boolean)) (hnt : am_NT X) (hA : ∀ (w2 : Int32) (M : Mm) (r : Int32) (M' : Mm), kA w2 M = some (r, M') → am_M l yX2_readsAtom cX2_readsAtom 5 (some .boolean) D 0 0 LY M [.ref 3, .ref a1, .int w2] (.inl (some (.int r))) M') (hD : 8 ≤ D) (h1 : kLaw a1) {M : Mm} {r : Int32} {M' : Mm} (h : f_X2_readsAtom_b_79 N a1 kA M = some (r, M')) : am_V X LY M 0 0 (am_Q X LY 0 0 (.inl (some (.int r))) M') 79 [some (.ref 3), some (.ref a1), none, none, none] [] := by
  unfold f_X2_readsAtom_b_79 at h
  refine v_aload_n hC dX2_readsAtom_79 rfl ?_
  obtain ⟨r3, M4, q5, h⟩ := bnd_some h
  refine w_callVi hC [] [] (ok_X9_kind q5) mv_X9_kind aw_808 ly_3 rfl (Nat.le_of_ble_eq_true rfl) ⟨by simp only [am_rm]; omega, by simp only [am_rm]; omega⟩ ⟨Nat.le_refl _, Nat.le_refl _⟩ dX2_readsAtom_80 ?_
  refine w_istore_n hC dX2_readsAtom_83 (ltk rfl) [some (.ref 3), some (.ref a1), none, some (.int r3), none] rfl ?_
  refine v_iload_n hC dX2_readsAtom_84 rfl ?_
  refine v_sipush (v := (259 : Int32)) hC dX2_readsAtom_85 rfl ?_
  refine v_icmp_eq hC 98 dX2_readsAtom_88 rfl (fun c6 => ?_) (fun c6 => ?_)
  · rw [if_pos c6] at h
    exact ok_X2_readsAtom_b_98 hC hnt hA hD h1 h
  · rw [if_neg c6] at h
    refine v_iload_n hC dX2_readsAtom_91 rfl ?_
    refine v_sipush (v := (275 : Int32)) hC dX2_readsAtom_92 rfl ?_
    refine v_icmp_ne hC 113 dX2_readsAtom_95 rfl (fun c14 => ?_) (fun c14 => ?_)
    · rw [if_neg c14] at h
      refine v_aload_n hC dX2_readsAtom_113 rfl ?_
      refine v_aload_n hC dX2_readsAtom_114 rfl ?_
      obtain ⟨r15, M16, q17, h⟩ := bnd_some h
      refine w_callSi hC [.ref 3, .ref a1] [] (ok_X2_readsSum h1 q17) ms_X2_readsSum aw_827 rfl (Nat.le_of_ble_eq_true rfl) ⟨by simp only [am_rm]; omega, by simp only [am_rm]; omega⟩ ⟨Nat.le_refl _, Nat.le_refl _⟩ dX2_readsAtom_115 ?_
      refine v_if_ne hC 123 dX2_readsAtom_118 rfl (fun c18 => ?_) (fun c18 => ?_)
      · rw [if_neg c18] at h
        refine v_aload_n hC dX2_readsAtom_123 rfl ?_
        obtain ⟨r19, M20, q21, h⟩ := bnd_some h
        refine w_callVi hC [] [] (ok_X9_kind q21) mv_X9_kind aw_808 ly_3 rfl (Nat.le_of_ble_eq_true rfl) ⟨by simp only [am_rm]; omega, by simp only [am_rm]; omega⟩ ⟨Nat.le_refl _, Nat.le_refl _⟩ dX2_readsAtom_124 ?_
        refine w_istore hC dX2_readsAtom_127 (ltk rfl) [some (.ref 3), some (.ref a1), none, some (.int r3), some (.int r19)] rfl ?_
        refine v_iload hC dX2_readsAtom_129 rfl ?_
        refine v_bipush (v := (60 : Int32)) hC dX2_readsAtom_131 rfl ?_
        refine v_icmp_eq hC 143 dX2_readsAtom_133 rfl (fun c22 => ?_) (fun c22 => ?_)
        · rw [if_pos c22] at h
          refine v_drop [true, true, false, false, true] [some (.ref 3), some (.ref a1), none, none, some (.int r19)] rfl ?_
          exact ok_X2_readsAtom_b_143 hC hnt hA hD h1 h
        · rw [if_neg c22] at h
          refine v_iload hC dX2_readsAtom_136 rfl ?_
          refine v_bipush (v := (62 : Int32)) hC dX2_readsAtom_138 rfl ?_
          refine v_icmp_ne hC 152 dX2_readsAtom_140 rfl (fun c38 => ?_) (fun c38 => ?_)
          · rw [if_neg c38] at h
            refine v_iconst (v := (0 : Int32)) hC dX2_readsAtom_152 rfl ?_
            cases h
            exact v_zret hC (by decide) (Nat.le_refl _) (Nat.le_refl _) dX2_readsAtom_153
          · rw [if_pos c38] at h
            refine v_drop [true, true, false, false, true] [some (.ref 3), some (.ref a1), none, none, some (.int r19)] rfl ?_
            exact ok_X2_readsAtom_b_143 hC hnt hA hD h1 h
      · rw [if_pos c18] at h
        refine v_iconst (v := (0 : Int32)) hC dX2_readsAtom_121 rfl ?_
        cases h
        exact v_zret hC (by decide) (Nat.le_refl _) (Nat.le_refl _) dX2_readsAtom_122
    · rw [if_pos c14] at h
      exact ok_X2_readsAtom_b_98 hC hnt hA hD h1 h
set_option maxRecDepth 20000 in
set_option maxHeartbeats 4000000 in
theorem ok_X2_readsAtom_b_77 {N : Nat} {X : am_X} {l : Launch} {D : Nat} {kA : Int32 → Mm → Option (Int32 × Mm)} {a1 : Nat} (hC : am_C X l (am_rm (D + 3) 0 0) cX2_readsAtom yX2_readsAtom.cls (some .boolean)) (hnt : am_NT X) (hA : ∀ (w2 : Int32) (M : Mm) (r : Int32) (M' : Mm), kA w2 M = some (r, M') → am_M l yX2_readsAtom cX2_readsAtom 5 (some .boolean) D 0 0 LY M [.ref 3, .ref a1, .int w2] (.inl (some (.int r))) M') (hD : 8 ≤ D) (h1 : kLaw a1) {M : Mm} {r : Int32} {M' : Mm} (h : f_X2_readsAtom_b_77 N a1 kA M = some (r, M')) : am_V X LY M 0 0 (am_Q X LY 0 0 (.inl (some (.int r))) M') 77 [none, none, none, none, none] [] := by
  unfold f_X2_readsAtom_b_77 at h
  refine v_iconst (v := (0 : Int32)) hC dX2_readsAtom_77 rfl ?_
  cases h
  exact v_zret hC (by decide) (Nat.le_refl _) (Nat.le_refl _) dX2_readsAtom_78
set_option maxRecDepth 20000 in
set_option maxHeartbeats 4000000 in
theorem ok_X2_readsAtom_b_38 {N : Nat} {X : am_X} {l : Launch} {D : Nat} {kA : Int32 → Mm → Option (Int32 × Mm)} {a1 : Nat} (hC : am_C X l (am_rm (D + 3) 0 0) cX2_readsAtom yX2_readsAtom.cls (some .boolean)) (hnt : am_NT X) (hA : ∀ (w2 : Int32) (M : Mm) (r : Int32) (M' : Mm), kA w2 M = some (r, M') → am_M l yX2_readsAtom cX2_readsAtom 5 (some .boolean) D 0 0 LY M [.ref 3, .ref a1, .int w2] (.inl (some (.int r))) M') (hD : 8 ≤ D) (h1 : kLaw a1) {v2 : Int32} {M : Mm} {r : Int32} {M' : Mm} (h : f_X2_readsAtom_b_38 N a1 kA v2 M = some (r, M')) : am_V X LY M 0 0 (am_Q X LY 0 0 (.inl (some (.int r))) M') 38 [some (.ref 3), some (.ref a1), some (.int v2), none, none] [] := by
  unfold f_X2_readsAtom_b_38 at h
  refine v_iload_n hC dX2_readsAtom_38 rfl ?_
  refine v_bipush (v := (6 : Int32)) hC dX2_readsAtom_39 rfl ?_
  refine v_icmp_ge hC 79 dX2_readsAtom_41 rfl (fun c2 => ?_) (fun c2 => ?_)
  · rw [if_pos c2] at h
    refine v_drop [true, true, false, false, false] [some (.ref 3), some (.ref a1), none, none, none] rfl ?_
    exact ok_X2_readsAtom_b_79 hC hnt hA hD h1 h
  · rw [if_neg c2] at h
    refine v_aload_n hC dX2_readsAtom_44 rfl ?_
    refine v_bipush (v := (40 : Int32)) hC dX2_readsAtom_45 rfl ?_
    obtain ⟨r39, M40, q41, h⟩ := bnd_some h
    refine w_callVi hC [.int (40 : Int32)] [] (ok_X9_eats q41) mv_X9_eats aw_812 ly_3 rfl (Nat.le_of_ble_eq_true rfl) ⟨by simp only [am_rm]; omega, by simp only [am_rm]; omega⟩ ⟨Nat.le_refl _, Nat.le_refl _⟩ dX2_readsAtom_47 ?_
    refine v_if_eq hC 79 dX2_readsAtom_50 rfl (fun c42 => ?_) (fun c42 => ?_)
    · rw [if_pos c42] at h
      refine v_drop [true, true, false, false, false] [some (.ref 3), some (.ref a1), none, none, none] rfl ?_
      exact ok_X2_readsAtom_b_79 hC hnt hA hD h1 h
    · rw [if_neg c42] at h
      refine v_aload_n hC dX2_readsAtom_53 rfl ?_
      refine v_aload_n hC dX2_readsAtom_54 rfl ?_
      refine v_iload_n hC dX2_readsAtom_55 rfl ?_
      refine v_iconst (v := (1 : Int32)) hC dX2_readsAtom_56 rfl ?_
      refine v_iadd hC dX2_readsAtom_57 ?_
      obtain ⟨r43, M44, q45, h⟩ := bnd_some h
      refine w_callSi hC [.ref 3, .ref a1, .int (v2 + (1 : Int32))] [] (ok_X2_readsCondition h1 hA hD q45) ms_X2_readsCondition aw_814 rfl (Nat.le_of_ble_eq_true rfl) ⟨by simp only [am_rm]; omega, by simp only [am_rm]; omega⟩ ⟨Nat.le_refl _, Nat.le_refl _⟩ dX2_readsAtom_58 ?_
      refine v_if_eq hC 77 dX2_readsAtom_61 rfl (fun c46 => ?_) (fun c46 => ?_)
      · rw [if_pos c46] at h
        refine v_drop [false, false, false, false, false] [none, none, none, none, none] rfl ?_
        exact ok_X2_readsAtom_b_77 hC hnt hA hD h1 h
      · rw [if_neg c46] at h
        refine v_aload_n hC dX2_readsAtom_64 rfl ?_
        refine v_bipush (v := (41 : Int32)) hC dX2_readsAtom_65 rfl ?_
        obtain ⟨r47, M48, q49, h⟩ := bnd_some h
        refine w_callVi hC [.int (41 : Int32)] [] (ok_X9_eats q49) mv_X9_eats aw_812 ly_3 rfl (Nat.le_of_ble_eq_true rfl) ⟨by simp only [am_rm]; omega, by simp only [am_rm]; omega⟩ ⟨Nat.le_refl _, Nat.le_refl _⟩ dX2_readsAtom_67 ?_
        refine v_if_eq hC 77 dX2_readsAtom_70 rfl (fun c50 => ?_) (fun c50 => ?_)
        · rw [if_pos c50] at h
          refine v_drop [false, false, false, false, false] [none, none, none, none, none] rfl ?_
          exact ok_X2_readsAtom_b_77 hC hnt hA hD h1 h
        · rw [if_neg c50] at h
          refine v_iconst (v := (1 : Int32)) hC dX2_readsAtom_73 rfl ?_
          refine v_goto (tg := 78) hC dX2_readsAtom_74 rfl ?_
          cases h
          exact v_zret hC (by decide) (Nat.le_refl _) (Nat.le_refl _) dX2_readsAtom_78
set_option maxRecDepth 20000 in
set_option maxHeartbeats 4000000 in
theorem ok_X2_readsAtom_b {l : Launch} {N : Nat} {a1 : Nat} {v2 : Int32} {M : Mm} {r : Int32} {M' : Mm} (h1 : kLaw a1) {D : Nat} {kA : Int32 → Mm → Option (Int32 × Mm)} (hA : ∀ (w2 : Int32) (M : Mm) (r : Int32) (M' : Mm), kA w2 M = some (r, M') → am_M l yX2_readsAtom cX2_readsAtom 5 (some .boolean) D 0 0 LY M [.ref 3, .ref a1, .int w2] (.inl (some (.int r))) M') (hD : 8 ≤ D) (h : f_X2_readsAtom_b N a1 kA v2 M = some (r, M')) : am_M l yX2_readsAtom cX2_readsAtom 5 (some .boolean) (D + 3) 0 0 LY M [.ref 3, .ref a1, .int v2] (.inl (some (.int r))) M' := by
  unfold f_X2_readsAtom_b at h
  refine am_intro (by decide) (by simp [Value.category]) (Nat.le_of_ble_eq_true rfl) (fun X hC hnt => ?_)
  refine am_start (L := [some (.ref 3), some (.ref a1), some (.int v2), none, none]) rfl ?_
  refine v_iload_n hC dX2_readsAtom_0 rfl ?_
  refine v_bipush (v := (6 : Int32)) hC dX2_readsAtom_1 rfl ?_
  refine v_icmp_ge hC 38 dX2_readsAtom_3 rfl (fun c1 => ?_) (fun c1 => ?_)
  · rw [if_pos c1] at h
    exact ok_X2_readsAtom_b_38 hC hnt hA hD h1 h
  · rw [if_neg c1] at h
    refine v_aload_n hC dX2_readsAtom_6 rfl ?_
    refine v_sipush (v := (274 : Int32)) hC dX2_readsAtom_7 rfl ?_
    obtain ⟨r51, M52, q53, h⟩ := bnd_some h
    refine w_callVi hC [.int (274 : Int32)] [] (ok_X9_eats q53) mv_X9_eats aw_812 ly_3 rfl (Nat.le_of_ble_eq_true rfl) ⟨by simp only [am_rm]; omega, by simp only [am_rm]; omega⟩ ⟨Nat.le_refl _, Nat.le_refl _⟩ dX2_readsAtom_10 ?_
    refine v_if_eq hC 38 dX2_readsAtom_13 rfl (fun c54 => ?_) (fun c54 => ?_)
    · rw [if_pos c54] at h
      exact ok_X2_readsAtom_b_38 hC hnt hA hD h1 h
    · rw [if_neg c54] at h
      refine v_aload_n hC dX2_readsAtom_16 rfl ?_
      refine v_aload_n hC dX2_readsAtom_17 rfl ?_
      refine v_iload_n hC dX2_readsAtom_18 rfl ?_
      refine v_iconst (v := (1 : Int32)) hC dX2_readsAtom_19 rfl ?_
      refine v_iadd hC dX2_readsAtom_20 ?_
      obtain ⟨r55, M56, q57, h⟩ := bnd_some h
      refine w_callSi hC [.ref 3, .ref a1, .int (v2 + (1 : Int32))] [] (hA _ _ _ _ q57) ms_X2_readsAtom aw_820 rfl (Nat.le_of_ble_eq_true rfl) ⟨by simp only [am_rm]; omega, by simp only [am_rm]; omega⟩ ⟨Nat.le_refl _, Nat.le_refl _⟩ dX2_readsAtom_21 ?_
      refine v_if_ne hC 29 dX2_readsAtom_24 rfl (fun c58 => ?_) (fun c58 => ?_)
      · rw [if_neg c58] at h
        refine v_aload_n hC dX2_readsAtom_29 rfl ?_
        refine v_sipush (v := (1274 : Int32)) hC dX2_readsAtom_30 rfl ?_
        obtain ⟨r59, M60, q61, h⟩ := bnd_some h
        refine w_callVv hC [.int (1274 : Int32)] [] (ok_X1_addsStep h1 q61) mv_X1_addsStep aw_823 h1.1 rfl (Nat.le_of_ble_eq_true rfl) ⟨by simp only [am_rm]; omega, by simp only [am_rm]; omega⟩ ⟨Nat.le_refl _, Nat.le_refl _⟩ dX2_readsAtom_33 ?_
        refine v_iconst (v := (1 : Int32)) hC dX2_readsAtom_36 rfl ?_
        cases h
        exact v_zret hC (by decide) (Nat.le_refl _) (Nat.le_refl _) dX2_readsAtom_37
      · rw [if_pos c58] at h
        refine v_iconst (v := (0 : Int32)) hC dX2_readsAtom_27 rfl ?_
        cases h
        exact v_zret hC (by decide) (Nat.le_refl _) (Nat.le_refl _) dX2_readsAtom_28
def f_X2_readsAtom (N : Nat) (a1 : Nat) : Nat → Int32 → Mm → Option (Int32 × Mm)
  | 0, _, _ => none
  | n + 1, v2, M => f_X2_readsAtom_b N a1 (f_X2_readsAtom N a1 n) v2 M
theorem ok_X2_readsAtom {l : Launch} {N : Nat} {a1 : Nat} (h1 : kLaw a1) : ∀ (n : Nat) (v2 : Int32) (M : Mm) (r : Int32) (M' : Mm), f_X2_readsAtom N a1 n v2 M = some (r, M') → am_M l yX2_readsAtom cX2_readsAtom 5 (some .boolean) (8 + 3 * n) 0 0 LY M [.ref 3, .ref a1, .int v2] (.inl (some (.int r))) M' := by
  intro n
  induction n with
  | zero => intro v2 M r M' h; cases h
  | succ n ih =>
    intro v2 M r M' h
    exact ok_X2_readsAtom_b h1 (D := 8 + 3 * n) (fun v2 M r M' h => ih v2 M r M' h) (by omega) h
