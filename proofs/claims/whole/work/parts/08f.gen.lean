def f_X10_needsBribeRows (N : Nat) (v1 : Int32) (M : Mm) : Option ((Int32 ⊕ String) × Mm) :=
  (if v1 = (0 : Int32) then some (.inr "java/lang/IllegalArgumentException", M) else some (.inl 0, M))
set_option maxRecDepth 20000 in
set_option maxHeartbeats 4000000 in
theorem ok_X10_needsBribeRows {l : Launch} {N : Nat} {v1 : Int32} (hl : l.stackTraces = false) {M : Mm} {r : (Int32 ⊕ String)} {M' : Mm} (h : f_X10_needsBribeRows N v1 M = some (r, M')) : am_M l yX10_needsBribeRows cX10_needsBribeRows 2 none 6 1 6 LY M [.ref 0, .int v1] (am_ov r) M' := by
  unfold f_X10_needsBribeRows at h
  refine am_intro (by decide) (by simp [Value.category]) (Nat.le_of_ble_eq_true rfl) (fun X hC hnt => ?_)
  refine am_start (L := [some (.ref 0), some (.int v1)]) rfl ?_
  refine v_iload_n hC dX10_needsBribeRows_0 rfl ?_
  refine v_if_ne hC 15 dX10_needsBribeRows_1 rfl (fun c1 => ?_) (fun c1 => ?_)
  · rw [if_neg c1] at h
    cases h
    exact v_vret hC (by decide) (by decide) dX10_needsBribeRows_15
  · rw [if_pos c1] at h
    cases h
    exact w_throwW hC hnt hl (cls := "java/lang/IllegalArgumentException") (text := "the tape is not of rows") (i9 := 11) ["java/lang/RuntimeException", "java/lang/Exception"] (by decide +kernel) (by decide +kernel) aw_709 aw_21 st_11 th1_IllegalArgumentException_127 th2_IllegalArgumentException_127 (by decide +kernel) (th3_IllegalArgumentException_127 _ rfl rfl) dX10_needsBribeRows_4 dX10_needsBribeRows_7 dX10_needsBribeRows_8 dX10_needsBribeRows_11 dX10_needsBribeRows_14 (by decide) (Nat.le_of_ble_eq_true rfl) (by decide) (by decide) (by decide) (by decide)
def f_X10_takesBribeRows_65 (N : Nat) : Nat → Int32 → Int32 → Mm → Option (Int32 × Mm)
  | 0, _, _, _ => none
  | n + 1, v1, v2, M => (if v1 ≤ (v2 + (2 : Int32)) then lt (wr M 0 16 v1) (fun M8 => some ((1 : Int32), M8)) else grd (inb v2 12) ((if (M 7 1) ≤ (M 61 (v2).toNatClampNeg) then some ((0 : Int32), M) else grd (inb (v2 + (1 : Int32)) 12) ((if (M 61 ((v2 + (1 : Int32))).toNatClampNeg) ≤ (24 : Int32) then f_X10_takesBribeRows_65 N n v1 (v2 + (3 : Int32)) M else some ((0 : Int32), M))))))
def f_X10_takesBribeRows_37 (N : Nat) : Nat → Int32 → Int32 → Mm → Option (Int32 × Mm)
  | 0, _, _, _ => none
  | n + 1, v1, v2, M => (if v1 ≤ v2 then f_X10_takesBribeRows_65 N N v1 (0 : Int32) M else grd (inb v2 400) (grd (inb v2 12) (lt (wr M 61 (v2).toNatClampNeg (M 2 (v2).toNatClampNeg)) (fun M16 => f_X10_takesBribeRows_37 N n v1 (v2 + (1 : Int32)) M16))))
def f_X10_takesBribeRows (N : Nat) (M : Mm) : Option (Int32 × Mm) :=
  lt (M 1 1) (fun x1 => lt (wr M 1 1 (0 : Int32)) (fun M2 => lt (wr M2 0 16 (0 : Int32)) (fun M3 => (if (12 : Int32) < x1 then some ((0 : Int32), M3) else (if (x1 - x1 / (3 : Int32) * (3 : Int32)) = (0 : Int32) then f_X10_takesBribeRows_37 N N x1 (0 : Int32) M3 else some ((0 : Int32), M3))))))
set_option maxRecDepth 20000 in
set_option maxHeartbeats 4000000 in
theorem ok_X10_takesBribeRows_65 {N : Nat} {X : am_X} {l : Launch} (hC : am_C X l (am_rm 1 0 0) cX10_takesBribeRows yX10_takesBribeRows.cls (some .boolean)) (hnt : am_NT X) : ∀ (n : Nat) (v1 v2 : Int32) (M : Mm) (r : Int32) (M' : Mm), f_X10_takesBribeRows_65 N n v1 v2 M = some (r, M') → am_V X LY M 0 0 (am_Q X LY 0 0 (.inl (some (.int r))) M') 65 [some (.ref 0), some (.int v1), some (.int v2)] [] := by
  intro n
  induction n with
  | zero => intro v1 v2 M r M' h; cases h
  | succ n ih =>
    intro v1 v2 M r M' h
    simp only [f_X10_takesBribeRows_65] at h
    refine v_iload_n hC dX10_takesBribeRows_65 rfl ?_
    refine v_iconst (v := (2 : Int32)) hC dX10_takesBribeRows_66 rfl ?_
    refine v_iadd hC dX10_takesBribeRows_67 ?_
    refine v_iload_n hC dX10_takesBribeRows_68 rfl ?_
    refine v_icmp_ge hC 109 dX10_takesBribeRows_69 rfl (fun c7 => ?_) (fun c7 => ?_)
    · rw [if_pos c7] at h
      refine v_aload_n hC dX10_takesBribeRows_109 rfl ?_
      refine v_iload_n hC dX10_takesBribeRows_110 rfl ?_
      obtain ⟨M8, e_M8, h⟩ := lt_some h
      refine w_puti (k := 16) hC cls_X10 ly_0 (by decide) rfl aw_331 rfl rfl ⟨rfl, rfl⟩ dX10_takesBribeRows_111 e_M8 ?_
      refine v_iconst (v := (1 : Int32)) hC dX10_takesBribeRows_114 rfl ?_
      cases h
      exact v_zret hC (by decide) (by decide) (by decide) dX10_takesBribeRows_115
    · rw [if_neg c7] at h
      refine v_aload_n hC dX10_takesBribeRows_72 rfl ?_
      refine v_geta (k := 15) (b := 61) hC cls_X10 ly_0 (by decide) rfl aw_330 rfl dX10_takesBribeRows_73 ?_
      refine v_iload_n hC dX10_takesBribeRows_76 rfl ?_
      obtain ⟨g9, h⟩ := grd_some h
      refine v_iald hC ly_61 (inb_in g9) dX10_takesBribeRows_77 ?_
      refine v_aload_n hC dX10_takesBribeRows_78 rfl ?_
      refine v_geta (k := 2) (b := 7) hC cls_X10 ly_0 (by decide) rfl aw_317 rfl dX10_takesBribeRows_79 ?_
      refine v_geti (k := 1) hC cls_X6 ly_7 (by decide) rfl aw_91 rfl dX10_takesBribeRows_82 ?_
      refine v_icmp_ge hC 101 dX10_takesBribeRows_85 rfl (fun c10 => ?_) (fun c10 => ?_)
      · rw [if_pos c10] at h
        refine v_iconst (v := (0 : Int32)) hC dX10_takesBribeRows_101 rfl ?_
        cases h
        exact v_zret hC (by decide) (by decide) (by decide) dX10_takesBribeRows_102
      · rw [if_neg c10] at h
        refine v_aload_n hC dX10_takesBribeRows_88 rfl ?_
        refine v_geta (k := 15) (b := 61) hC cls_X10 ly_0 (by decide) rfl aw_330 rfl dX10_takesBribeRows_89 ?_
        refine v_iload_n hC dX10_takesBribeRows_92 rfl ?_
        refine v_iconst (v := (1 : Int32)) hC dX10_takesBribeRows_93 rfl ?_
        refine v_iadd hC dX10_takesBribeRows_94 ?_
        obtain ⟨g11, h⟩ := grd_some h
        refine v_iald hC ly_61 (inb_in g11) dX10_takesBribeRows_95 ?_
        refine v_bipush (v := (24 : Int32)) hC dX10_takesBribeRows_96 rfl ?_
        refine v_icmp_le hC 103 dX10_takesBribeRows_98 rfl (fun c12 => ?_) (fun c12 => ?_)
        · rw [if_pos c12] at h
          refine w_iinc hC (v2 + (3 : Int32)) dX10_takesBribeRows_103 rfl rfl [some (.ref 0), some (.int v1), some (.int (v2 + (3 : Int32)))] rfl ?_
          refine v_goto (tg := 65) hC dX10_takesBribeRows_106 rfl ?_
          exact ih _ _ _ _ _ h
        · rw [if_neg c12] at h
          refine v_iconst (v := (0 : Int32)) hC dX10_takesBribeRows_101 rfl ?_
          cases h
          exact v_zret hC (by decide) (by decide) (by decide) dX10_takesBribeRows_102
set_option maxRecDepth 20000 in
set_option maxHeartbeats 4000000 in
theorem ok_X10_takesBribeRows_37 {N : Nat} {X : am_X} {l : Launch} (hC : am_C X l (am_rm 1 0 0) cX10_takesBribeRows yX10_takesBribeRows.cls (some .boolean)) (hnt : am_NT X) : ∀ (n : Nat) (v1 v2 : Int32) (M : Mm) (r : Int32) (M' : Mm), f_X10_takesBribeRows_37 N n v1 v2 M = some (r, M') → am_V X LY M 0 0 (am_Q X LY 0 0 (.inl (some (.int r))) M') 37 [some (.ref 0), some (.int v1), some (.int v2)] [] := by
  intro n
  induction n with
  | zero => intro v1 v2 M r M' h; cases h
  | succ n ih =>
    intro v1 v2 M r M' h
    simp only [f_X10_takesBribeRows_37] at h
    refine v_iload_n hC dX10_takesBribeRows_37 rfl ?_
    refine v_iload_n hC dX10_takesBribeRows_38 rfl ?_
    refine v_icmp_ge hC 63 dX10_takesBribeRows_39 rfl (fun c6 => ?_) (fun c6 => ?_)
    · rw [if_pos c6] at h
      refine v_iconst (v := (0 : Int32)) hC dX10_takesBribeRows_63 rfl ?_
      refine w_istore_n hC dX10_takesBribeRows_64 (ltk rfl) [some (.ref 0), some (.int v1), some (.int (0 : Int32))] rfl ?_
      exact ok_X10_takesBribeRows_65 hC hnt N _ _ _ _ _ h
    · rw [if_neg c6] at h
      refine v_aload_n hC dX10_takesBribeRows_42 rfl ?_
      refine v_geta (k := 15) (b := 61) hC cls_X10 ly_0 (by decide) rfl aw_330 rfl dX10_takesBribeRows_43 ?_
      refine v_iload_n hC dX10_takesBribeRows_46 rfl ?_
      refine v_aload_n hC dX10_takesBribeRows_47 rfl ?_
      refine v_geta (k := 0) (b := 1) hC cls_X10 ly_0 (by decide) rfl aw_315 rfl dX10_takesBribeRows_48 ?_
      refine v_geta (k := 0) (b := 2) hC cls_X8 ly_1 (by decide) rfl aw_43 rfl dX10_takesBribeRows_51 ?_
      refine v_iload_n hC dX10_takesBribeRows_54 rfl ?_
      obtain ⟨g14, h⟩ := grd_some h
      refine v_iald hC ly_2 (inb_in g14) dX10_takesBribeRows_55 ?_
      obtain ⟨g15, h⟩ := grd_some h
      obtain ⟨M16, e_M16, h⟩ := lt_some h
      refine w_iast hC ly_61 (inb_in g15) dX10_takesBribeRows_56 e_M16 ?_
      refine w_iinc hC (v2 + (1 : Int32)) dX10_takesBribeRows_57 rfl rfl [some (.ref 0), some (.int v1), some (.int (v2 + (1 : Int32)))] rfl ?_
      refine v_goto (tg := 37) hC dX10_takesBribeRows_60 rfl ?_
      exact ih _ _ _ _ _ h
set_option maxRecDepth 20000 in
set_option maxHeartbeats 4000000 in
theorem ok_X10_takesBribeRows {l : Launch} {N : Nat} {M : Mm} {r : Int32} {M' : Mm} (h : f_X10_takesBribeRows N M = some (r, M')) : am_M l yX10_takesBribeRows cX10_takesBribeRows 3 (some .boolean) 1 0 0 LY M [.ref 0] (.inl (some (.int r))) M' := by
  unfold f_X10_takesBribeRows at h
  refine am_intro (by decide) (by simp [Value.category]) (Nat.le_of_ble_eq_true rfl) (fun X hC hnt => ?_)
  refine am_start (L := [some (.ref 0), none, none]) rfl ?_
  refine v_aload_n hC dX10_takesBribeRows_0 rfl ?_
  refine v_geta (k := 0) (b := 1) hC cls_X10 ly_0 (by decide) rfl aw_315 rfl dX10_takesBribeRows_1 ?_
  refine v_geti (k := 1) hC cls_X8 ly_1 (by decide) rfl aw_45 rfl dX10_takesBribeRows_4 ?_
  obtain ⟨x1, e_x1, h⟩ := lt_some h
  refine v_nam e_x1 ?_
  refine w_istore_n hC dX10_takesBribeRows_7 (ltk rfl) [some (.ref 0), some (.int x1), none] rfl ?_
  refine v_aload_n hC dX10_takesBribeRows_8 rfl ?_
  refine v_geta (k := 0) (b := 1) hC cls_X10 ly_0 (by decide) rfl aw_315 rfl dX10_takesBribeRows_9 ?_
  refine v_iconst (v := (0 : Int32)) hC dX10_takesBribeRows_12 rfl ?_
  obtain ⟨M2, e_M2, h⟩ := lt_some h
  refine w_puti (k := 1) hC cls_X8 ly_1 (by decide) rfl aw_45 rfl rfl ⟨rfl, rfl⟩ dX10_takesBribeRows_13 e_M2 ?_
  refine v_aload_n hC dX10_takesBribeRows_16 rfl ?_
  refine v_iconst (v := (0 : Int32)) hC dX10_takesBribeRows_17 rfl ?_
  obtain ⟨M3, e_M3, h⟩ := lt_some h
  refine w_puti (k := 16) hC cls_X10 ly_0 (by decide) rfl aw_331 rfl rfl ⟨rfl, rfl⟩ dX10_takesBribeRows_18 e_M3 ?_
  refine v_iload_n hC dX10_takesBribeRows_21 rfl ?_
  refine v_bipush (v := (12 : Int32)) hC dX10_takesBribeRows_22 rfl ?_
  refine v_icmp_gt hC 33 dX10_takesBribeRows_24 rfl (fun c4 => ?_) (fun c4 => ?_)
  · rw [if_pos c4] at h
    refine v_iconst (v := (0 : Int32)) hC dX10_takesBribeRows_33 rfl ?_
    cases h
    exact v_zret hC (by decide) (by decide) (by decide) dX10_takesBribeRows_34
  · rw [if_neg c4] at h
    refine v_iload_n hC dX10_takesBribeRows_27 rfl ?_
    refine v_iconst (v := (3 : Int32)) hC dX10_takesBribeRows_28 rfl ?_
    refine v_irem hC dX10_takesBribeRows_29 (by decide) ?_
    refine v_if_eq hC 35 dX10_takesBribeRows_30 rfl (fun c5 => ?_) (fun c5 => ?_)
    · rw [if_pos c5] at h
      refine v_iconst (v := (0 : Int32)) hC dX10_takesBribeRows_35 rfl ?_
      refine w_istore_n hC dX10_takesBribeRows_36 (ltk rfl) [some (.ref 0), some (.int x1), some (.int (0 : Int32))] rfl ?_
      exact ok_X10_takesBribeRows_37 hC hnt N _ _ _ _ _ h
    · rw [if_neg c5] at h
      refine v_iconst (v := (0 : Int32)) hC dX10_takesBribeRows_33 rfl ?_
      cases h
      exact v_zret hC (by decide) (by decide) (by decide) dX10_takesBribeRows_34
def f_X10_bribes_25 (N : Nat) : Nat → Int32 → Int32 → Int32 → Int32 → Mm → Option ((Int32 ⊕ String) × Mm)
  | 0, _, _, _, _, _ => none
  | n + 1, v1, v2, v3, v4, M => (if ((1 : Int32) <<< ((M 7 0) &&& 31)) ≤ v4 then (if v1 = (0 : Int32) then some (.inl v2, M) else (if v2 = (0 : Int32) then some (.inl (0 : Int32), M) else some (.inl v3, M))) else bnd (f_J6_bitCount_0f7a4 N v4 M) (fun r11 M12 => (if (2 : Int32) < r11 then f_X10_bribes_25 N n v1 v2 v3 (v4 + (1 : Int32)) M12 else bnd (f_X10_fits N v4 (0 : Int32) (0 : Int32) M12) (fun r16 M17 => (if r16 = (0 : Int32) then f_X10_bribes_25 N n v1 v2 v3 (v4 + (1 : Int32)) M17 else lt (v3 &&& v4) (fun x22 => f_X10_bribes_25 N n v1 (v2 + (1 : Int32)) x22 (v4 + (1 : Int32)) M17))))))
def f_X10_bribes (N : Nat) (v1 : Int32) (M : Mm) : Option ((Int32 ⊕ String) × Mm) :=
  bnd (f_X10_takesBribeRows N M) (fun r1 M2 => bnx (f_X10_needsBribeRows N r1 M2) (fun r4 M5 => lt (((1 : Int32) <<< ((M5 7 0) &&& 31)) - (1 : Int32)) (fun x7 => f_X10_bribes_25 N N v1 (0 : Int32) x7 (0 : Int32) M5)) (fun r4 M5 => some (.inr r4, M5)))
set_option maxRecDepth 20000 in
set_option maxHeartbeats 4000000 in
theorem ok_X10_bribes_25 {N : Nat} {X : am_X} {l : Launch} (hl : l.stackTraces = false) (hC : am_C X l (am_rm 8 1 6) cX10_bribes yX10_bribes.cls (some .int)) (hnt : am_NT X) : ∀ (n : Nat) (v1 v2 v3 v4 : Int32) (M : Mm) (r : (Int32 ⊕ String)) (M' : Mm), f_X10_bribes_25 N n v1 v2 v3 v4 M = some (r, M') → am_V X LY M 1 6 (am_Q X LY 1 6 (am_oi r) M') 25 [some (.ref 0), some (.int v1), some (.int v2), some (.int v3), some (.int v4)] [] := by
  intro n
  induction n with
  | zero => intro v1 v2 v3 v4 M r M' h; cases h
  | succ n ih =>
    intro v1 v2 v3 v4 M r M' h
    simp only [f_X10_bribes_25] at h
    refine v_iload hC dX10_bribes_25 rfl ?_
    refine v_iconst (v := (1 : Int32)) hC dX10_bribes_27 rfl ?_
    refine v_aload_n hC dX10_bribes_28 rfl ?_
    refine v_geta (k := 2) (b := 7) hC cls_X10 ly_0 (by decide) rfl aw_317 rfl dX10_bribes_29 ?_
    refine v_geti (k := 0) hC cls_X6 ly_7 (by decide) rfl aw_87 rfl dX10_bribes_32 ?_
    refine v_ishl hC dX10_bribes_35 ?_
    refine v_icmp_ge hC 73 dX10_bribes_36 rfl (fun c8 => ?_) (fun c8 => ?_)
    · rw [if_pos c8] at h
      refine v_iload_n hC dX10_bribes_73 rfl ?_
      refine v_if_ne hC 79 dX10_bribes_74 rfl (fun c9 => ?_) (fun c9 => ?_)
      · rw [if_neg c9] at h
        refine v_iload_n hC dX10_bribes_79 rfl ?_
        refine v_if_ne hC 87 dX10_bribes_80 rfl (fun c10 => ?_) (fun c10 => ?_)
        · rw [if_neg c10] at h
          refine v_iload_n hC dX10_bribes_87 rfl ?_
          cases h
          exact v_iret hC (by decide) (by decide) dX10_bribes_88
        · rw [if_pos c10] at h
          refine v_iconst (v := (0 : Int32)) hC dX10_bribes_83 rfl ?_
          refine v_goto (tg := 88) hC dX10_bribes_84 rfl ?_
          cases h
          exact v_iret hC (by decide) (by decide) dX10_bribes_88
      · rw [if_pos c9] at h
        refine v_iload_n hC dX10_bribes_77 rfl ?_
        cases h
        exact v_iret hC (by decide) (by decide) dX10_bribes_78
    · rw [if_neg c8] at h
      refine v_iload hC dX10_bribes_39 rfl ?_
      obtain ⟨r11, M12, q13, h⟩ := bnd_some h
      refine w_callSi hC [.int v4] [] (ok_J6_bitCount_0f7a4 q13) ms_J6_bitCount_0f7a4 aw_526 rfl (Nat.le_of_ble_eq_true rfl) ⟨by decide, by decide⟩ ⟨by decide, by decide⟩ dX10_bribes_41 ?_
      refine v_iconst (v := (2 : Int32)) hC dX10_bribes_44 rfl ?_
      refine v_icmp_gt hC 67 dX10_bribes_45 rfl (fun c14 => ?_) (fun c14 => ?_)
      · rw [if_pos c14] at h
        refine w_iinc hC (v4 + (1 : Int32)) dX10_bribes_67 rfl rfl [some (.ref 0), some (.int v1), some (.int v2), some (.int v3), some (.int (v4 + (1 : Int32)))] rfl ?_
        refine v_goto (tg := 25) hC dX10_bribes_70 rfl ?_
        exact ih _ _ _ _ _ _ _ h
      · rw [if_neg c14] at h
        refine v_aload_n hC dX10_bribes_48 rfl ?_
        refine v_iload hC dX10_bribes_49 rfl ?_
        refine v_iconst (v := (0 : Int32)) hC dX10_bribes_51 rfl ?_
        refine v_iconst (v := (0 : Int32)) hC dX10_bribes_52 rfl ?_
        obtain ⟨r16, M17, q18, h⟩ := bnd_some h
        refine w_callVi hC [.int v4, .int (0 : Int32), .int (0 : Int32)] [] (ok_X10_fits q18) mv_X10_fits aw_1086 ly_0 rfl (Nat.le_of_ble_eq_true rfl) ⟨by decide, by decide⟩ ⟨by decide, by decide⟩ dX10_bribes_53 ?_
        refine v_if_eq hC 67 dX10_bribes_56 rfl (fun c19 => ?_) (fun c19 => ?_)
        · rw [if_pos c19] at h
          refine w_iinc hC (v4 + (1 : Int32)) dX10_bribes_67 rfl rfl [some (.ref 0), some (.int v1), some (.int v2), some (.int v3), some (.int (v4 + (1 : Int32)))] rfl ?_
          refine v_goto (tg := 25) hC dX10_bribes_70 rfl ?_
          exact ih _ _ _ _ _ _ _ h
        · rw [if_neg c19] at h
          refine w_iinc hC (v2 + (1 : Int32)) dX10_bribes_59 rfl rfl [some (.ref 0), some (.int v1), some (.int (v2 + (1 : Int32))), some (.int v3), some (.int v4)] rfl ?_
          refine v_iload_n hC dX10_bribes_62 rfl ?_
          refine v_iload hC dX10_bribes_63 rfl ?_
          refine v_iand hC dX10_bribes_65 ?_
          obtain ⟨x22, e_x22, h⟩ := lt_some h
          refine v_nam e_x22 ?_
          refine w_istore_n hC dX10_bribes_66 (ltk rfl) [some (.ref 0), some (.int v1), some (.int (v2 + (1 : Int32))), some (.int x22), some (.int v4)] rfl ?_
          refine w_iinc hC (v4 + (1 : Int32)) dX10_bribes_67 rfl rfl [some (.ref 0), some (.int v1), some (.int (v2 + (1 : Int32))), some (.int x22), some (.int (v4 + (1 : Int32)))] rfl ?_
          refine v_goto (tg := 25) hC dX10_bribes_70 rfl ?_
          exact ih _ _ _ _ _ _ _ h
set_option maxRecDepth 20000 in
set_option maxHeartbeats 4000000 in
theorem ok_X10_bribes {l : Launch} {N : Nat} {v1 : Int32} (hl : l.stackTraces = false) {M : Mm} {r : (Int32 ⊕ String)} {M' : Mm} (h : f_X10_bribes N v1 M = some (r, M')) : am_M l yX10_bribes cX10_bribes 5 (some .int) 8 1 6 LY M [.ref 0, .int v1] (am_oi r) M' := by
  unfold f_X10_bribes at h
  refine am_intro (by decide) (by simp [Value.category]) (Nat.le_of_ble_eq_true rfl) (fun X hC hnt => ?_)
  refine am_start (L := [some (.ref 0), some (.int v1), none, none, none]) rfl ?_
  refine v_aload_n hC dX10_bribes_0 rfl ?_
  refine v_aload_n hC dX10_bribes_1 rfl ?_
  obtain ⟨r1, M2, q3, h⟩ := bnd_some h
  refine w_callVi hC [] [.ref 0] (ok_X10_takesBribeRows q3) mv_X10_takesBribeRows aw_1077 ly_0 rfl (Nat.le_of_ble_eq_true rfl) ⟨by decide, by decide⟩ ⟨by decide, by decide⟩ dX10_bribes_2 ?_
  rcases bnx_some h with ⟨r4, M5, q6, h⟩ | ⟨r4, M5, q6, h⟩
  · refine w_callVv hC [.int r1] [] (ok_X10_needsBribeRows hl q6) mv_X10_needsBribeRows aw_1081 ly_0 rfl (Nat.le_of_ble_eq_true rfl) ⟨by decide, by decide⟩ ⟨by decide, by decide⟩ dX10_bribes_5 ?_
    refine v_iconst (v := (0 : Int32)) hC dX10_bribes_8 rfl ?_
    refine w_istore_n hC dX10_bribes_9 (ltk rfl) [some (.ref 0), some (.int v1), some (.int (0 : Int32)), none, none] rfl ?_
    refine v_iconst (v := (1 : Int32)) hC dX10_bribes_10 rfl ?_
    refine v_aload_n hC dX10_bribes_11 rfl ?_
    refine v_geta (k := 2) (b := 7) hC cls_X10 ly_0 (by decide) rfl aw_317 rfl dX10_bribes_12 ?_
    refine v_geti (k := 0) hC cls_X6 ly_7 (by decide) rfl aw_87 rfl dX10_bribes_15 ?_
    refine v_ishl hC dX10_bribes_18 ?_
    refine v_iconst (v := (1 : Int32)) hC dX10_bribes_19 rfl ?_
    refine v_isub hC dX10_bribes_20 ?_
    obtain ⟨x7, e_x7, h⟩ := lt_some h
    refine v_nam e_x7 ?_
    refine w_istore_n hC dX10_bribes_21 (ltk rfl) [some (.ref 0), some (.int v1), some (.int (0 : Int32)), some (.int x7), none] rfl ?_
    refine v_iconst (v := (0 : Int32)) hC dX10_bribes_22 rfl ?_
    refine w_istore hC dX10_bribes_23 (ltk rfl) [some (.ref 0), some (.int v1), some (.int (0 : Int32)), some (.int x7), some (.int (0 : Int32))] rfl ?_
    exact ok_X10_bribes_25 hl hC hnt N _ _ _ _ _ _ _ h
  · cases h
    exact w_callVx hC hnt [.int r1] [] (ok_X10_needsBribeRows hl q6) mv_X10_needsBribeRows aw_1081 ly_0 rfl (Nat.le_of_ble_eq_true rfl) ⟨by decide, by decide⟩ ⟨by decide, by decide⟩ dX10_bribes_5 (by decide) (by decide)
def f_X10_greatestPart_13 (N : Nat) : Nat → Int32 → Int32 → Int32 → Int32 → Mm → Option (Int32 × Mm)
  | 0, _, _, _, _, _ => none
  | n + 1, v1, v2, v3, v4, M => (if v2 ≤ v4 then some (v3, M) else (if (37 : Int32) ≤ v4 then some (v3, M) else grd (inb ((v4 * (5 : Int32)) + v1) 185) (lt (M 62 (((v4 * (5 : Int32)) + v1)).toNatClampNeg) (fun x7 => (if x7 < (0 : Int32) then f_X10_greatestPart_13 N n v1 v2 v3 (v4 + (1 : Int32)) M else (if (200 : Int32) < x7 then f_X10_greatestPart_13 N n v1 v2 v3 (v4 + (1 : Int32)) M else grd (inb x7 201) (grd (inb x7 201) (lt (wr M 63 (x7).toNatClampNeg ((M 63 (x7).toNatClampNeg) + (1 : Int32))) (fun M14 => grd (inb x7 201) (lt (if v3 < (M14 63 (x7).toNatClampNeg) then (M14 63 (x7).toNatClampNeg) else v3) (fun x16 => f_X10_greatestPart_13 N n v1 v2 x16 (v4 + (1 : Int32)) M14)))))))))))
def f_X10_greatestPart (N : Nat) (v1 : Int32) (v2 : Int32) (M : Mm) : Option (Int32 × Mm) :=
  bnd (f_J7_fill_53178 N 63 201 (0 : Int32) M) (fun r1 M2 => f_X10_greatestPart_13 N N v1 v2 (0 : Int32) (0 : Int32) M2)
set_option maxRecDepth 20000 in
set_option maxHeartbeats 4000000 in
theorem ok_X10_greatestPart_13 {N : Nat} {X : am_X} {l : Launch} (hC : am_C X l (am_rm 2 0 0) cX10_greatestPart yX10_greatestPart.cls (some .int)) (hnt : am_NT X) : ∀ (n : Nat) (v1 v2 v3 v4 : Int32) (M : Mm) (r : Int32) (M' : Mm), f_X10_greatestPart_13 N n v1 v2 v3 v4 M = some (r, M') → am_V X LY M 0 0 (am_Q X LY 0 0 (.inl (some (.int r))) M') 13 [some (.ref 0), some (.int v1), some (.int v2), some (.int v3), some (.int v4), none] [] := by
  intro n
  induction n with
  | zero => intro v1 v2 v3 v4 M r M' h; cases h
  | succ n ih =>
    intro v1 v2 v3 v4 M r M' h
    simp only [f_X10_greatestPart_13] at h
    refine v_iload hC dX10_greatestPart_13 rfl ?_
    refine v_iload_n hC dX10_greatestPart_15 rfl ?_
    refine v_icmp_ge hC 81 dX10_greatestPart_16 rfl (fun c4 => ?_) (fun c4 => ?_)
    · rw [if_pos c4] at h
      refine v_iload_n hC dX10_greatestPart_81 rfl ?_
      cases h
      exact v_iret hC (by decide) (by decide) dX10_greatestPart_82
    · rw [if_neg c4] at h
      refine v_iload hC dX10_greatestPart_19 rfl ?_
      refine v_bipush (v := (37 : Int32)) hC dX10_greatestPart_21 rfl ?_
      refine v_icmp_ge hC 81 dX10_greatestPart_23 rfl (fun c5 => ?_) (fun c5 => ?_)
      · rw [if_pos c5] at h
        refine v_iload_n hC dX10_greatestPart_81 rfl ?_
        cases h
        exact v_iret hC (by decide) (by decide) dX10_greatestPart_82
      · rw [if_neg c5] at h
        refine v_aload_n hC dX10_greatestPart_26 rfl ?_
        refine v_geta (k := 17) (b := 62) hC cls_X10 ly_0 (by decide) rfl aw_332 rfl dX10_greatestPart_27 ?_
        refine v_iload hC dX10_greatestPart_30 rfl ?_
        refine v_iconst (v := (5 : Int32)) hC dX10_greatestPart_32 rfl ?_
        refine v_imul hC dX10_greatestPart_33 ?_
        refine v_iload_n hC dX10_greatestPart_34 rfl ?_
        refine v_iadd hC dX10_greatestPart_35 ?_
        obtain ⟨g6, h⟩ := grd_some h
        refine v_iald hC ly_62 (inb_in g6) dX10_greatestPart_36 ?_
        obtain ⟨x7, e_x7, h⟩ := lt_some h
        refine v_nam e_x7 ?_
        refine w_istore hC dX10_greatestPart_37 (ltk rfl) [some (.ref 0), some (.int v1), some (.int v2), some (.int v3), some (.int v4), some (.int x7)] rfl ?_
        refine v_iload hC dX10_greatestPart_39 rfl ?_
        refine v_if_lt hC 75 dX10_greatestPart_41 rfl (fun c8 => ?_) (fun c8 => ?_)
        · rw [if_pos c8] at h
          refine w_iinc hC (v4 + (1 : Int32)) dX10_greatestPart_75 rfl rfl [some (.ref 0), some (.int v1), some (.int v2), some (.int v3), some (.int (v4 + (1 : Int32))), some (.int x7)] rfl ?_
          refine v_goto (tg := 13) hC dX10_greatestPart_78 rfl ?_
          refine v_drop [true, true, true, true, true, false] [some (.ref 0), some (.int v1), some (.int v2), some (.int v3), some (.int (v4 + (1 : Int32))), none] rfl ?_
          exact ih _ _ _ _ _ _ _ h
        · rw [if_neg c8] at h
          refine v_iload hC dX10_greatestPart_44 rfl ?_
          refine v_sipush (v := (200 : Int32)) hC dX10_greatestPart_46 rfl ?_
          refine v_icmp_gt hC 75 dX10_greatestPart_49 rfl (fun c10 => ?_) (fun c10 => ?_)
          · rw [if_pos c10] at h
            refine w_iinc hC (v4 + (1 : Int32)) dX10_greatestPart_75 rfl rfl [some (.ref 0), some (.int v1), some (.int v2), some (.int v3), some (.int (v4 + (1 : Int32))), some (.int x7)] rfl ?_
            refine v_goto (tg := 13) hC dX10_greatestPart_78 rfl ?_
            refine v_drop [true, true, true, true, true, false] [some (.ref 0), some (.int v1), some (.int v2), some (.int v3), some (.int (v4 + (1 : Int32))), none] rfl ?_
            exact ih _ _ _ _ _ _ _ h
          · rw [if_neg c10] at h
            refine v_aload_n hC dX10_greatestPart_52 rfl ?_
            refine v_geta (k := 18) (b := 63) hC cls_X10 ly_0 (by decide) rfl aw_333 rfl dX10_greatestPart_53 ?_
            refine v_iload hC dX10_greatestPart_56 rfl ?_
            refine v_dup2 hC dX10_greatestPart_58 rfl rfl ?_
            obtain ⟨g12, h⟩ := grd_some h
            refine v_iald hC ly_63 (inb_in g12) dX10_greatestPart_59 ?_
            refine v_iconst (v := (1 : Int32)) hC dX10_greatestPart_60 rfl ?_
            refine v_iadd hC dX10_greatestPart_61 ?_
            obtain ⟨g13, h⟩ := grd_some h
            obtain ⟨M14, e_M14, h⟩ := lt_some h
            refine w_iast hC ly_63 (inb_in g13) dX10_greatestPart_62 e_M14 ?_
            refine v_iload_n hC dX10_greatestPart_63 rfl ?_
            refine v_aload_n hC dX10_greatestPart_64 rfl ?_
            refine v_geta (k := 18) (b := 63) hC cls_X10 ly_0 (by decide) rfl aw_333 rfl dX10_greatestPart_65 ?_
            refine v_iload hC dX10_greatestPart_68 rfl ?_
            obtain ⟨g15, h⟩ := grd_some h
            refine v_iald hC ly_63 (inb_in g15) dX10_greatestPart_70 ?_
            refine v_mmax hC aw_1094 wm_max (Nat.le_of_ble_eq_true rfl) (Nat.le_of_ble_eq_true rfl) (Nat.le_of_ble_eq_true rfl) (Nat.le_of_ble_eq_true rfl) dX10_greatestPart_71 ?_
            obtain ⟨x16, e_x16, h⟩ := lt_some h
            refine v_nam e_x16 ?_
            refine w_istore_n hC dX10_greatestPart_74 (ltk rfl) [some (.ref 0), some (.int v1), some (.int v2), some (.int x16), some (.int v4), some (.int x7)] rfl ?_
            refine w_iinc hC (v4 + (1 : Int32)) dX10_greatestPart_75 rfl rfl [some (.ref 0), some (.int v1), some (.int v2), some (.int x16), some (.int (v4 + (1 : Int32))), some (.int x7)] rfl ?_
            refine v_goto (tg := 13) hC dX10_greatestPart_78 rfl ?_
            refine v_drop [true, true, true, true, true, false] [some (.ref 0), some (.int v1), some (.int v2), some (.int x16), some (.int (v4 + (1 : Int32))), none] rfl ?_
            exact ih _ _ _ _ _ _ _ h
set_option maxRecDepth 20000 in
set_option maxHeartbeats 4000000 in
theorem ok_X10_greatestPart {l : Launch} {N : Nat} {v1 v2 : Int32} {M : Mm} {r : Int32} {M' : Mm} (h : f_X10_greatestPart N v1 v2 M = some (r, M')) : am_M l yX10_greatestPart cX10_greatestPart 6 (some .int) 2 0 0 LY M [.ref 0, .int v1, .int v2] (.inl (some (.int r))) M' := by
  unfold f_X10_greatestPart at h
  refine am_intro (by decide) (by simp [Value.category]) (Nat.le_of_ble_eq_true rfl) (fun X hC hnt => ?_)
  refine am_start (L := [some (.ref 0), some (.int v1), some (.int v2), none, none, none]) rfl ?_
  refine v_aload_n hC dX10_greatestPart_0 rfl ?_
  refine v_geta (k := 18) (b := 63) hC cls_X10 ly_0 (by decide) rfl aw_333 rfl dX10_greatestPart_1 ?_
  refine v_iconst (v := (0 : Int32)) hC dX10_greatestPart_4 rfl ?_
  obtain ⟨r1, M2, q3, h⟩ := bnd_some h
  refine w_callSv hC [.ref 63, .int (0 : Int32)] [] (ok_J7_fill_53178 ly_63 q3) ms_J7_fill_53178 aw_1114 rfl (Nat.le_of_ble_eq_true rfl) ⟨by decide, by decide⟩ ⟨by decide, by decide⟩ dX10_greatestPart_5 ?_
  refine v_iconst (v := (0 : Int32)) hC dX10_greatestPart_8 rfl ?_
  refine w_istore_n hC dX10_greatestPart_9 (ltk rfl) [some (.ref 0), some (.int v1), some (.int v2), some (.int (0 : Int32)), none, none] rfl ?_
  refine v_iconst (v := (0 : Int32)) hC dX10_greatestPart_10 rfl ?_
  refine w_istore hC dX10_greatestPart_11 (ltk rfl) [some (.ref 0), some (.int v1), some (.int v2), some (.int (0 : Int32)), some (.int (0 : Int32)), none] rfl ?_
  exact ok_X10_greatestPart_13 hC hnt N _ _ _ _ _ _ _ h
def f_X10_ask_77 (N : Nat) : Nat → Int32 → Int32 → Int32 → Int32 → Mm → Option ((Int32 ⊕ String) × Mm)
  | 0, _, _, _, _, _ => none
  | n + 1, v2, v3, v4, v5, M => (if (M 7 1) ≤ v5 then some (.inl v3, M) else bnd (f_X10_greatestPart N v5 v2 M) (fun r14 M15 => (if v4 ≤ r14 then f_X10_ask_77 N n v2 v3 v4 (v5 + (1 : Int32)) M15 else f_X10_ask_77 N n v2 v5 r14 (v5 + (1 : Int32)) M15)))
def f_X10_ask_20 (N : Nat) : Nat → Int32 → Int32 → Int32 → Mm → Option ((Int32 ⊕ String) × Mm)
  | 0, _, _, _, _ => none
  | n + 1, v1, v2, v3, M => (if ((1 : Int32) <<< ((M 7 0) &&& 31)) ≤ v3 then (if (2 : Int32) ≤ v2 then lt (v2 + (1 : Int32)) (fun x12 => f_X10_ask_77 N N v2 (-1 : Int32) x12 (0 : Int32) M) else some (.inl (-1 : Int32), M)) else bnd (f_J6_bitCount_0f7a4 N v3 M) (fun r20 M21 => (if (2 : Int32) < r20 then f_X10_ask_20 N n v1 v2 (v3 + (1 : Int32)) M21 else bnd (f_X10_fits N v3 v1 v2 M21) (fun r25 M26 => (if r25 = (0 : Int32) then f_X10_ask_20 N n v1 v2 (v3 + (1 : Int32)) M26 else f_X10_ask_20 N n v1 (v2 + (1 : Int32)) (v3 + (1 : Int32)) M26)))))
def f_X10_ask (N : Nat) (v1 : Int32) (M : Mm) : Option ((Int32 ⊕ String) × Mm) :=
  bnd (f_X10_takesBribeRows N M) (fun r1 M2 => bnx (f_X10_needsBribeRows N r1 M2) (fun r4 M5 => bnx (f_X10_needsWithin N v1 (1 : Int32) (24 : Int32) M5) (fun r7 M8 => f_X10_ask_20 N N v1 (0 : Int32) (0 : Int32) M8) (fun r7 M8 => some (.inr r7, M8))) (fun r4 M5 => some (.inr r4, M5)))
set_option maxRecDepth 20000 in
set_option maxHeartbeats 4000000 in
theorem ok_X10_ask_77 {N : Nat} {X : am_X} {l : Launch} (hl : l.stackTraces = false) (hC : am_C X l (am_rm 8 2 12) cX10_ask yX10_ask.cls (some .int)) (hnt : am_NT X) : ∀ (n : Nat) (v2 v3 v4 v5 : Int32) (M : Mm) (r : (Int32 ⊕ String)) (M' : Mm), f_X10_ask_77 N n v2 v3 v4 v5 M = some (r, M') → am_V X LY M 2 12 (am_Q X LY 2 12 (am_oi r) M') 77 [some (.ref 0), none, some (.int v2), some (.int v3), some (.int v4), some (.int v5), none] [] := by
  intro n
  induction n with
  | zero => intro v2 v3 v4 v5 M r M' h; cases h
  | succ n ih =>
    intro v2 v3 v4 v5 M r M' h
    simp only [f_X10_ask_77] at h
    refine v_iload hC dX10_ask_77 rfl ?_
    refine v_aload_n hC dX10_ask_79 rfl ?_
    refine v_geta (k := 2) (b := 7) hC cls_X10 ly_0 (by decide) rfl aw_317 rfl dX10_ask_80 ?_
    refine v_geti (k := 1) hC cls_X6 ly_7 (by decide) rfl aw_91 rfl dX10_ask_83 ?_
    refine v_icmp_ge hC 118 dX10_ask_86 rfl (fun c13 => ?_) (fun c13 => ?_)
    · rw [if_pos c13] at h
      refine v_iload_n hC dX10_ask_118 rfl ?_
      cases h
      exact v_iret hC (by decide) (by decide) dX10_ask_119
    · rw [if_neg c13] at h
      refine v_aload_n hC dX10_ask_89 rfl ?_
      refine v_iload hC dX10_ask_90 rfl ?_
      refine v_iload_n hC dX10_ask_92 rfl ?_
      obtain ⟨r14, M15, q16, h⟩ := bnd_some h
      refine w_callVi hC [.int v5, .int v2] [] (ok_X10_greatestPart q16) mv_X10_greatestPart aw_1110 ly_0 rfl (Nat.le_of_ble_eq_true rfl) ⟨by decide, by decide⟩ ⟨by decide, by decide⟩ dX10_ask_93 ?_
      refine w_istore hC dX10_ask_96 (ltk rfl) [some (.ref 0), none, some (.int v2), some (.int v3), some (.int v4), some (.int v5), some (.int r14)] rfl ?_
      refine v_iload hC dX10_ask_98 rfl ?_
      refine v_iload hC dX10_ask_100 rfl ?_
      refine v_icmp_ge hC 112 dX10_ask_102 rfl (fun c17 => ?_) (fun c17 => ?_)
      · rw [if_pos c17] at h
        refine w_iinc hC (v5 + (1 : Int32)) dX10_ask_112 rfl rfl [some (.ref 0), none, some (.int v2), some (.int v3), some (.int v4), some (.int (v5 + (1 : Int32))), some (.int r14)] rfl ?_
        refine v_goto (tg := 77) hC dX10_ask_115 rfl ?_
        refine v_drop [true, false, true, true, true, true, false] [some (.ref 0), none, some (.int v2), some (.int v3), some (.int v4), some (.int (v5 + (1 : Int32))), none] rfl ?_
        exact ih _ _ _ _ _ _ _ h
      · rw [if_neg c17] at h
        refine v_iload hC dX10_ask_105 rfl ?_
        refine w_istore hC dX10_ask_107 (ltk rfl) [some (.ref 0), none, some (.int v2), some (.int v3), some (.int r14), some (.int v5), some (.int r14)] rfl ?_
        refine v_iload hC dX10_ask_109 rfl ?_
        refine w_istore_n hC dX10_ask_111 (ltk rfl) [some (.ref 0), none, some (.int v2), some (.int v5), some (.int r14), some (.int v5), some (.int r14)] rfl ?_
        refine w_iinc hC (v5 + (1 : Int32)) dX10_ask_112 rfl rfl [some (.ref 0), none, some (.int v2), some (.int v5), some (.int r14), some (.int (v5 + (1 : Int32))), some (.int r14)] rfl ?_
        refine v_goto (tg := 77) hC dX10_ask_115 rfl ?_
        refine v_drop [true, false, true, true, true, true, false] [some (.ref 0), none, some (.int v2), some (.int v5), some (.int r14), some (.int (v5 + (1 : Int32))), none] rfl ?_
        exact ih _ _ _ _ _ _ _ h
set_option maxRecDepth 20000 in
set_option maxHeartbeats 4000000 in
theorem ok_X10_ask_20 {N : Nat} {X : am_X} {l : Launch} (hl : l.stackTraces = false) (hC : am_C X l (am_rm 8 2 12) cX10_ask yX10_ask.cls (some .int)) (hnt : am_NT X) : ∀ (n : Nat) (v1 v2 v3 : Int32) (M : Mm) (r : (Int32 ⊕ String)) (M' : Mm), f_X10_ask_20 N n v1 v2 v3 M = some (r, M') → am_V X LY M 2 12 (am_Q X LY 2 12 (am_oi r) M') 20 [some (.ref 0), some (.int v1), some (.int v2), some (.int v3), none, none, none] [] := by
  intro n
  induction n with
  | zero => intro v1 v2 v3 M r M' h; cases h
  | succ n ih =>
    intro v1 v2 v3 M r M' h
    simp only [f_X10_ask_20] at h
    refine v_iload_n hC dX10_ask_20 rfl ?_
    refine v_iconst (v := (1 : Int32)) hC dX10_ask_21 rfl ?_
    refine v_aload_n hC dX10_ask_22 rfl ?_
    refine v_geta (k := 2) (b := 7) hC cls_X10 ly_0 (by decide) rfl aw_317 rfl dX10_ask_23 ?_
    refine v_geti (k := 0) hC cls_X6 ly_7 (by decide) rfl aw_87 rfl dX10_ask_26 ?_
    refine v_ishl hC dX10_ask_29 ?_
    refine v_icmp_ge hC 60 dX10_ask_30 rfl (fun c10 => ?_) (fun c10 => ?_)
    · rw [if_pos c10] at h
      refine v_iload_n hC dX10_ask_60 rfl ?_
      refine v_iconst (v := (2 : Int32)) hC dX10_ask_61 rfl ?_
      refine v_icmp_ge hC 67 dX10_ask_62 rfl (fun c11 => ?_) (fun c11 => ?_)
      · rw [if_pos c11] at h
        refine v_iconst (v := (-1 : Int32)) hC dX10_ask_67 rfl ?_
        refine w_istore_n hC dX10_ask_68 (ltk rfl) [some (.ref 0), some (.int v1), some (.int v2), some (.int (-1 : Int32)), none, none, none] rfl ?_
        refine v_iload_n hC dX10_ask_69 rfl ?_
        refine v_iconst (v := (1 : Int32)) hC dX10_ask_70 rfl ?_
        refine v_iadd hC dX10_ask_71 ?_
        obtain ⟨x12, e_x12, h⟩ := lt_some h
        refine v_nam e_x12 ?_
        refine w_istore hC dX10_ask_72 (ltk rfl) [some (.ref 0), some (.int v1), some (.int v2), some (.int (-1 : Int32)), some (.int x12), none, none] rfl ?_
        refine v_iconst (v := (0 : Int32)) hC dX10_ask_74 rfl ?_
        refine w_istore hC dX10_ask_75 (ltk rfl) [some (.ref 0), some (.int v1), some (.int v2), some (.int (-1 : Int32)), some (.int x12), some (.int (0 : Int32)), none] rfl ?_
        refine v_drop [true, false, true, true, true, true, false] [some (.ref 0), none, some (.int v2), some (.int (-1 : Int32)), some (.int x12), some (.int (0 : Int32)), none] rfl ?_
        exact ok_X10_ask_77 hl hC hnt N _ _ _ _ _ _ _ h
      · rw [if_neg c11] at h
        refine v_iconst (v := (-1 : Int32)) hC dX10_ask_65 rfl ?_
        cases h
        exact v_iret hC (by decide) (by decide) dX10_ask_66
    · rw [if_neg c10] at h
      refine v_iload_n hC dX10_ask_33 rfl ?_
      obtain ⟨r20, M21, q22, h⟩ := bnd_some h
      refine w_callSi hC [.int v3] [] (ok_J6_bitCount_0f7a4 q22) ms_J6_bitCount_0f7a4 aw_526 rfl (Nat.le_of_ble_eq_true rfl) ⟨by decide, by decide⟩ ⟨by decide, by decide⟩ dX10_ask_34 ?_
      refine v_iconst (v := (2 : Int32)) hC dX10_ask_37 rfl ?_
      refine v_icmp_gt hC 54 dX10_ask_38 rfl (fun c23 => ?_) (fun c23 => ?_)
      · rw [if_pos c23] at h
        refine w_iinc hC (v3 + (1 : Int32)) dX10_ask_54 rfl rfl [some (.ref 0), some (.int v1), some (.int v2), some (.int (v3 + (1 : Int32))), none, none, none] rfl ?_
        refine v_goto (tg := 20) hC dX10_ask_57 rfl ?_
        exact ih _ _ _ _ _ _ h
      · rw [if_neg c23] at h
        refine v_aload_n hC dX10_ask_41 rfl ?_
        refine v_iload_n hC dX10_ask_42 rfl ?_
        refine v_iload_n hC dX10_ask_43 rfl ?_
        refine v_iload_n hC dX10_ask_44 rfl ?_
        obtain ⟨r25, M26, q27, h⟩ := bnd_some h
        refine w_callVi hC [.int v3, .int v1, .int v2] [] (ok_X10_fits q27) mv_X10_fits aw_1086 ly_0 rfl (Nat.le_of_ble_eq_true rfl) ⟨by decide, by decide⟩ ⟨by decide, by decide⟩ dX10_ask_45 ?_
        refine v_if_eq hC 54 dX10_ask_48 rfl (fun c28 => ?_) (fun c28 => ?_)
        · rw [if_pos c28] at h
          refine w_iinc hC (v3 + (1 : Int32)) dX10_ask_54 rfl rfl [some (.ref 0), some (.int v1), some (.int v2), some (.int (v3 + (1 : Int32))), none, none, none] rfl ?_
          refine v_goto (tg := 20) hC dX10_ask_57 rfl ?_
          exact ih _ _ _ _ _ _ h
        · rw [if_neg c28] at h
          refine w_iinc hC (v2 + (1 : Int32)) dX10_ask_51 rfl rfl [some (.ref 0), some (.int v1), some (.int (v2 + (1 : Int32))), some (.int v3), none, none, none] rfl ?_
          refine w_iinc hC (v3 + (1 : Int32)) dX10_ask_54 rfl rfl [some (.ref 0), some (.int v1), some (.int (v2 + (1 : Int32))), some (.int (v3 + (1 : Int32))), none, none, none] rfl ?_
          refine v_goto (tg := 20) hC dX10_ask_57 rfl ?_
          exact ih _ _ _ _ _ _ h
set_option maxRecDepth 20000 in
set_option maxHeartbeats 4000000 in
theorem ok_X10_ask {l : Launch} {N : Nat} {v1 : Int32} (hl : l.stackTraces = false) {M : Mm} {r : (Int32 ⊕ String)} {M' : Mm} (h : f_X10_ask N v1 M = some (r, M')) : am_M l yX10_ask cX10_ask 7 (some .int) 8 2 12 LY M [.ref 0, .int v1] (am_oi r) M' := by
  unfold f_X10_ask at h
  refine am_intro (by decide) (by simp [Value.category]) (Nat.le_of_ble_eq_true rfl) (fun X hC hnt => ?_)
  refine am_start (L := [some (.ref 0), some (.int v1), none, none, none, none, none]) rfl ?_
  refine v_aload_n hC dX10_ask_0 rfl ?_
  refine v_aload_n hC dX10_ask_1 rfl ?_
  obtain ⟨r1, M2, q3, h⟩ := bnd_some h
  refine w_callVi hC [] [.ref 0] (ok_X10_takesBribeRows q3) mv_X10_takesBribeRows aw_1077 ly_0 rfl (Nat.le_of_ble_eq_true rfl) ⟨by decide, by decide⟩ ⟨by decide, by decide⟩ dX10_ask_2 ?_
  rcases bnx_some h with ⟨r4, M5, q6, h⟩ | ⟨r4, M5, q6, h⟩
  · refine w_callVv hC [.int r1] [] (ok_X10_needsBribeRows hl q6) mv_X10_needsBribeRows aw_1081 ly_0 rfl (Nat.le_of_ble_eq_true rfl) ⟨by decide, by decide⟩ ⟨by decide, by decide⟩ dX10_ask_5 ?_
    refine v_aload_n hC dX10_ask_8 rfl ?_
    refine v_iload_n hC dX10_ask_9 rfl ?_
    refine v_iconst (v := (1 : Int32)) hC dX10_ask_10 rfl ?_
    refine v_bipush (v := (24 : Int32)) hC dX10_ask_11 rfl ?_
    rcases bnx_some h with ⟨r7, M8, q9, h⟩ | ⟨r7, M8, q9, h⟩
    · refine w_callVv hC [.int v1, .int (1 : Int32), .int (24 : Int32)] [] (ok_X10_needsWithin hl q9) mv_X10_needsWithin aw_969 ly_0 rfl (Nat.le_of_ble_eq_true rfl) ⟨by decide, by decide⟩ ⟨by decide, by decide⟩ dX10_ask_13 ?_
      refine v_iconst (v := (0 : Int32)) hC dX10_ask_16 rfl ?_
      refine w_istore_n hC dX10_ask_17 (ltk rfl) [some (.ref 0), some (.int v1), some (.int (0 : Int32)), none, none, none, none] rfl ?_
      refine v_iconst (v := (0 : Int32)) hC dX10_ask_18 rfl ?_
      refine w_istore_n hC dX10_ask_19 (ltk rfl) [some (.ref 0), some (.int v1), some (.int (0 : Int32)), some (.int (0 : Int32)), none, none, none] rfl ?_
      exact ok_X10_ask_20 hl hC hnt N _ _ _ _ _ _ h
    · cases h
      exact w_callVx hC hnt [.int v1, .int (1 : Int32), .int (24 : Int32)] [] (ok_X10_needsWithin hl q9) mv_X10_needsWithin aw_969 ly_0 rfl (Nat.le_of_ble_eq_true rfl) ⟨by decide, by decide⟩ ⟨by decide, by decide⟩ dX10_ask_13 (by decide) (by decide)
  · cases h
    exact w_callVx hC hnt [.int r1] [] (ok_X10_needsBribeRows hl q6) mv_X10_needsBribeRows aw_1081 ly_0 rfl (Nat.le_of_ble_eq_true rfl) ⟨by decide, by decide⟩ ⟨by decide, by decide⟩ dX10_ask_5 (by decide) (by decide)
def f_X10_worst_12 (N : Nat) : Nat → Int32 → Int32 → Int32 → Int32 → Mm → Option ((Int32 ⊕ String) × Mm)
  | 0, _, _, _, _, _ => none
  | n + 1, v1, v2, v3, v4, M => (if (M 7 0) ≤ v4 then some (.inl v2, M) else bnd (f_X6_hasOf N 7 v4 v1 M) (fun r5 M6 => (if r5 ≤ v3 then f_X10_worst_12 N n v1 v2 v3 (v4 + (1 : Int32)) M6 else bnd (f_X6_hasOf N 7 v4 v1 M6) (fun r10 M11 => f_X10_worst_12 N n v1 v4 r10 (v4 + (1 : Int32)) M11))))
def f_X10_worst (N : Nat) (v1 : Int32) (M : Mm) : Option ((Int32 ⊕ String) × Mm) :=
  bnx (f_X10_needsTrait N v1 M) (fun r1 M2 => f_X10_worst_12 N N v1 (-1 : Int32) (0 : Int32) (0 : Int32) M2) (fun r1 M2 => some (.inr r1, M2))
set_option maxRecDepth 20000 in
set_option maxHeartbeats 4000000 in
theorem ok_X10_worst_12 {N : Nat} {X : am_X} {l : Launch} (hl : l.stackTraces = false) (hC : am_C X l (am_rm 7 1 6) cX10_worst yX10_worst.cls (some .int)) (hnt : am_NT X) : ∀ (n : Nat) (v1 v2 v3 v4 : Int32) (M : Mm) (r : (Int32 ⊕ String)) (M' : Mm), f_X10_worst_12 N n v1 v2 v3 v4 M = some (r, M') → am_V X LY M 1 6 (am_Q X LY 1 6 (am_oi r) M') 12 [some (.ref 0), some (.int v1), some (.int v2), some (.int v3), some (.int v4)] [] := by
  intro n
  induction n with
  | zero => intro v1 v2 v3 v4 M r M' h; cases h
  | succ n ih =>
    intro v1 v2 v3 v4 M r M' h
    simp only [f_X10_worst_12] at h
    refine v_iload hC dX10_worst_12 rfl ?_
    refine v_aload_n hC dX10_worst_14 rfl ?_
    refine v_geta (k := 2) (b := 7) hC cls_X10 ly_0 (by decide) rfl aw_317 rfl dX10_worst_15 ?_
    refine v_geti (k := 0) hC cls_X6 ly_7 (by decide) rfl aw_87 rfl dX10_worst_18 ?_
    refine v_icmp_ge hC 58 dX10_worst_21 rfl (fun c4 => ?_) (fun c4 => ?_)
    · rw [if_pos c4] at h
      refine v_iload_n hC dX10_worst_58 rfl ?_
      cases h
      exact v_iret hC (by decide) (by decide) dX10_worst_59
    · rw [if_neg c4] at h
      refine v_aload_n hC dX10_worst_24 rfl ?_
      refine v_geta (k := 2) (b := 7) hC cls_X10 ly_0 (by decide) rfl aw_317 rfl dX10_worst_25 ?_
      refine v_iload hC dX10_worst_28 rfl ?_
      refine v_iload_n hC dX10_worst_30 rfl ?_
      obtain ⟨r5, M6, q7, h⟩ := bnd_some h
      refine w_callVi hC [.int v4, .int v1] [] (ok_X6_hasOf kTable_7 q7) mv_X6_hasOf aw_904 ly_7 rfl (Nat.le_of_ble_eq_true rfl) ⟨by decide, by decide⟩ ⟨by decide, by decide⟩ dX10_worst_31 ?_
      refine v_iload_n hC dX10_worst_34 rfl ?_
      refine v_icmp_le hC 52 dX10_worst_35 rfl (fun c8 => ?_) (fun c8 => ?_)
      · rw [if_pos c8] at h
        refine w_iinc hC (v4 + (1 : Int32)) dX10_worst_52 rfl rfl [some (.ref 0), some (.int v1), some (.int v2), some (.int v3), some (.int (v4 + (1 : Int32)))] rfl ?_
        refine v_goto (tg := 12) hC dX10_worst_55 rfl ?_
        exact ih _ _ _ _ _ _ _ h
      · rw [if_neg c8] at h
        refine v_aload_n hC dX10_worst_38 rfl ?_
        refine v_geta (k := 2) (b := 7) hC cls_X10 ly_0 (by decide) rfl aw_317 rfl dX10_worst_39 ?_
        refine v_iload hC dX10_worst_42 rfl ?_
        refine v_iload_n hC dX10_worst_44 rfl ?_
        obtain ⟨r10, M11, q12, h⟩ := bnd_some h
        refine w_callVi hC [.int v4, .int v1] [] (ok_X6_hasOf kTable_7 q12) mv_X6_hasOf aw_904 ly_7 rfl (Nat.le_of_ble_eq_true rfl) ⟨by decide, by decide⟩ ⟨by decide, by decide⟩ dX10_worst_45 ?_
        refine w_istore_n hC dX10_worst_48 (ltk rfl) [some (.ref 0), some (.int v1), some (.int v2), some (.int r10), some (.int v4)] rfl ?_
        refine v_iload hC dX10_worst_49 rfl ?_
        refine w_istore_n hC dX10_worst_51 (ltk rfl) [some (.ref 0), some (.int v1), some (.int v4), some (.int r10), some (.int v4)] rfl ?_
        refine w_iinc hC (v4 + (1 : Int32)) dX10_worst_52 rfl rfl [some (.ref 0), some (.int v1), some (.int v4), some (.int r10), some (.int (v4 + (1 : Int32)))] rfl ?_
        refine v_goto (tg := 12) hC dX10_worst_55 rfl ?_
        exact ih _ _ _ _ _ _ _ h
set_option maxRecDepth 20000 in
set_option maxHeartbeats 4000000 in
theorem ok_X10_worst {l : Launch} {N : Nat} {v1 : Int32} (hl : l.stackTraces = false) {M : Mm} {r : (Int32 ⊕ String)} {M' : Mm} (h : f_X10_worst N v1 M = some (r, M')) : am_M l yX10_worst cX10_worst 5 (some .int) 7 1 6 LY M [.ref 0, .int v1] (am_oi r) M' := by
  unfold f_X10_worst at h
  refine am_intro (by decide) (by simp [Value.category]) (Nat.le_of_ble_eq_true rfl) (fun X hC hnt => ?_)
  refine am_start (L := [some (.ref 0), some (.int v1), none, none, none]) rfl ?_
  refine v_aload_n hC dX10_worst_0 rfl ?_
  refine v_iload_n hC dX10_worst_1 rfl ?_
  rcases bnx_some h with ⟨r1, M2, q3, h⟩ | ⟨r1, M2, q3, h⟩
  · refine w_callVv hC [.int v1] [] (ok_X10_needsTrait hl q3) mv_X10_needsTrait aw_899 ly_0 rfl (Nat.le_of_ble_eq_true rfl) ⟨by decide, by decide⟩ ⟨by decide, by decide⟩ dX10_worst_2 ?_
    refine v_iconst (v := (-1 : Int32)) hC dX10_worst_5 rfl ?_
    refine w_istore_n hC dX10_worst_6 (ltk rfl) [some (.ref 0), some (.int v1), some (.int (-1 : Int32)), none, none] rfl ?_
    refine v_iconst (v := (0 : Int32)) hC dX10_worst_7 rfl ?_
    refine w_istore_n hC dX10_worst_8 (ltk rfl) [some (.ref 0), some (.int v1), some (.int (-1 : Int32)), some (.int (0 : Int32)), none] rfl ?_
    refine v_iconst (v := (0 : Int32)) hC dX10_worst_9 rfl ?_
    refine w_istore hC dX10_worst_10 (ltk rfl) [some (.ref 0), some (.int v1), some (.int (-1 : Int32)), some (.int (0 : Int32)), some (.int (0 : Int32))] rfl ?_
    exact ok_X10_worst_12 hl hC hnt N _ _ _ _ _ _ _ h
  · cases h
    exact w_callVx hC hnt [.int v1] [] (ok_X10_needsTrait hl q3) mv_X10_needsTrait aw_899 ly_0 rfl (Nat.le_of_ble_eq_true rfl) ⟨by decide, by decide⟩ ⟨by decide, by decide⟩ dX10_worst_2 (by decide) (by decide)
def f_X10_alike_29 (N : Nat) (k4 : Int32 → Int32 → Mm → Option (Int32 × Mm)) : Nat → Int32 → Int32 → Int32 → Int32 → Mm → Option (Int32 × Mm)
  | 0, _, _, _, _, _ => none
  | n + 1, v1, v2, v3, v4, M => (if (M 7 0) ≤ v4 then k4 v1 (v2 + (1 : Int32)) M else (if v3 = (-1 : Int32) then f_X10_alike_29 N k4 n v1 v2 v3 (v4 + (1 : Int32)) M else bnd (f_X6_mainTrait N 7 v4 M) (fun r10 M11 => (if v3 = r10 then f_X10_alike_29 N k4 n (v1 + (1 : Int32)) v2 v3 (v4 + (1 : Int32)) M11 else f_X10_alike_29 N k4 n v1 v2 v3 (v4 + (1 : Int32)) M11))))
def f_X10_alike_4 (N : Nat) : Nat → Int32 → Int32 → Mm → Option (Int32 × Mm)
  | 0, _, _, _ => none
  | n + 1, v1, v2, M => (if (M 7 0) ≤ v2 then some (v1, M) else bnd (f_X6_mainTrait N 7 v2 M) (fun r2 M3 => lt (v2 + (1 : Int32)) (fun x5 => f_X10_alike_29 N (fun v1 v2 M => f_X10_alike_4 N n v1 v2 M) N v1 v2 r2 x5 M3)))
def f_X10_alike (N : Nat) (M : Mm) : Option (Int32 × Mm) :=
  f_X10_alike_4 N N (0 : Int32) (0 : Int32) M
set_option maxRecDepth 20000 in
set_option maxHeartbeats 4000000 in
theorem ok_X10_alike_29 {N : Nat} {X : am_X} {l : Launch} (hC : am_C X l (am_rm 3 0 0) cX10_alike yX10_alike.cls (some .int)) (hnt : am_NT X) {k4 : Int32 → Int32 → Mm → Option (Int32 × Mm)} (hk4 : ∀ (v1 v2 : Int32) (M : Mm) (r : Int32) (M' : Mm), k4 v1 v2 M = some (r, M') → am_V X LY M 0 0 (am_Q X LY 0 0 (.inl (some (.int r))) M') 4 [some (.ref 0), some (.int v1), some (.int v2), none, none] []) : ∀ (n : Nat) (v1 v2 v3 v4 : Int32) (M : Mm) (r : Int32) (M' : Mm), f_X10_alike_29 N k4 n v1 v2 v3 v4 M = some (r, M') → am_V X LY M 0 0 (am_Q X LY 0 0 (.inl (some (.int r))) M') 29 [some (.ref 0), some (.int v1), some (.int v2), some (.int v3), some (.int v4)] [] := by
  intro n
  induction n with
  | zero => intro v1 v2 v3 v4 M r M' h; cases h
  | succ n ih =>
    intro v1 v2 v3 v4 M r M' h
    simp only [f_X10_alike_29] at h
    refine v_iload hC dX10_alike_29 rfl ?_
    refine v_aload_n hC dX10_alike_31 rfl ?_
    refine v_geta (k := 2) (b := 7) hC cls_X10 ly_0 (by decide) rfl aw_317 rfl dX10_alike_32 ?_
    refine v_geti (k := 0) hC cls_X6 ly_7 (by decide) rfl aw_87 rfl dX10_alike_35 ?_
    refine v_icmp_ge hC 68 dX10_alike_38 rfl (fun c6 => ?_) (fun c6 => ?_)
    · rw [if_pos c6] at h
      refine w_iinc hC (v2 + (1 : Int32)) dX10_alike_68 rfl rfl [some (.ref 0), some (.int v1), some (.int (v2 + (1 : Int32))), some (.int v3), some (.int v4)] rfl ?_
      refine v_goto (tg := 4) hC dX10_alike_71 rfl ?_
      refine v_drop [true, true, true, false, false] [some (.ref 0), some (.int v1), some (.int (v2 + (1 : Int32))), none, none] rfl ?_
      exact hk4 _ _ _ _ _ h
    · rw [if_neg c6] at h
      refine v_iload_n hC dX10_alike_41 rfl ?_
      refine v_iconst (v := (-1 : Int32)) hC dX10_alike_42 rfl ?_
      refine v_icmp_eq hC 62 dX10_alike_43 rfl (fun c8 => ?_) (fun c8 => ?_)
      · rw [if_pos c8] at h
        refine w_iinc hC (v4 + (1 : Int32)) dX10_alike_62 rfl rfl [some (.ref 0), some (.int v1), some (.int v2), some (.int v3), some (.int (v4 + (1 : Int32)))] rfl ?_
        refine v_goto (tg := 29) hC dX10_alike_65 rfl ?_
        exact ih _ _ _ _ _ _ _ h
      · rw [if_neg c8] at h
        refine v_iload_n hC dX10_alike_46 rfl ?_
        refine v_aload_n hC dX10_alike_47 rfl ?_
        refine v_geta (k := 2) (b := 7) hC cls_X10 ly_0 (by decide) rfl aw_317 rfl dX10_alike_48 ?_
        refine v_iload hC dX10_alike_51 rfl ?_
        obtain ⟨r10, M11, q12, h⟩ := bnd_some h
        refine w_callVi hC [.int v4] [.int v3] (ok_X6_mainTrait kTable_7 q12) mv_X6_mainTrait aw_493 ly_7 rfl (Nat.le_of_ble_eq_true rfl) ⟨by decide, by decide⟩ ⟨by decide, by decide⟩ dX10_alike_53 ?_
        refine v_icmp_ne hC 62 dX10_alike_56 rfl (fun c13 => ?_) (fun c13 => ?_)
        · rw [if_neg c13] at h
          refine w_iinc hC (v4 + (1 : Int32)) dX10_alike_62 rfl rfl [some (.ref 0), some (.int v1), some (.int v2), some (.int v3), some (.int (v4 + (1 : Int32)))] rfl ?_
          refine v_goto (tg := 29) hC dX10_alike_65 rfl ?_
          exact ih _ _ _ _ _ _ _ h
        · rw [if_pos c13] at h
          refine w_iinc hC (v1 + (1 : Int32)) dX10_alike_59 rfl rfl [some (.ref 0), some (.int (v1 + (1 : Int32))), some (.int v2), some (.int v3), some (.int v4)] rfl ?_
          refine w_iinc hC (v4 + (1 : Int32)) dX10_alike_62 rfl rfl [some (.ref 0), some (.int (v1 + (1 : Int32))), some (.int v2), some (.int v3), some (.int (v4 + (1 : Int32)))] rfl ?_
          refine v_goto (tg := 29) hC dX10_alike_65 rfl ?_
          exact ih _ _ _ _ _ _ _ h
set_option maxRecDepth 20000 in
set_option maxHeartbeats 4000000 in
theorem ok_X10_alike_4 {N : Nat} {X : am_X} {l : Launch} (hC : am_C X l (am_rm 3 0 0) cX10_alike yX10_alike.cls (some .int)) (hnt : am_NT X) : ∀ (n : Nat) (v1 v2 : Int32) (M : Mm) (r : Int32) (M' : Mm), f_X10_alike_4 N n v1 v2 M = some (r, M') → am_V X LY M 0 0 (am_Q X LY 0 0 (.inl (some (.int r))) M') 4 [some (.ref 0), some (.int v1), some (.int v2), none, none] [] := by
  intro n
  induction n with
  | zero => intro v1 v2 M r M' h; cases h
  | succ n ih =>
    intro v1 v2 M r M' h
    simp only [f_X10_alike_4] at h
    refine v_iload_n hC dX10_alike_4 rfl ?_
    refine v_aload_n hC dX10_alike_5 rfl ?_
    refine v_geta (k := 2) (b := 7) hC cls_X10 ly_0 (by decide) rfl aw_317 rfl dX10_alike_6 ?_
    refine v_geti (k := 0) hC cls_X6 ly_7 (by decide) rfl aw_87 rfl dX10_alike_9 ?_
    refine v_icmp_ge hC 74 dX10_alike_12 rfl (fun c1 => ?_) (fun c1 => ?_)
    · rw [if_pos c1] at h
      refine v_iload_n hC dX10_alike_74 rfl ?_
      cases h
      exact v_iret hC (by decide) (by decide) dX10_alike_75
    · rw [if_neg c1] at h
      refine v_aload_n hC dX10_alike_15 rfl ?_
      refine v_geta (k := 2) (b := 7) hC cls_X10 ly_0 (by decide) rfl aw_317 rfl dX10_alike_16 ?_
      refine v_iload_n hC dX10_alike_19 rfl ?_
      obtain ⟨r2, M3, q4, h⟩ := bnd_some h
      refine w_callVi hC [.int v2] [] (ok_X6_mainTrait kTable_7 q4) mv_X6_mainTrait aw_493 ly_7 rfl (Nat.le_of_ble_eq_true rfl) ⟨by decide, by decide⟩ ⟨by decide, by decide⟩ dX10_alike_20 ?_
      refine w_istore_n hC dX10_alike_23 (ltk rfl) [some (.ref 0), some (.int v1), some (.int v2), some (.int r2), none] rfl ?_
      refine v_iload_n hC dX10_alike_24 rfl ?_
      refine v_iconst (v := (1 : Int32)) hC dX10_alike_25 rfl ?_
      refine v_iadd hC dX10_alike_26 ?_
      obtain ⟨x5, e_x5, h⟩ := lt_some h
      refine v_nam e_x5 ?_
      refine w_istore hC dX10_alike_27 (ltk rfl) [some (.ref 0), some (.int v1), some (.int v2), some (.int r2), some (.int x5)] rfl ?_
      exact ok_X10_alike_29 hC hnt (fun v1 v2 M r M' h => ih v1 v2 M r M' h) N _ _ _ _ _ _ _ h
set_option maxRecDepth 20000 in
set_option maxHeartbeats 4000000 in
theorem ok_X10_alike {l : Launch} {N : Nat} {M : Mm} {r : Int32} {M' : Mm} (h : f_X10_alike N M = some (r, M')) : am_M l yX10_alike cX10_alike 5 (some .int) 3 0 0 LY M [.ref 0] (.inl (some (.int r))) M' := by
  unfold f_X10_alike at h
  refine am_intro (by decide) (by simp [Value.category]) (Nat.le_of_ble_eq_true rfl) (fun X hC hnt => ?_)
  refine am_start (L := [some (.ref 0), none, none, none, none]) rfl ?_
  refine v_iconst (v := (0 : Int32)) hC dX10_alike_0 rfl ?_
  refine w_istore_n hC dX10_alike_1 (ltk rfl) [some (.ref 0), some (.int (0 : Int32)), none, none, none] rfl ?_
  refine v_iconst (v := (0 : Int32)) hC dX10_alike_2 rfl ?_
  refine w_istore_n hC dX10_alike_3 (ltk rfl) [some (.ref 0), some (.int (0 : Int32)), some (.int (0 : Int32)), none, none] rfl ?_
  exact ok_X10_alike_4 hC hnt N _ _ _ _ _ h
def f_X10_share_15 (N : Nat) : Nat → Int32 → Int32 → Int32 → Int32 → Mm → Option ((Int32 ⊕ String) × Mm)
  | 0, _, _, _, _, _ => none
  | n + 1, v1, v2, v3, v4, M => (if (M 7 0) ≤ v4 then (if (0 : Int32) < v3 then bnd (f_X6_hasOf N 7 v1 v2 M) (fun r9 M10 => grd (nz v3) (some (.inl (((100 : Int32) * r9) / v3), M10))) else some (.inl (0 : Int32), M)) else bnd (f_X6_hasOf N 7 v4 v2 M) (fun r13 M14 => lt (v3 + r13) (fun x16 => f_X10_share_15 N n v1 v2 x16 (v4 + (1 : Int32)) M14)))
def f_X10_share (N : Nat) (v1 : Int32) (v2 : Int32) (M : Mm) : Option ((Int32 ⊕ String) × Mm) :=
  bnx (f_X10_needsDiner N v1 M) (fun r1 M2 => bnx (f_X10_needsTrait N v2 M2) (fun r4 M5 => f_X10_share_15 N N v1 v2 (0 : Int32) (0 : Int32) M5) (fun r4 M5 => some (.inr r4, M5))) (fun r1 M2 => some (.inr r1, M2))
set_option maxRecDepth 20000 in
set_option maxHeartbeats 4000000 in
theorem ok_X10_share_15 {N : Nat} {X : am_X} {l : Launch} (hl : l.stackTraces = false) (hC : am_C X l (am_rm 7 2 12) cX10_share yX10_share.cls (some .int)) (hnt : am_NT X) : ∀ (n : Nat) (v1 v2 v3 v4 : Int32) (M : Mm) (r : (Int32 ⊕ String)) (M' : Mm), f_X10_share_15 N n v1 v2 v3 v4 M = some (r, M') → am_V X LY M 2 12 (am_Q X LY 2 12 (am_oi r) M') 15 [some (.ref 0), some (.int v1), some (.int v2), some (.int v3), some (.int v4)] [] := by
  intro n
  induction n with
  | zero => intro v1 v2 v3 v4 M r M' h; cases h
  | succ n ih =>
    intro v1 v2 v3 v4 M r M' h
    simp only [f_X10_share_15] at h
    refine v_iload hC dX10_share_15 rfl ?_
    refine v_aload_n hC dX10_share_17 rfl ?_
    refine v_geta (k := 2) (b := 7) hC cls_X10 ly_0 (by decide) rfl aw_317 rfl dX10_share_18 ?_
    refine v_geti (k := 0) hC cls_X6 ly_7 (by decide) rfl aw_87 rfl dX10_share_21 ?_
    refine v_icmp_ge hC 46 dX10_share_24 rfl (fun c7 => ?_) (fun c7 => ?_)
    · rw [if_pos c7] at h
      refine v_iload_n hC dX10_share_46 rfl ?_
      refine v_if_gt hC 54 dX10_share_47 rfl (fun c8 => ?_) (fun c8 => ?_)
      · rw [if_pos c8] at h
        refine v_bipush (v := (100 : Int32)) hC dX10_share_54 rfl ?_
        refine v_aload_n hC dX10_share_56 rfl ?_
        refine v_geta (k := 2) (b := 7) hC cls_X10 ly_0 (by decide) rfl aw_317 rfl dX10_share_57 ?_
        refine v_iload_n hC dX10_share_60 rfl ?_
        refine v_iload_n hC dX10_share_61 rfl ?_
        obtain ⟨r9, M10, q11, h⟩ := bnd_some h
        refine w_callVi hC [.int v1, .int v2] [.int (100 : Int32)] (ok_X6_hasOf kTable_7 q11) mv_X6_hasOf aw_904 ly_7 rfl (Nat.le_of_ble_eq_true rfl) ⟨by decide, by decide⟩ ⟨by decide, by decide⟩ dX10_share_62 ?_
        refine v_imul hC dX10_share_65 ?_
        refine v_iload_n hC dX10_share_66 rfl ?_
        obtain ⟨g12, h⟩ := grd_some h
        refine v_idiv hC dX10_share_67 (nz_ne g12) ?_
        cases h
        exact v_iret hC (by decide) (by decide) dX10_share_68
      · rw [if_neg c8] at h
        refine v_iconst (v := (0 : Int32)) hC dX10_share_50 rfl ?_
        refine v_goto (tg := 68) hC dX10_share_51 rfl ?_
        cases h
        exact v_iret hC (by decide) (by decide) dX10_share_68
    · rw [if_neg c7] at h
      refine v_iload_n hC dX10_share_27 rfl ?_
      refine v_aload_n hC dX10_share_28 rfl ?_
      refine v_geta (k := 2) (b := 7) hC cls_X10 ly_0 (by decide) rfl aw_317 rfl dX10_share_29 ?_
      refine v_iload hC dX10_share_32 rfl ?_
      refine v_iload_n hC dX10_share_34 rfl ?_
      obtain ⟨r13, M14, q15, h⟩ := bnd_some h
      refine w_callVi hC [.int v4, .int v2] [.int v3] (ok_X6_hasOf kTable_7 q15) mv_X6_hasOf aw_904 ly_7 rfl (Nat.le_of_ble_eq_true rfl) ⟨by decide, by decide⟩ ⟨by decide, by decide⟩ dX10_share_35 ?_
      refine v_iadd hC dX10_share_38 ?_
      obtain ⟨x16, e_x16, h⟩ := lt_some h
      refine v_nam e_x16 ?_
      refine w_istore_n hC dX10_share_39 (ltk rfl) [some (.ref 0), some (.int v1), some (.int v2), some (.int x16), some (.int v4)] rfl ?_
      refine w_iinc hC (v4 + (1 : Int32)) dX10_share_40 rfl rfl [some (.ref 0), some (.int v1), some (.int v2), some (.int x16), some (.int (v4 + (1 : Int32)))] rfl ?_
      refine v_goto (tg := 15) hC dX10_share_43 rfl ?_
      exact ih _ _ _ _ _ _ _ h
set_option maxRecDepth 20000 in
set_option maxHeartbeats 4000000 in
theorem ok_X10_share {l : Launch} {N : Nat} {v1 v2 : Int32} (hl : l.stackTraces = false) {M : Mm} {r : (Int32 ⊕ String)} {M' : Mm} (h : f_X10_share N v1 v2 M = some (r, M')) : am_M l yX10_share cX10_share 5 (some .int) 7 2 12 LY M [.ref 0, .int v1, .int v2] (am_oi r) M' := by
  unfold f_X10_share at h
  refine am_intro (by decide) (by simp [Value.category]) (Nat.le_of_ble_eq_true rfl) (fun X hC hnt => ?_)
  refine am_start (L := [some (.ref 0), some (.int v1), some (.int v2), none, none]) rfl ?_
  refine v_aload_n hC dX10_share_0 rfl ?_
  refine v_iload_n hC dX10_share_1 rfl ?_
  rcases bnx_some h with ⟨r1, M2, q3, h⟩ | ⟨r1, M2, q3, h⟩
  · refine w_callVv hC [.int v1] [] (ok_X10_needsDiner hl q3) mv_X10_needsDiner aw_843 ly_0 rfl (Nat.le_of_ble_eq_true rfl) ⟨by decide, by decide⟩ ⟨by decide, by decide⟩ dX10_share_2 ?_
    refine v_aload_n hC dX10_share_5 rfl ?_
    refine v_iload_n hC dX10_share_6 rfl ?_
    rcases bnx_some h with ⟨r4, M5, q6, h⟩ | ⟨r4, M5, q6, h⟩
    · refine w_callVv hC [.int v2] [] (ok_X10_needsTrait hl q6) mv_X10_needsTrait aw_899 ly_0 rfl (Nat.le_of_ble_eq_true rfl) ⟨by decide, by decide⟩ ⟨by decide, by decide⟩ dX10_share_7 ?_
      refine v_iconst (v := (0 : Int32)) hC dX10_share_10 rfl ?_
      refine w_istore_n hC dX10_share_11 (ltk rfl) [some (.ref 0), some (.int v1), some (.int v2), some (.int (0 : Int32)), none] rfl ?_
      refine v_iconst (v := (0 : Int32)) hC dX10_share_12 rfl ?_
      refine w_istore hC dX10_share_13 (ltk rfl) [some (.ref 0), some (.int v1), some (.int v2), some (.int (0 : Int32)), some (.int (0 : Int32))] rfl ?_
      exact ok_X10_share_15 hl hC hnt N _ _ _ _ _ _ _ h
    · cases h
      exact w_callVx hC hnt [.int v2] [] (ok_X10_needsTrait hl q6) mv_X10_needsTrait aw_899 ly_0 rfl (Nat.le_of_ble_eq_true rfl) ⟨by decide, by decide⟩ ⟨by decide, by decide⟩ dX10_share_7 (by decide) (by decide)
  · cases h
    exact w_callVx hC hnt [.int v1] [] (ok_X10_needsDiner hl q3) mv_X10_needsDiner aw_843 ly_0 rfl (Nat.le_of_ble_eq_true rfl) ⟨by decide, by decide⟩ ⟨by decide, by decide⟩ dX10_share_2 (by decide) (by decide)
def f_X10_whole_18 (N : Nat) : Nat → Int32 → Int32 → Mm → Option (Int32 × Mm)
  | 0, _, _, _ => none
  | n + 1, v1, v2, M => (if (M 7 0) ≤ v2 then some (v1, M) else bnd (f_X6_hasInAll N 7 v2 M) (fun r6 M7 => lt (v1 + r6) (fun x9 => f_X10_whole_18 N n x9 (v2 + (1 : Int32)) M7)))
def f_X10_whole (N : Nat) (M : Mm) : Option (Int32 × Mm) :=
  bnd (f_X6_grainsInAll N 7 M) (fun r1 M2 => lt ((M 7 8) + r1) (fun x4 => f_X10_whole_18 N N x4 (0 : Int32) M2))
set_option maxRecDepth 20000 in
set_option maxHeartbeats 4000000 in
theorem ok_X10_whole_18 {N : Nat} {X : am_X} {l : Launch} (hC : am_C X l (am_rm 3 0 0) cX10_whole yX10_whole.cls (some .int)) (hnt : am_NT X) : ∀ (n : Nat) (v1 v2 : Int32) (M : Mm) (r : Int32) (M' : Mm), f_X10_whole_18 N n v1 v2 M = some (r, M') → am_V X LY M 0 0 (am_Q X LY 0 0 (.inl (some (.int r))) M') 18 [some (.ref 0), some (.int v1), some (.int v2)] [] := by
  intro n
  induction n with
  | zero => intro v1 v2 M r M' h; cases h
  | succ n ih =>
    intro v1 v2 M r M' h
    simp only [f_X10_whole_18] at h
    refine v_iload_n hC dX10_whole_18 rfl ?_
    refine v_aload_n hC dX10_whole_19 rfl ?_
    refine v_geta (k := 2) (b := 7) hC cls_X10 ly_0 (by decide) rfl aw_317 rfl dX10_whole_20 ?_
    refine v_geti (k := 0) hC cls_X6 ly_7 (by decide) rfl aw_87 rfl dX10_whole_23 ?_
    refine v_icmp_ge hC 46 dX10_whole_26 rfl (fun c5 => ?_) (fun c5 => ?_)
    · rw [if_pos c5] at h
      refine v_iload_n hC dX10_whole_46 rfl ?_
      cases h
      exact v_iret hC (by decide) (by decide) dX10_whole_47
    · rw [if_neg c5] at h
      refine v_iload_n hC dX10_whole_29 rfl ?_
      refine v_aload_n hC dX10_whole_30 rfl ?_
      refine v_geta (k := 2) (b := 7) hC cls_X10 ly_0 (by decide) rfl aw_317 rfl dX10_whole_31 ?_
      refine v_iload_n hC dX10_whole_34 rfl ?_
      obtain ⟨r6, M7, q8, h⟩ := bnd_some h
      refine w_callVi hC [.int v2] [.int v1] (ok_X6_hasInAll kTable_7 q8) mv_X6_hasInAll aw_506 ly_7 rfl (Nat.le_of_ble_eq_true rfl) ⟨by decide, by decide⟩ ⟨by decide, by decide⟩ dX10_whole_35 ?_
      refine v_iadd hC dX10_whole_38 ?_
      obtain ⟨x9, e_x9, h⟩ := lt_some h
      refine v_nam e_x9 ?_
      refine w_istore_n hC dX10_whole_39 (ltk rfl) [some (.ref 0), some (.int x9), some (.int v2)] rfl ?_
      refine w_iinc hC (v2 + (1 : Int32)) dX10_whole_40 rfl rfl [some (.ref 0), some (.int x9), some (.int (v2 + (1 : Int32)))] rfl ?_
      refine v_goto (tg := 18) hC dX10_whole_43 rfl ?_
      exact ih _ _ _ _ _ h
set_option maxRecDepth 20000 in
set_option maxHeartbeats 4000000 in
theorem ok_X10_whole {l : Launch} {N : Nat} {M : Mm} {r : Int32} {M' : Mm} (h : f_X10_whole N M = some (r, M')) : am_M l yX10_whole cX10_whole 3 (some .int) 3 0 0 LY M [.ref 0] (.inl (some (.int r))) M' := by
  unfold f_X10_whole at h
  refine am_intro (by decide) (by simp [Value.category]) (Nat.le_of_ble_eq_true rfl) (fun X hC hnt => ?_)
  refine am_start (L := [some (.ref 0), none, none]) rfl ?_
  refine v_aload_n hC dX10_whole_0 rfl ?_
  refine v_geta (k := 2) (b := 7) hC cls_X10 ly_0 (by decide) rfl aw_317 rfl dX10_whole_1 ?_
  refine v_geti (k := 8) hC cls_X6 ly_7 (by decide) rfl aw_115 rfl dX10_whole_4 ?_
  refine v_aload_n hC dX10_whole_7 rfl ?_
  refine v_geta (k := 2) (b := 7) hC cls_X10 ly_0 (by decide) rfl aw_317 rfl dX10_whole_8 ?_
  obtain ⟨r1, M2, q3, h⟩ := bnd_some h
  refine w_callVi hC [] [.int (M 7 8)] (ok_X6_grainsInAll kTable_7 q3) mv_X6_grainsInAll aw_502 ly_7 rfl (Nat.le_of_ble_eq_true rfl) ⟨by decide, by decide⟩ ⟨by decide, by decide⟩ dX10_whole_11 ?_
  refine v_iadd hC dX10_whole_14 ?_
  obtain ⟨x4, e_x4, h⟩ := lt_some h
  refine v_nam e_x4 ?_
  refine w_istore_n hC dX10_whole_15 (ltk rfl) [some (.ref 0), some (.int x4), none] rfl ?_
  refine v_iconst (v := (0 : Int32)) hC dX10_whole_16 rfl ?_
  refine w_istore_n hC dX10_whole_17 (ltk rfl) [some (.ref 0), some (.int x4), some (.int (0 : Int32))] rfl ?_
  exact ok_X10_whole_18 hC hnt N _ _ _ _ _ h
def f_X10_takingsTillGone_74 (N : Nat) (v2 : Int32) (v3 : Int32) (M : Mm) : Option (Int32 × Mm) :=
  (if v2 ≤ (0 : Int32) then some (v3, M) else some ((-1 : Int32), M))
def f_X10_takingsTillGone_30 (N : Nat) (k15 : Int32 → Int32 → Int32 → Mm → Option (Int32 × Mm)) : Nat → Int32 → Int32 → Int32 → Int32 → Mm → Option (Int32 × Mm)
  | 0, _, _, _, _, _ => none
  | n + 1, v2, v3, v4, v5, M => (if (M 7 0) ≤ v5 then k15 v2 v3 (v4 + (1 : Int32)) M else (if v2 ≤ (0 : Int32) then k15 v2 v3 (v4 + (1 : Int32)) M else grd (inb v5 8) (lt (v2 - (M 9 (v5).toNatClampNeg)) (fun x11 => f_X10_takingsTillGone_30 N k15 n x11 (v3 + (1 : Int32)) v4 (v5 + (1 : Int32)) M))))
def f_X10_takingsTillGone_15 (N : Nat) : Nat → Int32 → Int32 → Int32 → Mm → Option (Int32 × Mm)
  | 0, _, _, _, _ => none
  | n + 1, v2, v3, v4, M => (if (200 : Int32) ≤ v4 then f_X10_takingsTillGone_74 N v2 v3 M else (if v2 ≤ (0 : Int32) then f_X10_takingsTillGone_74 N v2 v3 M else f_X10_takingsTillGone_30 N (fun v2 v3 v4 M => f_X10_takingsTillGone_15 N n v2 v3 v4 M) N v2 v3 v4 (0 : Int32) M))
def f_X10_takingsTillGone (N : Nat) (v1 : Int32) (M : Mm) : Option (Int32 × Mm) :=
  grd (inb v1 5) (lt (M 13 (v1).toNatClampNeg) (fun x2 => f_X10_takingsTillGone_15 N N x2 (0 : Int32) (0 : Int32) M))
set_option maxRecDepth 20000 in
set_option maxHeartbeats 4000000 in
theorem ok_X10_takingsTillGone_74 {N : Nat} {X : am_X} {l : Launch} (hC : am_C X l (am_rm 1 0 0) cX10_takingsTillGone yX10_takingsTillGone.cls (some .int)) (hnt : am_NT X) {v2 v3 : Int32} {M : Mm} {r : Int32} {M' : Mm} (h : f_X10_takingsTillGone_74 N v2 v3 M = some (r, M')) : am_V X LY M 0 0 (am_Q X LY 0 0 (.inl (some (.int r))) M') 74 [none, none, some (.int v2), some (.int v3), none, none] [] := by
  unfold f_X10_takingsTillGone_74 at h
  refine v_iload_n hC dX10_takingsTillGone_74 rfl ?_
  refine v_if_le hC 82 dX10_takingsTillGone_75 rfl (fun c4 => ?_) (fun c4 => ?_)
  · rw [if_pos c4] at h
    refine v_iload_n hC dX10_takingsTillGone_82 rfl ?_
    cases h
    exact v_iret hC (by decide) (by decide) dX10_takingsTillGone_83
  · rw [if_neg c4] at h
    refine v_iconst (v := (-1 : Int32)) hC dX10_takingsTillGone_78 rfl ?_
    refine v_goto (tg := 83) hC dX10_takingsTillGone_79 rfl ?_
    cases h
    exact v_iret hC (by decide) (by decide) dX10_takingsTillGone_83
set_option maxRecDepth 20000 in
set_option maxHeartbeats 4000000 in
theorem ok_X10_takingsTillGone_30 {N : Nat} {X : am_X} {l : Launch} (hC : am_C X l (am_rm 1 0 0) cX10_takingsTillGone yX10_takingsTillGone.cls (some .int)) (hnt : am_NT X) {k15 : Int32 → Int32 → Int32 → Mm → Option (Int32 × Mm)} (hk15 : ∀ (v2 v3 v4 : Int32) (M : Mm) (r : Int32) (M' : Mm), k15 v2 v3 v4 M = some (r, M') → am_V X LY M 0 0 (am_Q X LY 0 0 (.inl (some (.int r))) M') 15 [some (.ref 0), none, some (.int v2), some (.int v3), some (.int v4), none] []) : ∀ (n : Nat) (v2 v3 v4 v5 : Int32) (M : Mm) (r : Int32) (M' : Mm), f_X10_takingsTillGone_30 N k15 n v2 v3 v4 v5 M = some (r, M') → am_V X LY M 0 0 (am_Q X LY 0 0 (.inl (some (.int r))) M') 30 [some (.ref 0), none, some (.int v2), some (.int v3), some (.int v4), some (.int v5)] [] := by
  intro n
  induction n with
  | zero => intro v2 v3 v4 v5 M r M' h; cases h
  | succ n ih =>
    intro v2 v3 v4 v5 M r M' h
    simp only [f_X10_takingsTillGone_30] at h
    refine v_iload hC dX10_takingsTillGone_30 rfl ?_
    refine v_aload_n hC dX10_takingsTillGone_32 rfl ?_
    refine v_geta (k := 2) (b := 7) hC cls_X10 ly_0 (by decide) rfl aw_317 rfl dX10_takingsTillGone_33 ?_
    refine v_geti (k := 0) hC cls_X6 ly_7 (by decide) rfl aw_87 rfl dX10_takingsTillGone_36 ?_
    refine v_icmp_ge hC 68 dX10_takingsTillGone_39 rfl (fun c6 => ?_) (fun c6 => ?_)
    · rw [if_pos c6] at h
      refine w_iinc hC (v4 + (1 : Int32)) dX10_takingsTillGone_68 rfl rfl [some (.ref 0), none, some (.int v2), some (.int v3), some (.int (v4 + (1 : Int32))), some (.int v5)] rfl ?_
      refine v_goto (tg := 15) hC dX10_takingsTillGone_71 rfl ?_
      refine v_drop [true, false, true, true, true, false] [some (.ref 0), none, some (.int v2), some (.int v3), some (.int (v4 + (1 : Int32))), none] rfl ?_
      exact hk15 _ _ _ _ _ _ h
    · rw [if_neg c6] at h
      refine v_iload_n hC dX10_takingsTillGone_42 rfl ?_
      refine v_if_le hC 68 dX10_takingsTillGone_43 rfl (fun c8 => ?_) (fun c8 => ?_)
      · rw [if_pos c8] at h
        refine w_iinc hC (v4 + (1 : Int32)) dX10_takingsTillGone_68 rfl rfl [some (.ref 0), none, some (.int v2), some (.int v3), some (.int (v4 + (1 : Int32))), some (.int v5)] rfl ?_
        refine v_goto (tg := 15) hC dX10_takingsTillGone_71 rfl ?_
        refine v_drop [true, false, true, true, true, false] [some (.ref 0), none, some (.int v2), some (.int v3), some (.int (v4 + (1 : Int32))), none] rfl ?_
        exact hk15 _ _ _ _ _ _ h
      · rw [if_neg c8] at h
        refine v_iload_n hC dX10_takingsTillGone_46 rfl ?_
        refine v_aload_n hC dX10_takingsTillGone_47 rfl ?_
        refine v_geta (k := 2) (b := 7) hC cls_X10 ly_0 (by decide) rfl aw_317 rfl dX10_takingsTillGone_48 ?_
        refine v_geta (k := 12) (b := 9) hC cls_X6 ly_7 (by decide) rfl aw_123 rfl dX10_takingsTillGone_51 ?_
        refine v_iload hC dX10_takingsTillGone_54 rfl ?_
        obtain ⟨g10, h⟩ := grd_some h
        refine v_iald hC ly_9 (inb_in g10) dX10_takingsTillGone_56 ?_
        refine v_isub hC dX10_takingsTillGone_57 ?_
        obtain ⟨x11, e_x11, h⟩ := lt_some h
        refine v_nam e_x11 ?_
        refine w_istore_n hC dX10_takingsTillGone_58 (ltk rfl) [some (.ref 0), none, some (.int x11), some (.int v3), some (.int v4), some (.int v5)] rfl ?_
        refine w_iinc hC (v3 + (1 : Int32)) dX10_takingsTillGone_59 rfl rfl [some (.ref 0), none, some (.int x11), some (.int (v3 + (1 : Int32))), some (.int v4), some (.int v5)] rfl ?_
        refine w_iinc hC (v5 + (1 : Int32)) dX10_takingsTillGone_62 rfl rfl [some (.ref 0), none, some (.int x11), some (.int (v3 + (1 : Int32))), some (.int v4), some (.int (v5 + (1 : Int32)))] rfl ?_
        refine v_goto (tg := 30) hC dX10_takingsTillGone_65 rfl ?_
        exact ih _ _ _ _ _ _ _ h
set_option maxRecDepth 20000 in
set_option maxHeartbeats 4000000 in
theorem ok_X10_takingsTillGone_15 {N : Nat} {X : am_X} {l : Launch} (hC : am_C X l (am_rm 1 0 0) cX10_takingsTillGone yX10_takingsTillGone.cls (some .int)) (hnt : am_NT X) : ∀ (n : Nat) (v2 v3 v4 : Int32) (M : Mm) (r : Int32) (M' : Mm), f_X10_takingsTillGone_15 N n v2 v3 v4 M = some (r, M') → am_V X LY M 0 0 (am_Q X LY 0 0 (.inl (some (.int r))) M') 15 [some (.ref 0), none, some (.int v2), some (.int v3), some (.int v4), none] [] := by
  intro n
  induction n with
  | zero => intro v2 v3 v4 M r M' h; cases h
  | succ n ih =>
    intro v2 v3 v4 M r M' h
    simp only [f_X10_takingsTillGone_15] at h
    refine v_iload hC dX10_takingsTillGone_15 rfl ?_
    refine v_sipush (v := (200 : Int32)) hC dX10_takingsTillGone_17 rfl ?_
    refine v_icmp_ge hC 74 dX10_takingsTillGone_20 rfl (fun c3 => ?_) (fun c3 => ?_)
    · rw [if_pos c3] at h
      refine v_drop [false, false, true, true, false, false] [none, none, some (.int v2), some (.int v3), none, none] rfl ?_
      exact ok_X10_takingsTillGone_74 hC hnt h
    · rw [if_neg c3] at h
      refine v_iload_n hC dX10_takingsTillGone_23 rfl ?_
      refine v_if_le hC 74 dX10_takingsTillGone_24 rfl (fun c5 => ?_) (fun c5 => ?_)
      · rw [if_pos c5] at h
        refine v_drop [false, false, true, true, false, false] [none, none, some (.int v2), some (.int v3), none, none] rfl ?_
        exact ok_X10_takingsTillGone_74 hC hnt h
      · rw [if_neg c5] at h
        refine v_iconst (v := (0 : Int32)) hC dX10_takingsTillGone_27 rfl ?_
        refine w_istore hC dX10_takingsTillGone_28 (ltk rfl) [some (.ref 0), none, some (.int v2), some (.int v3), some (.int v4), some (.int (0 : Int32))] rfl ?_
        exact ok_X10_takingsTillGone_30 hC hnt (fun v2 v3 v4 M r M' h => ih v2 v3 v4 M r M' h) N _ _ _ _ _ _ _ h
set_option maxRecDepth 20000 in
set_option maxHeartbeats 4000000 in
theorem ok_X10_takingsTillGone {l : Launch} {N : Nat} {v1 : Int32} {M : Mm} {r : Int32} {M' : Mm} (h : f_X10_takingsTillGone N v1 M = some (r, M')) : am_M l yX10_takingsTillGone cX10_takingsTillGone 6 (some .int) 1 0 0 LY M [.ref 0, .int v1] (.inl (some (.int r))) M' := by
  unfold f_X10_takingsTillGone at h
  refine am_intro (by decide) (by simp [Value.category]) (Nat.le_of_ble_eq_true rfl) (fun X hC hnt => ?_)
  refine am_start (L := [some (.ref 0), some (.int v1), none, none, none, none]) rfl ?_
  refine v_aload_n hC dX10_takingsTillGone_0 rfl ?_
  refine v_geta (k := 2) (b := 7) hC cls_X10 ly_0 (by decide) rfl aw_317 rfl dX10_takingsTillGone_1 ?_
  refine v_geta (k := 16) (b := 13) hC cls_X6 ly_7 (by decide) rfl aw_135 rfl dX10_takingsTillGone_4 ?_
  refine v_iload_n hC dX10_takingsTillGone_7 rfl ?_
  obtain ⟨g1, h⟩ := grd_some h
  refine v_iald hC ly_13 (inb_in g1) dX10_takingsTillGone_8 ?_
  obtain ⟨x2, e_x2, h⟩ := lt_some h
  refine v_nam e_x2 ?_
  refine w_istore_n hC dX10_takingsTillGone_9 (ltk rfl) [some (.ref 0), some (.int v1), some (.int x2), none, none, none] rfl ?_
  refine v_iconst (v := (0 : Int32)) hC dX10_takingsTillGone_10 rfl ?_
  refine w_istore_n hC dX10_takingsTillGone_11 (ltk rfl) [some (.ref 0), some (.int v1), some (.int x2), some (.int (0 : Int32)), none, none] rfl ?_
  refine v_iconst (v := (0 : Int32)) hC dX10_takingsTillGone_12 rfl ?_
  refine w_istore hC dX10_takingsTillGone_13 (ltk rfl) [some (.ref 0), some (.int v1), some (.int x2), some (.int (0 : Int32)), some (.int (0 : Int32)), none] rfl ?_
  refine v_drop [true, false, true, true, true, false] [some (.ref 0), none, some (.int x2), some (.int (0 : Int32)), some (.int (0 : Int32)), none] rfl ?_
  exact ok_X10_takingsTillGone_15 hC hnt N _ _ _ _ _ _ h
def f_X10_sentence (N : Nat) (v1 : Int32) (M : Mm) : Option ((Int32 ⊕ String) × Mm) :=
  bnx (f_X10_needsCellar N v1 M) (fun r1 M2 => bnd (f_X10_takingsTillGone N v1 M2) (fun r4 M5 => some (.inl r4, M5))) (fun r1 M2 => some (.inr r1, M2))
set_option maxRecDepth 20000 in
set_option maxHeartbeats 4000000 in
theorem ok_X10_sentence {l : Launch} {N : Nat} {v1 : Int32} (hl : l.stackTraces = false) {M : Mm} {r : (Int32 ⊕ String)} {M' : Mm} (h : f_X10_sentence N v1 M = some (r, M')) : am_M l yX10_sentence cX10_sentence 2 (some .int) 7 1 6 LY M [.ref 0, .int v1] (am_oi r) M' := by
  unfold f_X10_sentence at h
  refine am_intro (by decide) (by simp [Value.category]) (Nat.le_of_ble_eq_true rfl) (fun X hC hnt => ?_)
  refine am_start (L := [some (.ref 0), some (.int v1)]) rfl ?_
  refine v_aload_n hC dX10_sentence_0 rfl ?_
  refine v_iload_n hC dX10_sentence_1 rfl ?_
  rcases bnx_some h with ⟨r1, M2, q3, h⟩ | ⟨r1, M2, q3, h⟩
  · refine w_callVv hC [.int v1] [] (ok_X10_needsCellar hl q3) mv_X10_needsCellar aw_912 ly_0 rfl (Nat.le_of_ble_eq_true rfl) ⟨by decide, by decide⟩ ⟨by decide, by decide⟩ dX10_sentence_2 ?_
    refine v_aload_n hC dX10_sentence_5 rfl ?_
    refine v_iload_n hC dX10_sentence_6 rfl ?_
    obtain ⟨r4, M5, q6, h⟩ := bnd_some h
    refine w_callVi hC [.int v1] [] (ok_X10_takingsTillGone q6) mv_X10_takingsTillGone aw_514 ly_0 rfl (Nat.le_of_ble_eq_true rfl) ⟨by decide, by decide⟩ ⟨by decide, by decide⟩ dX10_sentence_7 ?_
    cases h
    exact v_iret hC (by decide) (by decide) dX10_sentence_10
  · cases h
    exact w_callVx hC hnt [.int v1] [] (ok_X10_needsCellar hl q3) mv_X10_needsCellar aw_912 ly_0 rfl (Nat.le_of_ble_eq_true rfl) ⟨by decide, by decide⟩ ⟨by decide, by decide⟩ dX10_sentence_2 (by decide) (by decide)
def f_X10_alone_31 (N : Nat) : Nat → Int32 → Mm → Option ((Int32 ⊕ String) × Mm)
  | 0, _, _ => none
  | n + 1, v4, M => (if (200 : Int32) < v4 then some (.inl (-1 : Int32), M) else (if (0 : Int32) < (M 40 3) then bnd (f_X1_pinch N 25 M) (fun r12 M13 => (if (0 : Int32) < r12 then lt (wr M13 40 3 ((M13 40 3) - r12)) (fun M16 => lt (wr M16 40 5 (if ((M16 40 5) + r12) < (999 : Int32) then ((M16 40 5) + r12) else (999 : Int32))) (fun M17 => f_X10_alone_31 N n (v4 + (1 : Int32)) M17)) else some (.inl (-1 : Int32), M13))) else some (.inl v4, M)))
def f_X10_alone (N : Nat) (v1 : Int32) (v2 : Int32) (M : Mm) : Option ((Int32 ⊕ String) × Mm) :=
  bnx (f_X10_needsCellar N v1 M) (fun r1 M2 => bnx (f_X10_needsDiner N v2 M2) (fun r4 M5 => bnd (f_X0_tell N 7 v1 v2 M5) (fun r7 M8 => f_X10_alone_31 N N (0 : Int32) M8)) (fun r4 M5 => some (.inr r4, M5))) (fun r1 M2 => some (.inr r1, M2))
set_option maxRecDepth 20000 in
set_option maxHeartbeats 4000000 in
theorem ok_X10_alone_31 {N : Nat} {X : am_X} {l : Launch} (hl : l.stackTraces = false) (hC : am_C X l (am_rm 7 2 12) cX10_alone yX10_alone.cls (some .int)) (hnt : am_NT X) : ∀ (n : Nat) (v4 : Int32) (M : Mm) (r : (Int32 ⊕ String)) (M' : Mm), f_X10_alone_31 N n v4 M = some (r, M') → am_V X LY M 2 12 (am_Q X LY 2 12 (am_oi r) M') 31 [some (.ref 0), none, none, some (.ref 40), some (.int v4), none] [] := by
  intro n
  induction n with
  | zero => intro v4 M r M' h; cases h
  | succ n ih =>
    intro v4 M r M' h
    simp only [f_X10_alone_31] at h
    refine v_iload hC dX10_alone_31 rfl ?_
    refine v_sipush (v := (200 : Int32)) hC dX10_alone_33 rfl ?_
    refine v_icmp_gt hC 100 dX10_alone_36 rfl (fun c10 => ?_) (fun c10 => ?_)
    · rw [if_pos c10] at h
      refine v_iconst (v := (-1 : Int32)) hC dX10_alone_100 rfl ?_
      cases h
      exact v_iret hC (by decide) (by decide) dX10_alone_101
    · rw [if_neg c10] at h
      refine v_aload_n hC dX10_alone_39 rfl ?_
      refine v_geti (k := 3) hC cls_X0 ly_40 (by decide) rfl aw_252 rfl dX10_alone_40 ?_
      refine v_if_gt hC 49 dX10_alone_43 rfl (fun c11 => ?_) (fun c11 => ?_)
      · rw [if_pos c11] at h
        refine v_aload_n hC dX10_alone_49 rfl ?_
        refine v_geta (k := 4) (b := 25) hC cls_X10 ly_0 (by decide) rfl aw_319 rfl dX10_alone_50 ?_
        refine v_aload_n hC dX10_alone_53 rfl ?_
        obtain ⟨r12, M13, q14, h⟩ := bnd_some h
        refine w_callVi hC [.ref 40] [] (ok_X1_pinch kLaw_25 q14) mv_X1_pinch aw_922 ly_25 rfl (Nat.le_of_ble_eq_true rfl) ⟨by decide, by decide⟩ ⟨by decide, by decide⟩ dX10_alone_54 ?_
        refine w_istore hC dX10_alone_57 (ltk rfl) [some (.ref 0), none, none, some (.ref 40), some (.int v4), some (.int r12)] rfl ?_
        refine v_iload hC dX10_alone_59 rfl ?_
        refine v_if_gt hC 66 dX10_alone_61 rfl (fun c15 => ?_) (fun c15 => ?_)
        · rw [if_pos c15] at h
          refine v_aload_n hC dX10_alone_66 rfl ?_
          refine v_dup hC dX10_alone_67 rfl ?_
          refine v_geti (k := 3) hC cls_X0 ly_40 (by decide) rfl aw_252 rfl dX10_alone_68 ?_
          refine v_iload hC dX10_alone_71 rfl ?_
          refine v_isub hC dX10_alone_73 ?_
          obtain ⟨M16, e_M16, h⟩ := lt_some h
          refine w_puti (k := 3) hC cls_X0 ly_40 (by decide) rfl aw_252 rfl rfl ⟨rfl, rfl⟩ dX10_alone_74 e_M16 ?_
          refine v_aload_n hC dX10_alone_77 rfl ?_
          refine v_sipush (v := (999 : Int32)) hC dX10_alone_78 rfl ?_
          refine v_aload_n hC dX10_alone_81 rfl ?_
          refine v_geti (k := 5) hC cls_X0 ly_40 (by decide) rfl aw_257 rfl dX10_alone_82 ?_
          refine v_iload hC dX10_alone_85 rfl ?_
          refine v_iadd hC dX10_alone_87 ?_
          refine v_mmin hC aw_954 wm_min (Nat.le_of_ble_eq_true rfl) (Nat.le_of_ble_eq_true rfl) (Nat.le_of_ble_eq_true rfl) (Nat.le_of_ble_eq_true rfl) dX10_alone_88 ?_
          obtain ⟨M17, e_M17, h⟩ := lt_some h
          refine w_puti (k := 5) hC cls_X0 ly_40 (by decide) rfl aw_257 rfl rfl ⟨rfl, rfl⟩ dX10_alone_91 e_M17 ?_
          refine w_iinc hC (v4 + (1 : Int32)) dX10_alone_94 rfl rfl [some (.ref 0), none, none, some (.ref 40), some (.int (v4 + (1 : Int32))), some (.int r12)] rfl ?_
          refine v_goto (tg := 31) hC dX10_alone_97 rfl ?_
          refine v_drop [true, false, false, true, true, false] [some (.ref 0), none, none, some (.ref 40), some (.int (v4 + (1 : Int32))), none] rfl ?_
          exact ih _ _ _ _ h
        · rw [if_neg c15] at h
          refine v_iconst (v := (-1 : Int32)) hC dX10_alone_64 rfl ?_
          cases h
          exact v_iret hC (by decide) (by decide) dX10_alone_65
      · rw [if_neg c11] at h
        refine v_iload hC dX10_alone_46 rfl ?_
        cases h
        exact v_iret hC (by decide) (by decide) dX10_alone_48
set_option maxRecDepth 20000 in
set_option maxHeartbeats 4000000 in
theorem ok_X10_alone {l : Launch} {N : Nat} {v1 v2 : Int32} (hl : l.stackTraces = false) {M : Mm} {r : (Int32 ⊕ String)} {M' : Mm} (h : f_X10_alone N v1 v2 M = some (r, M')) : am_M l yX10_alone cX10_alone 6 (some .int) 7 2 12 LY M [.ref 0, .int v1, .int v2] (am_oi r) M' := by
  unfold f_X10_alone at h
  refine am_intro (by decide) (by simp [Value.category]) (Nat.le_of_ble_eq_true rfl) (fun X hC hnt => ?_)
  refine am_start (L := [some (.ref 0), some (.int v1), some (.int v2), none, none, none]) rfl ?_
  refine v_aload_n hC dX10_alone_0 rfl ?_
  refine v_iload_n hC dX10_alone_1 rfl ?_
  rcases bnx_some h with ⟨r1, M2, q3, h⟩ | ⟨r1, M2, q3, h⟩
  · refine w_callVv hC [.int v1] [] (ok_X10_needsCellar hl q3) mv_X10_needsCellar aw_912 ly_0 rfl (Nat.le_of_ble_eq_true rfl) ⟨by decide, by decide⟩ ⟨by decide, by decide⟩ dX10_alone_2 ?_
    refine v_aload_n hC dX10_alone_5 rfl ?_
    refine v_iload_n hC dX10_alone_6 rfl ?_
    rcases bnx_some h with ⟨r4, M5, q6, h⟩ | ⟨r4, M5, q6, h⟩
    · refine w_callVv hC [.int v2] [] (ok_X10_needsDiner hl q6) mv_X10_needsDiner aw_843 ly_0 rfl (Nat.le_of_ble_eq_true rfl) ⟨by decide, by decide⟩ ⟨by decide, by decide⟩ dX10_alone_7 ?_
      refine v_aload_n hC dX10_alone_10 rfl ?_
      refine v_geta (k := 7) (b := 39) hC cls_X10 ly_0 (by decide) rfl aw_322 rfl dX10_alone_11 ?_
      refine v_geta (k := 0) (b := 40) hC cls_X5 ly_39 (by decide) rfl aw_286 rfl dX10_alone_14 ?_
      refine w_astore_n hC dX10_alone_17 (ltk rfl) [some (.ref 0), some (.int v1), some (.int v2), some (.ref 40), none, none] rfl ?_
      refine v_aload_n hC dX10_alone_18 rfl ?_
      refine v_aload_n hC dX10_alone_19 rfl ?_
      refine v_geta (k := 2) (b := 7) hC cls_X10 ly_0 (by decide) rfl aw_317 rfl dX10_alone_20 ?_
      refine v_iload_n hC dX10_alone_23 rfl ?_
      refine v_iload_n hC dX10_alone_24 rfl ?_
      obtain ⟨r7, M8, q9, h⟩ := bnd_some h
      refine w_callVv hC [.ref 7, .int v1, .int v2] [] (ok_X0_tell kTable_7 q9) mv_X0_tell aw_921 ly_40 rfl (Nat.le_of_ble_eq_true rfl) ⟨by decide, by decide⟩ ⟨by decide, by decide⟩ dX10_alone_25 ?_
      refine v_iconst (v := (0 : Int32)) hC dX10_alone_28 rfl ?_
      refine w_istore hC dX10_alone_29 (ltk rfl) [some (.ref 0), some (.int v1), some (.int v2), some (.ref 40), some (.int (0 : Int32)), none] rfl ?_
      refine v_drop [true, false, false, true, true, false] [some (.ref 0), none, none, some (.ref 40), some (.int (0 : Int32)), none] rfl ?_
      exact ok_X10_alone_31 hl hC hnt N _ _ _ _ h
    · cases h
      exact w_callVx hC hnt [.int v2] [] (ok_X10_needsDiner hl q6) mv_X10_needsDiner aw_843 ly_0 rfl (Nat.le_of_ble_eq_true rfl) ⟨by decide, by decide⟩ ⟨by decide, by decide⟩ dX10_alone_7 (by decide) (by decide)
  · cases h
    exact w_callVx hC hnt [.int v1] [] (ok_X10_needsCellar hl q3) mv_X10_needsCellar aw_912 ly_0 rfl (Nat.le_of_ble_eq_true rfl) ⟨by decide, by decide⟩ ⟨by decide, by decide⟩ dX10_alone_2 (by decide) (by decide)
def f_X10_fair_51 (N : Nat) (k6 : Int32 → Int32 → Int32 → Mm → Option (Int32 × Mm)) (v3 : Int32) (v4 : Int32) (M : Mm) : Option (Int32 × Mm) :=
  k6 v4 (1 : Int32) (v3 + (1 : Int32)) M
def f_X10_fair_6 (N : Nat) : Nat → Int32 → Int32 → Int32 → Mm → Option (Int32 × Mm)
  | 0, _, _, _, _ => none
  | n + 1, v1, v2, v3, M => (if (M 7 1) ≤ v3 then some ((1 : Int32), M) else grd (inb v3 5) ((if (0 : Int32) < (M 13 (v3).toNatClampNeg) then bnd (f_X10_takingsTillGone N v3 M) (fun r4 M5 => (if v2 = (0 : Int32) then f_X10_fair_51 N (fun v1 v2 v3 M => f_X10_fair_6 N n v1 v2 v3 M) v3 r4 M5 else (if r4 = v1 then f_X10_fair_51 N (fun v1 v2 v3 M => f_X10_fair_6 N n v1 v2 v3 M) v3 r4 M5 else some ((0 : Int32), M5)))) else f_X10_fair_6 N n v1 v2 (v3 + (1 : Int32)) M)))
def f_X10_fair (N : Nat) (M : Mm) : Option (Int32 × Mm) :=
  f_X10_fair_6 N N (-1 : Int32) (0 : Int32) (0 : Int32) M
set_option maxRecDepth 20000 in
set_option maxHeartbeats 4000000 in
theorem ok_X10_fair_51 {N : Nat} {X : am_X} {l : Launch} (hC : am_C X l (am_rm 2 0 0) cX10_fair yX10_fair.cls (some .boolean)) (hnt : am_NT X) {k6 : Int32 → Int32 → Int32 → Mm → Option (Int32 × Mm)} (hk6 : ∀ (v1 v2 v3 : Int32) (M : Mm) (r : Int32) (M' : Mm), k6 v1 v2 v3 M = some (r, M') → am_V X LY M 0 0 (am_Q X LY 0 0 (.inl (some (.int r))) M') 6 [some (.ref 0), some (.int v1), some (.int v2), some (.int v3), none] []) {v3 v4 : Int32} {M : Mm} {r : Int32} {M' : Mm} (h : f_X10_fair_51 N k6 v3 v4 M = some (r, M')) : am_V X LY M 0 0 (am_Q X LY 0 0 (.inl (some (.int r))) M') 51 [some (.ref 0), none, none, some (.int v3), some (.int v4)] [] := by
  unfold f_X10_fair_51 at h
  refine v_iconst (v := (1 : Int32)) hC dX10_fair_51 rfl ?_
  refine w_istore_n hC dX10_fair_52 (ltk rfl) [some (.ref 0), none, some (.int (1 : Int32)), some (.int v3), some (.int v4)] rfl ?_
  refine v_iload hC dX10_fair_53 rfl ?_
  refine w_istore_n hC dX10_fair_55 (ltk rfl) [some (.ref 0), some (.int v4), some (.int (1 : Int32)), some (.int v3), some (.int v4)] rfl ?_
  refine w_iinc hC (v3 + (1 : Int32)) dX10_fair_56 rfl rfl [some (.ref 0), some (.int v4), some (.int (1 : Int32)), some (.int (v3 + (1 : Int32))), some (.int v4)] rfl ?_
  refine v_goto (tg := 6) hC dX10_fair_59 rfl ?_
  refine v_drop [true, true, true, true, false] [some (.ref 0), some (.int v4), some (.int (1 : Int32)), some (.int (v3 + (1 : Int32))), none] rfl ?_
  exact hk6 _ _ _ _ _ _ h
set_option maxRecDepth 20000 in
set_option maxHeartbeats 4000000 in
theorem ok_X10_fair_6 {N : Nat} {X : am_X} {l : Launch} (hC : am_C X l (am_rm 2 0 0) cX10_fair yX10_fair.cls (some .boolean)) (hnt : am_NT X) : ∀ (n : Nat) (v1 v2 v3 : Int32) (M : Mm) (r : Int32) (M' : Mm), f_X10_fair_6 N n v1 v2 v3 M = some (r, M') → am_V X LY M 0 0 (am_Q X LY 0 0 (.inl (some (.int r))) M') 6 [some (.ref 0), some (.int v1), some (.int v2), some (.int v3), none] [] := by
  intro n
  induction n with
  | zero => intro v1 v2 v3 M r M' h; cases h
  | succ n ih =>
    intro v1 v2 v3 M r M' h
    simp only [f_X10_fair_6] at h
    refine v_iload_n hC dX10_fair_6 rfl ?_
    refine v_aload_n hC dX10_fair_7 rfl ?_
    refine v_geta (k := 2) (b := 7) hC cls_X10 ly_0 (by decide) rfl aw_317 rfl dX10_fair_8 ?_
    refine v_geti (k := 1) hC cls_X6 ly_7 (by decide) rfl aw_91 rfl dX10_fair_11 ?_
    refine v_icmp_ge hC 62 dX10_fair_14 rfl (fun c1 => ?_) (fun c1 => ?_)
    · rw [if_pos c1] at h
      refine v_iconst (v := (1 : Int32)) hC dX10_fair_62 rfl ?_
      cases h
      exact v_zret hC (by decide) (by decide) (by decide) dX10_fair_63
    · rw [if_neg c1] at h
      refine v_aload_n hC dX10_fair_17 rfl ?_
      refine v_geta (k := 2) (b := 7) hC cls_X10 ly_0 (by decide) rfl aw_317 rfl dX10_fair_18 ?_
      refine v_geta (k := 16) (b := 13) hC cls_X6 ly_7 (by decide) rfl aw_135 rfl dX10_fair_21 ?_
      refine v_iload_n hC dX10_fair_24 rfl ?_
      obtain ⟨g2, h⟩ := grd_some h
      refine v_iald hC ly_13 (inb_in g2) dX10_fair_25 ?_
      refine v_if_gt hC 32 dX10_fair_26 rfl (fun c3 => ?_) (fun c3 => ?_)
      · rw [if_pos c3] at h
        refine v_aload_n hC dX10_fair_32 rfl ?_
        refine v_iload_n hC dX10_fair_33 rfl ?_
        obtain ⟨r4, M5, q6, h⟩ := bnd_some h
        refine w_callVi hC [.int v3] [] (ok_X10_takingsTillGone q6) mv_X10_takingsTillGone aw_514 ly_0 rfl (Nat.le_of_ble_eq_true rfl) ⟨by decide, by decide⟩ ⟨by decide, by decide⟩ dX10_fair_34 ?_
        refine w_istore hC dX10_fair_37 (ltk rfl) [some (.ref 0), some (.int v1), some (.int v2), some (.int v3), some (.int r4)] rfl ?_
        refine v_iload_n hC dX10_fair_39 rfl ?_
        refine v_if_eq hC 51 dX10_fair_40 rfl (fun c7 => ?_) (fun c7 => ?_)
        · rw [if_pos c7] at h
          refine v_drop [true, false, false, true, true] [some (.ref 0), none, none, some (.int v3), some (.int r4)] rfl ?_
          exact ok_X10_fair_51 hC hnt (fun v1 v2 v3 M r M' h => ih v1 v2 v3 M r M' h) h
        · rw [if_neg c7] at h
          refine v_iload hC dX10_fair_43 rfl ?_
          refine v_iload_n hC dX10_fair_45 rfl ?_
          refine v_icmp_eq hC 51 dX10_fair_46 rfl (fun c9 => ?_) (fun c9 => ?_)
          · rw [if_pos c9] at h
            refine v_drop [true, false, false, true, true] [some (.ref 0), none, none, some (.int v3), some (.int r4)] rfl ?_
            exact ok_X10_fair_51 hC hnt (fun v1 v2 v3 M r M' h => ih v1 v2 v3 M r M' h) h
          · rw [if_neg c9] at h
            refine v_iconst (v := (0 : Int32)) hC dX10_fair_49 rfl ?_
            cases h
            exact v_zret hC (by decide) (by decide) (by decide) dX10_fair_50
      · rw [if_neg c3] at h
        refine v_goto (tg := 56) hC dX10_fair_29 rfl ?_
        refine w_iinc hC (v3 + (1 : Int32)) dX10_fair_56 rfl rfl [some (.ref 0), some (.int v1), some (.int v2), some (.int (v3 + (1 : Int32))), none] rfl ?_
        refine v_goto (tg := 6) hC dX10_fair_59 rfl ?_
        exact ih _ _ _ _ _ _ h
set_option maxRecDepth 20000 in
set_option maxHeartbeats 4000000 in
theorem ok_X10_fair {l : Launch} {N : Nat} {M : Mm} {r : Int32} {M' : Mm} (h : f_X10_fair N M = some (r, M')) : am_M l yX10_fair cX10_fair 5 (some .boolean) 2 0 0 LY M [.ref 0] (.inl (some (.int r))) M' := by
  unfold f_X10_fair at h
  refine am_intro (by decide) (by simp [Value.category]) (Nat.le_of_ble_eq_true rfl) (fun X hC hnt => ?_)
  refine am_start (L := [some (.ref 0), none, none, none, none]) rfl ?_
  refine v_iconst (v := (-1 : Int32)) hC dX10_fair_0 rfl ?_
  refine w_istore_n hC dX10_fair_1 (ltk rfl) [some (.ref 0), some (.int (-1 : Int32)), none, none, none] rfl ?_
  refine v_iconst (v := (0 : Int32)) hC dX10_fair_2 rfl ?_
  refine w_istore_n hC dX10_fair_3 (ltk rfl) [some (.ref 0), some (.int (-1 : Int32)), some (.int (0 : Int32)), none, none] rfl ?_
  refine v_iconst (v := (0 : Int32)) hC dX10_fair_4 rfl ?_
  refine w_istore_n hC dX10_fair_5 (ltk rfl) [some (.ref 0), some (.int (-1 : Int32)), some (.int (0 : Int32)), some (.int (0 : Int32)), none] rfl ?_
  exact ok_X10_fair_6 hC hnt N _ _ _ _ _ _ h
def f_X10_cookHas_49 (N : Nat) (s1 : Int32) (M : Mm) : Option (Int32 × Mm) :=
  grd (isb s1) (lt (wr M 40 7 s1) (fun M8 => bnd (f_X1_pinch N 25 M8) (fun r10 M11 => some (r10, M11))))
def f_X10_cookHas_33 (N : Nat) (v1 : Int32) (s1 : Int32) (M : Mm) : Option (Int32 × Mm) :=
  grd (isb s1) (lt (wr M 40 8 s1) (fun M5 => (if (v1 &&& (1 : Int32)) = (0 : Int32) then f_X10_cookHas_49 N (1 : Int32) M5 else f_X10_cookHas_49 N (0 : Int32) M5)))
def f_X10_cookHas (N : Nat) (v1 : Int32) (v2 : Int32) (v3 : Int32) (M : Mm) : Option (Int32 × Mm) :=
  bnd (f_X0_tell N 7 v2 v3 M) (fun r1 M2 => (if (v1 &&& (2 : Int32)) = (0 : Int32) then f_X10_cookHas_33 N v1 (1 : Int32) M2 else f_X10_cookHas_33 N v1 (0 : Int32) M2))
set_option maxRecDepth 20000 in
set_option maxHeartbeats 4000000 in
theorem ok_X10_cookHas_49 {N : Nat} {X : am_X} {l : Launch} (hC : am_C X l (am_rm 4 0 0) cX10_cookHas yX10_cookHas.cls (some .int)) (hnt : am_NT X) {s1 : Int32} {M : Mm} {r : Int32} {M' : Mm} (h : f_X10_cookHas_49 N s1 M = some (r, M')) : am_V X LY M 0 0 (am_Q X LY 0 0 (.inl (some (.int r))) M') 49 [some (.ref 0), none, none, none, some (.ref 40)] [.int s1, .ref 40] := by
  unfold f_X10_cookHas_49 at h
  obtain ⟨g9, h⟩ := grd_some h
  obtain ⟨M8, e_M8, h⟩ := lt_some h
  refine w_puti (k := 7) hC cls_X0 ly_40 (by decide) rfl aw_262 rfl rfl (isb_nar g9) dX10_cookHas_49 e_M8 ?_
  refine v_aload_n hC dX10_cookHas_52 rfl ?_
  refine v_geta (k := 4) (b := 25) hC cls_X10 ly_0 (by decide) rfl aw_319 rfl dX10_cookHas_53 ?_
  refine v_aload hC dX10_cookHas_56 rfl ?_
  obtain ⟨r10, M11, q12, h⟩ := bnd_some h
  refine w_callVi hC [.ref 40] [] (ok_X1_pinch kLaw_25 q12) mv_X1_pinch aw_922 ly_25 rfl (Nat.le_of_ble_eq_true rfl) ⟨by decide, by decide⟩ ⟨by decide, by decide⟩ dX10_cookHas_58 ?_
  cases h
  exact v_iret hC (by decide) (by decide) dX10_cookHas_61
set_option maxRecDepth 20000 in
set_option maxHeartbeats 4000000 in
theorem ok_X10_cookHas_33 {N : Nat} {X : am_X} {l : Launch} (hC : am_C X l (am_rm 4 0 0) cX10_cookHas yX10_cookHas.cls (some .int)) (hnt : am_NT X) {v1 s1 : Int32} {M : Mm} {r : Int32} {M' : Mm} (h : f_X10_cookHas_33 N v1 s1 M = some (r, M')) : am_V X LY M 0 0 (am_Q X LY 0 0 (.inl (some (.int r))) M') 33 [some (.ref 0), some (.int v1), none, none, some (.ref 40)] [.int s1, .ref 40] := by
  unfold f_X10_cookHas_33 at h
  obtain ⟨g6, h⟩ := grd_some h
  obtain ⟨M5, e_M5, h⟩ := lt_some h
  refine w_puti (k := 8) hC cls_X0 ly_40 (by decide) rfl aw_265 rfl rfl (isb_nar g6) dX10_cookHas_33 e_M5 ?_
  refine v_aload hC dX10_cookHas_36 rfl ?_
  refine v_iload_n hC dX10_cookHas_38 rfl ?_
  refine v_iconst (v := (1 : Int32)) hC dX10_cookHas_39 rfl ?_
  refine v_iand hC dX10_cookHas_40 ?_
  refine v_if_ne hC 48 dX10_cookHas_41 rfl (fun c7 => ?_) (fun c7 => ?_)
  · rw [if_neg c7] at h
    refine v_iconst (v := (0 : Int32)) hC dX10_cookHas_48 rfl ?_
    refine v_drop [true, false, false, false, true] [some (.ref 0), none, none, none, some (.ref 40)] rfl ?_
    exact ok_X10_cookHas_49 hC hnt h
  · rw [if_pos c7] at h
    refine v_iconst (v := (1 : Int32)) hC dX10_cookHas_44 rfl ?_
    refine v_goto (tg := 49) hC dX10_cookHas_45 rfl ?_
    refine v_drop [true, false, false, false, true] [some (.ref 0), none, none, none, some (.ref 40)] rfl ?_
    exact ok_X10_cookHas_49 hC hnt h
set_option maxRecDepth 20000 in
set_option maxHeartbeats 4000000 in
theorem ok_X10_cookHas {l : Launch} {N : Nat} {v1 v2 v3 : Int32} {M : Mm} {r : Int32} {M' : Mm} (h : f_X10_cookHas N v1 v2 v3 M = some (r, M')) : am_M l yX10_cookHas cX10_cookHas 5 (some .int) 4 0 0 LY M [.ref 0, .int v1, .int v2, .int v3] (.inl (some (.int r))) M' := by
  unfold f_X10_cookHas at h
  refine am_intro (by decide) (by simp [Value.category]) (Nat.le_of_ble_eq_true rfl) (fun X hC hnt => ?_)
  refine am_start (L := [some (.ref 0), some (.int v1), some (.int v2), some (.int v3), none]) rfl ?_
  refine v_aload_n hC dX10_cookHas_0 rfl ?_
  refine v_geta (k := 7) (b := 39) hC cls_X10 ly_0 (by decide) rfl aw_322 rfl dX10_cookHas_1 ?_
  refine v_geta (k := 0) (b := 40) hC cls_X5 ly_39 (by decide) rfl aw_286 rfl dX10_cookHas_4 ?_
  refine w_astore hC dX10_cookHas_7 (ltk rfl) [some (.ref 0), some (.int v1), some (.int v2), some (.int v3), some (.ref 40)] rfl ?_
  refine v_aload hC dX10_cookHas_9 rfl ?_
  refine v_aload_n hC dX10_cookHas_11 rfl ?_
  refine v_geta (k := 2) (b := 7) hC cls_X10 ly_0 (by decide) rfl aw_317 rfl dX10_cookHas_12 ?_
  refine v_iload_n hC dX10_cookHas_15 rfl ?_
  refine v_iload_n hC dX10_cookHas_16 rfl ?_
  obtain ⟨r1, M2, q3, h⟩ := bnd_some h
  refine w_callVv hC [.ref 7, .int v2, .int v3] [] (ok_X0_tell kTable_7 q3) mv_X0_tell aw_921 ly_40 rfl (Nat.le_of_ble_eq_true rfl) ⟨by decide, by decide⟩ ⟨by decide, by decide⟩ dX10_cookHas_17 ?_
  refine v_aload hC dX10_cookHas_20 rfl ?_
  refine v_iload_n hC dX10_cookHas_22 rfl ?_
  refine v_iconst (v := (2 : Int32)) hC dX10_cookHas_23 rfl ?_
  refine v_iand hC dX10_cookHas_24 ?_
  refine v_if_ne hC 32 dX10_cookHas_25 rfl (fun c4 => ?_) (fun c4 => ?_)
  · rw [if_neg c4] at h
    refine v_iconst (v := (0 : Int32)) hC dX10_cookHas_32 rfl ?_
    refine v_drop [true, true, false, false, true] [some (.ref 0), some (.int v1), none, none, some (.ref 40)] rfl ?_
    exact ok_X10_cookHas_33 hC hnt h
  · rw [if_pos c4] at h
    refine v_iconst (v := (1 : Int32)) hC dX10_cookHas_28 rfl ?_
    refine v_goto (tg := 33) hC dX10_cookHas_29 rfl ?_
    refine v_drop [true, true, false, false, true] [some (.ref 0), some (.int v1), none, none, some (.ref 40)] rfl ?_
    exact ok_X10_cookHas_33 hC hnt h
def f_X10_dinerHas (N : Nat) (v1 : Int32) (v2 : Int32) (v3 : Int32) (M : Mm) : Option (Int32 × Mm) :=
  (if (v1 &&& (1 : Int32)) = (0 : Int32) then some ((2 : Int32), M) else bnd (f_X10_cookHas N v1 v2 v3 M) (fun r2 M3 => (if r2 ≤ (0 : Int32) then some ((0 : Int32), M3) else grd (inb v3 8) (some ((M3 9 (v3).toNatClampNeg), M3)))))
set_option maxRecDepth 20000 in
set_option maxHeartbeats 4000000 in
theorem ok_X10_dinerHas {l : Launch} {N : Nat} {v1 v2 v3 : Int32} {M : Mm} {r : Int32} {M' : Mm} (h : f_X10_dinerHas N v1 v2 v3 M = some (r, M')) : am_M l yX10_dinerHas cX10_dinerHas 4 (some .int) 5 0 0 LY M [.ref 0, .int v1, .int v2, .int v3] (.inl (some (.int r))) M' := by
  unfold f_X10_dinerHas at h
  refine am_intro (by decide) (by simp [Value.category]) (Nat.le_of_ble_eq_true rfl) (fun X hC hnt => ?_)
  refine am_start (L := [some (.ref 0), some (.int v1), some (.int v2), some (.int v3)]) rfl ?_
  refine v_iload_n hC dX10_dinerHas_0 rfl ?_
  refine v_iconst (v := (1 : Int32)) hC dX10_dinerHas_1 rfl ?_
  refine v_iand hC dX10_dinerHas_2 ?_
  refine v_if_ne hC 8 dX10_dinerHas_3 rfl (fun c1 => ?_) (fun c1 => ?_)
  · rw [if_neg c1] at h
    refine v_aload_n hC dX10_dinerHas_8 rfl ?_
    refine v_iload_n hC dX10_dinerHas_9 rfl ?_
    refine v_iload_n hC dX10_dinerHas_10 rfl ?_
    refine v_iload_n hC dX10_dinerHas_11 rfl ?_
    obtain ⟨r2, M3, q4, h⟩ := bnd_some h
    refine w_callVi hC [.int v1, .int v2, .int v3] [] (ok_X10_cookHas q4) mv_X10_cookHas aw_1154 ly_0 rfl (Nat.le_of_ble_eq_true rfl) ⟨by decide, by decide⟩ ⟨by decide, by decide⟩ dX10_dinerHas_12 ?_
    refine v_if_le hC 30 dX10_dinerHas_15 rfl (fun c5 => ?_) (fun c5 => ?_)
    · rw [if_pos c5] at h
      refine v_iconst (v := (0 : Int32)) hC dX10_dinerHas_30 rfl ?_
      cases h
      exact v_iret hC (by decide) (by decide) dX10_dinerHas_31
    · rw [if_neg c5] at h
      refine v_aload_n hC dX10_dinerHas_18 rfl ?_
      refine v_geta (k := 2) (b := 7) hC cls_X10 ly_0 (by decide) rfl aw_317 rfl dX10_dinerHas_19 ?_
      refine v_geta (k := 12) (b := 9) hC cls_X6 ly_7 (by decide) rfl aw_123 rfl dX10_dinerHas_22 ?_
      refine v_iload_n hC dX10_dinerHas_25 rfl ?_
      obtain ⟨g6, h⟩ := grd_some h
      refine v_iald hC ly_9 (inb_in g6) dX10_dinerHas_26 ?_
      refine v_goto (tg := 31) hC dX10_dinerHas_27 rfl ?_
      cases h
      exact v_iret hC (by decide) (by decide) dX10_dinerHas_31
  · rw [if_pos c1] at h
    refine v_iconst (v := (2 : Int32)) hC dX10_dinerHas_6 rfl ?_
    cases h
    exact v_iret hC (by decide) (by decide) dX10_dinerHas_7
def f_X10_game_93 (N : Nat) (k33 : Int32 → Int32 → Int32 → Int32 → Mm → Option ((Int32 ⊕ String) × Mm)) (v1 : Int32) (v2 : Int32) (v3 : Int32) (v4 : Int32) (v5 : Int32) (s0 : Int32) (M : Mm) : Option ((Int32 ⊕ String) × Mm) :=
  (if v5 = (0 : Int32) then k33 v1 v2 v3 (v4 + (1 : Int32)) M else (if s0 = (0 : Int32) then k33 v1 v2 v3 (v4 + (1 : Int32)) M else lt (v3 ||| ((1 : Int32) <<< (v4 &&& 31))) (fun x30 => k33 v1 v2 x30 (v4 + (1 : Int32)) M)))
def f_X10_game_65 (N : Nat) (k33 : Int32 → Int32 → Int32 → Int32 → Mm → Option ((Int32 ⊕ String) × Mm)) (v1 : Int32) (v2 : Int32) (v3 : Int32) (v4 : Int32) (s0 : Int32) (M : Mm) : Option ((Int32 ⊕ String) × Mm) :=
  bnd (f_X10_dinerHas N v4 v2 v1 M) (fun r19 M20 => bnd (f_X10_dinerHas N (v4 ^^^ (1 : Int32)) v2 v1 M20) (fun r22 M23 => (if r19 < r22 then f_X10_game_93 N k33 v1 v2 v3 v4 s0 (0 : Int32) M23 else f_X10_game_93 N k33 v1 v2 v3 v4 s0 (1 : Int32) M23)))
def f_X10_game_33 (N : Nat) : Nat → Int32 → Int32 → Int32 → Int32 → Mm → Option ((Int32 ⊕ String) × Mm)
  | 0, _, _, _, _, _ => none
  | n + 1, v1, v2, v3, v4, M => (if (4 : Int32) ≤ v4 then some (.inl v3, M) else bnd (f_X10_cookHas N v4 v2 v1 M) (fun r12 M13 => bnd (f_X10_cookHas N (v4 ^^^ (2 : Int32)) v2 v1 M13) (fun r15 M16 => (if r12 < r15 then f_X10_game_65 N (fun v1 v2 v3 v4 M => f_X10_game_33 N n v1 v2 v3 v4 M) v1 v2 v3 v4 (0 : Int32) M16 else f_X10_game_65 N (fun v1 v2 v3 v4 M => f_X10_game_33 N n v1 v2 v3 v4 M) v1 v2 v3 v4 (1 : Int32) M16))))
def f_X10_game (N : Nat) (v1 : Int32) (M : Mm) : Option ((Int32 ⊕ String) × Mm) :=
  bnx (f_X10_needsDiner N v1 M) (fun r1 M2 => bnd (f_X6_seatOf N 7 v1 M2) (fun r4 M5 => bnd (f_X6_firstHeldAt N 7 r4 M5) (fun r7 M8 => (if r7 = (-1 : Int32) then some (.inl (-1 : Int32), M8) else f_X10_game_33 N N v1 r7 (0 : Int32) (0 : Int32) M8)))) (fun r1 M2 => some (.inr r1, M2))
set_option maxRecDepth 20000 in
set_option maxHeartbeats 4000000 in
theorem ok_X10_game_93 {N : Nat} {X : am_X} {l : Launch} (hl : l.stackTraces = false) (hC : am_C X l (am_rm 7 1 6) cX10_game yX10_game.cls (some .int)) (hnt : am_NT X) {k33 : Int32 → Int32 → Int32 → Int32 → Mm → Option ((Int32 ⊕ String) × Mm)} (hk33 : ∀ (v1 v2 v3 v4 : Int32) (M : Mm) (r : (Int32 ⊕ String)) (M' : Mm), k33 v1 v2 v3 v4 M = some (r, M') → am_V X LY M 1 6 (am_Q X LY 1 6 (am_oi r) M') 33 [some (.ref 0), some (.int v1), some (.int v2), some (.int v3), some (.int v4), none, none] []) {v1 v2 v3 v4 v5 s0 : Int32} {M : Mm} {r : (Int32 ⊕ String)} {M' : Mm} (h : f_X10_game_93 N k33 v1 v2 v3 v4 v5 s0 M = some (r, M')) : am_V X LY M 1 6 (am_Q X LY 1 6 (am_oi r) M') 93 [some (.ref 0), some (.int v1), some (.int v2), some (.int v3), some (.int v4), some (.int v5), none] [.int s0] := by
  unfold f_X10_game_93 at h
  refine w_istore hC dX10_game_93 (ltk rfl) [some (.ref 0), some (.int v1), some (.int v2), some (.int v3), some (.int v4), some (.int v5), some (.int s0)] rfl ?_
  refine v_iload hC dX10_game_95 rfl ?_
  refine v_if_eq hC 112 dX10_game_97 rfl (fun c26 => ?_) (fun c26 => ?_)
  · rw [if_pos c26] at h
    refine w_iinc hC (v4 + (1 : Int32)) dX10_game_112 rfl rfl [some (.ref 0), some (.int v1), some (.int v2), some (.int v3), some (.int (v4 + (1 : Int32))), some (.int v5), some (.int s0)] rfl ?_
    refine v_goto (tg := 33) hC dX10_game_115 rfl ?_
    refine v_drop [true, true, true, true, true, false, false] [some (.ref 0), some (.int v1), some (.int v2), some (.int v3), some (.int (v4 + (1 : Int32))), none, none] rfl ?_
    exact hk33 _ _ _ _ _ _ _ h
  · rw [if_neg c26] at h
    refine v_iload hC dX10_game_100 rfl ?_
    refine v_if_eq hC 112 dX10_game_102 rfl (fun c28 => ?_) (fun c28 => ?_)
    · rw [if_pos c28] at h
      refine w_iinc hC (v4 + (1 : Int32)) dX10_game_112 rfl rfl [some (.ref 0), some (.int v1), some (.int v2), some (.int v3), some (.int (v4 + (1 : Int32))), some (.int v5), some (.int s0)] rfl ?_
      refine v_goto (tg := 33) hC dX10_game_115 rfl ?_
      refine v_drop [true, true, true, true, true, false, false] [some (.ref 0), some (.int v1), some (.int v2), some (.int v3), some (.int (v4 + (1 : Int32))), none, none] rfl ?_
      exact hk33 _ _ _ _ _ _ _ h
    · rw [if_neg c28] at h
      refine v_iload_n hC dX10_game_105 rfl ?_
      refine v_iconst (v := (1 : Int32)) hC dX10_game_106 rfl ?_
      refine v_iload hC dX10_game_107 rfl ?_
      refine v_ishl hC dX10_game_109 ?_
      refine v_ior hC dX10_game_110 ?_
      obtain ⟨x30, e_x30, h⟩ := lt_some h
      refine v_nam e_x30 ?_
      refine w_istore_n hC dX10_game_111 (ltk rfl) [some (.ref 0), some (.int v1), some (.int v2), some (.int x30), some (.int v4), some (.int v5), some (.int s0)] rfl ?_
      refine w_iinc hC (v4 + (1 : Int32)) dX10_game_112 rfl rfl [some (.ref 0), some (.int v1), some (.int v2), some (.int x30), some (.int (v4 + (1 : Int32))), some (.int v5), some (.int s0)] rfl ?_
      refine v_goto (tg := 33) hC dX10_game_115 rfl ?_
      refine v_drop [true, true, true, true, true, false, false] [some (.ref 0), some (.int v1), some (.int v2), some (.int x30), some (.int (v4 + (1 : Int32))), none, none] rfl ?_
      exact hk33 _ _ _ _ _ _ _ h
set_option maxRecDepth 20000 in
set_option maxHeartbeats 4000000 in
theorem ok_X10_game_65 {N : Nat} {X : am_X} {l : Launch} (hl : l.stackTraces = false) (hC : am_C X l (am_rm 7 1 6) cX10_game yX10_game.cls (some .int)) (hnt : am_NT X) {k33 : Int32 → Int32 → Int32 → Int32 → Mm → Option ((Int32 ⊕ String) × Mm)} (hk33 : ∀ (v1 v2 v3 v4 : Int32) (M : Mm) (r : (Int32 ⊕ String)) (M' : Mm), k33 v1 v2 v3 v4 M = some (r, M') → am_V X LY M 1 6 (am_Q X LY 1 6 (am_oi r) M') 33 [some (.ref 0), some (.int v1), some (.int v2), some (.int v3), some (.int v4), none, none] []) {v1 v2 v3 v4 s0 : Int32} {M : Mm} {r : (Int32 ⊕ String)} {M' : Mm} (h : f_X10_game_65 N k33 v1 v2 v3 v4 s0 M = some (r, M')) : am_V X LY M 1 6 (am_Q X LY 1 6 (am_oi r) M') 65 [some (.ref 0), some (.int v1), some (.int v2), some (.int v3), some (.int v4), none, none] [.int s0] := by
  unfold f_X10_game_65 at h
  refine w_istore hC dX10_game_65 (ltk rfl) [some (.ref 0), some (.int v1), some (.int v2), some (.int v3), some (.int v4), some (.int s0), none] rfl ?_
  refine v_aload_n hC dX10_game_67 rfl ?_
  refine v_iload hC dX10_game_68 rfl ?_
  refine v_iload_n hC dX10_game_70 rfl ?_
  refine v_iload_n hC dX10_game_71 rfl ?_
  obtain ⟨r19, M20, q21, h⟩ := bnd_some h
  refine w_callVi hC [.int v4, .int v2, .int v1] [] (ok_X10_dinerHas q21) mv_X10_dinerHas aw_1158 ly_0 rfl (Nat.le_of_ble_eq_true rfl) ⟨by decide, by decide⟩ ⟨by decide, by decide⟩ dX10_game_72 ?_
  refine v_aload_n hC dX10_game_75 rfl ?_
  refine v_iload hC dX10_game_76 rfl ?_
  refine v_iconst (v := (1 : Int32)) hC dX10_game_78 rfl ?_
  refine v_ixor hC dX10_game_79 ?_
  refine v_iload_n hC dX10_game_80 rfl ?_
  refine v_iload_n hC dX10_game_81 rfl ?_
  obtain ⟨r22, M23, q24, h⟩ := bnd_some h
  refine w_callVi hC [.int (v4 ^^^ (1 : Int32)), .int v2, .int v1] [.int r19] (ok_X10_dinerHas q24) mv_X10_dinerHas aw_1158 ly_0 rfl (Nat.le_of_ble_eq_true rfl) ⟨by decide, by decide⟩ ⟨by decide, by decide⟩ dX10_game_82 ?_
  refine v_icmp_lt hC 92 dX10_game_85 rfl (fun c25 => ?_) (fun c25 => ?_)
  · rw [if_pos c25] at h
    refine v_iconst (v := (0 : Int32)) hC dX10_game_92 rfl ?_
    exact ok_X10_game_93 hl hC hnt hk33 h
  · rw [if_neg c25] at h
    refine v_iconst (v := (1 : Int32)) hC dX10_game_88 rfl ?_
    refine v_goto (tg := 93) hC dX10_game_89 rfl ?_
    exact ok_X10_game_93 hl hC hnt hk33 h
set_option maxRecDepth 20000 in
set_option maxHeartbeats 4000000 in
theorem ok_X10_game_33 {N : Nat} {X : am_X} {l : Launch} (hl : l.stackTraces = false) (hC : am_C X l (am_rm 7 1 6) cX10_game yX10_game.cls (some .int)) (hnt : am_NT X) : ∀ (n : Nat) (v1 v2 v3 v4 : Int32) (M : Mm) (r : (Int32 ⊕ String)) (M' : Mm), f_X10_game_33 N n v1 v2 v3 v4 M = some (r, M') → am_V X LY M 1 6 (am_Q X LY 1 6 (am_oi r) M') 33 [some (.ref 0), some (.int v1), some (.int v2), some (.int v3), some (.int v4), none, none] [] := by
  intro n
  induction n with
  | zero => intro v1 v2 v3 v4 M r M' h; cases h
  | succ n ih =>
    intro v1 v2 v3 v4 M r M' h
    simp only [f_X10_game_33] at h
    refine v_iload hC dX10_game_33 rfl ?_
    refine v_iconst (v := (4 : Int32)) hC dX10_game_35 rfl ?_
    refine v_icmp_ge hC 118 dX10_game_36 rfl (fun c11 => ?_) (fun c11 => ?_)
    · rw [if_pos c11] at h
      refine v_iload_n hC dX10_game_118 rfl ?_
      cases h
      exact v_iret hC (by decide) (by decide) dX10_game_119
    · rw [if_neg c11] at h
      refine v_aload_n hC dX10_game_39 rfl ?_
      refine v_iload hC dX10_game_40 rfl ?_
      refine v_iload_n hC dX10_game_42 rfl ?_
      refine v_iload_n hC dX10_game_43 rfl ?_
      obtain ⟨r12, M13, q14, h⟩ := bnd_some h
      refine w_callVi hC [.int v4, .int v2, .int v1] [] (ok_X10_cookHas q14) mv_X10_cookHas aw_1154 ly_0 rfl (Nat.le_of_ble_eq_true rfl) ⟨by decide, by decide⟩ ⟨by decide, by decide⟩ dX10_game_44 ?_
      refine v_aload_n hC dX10_game_47 rfl ?_
      refine v_iload hC dX10_game_48 rfl ?_
      refine v_iconst (v := (2 : Int32)) hC dX10_game_50 rfl ?_
      refine v_ixor hC dX10_game_51 ?_
      refine v_iload_n hC dX10_game_52 rfl ?_
      refine v_iload_n hC dX10_game_53 rfl ?_
      obtain ⟨r15, M16, q17, h⟩ := bnd_some h
      refine w_callVi hC [.int (v4 ^^^ (2 : Int32)), .int v2, .int v1] [.int r12] (ok_X10_cookHas q17) mv_X10_cookHas aw_1154 ly_0 rfl (Nat.le_of_ble_eq_true rfl) ⟨by decide, by decide⟩ ⟨by decide, by decide⟩ dX10_game_54 ?_
      refine v_icmp_lt hC 64 dX10_game_57 rfl (fun c18 => ?_) (fun c18 => ?_)
      · rw [if_pos c18] at h
        refine v_iconst (v := (0 : Int32)) hC dX10_game_64 rfl ?_
        exact ok_X10_game_65 hl hC hnt (fun v1 v2 v3 v4 M r M' h => ih v1 v2 v3 v4 M r M' h) h
      · rw [if_neg c18] at h
        refine v_iconst (v := (1 : Int32)) hC dX10_game_60 rfl ?_
        refine v_goto (tg := 65) hC dX10_game_61 rfl ?_
        exact ok_X10_game_65 hl hC hnt (fun v1 v2 v3 v4 M r M' h => ih v1 v2 v3 v4 M r M' h) h
set_option maxRecDepth 20000 in
set_option maxHeartbeats 4000000 in
theorem ok_X10_game {l : Launch} {N : Nat} {v1 : Int32} (hl : l.stackTraces = false) {M : Mm} {r : (Int32 ⊕ String)} {M' : Mm} (h : f_X10_game N v1 M = some (r, M')) : am_M l yX10_game cX10_game 7 (some .int) 7 1 6 LY M [.ref 0, .int v1] (am_oi r) M' := by
  unfold f_X10_game at h
  refine am_intro (by decide) (by simp [Value.category]) (Nat.le_of_ble_eq_true rfl) (fun X hC hnt => ?_)
  refine am_start (L := [some (.ref 0), some (.int v1), none, none, none, none, none]) rfl ?_
  refine v_aload_n hC dX10_game_0 rfl ?_
  refine v_iload_n hC dX10_game_1 rfl ?_
  rcases bnx_some h with ⟨r1, M2, q3, h⟩ | ⟨r1, M2, q3, h⟩
  · refine w_callVv hC [.int v1] [] (ok_X10_needsDiner hl q3) mv_X10_needsDiner aw_843 ly_0 rfl (Nat.le_of_ble_eq_true rfl) ⟨by decide, by decide⟩ ⟨by decide, by decide⟩ dX10_game_2 ?_
    refine v_aload_n hC dX10_game_5 rfl ?_
    refine v_geta (k := 2) (b := 7) hC cls_X10 ly_0 (by decide) rfl aw_317 rfl dX10_game_6 ?_
    refine v_aload_n hC dX10_game_9 rfl ?_
    refine v_geta (k := 2) (b := 7) hC cls_X10 ly_0 (by decide) rfl aw_317 rfl dX10_game_10 ?_
    refine v_iload_n hC dX10_game_13 rfl ?_
    obtain ⟨r4, M5, q6, h⟩ := bnd_some h
    refine w_callVi hC [.int v1] [.ref 7] (ok_X6_seatOf kTable_7 q6) mv_X6_seatOf aw_883 ly_7 rfl (Nat.le_of_ble_eq_true rfl) ⟨by decide, by decide⟩ ⟨by decide, by decide⟩ dX10_game_14 ?_
    obtain ⟨r7, M8, q9, h⟩ := bnd_some h
    refine w_callVi hC [.int r4] [] (ok_X6_firstHeldAt kTable_7 q9) mv_X6_firstHeldAt aw_1150 ly_7 rfl (Nat.le_of_ble_eq_true rfl) ⟨by decide, by decide⟩ ⟨by decide, by decide⟩ dX10_game_17 ?_
    refine w_istore_n hC dX10_game_20 (ltk rfl) [some (.ref 0), some (.int v1), some (.int r7), none, none, none, none] rfl ?_
    refine v_iload_n hC dX10_game_21 rfl ?_
    refine v_iconst (v := (-1 : Int32)) hC dX10_game_22 rfl ?_
    refine v_icmp_ne hC 28 dX10_game_23 rfl (fun c10 => ?_) (fun c10 => ?_)
    · rw [if_neg c10] at h
      refine v_iconst (v := (0 : Int32)) hC dX10_game_28 rfl ?_
      refine w_istore_n hC dX10_game_29 (ltk rfl) [some (.ref 0), some (.int v1), some (.int r7), some (.int (0 : Int32)), none, none, none] rfl ?_
      refine v_iconst (v := (0 : Int32)) hC dX10_game_30 rfl ?_
      refine w_istore hC dX10_game_31 (ltk rfl) [some (.ref 0), some (.int v1), some (.int r7), some (.int (0 : Int32)), some (.int (0 : Int32)), none, none] rfl ?_
      exact ok_X10_game_33 hl hC hnt N _ _ _ _ _ _ _ h
    · rw [if_pos c10] at h
      refine v_iconst (v := (-1 : Int32)) hC dX10_game_26 rfl ?_
      cases h
      exact v_iret hC (by decide) (by decide) dX10_game_27
  · cases h
    exact w_callVx hC hnt [.int v1] [] (ok_X10_needsDiner hl q3) mv_X10_needsDiner aw_843 ly_0 rfl (Nat.le_of_ble_eq_true rfl) ⟨by decide, by decide⟩ ⟨by decide, by decide⟩ dX10_game_2 (by decide) (by decide)
def f_X10_crowd_6 (N : Nat) : Nat → Int32 → Int32 → Int32 → Mm → Option (Int32 × Mm)
  | 0, _, _, _, _ => none
  | n + 1, v1, v2, v3, M => (if (10 : Int32) ≤ v3 then some (v1, M) else bnd (f_X6_heldAt N 7 v3 M) (fun r2 M3 => bnd (f_J6_bitCount_0f7a4 N r2 M3) (fun r5 M6 => (if r5 ≤ v2 then f_X10_crowd_6 N n v1 v2 (v3 + (1 : Int32)) M6 else f_X10_crowd_6 N n v3 r5 (v3 + (1 : Int32)) M6))))
def f_X10_crowd (N : Nat) (M : Mm) : Option (Int32 × Mm) :=
  f_X10_crowd_6 N N (-1 : Int32) (0 : Int32) (0 : Int32) M
set_option maxRecDepth 20000 in
set_option maxHeartbeats 4000000 in
theorem ok_X10_crowd_6 {N : Nat} {X : am_X} {l : Launch} (hC : am_C X l (am_rm 2 0 0) cX10_crowd yX10_crowd.cls (some .int)) (hnt : am_NT X) : ∀ (n : Nat) (v1 v2 v3 : Int32) (M : Mm) (r : Int32) (M' : Mm), f_X10_crowd_6 N n v1 v2 v3 M = some (r, M') → am_V X LY M 0 0 (am_Q X LY 0 0 (.inl (some (.int r))) M') 6 [some (.ref 0), some (.int v1), some (.int v2), some (.int v3), none] [] := by
  intro n
  induction n with
  | zero => intro v1 v2 v3 M r M' h; cases h
  | succ n ih =>
    intro v1 v2 v3 M r M' h
    simp only [f_X10_crowd_6] at h
    refine v_iload_n hC dX10_crowd_6 rfl ?_
    refine v_bipush (v := (10 : Int32)) hC dX10_crowd_7 rfl ?_
    refine v_icmp_ge hC 42 dX10_crowd_9 rfl (fun c1 => ?_) (fun c1 => ?_)
    · rw [if_pos c1] at h
      refine v_iload_n hC dX10_crowd_42 rfl ?_
      cases h
      exact v_iret hC (by decide) (by decide) dX10_crowd_43
    · rw [if_neg c1] at h
      refine v_aload_n hC dX10_crowd_12 rfl ?_
      refine v_geta (k := 2) (b := 7) hC cls_X10 ly_0 (by decide) rfl aw_317 rfl dX10_crowd_13 ?_
      refine v_iload_n hC dX10_crowd_16 rfl ?_
      obtain ⟨r2, M3, q4, h⟩ := bnd_some h
      refine w_callVi hC [.int v3] [] (ok_X6_heldAt kTable_7 q4) mv_X6_heldAt aw_522 ly_7 rfl (Nat.le_of_ble_eq_true rfl) ⟨by decide, by decide⟩ ⟨by decide, by decide⟩ dX10_crowd_17 ?_
      obtain ⟨r5, M6, q7, h⟩ := bnd_some h
      refine w_callSi hC [.int r2] [] (ok_J6_bitCount_0f7a4 q7) ms_J6_bitCount_0f7a4 aw_526 rfl (Nat.le_of_ble_eq_true rfl) ⟨by decide, by decide⟩ ⟨by decide, by decide⟩ dX10_crowd_20 ?_
      refine w_istore hC dX10_crowd_23 (ltk rfl) [some (.ref 0), some (.int v1), some (.int v2), some (.int v3), some (.int r5)] rfl ?_
      refine v_iload hC dX10_crowd_25 rfl ?_
      refine v_iload_n hC dX10_crowd_27 rfl ?_
      refine v_icmp_le hC 36 dX10_crowd_28 rfl (fun c8 => ?_) (fun c8 => ?_)
      · rw [if_pos c8] at h
        refine w_iinc hC (v3 + (1 : Int32)) dX10_crowd_36 rfl rfl [some (.ref 0), some (.int v1), some (.int v2), some (.int (v3 + (1 : Int32))), some (.int r5)] rfl ?_
        refine v_goto (tg := 6) hC dX10_crowd_39 rfl ?_
        refine v_drop [true, true, true, true, false] [some (.ref 0), some (.int v1), some (.int v2), some (.int (v3 + (1 : Int32))), none] rfl ?_
        exact ih _ _ _ _ _ _ h
      · rw [if_neg c8] at h
        refine v_iload hC dX10_crowd_31 rfl ?_
        refine w_istore_n hC dX10_crowd_33 (ltk rfl) [some (.ref 0), some (.int v1), some (.int r5), some (.int v3), some (.int r5)] rfl ?_
        refine v_iload_n hC dX10_crowd_34 rfl ?_
        refine w_istore_n hC dX10_crowd_35 (ltk rfl) [some (.ref 0), some (.int v3), some (.int r5), some (.int v3), some (.int r5)] rfl ?_
        refine w_iinc hC (v3 + (1 : Int32)) dX10_crowd_36 rfl rfl [some (.ref 0), some (.int v3), some (.int r5), some (.int (v3 + (1 : Int32))), some (.int r5)] rfl ?_
        refine v_goto (tg := 6) hC dX10_crowd_39 rfl ?_
        refine v_drop [true, true, true, true, false] [some (.ref 0), some (.int v3), some (.int r5), some (.int (v3 + (1 : Int32))), none] rfl ?_
        exact ih _ _ _ _ _ _ h
set_option maxRecDepth 20000 in
set_option maxHeartbeats 4000000 in
theorem ok_X10_crowd {l : Launch} {N : Nat} {M : Mm} {r : Int32} {M' : Mm} (h : f_X10_crowd N M = some (r, M')) : am_M l yX10_crowd cX10_crowd 5 (some .int) 2 0 0 LY M [.ref 0] (.inl (some (.int r))) M' := by
  unfold f_X10_crowd at h
  refine am_intro (by decide) (by simp [Value.category]) (Nat.le_of_ble_eq_true rfl) (fun X hC hnt => ?_)
  refine am_start (L := [some (.ref 0), none, none, none, none]) rfl ?_
  refine v_iconst (v := (-1 : Int32)) hC dX10_crowd_0 rfl ?_
  refine w_istore_n hC dX10_crowd_1 (ltk rfl) [some (.ref 0), some (.int (-1 : Int32)), none, none, none] rfl ?_
  refine v_iconst (v := (0 : Int32)) hC dX10_crowd_2 rfl ?_
  refine w_istore_n hC dX10_crowd_3 (ltk rfl) [some (.ref 0), some (.int (-1 : Int32)), some (.int (0 : Int32)), none, none] rfl ?_
  refine v_iconst (v := (0 : Int32)) hC dX10_crowd_4 rfl ?_
  refine w_istore_n hC dX10_crowd_5 (ltk rfl) [some (.ref 0), some (.int (-1 : Int32)), some (.int (0 : Int32)), some (.int (0 : Int32)), none] rfl ?_
  exact ok_X10_crowd_6 hC hnt N _ _ _ _ _ _ h
def f_X10_gaps_4 (N : Nat) : Nat → Int32 → Int32 → Mm → Option (Int32 × Mm)
  | 0, _, _, _ => none
  | n + 1, v1, v2, M => (if (10 : Int32) ≤ v2 then some (v1, M) else bnd (f_X6_dinerAt N 7 v2 M) (fun r2 M3 => (if r2 = (-1 : Int32) then lt (v1 ||| ((1 : Int32) <<< (v2 &&& 31))) (fun x7 => f_X10_gaps_4 N n x7 (v2 + (1 : Int32)) M3) else f_X10_gaps_4 N n v1 (v2 + (1 : Int32)) M3)))
def f_X10_gaps (N : Nat) (M : Mm) : Option (Int32 × Mm) :=
  f_X10_gaps_4 N N (0 : Int32) (0 : Int32) M
set_option maxRecDepth 20000 in
set_option maxHeartbeats 4000000 in
theorem ok_X10_gaps_4 {N : Nat} {X : am_X} {l : Launch} (hC : am_C X l (am_rm 2 0 0) cX10_gaps yX10_gaps.cls (some .int)) (hnt : am_NT X) : ∀ (n : Nat) (v1 v2 : Int32) (M : Mm) (r : Int32) (M' : Mm), f_X10_gaps_4 N n v1 v2 M = some (r, M') → am_V X LY M 0 0 (am_Q X LY 0 0 (.inl (some (.int r))) M') 4 [some (.ref 0), some (.int v1), some (.int v2)] [] := by
  intro n
  induction n with
  | zero => intro v1 v2 M r M' h; cases h
  | succ n ih =>
    intro v1 v2 M r M' h
    simp only [f_X10_gaps_4] at h
    refine v_iload_n hC dX10_gaps_4 rfl ?_
    refine v_bipush (v := (10 : Int32)) hC dX10_gaps_5 rfl ?_
    refine v_icmp_ge hC 34 dX10_gaps_7 rfl (fun c1 => ?_) (fun c1 => ?_)
    · rw [if_pos c1] at h
      refine v_iload_n hC dX10_gaps_34 rfl ?_
      cases h
      exact v_iret hC (by decide) (by decide) dX10_gaps_35
    · rw [if_neg c1] at h
      refine v_aload_n hC dX10_gaps_10 rfl ?_
      refine v_geta (k := 2) (b := 7) hC cls_X10 ly_0 (by decide) rfl aw_317 rfl dX10_gaps_11 ?_
      refine v_iload_n hC dX10_gaps_14 rfl ?_
      obtain ⟨r2, M3, q4, h⟩ := bnd_some h
      refine w_callVi hC [.int v2] [] (ok_X6_dinerAt kTable_7 q4) mv_X6_dinerAt aw_484 ly_7 rfl (Nat.le_of_ble_eq_true rfl) ⟨by decide, by decide⟩ ⟨by decide, by decide⟩ dX10_gaps_15 ?_
      refine v_iconst (v := (-1 : Int32)) hC dX10_gaps_18 rfl ?_
      refine v_icmp_ne hC 28 dX10_gaps_19 rfl (fun c5 => ?_) (fun c5 => ?_)
      · rw [if_neg c5] at h
        refine w_iinc hC (v2 + (1 : Int32)) dX10_gaps_28 rfl rfl [some (.ref 0), some (.int v1), some (.int (v2 + (1 : Int32)))] rfl ?_
        refine v_goto (tg := 4) hC dX10_gaps_31 rfl ?_
        exact ih _ _ _ _ _ h
      · rw [if_pos c5] at h
        refine v_iload_n hC dX10_gaps_22 rfl ?_
        refine v_iconst (v := (1 : Int32)) hC dX10_gaps_23 rfl ?_
        refine v_iload_n hC dX10_gaps_24 rfl ?_
        refine v_ishl hC dX10_gaps_25 ?_
        refine v_ior hC dX10_gaps_26 ?_
        obtain ⟨x7, e_x7, h⟩ := lt_some h
        refine v_nam e_x7 ?_
        refine w_istore_n hC dX10_gaps_27 (ltk rfl) [some (.ref 0), some (.int x7), some (.int v2)] rfl ?_
        refine w_iinc hC (v2 + (1 : Int32)) dX10_gaps_28 rfl rfl [some (.ref 0), some (.int x7), some (.int (v2 + (1 : Int32)))] rfl ?_
        refine v_goto (tg := 4) hC dX10_gaps_31 rfl ?_
        exact ih _ _ _ _ _ h
set_option maxRecDepth 20000 in
set_option maxHeartbeats 4000000 in
theorem ok_X10_gaps {l : Launch} {N : Nat} {M : Mm} {r : Int32} {M' : Mm} (h : f_X10_gaps N M = some (r, M')) : am_M l yX10_gaps cX10_gaps 3 (some .int) 2 0 0 LY M [.ref 0] (.inl (some (.int r))) M' := by
  unfold f_X10_gaps at h
  refine am_intro (by decide) (by simp [Value.category]) (Nat.le_of_ble_eq_true rfl) (fun X hC hnt => ?_)
  refine am_start (L := [some (.ref 0), none, none]) rfl ?_
  refine v_iconst (v := (0 : Int32)) hC dX10_gaps_0 rfl ?_
  refine w_istore_n hC dX10_gaps_1 (ltk rfl) [some (.ref 0), some (.int (0 : Int32)), none] rfl ?_
  refine v_iconst (v := (0 : Int32)) hC dX10_gaps_2 rfl ?_
  refine w_istore_n hC dX10_gaps_3 (ltk rfl) [some (.ref 0), some (.int (0 : Int32)), some (.int (0 : Int32))] rfl ?_
  exact ok_X10_gaps_4 hC hnt N _ _ _ _ _ h
def f_X10_meets_23 (N : Nat) : Nat → Int32 → Int32 → Int32 → Mm → Option ((Int32 ⊕ String) × Mm)
  | 0, _, _, _, _ => none
  | n + 1, v2, v3, v4, M => (if (12 : Int32) ≤ v4 then some (.inl v3, M) else bnd (f_X6_heldAt N 16 v2 M) (fun r11 M12 => lt (v3 ||| r11) (fun x14 => bnd (f_X5_goesAhead N 16 25 M12) (fun r15 M16 => f_X10_meets_23 N n v2 x14 (v4 + (1 : Int32)) M16))))
def f_X10_meets (N : Nat) (v1 : Int32) (M : Mm) : Option ((Int32 ⊕ String) × Mm) :=
  bnx (f_X10_needsDiner N v1 M) (fun r1 M2 => bnd (f_X10_looksAhead N M2) (fun r4 M5 => bnd (f_X6_seatOf N 7 v1 M5) (fun r7 M8 => f_X10_meets_23 N N r7 (0 : Int32) (0 : Int32) M8))) (fun r1 M2 => some (.inr r1, M2))
set_option maxRecDepth 20000 in
set_option maxHeartbeats 4000000 in
theorem ok_X10_meets_23 {N : Nat} {X : am_X} {l : Launch} (hl : l.stackTraces = false) (hC : am_C X l (am_rm 7 1 6) cX10_meets yX10_meets.cls (some .int)) (hnt : am_NT X) : ∀ (n : Nat) (v2 v3 v4 : Int32) (M : Mm) (r : (Int32 ⊕ String)) (M' : Mm), f_X10_meets_23 N n v2 v3 v4 M = some (r, M') → am_V X LY M 1 6 (am_Q X LY 1 6 (am_oi r) M') 23 [some (.ref 0), none, some (.int v2), some (.int v3), some (.int v4)] [] := by
  intro n
  induction n with
  | zero => intro v2 v3 v4 M r M' h; cases h
  | succ n ih =>
    intro v2 v3 v4 M r M' h
    simp only [f_X10_meets_23] at h
    refine v_iload hC dX10_meets_23 rfl ?_
    refine v_bipush (v := (12 : Int32)) hC dX10_meets_25 rfl ?_
    refine v_icmp_ge hC 63 dX10_meets_27 rfl (fun c10 => ?_) (fun c10 => ?_)
    · rw [if_pos c10] at h
      refine v_iload_n hC dX10_meets_63 rfl ?_
      cases h
      exact v_iret hC (by decide) (by decide) dX10_meets_64
    · rw [if_neg c10] at h
      refine v_iload_n hC dX10_meets_30 rfl ?_
      refine v_aload_n hC dX10_meets_31 rfl ?_
      refine v_geta (k := 3) (b := 16) hC cls_X10 ly_0 (by decide) rfl aw_318 rfl dX10_meets_32 ?_
      refine v_iload_n hC dX10_meets_35 rfl ?_
      obtain ⟨r11, M12, q13, h⟩ := bnd_some h
      refine w_callVi hC [.int v2] [.int v3] (ok_X6_heldAt kTable_16 q13) mv_X6_heldAt aw_522 ly_16 rfl (Nat.le_of_ble_eq_true rfl) ⟨by decide, by decide⟩ ⟨by decide, by decide⟩ dX10_meets_36 ?_
      refine v_ior hC dX10_meets_39 ?_
      obtain ⟨x14, e_x14, h⟩ := lt_some h
      refine v_nam e_x14 ?_
      refine w_istore_n hC dX10_meets_40 (ltk rfl) [some (.ref 0), none, some (.int v2), some (.int x14), some (.int v4)] rfl ?_
      refine v_aload_n hC dX10_meets_41 rfl ?_
      refine v_geta (k := 7) (b := 39) hC cls_X10 ly_0 (by decide) rfl aw_322 rfl dX10_meets_42 ?_
      refine v_aload_n hC dX10_meets_45 rfl ?_
      refine v_geta (k := 3) (b := 16) hC cls_X10 ly_0 (by decide) rfl aw_318 rfl dX10_meets_46 ?_
      refine v_aload_n hC dX10_meets_49 rfl ?_
      refine v_geta (k := 4) (b := 25) hC cls_X10 ly_0 (by decide) rfl aw_319 rfl dX10_meets_50 ?_
      obtain ⟨r15, M16, q17, h⟩ := bnd_some h
      refine w_callVi hC [.ref 16, .ref 25] [] (ok_X5_goesAhead kTable_16 kLaw_25 q17) mv_X5_goesAhead aw_417 ly_39 rfl (Nat.le_of_ble_eq_true rfl) ⟨by decide, by decide⟩ ⟨by decide, by decide⟩ dX10_meets_53 ?_
      refine v_pop hC dX10_meets_56 rfl ?_
      refine w_iinc hC (v4 + (1 : Int32)) dX10_meets_57 rfl rfl [some (.ref 0), none, some (.int v2), some (.int x14), some (.int (v4 + (1 : Int32)))] rfl ?_
      refine v_goto (tg := 23) hC dX10_meets_60 rfl ?_
      exact ih _ _ _ _ _ _ h
set_option maxRecDepth 20000 in
set_option maxHeartbeats 4000000 in
theorem ok_X10_meets {l : Launch} {N : Nat} {v1 : Int32} (hl : l.stackTraces = false) {M : Mm} {r : (Int32 ⊕ String)} {M' : Mm} (h : f_X10_meets N v1 M = some (r, M')) : am_M l yX10_meets cX10_meets 5 (some .int) 7 1 6 LY M [.ref 0, .int v1] (am_oi r) M' := by
  unfold f_X10_meets at h
  refine am_intro (by decide) (by simp [Value.category]) (Nat.le_of_ble_eq_true rfl) (fun X hC hnt => ?_)
  refine am_start (L := [some (.ref 0), some (.int v1), none, none, none]) rfl ?_
  refine v_aload_n hC dX10_meets_0 rfl ?_
  refine v_iload_n hC dX10_meets_1 rfl ?_
  rcases bnx_some h with ⟨r1, M2, q3, h⟩ | ⟨r1, M2, q3, h⟩
  · refine w_callVv hC [.int v1] [] (ok_X10_needsDiner hl q3) mv_X10_needsDiner aw_843 ly_0 rfl (Nat.le_of_ble_eq_true rfl) ⟨by decide, by decide⟩ ⟨by decide, by decide⟩ dX10_meets_2 ?_
    refine v_aload_n hC dX10_meets_5 rfl ?_
    obtain ⟨r4, M5, q6, h⟩ := bnd_some h
    refine w_callVv hC [] [] (ok_X10_looksAhead q6) mv_X10_looksAhead aw_393 ly_0 rfl (Nat.le_of_ble_eq_true rfl) ⟨by decide, by decide⟩ ⟨by decide, by decide⟩ dX10_meets_6 ?_
    refine v_aload_n hC dX10_meets_9 rfl ?_
    refine v_geta (k := 2) (b := 7) hC cls_X10 ly_0 (by decide) rfl aw_317 rfl dX10_meets_10 ?_
    refine v_iload_n hC dX10_meets_13 rfl ?_
    obtain ⟨r7, M8, q9, h⟩ := bnd_some h
    refine w_callVi hC [.int v1] [] (ok_X6_seatOf kTable_7 q9) mv_X6_seatOf aw_883 ly_7 rfl (Nat.le_of_ble_eq_true rfl) ⟨by decide, by decide⟩ ⟨by decide, by decide⟩ dX10_meets_14 ?_
    refine w_istore_n hC dX10_meets_17 (ltk rfl) [some (.ref 0), some (.int v1), some (.int r7), none, none] rfl ?_
    refine v_iconst (v := (0 : Int32)) hC dX10_meets_18 rfl ?_
    refine w_istore_n hC dX10_meets_19 (ltk rfl) [some (.ref 0), some (.int v1), some (.int r7), some (.int (0 : Int32)), none] rfl ?_
    refine v_iconst (v := (0 : Int32)) hC dX10_meets_20 rfl ?_
    refine w_istore hC dX10_meets_21 (ltk rfl) [some (.ref 0), some (.int v1), some (.int r7), some (.int (0 : Int32)), some (.int (0 : Int32))] rfl ?_
    refine v_drop [true, false, true, true, true] [some (.ref 0), none, some (.int r7), some (.int (0 : Int32)), some (.int (0 : Int32))] rfl ?_
    exact ok_X10_meets_23 hl hC hnt N _ _ _ _ _ _ h
  · cases h
    exact w_callVx hC hnt [.int v1] [] (ok_X10_needsDiner hl q3) mv_X10_needsDiner aw_843 ly_0 rfl (Nat.le_of_ble_eq_true rfl) ⟨by decide, by decide⟩ ⟨by decide, by decide⟩ dX10_meets_2 (by decide) (by decide)
