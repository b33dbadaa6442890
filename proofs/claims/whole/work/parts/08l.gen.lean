def f_X11_fits_19 (N : Nat) : Nat → Int32 → Int32 → Mm → Option (Int32 × Mm)
  | 0, _, _, _ => none
  | n + 1, v2, v3, M => (if (M 208 11) ≤ v3 then lt (wr M 208 18 (0 : Int32)) (fun M7 => grd (isb v2) (some (v2, M7))) else (if v2 = (0 : Int32) then lt (wr M 208 18 (0 : Int32)) (fun M10 => grd (isb v2) (some (v2, M10))) else grd (inb v3 400) (grd (inb (v3 + (1 : Int32)) 400) (bnd (f_X11_grainsIn N (M 214 (v3).toNatClampNeg) (M 214 ((v3 + (1 : Int32))).toNatClampNeg) M) (fun r14 M15 => grd (inb (v3 + (2 : Int32)) 400) ((if r14 = ((M15 214 ((v3 + (2 : Int32))).toNatClampNeg) &&& (255 : Int32)) then f_X11_fits_19 N n (1 : Int32) (v3 + (3 : Int32)) M15 else f_X11_fits_19 N n (0 : Int32) (v3 + (3 : Int32)) M15)))))))
def f_X11_fits (N : Nat) (v1 : Int32) (M : Mm) : Option (Int32 × Mm) :=
  bnd (f_J6_bitCount_0f7a4 N v1 M) (fun r1 M2 => (if r1 ≤ (2 : Int32) then lt (wr M2 208 18 v1) (fun M5 => f_X11_fits_19 N N (1 : Int32) (0 : Int32) M5) else some ((0 : Int32), M2)))
set_option maxRecDepth 20000 in
set_option maxHeartbeats 4000000 in
theorem ok_X11_fits_19 {N : Nat} {X : am_X} {l : Launch} (hC : am_C X l (am_rm 12 0 0) cX11_fits yX11_fits.cls (some .boolean)) (hnt : am_NT X) : ∀ (n : Nat) (v2 v3 : Int32) (M : Mm) (r : Int32) (M' : Mm), f_X11_fits_19 N n v2 v3 M = some (r, M') → am_V X LY M 0 0 (am_Q X LY 0 0 (.inl (some (.int r))) M') 19 [some (.ref 208), none, some (.int v2), some (.int v3)] [] := by
  intro n
  induction n with
  | zero => intro v2 v3 M r M' h; cases h
  | succ n ih =>
    intro v2 v3 M r M' h
    simp only [f_X11_fits_19] at h
    refine v_iload_n hC dX11_fits_19 rfl ?_
    refine v_aload_n hC dX11_fits_20 rfl ?_
    refine v_geti (k := 11) hC cls_X11 ly_208 (by decide) rfl aw_1242 rfl dX11_fits_21 ?_
    refine v_icmp_ge hC 76 dX11_fits_24 rfl (fun c6 => ?_) (fun c6 => ?_)
    · rw [if_pos c6] at h
      refine v_aload_n hC dX11_fits_76 rfl ?_
      refine v_iconst (v := (0 : Int32)) hC dX11_fits_77 rfl ?_
      obtain ⟨M7, e_M7, h⟩ := lt_some h
      refine w_puti (k := 18) hC cls_X11 ly_208 (by decide) rfl aw_1249 rfl rfl ⟨rfl, rfl⟩ dX11_fits_78 e_M7 ?_
      refine v_iload_n hC dX11_fits_81 rfl ?_
      obtain ⟨g8, h⟩ := grd_some h
      cases h
      exact v_zret hC (isb_nar g8).1 (by decide) (by decide) dX11_fits_82
    · rw [if_neg c6] at h
      refine v_iload_n hC dX11_fits_27 rfl ?_
      refine v_if_eq hC 76 dX11_fits_28 rfl (fun c9 => ?_) (fun c9 => ?_)
      · rw [if_pos c9] at h
        refine v_aload_n hC dX11_fits_76 rfl ?_
        refine v_iconst (v := (0 : Int32)) hC dX11_fits_77 rfl ?_
        obtain ⟨M10, e_M10, h⟩ := lt_some h
        refine w_puti (k := 18) hC cls_X11 ly_208 (by decide) rfl aw_1249 rfl rfl ⟨rfl, rfl⟩ dX11_fits_78 e_M10 ?_
        refine v_iload_n hC dX11_fits_81 rfl ?_
        obtain ⟨g11, h⟩ := grd_some h
        cases h
        exact v_zret hC (isb_nar g11).1 (by decide) (by decide) dX11_fits_82
      · rw [if_neg c9] at h
        refine v_aload_n hC dX11_fits_31 rfl ?_
        refine v_aload_n hC dX11_fits_32 rfl ?_
        refine v_geta (k := 8) (b := 214) hC cls_X11 ly_208 (by decide) rfl aw_1239 rfl dX11_fits_33 ?_
        refine v_iload_n hC dX11_fits_36 rfl ?_
        obtain ⟨g12, h⟩ := grd_some h
        refine v_bald hC ly_214 (inb_in g12) dX11_fits_37 ?_
        refine v_aload_n hC dX11_fits_38 rfl ?_
        refine v_geta (k := 8) (b := 214) hC cls_X11 ly_208 (by decide) rfl aw_1239 rfl dX11_fits_39 ?_
        refine v_iload_n hC dX11_fits_42 rfl ?_
        refine v_iconst (v := (1 : Int32)) hC dX11_fits_43 rfl ?_
        refine v_iadd hC dX11_fits_44 ?_
        obtain ⟨g13, h⟩ := grd_some h
        refine v_bald hC ly_214 (inb_in g13) dX11_fits_45 ?_
        obtain ⟨r14, M15, q16, h⟩ := bnd_some h
        refine w_callVi hC [.int (M 214 (v3).toNatClampNeg), .int (M 214 ((v3 + (1 : Int32))).toNatClampNeg)] [] (ok_X11_grainsIn q16) mv_X11_grainsIn aw_1686 ly_208 rfl (Nat.le_of_ble_eq_true rfl) ⟨by decide, by decide⟩ ⟨by decide, by decide⟩ dX11_fits_46 ?_
        refine v_aload_n hC dX11_fits_49 rfl ?_
        refine v_geta (k := 8) (b := 214) hC cls_X11 ly_208 (by decide) rfl aw_1239 rfl dX11_fits_50 ?_
        refine v_iload_n hC dX11_fits_53 rfl ?_
        refine v_iconst (v := (2 : Int32)) hC dX11_fits_54 rfl ?_
        refine v_iadd hC dX11_fits_55 ?_
        obtain ⟨g17, h⟩ := grd_some h
        refine v_bald hC ly_214 (inb_in g17) dX11_fits_56 ?_
        refine v_sipush (v := (255 : Int32)) hC dX11_fits_57 rfl ?_
        refine v_iand hC dX11_fits_60 ?_
        refine v_icmp_ne hC 68 dX11_fits_61 rfl (fun c18 => ?_) (fun c18 => ?_)
        · rw [if_neg c18] at h
          refine v_iconst (v := (0 : Int32)) hC dX11_fits_68 rfl ?_
          refine w_istore_n hC dX11_fits_69 (ltk rfl) [some (.ref 208), none, some (.int (0 : Int32)), some (.int v3)] rfl ?_
          refine w_iinc hC (v3 + (3 : Int32)) dX11_fits_70 rfl rfl [some (.ref 208), none, some (.int (0 : Int32)), some (.int (v3 + (3 : Int32)))] rfl ?_
          refine v_goto (tg := 19) hC dX11_fits_73 rfl ?_
          exact ih _ _ _ _ _ h
        · rw [if_pos c18] at h
          refine v_iconst (v := (1 : Int32)) hC dX11_fits_64 rfl ?_
          refine v_goto (tg := 69) hC dX11_fits_65 rfl ?_
          refine w_istore_n hC dX11_fits_69 (ltk rfl) [some (.ref 208), none, some (.int (1 : Int32)), some (.int v3)] rfl ?_
          refine w_iinc hC (v3 + (3 : Int32)) dX11_fits_70 rfl rfl [some (.ref 208), none, some (.int (1 : Int32)), some (.int (v3 + (3 : Int32)))] rfl ?_
          refine v_goto (tg := 19) hC dX11_fits_73 rfl ?_
          exact ih _ _ _ _ _ h
set_option maxRecDepth 20000 in
set_option maxHeartbeats 4000000 in
theorem ok_X11_fits {l : Launch} {N : Nat} {v1 : Int32} {M : Mm} {r : Int32} {M' : Mm} (h : f_X11_fits N v1 M = some (r, M')) : am_M l yX11_fits cX11_fits 4 (some .boolean) 12 0 0 LY M [.ref 208, .int v1] (.inl (some (.int r))) M' := by
  unfold f_X11_fits at h
  refine am_intro (by decide) (by simp [Value.category]) (Nat.le_of_ble_eq_true rfl) (fun X hC hnt => ?_)
  refine am_start (L := [some (.ref 208), some (.int v1), none, none]) rfl ?_
  refine v_iload_n hC dX11_fits_0 rfl ?_
  obtain ⟨r1, M2, q3, h⟩ := bnd_some h
  refine w_callSi hC [.int v1] [] (ok_J6_bitCount_0f7a4 q3) ms_J6_bitCount_0f7a4 aw_1706 rfl (Nat.le_of_ble_eq_true rfl) ⟨by decide, by decide⟩ ⟨by decide, by decide⟩ dX11_fits_1 ?_
  refine v_iconst (v := (2 : Int32)) hC dX11_fits_4 rfl ?_
  refine v_icmp_le hC 10 dX11_fits_5 rfl (fun c4 => ?_) (fun c4 => ?_)
  · rw [if_pos c4] at h
    refine v_aload_n hC dX11_fits_10 rfl ?_
    refine v_iload_n hC dX11_fits_11 rfl ?_
    obtain ⟨M5, e_M5, h⟩ := lt_some h
    refine w_puti (k := 18) hC cls_X11 ly_208 (by decide) rfl aw_1249 rfl rfl ⟨rfl, rfl⟩ dX11_fits_12 e_M5 ?_
    refine v_iconst (v := (1 : Int32)) hC dX11_fits_15 rfl ?_
    refine w_istore_n hC dX11_fits_16 (ltk rfl) [some (.ref 208), some (.int v1), some (.int (1 : Int32)), none] rfl ?_
    refine v_iconst (v := (0 : Int32)) hC dX11_fits_17 rfl ?_
    refine w_istore_n hC dX11_fits_18 (ltk rfl) [some (.ref 208), some (.int v1), some (.int (1 : Int32)), some (.int (0 : Int32))] rfl ?_
    refine v_drop [true, false, true, true] [some (.ref 208), none, some (.int (1 : Int32)), some (.int (0 : Int32))] rfl ?_
    exact ok_X11_fits_19 hC hnt N _ _ _ _ _ h
  · rw [if_neg c4] at h
    refine v_iconst (v := (0 : Int32)) hC dX11_fits_8 rfl ?_
    cases h
    exact v_zret hC (by decide) (by decide) (by decide) dX11_fits_9
def f_X11_bribes_40 (N : Nat) : Nat → Int32 → Int32 → Int32 → Int32 → Mm → Option (Int32 × Mm)
  | 0, _, _, _, _, _ => none
  | n + 1, v1, v2, v3, v4, M => bnd (f_X11_diners N M) (fun r16 M17 => (if ((1 : Int32) <<< (r16 &&& 31)) ≤ v4 then (if v1 = (0 : Int32) then some (v2, M17) else (if v2 = (0 : Int32) then some ((0 : Int32), M17) else some (v3, M17))) else bnd (f_X11_fits N v4 M17) (fun r22 M23 => (if r22 = (0 : Int32) then f_X11_bribes_40 N n v1 v2 v3 (v4 + (1 : Int32)) M23 else lt (v3 &&& v4) (fun x27 => f_X11_bribes_40 N n v1 (v2 + (1 : Int32)) x27 (v4 + (1 : Int32)) M23)))))
def f_X11_bribes_17 (N : Nat) (v1 : Int32) (s1 : Int32) (M : Mm) : Option (Int32 × Mm) :=
  bnd (f_X11_throwsIf N s1 (1 : Int32) M) (fun r8 M9 => (if r8 = (0 : Int32) then bnd (f_X11_diners N M9) (fun r12 M13 => lt (((1 : Int32) <<< (r12 &&& 31)) - (1 : Int32)) (fun x15 => f_X11_bribes_40 N N v1 (0 : Int32) x15 (0 : Int32) M13)) else some ((0 : Int32), M9)))
def f_X11_bribes (N : Nat) (v1 : Int32) (M : Mm) : Option (Int32 × Mm) :=
  bnd (f_X11_uses N M) (fun r1 M2 => bnd (f_X11_isTold N M2) (fun r4 M5 => (if r4 = (0 : Int32) then f_X11_bribes_17 N v1 (1 : Int32) M5 else f_X11_bribes_17 N v1 (0 : Int32) M5)))
set_option maxRecDepth 20000 in
set_option maxHeartbeats 4000000 in
theorem ok_X11_bribes_40 {N : Nat} {X : am_X} {l : Launch} (hC : am_C X l (am_rm 13 0 0) cX11_bribes yX11_bribes.cls (some .int)) (hnt : am_NT X) : ∀ (n : Nat) (v1 v2 v3 v4 : Int32) (M : Mm) (r : Int32) (M' : Mm), f_X11_bribes_40 N n v1 v2 v3 v4 M = some (r, M') → am_V X LY M 0 0 (am_Q X LY 0 0 (.inl (some (.int r))) M') 40 [some (.ref 208), some (.int v1), some (.int v2), some (.int v3), some (.int v4)] [] := by
  intro n
  induction n with
  | zero => intro v1 v2 v3 v4 M r M' h; cases h
  | succ n ih =>
    intro v1 v2 v3 v4 M r M' h
    simp only [f_X11_bribes_40] at h
    refine v_iload hC dX11_bribes_40 rfl ?_
    refine v_iconst (v := (1 : Int32)) hC dX11_bribes_42 rfl ?_
    refine v_aload_n hC dX11_bribes_43 rfl ?_
    obtain ⟨r16, M17, q18, h⟩ := bnd_some h
    refine w_callVi hC [] [.int (1 : Int32), .int v4] (ok_X11_diners q18) mv_X11_diners aw_1362 ly_208 rfl (Nat.le_of_ble_eq_true rfl) ⟨by decide, by decide⟩ ⟨by decide, by decide⟩ dX11_bribes_44 ?_
    refine v_ishl hC dX11_bribes_47 ?_
    refine v_icmp_ge hC 77 dX11_bribes_48 rfl (fun c19 => ?_) (fun c19 => ?_)
    · rw [if_pos c19] at h
      refine v_iload_n hC dX11_bribes_77 rfl ?_
      refine v_if_ne hC 85 dX11_bribes_78 rfl (fun c20 => ?_) (fun c20 => ?_)
      · rw [if_neg c20] at h
        refine v_iload_n hC dX11_bribes_85 rfl ?_
        refine v_if_ne hC 93 dX11_bribes_86 rfl (fun c21 => ?_) (fun c21 => ?_)
        · rw [if_neg c21] at h
          refine v_iload_n hC dX11_bribes_93 rfl ?_
          cases h
          exact v_iret hC (by decide) (by decide) dX11_bribes_94
        · rw [if_pos c21] at h
          refine v_iconst (v := (0 : Int32)) hC dX11_bribes_89 rfl ?_
          refine v_goto (tg := 94) hC dX11_bribes_90 rfl ?_
          cases h
          exact v_iret hC (by decide) (by decide) dX11_bribes_94
      · rw [if_pos c20] at h
        refine v_iload_n hC dX11_bribes_81 rfl ?_
        refine v_goto (tg := 94) hC dX11_bribes_82 rfl ?_
        cases h
        exact v_iret hC (by decide) (by decide) dX11_bribes_94
    · rw [if_neg c19] at h
      refine v_aload_n hC dX11_bribes_51 rfl ?_
      refine v_iload hC dX11_bribes_52 rfl ?_
      obtain ⟨r22, M23, q24, h⟩ := bnd_some h
      refine w_callVi hC [.int v4] [] (ok_X11_fits q24) mv_X11_fits aw_1719 ly_208 rfl (Nat.le_of_ble_eq_true rfl) ⟨by decide, by decide⟩ ⟨by decide, by decide⟩ dX11_bribes_54 ?_
      refine v_if_ne hC 63 dX11_bribes_57 rfl (fun c25 => ?_) (fun c25 => ?_)
      · rw [if_neg c25] at h
        refine w_iinc hC (v2 + (1 : Int32)) dX11_bribes_63 rfl rfl [some (.ref 208), some (.int v1), some (.int (v2 + (1 : Int32))), some (.int v3), some (.int v4)] rfl ?_
        refine v_iload_n hC dX11_bribes_66 rfl ?_
        refine v_iload hC dX11_bribes_67 rfl ?_
        refine v_iand hC dX11_bribes_69 ?_
        obtain ⟨x27, e_x27, h⟩ := lt_some h
        refine v_nam e_x27 ?_
        refine w_istore_n hC dX11_bribes_70 (ltk rfl) [some (.ref 208), some (.int v1), some (.int (v2 + (1 : Int32))), some (.int x27), some (.int v4)] rfl ?_
        refine w_iinc hC (v4 + (1 : Int32)) dX11_bribes_71 rfl rfl [some (.ref 208), some (.int v1), some (.int (v2 + (1 : Int32))), some (.int x27), some (.int (v4 + (1 : Int32)))] rfl ?_
        refine v_goto (tg := 40) hC dX11_bribes_74 rfl ?_
        exact ih _ _ _ _ _ _ _ h
      · rw [if_pos c25] at h
        refine v_goto (tg := 71) hC dX11_bribes_60 rfl ?_
        refine w_iinc hC (v4 + (1 : Int32)) dX11_bribes_71 rfl rfl [some (.ref 208), some (.int v1), some (.int v2), some (.int v3), some (.int (v4 + (1 : Int32)))] rfl ?_
        refine v_goto (tg := 40) hC dX11_bribes_74 rfl ?_
        exact ih _ _ _ _ _ _ _ h
set_option maxRecDepth 20000 in
set_option maxHeartbeats 4000000 in
theorem ok_X11_bribes_17 {N : Nat} {X : am_X} {l : Launch} (hC : am_C X l (am_rm 13 0 0) cX11_bribes yX11_bribes.cls (some .int)) (hnt : am_NT X) {v1 s1 : Int32} {M : Mm} {r : Int32} {M' : Mm} (h : f_X11_bribes_17 N v1 s1 M = some (r, M')) : am_V X LY M 0 0 (am_Q X LY 0 0 (.inl (some (.int r))) M') 17 [some (.ref 208), some (.int v1), none, none, none] [.int s1, .ref 208] := by
  unfold f_X11_bribes_17 at h
  refine v_iconst (v := (1 : Int32)) hC dX11_bribes_17 rfl ?_
  obtain ⟨r8, M9, q10, h⟩ := bnd_some h
  refine w_callVi hC [.int s1, .int (1 : Int32)] [] (ok_X11_throwsIf q10) mv_X11_throwsIf aw_1470 ly_208 rfl (Nat.le_of_ble_eq_true rfl) ⟨by decide, by decide⟩ ⟨by decide, by decide⟩ dX11_bribes_18 ?_
  refine v_if_eq hC 26 dX11_bribes_21 rfl (fun c11 => ?_) (fun c11 => ?_)
  · rw [if_pos c11] at h
    refine v_iconst (v := (0 : Int32)) hC dX11_bribes_26 rfl ?_
    refine w_istore_n hC dX11_bribes_27 (ltk rfl) [some (.ref 208), some (.int v1), some (.int (0 : Int32)), none, none] rfl ?_
    refine v_iconst (v := (1 : Int32)) hC dX11_bribes_28 rfl ?_
    refine v_aload_n hC dX11_bribes_29 rfl ?_
    obtain ⟨r12, M13, q14, h⟩ := bnd_some h
    refine w_callVi hC [] [.int (1 : Int32)] (ok_X11_diners q14) mv_X11_diners aw_1362 ly_208 rfl (Nat.le_of_ble_eq_true rfl) ⟨by decide, by decide⟩ ⟨by decide, by decide⟩ dX11_bribes_30 ?_
    refine v_ishl hC dX11_bribes_33 ?_
    refine v_iconst (v := (1 : Int32)) hC dX11_bribes_34 rfl ?_
    refine v_isub hC dX11_bribes_35 ?_
    obtain ⟨x15, e_x15, h⟩ := lt_some h
    refine v_nam e_x15 ?_
    refine w_istore_n hC dX11_bribes_36 (ltk rfl) [some (.ref 208), some (.int v1), some (.int (0 : Int32)), some (.int x15), none] rfl ?_
    refine v_iconst (v := (0 : Int32)) hC dX11_bribes_37 rfl ?_
    refine w_istore hC dX11_bribes_38 (ltk rfl) [some (.ref 208), some (.int v1), some (.int (0 : Int32)), some (.int x15), some (.int (0 : Int32))] rfl ?_
    exact ok_X11_bribes_40 hC hnt N _ _ _ _ _ _ _ h
  · rw [if_neg c11] at h
    refine v_iconst (v := (0 : Int32)) hC dX11_bribes_24 rfl ?_
    cases h
    exact v_iret hC (by decide) (by decide) dX11_bribes_25
set_option maxRecDepth 20000 in
set_option maxHeartbeats 4000000 in
theorem ok_X11_bribes {l : Launch} {N : Nat} {v1 : Int32} {M : Mm} {r : Int32} {M' : Mm} (h : f_X11_bribes N v1 M = some (r, M')) : am_M l yX11_bribes cX11_bribes 5 (some .int) 13 0 0 LY M [.ref 208, .int v1] (.inl (some (.int r))) M' := by
  unfold f_X11_bribes at h
  refine am_intro (by decide) (by simp [Value.category]) (Nat.le_of_ble_eq_true rfl) (fun X hC hnt => ?_)
  refine am_start (L := [some (.ref 208), some (.int v1), none, none, none]) rfl ?_
  refine v_aload_n hC dX11_bribes_0 rfl ?_
  obtain ⟨r1, M2, q3, h⟩ := bnd_some h
  refine w_callVv hC [] [] (ok_X11_uses q3) mv_X11_uses aw_1327 ly_208 rfl (Nat.le_of_ble_eq_true rfl) ⟨by decide, by decide⟩ ⟨by decide, by decide⟩ dX11_bribes_1 ?_
  refine v_aload_n hC dX11_bribes_4 rfl ?_
  refine v_aload_n hC dX11_bribes_5 rfl ?_
  obtain ⟨r4, M5, q6, h⟩ := bnd_some h
  refine w_callVi hC [] [.ref 208] (ok_X11_isTold q6) mv_X11_isTold aw_1715 ly_208 rfl (Nat.le_of_ble_eq_true rfl) ⟨by decide, by decide⟩ ⟨by decide, by decide⟩ dX11_bribes_6 ?_
  refine v_if_ne hC 16 dX11_bribes_9 rfl (fun c7 => ?_) (fun c7 => ?_)
  · rw [if_neg c7] at h
    refine v_iconst (v := (0 : Int32)) hC dX11_bribes_16 rfl ?_
    exact ok_X11_bribes_17 hC hnt h
  · rw [if_pos c7] at h
    refine v_iconst (v := (1 : Int32)) hC dX11_bribes_12 rfl ?_
    refine v_goto (tg := 17) hC dX11_bribes_13 rfl ?_
    exact ok_X11_bribes_17 hC hnt h
def f_X11_greatestPart_27 (N : Nat) : Nat → Int32 → Int32 → Int32 → Int32 → Mm → Option (Int32 × Mm)
  | 0, _, _, _, _, _ => none
  | n + 1, v1, v2, v3, v4, M => bnd (f_X11_diners N M) (fun r2 M3 => (if ((1 : Int32) <<< (r2 &&& 31)) ≤ v4 then some (v3, M3) else bnd (f_X11_fits N v4 M3) (fun r6 M7 => (if r6 = (0 : Int32) then f_X11_greatestPart_27 N n v1 v2 v3 (v4 + (1 : Int32)) M7 else lt (wr M7 208 18 v4) (fun M10 => bnd (f_X11_grainsIn N v1 v2 M10) (fun r11 M12 => lt (wr M12 208 18 (0 : Int32)) (fun M14 => grd (inb r11 201) (grd (inb r11 201) (lt (wr M14 218 (r11).toNatClampNeg ((M14 218 (r11).toNatClampNeg) + (1 : Int32))) (fun M17 => grd (inb r11 201) (lt (if v3 < (M17 218 (r11).toNatClampNeg) then (M17 218 (r11).toNatClampNeg) else v3) (fun x19 => f_X11_greatestPart_27 N n v1 v2 x19 (v4 + (1 : Int32)) M17))))))))))))
def f_X11_greatestPart_2 (N : Nat) : Nat → Int32 → Int32 → Int32 → Mm → Option (Int32 × Mm)
  | 0, _, _, _, _ => none
  | n + 1, v1, v2, v3, M => (if (200 : Int32) < v3 then f_X11_greatestPart_27 N N v1 v2 (0 : Int32) (0 : Int32) M else grd (inb v3 201) (lt (wr M 218 (v3).toNatClampNeg (0 : Int32)) (fun M23 => f_X11_greatestPart_2 N n v1 v2 (v3 + (1 : Int32)) M23)))
def f_X11_greatestPart (N : Nat) (v1 : Int32) (v2 : Int32) (M : Mm) : Option (Int32 × Mm) :=
  f_X11_greatestPart_2 N N v1 v2 (0 : Int32) M
set_option maxRecDepth 20000 in
set_option maxHeartbeats 4000000 in
theorem ok_X11_greatestPart_27 {N : Nat} {X : am_X} {l : Launch} (hC : am_C X l (am_rm 13 0 0) cX11_greatestPart yX11_greatestPart.cls (some .int)) (hnt : am_NT X) : ∀ (n : Nat) (v1 v2 v3 v4 : Int32) (M : Mm) (r : Int32) (M' : Mm), f_X11_greatestPart_27 N n v1 v2 v3 v4 M = some (r, M') → am_V X LY M 0 0 (am_Q X LY 0 0 (.inl (some (.int r))) M') 27 [some (.ref 208), some (.int v1), some (.int v2), some (.int v3), some (.int v4), none] [] := by
  intro n
  induction n with
  | zero => intro v1 v2 v3 v4 M r M' h; cases h
  | succ n ih =>
    intro v1 v2 v3 v4 M r M' h
    simp only [f_X11_greatestPart_27] at h
    refine v_iload hC dX11_greatestPart_27 rfl ?_
    refine v_iconst (v := (1 : Int32)) hC dX11_greatestPart_29 rfl ?_
    refine v_aload_n hC dX11_greatestPart_30 rfl ?_
    obtain ⟨r2, M3, q4, h⟩ := bnd_some h
    refine w_callVi hC [] [.int (1 : Int32), .int v4] (ok_X11_diners q4) mv_X11_diners aw_1362 ly_208 rfl (Nat.le_of_ble_eq_true rfl) ⟨by decide, by decide⟩ ⟨by decide, by decide⟩ dX11_greatestPart_31 ?_
    refine v_ishl hC dX11_greatestPart_34 ?_
    refine v_icmp_ge hC 98 dX11_greatestPart_35 rfl (fun c5 => ?_) (fun c5 => ?_)
    · rw [if_pos c5] at h
      refine v_iload_n hC dX11_greatestPart_98 rfl ?_
      cases h
      exact v_iret hC (by decide) (by decide) dX11_greatestPart_99
    · rw [if_neg c5] at h
      refine v_aload_n hC dX11_greatestPart_38 rfl ?_
      refine v_iload hC dX11_greatestPart_39 rfl ?_
      obtain ⟨r6, M7, q8, h⟩ := bnd_some h
      refine w_callVi hC [.int v4] [] (ok_X11_fits q8) mv_X11_fits aw_1719 ly_208 rfl (Nat.le_of_ble_eq_true rfl) ⟨by decide, by decide⟩ ⟨by decide, by decide⟩ dX11_greatestPart_41 ?_
      refine v_if_ne hC 50 dX11_greatestPart_44 rfl (fun c9 => ?_) (fun c9 => ?_)
      · rw [if_neg c9] at h
        refine v_aload_n hC dX11_greatestPart_50 rfl ?_
        refine v_iload hC dX11_greatestPart_51 rfl ?_
        obtain ⟨M10, e_M10, h⟩ := lt_some h
        refine w_puti (k := 18) hC cls_X11 ly_208 (by decide) rfl aw_1249 rfl rfl ⟨rfl, rfl⟩ dX11_greatestPart_53 e_M10 ?_
        refine v_aload_n hC dX11_greatestPart_56 rfl ?_
        refine v_iload_n hC dX11_greatestPart_57 rfl ?_
        refine v_iload_n hC dX11_greatestPart_58 rfl ?_
        obtain ⟨r11, M12, q13, h⟩ := bnd_some h
        refine w_callVi hC [.int v1, .int v2] [] (ok_X11_grainsIn q13) mv_X11_grainsIn aw_1686 ly_208 rfl (Nat.le_of_ble_eq_true rfl) ⟨by decide, by decide⟩ ⟨by decide, by decide⟩ dX11_greatestPart_59 ?_
        refine w_istore hC dX11_greatestPart_62 (ltk rfl) [some (.ref 208), some (.int v1), some (.int v2), some (.int v3), some (.int v4), some (.int r11)] rfl ?_
        refine v_aload_n hC dX11_greatestPart_64 rfl ?_
        refine v_iconst (v := (0 : Int32)) hC dX11_greatestPart_65 rfl ?_
        obtain ⟨M14, e_M14, h⟩ := lt_some h
        refine w_puti (k := 18) hC cls_X11 ly_208 (by decide) rfl aw_1249 rfl rfl ⟨rfl, rfl⟩ dX11_greatestPart_66 e_M14 ?_
        refine v_aload_n hC dX11_greatestPart_69 rfl ?_
        refine v_geta (k := 20) (b := 218) hC cls_X11 ly_208 (by decide) rfl aw_1251 rfl dX11_greatestPart_70 ?_
        refine v_iload hC dX11_greatestPart_73 rfl ?_
        refine v_dup2 hC dX11_greatestPart_75 rfl rfl ?_
        obtain ⟨g15, h⟩ := grd_some h
        refine v_iald hC ly_218 (inb_in g15) dX11_greatestPart_76 ?_
        refine v_iconst (v := (1 : Int32)) hC dX11_greatestPart_77 rfl ?_
        refine v_iadd hC dX11_greatestPart_78 ?_
        obtain ⟨g16, h⟩ := grd_some h
        obtain ⟨M17, e_M17, h⟩ := lt_some h
        refine w_iast hC ly_218 (inb_in g16) dX11_greatestPart_79 e_M17 ?_
        refine v_iload_n hC dX11_greatestPart_80 rfl ?_
        refine v_aload_n hC dX11_greatestPart_81 rfl ?_
        refine v_geta (k := 20) (b := 218) hC cls_X11 ly_208 (by decide) rfl aw_1251 rfl dX11_greatestPart_82 ?_
        refine v_iload hC dX11_greatestPart_85 rfl ?_
        obtain ⟨g18, h⟩ := grd_some h
        refine v_iald hC ly_218 (inb_in g18) dX11_greatestPart_87 ?_
        refine v_mmax hC aw_1537 wm_max (Nat.le_of_ble_eq_true rfl) (Nat.le_of_ble_eq_true rfl) (Nat.le_of_ble_eq_true rfl) (Nat.le_of_ble_eq_true rfl) dX11_greatestPart_88 ?_
        obtain ⟨x19, e_x19, h⟩ := lt_some h
        refine v_nam e_x19 ?_
        refine w_istore_n hC dX11_greatestPart_91 (ltk rfl) [some (.ref 208), some (.int v1), some (.int v2), some (.int x19), some (.int v4), some (.int r11)] rfl ?_
        refine w_iinc hC (v4 + (1 : Int32)) dX11_greatestPart_92 rfl rfl [some (.ref 208), some (.int v1), some (.int v2), some (.int x19), some (.int (v4 + (1 : Int32))), some (.int r11)] rfl ?_
        refine v_goto (tg := 27) hC dX11_greatestPart_95 rfl ?_
        refine v_drop [true, true, true, true, true, false] [some (.ref 208), some (.int v1), some (.int v2), some (.int x19), some (.int (v4 + (1 : Int32))), none] rfl ?_
        exact ih _ _ _ _ _ _ _ h
      · rw [if_pos c9] at h
        refine v_goto (tg := 92) hC dX11_greatestPart_47 rfl ?_
        refine w_iinc hC (v4 + (1 : Int32)) dX11_greatestPart_92 rfl rfl [some (.ref 208), some (.int v1), some (.int v2), some (.int v3), some (.int (v4 + (1 : Int32))), none] rfl ?_
        refine v_goto (tg := 27) hC dX11_greatestPart_95 rfl ?_
        exact ih _ _ _ _ _ _ _ h
set_option maxRecDepth 20000 in
set_option maxHeartbeats 4000000 in
theorem ok_X11_greatestPart_2 {N : Nat} {X : am_X} {l : Launch} (hC : am_C X l (am_rm 13 0 0) cX11_greatestPart yX11_greatestPart.cls (some .int)) (hnt : am_NT X) : ∀ (n : Nat) (v1 v2 v3 : Int32) (M : Mm) (r : Int32) (M' : Mm), f_X11_greatestPart_2 N n v1 v2 v3 M = some (r, M') → am_V X LY M 0 0 (am_Q X LY 0 0 (.inl (some (.int r))) M') 2 [some (.ref 208), some (.int v1), some (.int v2), some (.int v3), none, none] [] := by
  intro n
  induction n with
  | zero => intro v1 v2 v3 M r M' h; cases h
  | succ n ih =>
    intro v1 v2 v3 M r M' h
    simp only [f_X11_greatestPart_2] at h
    refine v_iload_n hC dX11_greatestPart_2 rfl ?_
    refine v_sipush (v := (200 : Int32)) hC dX11_greatestPart_3 rfl ?_
    refine v_icmp_gt hC 22 dX11_greatestPart_6 rfl (fun c1 => ?_) (fun c1 => ?_)
    · rw [if_pos c1] at h
      refine v_iconst (v := (0 : Int32)) hC dX11_greatestPart_22 rfl ?_
      refine w_istore_n hC dX11_greatestPart_23 (ltk rfl) [some (.ref 208), some (.int v1), some (.int v2), some (.int (0 : Int32)), none, none] rfl ?_
      refine v_iconst (v := (0 : Int32)) hC dX11_greatestPart_24 rfl ?_
      refine w_istore hC dX11_greatestPart_25 (ltk rfl) [some (.ref 208), some (.int v1), some (.int v2), some (.int (0 : Int32)), some (.int (0 : Int32)), none] rfl ?_
      exact ok_X11_greatestPart_27 hC hnt N _ _ _ _ _ _ _ h
    · rw [if_neg c1] at h
      refine v_aload_n hC dX11_greatestPart_9 rfl ?_
      refine v_geta (k := 20) (b := 218) hC cls_X11 ly_208 (by decide) rfl aw_1251 rfl dX11_greatestPart_10 ?_
      refine v_iload_n hC dX11_greatestPart_13 rfl ?_
      refine v_iconst (v := (0 : Int32)) hC dX11_greatestPart_14 rfl ?_
      obtain ⟨g22, h⟩ := grd_some h
      obtain ⟨M23, e_M23, h⟩ := lt_some h
      refine w_iast hC ly_218 (inb_in g22) dX11_greatestPart_15 e_M23 ?_
      refine w_iinc hC (v3 + (1 : Int32)) dX11_greatestPart_16 rfl rfl [some (.ref 208), some (.int v1), some (.int v2), some (.int (v3 + (1 : Int32))), none, none] rfl ?_
      refine v_goto (tg := 2) hC dX11_greatestPart_19 rfl ?_
      exact ih _ _ _ _ _ _ h
set_option maxRecDepth 20000 in
set_option maxHeartbeats 4000000 in
theorem ok_X11_greatestPart {l : Launch} {N : Nat} {v1 v2 : Int32} {M : Mm} {r : Int32} {M' : Mm} (h : f_X11_greatestPart N v1 v2 M = some (r, M')) : am_M l yX11_greatestPart cX11_greatestPart 6 (some .int) 13 0 0 LY M [.ref 208, .int v1, .int v2] (.inl (some (.int r))) M' := by
  unfold f_X11_greatestPart at h
  refine am_intro (by decide) (by simp [Value.category]) (Nat.le_of_ble_eq_true rfl) (fun X hC hnt => ?_)
  refine am_start (L := [some (.ref 208), some (.int v1), some (.int v2), none, none, none]) rfl ?_
  refine v_iconst (v := (0 : Int32)) hC dX11_greatestPart_0 rfl ?_
  refine w_istore_n hC dX11_greatestPart_1 (ltk rfl) [some (.ref 208), some (.int v1), some (.int v2), some (.int (0 : Int32)), none, none] rfl ?_
  exact ok_X11_greatestPart_2 hC hnt N _ _ _ _ _ _ h
def f_X11_howManyFit_4 (N : Nat) : Nat → Int32 → Int32 → Mm → Option (Int32 × Mm)
  | 0, _, _, _ => none
  | n + 1, v1, v2, M => bnd (f_X11_diners N M) (fun r1 M2 => (if ((1 : Int32) <<< (r1 &&& 31)) ≤ v2 then some (v1, M2) else bnd (f_X11_fits N v2 M2) (fun r5 M6 => (if r5 = (0 : Int32) then lt (v1 + (0 : Int32)) (fun x9 => f_X11_howManyFit_4 N n x9 (v2 + (1 : Int32)) M6) else lt (v1 + (1 : Int32)) (fun x11 => f_X11_howManyFit_4 N n x11 (v2 + (1 : Int32)) M6)))))
def f_X11_howManyFit (N : Nat) (M : Mm) : Option (Int32 × Mm) :=
  f_X11_howManyFit_4 N N (0 : Int32) (0 : Int32) M
set_option maxRecDepth 20000 in
set_option maxHeartbeats 4000000 in
theorem ok_X11_howManyFit_4 {N : Nat} {X : am_X} {l : Launch} (hC : am_C X l (am_rm 13 0 0) cX11_howManyFit yX11_howManyFit.cls (some .int)) (hnt : am_NT X) : ∀ (n : Nat) (v1 v2 : Int32) (M : Mm) (r : Int32) (M' : Mm), f_X11_howManyFit_4 N n v1 v2 M = some (r, M') → am_V X LY M 0 0 (am_Q X LY 0 0 (.inl (some (.int r))) M') 4 [some (.ref 208), some (.int v1), some (.int v2)] [] := by
  intro n
  induction n with
  | zero => intro v1 v2 M r M' h; cases h
  | succ n ih =>
    intro v1 v2 M r M' h
    simp only [f_X11_howManyFit_4] at h
    refine v_iload_n hC dX11_howManyFit_4 rfl ?_
    refine v_iconst (v := (1 : Int32)) hC dX11_howManyFit_5 rfl ?_
    refine v_aload_n hC dX11_howManyFit_6 rfl ?_
    obtain ⟨r1, M2, q3, h⟩ := bnd_some h
    refine w_callVi hC [] [.int (1 : Int32), .int v2] (ok_X11_diners q3) mv_X11_diners aw_1362 ly_208 rfl (Nat.le_of_ble_eq_true rfl) ⟨by decide, by decide⟩ ⟨by decide, by decide⟩ dX11_howManyFit_7 ?_
    refine v_ishl hC dX11_howManyFit_10 ?_
    refine v_icmp_ge hC 36 dX11_howManyFit_11 rfl (fun c4 => ?_) (fun c4 => ?_)
    · rw [if_pos c4] at h
      refine v_iload_n hC dX11_howManyFit_36 rfl ?_
      cases h
      exact v_iret hC (by decide) (by decide) dX11_howManyFit_37
    · rw [if_neg c4] at h
      refine v_iload_n hC dX11_howManyFit_14 rfl ?_
      refine v_aload_n hC dX11_howManyFit_15 rfl ?_
      refine v_iload_n hC dX11_howManyFit_16 rfl ?_
      obtain ⟨r5, M6, q7, h⟩ := bnd_some h
      refine w_callVi hC [.int v2] [.int v1] (ok_X11_fits q7) mv_X11_fits aw_1719 ly_208 rfl (Nat.le_of_ble_eq_true rfl) ⟨by decide, by decide⟩ ⟨by decide, by decide⟩ dX11_howManyFit_17 ?_
      refine v_if_eq hC 27 dX11_howManyFit_20 rfl (fun c8 => ?_) (fun c8 => ?_)
      · rw [if_pos c8] at h
        refine v_iconst (v := (0 : Int32)) hC dX11_howManyFit_27 rfl ?_
        refine v_iadd hC dX11_howManyFit_28 ?_
        obtain ⟨x9, e_x9, h⟩ := lt_some h
        refine v_nam e_x9 ?_
        refine w_istore_n hC dX11_howManyFit_29 (ltk rfl) [some (.ref 208), some (.int x9), some (.int v2)] rfl ?_
        refine w_iinc hC (v2 + (1 : Int32)) dX11_howManyFit_30 rfl rfl [some (.ref 208), some (.int x9), some (.int (v2 + (1 : Int32)))] rfl ?_
        refine v_goto (tg := 4) hC dX11_howManyFit_33 rfl ?_
        exact ih _ _ _ _ _ h
      · rw [if_neg c8] at h
        refine v_iconst (v := (1 : Int32)) hC dX11_howManyFit_23 rfl ?_
        refine v_goto (tg := 28) hC dX11_howManyFit_24 rfl ?_
        refine v_iadd hC dX11_howManyFit_28 ?_
        obtain ⟨x11, e_x11, h⟩ := lt_some h
        refine v_nam e_x11 ?_
        refine w_istore_n hC dX11_howManyFit_29 (ltk rfl) [some (.ref 208), some (.int x11), some (.int v2)] rfl ?_
        refine w_iinc hC (v2 + (1 : Int32)) dX11_howManyFit_30 rfl rfl [some (.ref 208), some (.int x11), some (.int (v2 + (1 : Int32)))] rfl ?_
        refine v_goto (tg := 4) hC dX11_howManyFit_33 rfl ?_
        exact ih _ _ _ _ _ h
set_option maxRecDepth 20000 in
set_option maxHeartbeats 4000000 in
theorem ok_X11_howManyFit {l : Launch} {N : Nat} {M : Mm} {r : Int32} {M' : Mm} (h : f_X11_howManyFit N M = some (r, M')) : am_M l yX11_howManyFit cX11_howManyFit 3 (some .int) 13 0 0 LY M [.ref 208] (.inl (some (.int r))) M' := by
  unfold f_X11_howManyFit at h
  refine am_intro (by decide) (by simp [Value.category]) (Nat.le_of_ble_eq_true rfl) (fun X hC hnt => ?_)
  refine am_start (L := [some (.ref 208), none, none]) rfl ?_
  refine v_iconst (v := (0 : Int32)) hC dX11_howManyFit_0 rfl ?_
  refine w_istore_n hC dX11_howManyFit_1 (ltk rfl) [some (.ref 208), some (.int (0 : Int32)), none] rfl ?_
  refine v_iconst (v := (0 : Int32)) hC dX11_howManyFit_2 rfl ?_
  refine w_istore_n hC dX11_howManyFit_3 (ltk rfl) [some (.ref 208), some (.int (0 : Int32)), some (.int (0 : Int32))] rfl ?_
  exact ok_X11_howManyFit_4 hC hnt N _ _ _ _ _ h
def f_X11_ask_85 (N : Nat) (k55 : Int32 → Int32 → Int32 → Int32 → Mm → Option (Int32 × Mm)) (v1 : Int32) (v3 : Int32) (v4 : Int32) (v5 : Int32) (s0 : Int32) (M : Mm) : Option (Int32 × Mm) :=
  lt (if v5 < v3 then v5 else v3) (fun x24 => k55 v1 s0 x24 (v4 + (1 : Int32)) M)
def f_X11_ask_55 (N : Nat) : Nat → Int32 → Int32 → Int32 → Int32 → Mm → Option (Int32 × Mm)
  | 0, _, _, _, _, _ => none
  | n + 1, v1, v2, v3, v4, M => bnd (f_X11_cellars N M) (fun r16 M17 => (if r16 ≤ v4 then some (v2, M17) else bnd (f_X11_greatestPart N v4 v1 M17) (fun r20 M21 => (if v3 ≤ r20 then f_X11_ask_85 N (fun v1 v2 v3 v4 M => f_X11_ask_55 N n v1 v2 v3 v4 M) v1 v3 v4 r20 v2 M21 else f_X11_ask_85 N (fun v1 v2 v3 v4 M => f_X11_ask_55 N n v1 v2 v3 v4 M) v1 v3 v4 r20 v4 M21))))
def f_X11_ask_27 (N : Nat) (v1 : Int32) (s1 : Int32) (M : Mm) : Option (Int32 × Mm) :=
  bnd (f_X11_throwsIf N s1 (1 : Int32) M) (fun r8 M9 => (if r8 = (0 : Int32) then bnd (f_X11_howManyFit N M9) (fun r12 M13 => (if (2 : Int32) ≤ r12 then f_X11_ask_55 N N v1 (-1 : Int32) (1000000 : Int32) (0 : Int32) M13 else some ((-1 : Int32), M13))) else some ((0 : Int32), M9)))
def f_X11_ask_22 (N : Nat) (v1 : Int32) (M : Mm) : Option (Int32 × Mm) :=
  f_X11_ask_27 N v1 (1 : Int32) M
def f_X11_ask (N : Nat) (v1 : Int32) (M : Mm) : Option (Int32 × Mm) :=
  bnd (f_X11_uses N M) (fun r1 M2 => bnd (f_X11_isTold N M2) (fun r4 M5 => (if r4 = (0 : Int32) then f_X11_ask_22 N v1 M5 else bnd (f_X11_in N v1 (1 : Int32) (24 : Int32) M5) (fun r26 M27 => (if r26 = (0 : Int32) then f_X11_ask_22 N v1 M27 else f_X11_ask_27 N v1 (0 : Int32) M27)))))
set_option maxRecDepth 20000 in
set_option maxHeartbeats 4000000 in
theorem ok_X11_ask_85 {N : Nat} {X : am_X} {l : Launch} (hC : am_C X l (am_rm 14 0 0) cX11_ask yX11_ask.cls (some .int)) (hnt : am_NT X) {k55 : Int32 → Int32 → Int32 → Int32 → Mm → Option (Int32 × Mm)} (hk55 : ∀ (v1 v2 v3 v4 : Int32) (M : Mm) (r : Int32) (M' : Mm), k55 v1 v2 v3 v4 M = some (r, M') → am_V X LY M 0 0 (am_Q X LY 0 0 (.inl (some (.int r))) M') 55 [some (.ref 208), some (.int v1), some (.int v2), some (.int v3), some (.int v4), none] []) {v1 v3 v4 v5 s0 : Int32} {M : Mm} {r : Int32} {M' : Mm} (h : f_X11_ask_85 N k55 v1 v3 v4 v5 s0 M = some (r, M')) : am_V X LY M 0 0 (am_Q X LY 0 0 (.inl (some (.int r))) M') 85 [some (.ref 208), some (.int v1), none, some (.int v3), some (.int v4), some (.int v5)] [.int s0] := by
  unfold f_X11_ask_85 at h
  refine w_istore_n hC dX11_ask_85 (ltk rfl) [some (.ref 208), some (.int v1), some (.int s0), some (.int v3), some (.int v4), some (.int v5)] rfl ?_
  refine v_iload_n hC dX11_ask_86 rfl ?_
  refine v_iload hC dX11_ask_87 rfl ?_
  refine v_mmin hC aw_1550 wm_min (Nat.le_of_ble_eq_true rfl) (Nat.le_of_ble_eq_true rfl) (Nat.le_of_ble_eq_true rfl) (Nat.le_of_ble_eq_true rfl) dX11_ask_89 ?_
  obtain ⟨x24, e_x24, h⟩ := lt_some h
  refine v_nam e_x24 ?_
  refine w_istore_n hC dX11_ask_92 (ltk rfl) [some (.ref 208), some (.int v1), some (.int s0), some (.int x24), some (.int v4), some (.int v5)] rfl ?_
  refine w_iinc hC (v4 + (1 : Int32)) dX11_ask_93 rfl rfl [some (.ref 208), some (.int v1), some (.int s0), some (.int x24), some (.int (v4 + (1 : Int32))), some (.int v5)] rfl ?_
  refine v_goto (tg := 55) hC dX11_ask_96 rfl ?_
  refine v_drop [true, true, true, true, true, false] [some (.ref 208), some (.int v1), some (.int s0), some (.int x24), some (.int (v4 + (1 : Int32))), none] rfl ?_
  exact hk55 _ _ _ _ _ _ _ h
set_option maxRecDepth 20000 in
set_option maxHeartbeats 4000000 in
theorem ok_X11_ask_55 {N : Nat} {X : am_X} {l : Launch} (hC : am_C X l (am_rm 14 0 0) cX11_ask yX11_ask.cls (some .int)) (hnt : am_NT X) : ∀ (n : Nat) (v1 v2 v3 v4 : Int32) (M : Mm) (r : Int32) (M' : Mm), f_X11_ask_55 N n v1 v2 v3 v4 M = some (r, M') → am_V X LY M 0 0 (am_Q X LY 0 0 (.inl (some (.int r))) M') 55 [some (.ref 208), some (.int v1), some (.int v2), some (.int v3), some (.int v4), none] [] := by
  intro n
  induction n with
  | zero => intro v1 v2 v3 v4 M r M' h; cases h
  | succ n ih =>
    intro v1 v2 v3 v4 M r M' h
    simp only [f_X11_ask_55] at h
    refine v_iload hC dX11_ask_55 rfl ?_
    refine v_aload_n hC dX11_ask_57 rfl ?_
    obtain ⟨r16, M17, q18, h⟩ := bnd_some h
    refine w_callVi hC [] [.int v4] (ok_X11_cellars q18) mv_X11_cellars aw_1397 ly_208 rfl (Nat.le_of_ble_eq_true rfl) ⟨by decide, by decide⟩ ⟨by decide, by decide⟩ dX11_ask_58 ?_
    refine v_icmp_ge hC 99 dX11_ask_61 rfl (fun c19 => ?_) (fun c19 => ?_)
    · rw [if_pos c19] at h
      refine v_iload_n hC dX11_ask_99 rfl ?_
      cases h
      exact v_iret hC (by decide) (by decide) dX11_ask_100
    · rw [if_neg c19] at h
      refine v_aload_n hC dX11_ask_64 rfl ?_
      refine v_iload hC dX11_ask_65 rfl ?_
      refine v_iload_n hC dX11_ask_67 rfl ?_
      obtain ⟨r20, M21, q22, h⟩ := bnd_some h
      refine w_callVi hC [.int v4, .int v1] [] (ok_X11_greatestPart q22) mv_X11_greatestPart aw_1731 ly_208 rfl (Nat.le_of_ble_eq_true rfl) ⟨by decide, by decide⟩ ⟨by decide, by decide⟩ dX11_ask_68 ?_
      refine w_istore hC dX11_ask_71 (ltk rfl) [some (.ref 208), some (.int v1), some (.int v2), some (.int v3), some (.int v4), some (.int r20)] rfl ?_
      refine v_iload hC dX11_ask_73 rfl ?_
      refine v_iload_n hC dX11_ask_75 rfl ?_
      refine v_icmp_ge hC 84 dX11_ask_76 rfl (fun c23 => ?_) (fun c23 => ?_)
      · rw [if_pos c23] at h
        refine v_iload_n hC dX11_ask_84 rfl ?_
        refine v_drop [true, true, false, true, true, true] [some (.ref 208), some (.int v1), none, some (.int v3), some (.int v4), some (.int r20)] rfl ?_
        exact ok_X11_ask_85 hC hnt (fun v1 v2 v3 v4 M r M' h => ih v1 v2 v3 v4 M r M' h) h
      · rw [if_neg c23] at h
        refine v_iload hC dX11_ask_79 rfl ?_
        refine v_goto (tg := 85) hC dX11_ask_81 rfl ?_
        refine v_drop [true, true, false, true, true, true] [some (.ref 208), some (.int v1), none, some (.int v3), some (.int v4), some (.int r20)] rfl ?_
        exact ok_X11_ask_85 hC hnt (fun v1 v2 v3 v4 M r M' h => ih v1 v2 v3 v4 M r M' h) h
set_option maxRecDepth 20000 in
set_option maxHeartbeats 4000000 in
theorem ok_X11_ask_27 {N : Nat} {X : am_X} {l : Launch} (hC : am_C X l (am_rm 14 0 0) cX11_ask yX11_ask.cls (some .int)) (hnt : am_NT X) {v1 s1 : Int32} {M : Mm} {r : Int32} {M' : Mm} (h : f_X11_ask_27 N v1 s1 M = some (r, M')) : am_V X LY M 0 0 (am_Q X LY 0 0 (.inl (some (.int r))) M') 27 [some (.ref 208), some (.int v1), none, none, none, none] [.int s1, .ref 208] := by
  unfold f_X11_ask_27 at h
  refine v_iconst (v := (1 : Int32)) hC dX11_ask_27 rfl ?_
  obtain ⟨r8, M9, q10, h⟩ := bnd_some h
  refine w_callVi hC [.int s1, .int (1 : Int32)] [] (ok_X11_throwsIf q10) mv_X11_throwsIf aw_1470 ly_208 rfl (Nat.le_of_ble_eq_true rfl) ⟨by decide, by decide⟩ ⟨by decide, by decide⟩ dX11_ask_28 ?_
  refine v_if_eq hC 36 dX11_ask_31 rfl (fun c11 => ?_) (fun c11 => ?_)
  · rw [if_pos c11] at h
    refine v_aload_n hC dX11_ask_36 rfl ?_
    obtain ⟨r12, M13, q14, h⟩ := bnd_some h
    refine w_callVi hC [] [] (ok_X11_howManyFit q14) mv_X11_howManyFit aw_1727 ly_208 rfl (Nat.le_of_ble_eq_true rfl) ⟨by decide, by decide⟩ ⟨by decide, by decide⟩ dX11_ask_37 ?_
    refine v_iconst (v := (2 : Int32)) hC dX11_ask_40 rfl ?_
    refine v_icmp_ge hC 46 dX11_ask_41 rfl (fun c15 => ?_) (fun c15 => ?_)
    · rw [if_pos c15] at h
      refine v_iconst (v := (-1 : Int32)) hC dX11_ask_46 rfl ?_
      refine w_istore_n hC dX11_ask_47 (ltk rfl) [some (.ref 208), some (.int v1), some (.int (-1 : Int32)), none, none, none] rfl ?_
      refine v_ldcw hC aw_1639 dX11_ask_48 ?_
      refine w_istore_n hC dX11_ask_51 (ltk rfl) [some (.ref 208), some (.int v1), some (.int (-1 : Int32)), some (.int (1000000 : Int32)), none, none] rfl ?_
      refine v_iconst (v := (0 : Int32)) hC dX11_ask_52 rfl ?_
      refine w_istore hC dX11_ask_53 (ltk rfl) [some (.ref 208), some (.int v1), some (.int (-1 : Int32)), some (.int (1000000 : Int32)), some (.int (0 : Int32)), none] rfl ?_
      exact ok_X11_ask_55 hC hnt N _ _ _ _ _ _ _ h
    · rw [if_neg c15] at h
      refine v_iconst (v := (-1 : Int32)) hC dX11_ask_44 rfl ?_
      cases h
      exact v_iret hC (by decide) (by decide) dX11_ask_45
  · rw [if_neg c11] at h
    refine v_iconst (v := (0 : Int32)) hC dX11_ask_34 rfl ?_
    cases h
    exact v_iret hC (by decide) (by decide) dX11_ask_35
set_option maxRecDepth 20000 in
set_option maxHeartbeats 4000000 in
theorem ok_X11_ask_22 {N : Nat} {X : am_X} {l : Launch} (hC : am_C X l (am_rm 14 0 0) cX11_ask yX11_ask.cls (some .int)) (hnt : am_NT X) {v1 : Int32} {M : Mm} {r : Int32} {M' : Mm} (h : f_X11_ask_22 N v1 M = some (r, M')) : am_V X LY M 0 0 (am_Q X LY 0 0 (.inl (some (.int r))) M') 22 [some (.ref 208), some (.int v1), none, none, none, none] [.ref 208] := by
  unfold f_X11_ask_22 at h
  refine v_iconst (v := (1 : Int32)) hC dX11_ask_22 rfl ?_
  refine v_goto (tg := 27) hC dX11_ask_23 rfl ?_
  exact ok_X11_ask_27 hC hnt h
set_option maxRecDepth 20000 in
set_option maxHeartbeats 4000000 in
theorem ok_X11_ask {l : Launch} {N : Nat} {v1 : Int32} {M : Mm} {r : Int32} {M' : Mm} (h : f_X11_ask N v1 M = some (r, M')) : am_M l yX11_ask cX11_ask 6 (some .int) 14 0 0 LY M [.ref 208, .int v1] (.inl (some (.int r))) M' := by
  unfold f_X11_ask at h
  refine am_intro (by decide) (by simp [Value.category]) (Nat.le_of_ble_eq_true rfl) (fun X hC hnt => ?_)
  refine am_start (L := [some (.ref 208), some (.int v1), none, none, none, none]) rfl ?_
  refine v_aload_n hC dX11_ask_0 rfl ?_
  obtain ⟨r1, M2, q3, h⟩ := bnd_some h
  refine w_callVv hC [] [] (ok_X11_uses q3) mv_X11_uses aw_1327 ly_208 rfl (Nat.le_of_ble_eq_true rfl) ⟨by decide, by decide⟩ ⟨by decide, by decide⟩ dX11_ask_1 ?_
  refine v_aload_n hC dX11_ask_4 rfl ?_
  refine v_aload_n hC dX11_ask_5 rfl ?_
  obtain ⟨r4, M5, q6, h⟩ := bnd_some h
  refine w_callVi hC [] [.ref 208] (ok_X11_isTold q6) mv_X11_isTold aw_1715 ly_208 rfl (Nat.le_of_ble_eq_true rfl) ⟨by decide, by decide⟩ ⟨by decide, by decide⟩ dX11_ask_6 ?_
  refine v_if_eq hC 22 dX11_ask_9 rfl (fun c7 => ?_) (fun c7 => ?_)
  · rw [if_pos c7] at h
    exact ok_X11_ask_22 hC hnt h
  · rw [if_neg c7] at h
    refine v_iload_n hC dX11_ask_12 rfl ?_
    refine v_iconst (v := (1 : Int32)) hC dX11_ask_13 rfl ?_
    refine v_bipush (v := (24 : Int32)) hC dX11_ask_14 rfl ?_
    obtain ⟨r26, M27, q28, h⟩ := bnd_some h
    refine w_callSi hC [.int v1, .int (1 : Int32), .int (24 : Int32)] [.ref 208] (ok_X11_in q28) ms_X11_in aw_1404 rfl (Nat.le_of_ble_eq_true rfl) ⟨by decide, by decide⟩ ⟨by decide, by decide⟩ dX11_ask_16 ?_
    refine v_if_ne hC 26 dX11_ask_19 rfl (fun c29 => ?_) (fun c29 => ?_)
    · rw [if_neg c29] at h
      refine v_iconst (v := (0 : Int32)) hC dX11_ask_26 rfl ?_
      exact ok_X11_ask_27 hC hnt h
    · rw [if_pos c29] at h
      exact ok_X11_ask_22 hC hnt h
def f_X11_worst_58 (N : Nat) (k26 : Int32 → Int32 → Int32 → Int32 → Mm → Option (Int32 × Mm)) (v1 : Int32) (v3 : Int32) (v4 : Int32) (v5 : Int32) (s0 : Int32) (M : Mm) : Option (Int32 × Mm) :=
  lt (if v3 < v5 then v5 else v3) (fun x17 => k26 v1 s0 x17 (v4 + (1 : Int32)) M)
def f_X11_worst_26 (N : Nat) : Nat → Int32 → Int32 → Int32 → Int32 → Mm → Option (Int32 × Mm)
  | 0, _, _, _, _, _ => none
  | n + 1, v1, v2, v3, v4, M => bnd (f_X11_diners N M) (fun r9 M10 => (if r9 ≤ v4 then some (v2, M10) else bnd (f_X11_of N v4 ((3 : Int32) + v1) M10) (fun r13 M14 => (if r13 ≤ v3 then f_X11_worst_58 N (fun v1 v2 v3 v4 M => f_X11_worst_26 N n v1 v2 v3 v4 M) v1 v3 v4 r13 v2 M14 else f_X11_worst_58 N (fun v1 v2 v3 v4 M => f_X11_worst_26 N n v1 v2 v3 v4 M) v1 v3 v4 r13 v4 M14))))
def f_X11_worst (N : Nat) (v1 : Int32) (M : Mm) : Option (Int32 × Mm) :=
  lt (wr M 208 0 (0 : Int32)) (fun M1 => bnd (f_X11_noTrait N v1 M1) (fun r2 M3 => bnd (f_X11_throwsIf N r2 (1 : Int32) M3) (fun r5 M6 => (if r5 = (0 : Int32) then f_X11_worst_26 N N v1 (-1 : Int32) (0 : Int32) (0 : Int32) M6 else some ((0 : Int32), M6)))))
set_option maxRecDepth 20000 in
set_option maxHeartbeats 4000000 in
theorem ok_X11_worst_58 {N : Nat} {X : am_X} {l : Launch} (hC : am_C X l (am_rm 3 0 0) cX11_worst yX11_worst.cls (some .int)) (hnt : am_NT X) {k26 : Int32 → Int32 → Int32 → Int32 → Mm → Option (Int32 × Mm)} (hk26 : ∀ (v1 v2 v3 v4 : Int32) (M : Mm) (r : Int32) (M' : Mm), k26 v1 v2 v3 v4 M = some (r, M') → am_V X LY M 0 0 (am_Q X LY 0 0 (.inl (some (.int r))) M') 26 [some (.ref 208), some (.int v1), some (.int v2), some (.int v3), some (.int v4), none] []) {v1 v3 v4 v5 s0 : Int32} {M : Mm} {r : Int32} {M' : Mm} (h : f_X11_worst_58 N k26 v1 v3 v4 v5 s0 M = some (r, M')) : am_V X LY M 0 0 (am_Q X LY 0 0 (.inl (some (.int r))) M') 58 [some (.ref 208), some (.int v1), none, some (.int v3), some (.int v4), some (.int v5)] [.int s0] := by
  unfold f_X11_worst_58 at h
  refine w_istore_n hC dX11_worst_58 (ltk rfl) [some (.ref 208), some (.int v1), some (.int s0), some (.int v3), some (.int v4), some (.int v5)] rfl ?_
  refine v_iload_n hC dX11_worst_59 rfl ?_
  refine v_iload hC dX11_worst_60 rfl ?_
  refine v_mmax hC aw_1537 wm_max (Nat.le_of_ble_eq_true rfl) (Nat.le_of_ble_eq_true rfl) (Nat.le_of_ble_eq_true rfl) (Nat.le_of_ble_eq_true rfl) dX11_worst_62 ?_
  obtain ⟨x17, e_x17, h⟩ := lt_some h
  refine v_nam e_x17 ?_
  refine w_istore_n hC dX11_worst_65 (ltk rfl) [some (.ref 208), some (.int v1), some (.int s0), some (.int x17), some (.int v4), some (.int v5)] rfl ?_
  refine w_iinc hC (v4 + (1 : Int32)) dX11_worst_66 rfl rfl [some (.ref 208), some (.int v1), some (.int s0), some (.int x17), some (.int (v4 + (1 : Int32))), some (.int v5)] rfl ?_
  refine v_goto (tg := 26) hC dX11_worst_69 rfl ?_
  refine v_drop [true, true, true, true, true, false] [some (.ref 208), some (.int v1), some (.int s0), some (.int x17), some (.int (v4 + (1 : Int32))), none] rfl ?_
  exact hk26 _ _ _ _ _ _ _ h
set_option maxRecDepth 20000 in
set_option maxHeartbeats 4000000 in
theorem ok_X11_worst_26 {N : Nat} {X : am_X} {l : Launch} (hC : am_C X l (am_rm 3 0 0) cX11_worst yX11_worst.cls (some .int)) (hnt : am_NT X) : ∀ (n : Nat) (v1 v2 v3 v4 : Int32) (M : Mm) (r : Int32) (M' : Mm), f_X11_worst_26 N n v1 v2 v3 v4 M = some (r, M') → am_V X LY M 0 0 (am_Q X LY 0 0 (.inl (some (.int r))) M') 26 [some (.ref 208), some (.int v1), some (.int v2), some (.int v3), some (.int v4), none] [] := by
  intro n
  induction n with
  | zero => intro v1 v2 v3 v4 M r M' h; cases h
  | succ n ih =>
    intro v1 v2 v3 v4 M r M' h
    simp only [f_X11_worst_26] at h
    refine v_iload hC dX11_worst_26 rfl ?_
    refine v_aload_n hC dX11_worst_28 rfl ?_
    obtain ⟨r9, M10, q11, h⟩ := bnd_some h
    refine w_callVi hC [] [.int v4] (ok_X11_diners q11) mv_X11_diners aw_1362 ly_208 rfl (Nat.le_of_ble_eq_true rfl) ⟨by decide, by decide⟩ ⟨by decide, by decide⟩ dX11_worst_29 ?_
    refine v_icmp_ge hC 72 dX11_worst_32 rfl (fun c12 => ?_) (fun c12 => ?_)
    · rw [if_pos c12] at h
      refine v_iload_n hC dX11_worst_72 rfl ?_
      cases h
      exact v_iret hC (by decide) (by decide) dX11_worst_73
    · rw [if_neg c12] at h
      refine v_aload_n hC dX11_worst_35 rfl ?_
      refine v_iload hC dX11_worst_36 rfl ?_
      refine v_iconst (v := (3 : Int32)) hC dX11_worst_38 rfl ?_
      refine v_iload_n hC dX11_worst_39 rfl ?_
      refine v_iadd hC dX11_worst_40 ?_
      obtain ⟨r13, M14, q15, h⟩ := bnd_some h
      refine w_callVi hC [.int v4, .int ((3 : Int32) + v1)] [] (ok_X11_of q15) mv_X11_of aw_1380 ly_208 rfl (Nat.le_of_ble_eq_true rfl) ⟨by decide, by decide⟩ ⟨by decide, by decide⟩ dX11_worst_41 ?_
      refine w_istore hC dX11_worst_44 (ltk rfl) [some (.ref 208), some (.int v1), some (.int v2), some (.int v3), some (.int v4), some (.int r13)] rfl ?_
      refine v_iload hC dX11_worst_46 rfl ?_
      refine v_iload_n hC dX11_worst_48 rfl ?_
      refine v_icmp_le hC 57 dX11_worst_49 rfl (fun c16 => ?_) (fun c16 => ?_)
      · rw [if_pos c16] at h
        refine v_iload_n hC dX11_worst_57 rfl ?_
        refine v_drop [true, true, false, true, true, true] [some (.ref 208), some (.int v1), none, some (.int v3), some (.int v4), some (.int r13)] rfl ?_
        exact ok_X11_worst_58 hC hnt (fun v1 v2 v3 v4 M r M' h => ih v1 v2 v3 v4 M r M' h) h
      · rw [if_neg c16] at h
        refine v_iload hC dX11_worst_52 rfl ?_
        refine v_goto (tg := 58) hC dX11_worst_54 rfl ?_
        refine v_drop [true, true, false, true, true, true] [some (.ref 208), some (.int v1), none, some (.int v3), some (.int v4), some (.int r13)] rfl ?_
        exact ok_X11_worst_58 hC hnt (fun v1 v2 v3 v4 M r M' h => ih v1 v2 v3 v4 M r M' h) h
set_option maxRecDepth 20000 in
set_option maxHeartbeats 4000000 in
theorem ok_X11_worst {l : Launch} {N : Nat} {v1 : Int32} {M : Mm} {r : Int32} {M' : Mm} (h : f_X11_worst N v1 M = some (r, M')) : am_M l yX11_worst cX11_worst 6 (some .int) 3 0 0 LY M [.ref 208, .int v1] (.inl (some (.int r))) M' := by
  unfold f_X11_worst at h
  refine am_intro (by decide) (by simp [Value.category]) (Nat.le_of_ble_eq_true rfl) (fun X hC hnt => ?_)
  refine am_start (L := [some (.ref 208), some (.int v1), none, none, none, none]) rfl ?_
  refine v_aload_n hC dX11_worst_0 rfl ?_
  refine v_iconst (v := (0 : Int32)) hC dX11_worst_1 rfl ?_
  obtain ⟨M1, e_M1, h⟩ := lt_some h
  refine w_puti (k := 0) hC cls_X11 ly_208 (by decide) rfl aw_1231 rfl rfl ⟨rfl, rfl⟩ dX11_worst_2 e_M1 ?_
  refine v_aload_n hC dX11_worst_5 rfl ?_
  refine v_iload_n hC dX11_worst_6 rfl ?_
  obtain ⟨r2, M3, q4, h⟩ := bnd_some h
  refine w_callSi hC [.int v1] [.ref 208] (ok_X11_noTrait q4) ms_X11_noTrait aw_1401 rfl (Nat.le_of_ble_eq_true rfl) ⟨by decide, by decide⟩ ⟨by decide, by decide⟩ dX11_worst_7 ?_
  refine v_iconst (v := (1 : Int32)) hC dX11_worst_10 rfl ?_
  obtain ⟨r5, M6, q7, h⟩ := bnd_some h
  refine w_callVi hC [.int r2, .int (1 : Int32)] [] (ok_X11_throwsIf q7) mv_X11_throwsIf aw_1470 ly_208 rfl (Nat.le_of_ble_eq_true rfl) ⟨by decide, by decide⟩ ⟨by decide, by decide⟩ dX11_worst_11 ?_
  refine v_if_eq hC 19 dX11_worst_14 rfl (fun c8 => ?_) (fun c8 => ?_)
  · rw [if_pos c8] at h
    refine v_iconst (v := (-1 : Int32)) hC dX11_worst_19 rfl ?_
    refine w_istore_n hC dX11_worst_20 (ltk rfl) [some (.ref 208), some (.int v1), some (.int (-1 : Int32)), none, none, none] rfl ?_
    refine v_iconst (v := (0 : Int32)) hC dX11_worst_21 rfl ?_
    refine w_istore_n hC dX11_worst_22 (ltk rfl) [some (.ref 208), some (.int v1), some (.int (-1 : Int32)), some (.int (0 : Int32)), none, none] rfl ?_
    refine v_iconst (v := (0 : Int32)) hC dX11_worst_23 rfl ?_
    refine w_istore hC dX11_worst_24 (ltk rfl) [some (.ref 208), some (.int v1), some (.int (-1 : Int32)), some (.int (0 : Int32)), some (.int (0 : Int32)), none] rfl ?_
    exact ok_X11_worst_26 hC hnt N _ _ _ _ _ _ _ h
  · rw [if_neg c8] at h
    refine v_iconst (v := (0 : Int32)) hC dX11_worst_17 rfl ?_
    cases h
    exact v_iret hC (by decide) (by decide) dX11_worst_18
def f_X11_traitOf_33 (N : Nat) (k7 : Int32 → Int32 → Int32 → Int32 → Mm → Option (Int32 × Mm)) (v1 : Int32) (v3 : Int32) (v4 : Int32) (s0 : Int32) (M : Mm) : Option (Int32 × Mm) :=
  bnd (f_X11_of N v1 ((3 : Int32) + v4) M) (fun r6 M7 => lt (if v3 < r6 then r6 else v3) (fun x9 => k7 v1 s0 x9 (v4 + (1 : Int32)) M7))
def f_X11_traitOf_7 (N : Nat) : Nat → Int32 → Int32 → Int32 → Int32 → Mm → Option (Int32 × Mm)
  | 0, _, _, _, _, _ => none
  | n + 1, v1, v2, v3, v4, M => (if (6 : Int32) ≤ v4 then some (v2, M) else bnd (f_X11_of N v1 ((3 : Int32) + v4) M) (fun r2 M3 => (if r2 ≤ v3 then f_X11_traitOf_33 N (fun v1 v2 v3 v4 M => f_X11_traitOf_7 N n v1 v2 v3 v4 M) v1 v3 v4 v2 M3 else f_X11_traitOf_33 N (fun v1 v2 v3 v4 M => f_X11_traitOf_7 N n v1 v2 v3 v4 M) v1 v3 v4 v4 M3)))
def f_X11_traitOf (N : Nat) (v1 : Int32) (M : Mm) : Option (Int32 × Mm) :=
  f_X11_traitOf_7 N N v1 (-1 : Int32) (0 : Int32) (0 : Int32) M
set_option maxRecDepth 20000 in
set_option maxHeartbeats 4000000 in
theorem ok_X11_traitOf_33 {N : Nat} {X : am_X} {l : Launch} (hC : am_C X l (am_rm 3 0 0) cX11_traitOf yX11_traitOf.cls (some .int)) (hnt : am_NT X) {k7 : Int32 → Int32 → Int32 → Int32 → Mm → Option (Int32 × Mm)} (hk7 : ∀ (v1 v2 v3 v4 : Int32) (M : Mm) (r : Int32) (M' : Mm), k7 v1 v2 v3 v4 M = some (r, M') → am_V X LY M 0 0 (am_Q X LY 0 0 (.inl (some (.int r))) M') 7 [some (.ref 208), some (.int v1), some (.int v2), some (.int v3), some (.int v4)] []) {v1 v3 v4 s0 : Int32} {M : Mm} {r : Int32} {M' : Mm} (h : f_X11_traitOf_33 N k7 v1 v3 v4 s0 M = some (r, M')) : am_V X LY M 0 0 (am_Q X LY 0 0 (.inl (some (.int r))) M') 33 [some (.ref 208), some (.int v1), none, some (.int v3), some (.int v4)] [.int s0] := by
  unfold f_X11_traitOf_33 at h
  refine w_istore_n hC dX11_traitOf_33 (ltk rfl) [some (.ref 208), some (.int v1), some (.int s0), some (.int v3), some (.int v4)] rfl ?_
  refine v_iload_n hC dX11_traitOf_34 rfl ?_
  refine v_aload_n hC dX11_traitOf_35 rfl ?_
  refine v_iload_n hC dX11_traitOf_36 rfl ?_
  refine v_iconst (v := (3 : Int32)) hC dX11_traitOf_37 rfl ?_
  refine v_iload hC dX11_traitOf_38 rfl ?_
  refine v_iadd hC dX11_traitOf_40 ?_
  obtain ⟨r6, M7, q8, h⟩ := bnd_some h
  refine w_callVi hC [.int v1, .int ((3 : Int32) + v4)] [.int v3] (ok_X11_of q8) mv_X11_of aw_1380 ly_208 rfl (Nat.le_of_ble_eq_true rfl) ⟨by decide, by decide⟩ ⟨by decide, by decide⟩ dX11_traitOf_41 ?_
  refine v_mmax hC aw_1537 wm_max (Nat.le_of_ble_eq_true rfl) (Nat.le_of_ble_eq_true rfl) (Nat.le_of_ble_eq_true rfl) (Nat.le_of_ble_eq_true rfl) dX11_traitOf_44 ?_
  obtain ⟨x9, e_x9, h⟩ := lt_some h
  refine v_nam e_x9 ?_
  refine w_istore_n hC dX11_traitOf_47 (ltk rfl) [some (.ref 208), some (.int v1), some (.int s0), some (.int x9), some (.int v4)] rfl ?_
  refine w_iinc hC (v4 + (1 : Int32)) dX11_traitOf_48 rfl rfl [some (.ref 208), some (.int v1), some (.int s0), some (.int x9), some (.int (v4 + (1 : Int32)))] rfl ?_
  refine v_goto (tg := 7) hC dX11_traitOf_51 rfl ?_
  exact hk7 _ _ _ _ _ _ _ h
set_option maxRecDepth 20000 in
set_option maxHeartbeats 4000000 in
theorem ok_X11_traitOf_7 {N : Nat} {X : am_X} {l : Launch} (hC : am_C X l (am_rm 3 0 0) cX11_traitOf yX11_traitOf.cls (some .int)) (hnt : am_NT X) : ∀ (n : Nat) (v1 v2 v3 v4 : Int32) (M : Mm) (r : Int32) (M' : Mm), f_X11_traitOf_7 N n v1 v2 v3 v4 M = some (r, M') → am_V X LY M 0 0 (am_Q X LY 0 0 (.inl (some (.int r))) M') 7 [some (.ref 208), some (.int v1), some (.int v2), some (.int v3), some (.int v4)] [] := by
  intro n
  induction n with
  | zero => intro v1 v2 v3 v4 M r M' h; cases h
  | succ n ih =>
    intro v1 v2 v3 v4 M r M' h
    simp only [f_X11_traitOf_7] at h
    refine v_iload hC dX11_traitOf_7 rfl ?_
    refine v_bipush (v := (6 : Int32)) hC dX11_traitOf_9 rfl ?_
    refine v_icmp_ge hC 54 dX11_traitOf_11 rfl (fun c1 => ?_) (fun c1 => ?_)
    · rw [if_pos c1] at h
      refine v_iload_n hC dX11_traitOf_54 rfl ?_
      cases h
      exact v_iret hC (by decide) (by decide) dX11_traitOf_55
    · rw [if_neg c1] at h
      refine v_aload_n hC dX11_traitOf_14 rfl ?_
      refine v_iload_n hC dX11_traitOf_15 rfl ?_
      refine v_iconst (v := (3 : Int32)) hC dX11_traitOf_16 rfl ?_
      refine v_iload hC dX11_traitOf_17 rfl ?_
      refine v_iadd hC dX11_traitOf_19 ?_
      obtain ⟨r2, M3, q4, h⟩ := bnd_some h
      refine w_callVi hC [.int v1, .int ((3 : Int32) + v4)] [] (ok_X11_of q4) mv_X11_of aw_1380 ly_208 rfl (Nat.le_of_ble_eq_true rfl) ⟨by decide, by decide⟩ ⟨by decide, by decide⟩ dX11_traitOf_20 ?_
      refine v_iload_n hC dX11_traitOf_23 rfl ?_
      refine v_icmp_le hC 32 dX11_traitOf_24 rfl (fun c5 => ?_) (fun c5 => ?_)
      · rw [if_pos c5] at h
        refine v_iload_n hC dX11_traitOf_32 rfl ?_
        refine v_drop [true, true, false, true, true] [some (.ref 208), some (.int v1), none, some (.int v3), some (.int v4)] rfl ?_
        exact ok_X11_traitOf_33 hC hnt (fun v1 v2 v3 v4 M r M' h => ih v1 v2 v3 v4 M r M' h) h
      · rw [if_neg c5] at h
        refine v_iload hC dX11_traitOf_27 rfl ?_
        refine v_goto (tg := 33) hC dX11_traitOf_29 rfl ?_
        refine v_drop [true, true, false, true, true] [some (.ref 208), some (.int v1), none, some (.int v3), some (.int v4)] rfl ?_
        exact ok_X11_traitOf_33 hC hnt (fun v1 v2 v3 v4 M r M' h => ih v1 v2 v3 v4 M r M' h) h
set_option maxRecDepth 20000 in
set_option maxHeartbeats 4000000 in
theorem ok_X11_traitOf {l : Launch} {N : Nat} {v1 : Int32} {M : Mm} {r : Int32} {M' : Mm} (h : f_X11_traitOf N v1 M = some (r, M')) : am_M l yX11_traitOf cX11_traitOf 5 (some .int) 3 0 0 LY M [.ref 208, .int v1] (.inl (some (.int r))) M' := by
  unfold f_X11_traitOf at h
  refine am_intro (by decide) (by simp [Value.category]) (Nat.le_of_ble_eq_true rfl) (fun X hC hnt => ?_)
  refine am_start (L := [some (.ref 208), some (.int v1), none, none, none]) rfl ?_
  refine v_iconst (v := (-1 : Int32)) hC dX11_traitOf_0 rfl ?_
  refine w_istore_n hC dX11_traitOf_1 (ltk rfl) [some (.ref 208), some (.int v1), some (.int (-1 : Int32)), none, none] rfl ?_
  refine v_iconst (v := (0 : Int32)) hC dX11_traitOf_2 rfl ?_
  refine w_istore_n hC dX11_traitOf_3 (ltk rfl) [some (.ref 208), some (.int v1), some (.int (-1 : Int32)), some (.int (0 : Int32)), none] rfl ?_
  refine v_iconst (v := (0 : Int32)) hC dX11_traitOf_4 rfl ?_
  refine w_istore hC dX11_traitOf_5 (ltk rfl) [some (.ref 208), some (.int v1), some (.int (-1 : Int32)), some (.int (0 : Int32)), some (.int (0 : Int32))] rfl ?_
  exact ok_X11_traitOf_7 hC hnt N _ _ _ _ _ _ _ h
def f_X11_alike_51 (N : Nat) (k19 : Int32 → Int32 → Int32 → Mm → Option (Int32 × Mm)) (v2 : Int32) (v3 : Int32) (s0 : Int32) (M : Mm) : Option (Int32 × Mm) :=
  lt (s0 + (0 : Int32)) (fun x12 => k19 x12 v2 (v3 + (1 : Int32)) M)
def f_X11_alike_19 (N : Nat) (k9 : Int32 → Int32 → Mm → Option (Int32 × Mm)) : Nat → Int32 → Int32 → Int32 → Mm → Option (Int32 × Mm)
  | 0, _, _, _, _ => none
  | n + 1, v1, v2, v3, M => (if v2 ≤ v3 then k9 v1 (v2 + (1 : Int32)) M else bnd (f_X11_traitOf N v2 M) (fun r8 M9 => (if r8 = (-1 : Int32) then f_X11_alike_51 N (fun v1 v2 v3 M => f_X11_alike_19 N k9 n v1 v2 v3 M) v2 v3 v1 M9 else bnd (f_X11_traitOf N v2 M9) (fun r14 M15 => bnd (f_X11_traitOf N v3 M15) (fun r17 M18 => (if r14 = r17 then lt (v1 + (1 : Int32)) (fun x21 => f_X11_alike_19 N k9 n x21 v2 (v3 + (1 : Int32)) M18) else f_X11_alike_51 N (fun v1 v2 v3 M => f_X11_alike_19 N k9 n v1 v2 v3 M) v2 v3 v1 M18))))))
def f_X11_alike_9 (N : Nat) : Nat → Int32 → Int32 → Mm → Option (Int32 × Mm)
  | 0, _, _, _ => none
  | n + 1, v1, v2, M => bnd (f_X11_diners N M) (fun r2 M3 => (if r2 ≤ v2 then some (v1, M3) else f_X11_alike_19 N (fun v1 v2 M => f_X11_alike_9 N n v1 v2 M) N v1 v2 (0 : Int32) M3))
def f_X11_alike (N : Nat) (M : Mm) : Option (Int32 × Mm) :=
  lt (wr M 208 0 (0 : Int32)) (fun M1 => f_X11_alike_9 N N (0 : Int32) (0 : Int32) M1)
set_option maxRecDepth 20000 in
set_option maxHeartbeats 4000000 in
theorem ok_X11_alike_51 {N : Nat} {X : am_X} {l : Launch} (hC : am_C X l (am_rm 4 0 0) cX11_alike yX11_alike.cls (some .int)) (hnt : am_NT X) {k19 : Int32 → Int32 → Int32 → Mm → Option (Int32 × Mm)} (hk19 : ∀ (v1 v2 v3 : Int32) (M : Mm) (r : Int32) (M' : Mm), k19 v1 v2 v3 M = some (r, M') → am_V X LY M 0 0 (am_Q X LY 0 0 (.inl (some (.int r))) M') 19 [some (.ref 208), some (.int v1), some (.int v2), some (.int v3)] []) {v2 v3 s0 : Int32} {M : Mm} {r : Int32} {M' : Mm} (h : f_X11_alike_51 N k19 v2 v3 s0 M = some (r, M')) : am_V X LY M 0 0 (am_Q X LY 0 0 (.inl (some (.int r))) M') 51 [some (.ref 208), none, some (.int v2), some (.int v3)] [.int s0] := by
  unfold f_X11_alike_51 at h
  refine v_iconst (v := (0 : Int32)) hC dX11_alike_51 rfl ?_
  refine v_iadd hC dX11_alike_52 ?_
  obtain ⟨x12, e_x12, h⟩ := lt_some h
  refine v_nam e_x12 ?_
  refine w_istore_n hC dX11_alike_53 (ltk rfl) [some (.ref 208), some (.int x12), some (.int v2), some (.int v3)] rfl ?_
  refine w_iinc hC (v3 + (1 : Int32)) dX11_alike_54 rfl rfl [some (.ref 208), some (.int x12), some (.int v2), some (.int (v3 + (1 : Int32)))] rfl ?_
  refine v_goto (tg := 19) hC dX11_alike_57 rfl ?_
  exact hk19 _ _ _ _ _ _ h
set_option maxRecDepth 20000 in
set_option maxHeartbeats 4000000 in
theorem ok_X11_alike_19 {N : Nat} {X : am_X} {l : Launch} (hC : am_C X l (am_rm 4 0 0) cX11_alike yX11_alike.cls (some .int)) (hnt : am_NT X) {k9 : Int32 → Int32 → Mm → Option (Int32 × Mm)} (hk9 : ∀ (v1 v2 : Int32) (M : Mm) (r : Int32) (M' : Mm), k9 v1 v2 M = some (r, M') → am_V X LY M 0 0 (am_Q X LY 0 0 (.inl (some (.int r))) M') 9 [some (.ref 208), some (.int v1), some (.int v2), none] []) : ∀ (n : Nat) (v1 v2 v3 : Int32) (M : Mm) (r : Int32) (M' : Mm), f_X11_alike_19 N k9 n v1 v2 v3 M = some (r, M') → am_V X LY M 0 0 (am_Q X LY 0 0 (.inl (some (.int r))) M') 19 [some (.ref 208), some (.int v1), some (.int v2), some (.int v3)] [] := by
  intro n
  induction n with
  | zero => intro v1 v2 v3 M r M' h; cases h
  | succ n ih =>
    intro v1 v2 v3 M r M' h
    simp only [f_X11_alike_19] at h
    refine v_iload_n hC dX11_alike_19 rfl ?_
    refine v_iload_n hC dX11_alike_20 rfl ?_
    refine v_icmp_ge hC 60 dX11_alike_21 rfl (fun c6 => ?_) (fun c6 => ?_)
    · rw [if_pos c6] at h
      refine w_iinc hC (v2 + (1 : Int32)) dX11_alike_60 rfl rfl [some (.ref 208), some (.int v1), some (.int (v2 + (1 : Int32))), some (.int v3)] rfl ?_
      refine v_goto (tg := 9) hC dX11_alike_63 rfl ?_
      refine v_drop [true, true, true, false] [some (.ref 208), some (.int v1), some (.int (v2 + (1 : Int32))), none] rfl ?_
      exact hk9 _ _ _ _ _ h
    · rw [if_neg c6] at h
      refine v_iload_n hC dX11_alike_24 rfl ?_
      refine v_aload_n hC dX11_alike_25 rfl ?_
      refine v_iload_n hC dX11_alike_26 rfl ?_
      obtain ⟨r8, M9, q10, h⟩ := bnd_some h
      refine w_callVi hC [.int v2] [.int v1] (ok_X11_traitOf q10) mv_X11_traitOf aw_1743 ly_208 rfl (Nat.le_of_ble_eq_true rfl) ⟨by decide, by decide⟩ ⟨by decide, by decide⟩ dX11_alike_27 ?_
      refine v_iconst (v := (-1 : Int32)) hC dX11_alike_30 rfl ?_
      refine v_icmp_eq hC 51 dX11_alike_31 rfl (fun c11 => ?_) (fun c11 => ?_)
      · rw [if_pos c11] at h
        refine v_drop [true, false, true, true] [some (.ref 208), none, some (.int v2), some (.int v3)] rfl ?_
        exact ok_X11_alike_51 hC hnt (fun v1 v2 v3 M r M' h => ih v1 v2 v3 M r M' h) h
      · rw [if_neg c11] at h
        refine v_aload_n hC dX11_alike_34 rfl ?_
        refine v_iload_n hC dX11_alike_35 rfl ?_
        obtain ⟨r14, M15, q16, h⟩ := bnd_some h
        refine w_callVi hC [.int v2] [.int v1] (ok_X11_traitOf q16) mv_X11_traitOf aw_1743 ly_208 rfl (Nat.le_of_ble_eq_true rfl) ⟨by decide, by decide⟩ ⟨by decide, by decide⟩ dX11_alike_36 ?_
        refine v_aload_n hC dX11_alike_39 rfl ?_
        refine v_iload_n hC dX11_alike_40 rfl ?_
        obtain ⟨r17, M18, q19, h⟩ := bnd_some h
        refine w_callVi hC [.int v3] [.int r14, .int v1] (ok_X11_traitOf q19) mv_X11_traitOf aw_1743 ly_208 rfl (Nat.le_of_ble_eq_true rfl) ⟨by decide, by decide⟩ ⟨by decide, by decide⟩ dX11_alike_41 ?_
        refine v_icmp_ne hC 51 dX11_alike_44 rfl (fun c20 => ?_) (fun c20 => ?_)
        · rw [if_neg c20] at h
          refine v_drop [true, false, true, true] [some (.ref 208), none, some (.int v2), some (.int v3)] rfl ?_
          exact ok_X11_alike_51 hC hnt (fun v1 v2 v3 M r M' h => ih v1 v2 v3 M r M' h) h
        · rw [if_pos c20] at h
          refine v_iconst (v := (1 : Int32)) hC dX11_alike_47 rfl ?_
          refine v_goto (tg := 52) hC dX11_alike_48 rfl ?_
          refine v_iadd hC dX11_alike_52 ?_
          obtain ⟨x21, e_x21, h⟩ := lt_some h
          refine v_nam e_x21 ?_
          refine w_istore_n hC dX11_alike_53 (ltk rfl) [some (.ref 208), some (.int x21), some (.int v2), some (.int v3)] rfl ?_
          refine w_iinc hC (v3 + (1 : Int32)) dX11_alike_54 rfl rfl [some (.ref 208), some (.int x21), some (.int v2), some (.int (v3 + (1 : Int32)))] rfl ?_
          refine v_goto (tg := 19) hC dX11_alike_57 rfl ?_
          exact ih _ _ _ _ _ _ h
set_option maxRecDepth 20000 in
set_option maxHeartbeats 4000000 in
theorem ok_X11_alike_9 {N : Nat} {X : am_X} {l : Launch} (hC : am_C X l (am_rm 4 0 0) cX11_alike yX11_alike.cls (some .int)) (hnt : am_NT X) : ∀ (n : Nat) (v1 v2 : Int32) (M : Mm) (r : Int32) (M' : Mm), f_X11_alike_9 N n v1 v2 M = some (r, M') → am_V X LY M 0 0 (am_Q X LY 0 0 (.inl (some (.int r))) M') 9 [some (.ref 208), some (.int v1), some (.int v2), none] [] := by
  intro n
  induction n with
  | zero => intro v1 v2 M r M' h; cases h
  | succ n ih =>
    intro v1 v2 M r M' h
    simp only [f_X11_alike_9] at h
    refine v_iload_n hC dX11_alike_9 rfl ?_
    refine v_aload_n hC dX11_alike_10 rfl ?_
    obtain ⟨r2, M3, q4, h⟩ := bnd_some h
    refine w_callVi hC [] [.int v2] (ok_X11_diners q4) mv_X11_diners aw_1362 ly_208 rfl (Nat.le_of_ble_eq_true rfl) ⟨by decide, by decide⟩ ⟨by decide, by decide⟩ dX11_alike_11 ?_
    refine v_icmp_ge hC 66 dX11_alike_14 rfl (fun c5 => ?_) (fun c5 => ?_)
    · rw [if_pos c5] at h
      refine v_iload_n hC dX11_alike_66 rfl ?_
      cases h
      exact v_iret hC (by decide) (by decide) dX11_alike_67
    · rw [if_neg c5] at h
      refine v_iconst (v := (0 : Int32)) hC dX11_alike_17 rfl ?_
      refine w_istore_n hC dX11_alike_18 (ltk rfl) [some (.ref 208), some (.int v1), some (.int v2), some (.int (0 : Int32))] rfl ?_
      exact ok_X11_alike_19 hC hnt (fun v1 v2 M r M' h => ih v1 v2 M r M' h) N _ _ _ _ _ _ h
set_option maxRecDepth 20000 in
set_option maxHeartbeats 4000000 in
theorem ok_X11_alike {l : Launch} {N : Nat} {M : Mm} {r : Int32} {M' : Mm} (h : f_X11_alike N M = some (r, M')) : am_M l yX11_alike cX11_alike 4 (some .int) 4 0 0 LY M [.ref 208] (.inl (some (.int r))) M' := by
  unfold f_X11_alike at h
  refine am_intro (by decide) (by simp [Value.category]) (Nat.le_of_ble_eq_true rfl) (fun X hC hnt => ?_)
  refine am_start (L := [some (.ref 208), none, none, none]) rfl ?_
  refine v_aload_n hC dX11_alike_0 rfl ?_
  refine v_iconst (v := (0 : Int32)) hC dX11_alike_1 rfl ?_
  obtain ⟨M1, e_M1, h⟩ := lt_some h
  refine w_puti (k := 0) hC cls_X11 ly_208 (by decide) rfl aw_1231 rfl rfl ⟨rfl, rfl⟩ dX11_alike_2 e_M1 ?_
  refine v_iconst (v := (0 : Int32)) hC dX11_alike_5 rfl ?_
  refine w_istore_n hC dX11_alike_6 (ltk rfl) [some (.ref 208), some (.int (0 : Int32)), none, none] rfl ?_
  refine v_iconst (v := (0 : Int32)) hC dX11_alike_7 rfl ?_
  refine w_istore_n hC dX11_alike_8 (ltk rfl) [some (.ref 208), some (.int (0 : Int32)), some (.int (0 : Int32)), none] rfl ?_
  exact ok_X11_alike_9 hC hnt N _ _ _ _ _ h
def f_X11_haveOf_4 (N : Nat) : Nat → Int32 → Int32 → Int32 → Mm → Option (Int32 × Mm)
  | 0, _, _, _, _ => none
  | n + 1, v1, v2, v3, M => bnd (f_X11_diners N M) (fun r1 M2 => (if r1 ≤ v3 then some (v2, M2) else bnd (f_X11_of N v3 ((3 : Int32) + v1) M2) (fun r5 M6 => lt (v2 + r5) (fun x8 => f_X11_haveOf_4 N n v1 x8 (v3 + (1 : Int32)) M6))))
def f_X11_haveOf (N : Nat) (v1 : Int32) (M : Mm) : Option (Int32 × Mm) :=
  f_X11_haveOf_4 N N v1 (0 : Int32) (0 : Int32) M
set_option maxRecDepth 20000 in
set_option maxHeartbeats 4000000 in
theorem ok_X11_haveOf_4 {N : Nat} {X : am_X} {l : Launch} (hC : am_C X l (am_rm 3 0 0) cX11_haveOf yX11_haveOf.cls (some .int)) (hnt : am_NT X) : ∀ (n : Nat) (v1 v2 v3 : Int32) (M : Mm) (r : Int32) (M' : Mm), f_X11_haveOf_4 N n v1 v2 v3 M = some (r, M') → am_V X LY M 0 0 (am_Q X LY 0 0 (.inl (some (.int r))) M') 4 [some (.ref 208), some (.int v1), some (.int v2), some (.int v3)] [] := by
  intro n
  induction n with
  | zero => intro v1 v2 v3 M r M' h; cases h
  | succ n ih =>
    intro v1 v2 v3 M r M' h
    simp only [f_X11_haveOf_4] at h
    refine v_iload_n hC dX11_haveOf_4 rfl ?_
    refine v_aload_n hC dX11_haveOf_5 rfl ?_
    obtain ⟨r1, M2, q3, h⟩ := bnd_some h
    refine w_callVi hC [] [.int v3] (ok_X11_diners q3) mv_X11_diners aw_1362 ly_208 rfl (Nat.le_of_ble_eq_true rfl) ⟨by decide, by decide⟩ ⟨by decide, by decide⟩ dX11_haveOf_6 ?_
    refine v_icmp_ge hC 29 dX11_haveOf_9 rfl (fun c4 => ?_) (fun c4 => ?_)
    · rw [if_pos c4] at h
      refine v_iload_n hC dX11_haveOf_29 rfl ?_
      cases h
      exact v_iret hC (by decide) (by decide) dX11_haveOf_30
    · rw [if_neg c4] at h
      refine v_iload_n hC dX11_haveOf_12 rfl ?_
      refine v_aload_n hC dX11_haveOf_13 rfl ?_
      refine v_iload_n hC dX11_haveOf_14 rfl ?_
      refine v_iconst (v := (3 : Int32)) hC dX11_haveOf_15 rfl ?_
      refine v_iload_n hC dX11_haveOf_16 rfl ?_
      refine v_iadd hC dX11_haveOf_17 ?_
      obtain ⟨r5, M6, q7, h⟩ := bnd_some h
      refine w_callVi hC [.int v3, .int ((3 : Int32) + v1)] [.int v2] (ok_X11_of q7) mv_X11_of aw_1380 ly_208 rfl (Nat.le_of_ble_eq_true rfl) ⟨by decide, by decide⟩ ⟨by decide, by decide⟩ dX11_haveOf_18 ?_
      refine v_iadd hC dX11_haveOf_21 ?_
      obtain ⟨x8, e_x8, h⟩ := lt_some h
      refine v_nam e_x8 ?_
      refine w_istore_n hC dX11_haveOf_22 (ltk rfl) [some (.ref 208), some (.int v1), some (.int x8), some (.int v3)] rfl ?_
      refine w_iinc hC (v3 + (1 : Int32)) dX11_haveOf_23 rfl rfl [some (.ref 208), some (.int v1), some (.int x8), some (.int (v3 + (1 : Int32)))] rfl ?_
      refine v_goto (tg := 4) hC dX11_haveOf_26 rfl ?_
      exact ih _ _ _ _ _ _ h
set_option maxRecDepth 20000 in
set_option maxHeartbeats 4000000 in
theorem ok_X11_haveOf {l : Launch} {N : Nat} {v1 : Int32} {M : Mm} {r : Int32} {M' : Mm} (h : f_X11_haveOf N v1 M = some (r, M')) : am_M l yX11_haveOf cX11_haveOf 4 (some .int) 3 0 0 LY M [.ref 208, .int v1] (.inl (some (.int r))) M' := by
  unfold f_X11_haveOf at h
  refine am_intro (by decide) (by simp [Value.category]) (Nat.le_of_ble_eq_true rfl) (fun X hC hnt => ?_)
  refine am_start (L := [some (.ref 208), some (.int v1), none, none]) rfl ?_
  refine v_iconst (v := (0 : Int32)) hC dX11_haveOf_0 rfl ?_
  refine w_istore_n hC dX11_haveOf_1 (ltk rfl) [some (.ref 208), some (.int v1), some (.int (0 : Int32)), none] rfl ?_
  refine v_iconst (v := (0 : Int32)) hC dX11_haveOf_2 rfl ?_
  refine w_istore_n hC dX11_haveOf_3 (ltk rfl) [some (.ref 208), some (.int v1), some (.int (0 : Int32)), some (.int (0 : Int32))] rfl ?_
  exact ok_X11_haveOf_4 hC hnt N _ _ _ _ _ _ h
def f_X11_share_26 (N : Nat) (v1 : Int32) (v2 : Int32) (s1 : Int32) (M : Mm) : Option (Int32 × Mm) :=
  bnd (f_X11_throwsIf N s1 (1 : Int32) M) (fun r6 M7 => (if r6 = (0 : Int32) then bnd (f_X11_haveOf N v2 M7) (fun r10 M11 => (if r10 = (0 : Int32) then some ((0 : Int32), M11) else bnd (f_X11_of N v1 ((3 : Int32) + v2) M11) (fun r14 M15 => grd (nz r10) (some ((((100 : Int32) * r14) / r10), M15))))) else some ((0 : Int32), M7)))
def f_X11_share_21 (N : Nat) (v1 : Int32) (v2 : Int32) (M : Mm) : Option (Int32 × Mm) :=
  f_X11_share_26 N v1 v2 (1 : Int32) M
def f_X11_share (N : Nat) (v1 : Int32) (v2 : Int32) (M : Mm) : Option (Int32 × Mm) :=
  lt (wr M 208 0 (0 : Int32)) (fun M1 => bnd (f_X11_noDiner N v1 M1) (fun r2 M3 => (if r2 = (0 : Int32) then bnd (f_X11_noTrait N v2 M3) (fun r18 M19 => (if r18 = (0 : Int32) then f_X11_share_26 N v1 v2 (0 : Int32) M19 else f_X11_share_21 N v1 v2 M19)) else f_X11_share_21 N v1 v2 M3)))
set_option maxRecDepth 20000 in
set_option maxHeartbeats 4000000 in
theorem ok_X11_share_26 {N : Nat} {X : am_X} {l : Launch} (hC : am_C X l (am_rm 4 0 0) cX11_share yX11_share.cls (some .int)) (hnt : am_NT X) {v1 v2 s1 : Int32} {M : Mm} {r : Int32} {M' : Mm} (h : f_X11_share_26 N v1 v2 s1 M = some (r, M')) : am_V X LY M 0 0 (am_Q X LY 0 0 (.inl (some (.int r))) M') 26 [some (.ref 208), some (.int v1), some (.int v2), none] [.int s1, .ref 208] := by
  unfold f_X11_share_26 at h
  refine v_iconst (v := (1 : Int32)) hC dX11_share_26 rfl ?_
  obtain ⟨r6, M7, q8, h⟩ := bnd_some h
  refine w_callVi hC [.int s1, .int (1 : Int32)] [] (ok_X11_throwsIf q8) mv_X11_throwsIf aw_1470 ly_208 rfl (Nat.le_of_ble_eq_true rfl) ⟨by decide, by decide⟩ ⟨by decide, by decide⟩ dX11_share_27 ?_
  refine v_if_eq hC 35 dX11_share_30 rfl (fun c9 => ?_) (fun c9 => ?_)
  · rw [if_pos c9] at h
    refine v_aload_n hC dX11_share_35 rfl ?_
    refine v_iload_n hC dX11_share_36 rfl ?_
    obtain ⟨r10, M11, q12, h⟩ := bnd_some h
    refine w_callVi hC [.int v2] [] (ok_X11_haveOf q12) mv_X11_haveOf aw_1751 ly_208 rfl (Nat.le_of_ble_eq_true rfl) ⟨by decide, by decide⟩ ⟨by decide, by decide⟩ dX11_share_37 ?_
    refine w_istore_n hC dX11_share_40 (ltk rfl) [some (.ref 208), some (.int v1), some (.int v2), some (.int r10)] rfl ?_
    refine v_iload_n hC dX11_share_41 rfl ?_
    refine v_if_ne hC 49 dX11_share_42 rfl (fun c13 => ?_) (fun c13 => ?_)
    · rw [if_neg c13] at h
      refine v_bipush (v := (100 : Int32)) hC dX11_share_49 rfl ?_
      refine v_aload_n hC dX11_share_51 rfl ?_
      refine v_iload_n hC dX11_share_52 rfl ?_
      refine v_iconst (v := (3 : Int32)) hC dX11_share_53 rfl ?_
      refine v_iload_n hC dX11_share_54 rfl ?_
      refine v_iadd hC dX11_share_55 ?_
      obtain ⟨r14, M15, q16, h⟩ := bnd_some h
      refine w_callVi hC [.int v1, .int ((3 : Int32) + v2)] [.int (100 : Int32)] (ok_X11_of q16) mv_X11_of aw_1380 ly_208 rfl (Nat.le_of_ble_eq_true rfl) ⟨by decide, by decide⟩ ⟨by decide, by decide⟩ dX11_share_56 ?_
      refine v_imul hC dX11_share_59 ?_
      refine v_iload_n hC dX11_share_60 rfl ?_
      obtain ⟨g17, h⟩ := grd_some h
      refine v_idiv hC dX11_share_61 (nz_ne g17) ?_
      cases h
      exact v_iret hC (by decide) (by decide) dX11_share_62
    · rw [if_pos c13] at h
      refine v_iconst (v := (0 : Int32)) hC dX11_share_45 rfl ?_
      refine v_goto (tg := 62) hC dX11_share_46 rfl ?_
      cases h
      exact v_iret hC (by decide) (by decide) dX11_share_62
  · rw [if_neg c9] at h
    refine v_iconst (v := (0 : Int32)) hC dX11_share_33 rfl ?_
    cases h
    exact v_iret hC (by decide) (by decide) dX11_share_34
set_option maxRecDepth 20000 in
set_option maxHeartbeats 4000000 in
theorem ok_X11_share_21 {N : Nat} {X : am_X} {l : Launch} (hC : am_C X l (am_rm 4 0 0) cX11_share yX11_share.cls (some .int)) (hnt : am_NT X) {v1 v2 : Int32} {M : Mm} {r : Int32} {M' : Mm} (h : f_X11_share_21 N v1 v2 M = some (r, M')) : am_V X LY M 0 0 (am_Q X LY 0 0 (.inl (some (.int r))) M') 21 [some (.ref 208), some (.int v1), some (.int v2), none] [.ref 208] := by
  unfold f_X11_share_21 at h
  refine v_iconst (v := (1 : Int32)) hC dX11_share_21 rfl ?_
  refine v_goto (tg := 26) hC dX11_share_22 rfl ?_
  exact ok_X11_share_26 hC hnt h
set_option maxRecDepth 20000 in
set_option maxHeartbeats 4000000 in
theorem ok_X11_share {l : Launch} {N : Nat} {v1 v2 : Int32} {M : Mm} {r : Int32} {M' : Mm} (h : f_X11_share N v1 v2 M = some (r, M')) : am_M l yX11_share cX11_share 4 (some .int) 4 0 0 LY M [.ref 208, .int v1, .int v2] (.inl (some (.int r))) M' := by
  unfold f_X11_share at h
  refine am_intro (by decide) (by simp [Value.category]) (Nat.le_of_ble_eq_true rfl) (fun X hC hnt => ?_)
  refine am_start (L := [some (.ref 208), some (.int v1), some (.int v2), none]) rfl ?_
  refine v_aload_n hC dX11_share_0 rfl ?_
  refine v_iconst (v := (0 : Int32)) hC dX11_share_1 rfl ?_
  obtain ⟨M1, e_M1, h⟩ := lt_some h
  refine w_puti (k := 0) hC cls_X11 ly_208 (by decide) rfl aw_1231 rfl rfl ⟨rfl, rfl⟩ dX11_share_2 e_M1 ?_
  refine v_aload_n hC dX11_share_5 rfl ?_
  refine v_aload_n hC dX11_share_6 rfl ?_
  refine v_iload_n hC dX11_share_7 rfl ?_
  obtain ⟨r2, M3, q4, h⟩ := bnd_some h
  refine w_callVi hC [.int v1] [.ref 208] (ok_X11_noDiner q4) mv_X11_noDiner aw_1482 ly_208 rfl (Nat.le_of_ble_eq_true rfl) ⟨by decide, by decide⟩ ⟨by decide, by decide⟩ dX11_share_8 ?_
  refine v_if_ne hC 21 dX11_share_11 rfl (fun c5 => ?_) (fun c5 => ?_)
  · rw [if_neg c5] at h
    exact ok_X11_share_21 hC hnt h
  · rw [if_pos c5] at h
    refine v_iload_n hC dX11_share_14 rfl ?_
    obtain ⟨r18, M19, q20, h⟩ := bnd_some h
    refine w_callSi hC [.int v2] [.ref 208] (ok_X11_noTrait q20) ms_X11_noTrait aw_1401 rfl (Nat.le_of_ble_eq_true rfl) ⟨by decide, by decide⟩ ⟨by decide, by decide⟩ dX11_share_15 ?_
    refine v_if_eq hC 25 dX11_share_18 rfl (fun c21 => ?_) (fun c21 => ?_)
    · rw [if_pos c21] at h
      refine v_iconst (v := (0 : Int32)) hC dX11_share_25 rfl ?_
      exact ok_X11_share_26 hC hnt h
    · rw [if_neg c21] at h
      exact ok_X11_share_21 hC hnt h
def f_X11_grainsOfAll_4 (N : Nat) : Nat → Int32 → Int32 → Mm → Option (Int32 × Mm)
  | 0, _, _, _ => none
  | n + 1, v1, v2, M => bnd (f_X11_cellars N M) (fun r1 M2 => (if r1 ≤ v2 then some (v1, M2) else bnd (f_X11_ofCellar N v2 (2 : Int32) M2) (fun r5 M6 => lt (v1 + r5) (fun x8 => f_X11_grainsOfAll_4 N n x8 (v2 + (1 : Int32)) M6))))
def f_X11_grainsOfAll (N : Nat) (M : Mm) : Option (Int32 × Mm) :=
  f_X11_grainsOfAll_4 N N (0 : Int32) (0 : Int32) M
set_option maxRecDepth 20000 in
set_option maxHeartbeats 4000000 in
theorem ok_X11_grainsOfAll_4 {N : Nat} {X : am_X} {l : Launch} (hC : am_C X l (am_rm 3 0 0) cX11_grainsOfAll yX11_grainsOfAll.cls (some .int)) (hnt : am_NT X) : ∀ (n : Nat) (v1 v2 : Int32) (M : Mm) (r : Int32) (M' : Mm), f_X11_grainsOfAll_4 N n v1 v2 M = some (r, M') → am_V X LY M 0 0 (am_Q X LY 0 0 (.inl (some (.int r))) M') 4 [some (.ref 208), some (.int v1), some (.int v2)] [] := by
  intro n
  induction n with
  | zero => intro v1 v2 M r M' h; cases h
  | succ n ih =>
    intro v1 v2 M r M' h
    simp only [f_X11_grainsOfAll_4] at h
    refine v_iload_n hC dX11_grainsOfAll_4 rfl ?_
    refine v_aload_n hC dX11_grainsOfAll_5 rfl ?_
    obtain ⟨r1, M2, q3, h⟩ := bnd_some h
    refine w_callVi hC [] [.int v2] (ok_X11_cellars q3) mv_X11_cellars aw_1397 ly_208 rfl (Nat.le_of_ble_eq_true rfl) ⟨by decide, by decide⟩ ⟨by decide, by decide⟩ dX11_grainsOfAll_6 ?_
    refine v_icmp_ge hC 27 dX11_grainsOfAll_9 rfl (fun c4 => ?_) (fun c4 => ?_)
    · rw [if_pos c4] at h
      refine v_iload_n hC dX11_grainsOfAll_27 rfl ?_
      cases h
      exact v_iret hC (by decide) (by decide) dX11_grainsOfAll_28
    · rw [if_neg c4] at h
      refine v_iload_n hC dX11_grainsOfAll_12 rfl ?_
      refine v_aload_n hC dX11_grainsOfAll_13 rfl ?_
      refine v_iload_n hC dX11_grainsOfAll_14 rfl ?_
      refine v_iconst (v := (2 : Int32)) hC dX11_grainsOfAll_15 rfl ?_
      obtain ⟨r5, M6, q7, h⟩ := bnd_some h
      refine w_callVi hC [.int v2, .int (2 : Int32)] [.int v1] (ok_X11_ofCellar q7) mv_X11_ofCellar aw_1510 ly_208 rfl (Nat.le_of_ble_eq_true rfl) ⟨by decide, by decide⟩ ⟨by decide, by decide⟩ dX11_grainsOfAll_16 ?_
      refine v_iadd hC dX11_grainsOfAll_19 ?_
      obtain ⟨x8, e_x8, h⟩ := lt_some h
      refine v_nam e_x8 ?_
      refine w_istore_n hC dX11_grainsOfAll_20 (ltk rfl) [some (.ref 208), some (.int x8), some (.int v2)] rfl ?_
      refine w_iinc hC (v2 + (1 : Int32)) dX11_grainsOfAll_21 rfl rfl [some (.ref 208), some (.int x8), some (.int (v2 + (1 : Int32)))] rfl ?_
      refine v_goto (tg := 4) hC dX11_grainsOfAll_24 rfl ?_
      exact ih _ _ _ _ _ h
set_option maxRecDepth 20000 in
set_option maxHeartbeats 4000000 in
theorem ok_X11_grainsOfAll {l : Launch} {N : Nat} {M : Mm} {r : Int32} {M' : Mm} (h : f_X11_grainsOfAll N M = some (r, M')) : am_M l yX11_grainsOfAll cX11_grainsOfAll 3 (some .int) 3 0 0 LY M [.ref 208] (.inl (some (.int r))) M' := by
  unfold f_X11_grainsOfAll at h
  refine am_intro (by decide) (by simp [Value.category]) (Nat.le_of_ble_eq_true rfl) (fun X hC hnt => ?_)
  refine am_start (L := [some (.ref 208), none, none]) rfl ?_
  refine v_iconst (v := (0 : Int32)) hC dX11_grainsOfAll_0 rfl ?_
  refine w_istore_n hC dX11_grainsOfAll_1 (ltk rfl) [some (.ref 208), some (.int (0 : Int32)), none] rfl ?_
  refine v_iconst (v := (0 : Int32)) hC dX11_grainsOfAll_2 rfl ?_
  refine w_istore_n hC dX11_grainsOfAll_3 (ltk rfl) [some (.ref 208), some (.int (0 : Int32)), some (.int (0 : Int32))] rfl ?_
  exact ok_X11_grainsOfAll_4 hC hnt N _ _ _ _ _ h
def f_X11_whole_20 (N : Nat) : Nat → Int32 → Int32 → Mm → Option (Int32 × Mm)
  | 0, _, _, _ => none
  | n + 1, v1, v2, M => (if (6 : Int32) ≤ v2 then some (v1, M) else bnd (f_X11_haveOf N v2 M) (fun r8 M9 => lt (v1 + r8) (fun x11 => f_X11_whole_20 N n x11 (v2 + (1 : Int32)) M9)))
def f_X11_whole (N : Nat) (M : Mm) : Option (Int32 × Mm) :=
  lt (wr M 208 0 (0 : Int32)) (fun M1 => bnd (f_X11_grainsOfAll N M1) (fun r2 M3 => grd (inb (9 : Int32) 2107) (lt (r2 + (M3 209 ((9 : Int32)).toNatClampNeg)) (fun x6 => f_X11_whole_20 N N x6 (0 : Int32) M3))))
set_option maxRecDepth 20000 in
set_option maxHeartbeats 4000000 in
theorem ok_X11_whole_20 {N : Nat} {X : am_X} {l : Launch} (hC : am_C X l (am_rm 4 0 0) cX11_whole yX11_whole.cls (some .int)) (hnt : am_NT X) : ∀ (n : Nat) (v1 v2 : Int32) (M : Mm) (r : Int32) (M' : Mm), f_X11_whole_20 N n v1 v2 M = some (r, M') → am_V X LY M 0 0 (am_Q X LY 0 0 (.inl (some (.int r))) M') 20 [some (.ref 208), some (.int v1), some (.int v2)] [] := by
  intro n
  induction n with
  | zero => intro v1 v2 M r M' h; cases h
  | succ n ih =>
    intro v1 v2 M r M' h
    simp only [f_X11_whole_20] at h
    refine v_iload_n hC dX11_whole_20 rfl ?_
    refine v_bipush (v := (6 : Int32)) hC dX11_whole_21 rfl ?_
    refine v_icmp_ge hC 40 dX11_whole_23 rfl (fun c7 => ?_) (fun c7 => ?_)
    · rw [if_pos c7] at h
      refine v_iload_n hC dX11_whole_40 rfl ?_
      cases h
      exact v_iret hC (by decide) (by decide) dX11_whole_41
    · rw [if_neg c7] at h
      refine v_iload_n hC dX11_whole_26 rfl ?_
      refine v_aload_n hC dX11_whole_27 rfl ?_
      refine v_iload_n hC dX11_whole_28 rfl ?_
      obtain ⟨r8, M9, q10, h⟩ := bnd_some h
      refine w_callVi hC [.int v2] [.int v1] (ok_X11_haveOf q10) mv_X11_haveOf aw_1751 ly_208 rfl (Nat.le_of_ble_eq_true rfl) ⟨by decide, by decide⟩ ⟨by decide, by decide⟩ dX11_whole_29 ?_
      refine v_iadd hC dX11_whole_32 ?_
      obtain ⟨x11, e_x11, h⟩ := lt_some h
      refine v_nam e_x11 ?_
      refine w_istore_n hC dX11_whole_33 (ltk rfl) [some (.ref 208), some (.int x11), some (.int v2)] rfl ?_
      refine w_iinc hC (v2 + (1 : Int32)) dX11_whole_34 rfl rfl [some (.ref 208), some (.int x11), some (.int (v2 + (1 : Int32)))] rfl ?_
      refine v_goto (tg := 20) hC dX11_whole_37 rfl ?_
      exact ih _ _ _ _ _ h
set_option maxRecDepth 20000 in
set_option maxHeartbeats 4000000 in
theorem ok_X11_whole {l : Launch} {N : Nat} {M : Mm} {r : Int32} {M' : Mm} (h : f_X11_whole N M = some (r, M')) : am_M l yX11_whole cX11_whole 3 (some .int) 4 0 0 LY M [.ref 208] (.inl (some (.int r))) M' := by
  unfold f_X11_whole at h
  refine am_intro (by decide) (by simp [Value.category]) (Nat.le_of_ble_eq_true rfl) (fun X hC hnt => ?_)
  refine am_start (L := [some (.ref 208), none, none]) rfl ?_
  refine v_aload_n hC dX11_whole_0 rfl ?_
  refine v_iconst (v := (0 : Int32)) hC dX11_whole_1 rfl ?_
  obtain ⟨M1, e_M1, h⟩ := lt_some h
  refine w_puti (k := 0) hC cls_X11 ly_208 (by decide) rfl aw_1231 rfl rfl ⟨rfl, rfl⟩ dX11_whole_2 e_M1 ?_
  refine v_aload_n hC dX11_whole_5 rfl ?_
  obtain ⟨r2, M3, q4, h⟩ := bnd_some h
  refine w_callVi hC [] [] (ok_X11_grainsOfAll q4) mv_X11_grainsOfAll aw_1759 ly_208 rfl (Nat.le_of_ble_eq_true rfl) ⟨by decide, by decide⟩ ⟨by decide, by decide⟩ dX11_whole_6 ?_
  refine v_aload_n hC dX11_whole_9 rfl ?_
  refine v_geta (k := 1) (b := 209) hC cls_X11 ly_208 (by decide) rfl aw_1232 rfl dX11_whole_10 ?_
  refine v_bipush (v := (9 : Int32)) hC dX11_whole_13 rfl ?_
  obtain ⟨g5, h⟩ := grd_some h
  refine v_iald hC ly_209 (inb_in g5) dX11_whole_15 ?_
  refine v_iadd hC dX11_whole_16 ?_
  obtain ⟨x6, e_x6, h⟩ := lt_some h
  refine v_nam e_x6 ?_
  refine w_istore_n hC dX11_whole_17 (ltk rfl) [some (.ref 208), some (.int x6), none] rfl ?_
  refine v_iconst (v := (0 : Int32)) hC dX11_whole_18 rfl ?_
  refine w_istore_n hC dX11_whole_19 (ltk rfl) [some (.ref 208), some (.int x6), some (.int (0 : Int32))] rfl ?_
  exact ok_X11_whole_20 hC hnt N _ _ _ _ _ h
def f_X11_sentenceOf_51 (N : Nat) : Nat → Int32 → Int32 → Mm → Option (Int32 × Mm)
  | 0, _, _, _ => none
  | n + 1, v3, v4, M => (if v3 ≤ (0 : Int32) then some (v4, M) else bnd (f_X11_diners N M) (fun r11 M12 => grd (nz r11) (bnd (f_X11_of N (v4 - v4 / r11 * r11) (1 : Int32) M12) (fun r15 M16 => lt (v3 - r15) (fun x18 => f_X11_sentenceOf_51 N n x18 (v4 + (1 : Int32)) M16)))))
def f_X11_sentenceOf_4 (N : Nat) : Nat → Int32 → Int32 → Int32 → Mm → Option (Int32 × Mm)
  | 0, _, _, _, _ => none
  | n + 1, v1, v2, v3, M => bnd (f_X11_diners N M) (fun r1 M2 => (if r1 ≤ v3 then bnd (f_X11_ofCellar N v1 (2 : Int32) M2) (fun r5 M6 => (if r5 = (0 : Int32) then some ((0 : Int32), M6) else (if v2 = (0 : Int32) then some ((1000000 : Int32), M6) else f_X11_sentenceOf_51 N N r5 (0 : Int32) M6))) else bnd (f_X11_of N v3 (1 : Int32) M2) (fun r20 M21 => lt (v2 + r20) (fun x23 => f_X11_sentenceOf_4 N n v1 x23 (v3 + (1 : Int32)) M21))))
def f_X11_sentenceOf (N : Nat) (v1 : Int32) (M : Mm) : Option (Int32 × Mm) :=
  f_X11_sentenceOf_4 N N v1 (0 : Int32) (0 : Int32) M
set_option maxRecDepth 20000 in
set_option maxHeartbeats 4000000 in
theorem ok_X11_sentenceOf_51 {N : Nat} {X : am_X} {l : Launch} (hC : am_C X l (am_rm 3 0 0) cX11_sentenceOf yX11_sentenceOf.cls (some .int)) (hnt : am_NT X) : ∀ (n : Nat) (v3 v4 : Int32) (M : Mm) (r : Int32) (M' : Mm), f_X11_sentenceOf_51 N n v3 v4 M = some (r, M') → am_V X LY M 0 0 (am_Q X LY 0 0 (.inl (some (.int r))) M') 51 [some (.ref 208), none, none, some (.int v3), some (.int v4)] [] := by
  intro n
  induction n with
  | zero => intro v3 v4 M r M' h; cases h
  | succ n ih =>
    intro v3 v4 M r M' h
    simp only [f_X11_sentenceOf_51] at h
    refine v_iload_n hC dX11_sentenceOf_51 rfl ?_
    refine v_if_le hC 76 dX11_sentenceOf_52 rfl (fun c10 => ?_) (fun c10 => ?_)
    · rw [if_pos c10] at h
      refine v_iload hC dX11_sentenceOf_76 rfl ?_
      cases h
      exact v_iret hC (by decide) (by decide) dX11_sentenceOf_78
    · rw [if_neg c10] at h
      refine v_iload_n hC dX11_sentenceOf_55 rfl ?_
      refine v_aload_n hC dX11_sentenceOf_56 rfl ?_
      refine v_iload hC dX11_sentenceOf_57 rfl ?_
      refine v_aload_n hC dX11_sentenceOf_59 rfl ?_
      obtain ⟨r11, M12, q13, h⟩ := bnd_some h
      refine w_callVi hC [] [.int v4, .ref 208, .int v3] (ok_X11_diners q13) mv_X11_diners aw_1362 ly_208 rfl (Nat.le_of_ble_eq_true rfl) ⟨by decide, by decide⟩ ⟨by decide, by decide⟩ dX11_sentenceOf_60 ?_
      obtain ⟨g14, h⟩ := grd_some h
      refine v_irem hC dX11_sentenceOf_63 (nz_ne g14) ?_
      refine v_iconst (v := (1 : Int32)) hC dX11_sentenceOf_64 rfl ?_
      obtain ⟨r15, M16, q17, h⟩ := bnd_some h
      refine w_callVi hC [.int (v4 - v4 / r11 * r11), .int (1 : Int32)] [.int v3] (ok_X11_of q17) mv_X11_of aw_1380 ly_208 rfl (Nat.le_of_ble_eq_true rfl) ⟨by decide, by decide⟩ ⟨by decide, by decide⟩ dX11_sentenceOf_65 ?_
      refine v_isub hC dX11_sentenceOf_68 ?_
      obtain ⟨x18, e_x18, h⟩ := lt_some h
      refine v_nam e_x18 ?_
      refine w_istore_n hC dX11_sentenceOf_69 (ltk rfl) [some (.ref 208), none, none, some (.int x18), some (.int v4)] rfl ?_
      refine w_iinc hC (v4 + (1 : Int32)) dX11_sentenceOf_70 rfl rfl [some (.ref 208), none, none, some (.int x18), some (.int (v4 + (1 : Int32)))] rfl ?_
      refine v_goto (tg := 51) hC dX11_sentenceOf_73 rfl ?_
      exact ih _ _ _ _ _ h
set_option maxRecDepth 20000 in
set_option maxHeartbeats 4000000 in
theorem ok_X11_sentenceOf_4 {N : Nat} {X : am_X} {l : Launch} (hC : am_C X l (am_rm 3 0 0) cX11_sentenceOf yX11_sentenceOf.cls (some .int)) (hnt : am_NT X) : ∀ (n : Nat) (v1 v2 v3 : Int32) (M : Mm) (r : Int32) (M' : Mm), f_X11_sentenceOf_4 N n v1 v2 v3 M = some (r, M') → am_V X LY M 0 0 (am_Q X LY 0 0 (.inl (some (.int r))) M') 4 [some (.ref 208), some (.int v1), some (.int v2), some (.int v3), none] [] := by
  intro n
  induction n with
  | zero => intro v1 v2 v3 M r M' h; cases h
  | succ n ih =>
    intro v1 v2 v3 M r M' h
    simp only [f_X11_sentenceOf_4] at h
    refine v_iload_n hC dX11_sentenceOf_4 rfl ?_
    refine v_aload_n hC dX11_sentenceOf_5 rfl ?_
    obtain ⟨r1, M2, q3, h⟩ := bnd_some h
    refine w_callVi hC [] [.int v3] (ok_X11_diners q3) mv_X11_diners aw_1362 ly_208 rfl (Nat.le_of_ble_eq_true rfl) ⟨by decide, by decide⟩ ⟨by decide, by decide⟩ dX11_sentenceOf_6 ?_
    refine v_icmp_ge hC 27 dX11_sentenceOf_9 rfl (fun c4 => ?_) (fun c4 => ?_)
    · rw [if_pos c4] at h
      refine v_aload_n hC dX11_sentenceOf_27 rfl ?_
      refine v_iload_n hC dX11_sentenceOf_28 rfl ?_
      refine v_iconst (v := (2 : Int32)) hC dX11_sentenceOf_29 rfl ?_
      obtain ⟨r5, M6, q7, h⟩ := bnd_some h
      refine w_callVi hC [.int v1, .int (2 : Int32)] [] (ok_X11_ofCellar q7) mv_X11_ofCellar aw_1510 ly_208 rfl (Nat.le_of_ble_eq_true rfl) ⟨by decide, by decide⟩ ⟨by decide, by decide⟩ dX11_sentenceOf_30 ?_
      refine w_istore_n hC dX11_sentenceOf_33 (ltk rfl) [some (.ref 208), some (.int v1), some (.int v2), some (.int r5), none] rfl ?_
      refine v_iload_n hC dX11_sentenceOf_34 rfl ?_
      refine v_if_ne hC 40 dX11_sentenceOf_35 rfl (fun c8 => ?_) (fun c8 => ?_)
      · rw [if_neg c8] at h
        refine v_iload_n hC dX11_sentenceOf_40 rfl ?_
        refine v_if_ne hC 48 dX11_sentenceOf_41 rfl (fun c9 => ?_) (fun c9 => ?_)
        · rw [if_neg c9] at h
          refine v_iconst (v := (0 : Int32)) hC dX11_sentenceOf_48 rfl ?_
          refine w_istore hC dX11_sentenceOf_49 (ltk rfl) [some (.ref 208), some (.int v1), some (.int v2), some (.int r5), some (.int (0 : Int32))] rfl ?_
          refine v_drop [true, false, false, true, true] [some (.ref 208), none, none, some (.int r5), some (.int (0 : Int32))] rfl ?_
          exact ok_X11_sentenceOf_51 hC hnt N _ _ _ _ _ h
        · rw [if_pos c9] at h
          refine v_ldcw hC aw_1639 dX11_sentenceOf_44 ?_
          cases h
          exact v_iret hC (by decide) (by decide) dX11_sentenceOf_47
      · rw [if_pos c8] at h
        refine v_iconst (v := (0 : Int32)) hC dX11_sentenceOf_38 rfl ?_
        cases h
        exact v_iret hC (by decide) (by decide) dX11_sentenceOf_39
    · rw [if_neg c4] at h
      refine v_iload_n hC dX11_sentenceOf_12 rfl ?_
      refine v_aload_n hC dX11_sentenceOf_13 rfl ?_
      refine v_iload_n hC dX11_sentenceOf_14 rfl ?_
      refine v_iconst (v := (1 : Int32)) hC dX11_sentenceOf_15 rfl ?_
      obtain ⟨r20, M21, q22, h⟩ := bnd_some h
      refine w_callVi hC [.int v3, .int (1 : Int32)] [.int v2] (ok_X11_of q22) mv_X11_of aw_1380 ly_208 rfl (Nat.le_of_ble_eq_true rfl) ⟨by decide, by decide⟩ ⟨by decide, by decide⟩ dX11_sentenceOf_16 ?_
      refine v_iadd hC dX11_sentenceOf_19 ?_
      obtain ⟨x23, e_x23, h⟩ := lt_some h
      refine v_nam e_x23 ?_
      refine w_istore_n hC dX11_sentenceOf_20 (ltk rfl) [some (.ref 208), some (.int v1), some (.int x23), some (.int v3), none] rfl ?_
      refine w_iinc hC (v3 + (1 : Int32)) dX11_sentenceOf_21 rfl rfl [some (.ref 208), some (.int v1), some (.int x23), some (.int (v3 + (1 : Int32))), none] rfl ?_
      refine v_goto (tg := 4) hC dX11_sentenceOf_24 rfl ?_
      exact ih _ _ _ _ _ _ h
set_option maxRecDepth 20000 in
set_option maxHeartbeats 4000000 in
theorem ok_X11_sentenceOf {l : Launch} {N : Nat} {v1 : Int32} {M : Mm} {r : Int32} {M' : Mm} (h : f_X11_sentenceOf N v1 M = some (r, M')) : am_M l yX11_sentenceOf cX11_sentenceOf 5 (some .int) 3 0 0 LY M [.ref 208, .int v1] (.inl (some (.int r))) M' := by
  unfold f_X11_sentenceOf at h
  refine am_intro (by decide) (by simp [Value.category]) (Nat.le_of_ble_eq_true rfl) (fun X hC hnt => ?_)
  refine am_start (L := [some (.ref 208), some (.int v1), none, none, none]) rfl ?_
  refine v_iconst (v := (0 : Int32)) hC dX11_sentenceOf_0 rfl ?_
  refine w_istore_n hC dX11_sentenceOf_1 (ltk rfl) [some (.ref 208), some (.int v1), some (.int (0 : Int32)), none, none] rfl ?_
  refine v_iconst (v := (0 : Int32)) hC dX11_sentenceOf_2 rfl ?_
  refine w_istore_n hC dX11_sentenceOf_3 (ltk rfl) [some (.ref 208), some (.int v1), some (.int (0 : Int32)), some (.int (0 : Int32)), none] rfl ?_
  exact ok_X11_sentenceOf_4 hC hnt N _ _ _ _ _ _ h
def f_X11_sentence (N : Nat) (v1 : Int32) (M : Mm) : Option (Int32 × Mm) :=
  lt (wr M 208 0 (0 : Int32)) (fun M1 => bnd (f_X11_noCellar N v1 M1) (fun r2 M3 => bnd (f_X11_throwsIf N r2 (1 : Int32) M3) (fun r5 M6 => (if r5 = (0 : Int32) then bnd (f_X11_sentenceOf N v1 M6) (fun r9 M10 => bnd (f_X11_orNone N r9 M10) (fun r12 M13 => some (r12, M13))) else some ((0 : Int32), M6)))))
set_option maxRecDepth 20000 in
set_option maxHeartbeats 4000000 in
theorem ok_X11_sentence {l : Launch} {N : Nat} {v1 : Int32} {M : Mm} {r : Int32} {M' : Mm} (h : f_X11_sentence N v1 M = some (r, M')) : am_M l yX11_sentence cX11_sentence 2 (some .int) 4 0 0 LY M [.ref 208, .int v1] (.inl (some (.int r))) M' := by
  unfold f_X11_sentence at h
  refine am_intro (by decide) (by simp [Value.category]) (Nat.le_of_ble_eq_true rfl) (fun X hC hnt => ?_)
  refine am_start (L := [some (.ref 208), some (.int v1)]) rfl ?_
  refine v_aload_n hC dX11_sentence_0 rfl ?_
  refine v_iconst (v := (0 : Int32)) hC dX11_sentence_1 rfl ?_
  obtain ⟨M1, e_M1, h⟩ := lt_some h
  refine w_puti (k := 0) hC cls_X11 ly_208 (by decide) rfl aw_1231 rfl rfl ⟨rfl, rfl⟩ dX11_sentence_2 e_M1 ?_
  refine v_aload_n hC dX11_sentence_5 rfl ?_
  refine v_aload_n hC dX11_sentence_6 rfl ?_
  refine v_iload_n hC dX11_sentence_7 rfl ?_
  obtain ⟨r2, M3, q4, h⟩ := bnd_some h
  refine w_callVi hC [.int v1] [.ref 208] (ok_X11_noCellar q4) mv_X11_noCellar aw_1502 ly_208 rfl (Nat.le_of_ble_eq_true rfl) ⟨by decide, by decide⟩ ⟨by decide, by decide⟩ dX11_sentence_8 ?_
  refine v_iconst (v := (1 : Int32)) hC dX11_sentence_11 rfl ?_
  obtain ⟨r5, M6, q7, h⟩ := bnd_some h
  refine w_callVi hC [.int r2, .int (1 : Int32)] [] (ok_X11_throwsIf q7) mv_X11_throwsIf aw_1470 ly_208 rfl (Nat.le_of_ble_eq_true rfl) ⟨by decide, by decide⟩ ⟨by decide, by decide⟩ dX11_sentence_12 ?_
  refine v_if_eq hC 22 dX11_sentence_15 rfl (fun c8 => ?_) (fun c8 => ?_)
  · rw [if_pos c8] at h
    refine v_aload_n hC dX11_sentence_22 rfl ?_
    refine v_iload_n hC dX11_sentence_23 rfl ?_
    obtain ⟨r9, M10, q11, h⟩ := bnd_some h
    refine w_callVi hC [.int v1] [] (ok_X11_sentenceOf q11) mv_X11_sentenceOf aw_1767 ly_208 rfl (Nat.le_of_ble_eq_true rfl) ⟨by decide, by decide⟩ ⟨by decide, by decide⟩ dX11_sentence_24 ?_
    obtain ⟨r12, M13, q14, h⟩ := bnd_some h
    refine w_callSi hC [.int r9] [] (ok_X11_orNone q14) ms_X11_orNone aw_1652 rfl (Nat.le_of_ble_eq_true rfl) ⟨by decide, by decide⟩ ⟨by decide, by decide⟩ dX11_sentence_27 ?_
    cases h
    exact v_iret hC (by decide) (by decide) dX11_sentence_30
  · rw [if_neg c8] at h
    refine v_iconst (v := (0 : Int32)) hC dX11_sentence_18 rfl ?_
    refine v_goto (tg := 30) hC dX11_sentence_19 rfl ?_
    cases h
    exact v_iret hC (by decide) (by decide) dX11_sentence_30
def f_X11_fair_53 (N : Nat) (k11 : Int32 → Int32 → Int32 → Mm → Option (Int32 × Mm)) (v3 : Int32) (s0 : Int32) (M : Mm) : Option (Int32 × Mm) :=
  bnd (f_X11_sentenceOf N v3 M) (fun r12 M13 => k11 s0 r12 (v3 + (1 : Int32)) M13)
def f_X11_fair_52 (N : Nat) (k11 : Int32 → Int32 → Int32 → Mm → Option (Int32 × Mm)) (v3 : Int32) (M : Mm) : Option (Int32 × Mm) :=
  f_X11_fair_53 N k11 v3 (0 : Int32) M
def f_X11_fair_48 (N : Nat) (k11 : Int32 → Int32 → Int32 → Mm → Option (Int32 × Mm)) (v3 : Int32) (M : Mm) : Option (Int32 × Mm) :=
  f_X11_fair_53 N k11 v3 (1 : Int32) M
def f_X11_fair_11 (N : Nat) : Nat → Int32 → Int32 → Int32 → Mm → Option (Int32 × Mm)
  | 0, _, _, _, _ => none
  | n + 1, v1, v2, v3, M => bnd (f_X11_cellars N M) (fun r2 M3 => (if r2 ≤ v3 then grd (isb v1) (some (v1, M3)) else bnd (f_X11_isFree N v3 M3) (fun r7 M8 => (if r7 = (0 : Int32) then (if v1 = (0 : Int32) then f_X11_fair_52 N (fun v1 v2 v3 M => f_X11_fair_11 N n v1 v2 v3 M) v3 M8 else (if v2 = (-1 : Int32) then f_X11_fair_48 N (fun v1 v2 v3 M => f_X11_fair_11 N n v1 v2 v3 M) v3 M8 else bnd (f_X11_sentenceOf N v3 M8) (fun r17 M18 => (if r17 = v2 then f_X11_fair_48 N (fun v1 v2 v3 M => f_X11_fair_11 N n v1 v2 v3 M) v3 M18 else f_X11_fair_52 N (fun v1 v2 v3 M => f_X11_fair_11 N n v1 v2 v3 M) v3 M18)))) else f_X11_fair_11 N n v1 v2 (v3 + (1 : Int32)) M8))))
def f_X11_fair (N : Nat) (M : Mm) : Option (Int32 × Mm) :=
  lt (wr M 208 0 (0 : Int32)) (fun M1 => f_X11_fair_11 N N (1 : Int32) (-1 : Int32) (0 : Int32) M1)
set_option maxRecDepth 20000 in
set_option maxHeartbeats 4000000 in
theorem ok_X11_fair_53 {N : Nat} {X : am_X} {l : Launch} (hC : am_C X l (am_rm 4 0 0) cX11_fair yX11_fair.cls (some .boolean)) (hnt : am_NT X) {k11 : Int32 → Int32 → Int32 → Mm → Option (Int32 × Mm)} (hk11 : ∀ (v1 v2 v3 : Int32) (M : Mm) (r : Int32) (M' : Mm), k11 v1 v2 v3 M = some (r, M') → am_V X LY M 0 0 (am_Q X LY 0 0 (.inl (some (.int r))) M') 11 [some (.ref 208), some (.int v1), some (.int v2), some (.int v3)] []) {v3 s0 : Int32} {M : Mm} {r : Int32} {M' : Mm} (h : f_X11_fair_53 N k11 v3 s0 M = some (r, M')) : am_V X LY M 0 0 (am_Q X LY 0 0 (.inl (some (.int r))) M') 53 [some (.ref 208), none, none, some (.int v3)] [.int s0] := by
  unfold f_X11_fair_53 at h
  refine w_istore_n hC dX11_fair_53 (ltk rfl) [some (.ref 208), some (.int s0), none, some (.int v3)] rfl ?_
  refine v_aload_n hC dX11_fair_54 rfl ?_
  refine v_iload_n hC dX11_fair_55 rfl ?_
  obtain ⟨r12, M13, q14, h⟩ := bnd_some h
  refine w_callVi hC [.int v3] [] (ok_X11_sentenceOf q14) mv_X11_sentenceOf aw_1767 ly_208 rfl (Nat.le_of_ble_eq_true rfl) ⟨by decide, by decide⟩ ⟨by decide, by decide⟩ dX11_fair_56 ?_
  refine w_istore_n hC dX11_fair_59 (ltk rfl) [some (.ref 208), some (.int s0), some (.int r12), some (.int v3)] rfl ?_
  refine w_iinc hC (v3 + (1 : Int32)) dX11_fair_60 rfl rfl [some (.ref 208), some (.int s0), some (.int r12), some (.int (v3 + (1 : Int32)))] rfl ?_
  refine v_goto (tg := 11) hC dX11_fair_63 rfl ?_
  exact hk11 _ _ _ _ _ _ h
set_option maxRecDepth 20000 in
set_option maxHeartbeats 4000000 in
theorem ok_X11_fair_52 {N : Nat} {X : am_X} {l : Launch} (hC : am_C X l (am_rm 4 0 0) cX11_fair yX11_fair.cls (some .boolean)) (hnt : am_NT X) {k11 : Int32 → Int32 → Int32 → Mm → Option (Int32 × Mm)} (hk11 : ∀ (v1 v2 v3 : Int32) (M : Mm) (r : Int32) (M' : Mm), k11 v1 v2 v3 M = some (r, M') → am_V X LY M 0 0 (am_Q X LY 0 0 (.inl (some (.int r))) M') 11 [some (.ref 208), some (.int v1), some (.int v2), some (.int v3)] []) {v3 : Int32} {M : Mm} {r : Int32} {M' : Mm} (h : f_X11_fair_52 N k11 v3 M = some (r, M')) : am_V X LY M 0 0 (am_Q X LY 0 0 (.inl (some (.int r))) M') 52 [some (.ref 208), none, none, some (.int v3)] [] := by
  unfold f_X11_fair_52 at h
  refine v_iconst (v := (0 : Int32)) hC dX11_fair_52 rfl ?_
  exact ok_X11_fair_53 hC hnt hk11 h
set_option maxRecDepth 20000 in
set_option maxHeartbeats 4000000 in
theorem ok_X11_fair_48 {N : Nat} {X : am_X} {l : Launch} (hC : am_C X l (am_rm 4 0 0) cX11_fair yX11_fair.cls (some .boolean)) (hnt : am_NT X) {k11 : Int32 → Int32 → Int32 → Mm → Option (Int32 × Mm)} (hk11 : ∀ (v1 v2 v3 : Int32) (M : Mm) (r : Int32) (M' : Mm), k11 v1 v2 v3 M = some (r, M') → am_V X LY M 0 0 (am_Q X LY 0 0 (.inl (some (.int r))) M') 11 [some (.ref 208), some (.int v1), some (.int v2), some (.int v3)] []) {v3 : Int32} {M : Mm} {r : Int32} {M' : Mm} (h : f_X11_fair_48 N k11 v3 M = some (r, M')) : am_V X LY M 0 0 (am_Q X LY 0 0 (.inl (some (.int r))) M') 48 [some (.ref 208), none, none, some (.int v3)] [] := by
  unfold f_X11_fair_48 at h
  refine v_iconst (v := (1 : Int32)) hC dX11_fair_48 rfl ?_
  refine v_goto (tg := 53) hC dX11_fair_49 rfl ?_
  exact ok_X11_fair_53 hC hnt hk11 h
set_option maxRecDepth 20000 in
set_option maxHeartbeats 4000000 in
theorem ok_X11_fair_11 {N : Nat} {X : am_X} {l : Launch} (hC : am_C X l (am_rm 4 0 0) cX11_fair yX11_fair.cls (some .boolean)) (hnt : am_NT X) : ∀ (n : Nat) (v1 v2 v3 : Int32) (M : Mm) (r : Int32) (M' : Mm), f_X11_fair_11 N n v1 v2 v3 M = some (r, M') → am_V X LY M 0 0 (am_Q X LY 0 0 (.inl (some (.int r))) M') 11 [some (.ref 208), some (.int v1), some (.int v2), some (.int v3)] [] := by
  intro n
  induction n with
  | zero => intro v1 v2 v3 M r M' h; cases h
  | succ n ih =>
    intro v1 v2 v3 M r M' h
    simp only [f_X11_fair_11] at h
    refine v_iload_n hC dX11_fair_11 rfl ?_
    refine v_aload_n hC dX11_fair_12 rfl ?_
    obtain ⟨r2, M3, q4, h⟩ := bnd_some h
    refine w_callVi hC [] [.int v3] (ok_X11_cellars q4) mv_X11_cellars aw_1397 ly_208 rfl (Nat.le_of_ble_eq_true rfl) ⟨by decide, by decide⟩ ⟨by decide, by decide⟩ dX11_fair_13 ?_
    refine v_icmp_ge hC 66 dX11_fair_16 rfl (fun c5 => ?_) (fun c5 => ?_)
    · rw [if_pos c5] at h
      refine v_iload_n hC dX11_fair_66 rfl ?_
      obtain ⟨g6, h⟩ := grd_some h
      cases h
      exact v_zret hC (isb_nar g6).1 (by decide) (by decide) dX11_fair_67
    · rw [if_neg c5] at h
      refine v_aload_n hC dX11_fair_19 rfl ?_
      refine v_iload_n hC dX11_fair_20 rfl ?_
      obtain ⟨r7, M8, q9, h⟩ := bnd_some h
      refine w_callVi hC [.int v3] [] (ok_X11_isFree q9) mv_X11_isFree aw_1525 ly_208 rfl (Nat.le_of_ble_eq_true rfl) ⟨by decide, by decide⟩ ⟨by decide, by decide⟩ dX11_fair_21 ?_
      refine v_if_eq hC 30 dX11_fair_24 rfl (fun c10 => ?_) (fun c10 => ?_)
      · rw [if_pos c10] at h
        refine v_iload_n hC dX11_fair_30 rfl ?_
        refine v_if_eq hC 52 dX11_fair_31 rfl (fun c11 => ?_) (fun c11 => ?_)
        · rw [if_pos c11] at h
          refine v_drop [true, false, false, true] [some (.ref 208), none, none, some (.int v3)] rfl ?_
          exact ok_X11_fair_52 hC hnt (fun v1 v2 v3 M r M' h => ih v1 v2 v3 M r M' h) h
        · rw [if_neg c11] at h
          refine v_iload_n hC dX11_fair_34 rfl ?_
          refine v_iconst (v := (-1 : Int32)) hC dX11_fair_35 rfl ?_
          refine v_icmp_eq hC 48 dX11_fair_36 rfl (fun c16 => ?_) (fun c16 => ?_)
          · rw [if_pos c16] at h
            refine v_drop [true, false, false, true] [some (.ref 208), none, none, some (.int v3)] rfl ?_
            exact ok_X11_fair_48 hC hnt (fun v1 v2 v3 M r M' h => ih v1 v2 v3 M r M' h) h
          · rw [if_neg c16] at h
            refine v_aload_n hC dX11_fair_39 rfl ?_
            refine v_iload_n hC dX11_fair_40 rfl ?_
            obtain ⟨r17, M18, q19, h⟩ := bnd_some h
            refine w_callVi hC [.int v3] [] (ok_X11_sentenceOf q19) mv_X11_sentenceOf aw_1767 ly_208 rfl (Nat.le_of_ble_eq_true rfl) ⟨by decide, by decide⟩ ⟨by decide, by decide⟩ dX11_fair_41 ?_
            refine v_iload_n hC dX11_fair_44 rfl ?_
            refine v_icmp_ne hC 52 dX11_fair_45 rfl (fun c20 => ?_) (fun c20 => ?_)
            · rw [if_neg c20] at h
              refine v_drop [true, false, false, true] [some (.ref 208), none, none, some (.int v3)] rfl ?_
              exact ok_X11_fair_52 hC hnt (fun v1 v2 v3 M r M' h => ih v1 v2 v3 M r M' h) h
            · rw [if_pos c20] at h
              refine v_drop [true, false, false, true] [some (.ref 208), none, none, some (.int v3)] rfl ?_
              exact ok_X11_fair_48 hC hnt (fun v1 v2 v3 M r M' h => ih v1 v2 v3 M r M' h) h
      · rw [if_neg c10] at h
        refine v_goto (tg := 60) hC dX11_fair_27 rfl ?_
        refine w_iinc hC (v3 + (1 : Int32)) dX11_fair_60 rfl rfl [some (.ref 208), some (.int v1), some (.int v2), some (.int (v3 + (1 : Int32)))] rfl ?_
        refine v_goto (tg := 11) hC dX11_fair_63 rfl ?_
        exact ih _ _ _ _ _ _ h
set_option maxRecDepth 20000 in
set_option maxHeartbeats 4000000 in
theorem ok_X11_fair {l : Launch} {N : Nat} {M : Mm} {r : Int32} {M' : Mm} (h : f_X11_fair N M = some (r, M')) : am_M l yX11_fair cX11_fair 4 (some .boolean) 4 0 0 LY M [.ref 208] (.inl (some (.int r))) M' := by
  unfold f_X11_fair at h
  refine am_intro (by decide) (by simp [Value.category]) (Nat.le_of_ble_eq_true rfl) (fun X hC hnt => ?_)
  refine am_start (L := [some (.ref 208), none, none, none]) rfl ?_
  refine v_aload_n hC dX11_fair_0 rfl ?_
  refine v_iconst (v := (0 : Int32)) hC dX11_fair_1 rfl ?_
  obtain ⟨M1, e_M1, h⟩ := lt_some h
  refine w_puti (k := 0) hC cls_X11 ly_208 (by decide) rfl aw_1231 rfl rfl ⟨rfl, rfl⟩ dX11_fair_2 e_M1 ?_
  refine v_iconst (v := (1 : Int32)) hC dX11_fair_5 rfl ?_
  refine w_istore_n hC dX11_fair_6 (ltk rfl) [some (.ref 208), some (.int (1 : Int32)), none, none] rfl ?_
  refine v_iconst (v := (-1 : Int32)) hC dX11_fair_7 rfl ?_
  refine w_istore_n hC dX11_fair_8 (ltk rfl) [some (.ref 208), some (.int (1 : Int32)), some (.int (-1 : Int32)), none] rfl ?_
  refine v_iconst (v := (0 : Int32)) hC dX11_fair_9 rfl ?_
  refine w_istore_n hC dX11_fair_10 (ltk rfl) [some (.ref 208), some (.int (1 : Int32)), some (.int (-1 : Int32)), some (.int (0 : Int32))] rfl ?_
  exact ok_X11_fair_11 hC hnt N _ _ _ _ _ _ h
def f_X11_alone_163 (N : Nat) (v1 : Int32) (v3 : Int32) (v4 : Int32) (v5 : Int32) (v6 : Int32) (s0 : Int32) (M : Mm) : Option (Int32 × Mm) :=
  bnd (f_X11_cellarAt N v1 (2 : Int32) M) (fun r26 M27 => grd (inb r26 2107) (lt (wr M27 209 (r26).toNatClampNeg v4) (fun M30 => grd (inb v3 2107) (lt (wr M30 209 (v3).toNatClampNeg v5) (fun M32 => (if s0 = (0 : Int32) then some ((-1 : Int32), M32) else some (v6, M32)))))))
def f_X11_alone_162 (N : Nat) (v1 : Int32) (v3 : Int32) (v4 : Int32) (v5 : Int32) (v6 : Int32) (M : Mm) : Option (Int32 × Mm) :=
  f_X11_alone_163 N v1 v3 v4 v5 v6 (0 : Int32) M
def f_X11_alone_142 (N : Nat) (v1 : Int32) (v3 : Int32) (v4 : Int32) (v5 : Int32) (v6 : Int32) (M : Mm) : Option (Int32 × Mm) :=
  bnd (f_X11_isFree N v1 M) (fun r22 M23 => (if r22 = (0 : Int32) then f_X11_alone_162 N v1 v3 v4 v5 v6 M23 else (if (200 : Int32) < v6 then f_X11_alone_162 N v1 v3 v4 v5 v6 M23 else f_X11_alone_163 N v1 v3 v4 v5 v6 (1 : Int32) M23)))
def f_X11_alone_71 (N : Nat) : Nat → Int32 → Int32 → Int32 → Int32 → Int32 → Int32 → Int32 → Mm → Option (Int32 × Mm)
  | 0, _, _, _, _, _, _, _, _ => none
  | n + 1, v1, v2, v3, v4, v5, v6, v7, M => (if v7 ≤ (0 : Int32) then f_X11_alone_142 N v1 v3 v4 v5 v6 M else (if (200 : Int32) < v6 then f_X11_alone_142 N v1 v3 v4 v5 v6 M else bnd (f_X11_isFree N v1 M) (fun r36 M37 => (if r36 = (0 : Int32) then bnd (f_X11_pinchOf N v1 v2 M37) (fun r40 M41 => bnd (f_X11_cellarAt N v1 (2 : Int32) M41) (fun r43 M44 => grd (inb r43 2107) (grd (inb r43 2107) (lt (wr M44 209 (r43).toNatClampNeg ((M44 209 (r43).toNatClampNeg) - r40)) (fun M48 => grd (inb v3 2107) (grd (inb v3 2107) (lt (wr M48 209 (v3).toNatClampNeg (if ((M48 209 (v3).toNatClampNeg) + r40) < (999 : Int32) then ((M48 209 (v3).toNatClampNeg) + r40) else (999 : Int32))) (fun M51 => f_X11_alone_71 N n v1 v2 v3 v4 v5 (v6 + (1 : Int32)) r40 M51)))))))) else f_X11_alone_142 N v1 v3 v4 v5 v6 M37))))
def f_X11_alone_27 (N : Nat) (v1 : Int32) (v2 : Int32) (s1 : Int32) (M : Mm) : Option (Int32 × Mm) :=
  bnd (f_X11_throwsIf N s1 (1 : Int32) M) (fun r6 M7 => (if r6 = (0 : Int32) then bnd (f_X11_ofCellar N v1 (1 : Int32) M7) (fun r10 M11 => bnd (f_X11_dinerAt N v2 ((3 : Int32) + r10) M11) (fun r13 M14 => bnd (f_X11_ofCellar N v1 (2 : Int32) M14) (fun r16 M17 => grd (inb r13 2107) (lt (M17 209 (r13).toNatClampNeg) (fun x20 => f_X11_alone_71 N N v1 v2 r13 r16 x20 (0 : Int32) (1 : Int32) M17))))) else some ((0 : Int32), M7)))
def f_X11_alone_22 (N : Nat) (v1 : Int32) (v2 : Int32) (M : Mm) : Option (Int32 × Mm) :=
  f_X11_alone_27 N v1 v2 (1 : Int32) M
def f_X11_alone (N : Nat) (v1 : Int32) (v2 : Int32) (M : Mm) : Option (Int32 × Mm) :=
  lt (wr M 208 0 (0 : Int32)) (fun M1 => bnd (f_X11_noCellar N v1 M1) (fun r2 M3 => (if r2 = (0 : Int32) then bnd (f_X11_noDiner N v2 M3) (fun r53 M54 => (if r53 = (0 : Int32) then f_X11_alone_27 N v1 v2 (0 : Int32) M54 else f_X11_alone_22 N v1 v2 M54)) else f_X11_alone_22 N v1 v2 M3)))
set_option maxRecDepth 20000 in
set_option maxHeartbeats 4000000 in
theorem ok_X11_alone_163 {N : Nat} {X : am_X} {l : Launch} (hC : am_C X l (am_rm 8 0 0) cX11_alone yX11_alone.cls (some .int)) (hnt : am_NT X) {v1 v3 v4 v5 v6 s0 : Int32} {M : Mm} {r : Int32} {M' : Mm} (h : f_X11_alone_163 N v1 v3 v4 v5 v6 s0 M = some (r, M')) : am_V X LY M 0 0 (am_Q X LY 0 0 (.inl (some (.int r))) M') 163 [some (.ref 208), some (.int v1), none, some (.int v3), some (.int v4), some (.int v5), some (.int v6), none] [.int s0] := by
  unfold f_X11_alone_163 at h
  refine w_istore hC dX11_alone_163 (ltk rfl) [some (.ref 208), some (.int v1), none, some (.int v3), some (.int v4), some (.int v5), some (.int v6), some (.int s0)] rfl ?_
  refine v_aload_n hC dX11_alone_165 rfl ?_
  refine v_geta (k := 1) (b := 209) hC cls_X11 ly_208 (by decide) rfl aw_1232 rfl dX11_alone_166 ?_
  refine v_iload_n hC dX11_alone_169 rfl ?_
  refine v_iconst (v := (2 : Int32)) hC dX11_alone_170 rfl ?_
  obtain ⟨r26, M27, q28, h⟩ := bnd_some h
  refine w_callSi hC [.int v1, .int (2 : Int32)] [.ref 209] (ok_X11_cellarAt q28) ms_X11_cellarAt aw_1410 rfl (Nat.le_of_ble_eq_true rfl) ⟨by decide, by decide⟩ ⟨by decide, by decide⟩ dX11_alone_171 ?_
  refine v_iload hC dX11_alone_174 rfl ?_
  obtain ⟨g29, h⟩ := grd_some h
  obtain ⟨M30, e_M30, h⟩ := lt_some h
  refine w_iast hC ly_209 (inb_in g29) dX11_alone_176 e_M30 ?_
  refine v_aload_n hC dX11_alone_177 rfl ?_
  refine v_geta (k := 1) (b := 209) hC cls_X11 ly_208 (by decide) rfl aw_1232 rfl dX11_alone_178 ?_
  refine v_iload_n hC dX11_alone_181 rfl ?_
  refine v_iload hC dX11_alone_182 rfl ?_
  obtain ⟨g31, h⟩ := grd_some h
  obtain ⟨M32, e_M32, h⟩ := lt_some h
  refine w_iast hC ly_209 (inb_in g31) dX11_alone_184 e_M32 ?_
  refine v_iload hC dX11_alone_185 rfl ?_
  refine v_if_eq hC 195 dX11_alone_187 rfl (fun c33 => ?_) (fun c33 => ?_)
  · rw [if_pos c33] at h
    refine v_iconst (v := (-1 : Int32)) hC dX11_alone_195 rfl ?_
    cases h
    exact v_iret hC (by decide) (by decide) dX11_alone_196
  · rw [if_neg c33] at h
    refine v_iload hC dX11_alone_190 rfl ?_
    refine v_goto (tg := 196) hC dX11_alone_192 rfl ?_
    cases h
    exact v_iret hC (by decide) (by decide) dX11_alone_196
set_option maxRecDepth 20000 in
set_option maxHeartbeats 4000000 in
theorem ok_X11_alone_162 {N : Nat} {X : am_X} {l : Launch} (hC : am_C X l (am_rm 8 0 0) cX11_alone yX11_alone.cls (some .int)) (hnt : am_NT X) {v1 v3 v4 v5 v6 : Int32} {M : Mm} {r : Int32} {M' : Mm} (h : f_X11_alone_162 N v1 v3 v4 v5 v6 M = some (r, M')) : am_V X LY M 0 0 (am_Q X LY 0 0 (.inl (some (.int r))) M') 162 [some (.ref 208), some (.int v1), none, some (.int v3), some (.int v4), some (.int v5), some (.int v6), none] [] := by
  unfold f_X11_alone_162 at h
  refine v_iconst (v := (0 : Int32)) hC dX11_alone_162 rfl ?_
  exact ok_X11_alone_163 hC hnt h
set_option maxRecDepth 20000 in
set_option maxHeartbeats 4000000 in
theorem ok_X11_alone_142 {N : Nat} {X : am_X} {l : Launch} (hC : am_C X l (am_rm 8 0 0) cX11_alone yX11_alone.cls (some .int)) (hnt : am_NT X) {v1 v3 v4 v5 v6 : Int32} {M : Mm} {r : Int32} {M' : Mm} (h : f_X11_alone_142 N v1 v3 v4 v5 v6 M = some (r, M')) : am_V X LY M 0 0 (am_Q X LY 0 0 (.inl (some (.int r))) M') 142 [some (.ref 208), some (.int v1), none, some (.int v3), some (.int v4), some (.int v5), some (.int v6), none] [] := by
  unfold f_X11_alone_142 at h
  refine v_aload_n hC dX11_alone_142 rfl ?_
  refine v_iload_n hC dX11_alone_143 rfl ?_
  obtain ⟨r22, M23, q24, h⟩ := bnd_some h
  refine w_callVi hC [.int v1] [] (ok_X11_isFree q24) mv_X11_isFree aw_1525 ly_208 rfl (Nat.le_of_ble_eq_true rfl) ⟨by decide, by decide⟩ ⟨by decide, by decide⟩ dX11_alone_144 ?_
  refine v_if_eq hC 162 dX11_alone_147 rfl (fun c25 => ?_) (fun c25 => ?_)
  · rw [if_pos c25] at h
    exact ok_X11_alone_162 hC hnt h
  · rw [if_neg c25] at h
    refine v_iload hC dX11_alone_150 rfl ?_
    refine v_sipush (v := (200 : Int32)) hC dX11_alone_152 rfl ?_
    refine v_icmp_gt hC 162 dX11_alone_155 rfl (fun c34 => ?_) (fun c34 => ?_)
    · rw [if_pos c34] at h
      exact ok_X11_alone_162 hC hnt h
    · rw [if_neg c34] at h
      refine v_iconst (v := (1 : Int32)) hC dX11_alone_158 rfl ?_
      refine v_goto (tg := 163) hC dX11_alone_159 rfl ?_
      exact ok_X11_alone_163 hC hnt h
set_option maxRecDepth 20000 in
set_option maxHeartbeats 4000000 in
theorem ok_X11_alone_71 {N : Nat} {X : am_X} {l : Launch} (hC : am_C X l (am_rm 8 0 0) cX11_alone yX11_alone.cls (some .int)) (hnt : am_NT X) : ∀ (n : Nat) (v1 v2 v3 v4 v5 v6 v7 : Int32) (M : Mm) (r : Int32) (M' : Mm), f_X11_alone_71 N n v1 v2 v3 v4 v5 v6 v7 M = some (r, M') → am_V X LY M 0 0 (am_Q X LY 0 0 (.inl (some (.int r))) M') 71 [some (.ref 208), some (.int v1), some (.int v2), some (.int v3), some (.int v4), some (.int v5), some (.int v6), some (.int v7)] [] := by
  intro n
  induction n with
  | zero => intro v1 v2 v3 v4 v5 v6 v7 M r M' h; cases h
  | succ n ih =>
    intro v1 v2 v3 v4 v5 v6 v7 M r M' h
    simp only [f_X11_alone_71] at h
    refine v_iload hC dX11_alone_71 rfl ?_
    refine v_if_le hC 142 dX11_alone_73 rfl (fun c21 => ?_) (fun c21 => ?_)
    · rw [if_pos c21] at h
      refine v_drop [true, true, false, true, true, true, true, false] [some (.ref 208), some (.int v1), none, some (.int v3), some (.int v4), some (.int v5), some (.int v6), none] rfl ?_
      exact ok_X11_alone_142 hC hnt h
    · rw [if_neg c21] at h
      refine v_iload hC dX11_alone_76 rfl ?_
      refine v_sipush (v := (200 : Int32)) hC dX11_alone_78 rfl ?_
      refine v_icmp_gt hC 142 dX11_alone_81 rfl (fun c35 => ?_) (fun c35 => ?_)
      · rw [if_pos c35] at h
        refine v_drop [true, true, false, true, true, true, true, false] [some (.ref 208), some (.int v1), none, some (.int v3), some (.int v4), some (.int v5), some (.int v6), none] rfl ?_
        exact ok_X11_alone_142 hC hnt h
      · rw [if_neg c35] at h
        refine v_aload_n hC dX11_alone_84 rfl ?_
        refine v_iload_n hC dX11_alone_85 rfl ?_
        obtain ⟨r36, M37, q38, h⟩ := bnd_some h
        refine w_callVi hC [.int v1] [] (ok_X11_isFree q38) mv_X11_isFree aw_1525 ly_208 rfl (Nat.le_of_ble_eq_true rfl) ⟨by decide, by decide⟩ ⟨by decide, by decide⟩ dX11_alone_86 ?_
        refine v_if_ne hC 142 dX11_alone_89 rfl (fun c39 => ?_) (fun c39 => ?_)
        · rw [if_neg c39] at h
          refine v_drop [true, true, false, true, true, true, true, false] [some (.ref 208), some (.int v1), none, some (.int v3), some (.int v4), some (.int v5), some (.int v6), none] rfl ?_
          exact ok_X11_alone_142 hC hnt h
        · rw [if_pos c39] at h
          refine v_aload_n hC dX11_alone_92 rfl ?_
          refine v_iload_n hC dX11_alone_93 rfl ?_
          refine v_iload_n hC dX11_alone_94 rfl ?_
          obtain ⟨r40, M41, q42, h⟩ := bnd_some h
          refine w_callVi hC [.int v1, .int v2] [] (ok_X11_pinchOf q42) mv_X11_pinchOf aw_1514 ly_208 rfl (Nat.le_of_ble_eq_true rfl) ⟨by decide, by decide⟩ ⟨by decide, by decide⟩ dX11_alone_95 ?_
          refine w_istore hC dX11_alone_98 (ltk rfl) [some (.ref 208), some (.int v1), some (.int v2), some (.int v3), some (.int v4), some (.int v5), some (.int v6), some (.int r40)] rfl ?_
          refine v_aload_n hC dX11_alone_100 rfl ?_
          refine v_geta (k := 1) (b := 209) hC cls_X11 ly_208 (by decide) rfl aw_1232 rfl dX11_alone_101 ?_
          refine v_iload_n hC dX11_alone_104 rfl ?_
          refine v_iconst (v := (2 : Int32)) hC dX11_alone_105 rfl ?_
          obtain ⟨r43, M44, q45, h⟩ := bnd_some h
          refine w_callSi hC [.int v1, .int (2 : Int32)] [.ref 209] (ok_X11_cellarAt q45) ms_X11_cellarAt aw_1410 rfl (Nat.le_of_ble_eq_true rfl) ⟨by decide, by decide⟩ ⟨by decide, by decide⟩ dX11_alone_106 ?_
          refine v_dup2 hC dX11_alone_109 rfl rfl ?_
          obtain ⟨g46, h⟩ := grd_some h
          refine v_iald hC ly_209 (inb_in g46) dX11_alone_110 ?_
          refine v_iload hC dX11_alone_111 rfl ?_
          refine v_isub hC dX11_alone_113 ?_
          obtain ⟨g47, h⟩ := grd_some h
          obtain ⟨M48, e_M48, h⟩ := lt_some h
          refine w_iast hC ly_209 (inb_in g47) dX11_alone_114 e_M48 ?_
          refine v_aload_n hC dX11_alone_115 rfl ?_
          refine v_geta (k := 1) (b := 209) hC cls_X11 ly_208 (by decide) rfl aw_1232 rfl dX11_alone_116 ?_
          refine v_iload_n hC dX11_alone_119 rfl ?_
          refine v_sipush (v := (999 : Int32)) hC dX11_alone_120 rfl ?_
          refine v_aload_n hC dX11_alone_123 rfl ?_
          refine v_geta (k := 1) (b := 209) hC cls_X11 ly_208 (by decide) rfl aw_1232 rfl dX11_alone_124 ?_
          refine v_iload_n hC dX11_alone_127 rfl ?_
          obtain ⟨g49, h⟩ := grd_some h
          refine v_iald hC ly_209 (inb_in g49) dX11_alone_128 ?_
          refine v_iload hC dX11_alone_129 rfl ?_
          refine v_iadd hC dX11_alone_131 ?_
          refine v_mmin hC aw_1550 wm_min (Nat.le_of_ble_eq_true rfl) (Nat.le_of_ble_eq_true rfl) (Nat.le_of_ble_eq_true rfl) (Nat.le_of_ble_eq_true rfl) dX11_alone_132 ?_
          obtain ⟨g50, h⟩ := grd_some h
          obtain ⟨M51, e_M51, h⟩ := lt_some h
          refine w_iast hC ly_209 (inb_in g50) dX11_alone_135 e_M51 ?_
          refine w_iinc hC (v6 + (1 : Int32)) dX11_alone_136 rfl rfl [some (.ref 208), some (.int v1), some (.int v2), some (.int v3), some (.int v4), some (.int v5), some (.int (v6 + (1 : Int32))), some (.int r40)] rfl ?_
          refine v_goto (tg := 71) hC dX11_alone_139 rfl ?_
          exact ih _ _ _ _ _ _ _ _ _ _ h
set_option maxRecDepth 20000 in
set_option maxHeartbeats 4000000 in
theorem ok_X11_alone_27 {N : Nat} {X : am_X} {l : Launch} (hC : am_C X l (am_rm 8 0 0) cX11_alone yX11_alone.cls (some .int)) (hnt : am_NT X) {v1 v2 s1 : Int32} {M : Mm} {r : Int32} {M' : Mm} (h : f_X11_alone_27 N v1 v2 s1 M = some (r, M')) : am_V X LY M 0 0 (am_Q X LY 0 0 (.inl (some (.int r))) M') 27 [some (.ref 208), some (.int v1), some (.int v2), none, none, none, none, none] [.int s1, .ref 208] := by
  unfold f_X11_alone_27 at h
  refine v_iconst (v := (1 : Int32)) hC dX11_alone_27 rfl ?_
  obtain ⟨r6, M7, q8, h⟩ := bnd_some h
  refine w_callVi hC [.int s1, .int (1 : Int32)] [] (ok_X11_throwsIf q8) mv_X11_throwsIf aw_1470 ly_208 rfl (Nat.le_of_ble_eq_true rfl) ⟨by decide, by decide⟩ ⟨by decide, by decide⟩ dX11_alone_28 ?_
  refine v_if_eq hC 36 dX11_alone_31 rfl (fun c9 => ?_) (fun c9 => ?_)
  · rw [if_pos c9] at h
    refine v_iload_n hC dX11_alone_36 rfl ?_
    refine v_iconst (v := (3 : Int32)) hC dX11_alone_37 rfl ?_
    refine v_aload_n hC dX11_alone_38 rfl ?_
    refine v_iload_n hC dX11_alone_39 rfl ?_
    refine v_iconst (v := (1 : Int32)) hC dX11_alone_40 rfl ?_
    obtain ⟨r10, M11, q12, h⟩ := bnd_some h
    refine w_callVi hC [.int v1, .int (1 : Int32)] [.int (3 : Int32), .int v2] (ok_X11_ofCellar q12) mv_X11_ofCellar aw_1510 ly_208 rfl (Nat.le_of_ble_eq_true rfl) ⟨by decide, by decide⟩ ⟨by decide, by decide⟩ dX11_alone_41 ?_
    refine v_iadd hC dX11_alone_44 ?_
    obtain ⟨r13, M14, q15, h⟩ := bnd_some h
    refine w_callSi hC [.int v2, .int ((3 : Int32) + r10)] [] (ok_X11_dinerAt q15) ms_X11_dinerAt aw_1384 rfl (Nat.le_of_ble_eq_true rfl) ⟨by decide, by decide⟩ ⟨by decide, by decide⟩ dX11_alone_45 ?_
    refine w_istore_n hC dX11_alone_48 (ltk rfl) [some (.ref 208), some (.int v1), some (.int v2), some (.int r13), none, none, none, none] rfl ?_
    refine v_aload_n hC dX11_alone_49 rfl ?_
    refine v_iload_n hC dX11_alone_50 rfl ?_
    refine v_iconst (v := (2 : Int32)) hC dX11_alone_51 rfl ?_
    obtain ⟨r16, M17, q18, h⟩ := bnd_some h
    refine w_callVi hC [.int v1, .int (2 : Int32)] [] (ok_X11_ofCellar q18) mv_X11_ofCellar aw_1510 ly_208 rfl (Nat.le_of_ble_eq_true rfl) ⟨by decide, by decide⟩ ⟨by decide, by decide⟩ dX11_alone_52 ?_
    refine w_istore hC dX11_alone_55 (ltk rfl) [some (.ref 208), some (.int v1), some (.int v2), some (.int r13), some (.int r16), none, none, none] rfl ?_
    refine v_aload_n hC dX11_alone_57 rfl ?_
    refine v_geta (k := 1) (b := 209) hC cls_X11 ly_208 (by decide) rfl aw_1232 rfl dX11_alone_58 ?_
    refine v_iload_n hC dX11_alone_61 rfl ?_
    obtain ⟨g19, h⟩ := grd_some h
    refine v_iald hC ly_209 (inb_in g19) dX11_alone_62 ?_
    obtain ⟨x20, e_x20, h⟩ := lt_some h
    refine v_nam e_x20 ?_
    refine w_istore hC dX11_alone_63 (ltk rfl) [some (.ref 208), some (.int v1), some (.int v2), some (.int r13), some (.int r16), some (.int x20), none, none] rfl ?_
    refine v_iconst (v := (0 : Int32)) hC dX11_alone_65 rfl ?_
    refine w_istore hC dX11_alone_66 (ltk rfl) [some (.ref 208), some (.int v1), some (.int v2), some (.int r13), some (.int r16), some (.int x20), some (.int (0 : Int32)), none] rfl ?_
    refine v_iconst (v := (1 : Int32)) hC dX11_alone_68 rfl ?_
    refine w_istore hC dX11_alone_69 (ltk rfl) [some (.ref 208), some (.int v1), some (.int v2), some (.int r13), some (.int r16), some (.int x20), some (.int (0 : Int32)), some (.int (1 : Int32))] rfl ?_
    exact ok_X11_alone_71 hC hnt N _ _ _ _ _ _ _ _ _ _ h
  · rw [if_neg c9] at h
    refine v_iconst (v := (0 : Int32)) hC dX11_alone_34 rfl ?_
    cases h
    exact v_iret hC (by decide) (by decide) dX11_alone_35
set_option maxRecDepth 20000 in
set_option maxHeartbeats 4000000 in
theorem ok_X11_alone_22 {N : Nat} {X : am_X} {l : Launch} (hC : am_C X l (am_rm 8 0 0) cX11_alone yX11_alone.cls (some .int)) (hnt : am_NT X) {v1 v2 : Int32} {M : Mm} {r : Int32} {M' : Mm} (h : f_X11_alone_22 N v1 v2 M = some (r, M')) : am_V X LY M 0 0 (am_Q X LY 0 0 (.inl (some (.int r))) M') 22 [some (.ref 208), some (.int v1), some (.int v2), none, none, none, none, none] [.ref 208] := by
  unfold f_X11_alone_22 at h
  refine v_iconst (v := (1 : Int32)) hC dX11_alone_22 rfl ?_
  refine v_goto (tg := 27) hC dX11_alone_23 rfl ?_
  exact ok_X11_alone_27 hC hnt h
set_option maxRecDepth 20000 in
set_option maxHeartbeats 4000000 in
theorem ok_X11_alone {l : Launch} {N : Nat} {v1 v2 : Int32} {M : Mm} {r : Int32} {M' : Mm} (h : f_X11_alone N v1 v2 M = some (r, M')) : am_M l yX11_alone cX11_alone 8 (some .int) 8 0 0 LY M [.ref 208, .int v1, .int v2] (.inl (some (.int r))) M' := by
  unfold f_X11_alone at h
  refine am_intro (by decide) (by simp [Value.category]) (Nat.le_of_ble_eq_true rfl) (fun X hC hnt => ?_)
  refine am_start (L := [some (.ref 208), some (.int v1), some (.int v2), none, none, none, none, none]) rfl ?_
  refine v_aload_n hC dX11_alone_0 rfl ?_
  refine v_iconst (v := (0 : Int32)) hC dX11_alone_1 rfl ?_
  obtain ⟨M1, e_M1, h⟩ := lt_some h
  refine w_puti (k := 0) hC cls_X11 ly_208 (by decide) rfl aw_1231 rfl rfl ⟨rfl, rfl⟩ dX11_alone_2 e_M1 ?_
  refine v_aload_n hC dX11_alone_5 rfl ?_
  refine v_aload_n hC dX11_alone_6 rfl ?_
  refine v_iload_n hC dX11_alone_7 rfl ?_
  obtain ⟨r2, M3, q4, h⟩ := bnd_some h
  refine w_callVi hC [.int v1] [.ref 208] (ok_X11_noCellar q4) mv_X11_noCellar aw_1502 ly_208 rfl (Nat.le_of_ble_eq_true rfl) ⟨by decide, by decide⟩ ⟨by decide, by decide⟩ dX11_alone_8 ?_
  refine v_if_ne hC 22 dX11_alone_11 rfl (fun c5 => ?_) (fun c5 => ?_)
  · rw [if_neg c5] at h
    exact ok_X11_alone_22 hC hnt h
  · rw [if_pos c5] at h
    refine v_aload_n hC dX11_alone_14 rfl ?_
    refine v_iload_n hC dX11_alone_15 rfl ?_
    obtain ⟨r53, M54, q55, h⟩ := bnd_some h
    refine w_callVi hC [.int v2] [.ref 208] (ok_X11_noDiner q55) mv_X11_noDiner aw_1482 ly_208 rfl (Nat.le_of_ble_eq_true rfl) ⟨by decide, by decide⟩ ⟨by decide, by decide⟩ dX11_alone_16 ?_
    refine v_if_eq hC 26 dX11_alone_19 rfl (fun c56 => ?_) (fun c56 => ?_)
    · rw [if_pos c56] at h
      refine v_iconst (v := (0 : Int32)) hC dX11_alone_26 rfl ?_
      exact ok_X11_alone_27 hC hnt h
    · rw [if_neg c56] at h
      exact ok_X11_alone_22 hC hnt h
def f_X11_servedTo_37 (N : Nat) (v2 : Int32) (v5 : Int32) (s0 : Int32) (M : Mm) : Option (Int32 × Mm) :=
  bnd (f_X11_dinerAt N v2 (2 : Int32) M) (fun r10 M11 => grd (inb r10 2107) (lt (wr M11 209 (r10).toNatClampNeg v5) (fun M14 => some (s0, M14))))
def f_X11_servedTo (N : Nat) (v1 : Int32) (v2 : Int32) (v3 : Int32) (v4 : Int32) (M : Mm) : Option (Int32 × Mm) :=
  bnd (f_X11_of N v2 (2 : Int32) M) (fun r1 M2 => bnd (f_X11_dinerAt N v2 (2 : Int32) M2) (fun r4 M5 => grd (inb r4 2107) (lt (wr M5 209 (r4).toNatClampNeg ((1 : Int32) - v4)) (fun M8 => (if v3 = (1 : Int32) then bnd (f_X11_takenBy N v1 v2 M8) (fun r15 M16 => f_X11_servedTo_37 N v2 r1 r15 M16) else f_X11_servedTo_37 N v2 r1 (0 : Int32) M8)))))
set_option maxRecDepth 20000 in
set_option maxHeartbeats 4000000 in
theorem ok_X11_servedTo_37 {N : Nat} {X : am_X} {l : Launch} (hC : am_C X l (am_rm 7 0 0) cX11_servedTo yX11_servedTo.cls (some .int)) (hnt : am_NT X) {v2 v5 s0 : Int32} {M : Mm} {r : Int32} {M' : Mm} (h : f_X11_servedTo_37 N v2 v5 s0 M = some (r, M')) : am_V X LY M 0 0 (am_Q X LY 0 0 (.inl (some (.int r))) M') 37 [some (.ref 208), none, some (.int v2), none, none, some (.int v5), none] [.int s0] := by
  unfold f_X11_servedTo_37 at h
  refine w_istore hC dX11_servedTo_37 (ltk rfl) [some (.ref 208), none, some (.int v2), none, none, some (.int v5), some (.int s0)] rfl ?_
  refine v_aload_n hC dX11_servedTo_39 rfl ?_
  refine v_geta (k := 1) (b := 209) hC cls_X11 ly_208 (by decide) rfl aw_1232 rfl dX11_servedTo_40 ?_
  refine v_iload_n hC dX11_servedTo_43 rfl ?_
  refine v_iconst (v := (2 : Int32)) hC dX11_servedTo_44 rfl ?_
  obtain ⟨r10, M11, q12, h⟩ := bnd_some h
  refine w_callSi hC [.int v2, .int (2 : Int32)] [.ref 209] (ok_X11_dinerAt q12) ms_X11_dinerAt aw_1384 rfl (Nat.le_of_ble_eq_true rfl) ⟨by decide, by decide⟩ ⟨by decide, by decide⟩ dX11_servedTo_45 ?_
  refine v_iload hC dX11_servedTo_48 rfl ?_
  obtain ⟨g13, h⟩ := grd_some h
  obtain ⟨M14, e_M14, h⟩ := lt_some h
  refine w_iast hC ly_209 (inb_in g13) dX11_servedTo_50 e_M14 ?_
  refine v_iload hC dX11_servedTo_51 rfl ?_
  cases h
  exact v_iret hC (by decide) (by decide) dX11_servedTo_53
set_option maxRecDepth 20000 in
set_option maxHeartbeats 4000000 in
theorem ok_X11_servedTo {l : Launch} {N : Nat} {v1 v2 v3 v4 : Int32} {M : Mm} {r : Int32} {M' : Mm} (h : f_X11_servedTo N v1 v2 v3 v4 M = some (r, M')) : am_M l yX11_servedTo cX11_servedTo 7 (some .int) 7 0 0 LY M [.ref 208, .int v1, .int v2, .int v3, .int v4] (.inl (some (.int r))) M' := by
  unfold f_X11_servedTo at h
  refine am_intro (by decide) (by simp [Value.category]) (Nat.le_of_ble_eq_true rfl) (fun X hC hnt => ?_)
  refine am_start (L := [some (.ref 208), some (.int v1), some (.int v2), some (.int v3), some (.int v4), none, none]) rfl ?_
  refine v_aload_n hC dX11_servedTo_0 rfl ?_
  refine v_iload_n hC dX11_servedTo_1 rfl ?_
  refine v_iconst (v := (2 : Int32)) hC dX11_servedTo_2 rfl ?_
  obtain ⟨r1, M2, q3, h⟩ := bnd_some h
  refine w_callVi hC [.int v2, .int (2 : Int32)] [] (ok_X11_of q3) mv_X11_of aw_1380 ly_208 rfl (Nat.le_of_ble_eq_true rfl) ⟨by decide, by decide⟩ ⟨by decide, by decide⟩ dX11_servedTo_3 ?_
  refine w_istore hC dX11_servedTo_6 (ltk rfl) [some (.ref 208), some (.int v1), some (.int v2), some (.int v3), some (.int v4), some (.int r1), none] rfl ?_
  refine v_aload_n hC dX11_servedTo_8 rfl ?_
  refine v_geta (k := 1) (b := 209) hC cls_X11 ly_208 (by decide) rfl aw_1232 rfl dX11_servedTo_9 ?_
  refine v_iload_n hC dX11_servedTo_12 rfl ?_
  refine v_iconst (v := (2 : Int32)) hC dX11_servedTo_13 rfl ?_
  obtain ⟨r4, M5, q6, h⟩ := bnd_some h
  refine w_callSi hC [.int v2, .int (2 : Int32)] [.ref 209] (ok_X11_dinerAt q6) ms_X11_dinerAt aw_1384 rfl (Nat.le_of_ble_eq_true rfl) ⟨by decide, by decide⟩ ⟨by decide, by decide⟩ dX11_servedTo_14 ?_
  refine v_iconst (v := (1 : Int32)) hC dX11_servedTo_17 rfl ?_
  refine v_iload hC dX11_servedTo_18 rfl ?_
  refine v_isub hC dX11_servedTo_20 ?_
  obtain ⟨g7, h⟩ := grd_some h
  obtain ⟨M8, e_M8, h⟩ := lt_some h
  refine w_iast hC ly_209 (inb_in g7) dX11_servedTo_21 e_M8 ?_
  refine v_iload_n hC dX11_servedTo_22 rfl ?_
  refine v_iconst (v := (1 : Int32)) hC dX11_servedTo_23 rfl ?_
  refine v_icmp_ne hC 36 dX11_servedTo_24 rfl (fun c9 => ?_) (fun c9 => ?_)
  · rw [if_neg c9] at h
    refine v_iconst (v := (0 : Int32)) hC dX11_servedTo_36 rfl ?_
    refine v_drop [true, false, true, false, false, true, false] [some (.ref 208), none, some (.int v2), none, none, some (.int r1), none] rfl ?_
    exact ok_X11_servedTo_37 hC hnt h
  · rw [if_pos c9] at h
    refine v_aload_n hC dX11_servedTo_27 rfl ?_
    refine v_iload_n hC dX11_servedTo_28 rfl ?_
    refine v_iload_n hC dX11_servedTo_29 rfl ?_
    obtain ⟨r15, M16, q17, h⟩ := bnd_some h
    refine w_callVi hC [.int v1, .int v2] [] (ok_X11_takenBy q17) mv_X11_takenBy aw_1529 ly_208 rfl (Nat.le_of_ble_eq_true rfl) ⟨by decide, by decide⟩ ⟨by decide, by decide⟩ dX11_servedTo_30 ?_
    refine v_goto (tg := 37) hC dX11_servedTo_33 rfl ?_
    refine v_drop [true, false, true, false, false, true, false] [some (.ref 208), none, some (.int v2), none, none, some (.int r1), none] rfl ?_
    exact ok_X11_servedTo_37 hC hnt h
