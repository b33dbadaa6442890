def f_X10_pass (N : Nat) (v1 : Int32) (v2 : Int32) (M : Mm) : Option ((Int32 ⊕ String) × Mm) :=
  bnx (f_X10_needsCellar N v1 M) (fun r1 M2 => bnx (f_X10_needsSeat N v2 M2) (fun r4 M5 => bnd (f_X10_remember N M5) (fun r7 M8 => grd (inb v1 5) (lt (M8 11 (v1).toNatClampNeg) (fun x11 => grd (inb v1 5) (lt (wr M8 11 (v1).toNatClampNeg v2) (fun M13 => some (.inl x11, M13))))))) (fun r4 M5 => some (.inr r4, M5))) (fun r1 M2 => some (.inr r1, M2))
set_option maxRecDepth 20000 in
set_option maxHeartbeats 4000000 in
theorem ok_X10_pass {l : Launch} {N : Nat} {v1 v2 : Int32} (hl : l.stackTraces = false) {M : Mm} {r : (Int32 ⊕ String)} {M' : Mm} (h : f_X10_pass N v1 v2 M = some (r, M')) : am_M l yX10_pass cX10_pass 4 (some .int) 7 2 12 LY M [.ref 0, .int v1, .int v2] (am_oi r) M' := by
  unfold f_X10_pass at h
  refine am_intro (by decide) (by simp [Value.category]) (Nat.le_of_ble_eq_true rfl) (fun X hC hnt => ?_)
  refine am_start (L := [some (.ref 0), some (.int v1), some (.int v2), none]) rfl ?_
  refine v_aload_n hC dX10_pass_0 rfl ?_
  refine v_iload_n hC dX10_pass_1 rfl ?_
  rcases bnx_some h with ⟨r1, M2, q3, h⟩ | ⟨r1, M2, q3, h⟩
  · refine w_callVv hC [.int v1] [] (ok_X10_needsCellar hl q3) mv_X10_needsCellar aw_912 ly_0 rfl (Nat.le_of_ble_eq_true rfl) ⟨by decide, by decide⟩ ⟨by decide, by decide⟩ dX10_pass_2 ?_
    refine v_aload_n hC dX10_pass_5 rfl ?_
    refine v_iload_n hC dX10_pass_6 rfl ?_
    rcases bnx_some h with ⟨r4, M5, q6, h⟩ | ⟨r4, M5, q6, h⟩
    · refine w_callVv hC [.int v2] [] (ok_X10_needsSeat hl q6) mv_X10_needsSeat aw_938 ly_0 rfl (Nat.le_of_ble_eq_true rfl) ⟨by decide, by decide⟩ ⟨by decide, by decide⟩ dX10_pass_7 ?_
      refine v_aload_n hC dX10_pass_10 rfl ?_
      obtain ⟨r7, M8, q9, h⟩ := bnd_some h
      refine w_callVv hC [] [] (ok_X10_remember q9) mv_X10_remember aw_950 ly_0 rfl (Nat.le_of_ble_eq_true rfl) ⟨by decide, by decide⟩ ⟨by decide, by decide⟩ dX10_pass_11 ?_
      refine v_aload_n hC dX10_pass_14 rfl ?_
      refine v_geta (k := 2) (b := 7) hC cls_X10 ly_0 (by decide) rfl aw_317 rfl dX10_pass_15 ?_
      refine v_geta (k := 14) (b := 11) hC cls_X6 ly_7 (by decide) rfl aw_127 rfl dX10_pass_18 ?_
      refine v_iload_n hC dX10_pass_21 rfl ?_
      obtain ⟨g10, h⟩ := grd_some h
      refine v_iald hC ly_11 (inb_in g10) dX10_pass_22 ?_
      obtain ⟨x11, e_x11, h⟩ := lt_some h
      refine v_nam e_x11 ?_
      refine w_istore_n hC dX10_pass_23 (ltk rfl) [some (.ref 0), some (.int v1), some (.int v2), some (.int x11)] rfl ?_
      refine v_aload_n hC dX10_pass_24 rfl ?_
      refine v_geta (k := 2) (b := 7) hC cls_X10 ly_0 (by decide) rfl aw_317 rfl dX10_pass_25 ?_
      refine v_geta (k := 14) (b := 11) hC cls_X6 ly_7 (by decide) rfl aw_127 rfl dX10_pass_28 ?_
      refine v_iload_n hC dX10_pass_31 rfl ?_
      refine v_iload_n hC dX10_pass_32 rfl ?_
      obtain ⟨g12, h⟩ := grd_some h
      obtain ⟨M13, e_M13, h⟩ := lt_some h
      refine w_iast hC ly_11 (inb_in g12) dX10_pass_33 e_M13 ?_
      refine v_iload_n hC dX10_pass_34 rfl ?_
      cases h
      exact v_iret hC (by decide) (by decide) dX10_pass_35
    · cases h
      exact w_callVx hC hnt [.int v2] [] (ok_X10_needsSeat hl q6) mv_X10_needsSeat aw_938 ly_0 rfl (Nat.le_of_ble_eq_true rfl) ⟨by decide, by decide⟩ ⟨by decide, by decide⟩ dX10_pass_7 (by decide) (by decide)
  · cases h
    exact w_callVx hC hnt [.int v1] [] (ok_X10_needsCellar hl q3) mv_X10_needsCellar aw_912 ly_0 rfl (Nat.le_of_ble_eq_true rfl) ⟨by decide, by decide⟩ ⟨by decide, by decide⟩ dX10_pass_2 (by decide) (by decide)
def f_X10_knock (N : Nat) (v1 : Int32) (M : Mm) : Option ((Int32 ⊕ String) × Mm) :=
  bnx (f_X10_needsCellar N v1 M) (fun r1 M2 => bnd (f_X10_remember N M2) (fun r4 M5 => grd (inb v1 5) (lt (M5 14 (v1).toNatClampNeg) (fun x8 => grd (inb v1 5) (lt (wr M5 14 (v1).toNatClampNeg (0 : Int32)) (fun M10 => some (.inl x8, M10))))))) (fun r1 M2 => some (.inr r1, M2))
set_option maxRecDepth 20000 in
set_option maxHeartbeats 4000000 in
theorem ok_X10_knock {l : Launch} {N : Nat} {v1 : Int32} (hl : l.stackTraces = false) {M : Mm} {r : (Int32 ⊕ String)} {M' : Mm} (h : f_X10_knock N v1 M = some (r, M')) : am_M l yX10_knock cX10_knock 3 (some .int) 7 1 6 LY M [.ref 0, .int v1] (am_oi r) M' := by
  unfold f_X10_knock at h
  refine am_intro (by decide) (by simp [Value.category]) (Nat.le_of_ble_eq_true rfl) (fun X hC hnt => ?_)
  refine am_start (L := [some (.ref 0), some (.int v1), none]) rfl ?_
  refine v_aload_n hC dX10_knock_0 rfl ?_
  refine v_iload_n hC dX10_knock_1 rfl ?_
  rcases bnx_some h with ⟨r1, M2, q3, h⟩ | ⟨r1, M2, q3, h⟩
  · refine w_callVv hC [.int v1] [] (ok_X10_needsCellar hl q3) mv_X10_needsCellar aw_912 ly_0 rfl (Nat.le_of_ble_eq_true rfl) ⟨by decide, by decide⟩ ⟨by decide, by decide⟩ dX10_knock_2 ?_
    refine v_aload_n hC dX10_knock_5 rfl ?_
    obtain ⟨r4, M5, q6, h⟩ := bnd_some h
    refine w_callVv hC [] [] (ok_X10_remember q6) mv_X10_remember aw_950 ly_0 rfl (Nat.le_of_ble_eq_true rfl) ⟨by decide, by decide⟩ ⟨by decide, by decide⟩ dX10_knock_6 ?_
    refine v_aload_n hC dX10_knock_9 rfl ?_
    refine v_geta (k := 2) (b := 7) hC cls_X10 ly_0 (by decide) rfl aw_317 rfl dX10_knock_10 ?_
    refine v_geta (k := 17) (b := 14) hC cls_X6 ly_7 (by decide) rfl aw_139 rfl dX10_knock_13 ?_
    refine v_iload_n hC dX10_knock_16 rfl ?_
    obtain ⟨g7, h⟩ := grd_some h
    refine v_iald hC ly_14 (inb_in g7) dX10_knock_17 ?_
    obtain ⟨x8, e_x8, h⟩ := lt_some h
    refine v_nam e_x8 ?_
    refine w_istore_n hC dX10_knock_18 (ltk rfl) [some (.ref 0), some (.int v1), some (.int x8)] rfl ?_
    refine v_aload_n hC dX10_knock_19 rfl ?_
    refine v_geta (k := 2) (b := 7) hC cls_X10 ly_0 (by decide) rfl aw_317 rfl dX10_knock_20 ?_
    refine v_geta (k := 17) (b := 14) hC cls_X6 ly_7 (by decide) rfl aw_139 rfl dX10_knock_23 ?_
    refine v_iload_n hC dX10_knock_26 rfl ?_
    refine v_iconst (v := (0 : Int32)) hC dX10_knock_27 rfl ?_
    obtain ⟨g9, h⟩ := grd_some h
    obtain ⟨M10, e_M10, h⟩ := lt_some h
    refine w_iast hC ly_14 (inb_in g9) dX10_knock_28 e_M10 ?_
    refine v_iload_n hC dX10_knock_29 rfl ?_
    cases h
    exact v_iret hC (by decide) (by decide) dX10_knock_30
  · cases h
    exact w_callVx hC hnt [.int v1] [] (ok_X10_needsCellar hl q3) mv_X10_needsCellar aw_912 ly_0 rfl (Nat.le_of_ble_eq_true rfl) ⟨by decide, by decide⟩ ⟨by decide, by decide⟩ dX10_knock_2 (by decide) (by decide)
def f_X10_needsWithin_10 (N : Nat) (M : Mm) : Option ((Int32 ⊕ String) × Mm) :=
  some (.inr "java/lang/IllegalArgumentException", M)
def f_X10_needsWithin (N : Nat) (v1 : Int32) (v2 : Int32) (v3 : Int32) (M : Mm) : Option ((Int32 ⊕ String) × Mm) :=
  (if v1 < v2 then f_X10_needsWithin_10 N M else (if v1 ≤ v3 then some (.inl 0, M) else f_X10_needsWithin_10 N M))
set_option maxRecDepth 20000 in
set_option maxHeartbeats 4000000 in
theorem ok_X10_needsWithin_10 {N : Nat} {X : am_X} {l : Launch} (hl : l.stackTraces = false) (hC : am_C X l (am_rm 6 1 6) cX10_needsWithin yX10_needsWithin.cls none) (hnt : am_NT X) {M : Mm} {r : (Int32 ⊕ String)} {M' : Mm} (h : f_X10_needsWithin_10 N M = some (r, M')) : am_V X LY M 0 0 (am_Q X LY 1 6 (am_ov r) M') 10 [none, none, none, none] [] := by
  unfold f_X10_needsWithin_10 at h
  cases h
  exact w_throwW hC hnt hl (cls := "java/lang/IllegalArgumentException") (text := "the number is none") (i9 := 8) ["java/lang/RuntimeException", "java/lang/Exception"] (by decide +kernel) (by decide +kernel) aw_709 aw_21 st_8 th1_IllegalArgumentException_127 th2_IllegalArgumentException_127 (by decide +kernel) (th3_IllegalArgumentException_127 _ rfl rfl) dX10_needsWithin_10 dX10_needsWithin_13 dX10_needsWithin_14 dX10_needsWithin_17 dX10_needsWithin_20 (by decide) (Nat.le_of_ble_eq_true rfl) (by decide) (by decide) (by decide) (by decide)
set_option maxRecDepth 20000 in
set_option maxHeartbeats 4000000 in
theorem ok_X10_needsWithin {l : Launch} {N : Nat} {v1 v2 v3 : Int32} (hl : l.stackTraces = false) {M : Mm} {r : (Int32 ⊕ String)} {M' : Mm} (h : f_X10_needsWithin N v1 v2 v3 M = some (r, M')) : am_M l yX10_needsWithin cX10_needsWithin 4 none 6 1 6 LY M [.ref 0, .int v1, .int v2, .int v3] (am_ov r) M' := by
  unfold f_X10_needsWithin at h
  refine am_intro (by decide) (by simp [Value.category]) (Nat.le_of_ble_eq_true rfl) (fun X hC hnt => ?_)
  refine am_start (L := [some (.ref 0), some (.int v1), some (.int v2), some (.int v3)]) rfl ?_
  refine v_iload_n hC dX10_needsWithin_0 rfl ?_
  refine v_iload_n hC dX10_needsWithin_1 rfl ?_
  refine v_icmp_lt hC 10 dX10_needsWithin_2 rfl (fun c1 => ?_) (fun c1 => ?_)
  · rw [if_pos c1] at h
    refine v_drop [false, false, false, false] [none, none, none, none] rfl ?_
    exact ok_X10_needsWithin_10 hl hC hnt h
  · rw [if_neg c1] at h
    refine v_iload_n hC dX10_needsWithin_5 rfl ?_
    refine v_iload_n hC dX10_needsWithin_6 rfl ?_
    refine v_icmp_le hC 21 dX10_needsWithin_7 rfl (fun c2 => ?_) (fun c2 => ?_)
    · rw [if_pos c2] at h
      cases h
      exact v_vret hC (by decide) (by decide) dX10_needsWithin_21
    · rw [if_neg c2] at h
      refine v_drop [false, false, false, false] [none, none, none, none] rfl ?_
      exact ok_X10_needsWithin_10 hl hC hnt h
def f_X10_fill (N : Nat) (v1 : Int32) (v2 : Int32) (M : Mm) : Option ((Int32 ⊕ String) × Mm) :=
  bnx (f_X10_needsCellar N v1 M) (fun r1 M2 => bnx (f_X10_needsWithin N v2 (1 : Int32) (200 : Int32) M2) (fun r4 M5 => bnd (f_X10_remember N M5) (fun r7 M8 => grd (inb v1 5) (grd (inb v1 5) (lt (wr M8 13 (v1).toNatClampNeg (if ((M8 13 (v1).toNatClampNeg) + v2) < (200 : Int32) then ((M8 13 (v1).toNatClampNeg) + v2) else (200 : Int32))) (fun M12 => grd (inb v1 5) (some (.inl (M12 13 (v1).toNatClampNeg), M12))))))) (fun r4 M5 => some (.inr r4, M5))) (fun r1 M2 => some (.inr r1, M2))
set_option maxRecDepth 20000 in
set_option maxHeartbeats 4000000 in
theorem ok_X10_fill {l : Launch} {N : Nat} {v1 v2 : Int32} (hl : l.stackTraces = false) {M : Mm} {r : (Int32 ⊕ String)} {M' : Mm} (h : f_X10_fill N v1 v2 M = some (r, M')) : am_M l yX10_fill cX10_fill 3 (some .int) 7 2 12 LY M [.ref 0, .int v1, .int v2] (am_oi r) M' := by
  unfold f_X10_fill at h
  refine am_intro (by decide) (by simp [Value.category]) (Nat.le_of_ble_eq_true rfl) (fun X hC hnt => ?_)
  refine am_start (L := [some (.ref 0), some (.int v1), some (.int v2)]) rfl ?_
  refine v_aload_n hC dX10_fill_0 rfl ?_
  refine v_iload_n hC dX10_fill_1 rfl ?_
  rcases bnx_some h with ⟨r1, M2, q3, h⟩ | ⟨r1, M2, q3, h⟩
  · refine w_callVv hC [.int v1] [] (ok_X10_needsCellar hl q3) mv_X10_needsCellar aw_912 ly_0 rfl (Nat.le_of_ble_eq_true rfl) ⟨by decide, by decide⟩ ⟨by decide, by decide⟩ dX10_fill_2 ?_
    refine v_aload_n hC dX10_fill_5 rfl ?_
    refine v_iload_n hC dX10_fill_6 rfl ?_
    refine v_iconst (v := (1 : Int32)) hC dX10_fill_7 rfl ?_
    refine v_sipush (v := (200 : Int32)) hC dX10_fill_8 rfl ?_
    rcases bnx_some h with ⟨r4, M5, q6, h⟩ | ⟨r4, M5, q6, h⟩
    · refine w_callVv hC [.int v2, .int (1 : Int32), .int (200 : Int32)] [] (ok_X10_needsWithin hl q6) mv_X10_needsWithin aw_969 ly_0 rfl (Nat.le_of_ble_eq_true rfl) ⟨by decide, by decide⟩ ⟨by decide, by decide⟩ dX10_fill_11 ?_
      refine v_aload_n hC dX10_fill_14 rfl ?_
      obtain ⟨r7, M8, q9, h⟩ := bnd_some h
      refine w_callVv hC [] [] (ok_X10_remember q9) mv_X10_remember aw_950 ly_0 rfl (Nat.le_of_ble_eq_true rfl) ⟨by decide, by decide⟩ ⟨by decide, by decide⟩ dX10_fill_15 ?_
      refine v_aload_n hC dX10_fill_18 rfl ?_
      refine v_geta (k := 2) (b := 7) hC cls_X10 ly_0 (by decide) rfl aw_317 rfl dX10_fill_19 ?_
      refine v_geta (k := 16) (b := 13) hC cls_X6 ly_7 (by decide) rfl aw_135 rfl dX10_fill_22 ?_
      refine v_iload_n hC dX10_fill_25 rfl ?_
      refine v_sipush (v := (200 : Int32)) hC dX10_fill_26 rfl ?_
      refine v_aload_n hC dX10_fill_29 rfl ?_
      refine v_geta (k := 2) (b := 7) hC cls_X10 ly_0 (by decide) rfl aw_317 rfl dX10_fill_30 ?_
      refine v_geta (k := 16) (b := 13) hC cls_X6 ly_7 (by decide) rfl aw_135 rfl dX10_fill_33 ?_
      refine v_iload_n hC dX10_fill_36 rfl ?_
      obtain ⟨g10, h⟩ := grd_some h
      refine v_iald hC ly_13 (inb_in g10) dX10_fill_37 ?_
      refine v_iload_n hC dX10_fill_38 rfl ?_
      refine v_iadd hC dX10_fill_39 ?_
      refine v_mmin hC aw_954 wm_min (Nat.le_of_ble_eq_true rfl) (Nat.le_of_ble_eq_true rfl) (Nat.le_of_ble_eq_true rfl) (Nat.le_of_ble_eq_true rfl) dX10_fill_40 ?_
      obtain ⟨g11, h⟩ := grd_some h
      obtain ⟨M12, e_M12, h⟩ := lt_some h
      refine w_iast hC ly_13 (inb_in g11) dX10_fill_43 e_M12 ?_
      refine v_aload_n hC dX10_fill_44 rfl ?_
      refine v_geta (k := 2) (b := 7) hC cls_X10 ly_0 (by decide) rfl aw_317 rfl dX10_fill_45 ?_
      refine v_geta (k := 16) (b := 13) hC cls_X6 ly_7 (by decide) rfl aw_135 rfl dX10_fill_48 ?_
      refine v_iload_n hC dX10_fill_51 rfl ?_
      obtain ⟨g13, h⟩ := grd_some h
      refine v_iald hC ly_13 (inb_in g13) dX10_fill_52 ?_
      cases h
      exact v_iret hC (by decide) (by decide) dX10_fill_53
    · cases h
      exact w_callVx hC hnt [.int v2, .int (1 : Int32), .int (200 : Int32)] [] (ok_X10_needsWithin hl q6) mv_X10_needsWithin aw_969 ly_0 rfl (Nat.le_of_ble_eq_true rfl) ⟨by decide, by decide⟩ ⟨by decide, by decide⟩ dX10_fill_11 (by decide) (by decide)
  · cases h
    exact w_callVx hC hnt [.int v1] [] (ok_X10_needsCellar hl q3) mv_X10_needsCellar aw_912 ly_0 rfl (Nat.le_of_ble_eq_true rfl) ⟨by decide, by decide⟩ ⟨by decide, by decide⟩ dX10_fill_2 (by decide) (by decide)
def f_X10_change (N : Nat) (v1 : Int32) (v2 : Int32) (M : Mm) : Option ((Int32 ⊕ String) × Mm) :=
  bnx (f_X10_needsSeat N v1 M) (fun r1 M2 => bnx (f_X10_needsSeat N v2 M2) (fun r4 M5 => (if v1 = v2 then some (.inr "java/lang/IllegalArgumentException", M5) else bnd (f_X10_remember N M5) (fun r8 M9 => bnd (f_X6_changesAbout N 7 v1 v2 M9) (fun r11 M12 => bnd (f_X6_dinerAt N 7 v1 M12) (fun r14 M15 => some (.inl r14, M15)))))) (fun r4 M5 => some (.inr r4, M5))) (fun r1 M2 => some (.inr r1, M2))
set_option maxRecDepth 20000 in
set_option maxHeartbeats 4000000 in
theorem ok_X10_change {l : Launch} {N : Nat} {v1 v2 : Int32} (hl : l.stackTraces = false) {M : Mm} {r : (Int32 ⊕ String)} {M' : Mm} (h : f_X10_change N v1 v2 M = some (r, M')) : am_M l yX10_change cX10_change 3 (some .int) 7 3 18 LY M [.ref 0, .int v1, .int v2] (am_oi r) M' := by
  unfold f_X10_change at h
  refine am_intro (by decide) (by simp [Value.category]) (Nat.le_of_ble_eq_true rfl) (fun X hC hnt => ?_)
  refine am_start (L := [some (.ref 0), some (.int v1), some (.int v2)]) rfl ?_
  refine v_aload_n hC dX10_change_0 rfl ?_
  refine v_iload_n hC dX10_change_1 rfl ?_
  rcases bnx_some h with ⟨r1, M2, q3, h⟩ | ⟨r1, M2, q3, h⟩
  · refine w_callVv hC [.int v1] [] (ok_X10_needsSeat hl q3) mv_X10_needsSeat aw_938 ly_0 rfl (Nat.le_of_ble_eq_true rfl) ⟨by decide, by decide⟩ ⟨by decide, by decide⟩ dX10_change_2 ?_
    refine v_aload_n hC dX10_change_5 rfl ?_
    refine v_iload_n hC dX10_change_6 rfl ?_
    rcases bnx_some h with ⟨r4, M5, q6, h⟩ | ⟨r4, M5, q6, h⟩
    · refine w_callVv hC [.int v2] [] (ok_X10_needsSeat hl q6) mv_X10_needsSeat aw_938 ly_0 rfl (Nat.le_of_ble_eq_true rfl) ⟨by decide, by decide⟩ ⟨by decide, by decide⟩ dX10_change_7 ?_
      refine v_iload_n hC dX10_change_10 rfl ?_
      refine v_iload_n hC dX10_change_11 rfl ?_
      refine v_icmp_ne hC 25 dX10_change_12 rfl (fun c7 => ?_) (fun c7 => ?_)
      · rw [if_neg c7] at h
        refine v_aload_n hC dX10_change_25 rfl ?_
        obtain ⟨r8, M9, q10, h⟩ := bnd_some h
        refine w_callVv hC [] [] (ok_X10_remember q10) mv_X10_remember aw_950 ly_0 rfl (Nat.le_of_ble_eq_true rfl) ⟨by decide, by decide⟩ ⟨by decide, by decide⟩ dX10_change_26 ?_
        refine v_aload_n hC dX10_change_29 rfl ?_
        refine v_geta (k := 2) (b := 7) hC cls_X10 ly_0 (by decide) rfl aw_317 rfl dX10_change_30 ?_
        refine v_iload_n hC dX10_change_33 rfl ?_
        refine v_iload_n hC dX10_change_34 rfl ?_
        obtain ⟨r11, M12, q13, h⟩ := bnd_some h
        refine w_callVv hC [.int v1, .int v2] [] (ok_X6_changesAbout kTable_7 q13) mv_X6_changesAbout aw_485 ly_7 rfl (Nat.le_of_ble_eq_true rfl) ⟨by decide, by decide⟩ ⟨by decide, by decide⟩ dX10_change_35 ?_
        refine v_aload_n hC dX10_change_38 rfl ?_
        refine v_geta (k := 2) (b := 7) hC cls_X10 ly_0 (by decide) rfl aw_317 rfl dX10_change_39 ?_
        refine v_iload_n hC dX10_change_42 rfl ?_
        obtain ⟨r14, M15, q16, h⟩ := bnd_some h
        refine w_callVi hC [.int v1] [] (ok_X6_dinerAt kTable_7 q16) mv_X6_dinerAt aw_484 ly_7 rfl (Nat.le_of_ble_eq_true rfl) ⟨by decide, by decide⟩ ⟨by decide, by decide⟩ dX10_change_43 ?_
        cases h
        exact v_iret hC (by decide) (by decide) dX10_change_46
      · rw [if_pos c7] at h
        cases h
        exact w_throw hC hnt hl (cls := "java/lang/IllegalArgumentException") (text := "both seats are one") (i9 := 9) ["java/lang/RuntimeException", "java/lang/Exception"] (by decide +kernel) (by decide +kernel) aw_709 aw_21 st_9 th1_IllegalArgumentException_127 th2_IllegalArgumentException_127 (by decide +kernel) (th3_IllegalArgumentException_127 _ rfl rfl) dX10_change_15 dX10_change_18 dX10_change_19 dX10_change_21 dX10_change_24 (by decide) (Nat.le_of_ble_eq_true rfl) (by decide) (by decide) (by decide) (by decide)
    · cases h
      exact w_callVx hC hnt [.int v2] [] (ok_X10_needsSeat hl q6) mv_X10_needsSeat aw_938 ly_0 rfl (Nat.le_of_ble_eq_true rfl) ⟨by decide, by decide⟩ ⟨by decide, by decide⟩ dX10_change_7 (by decide) (by decide)
  · cases h
    exact w_callVx hC hnt [.int v1] [] (ok_X10_needsSeat hl q3) mv_X10_needsSeat aw_938 ly_0 rfl (Nat.le_of_ble_eq_true rfl) ⟨by decide, by decide⟩ ⟨by decide, by decide⟩ dX10_change_2 (by decide) (by decide)
def f_X10_diet_53 (N : Nat) (v2 : Int32) (v3 : Int32) (s1 : Int32) (M : Mm) : Option ((Int32 ⊕ String) × Mm) :=
  lt (wr M 7 2 s1) (fun M11 => (if v3 = v2 then some (.inl (0 : Int32), M11) else some (.inl (1 : Int32), M11)))
def f_X10_diet (N : Nat) (v1 : Int32) (v2 : Int32) (M : Mm) : Option ((Int32 ⊕ String) × Mm) :=
  bnx (f_X10_needsDiner N v1 M) (fun r1 M2 => bnd (f_X10_remember N M2) (fun r4 M5 => bnd (f_X6_isOnDiet N 7 v1 M5) (fun r7 M8 => (if v2 = (0 : Int32) then f_X10_diet_53 N v2 r7 ((M8 7 2) &&& (((1 : Int32) <<< (v1 &&& 31)) ^^^ (-1 : Int32))) M8 else f_X10_diet_53 N v2 r7 ((M8 7 2) ||| ((1 : Int32) <<< (v1 &&& 31))) M8)))) (fun r1 M2 => some (.inr r1, M2))
set_option maxRecDepth 20000 in
set_option maxHeartbeats 4000000 in
theorem ok_X10_diet_53 {N : Nat} {X : am_X} {l : Launch} (hl : l.stackTraces = false) (hC : am_C X l (am_rm 7 1 6) cX10_diet yX10_diet.cls (some .boolean)) (hnt : am_NT X) {v2 v3 s1 : Int32} {M : Mm} {r : (Int32 ⊕ String)} {M' : Mm} (h : f_X10_diet_53 N v2 v3 s1 M = some (r, M')) : am_V X LY M 1 6 (am_Q X LY 1 6 (am_oi r) M') 53 [none, none, some (.int v2), some (.int v3)] [.int s1, .ref 7] := by
  unfold f_X10_diet_53 at h
  obtain ⟨M11, e_M11, h⟩ := lt_some h
  refine w_puti (k := 2) hC cls_X6 ly_7 (by decide) rfl aw_93 rfl rfl ⟨rfl, rfl⟩ dX10_diet_53 e_M11 ?_
  refine v_iload_n hC dX10_diet_56 rfl ?_
  refine v_iload_n hC dX10_diet_57 rfl ?_
  refine v_icmp_eq hC 65 dX10_diet_58 rfl (fun c12 => ?_) (fun c12 => ?_)
  · rw [if_pos c12] at h
    refine v_iconst (v := (0 : Int32)) hC dX10_diet_65 rfl ?_
    cases h
    exact v_zret hC (by decide) (by decide) (by decide) dX10_diet_66
  · rw [if_neg c12] at h
    refine v_iconst (v := (1 : Int32)) hC dX10_diet_61 rfl ?_
    refine v_goto (tg := 66) hC dX10_diet_62 rfl ?_
    cases h
    exact v_zret hC (by decide) (by decide) (by decide) dX10_diet_66
set_option maxRecDepth 20000 in
set_option maxHeartbeats 4000000 in
theorem ok_X10_diet {l : Launch} {N : Nat} {v1 v2 : Int32} (hl : l.stackTraces = false) {M : Mm} {r : (Int32 ⊕ String)} {M' : Mm} (h : f_X10_diet N v1 v2 M = some (r, M')) : am_M l yX10_diet cX10_diet 4 (some .boolean) 7 1 6 LY M [.ref 0, .int v1, .int v2] (am_oi r) M' := by
  unfold f_X10_diet at h
  refine am_intro (by decide) (by simp [Value.category]) (Nat.le_of_ble_eq_true rfl) (fun X hC hnt => ?_)
  refine am_start (L := [some (.ref 0), some (.int v1), some (.int v2), none]) rfl ?_
  refine v_aload_n hC dX10_diet_0 rfl ?_
  refine v_iload_n hC dX10_diet_1 rfl ?_
  rcases bnx_some h with ⟨r1, M2, q3, h⟩ | ⟨r1, M2, q3, h⟩
  · refine w_callVv hC [.int v1] [] (ok_X10_needsDiner hl q3) mv_X10_needsDiner aw_843 ly_0 rfl (Nat.le_of_ble_eq_true rfl) ⟨by decide, by decide⟩ ⟨by decide, by decide⟩ dX10_diet_2 ?_
    refine v_aload_n hC dX10_diet_5 rfl ?_
    obtain ⟨r4, M5, q6, h⟩ := bnd_some h
    refine w_callVv hC [] [] (ok_X10_remember q6) mv_X10_remember aw_950 ly_0 rfl (Nat.le_of_ble_eq_true rfl) ⟨by decide, by decide⟩ ⟨by decide, by decide⟩ dX10_diet_6 ?_
    refine v_aload_n hC dX10_diet_9 rfl ?_
    refine v_geta (k := 2) (b := 7) hC cls_X10 ly_0 (by decide) rfl aw_317 rfl dX10_diet_10 ?_
    refine v_iload_n hC dX10_diet_13 rfl ?_
    obtain ⟨r7, M8, q9, h⟩ := bnd_some h
    refine w_callVi hC [.int v1] [] (ok_X6_isOnDiet kTable_7 q9) mv_X6_isOnDiet aw_887 ly_7 rfl (Nat.le_of_ble_eq_true rfl) ⟨by decide, by decide⟩ ⟨by decide, by decide⟩ dX10_diet_14 ?_
    refine w_istore_n hC dX10_diet_17 (ltk rfl) [some (.ref 0), some (.int v1), some (.int v2), some (.int r7)] rfl ?_
    refine v_aload_n hC dX10_diet_18 rfl ?_
    refine v_geta (k := 2) (b := 7) hC cls_X10 ly_0 (by decide) rfl aw_317 rfl dX10_diet_19 ?_
    refine v_iload_n hC dX10_diet_22 rfl ?_
    refine v_if_eq hC 40 dX10_diet_23 rfl (fun c10 => ?_) (fun c10 => ?_)
    · rw [if_pos c10] at h
      refine v_aload_n hC dX10_diet_40 rfl ?_
      refine v_geta (k := 2) (b := 7) hC cls_X10 ly_0 (by decide) rfl aw_317 rfl dX10_diet_41 ?_
      refine v_geti (k := 2) hC cls_X6 ly_7 (by decide) rfl aw_93 rfl dX10_diet_44 ?_
      refine v_iconst (v := (1 : Int32)) hC dX10_diet_47 rfl ?_
      refine v_iload_n hC dX10_diet_48 rfl ?_
      refine v_ishl hC dX10_diet_49 ?_
      refine v_iconst (v := (-1 : Int32)) hC dX10_diet_50 rfl ?_
      refine v_ixor hC dX10_diet_51 ?_
      refine v_iand hC dX10_diet_52 ?_
      refine v_drop [false, false, true, true] [none, none, some (.int v2), some (.int r7)] rfl ?_
      exact ok_X10_diet_53 hl hC hnt h
    · rw [if_neg c10] at h
      refine v_aload_n hC dX10_diet_26 rfl ?_
      refine v_geta (k := 2) (b := 7) hC cls_X10 ly_0 (by decide) rfl aw_317 rfl dX10_diet_27 ?_
      refine v_geti (k := 2) hC cls_X6 ly_7 (by decide) rfl aw_93 rfl dX10_diet_30 ?_
      refine v_iconst (v := (1 : Int32)) hC dX10_diet_33 rfl ?_
      refine v_iload_n hC dX10_diet_34 rfl ?_
      refine v_ishl hC dX10_diet_35 ?_
      refine v_ior hC dX10_diet_36 ?_
      refine v_goto (tg := 53) hC dX10_diet_37 rfl ?_
      refine v_drop [false, false, true, true] [none, none, some (.int v2), some (.int r7)] rfl ?_
      exact ok_X10_diet_53 hl hC hnt h
  · cases h
    exact w_callVx hC hnt [.int v1] [] (ok_X10_needsDiner hl q3) mv_X10_needsDiner aw_843 ly_0 rfl (Nat.le_of_ble_eq_true rfl) ⟨by decide, by decide⟩ ⟨by decide, by decide⟩ dX10_diet_2 (by decide) (by decide)
def f_X10_sweet_10 (N : Nat) (M : Mm) : Option ((Int32 ⊕ String) × Mm) :=
  some (.inr "java/lang/IndexOutOfBoundsException", M)
def f_X10_sweet (N : Nat) (v1 : Int32) (v2 : Int32) (M : Mm) : Option ((Int32 ⊕ String) × Mm) :=
  (if v1 < (0 : Int32) then f_X10_sweet_10 N M else (if v1 < (12 : Int32) then bnd (f_X10_remember N M) (fun r3 M4 => lt (M4 7 3) (fun x6 => bnd (f_X6_serves N 7 v1 v2 M4) (fun r7 M8 => (if (M8 7 3) = x6 then some (.inl (0 : Int32), M8) else some (.inl (1 : Int32), M8))))) else f_X10_sweet_10 N M))
set_option maxRecDepth 20000 in
set_option maxHeartbeats 4000000 in
theorem ok_X10_sweet_10 {N : Nat} {X : am_X} {l : Launch} (hl : l.stackTraces = false) (hC : am_C X l (am_rm 6 1 6) cX10_sweet yX10_sweet.cls (some .boolean)) (hnt : am_NT X) {M : Mm} {r : (Int32 ⊕ String)} {M' : Mm} (h : f_X10_sweet_10 N M = some (r, M')) : am_V X LY M 0 0 (am_Q X LY 1 6 (am_oi r) M') 10 [none, none, none, none] [] := by
  unfold f_X10_sweet_10 at h
  cases h
  exact w_throw hC hnt hl (cls := "java/lang/IndexOutOfBoundsException") (text := "there is no such course") (i9 := 10) ["java/lang/RuntimeException", "java/lang/Exception"] (by decide +kernel) (by decide +kernel) aw_847 aw_24 st_10 th1_IndexOutOfBoundsException_251 th2_IndexOutOfBoundsException_251 (by decide +kernel) (th3_IndexOutOfBoundsException_251 _ rfl rfl) dX10_sweet_10 dX10_sweet_13 dX10_sweet_14 dX10_sweet_16 dX10_sweet_19 (by decide) (Nat.le_of_ble_eq_true rfl) (by decide) (by decide) (by decide) (by decide)
set_option maxRecDepth 20000 in
set_option maxHeartbeats 4000000 in
theorem ok_X10_sweet {l : Launch} {N : Nat} {v1 v2 : Int32} (hl : l.stackTraces = false) {M : Mm} {r : (Int32 ⊕ String)} {M' : Mm} (h : f_X10_sweet N v1 v2 M = some (r, M')) : am_M l yX10_sweet cX10_sweet 4 (some .boolean) 6 1 6 LY M [.ref 0, .int v1, .int v2] (am_oi r) M' := by
  unfold f_X10_sweet at h
  refine am_intro (by decide) (by simp [Value.category]) (Nat.le_of_ble_eq_true rfl) (fun X hC hnt => ?_)
  refine am_start (L := [some (.ref 0), some (.int v1), some (.int v2), none]) rfl ?_
  refine v_iload_n hC dX10_sweet_0 rfl ?_
  refine v_if_lt hC 10 dX10_sweet_1 rfl (fun c1 => ?_) (fun c1 => ?_)
  · rw [if_pos c1] at h
    refine v_drop [false, false, false, false] [none, none, none, none] rfl ?_
    exact ok_X10_sweet_10 hl hC hnt h
  · rw [if_neg c1] at h
    refine v_iload_n hC dX10_sweet_4 rfl ?_
    refine v_bipush (v := (12 : Int32)) hC dX10_sweet_5 rfl ?_
    refine v_icmp_lt hC 20 dX10_sweet_7 rfl (fun c2 => ?_) (fun c2 => ?_)
    · rw [if_pos c2] at h
      refine v_aload_n hC dX10_sweet_20 rfl ?_
      obtain ⟨r3, M4, q5, h⟩ := bnd_some h
      refine w_callVv hC [] [] (ok_X10_remember q5) mv_X10_remember aw_950 ly_0 rfl (Nat.le_of_ble_eq_true rfl) ⟨by decide, by decide⟩ ⟨by decide, by decide⟩ dX10_sweet_21 ?_
      refine v_aload_n hC dX10_sweet_24 rfl ?_
      refine v_geta (k := 2) (b := 7) hC cls_X10 ly_0 (by decide) rfl aw_317 rfl dX10_sweet_25 ?_
      refine v_geti (k := 3) hC cls_X6 ly_7 (by decide) rfl aw_96 rfl dX10_sweet_28 ?_
      obtain ⟨x6, e_x6, h⟩ := lt_some h
      refine v_nam e_x6 ?_
      refine w_istore_n hC dX10_sweet_31 (ltk rfl) [some (.ref 0), some (.int v1), some (.int v2), some (.int x6)] rfl ?_
      refine v_aload_n hC dX10_sweet_32 rfl ?_
      refine v_geta (k := 2) (b := 7) hC cls_X10 ly_0 (by decide) rfl aw_317 rfl dX10_sweet_33 ?_
      refine v_iload_n hC dX10_sweet_36 rfl ?_
      refine v_iload_n hC dX10_sweet_37 rfl ?_
      obtain ⟨r7, M8, q9, h⟩ := bnd_some h
      refine w_callVv hC [.int v1, .int v2] [] (ok_X6_serves kTable_7 q9) mv_X6_serves aw_997 ly_7 rfl (Nat.le_of_ble_eq_true rfl) ⟨by decide, by decide⟩ ⟨by decide, by decide⟩ dX10_sweet_38 ?_
      refine v_aload_n hC dX10_sweet_41 rfl ?_
      refine v_geta (k := 2) (b := 7) hC cls_X10 ly_0 (by decide) rfl aw_317 rfl dX10_sweet_42 ?_
      refine v_geti (k := 3) hC cls_X6 ly_7 (by decide) rfl aw_96 rfl dX10_sweet_45 ?_
      refine v_iload_n hC dX10_sweet_48 rfl ?_
      refine v_icmp_eq hC 56 dX10_sweet_49 rfl (fun c10 => ?_) (fun c10 => ?_)
      · rw [if_pos c10] at h
        refine v_iconst (v := (0 : Int32)) hC dX10_sweet_56 rfl ?_
        cases h
        exact v_zret hC (by decide) (by decide) (by decide) dX10_sweet_57
      · rw [if_neg c10] at h
        refine v_iconst (v := (1 : Int32)) hC dX10_sweet_52 rfl ?_
        refine v_goto (tg := 57) hC dX10_sweet_53 rfl ?_
        cases h
        exact v_zret hC (by decide) (by decide) (by decide) dX10_sweet_57
    · rw [if_neg c2] at h
      refine v_drop [false, false, false, false] [none, none, none, none] rfl ?_
      exact ok_X10_sweet_10 hl hC hnt h
def f_X10_courses_24 (N : Nat) : Nat → Int32 → Int32 → Int32 → Mm → Option ((Int32 ⊕ String) × Mm)
  | 0, _, _, _, _ => none
  | n + 1, v1, v2, v3, M => (if v1 ≤ v3 then some (.inl v2, M) else bnd (f_X5_goesBy_l N 7 25 37 M) (fun r11 M12 => lt (v2 + r11) (fun x14 => f_X10_courses_24 N n v1 x14 (v3 + (1 : Int32)) M12)))
def f_X10_courses (N : Nat) (v1 : Int32) (M : Mm) : Option ((Int32 ⊕ String) × Mm) :=
  bnx (f_X10_needsWithin N v1 (1 : Int32) (100 : Int32) M) (fun r1 M2 => bnd (f_X10_remember N M2) (fun r4 M5 => bnd (f_X5_opens N (0 : Int32) M5) (fun r7 M8 => f_X10_courses_24 N N v1 (0 : Int32) (0 : Int32) M8))) (fun r1 M2 => some (.inr r1, M2))
set_option maxRecDepth 20000 in
set_option maxHeartbeats 4000000 in
theorem ok_X10_courses_24 {N : Nat} {X : am_X} {l : Launch} (hl : l.stackTraces = false) (hC : am_C X l (am_rm 7 1 6) cX10_courses yX10_courses.cls (some .int)) (hnt : am_NT X) : ∀ (n : Nat) (v1 v2 v3 : Int32) (M : Mm) (r : (Int32 ⊕ String)) (M' : Mm), f_X10_courses_24 N n v1 v2 v3 M = some (r, M') → am_V X LY M 1 6 (am_Q X LY 1 6 (am_oi r) M') 24 [some (.ref 0), some (.int v1), some (.int v2), some (.int v3)] [] := by
  intro n
  induction n with
  | zero => intro v1 v2 v3 M r M' h; cases h
  | succ n ih =>
    intro v1 v2 v3 M r M' h
    simp only [f_X10_courses_24] at h
    refine v_iload_n hC dX10_courses_24 rfl ?_
    refine v_iload_n hC dX10_courses_25 rfl ?_
    refine v_icmp_ge hC 57 dX10_courses_26 rfl (fun c10 => ?_) (fun c10 => ?_)
    · rw [if_pos c10] at h
      refine v_iload_n hC dX10_courses_57 rfl ?_
      cases h
      exact v_iret hC (by decide) (by decide) dX10_courses_58
    · rw [if_neg c10] at h
      refine v_iload_n hC dX10_courses_29 rfl ?_
      refine v_aload_n hC dX10_courses_30 rfl ?_
      refine v_geta (k := 7) (b := 39) hC cls_X10 ly_0 (by decide) rfl aw_322 rfl dX10_courses_31 ?_
      refine v_aload_n hC dX10_courses_34 rfl ?_
      refine v_geta (k := 2) (b := 7) hC cls_X10 ly_0 (by decide) rfl aw_317 rfl dX10_courses_35 ?_
      refine v_aload_n hC dX10_courses_38 rfl ?_
      refine v_geta (k := 4) (b := 25) hC cls_X10 ly_0 (by decide) rfl aw_319 rfl dX10_courses_39 ?_
      refine v_aload_n hC dX10_courses_42 rfl ?_
      refine v_geta (k := 6) (b := 37) hC cls_X10 ly_0 (by decide) rfl aw_321 rfl dX10_courses_43 ?_
      obtain ⟨r11, M12, q13, h⟩ := bnd_some h
      refine w_callVi hC [.ref 7, .ref 25, .ref 37] [.int v2] (ok_X5_goesBy_l kTable_7 kLaw_25 kLog_37 q13) mv_X5_goesBy aw_1005 ly_39 rfl (Nat.le_of_ble_eq_true rfl) ⟨by decide, by decide⟩ ⟨by decide, by decide⟩ dX10_courses_46 ?_
      refine v_iadd hC dX10_courses_49 ?_
      obtain ⟨x14, e_x14, h⟩ := lt_some h
      refine v_nam e_x14 ?_
      refine w_istore_n hC dX10_courses_50 (ltk rfl) [some (.ref 0), some (.int v1), some (.int x14), some (.int v3)] rfl ?_
      refine w_iinc hC (v3 + (1 : Int32)) dX10_courses_51 rfl rfl [some (.ref 0), some (.int v1), some (.int x14), some (.int (v3 + (1 : Int32)))] rfl ?_
      refine v_goto (tg := 24) hC dX10_courses_54 rfl ?_
      exact ih _ _ _ _ _ _ h
set_option maxRecDepth 20000 in
set_option maxHeartbeats 4000000 in
theorem ok_X10_courses {l : Launch} {N : Nat} {v1 : Int32} (hl : l.stackTraces = false) {M : Mm} {r : (Int32 ⊕ String)} {M' : Mm} (h : f_X10_courses N v1 M = some (r, M')) : am_M l yX10_courses cX10_courses 4 (some .int) 7 1 6 LY M [.ref 0, .int v1] (am_oi r) M' := by
  unfold f_X10_courses at h
  refine am_intro (by decide) (by simp [Value.category]) (Nat.le_of_ble_eq_true rfl) (fun X hC hnt => ?_)
  refine am_start (L := [some (.ref 0), some (.int v1), none, none]) rfl ?_
  refine v_aload_n hC dX10_courses_0 rfl ?_
  refine v_iload_n hC dX10_courses_1 rfl ?_
  refine v_iconst (v := (1 : Int32)) hC dX10_courses_2 rfl ?_
  refine v_bipush (v := (100 : Int32)) hC dX10_courses_3 rfl ?_
  rcases bnx_some h with ⟨r1, M2, q3, h⟩ | ⟨r1, M2, q3, h⟩
  · refine w_callVv hC [.int v1, .int (1 : Int32), .int (100 : Int32)] [] (ok_X10_needsWithin hl q3) mv_X10_needsWithin aw_969 ly_0 rfl (Nat.le_of_ble_eq_true rfl) ⟨by decide, by decide⟩ ⟨by decide, by decide⟩ dX10_courses_5 ?_
    refine v_aload_n hC dX10_courses_8 rfl ?_
    obtain ⟨r4, M5, q6, h⟩ := bnd_some h
    refine w_callVv hC [] [] (ok_X10_remember q6) mv_X10_remember aw_950 ly_0 rfl (Nat.le_of_ble_eq_true rfl) ⟨by decide, by decide⟩ ⟨by decide, by decide⟩ dX10_courses_9 ?_
    refine v_aload_n hC dX10_courses_12 rfl ?_
    refine v_geta (k := 7) (b := 39) hC cls_X10 ly_0 (by decide) rfl aw_322 rfl dX10_courses_13 ?_
    refine v_iconst (v := (0 : Int32)) hC dX10_courses_16 rfl ?_
    obtain ⟨r7, M8, q9, h⟩ := bnd_some h
    refine w_callVv hC [.int (0 : Int32)] [] (ok_X5_opens q9) mv_X5_opens aw_404 ly_39 rfl (Nat.le_of_ble_eq_true rfl) ⟨by decide, by decide⟩ ⟨by decide, by decide⟩ dX10_courses_17 ?_
    refine v_iconst (v := (0 : Int32)) hC dX10_courses_20 rfl ?_
    refine w_istore_n hC dX10_courses_21 (ltk rfl) [some (.ref 0), some (.int v1), some (.int (0 : Int32)), none] rfl ?_
    refine v_iconst (v := (0 : Int32)) hC dX10_courses_22 rfl ?_
    refine w_istore_n hC dX10_courses_23 (ltk rfl) [some (.ref 0), some (.int v1), some (.int (0 : Int32)), some (.int (0 : Int32))] rfl ?_
    exact ok_X10_courses_24 hl hC hnt N _ _ _ _ _ _ h
  · cases h
    exact w_callVx hC hnt [.int v1, .int (1 : Int32), .int (100 : Int32)] [] (ok_X10_needsWithin hl q3) mv_X10_needsWithin aw_969 ly_0 rfl (Nat.le_of_ble_eq_true rfl) ⟨by decide, by decide⟩ ⟨by decide, by decide⟩ dX10_courses_5 (by decide) (by decide)
def f_X10_looksAhead (N : Nat) (M : Mm) : Option (Int32 × Mm) :=
  bnd (f_X6_copies N 16 7 M) (fun r1 M2 => bnd (f_X5_opens N (0 : Int32) M2) (fun r4 M5 => some (0, M5)))
set_option maxRecDepth 20000 in
set_option maxHeartbeats 4000000 in
theorem ok_X10_looksAhead {l : Launch} {N : Nat} {M : Mm} {r : Int32} {M' : Mm} (h : f_X10_looksAhead N M = some (r, M')) : am_M l yX10_looksAhead cX10_looksAhead 1 none 3 0 0 LY M [.ref 0] (.inl none) M' := by
  unfold f_X10_looksAhead at h
  refine am_intro (by decide) (by simp [Value.category]) (Nat.le_of_ble_eq_true rfl) (fun X hC hnt => ?_)
  refine am_start (L := [some (.ref 0)]) rfl ?_
  refine v_aload_n hC dX10_looksAhead_0 rfl ?_
  refine v_geta (k := 3) (b := 16) hC cls_X10 ly_0 (by decide) rfl aw_318 rfl dX10_looksAhead_1 ?_
  refine v_aload_n hC dX10_looksAhead_4 rfl ?_
  refine v_geta (k := 2) (b := 7) hC cls_X10 ly_0 (by decide) rfl aw_317 rfl dX10_looksAhead_5 ?_
  obtain ⟨r1, M2, q3, h⟩ := bnd_some h
  refine w_callVv hC [.ref 7] [] (ok_X6_copies kTable_16 kTable_7 q3) mv_X6_copies aw_397 ly_16 rfl (Nat.le_of_ble_eq_true rfl) ⟨by decide, by decide⟩ ⟨by decide, by decide⟩ dX10_looksAhead_8 ?_
  refine v_aload_n hC dX10_looksAhead_11 rfl ?_
  refine v_geta (k := 7) (b := 39) hC cls_X10 ly_0 (by decide) rfl aw_322 rfl dX10_looksAhead_12 ?_
  refine v_iconst (v := (0 : Int32)) hC dX10_looksAhead_15 rfl ?_
  obtain ⟨r4, M5, q6, h⟩ := bnd_some h
  refine w_callVv hC [.int (0 : Int32)] [] (ok_X5_opens q6) mv_X5_opens aw_404 ly_39 rfl (Nat.le_of_ble_eq_true rfl) ⟨by decide, by decide⟩ ⟨by decide, by decide⟩ dX10_looksAhead_16 ?_
  cases h
  exact v_vret hC (by decide) (by decide) dX10_looksAhead_19
def f_X10_untilFree_5 (N : Nat) : Nat → Int32 → Int32 → Int32 → Int32 → Mm → Option (Int32 × Mm)
  | 0, _, _, _, _, _ => none
  | n + 1, v1, v2, v3, v4, M => (if v2 < v4 then some ((-1 : Int32), M) else bnd (f_X6_heldCellars N 16 M) (fun r2 M3 => (if (r2 &&& v1) = (0 : Int32) then some (v4, M3) else (if v4 = v2 then some ((-1 : Int32), M3) else (if v3 < (60 : Int32) then bnd (f_X5_goesAhead N 16 25 M3) (fun r8 M9 => (if r8 ≤ (0 : Int32) then lt (v3 + (1 : Int32)) (fun x12 => f_X10_untilFree_5 N n v1 v2 x12 (v4 + (1 : Int32)) M9) else f_X10_untilFree_5 N n v1 v2 (0 : Int32) (v4 + (1 : Int32)) M9)) else some ((-1 : Int32), M3))))))
def f_X10_untilFree (N : Nat) (v1 : Int32) (v2 : Int32) (M : Mm) : Option (Int32 × Mm) :=
  f_X10_untilFree_5 N N v1 v2 (0 : Int32) (0 : Int32) M
set_option maxRecDepth 20000 in
set_option maxHeartbeats 4000000 in
theorem ok_X10_untilFree_5 {N : Nat} {X : am_X} {l : Launch} (hC : am_C X l (am_rm 7 0 0) cX10_untilFree yX10_untilFree.cls (some .int)) (hnt : am_NT X) : ∀ (n : Nat) (v1 v2 v3 v4 : Int32) (M : Mm) (r : Int32) (M' : Mm), f_X10_untilFree_5 N n v1 v2 v3 v4 M = some (r, M') → am_V X LY M 0 0 (am_Q X LY 0 0 (.inl (some (.int r))) M') 5 [some (.ref 0), some (.int v1), some (.int v2), some (.int v3), some (.int v4)] [] := by
  intro n
  induction n with
  | zero => intro v1 v2 v3 v4 M r M' h; cases h
  | succ n ih =>
    intro v1 v2 v3 v4 M r M' h
    simp only [f_X10_untilFree_5] at h
    refine v_iload hC dX10_untilFree_5 rfl ?_
    refine v_iload_n hC dX10_untilFree_7 rfl ?_
    refine v_icmp_gt hC 72 dX10_untilFree_8 rfl (fun c1 => ?_) (fun c1 => ?_)
    · rw [if_pos c1] at h
      refine v_iconst (v := (-1 : Int32)) hC dX10_untilFree_72 rfl ?_
      cases h
      exact v_iret hC (by decide) (by decide) dX10_untilFree_73
    · rw [if_neg c1] at h
      refine v_aload_n hC dX10_untilFree_11 rfl ?_
      refine v_geta (k := 3) (b := 16) hC cls_X10 ly_0 (by decide) rfl aw_318 rfl dX10_untilFree_12 ?_
      obtain ⟨r2, M3, q4, h⟩ := bnd_some h
      refine w_callVi hC [] [] (ok_X6_heldCellars kTable_16 q4) mv_X6_heldCellars aw_409 ly_16 rfl (Nat.le_of_ble_eq_true rfl) ⟨by decide, by decide⟩ ⟨by decide, by decide⟩ dX10_untilFree_15 ?_
      refine v_iload_n hC dX10_untilFree_18 rfl ?_
      refine v_iand hC dX10_untilFree_19 ?_
      refine v_if_ne hC 26 dX10_untilFree_20 rfl (fun c5 => ?_) (fun c5 => ?_)
      · rw [if_neg c5] at h
        refine v_iload hC dX10_untilFree_26 rfl ?_
        refine v_iload_n hC dX10_untilFree_28 rfl ?_
        refine v_icmp_eq hC 38 dX10_untilFree_29 rfl (fun c6 => ?_) (fun c6 => ?_)
        · rw [if_pos c6] at h
          refine v_iconst (v := (-1 : Int32)) hC dX10_untilFree_38 rfl ?_
          cases h
          exact v_iret hC (by decide) (by decide) dX10_untilFree_39
        · rw [if_neg c6] at h
          refine v_iload_n hC dX10_untilFree_32 rfl ?_
          refine v_bipush (v := (60 : Int32)) hC dX10_untilFree_33 rfl ?_
          refine v_icmp_lt hC 40 dX10_untilFree_35 rfl (fun c7 => ?_) (fun c7 => ?_)
          · rw [if_pos c7] at h
            refine v_aload_n hC dX10_untilFree_40 rfl ?_
            refine v_geta (k := 7) (b := 39) hC cls_X10 ly_0 (by decide) rfl aw_322 rfl dX10_untilFree_41 ?_
            refine v_aload_n hC dX10_untilFree_44 rfl ?_
            refine v_geta (k := 3) (b := 16) hC cls_X10 ly_0 (by decide) rfl aw_318 rfl dX10_untilFree_45 ?_
            refine v_aload_n hC dX10_untilFree_48 rfl ?_
            refine v_geta (k := 4) (b := 25) hC cls_X10 ly_0 (by decide) rfl aw_319 rfl dX10_untilFree_49 ?_
            obtain ⟨r8, M9, q10, h⟩ := bnd_some h
            refine w_callVi hC [.ref 16, .ref 25] [] (ok_X5_goesAhead kTable_16 kLaw_25 q10) mv_X5_goesAhead aw_417 ly_39 rfl (Nat.le_of_ble_eq_true rfl) ⟨by decide, by decide⟩ ⟨by decide, by decide⟩ dX10_untilFree_52 ?_
            refine v_if_le hC 62 dX10_untilFree_55 rfl (fun c11 => ?_) (fun c11 => ?_)
            · rw [if_pos c11] at h
              refine v_iload_n hC dX10_untilFree_62 rfl ?_
              refine v_iconst (v := (1 : Int32)) hC dX10_untilFree_63 rfl ?_
              refine v_iadd hC dX10_untilFree_64 ?_
              obtain ⟨x12, e_x12, h⟩ := lt_some h
              refine v_nam e_x12 ?_
              refine w_istore_n hC dX10_untilFree_65 (ltk rfl) [some (.ref 0), some (.int v1), some (.int v2), some (.int x12), some (.int v4)] rfl ?_
              refine w_iinc hC (v4 + (1 : Int32)) dX10_untilFree_66 rfl rfl [some (.ref 0), some (.int v1), some (.int v2), some (.int x12), some (.int (v4 + (1 : Int32)))] rfl ?_
              refine v_goto (tg := 5) hC dX10_untilFree_69 rfl ?_
              exact ih _ _ _ _ _ _ _ h
            · rw [if_neg c11] at h
              refine v_iconst (v := (0 : Int32)) hC dX10_untilFree_58 rfl ?_
              refine v_goto (tg := 65) hC dX10_untilFree_59 rfl ?_
              refine w_istore_n hC dX10_untilFree_65 (ltk rfl) [some (.ref 0), some (.int v1), some (.int v2), some (.int (0 : Int32)), some (.int v4)] rfl ?_
              refine w_iinc hC (v4 + (1 : Int32)) dX10_untilFree_66 rfl rfl [some (.ref 0), some (.int v1), some (.int v2), some (.int (0 : Int32)), some (.int (v4 + (1 : Int32)))] rfl ?_
              refine v_goto (tg := 5) hC dX10_untilFree_69 rfl ?_
              exact ih _ _ _ _ _ _ _ h
          · rw [if_neg c7] at h
            refine v_iconst (v := (-1 : Int32)) hC dX10_untilFree_38 rfl ?_
            cases h
            exact v_iret hC (by decide) (by decide) dX10_untilFree_39
      · rw [if_pos c5] at h
        refine v_iload hC dX10_untilFree_23 rfl ?_
        cases h
        exact v_iret hC (by decide) (by decide) dX10_untilFree_25
set_option maxRecDepth 20000 in
set_option maxHeartbeats 4000000 in
theorem ok_X10_untilFree {l : Launch} {N : Nat} {v1 v2 : Int32} {M : Mm} {r : Int32} {M' : Mm} (h : f_X10_untilFree N v1 v2 M = some (r, M')) : am_M l yX10_untilFree cX10_untilFree 5 (some .int) 7 0 0 LY M [.ref 0, .int v1, .int v2] (.inl (some (.int r))) M' := by
  unfold f_X10_untilFree at h
  refine am_intro (by decide) (by simp [Value.category]) (Nat.le_of_ble_eq_true rfl) (fun X hC hnt => ?_)
  refine am_start (L := [some (.ref 0), some (.int v1), some (.int v2), none, none]) rfl ?_
  refine v_iconst (v := (0 : Int32)) hC dX10_untilFree_0 rfl ?_
  refine w_istore_n hC dX10_untilFree_1 (ltk rfl) [some (.ref 0), some (.int v1), some (.int v2), some (.int (0 : Int32)), none] rfl ?_
  refine v_iconst (v := (0 : Int32)) hC dX10_untilFree_2 rfl ?_
  refine w_istore hC dX10_untilFree_3 (ltk rfl) [some (.ref 0), some (.int v1), some (.int v2), some (.int (0 : Int32)), some (.int (0 : Int32))] rfl ?_
  exact ok_X10_untilFree_5 hC hnt N _ _ _ _ _ _ _ h
def f_X10_frees (N : Nat) (v1 : Int32) (M : Mm) : Option ((Int32 ⊕ String) × Mm) :=
  bnx (f_X10_needsCellar N v1 M) (fun r1 M2 => bnd (f_X10_looksAhead N M2) (fun r4 M5 => bnd (f_X10_untilFree N ((1 : Int32) <<< (v1 &&& 31)) (200 : Int32) M5) (fun r7 M8 => some (.inl r7, M8)))) (fun r1 M2 => some (.inr r1, M2))
set_option maxRecDepth 20000 in
set_option maxHeartbeats 4000000 in
theorem ok_X10_frees {l : Launch} {N : Nat} {v1 : Int32} (hl : l.stackTraces = false) {M : Mm} {r : (Int32 ⊕ String)} {M' : Mm} (h : f_X10_frees N v1 M = some (r, M')) : am_M l yX10_frees cX10_frees 2 (some .int) 8 1 6 LY M [.ref 0, .int v1] (am_oi r) M' := by
  unfold f_X10_frees at h
  refine am_intro (by decide) (by simp [Value.category]) (Nat.le_of_ble_eq_true rfl) (fun X hC hnt => ?_)
  refine am_start (L := [some (.ref 0), some (.int v1)]) rfl ?_
  refine v_aload_n hC dX10_frees_0 rfl ?_
  refine v_iload_n hC dX10_frees_1 rfl ?_
  rcases bnx_some h with ⟨r1, M2, q3, h⟩ | ⟨r1, M2, q3, h⟩
  · refine w_callVv hC [.int v1] [] (ok_X10_needsCellar hl q3) mv_X10_needsCellar aw_912 ly_0 rfl (Nat.le_of_ble_eq_true rfl) ⟨by decide, by decide⟩ ⟨by decide, by decide⟩ dX10_frees_2 ?_
    refine v_aload_n hC dX10_frees_5 rfl ?_
    obtain ⟨r4, M5, q6, h⟩ := bnd_some h
    refine w_callVv hC [] [] (ok_X10_looksAhead q6) mv_X10_looksAhead aw_393 ly_0 rfl (Nat.le_of_ble_eq_true rfl) ⟨by decide, by decide⟩ ⟨by decide, by decide⟩ dX10_frees_6 ?_
    refine v_aload_n hC dX10_frees_9 rfl ?_
    refine v_iconst (v := (1 : Int32)) hC dX10_frees_10 rfl ?_
    refine v_iload_n hC dX10_frees_11 rfl ?_
    refine v_ishl hC dX10_frees_12 ?_
    refine v_sipush (v := (200 : Int32)) hC dX10_frees_13 rfl ?_
    obtain ⟨r7, M8, q9, h⟩ := bnd_some h
    refine w_callVi hC [.int ((1 : Int32) <<< (v1 &&& 31)), .int (200 : Int32)] [] (ok_X10_untilFree q9) mv_X10_untilFree aw_413 ly_0 rfl (Nat.le_of_ble_eq_true rfl) ⟨by decide, by decide⟩ ⟨by decide, by decide⟩ dX10_frees_16 ?_
    cases h
    exact v_iret hC (by decide) (by decide) dX10_frees_19
  · cases h
    exact w_callVx hC hnt [.int v1] [] (ok_X10_needsCellar hl q3) mv_X10_needsCellar aw_912 ly_0 rfl (Nat.le_of_ble_eq_true rfl) ⟨by decide, by decide⟩ ⟨by decide, by decide⟩ dX10_frees_2 (by decide) (by decide)
def f_X10_all (N : Nat) (M : Mm) : Option (Int32 × Mm) :=
  bnd (f_X10_looksAhead N M) (fun r1 M2 => bnd (f_X6_heldCellars N 16 M2) (fun r4 M5 => bnd (f_X10_untilFree N r4 (200 : Int32) M5) (fun r7 M8 => some (r7, M8))))
set_option maxRecDepth 20000 in
set_option maxHeartbeats 4000000 in
theorem ok_X10_all {l : Launch} {N : Nat} {M : Mm} {r : Int32} {M' : Mm} (h : f_X10_all N M = some (r, M')) : am_M l yX10_all cX10_all 1 (some .int) 8 0 0 LY M [.ref 0] (.inl (some (.int r))) M' := by
  unfold f_X10_all at h
  refine am_intro (by decide) (by simp [Value.category]) (Nat.le_of_ble_eq_true rfl) (fun X hC hnt => ?_)
  refine am_start (L := [some (.ref 0)]) rfl ?_
  refine v_aload_n hC dX10_all_0 rfl ?_
  obtain ⟨r1, M2, q3, h⟩ := bnd_some h
  refine w_callVv hC [] [] (ok_X10_looksAhead q3) mv_X10_looksAhead aw_393 ly_0 rfl (Nat.le_of_ble_eq_true rfl) ⟨by decide, by decide⟩ ⟨by decide, by decide⟩ dX10_all_1 ?_
  refine v_aload_n hC dX10_all_4 rfl ?_
  refine v_aload_n hC dX10_all_5 rfl ?_
  refine v_geta (k := 3) (b := 16) hC cls_X10 ly_0 (by decide) rfl aw_318 rfl dX10_all_6 ?_
  obtain ⟨r4, M5, q6, h⟩ := bnd_some h
  refine w_callVi hC [] [.ref 0] (ok_X6_heldCellars kTable_16 q6) mv_X6_heldCellars aw_409 ly_16 rfl (Nat.le_of_ble_eq_true rfl) ⟨by decide, by decide⟩ ⟨by decide, by decide⟩ dX10_all_9 ?_
  refine v_sipush (v := (200 : Int32)) hC dX10_all_12 rfl ?_
  obtain ⟨r7, M8, q9, h⟩ := bnd_some h
  refine w_callVi hC [.int r4, .int (200 : Int32)] [] (ok_X10_untilFree q9) mv_X10_untilFree aw_413 ly_0 rfl (Nat.le_of_ble_eq_true rfl) ⟨by decide, by decide⟩ ⟨by decide, by decide⟩ dX10_all_15 ?_
  cases h
  exact v_iret hC (by decide) (by decide) dX10_all_18
def f_X10_held (N : Nat) (M : Mm) : Option (Int32 × Mm) :=
  bnd (f_X6_heldCellars N 7 M) (fun r1 M2 => some (r1, M2))
set_option maxRecDepth 20000 in
set_option maxHeartbeats 4000000 in
theorem ok_X10_held {l : Launch} {N : Nat} {M : Mm} {r : Int32} {M' : Mm} (h : f_X10_held N M = some (r, M')) : am_M l yX10_held cX10_held 1 (some .int) 2 0 0 LY M [.ref 0] (.inl (some (.int r))) M' := by
  unfold f_X10_held at h
  refine am_intro (by decide) (by simp [Value.category]) (Nat.le_of_ble_eq_true rfl) (fun X hC hnt => ?_)
  refine am_start (L := [some (.ref 0)]) rfl ?_
  refine v_aload_n hC dX10_held_0 rfl ?_
  refine v_geta (k := 2) (b := 7) hC cls_X10 ly_0 (by decide) rfl aw_317 rfl dX10_held_1 ?_
  obtain ⟨r1, M2, q3, h⟩ := bnd_some h
  refine w_callVi hC [] [] (ok_X6_heldCellars kTable_7 q3) mv_X6_heldCellars aw_409 ly_7 rfl (Nat.le_of_ble_eq_true rfl) ⟨by decide, by decide⟩ ⟨by decide, by decide⟩ dX10_held_4 ?_
  cases h
  exact v_iret hC (by decide) (by decide) dX10_held_7
def f_X10_looksAheadBy_6 (N : Nat) : Nat → Int32 → Int32 → Mm → Option (Int32 × Mm)
  | 0, _, _, _ => none
  | n + 1, v1, v2, M => (if v1 ≤ v2 then some (0, M) else bnd (f_X5_goesAhead N 16 25 M) (fun r5 M6 => f_X10_looksAheadBy_6 N n v1 (v2 + (1 : Int32)) M6))
def f_X10_looksAheadBy (N : Nat) (v1 : Int32) (M : Mm) : Option (Int32 × Mm) :=
  bnd (f_X10_looksAhead N M) (fun r1 M2 => f_X10_looksAheadBy_6 N N v1 (0 : Int32) M2)
set_option maxRecDepth 20000 in
set_option maxHeartbeats 4000000 in
theorem ok_X10_looksAheadBy_6 {N : Nat} {X : am_X} {l : Launch} (hC : am_C X l (am_rm 7 0 0) cX10_looksAheadBy yX10_looksAheadBy.cls none) (hnt : am_NT X) : ∀ (n : Nat) (v1 v2 : Int32) (M : Mm) (r : Int32) (M' : Mm), f_X10_looksAheadBy_6 N n v1 v2 M = some (r, M') → am_V X LY M 0 0 (am_Q X LY 0 0 (.inl none) M') 6 [some (.ref 0), some (.int v1), some (.int v2)] [] := by
  intro n
  induction n with
  | zero => intro v1 v2 M r M' h; cases h
  | succ n ih =>
    intro v1 v2 M r M' h
    simp only [f_X10_looksAheadBy_6] at h
    refine v_iload_n hC dX10_looksAheadBy_6 rfl ?_
    refine v_iload_n hC dX10_looksAheadBy_7 rfl ?_
    refine v_icmp_ge hC 33 dX10_looksAheadBy_8 rfl (fun c4 => ?_) (fun c4 => ?_)
    · rw [if_pos c4] at h
      cases h
      exact v_vret hC (by decide) (by decide) dX10_looksAheadBy_33
    · rw [if_neg c4] at h
      refine v_aload_n hC dX10_looksAheadBy_11 rfl ?_
      refine v_geta (k := 7) (b := 39) hC cls_X10 ly_0 (by decide) rfl aw_322 rfl dX10_looksAheadBy_12 ?_
      refine v_aload_n hC dX10_looksAheadBy_15 rfl ?_
      refine v_geta (k := 3) (b := 16) hC cls_X10 ly_0 (by decide) rfl aw_318 rfl dX10_looksAheadBy_16 ?_
      refine v_aload_n hC dX10_looksAheadBy_19 rfl ?_
      refine v_geta (k := 4) (b := 25) hC cls_X10 ly_0 (by decide) rfl aw_319 rfl dX10_looksAheadBy_20 ?_
      obtain ⟨r5, M6, q7, h⟩ := bnd_some h
      refine w_callVi hC [.ref 16, .ref 25] [] (ok_X5_goesAhead kTable_16 kLaw_25 q7) mv_X5_goesAhead aw_417 ly_39 rfl (Nat.le_of_ble_eq_true rfl) ⟨by decide, by decide⟩ ⟨by decide, by decide⟩ dX10_looksAheadBy_23 ?_
      refine v_pop hC dX10_looksAheadBy_26 rfl ?_
      refine w_iinc hC (v2 + (1 : Int32)) dX10_looksAheadBy_27 rfl rfl [some (.ref 0), some (.int v1), some (.int (v2 + (1 : Int32)))] rfl ?_
      refine v_goto (tg := 6) hC dX10_looksAheadBy_30 rfl ?_
      exact ih _ _ _ _ _ h
set_option maxRecDepth 20000 in
set_option maxHeartbeats 4000000 in
theorem ok_X10_looksAheadBy {l : Launch} {N : Nat} {v1 : Int32} {M : Mm} {r : Int32} {M' : Mm} (h : f_X10_looksAheadBy N v1 M = some (r, M')) : am_M l yX10_looksAheadBy cX10_looksAheadBy 3 none 7 0 0 LY M [.ref 0, .int v1] (.inl none) M' := by
  unfold f_X10_looksAheadBy at h
  refine am_intro (by decide) (by simp [Value.category]) (Nat.le_of_ble_eq_true rfl) (fun X hC hnt => ?_)
  refine am_start (L := [some (.ref 0), some (.int v1), none]) rfl ?_
  refine v_aload_n hC dX10_looksAheadBy_0 rfl ?_
  obtain ⟨r1, M2, q3, h⟩ := bnd_some h
  refine w_callVv hC [] [] (ok_X10_looksAhead q3) mv_X10_looksAhead aw_393 ly_0 rfl (Nat.le_of_ble_eq_true rfl) ⟨by decide, by decide⟩ ⟨by decide, by decide⟩ dX10_looksAheadBy_1 ?_
  refine v_iconst (v := (0 : Int32)) hC dX10_looksAheadBy_4 rfl ?_
  refine w_istore_n hC dX10_looksAheadBy_5 (ltk rfl) [some (.ref 0), some (.int v1), some (.int (0 : Int32))] rfl ?_
  exact ok_X10_looksAheadBy_6 hC hnt N _ _ _ _ _ h
def f_X10_takes (N : Nat) (v1 : Int32) (v2 : Int32) (M : Mm) : Option ((Int32 ⊕ String) × Mm) :=
  bnx (f_X10_needsDiner N v1 M) (fun r1 M2 => bnx (f_X10_needsWithin N v2 (0 : Int32) (200 : Int32) M2) (fun r4 M5 => bnd (f_X10_looksAheadBy N v2 M5) (fun r7 M8 => grd (inb v1 8) (some (.inl (M8 41 (v1).toNatClampNeg), M8)))) (fun r4 M5 => some (.inr r4, M5))) (fun r1 M2 => some (.inr r1, M2))
set_option maxRecDepth 20000 in
set_option maxHeartbeats 4000000 in
theorem ok_X10_takes {l : Launch} {N : Nat} {v1 v2 : Int32} (hl : l.stackTraces = false) {M : Mm} {r : (Int32 ⊕ String)} {M' : Mm} (h : f_X10_takes N v1 v2 M = some (r, M')) : am_M l yX10_takes cX10_takes 3 (some .int) 8 2 12 LY M [.ref 0, .int v1, .int v2] (am_oi r) M' := by
  unfold f_X10_takes at h
  refine am_intro (by decide) (by simp [Value.category]) (Nat.le_of_ble_eq_true rfl) (fun X hC hnt => ?_)
  refine am_start (L := [some (.ref 0), some (.int v1), some (.int v2)]) rfl ?_
  refine v_aload_n hC dX10_takes_0 rfl ?_
  refine v_iload_n hC dX10_takes_1 rfl ?_
  rcases bnx_some h with ⟨r1, M2, q3, h⟩ | ⟨r1, M2, q3, h⟩
  · refine w_callVv hC [.int v1] [] (ok_X10_needsDiner hl q3) mv_X10_needsDiner aw_843 ly_0 rfl (Nat.le_of_ble_eq_true rfl) ⟨by decide, by decide⟩ ⟨by decide, by decide⟩ dX10_takes_2 ?_
    refine v_aload_n hC dX10_takes_5 rfl ?_
    refine v_iload_n hC dX10_takes_6 rfl ?_
    refine v_iconst (v := (0 : Int32)) hC dX10_takes_7 rfl ?_
    refine v_sipush (v := (200 : Int32)) hC dX10_takes_8 rfl ?_
    rcases bnx_some h with ⟨r4, M5, q6, h⟩ | ⟨r4, M5, q6, h⟩
    · refine w_callVv hC [.int v2, .int (0 : Int32), .int (200 : Int32)] [] (ok_X10_needsWithin hl q6) mv_X10_needsWithin aw_969 ly_0 rfl (Nat.le_of_ble_eq_true rfl) ⟨by decide, by decide⟩ ⟨by decide, by decide⟩ dX10_takes_11 ?_
      refine v_aload_n hC dX10_takes_14 rfl ?_
      refine v_iload_n hC dX10_takes_15 rfl ?_
      obtain ⟨r7, M8, q9, h⟩ := bnd_some h
      refine w_callVv hC [.int v2] [] (ok_X10_looksAheadBy q9) mv_X10_looksAheadBy aw_1038 ly_0 rfl (Nat.le_of_ble_eq_true rfl) ⟨by decide, by decide⟩ ⟨by decide, by decide⟩ dX10_takes_16 ?_
      refine v_aload_n hC dX10_takes_19 rfl ?_
      refine v_geta (k := 7) (b := 39) hC cls_X10 ly_0 (by decide) rfl aw_322 rfl dX10_takes_20 ?_
      refine v_geta (k := 1) (b := 41) hC cls_X5 ly_39 (by decide) rfl aw_288 rfl dX10_takes_23 ?_
      refine v_iload_n hC dX10_takes_26 rfl ?_
      obtain ⟨g10, h⟩ := grd_some h
      refine v_iald hC ly_41 (inb_in g10) dX10_takes_27 ?_
      cases h
      exact v_iret hC (by decide) (by decide) dX10_takes_28
    · cases h
      exact w_callVx hC hnt [.int v2, .int (0 : Int32), .int (200 : Int32)] [] (ok_X10_needsWithin hl q6) mv_X10_needsWithin aw_969 ly_0 rfl (Nat.le_of_ble_eq_true rfl) ⟨by decide, by decide⟩ ⟨by decide, by decide⟩ dX10_takes_11 (by decide) (by decide)
  · cases h
    exact w_callVx hC hnt [.int v1] [] (ok_X10_needsDiner hl q3) mv_X10_needsDiner aw_843 ly_0 rfl (Nat.le_of_ble_eq_true rfl) ⟨by decide, by decide⟩ ⟨by decide, by decide⟩ dX10_takes_2 (by decide) (by decide)
def f_X10_keenest_21 (N : Nat) : Nat → Int32 → Int32 → Int32 → Mm → Option ((Int32 ⊕ String) × Mm)
  | 0, _, _, _, _ => none
  | n + 1, v2, v3, v4, M => (if (M 7 0) ≤ v4 then some (.inl v2, M) else grd (inb v4 8) ((if (M 41 (v4).toNatClampNeg) ≤ v3 then f_X10_keenest_21 N n v2 v3 (v4 + (1 : Int32)) M else grd (inb v4 8) (lt (M 41 (v4).toNatClampNeg) (fun x12 => f_X10_keenest_21 N n v4 x12 (v4 + (1 : Int32)) M)))))
def f_X10_keenest (N : Nat) (v1 : Int32) (M : Mm) : Option ((Int32 ⊕ String) × Mm) :=
  bnx (f_X10_needsWithin N v1 (0 : Int32) (200 : Int32) M) (fun r1 M2 => bnd (f_X10_looksAheadBy N v1 M2) (fun r4 M5 => f_X10_keenest_21 N N (-1 : Int32) (-1 : Int32) (0 : Int32) M5)) (fun r1 M2 => some (.inr r1, M2))
set_option maxRecDepth 20000 in
set_option maxHeartbeats 4000000 in
theorem ok_X10_keenest_21 {N : Nat} {X : am_X} {l : Launch} (hl : l.stackTraces = false) (hC : am_C X l (am_rm 8 1 6) cX10_keenest yX10_keenest.cls (some .int)) (hnt : am_NT X) : ∀ (n : Nat) (v2 v3 v4 : Int32) (M : Mm) (r : (Int32 ⊕ String)) (M' : Mm), f_X10_keenest_21 N n v2 v3 v4 M = some (r, M') → am_V X LY M 1 6 (am_Q X LY 1 6 (am_oi r) M') 21 [some (.ref 0), none, some (.int v2), some (.int v3), some (.int v4)] [] := by
  intro n
  induction n with
  | zero => intro v2 v3 v4 M r M' h; cases h
  | succ n ih =>
    intro v2 v3 v4 M r M' h
    simp only [f_X10_keenest_21] at h
    refine v_iload hC dX10_keenest_21 rfl ?_
    refine v_aload_n hC dX10_keenest_23 rfl ?_
    refine v_geta (k := 2) (b := 7) hC cls_X10 ly_0 (by decide) rfl aw_317 rfl dX10_keenest_24 ?_
    refine v_geti (k := 0) hC cls_X6 ly_7 (by decide) rfl aw_87 rfl dX10_keenest_27 ?_
    refine v_icmp_ge hC 67 dX10_keenest_30 rfl (fun c7 => ?_) (fun c7 => ?_)
    · rw [if_pos c7] at h
      refine v_iload_n hC dX10_keenest_67 rfl ?_
      cases h
      exact v_iret hC (by decide) (by decide) dX10_keenest_68
    · rw [if_neg c7] at h
      refine v_aload_n hC dX10_keenest_33 rfl ?_
      refine v_geta (k := 7) (b := 39) hC cls_X10 ly_0 (by decide) rfl aw_322 rfl dX10_keenest_34 ?_
      refine v_geta (k := 1) (b := 41) hC cls_X5 ly_39 (by decide) rfl aw_288 rfl dX10_keenest_37 ?_
      refine v_iload hC dX10_keenest_40 rfl ?_
      obtain ⟨g8, h⟩ := grd_some h
      refine v_iald hC ly_41 (inb_in g8) dX10_keenest_42 ?_
      refine v_iload_n hC dX10_keenest_43 rfl ?_
      refine v_icmp_le hC 61 dX10_keenest_44 rfl (fun c9 => ?_) (fun c9 => ?_)
      · rw [if_pos c9] at h
        refine w_iinc hC (v4 + (1 : Int32)) dX10_keenest_61 rfl rfl [some (.ref 0), none, some (.int v2), some (.int v3), some (.int (v4 + (1 : Int32)))] rfl ?_
        refine v_goto (tg := 21) hC dX10_keenest_64 rfl ?_
        exact ih _ _ _ _ _ _ h
      · rw [if_neg c9] at h
        refine v_aload_n hC dX10_keenest_47 rfl ?_
        refine v_geta (k := 7) (b := 39) hC cls_X10 ly_0 (by decide) rfl aw_322 rfl dX10_keenest_48 ?_
        refine v_geta (k := 1) (b := 41) hC cls_X5 ly_39 (by decide) rfl aw_288 rfl dX10_keenest_51 ?_
        refine v_iload hC dX10_keenest_54 rfl ?_
        obtain ⟨g11, h⟩ := grd_some h
        refine v_iald hC ly_41 (inb_in g11) dX10_keenest_56 ?_
        obtain ⟨x12, e_x12, h⟩ := lt_some h
        refine v_nam e_x12 ?_
        refine w_istore_n hC dX10_keenest_57 (ltk rfl) [some (.ref 0), none, some (.int v2), some (.int x12), some (.int v4)] rfl ?_
        refine v_iload hC dX10_keenest_58 rfl ?_
        refine w_istore_n hC dX10_keenest_60 (ltk rfl) [some (.ref 0), none, some (.int v4), some (.int x12), some (.int v4)] rfl ?_
        refine w_iinc hC (v4 + (1 : Int32)) dX10_keenest_61 rfl rfl [some (.ref 0), none, some (.int v4), some (.int x12), some (.int (v4 + (1 : Int32)))] rfl ?_
        refine v_goto (tg := 21) hC dX10_keenest_64 rfl ?_
        exact ih _ _ _ _ _ _ h
set_option maxRecDepth 20000 in
set_option maxHeartbeats 4000000 in
theorem ok_X10_keenest {l : Launch} {N : Nat} {v1 : Int32} (hl : l.stackTraces = false) {M : Mm} {r : (Int32 ⊕ String)} {M' : Mm} (h : f_X10_keenest N v1 M = some (r, M')) : am_M l yX10_keenest cX10_keenest 5 (some .int) 8 1 6 LY M [.ref 0, .int v1] (am_oi r) M' := by
  unfold f_X10_keenest at h
  refine am_intro (by decide) (by simp [Value.category]) (Nat.le_of_ble_eq_true rfl) (fun X hC hnt => ?_)
  refine am_start (L := [some (.ref 0), some (.int v1), none, none, none]) rfl ?_
  refine v_aload_n hC dX10_keenest_0 rfl ?_
  refine v_iload_n hC dX10_keenest_1 rfl ?_
  refine v_iconst (v := (0 : Int32)) hC dX10_keenest_2 rfl ?_
  refine v_sipush (v := (200 : Int32)) hC dX10_keenest_3 rfl ?_
  rcases bnx_some h with ⟨r1, M2, q3, h⟩ | ⟨r1, M2, q3, h⟩
  · refine w_callVv hC [.int v1, .int (0 : Int32), .int (200 : Int32)] [] (ok_X10_needsWithin hl q3) mv_X10_needsWithin aw_969 ly_0 rfl (Nat.le_of_ble_eq_true rfl) ⟨by decide, by decide⟩ ⟨by decide, by decide⟩ dX10_keenest_6 ?_
    refine v_aload_n hC dX10_keenest_9 rfl ?_
    refine v_iload_n hC dX10_keenest_10 rfl ?_
    obtain ⟨r4, M5, q6, h⟩ := bnd_some h
    refine w_callVv hC [.int v1] [] (ok_X10_looksAheadBy q6) mv_X10_looksAheadBy aw_1038 ly_0 rfl (Nat.le_of_ble_eq_true rfl) ⟨by decide, by decide⟩ ⟨by decide, by decide⟩ dX10_keenest_11 ?_
    refine v_iconst (v := (-1 : Int32)) hC dX10_keenest_14 rfl ?_
    refine w_istore_n hC dX10_keenest_15 (ltk rfl) [some (.ref 0), some (.int v1), some (.int (-1 : Int32)), none, none] rfl ?_
    refine v_iconst (v := (-1 : Int32)) hC dX10_keenest_16 rfl ?_
    refine w_istore_n hC dX10_keenest_17 (ltk rfl) [some (.ref 0), some (.int v1), some (.int (-1 : Int32)), some (.int (-1 : Int32)), none] rfl ?_
    refine v_iconst (v := (0 : Int32)) hC dX10_keenest_18 rfl ?_
    refine w_istore hC dX10_keenest_19 (ltk rfl) [some (.ref 0), some (.int v1), some (.int (-1 : Int32)), some (.int (-1 : Int32)), some (.int (0 : Int32))] rfl ?_
    refine v_drop [true, false, true, true, true] [some (.ref 0), none, some (.int (-1 : Int32)), some (.int (-1 : Int32)), some (.int (0 : Int32))] rfl ?_
    exact ok_X10_keenest_21 hl hC hnt N _ _ _ _ _ _ h
  · cases h
    exact w_callVx hC hnt [.int v1, .int (0 : Int32), .int (200 : Int32)] [] (ok_X10_needsWithin hl q3) mv_X10_needsWithin aw_969 ly_0 rfl (Nat.le_of_ble_eq_true rfl) ⟨by decide, by decide⟩ ⟨by decide, by decide⟩ dX10_keenest_6 (by decide) (by decide)
def f_X10_goes (N : Nat) (v1 : Int32) (v2 : Int32) (M : Mm) : Option ((Int32 ⊕ String) × Mm) :=
  bnx (f_X10_needsCellar N v1 M) (fun r1 M2 => bnx (f_X10_needsWithin N v2 (0 : Int32) (200 : Int32) M2) (fun r4 M5 => grd (inb v1 5) (grd (inb v1 5) (some (.inl (((M5 11 (v1).toNatClampNeg) + (v2 * (M5 15 (v1).toNatClampNeg))) - ((M5 11 (v1).toNatClampNeg) + (v2 * (M5 15 (v1).toNatClampNeg))) / (10 : Int32) * (10 : Int32)), M5)))) (fun r4 M5 => some (.inr r4, M5))) (fun r1 M2 => some (.inr r1, M2))
set_option maxRecDepth 20000 in
set_option maxHeartbeats 4000000 in
theorem ok_X10_goes {l : Launch} {N : Nat} {v1 v2 : Int32} (hl : l.stackTraces = false) {M : Mm} {r : (Int32 ⊕ String)} {M' : Mm} (h : f_X10_goes N v1 v2 M = some (r, M')) : am_M l yX10_goes cX10_goes 3 (some .int) 7 2 12 LY M [.ref 0, .int v1, .int v2] (am_oi r) M' := by
  unfold f_X10_goes at h
  refine am_intro (by decide) (by simp [Value.category]) (Nat.le_of_ble_eq_true rfl) (fun X hC hnt => ?_)
  refine am_start (L := [some (.ref 0), some (.int v1), some (.int v2)]) rfl ?_
  refine v_aload_n hC dX10_goes_0 rfl ?_
  refine v_iload_n hC dX10_goes_1 rfl ?_
  rcases bnx_some h with ⟨r1, M2, q3, h⟩ | ⟨r1, M2, q3, h⟩
  · refine w_callVv hC [.int v1] [] (ok_X10_needsCellar hl q3) mv_X10_needsCellar aw_912 ly_0 rfl (Nat.le_of_ble_eq_true rfl) ⟨by decide, by decide⟩ ⟨by decide, by decide⟩ dX10_goes_2 ?_
    refine v_aload_n hC dX10_goes_5 rfl ?_
    refine v_iload_n hC dX10_goes_6 rfl ?_
    refine v_iconst (v := (0 : Int32)) hC dX10_goes_7 rfl ?_
    refine v_sipush (v := (200 : Int32)) hC dX10_goes_8 rfl ?_
    rcases bnx_some h with ⟨r4, M5, q6, h⟩ | ⟨r4, M5, q6, h⟩
    · refine w_callVv hC [.int v2, .int (0 : Int32), .int (200 : Int32)] [] (ok_X10_needsWithin hl q6) mv_X10_needsWithin aw_969 ly_0 rfl (Nat.le_of_ble_eq_true rfl) ⟨by decide, by decide⟩ ⟨by decide, by decide⟩ dX10_goes_11 ?_
      refine v_aload_n hC dX10_goes_14 rfl ?_
      refine v_geta (k := 2) (b := 7) hC cls_X10 ly_0 (by decide) rfl aw_317 rfl dX10_goes_15 ?_
      refine v_geta (k := 14) (b := 11) hC cls_X6 ly_7 (by decide) rfl aw_127 rfl dX10_goes_18 ?_
      refine v_iload_n hC dX10_goes_21 rfl ?_
      obtain ⟨g7, h⟩ := grd_some h
      refine v_iald hC ly_11 (inb_in g7) dX10_goes_22 ?_
      refine v_iload_n hC dX10_goes_23 rfl ?_
      refine v_aload_n hC dX10_goes_24 rfl ?_
      refine v_geta (k := 2) (b := 7) hC cls_X10 ly_0 (by decide) rfl aw_317 rfl dX10_goes_25 ?_
      refine v_geta (k := 18) (b := 15) hC cls_X6 ly_7 (by decide) rfl aw_141 rfl dX10_goes_28 ?_
      refine v_iload_n hC dX10_goes_31 rfl ?_
      obtain ⟨g8, h⟩ := grd_some h
      refine v_iald hC ly_15 (inb_in g8) dX10_goes_32 ?_
      refine v_imul hC dX10_goes_33 ?_
      refine v_iadd hC dX10_goes_34 ?_
      refine v_bipush (v := (10 : Int32)) hC dX10_goes_35 rfl ?_
      refine v_irem hC dX10_goes_37 (by decide) ?_
      cases h
      exact v_iret hC (by decide) (by decide) dX10_goes_38
    · cases h
      exact w_callVx hC hnt [.int v2, .int (0 : Int32), .int (200 : Int32)] [] (ok_X10_needsWithin hl q6) mv_X10_needsWithin aw_969 ly_0 rfl (Nat.le_of_ble_eq_true rfl) ⟨by decide, by decide⟩ ⟨by decide, by decide⟩ dX10_goes_11 (by decide) (by decide)
  · cases h
    exact w_callVx hC hnt [.int v1] [] (ok_X10_needsCellar hl q3) mv_X10_needsCellar aw_912 ly_0 rfl (Nat.le_of_ble_eq_true rfl) ⟨by decide, by decide⟩ ⟨by decide, by decide⟩ dX10_goes_2 (by decide) (by decide)
def f_X10_ahead (N : Nat) (v1 : Int32) (v2 : Int32) (M : Mm) : Option ((Int32 ⊕ String) × Mm) :=
  bnx (f_X10_needsCellar N v1 M) (fun r1 M2 => bnx (f_X10_needsWithin N v2 (0 : Int32) (200 : Int32) M2) (fun r4 M5 => bnd (f_X10_looksAheadBy N v2 M5) (fun r7 M8 => grd (inb v1 5) (some (.inl (M8 22 (v1).toNatClampNeg), M8)))) (fun r4 M5 => some (.inr r4, M5))) (fun r1 M2 => some (.inr r1, M2))
set_option maxRecDepth 20000 in
set_option maxHeartbeats 4000000 in
theorem ok_X10_ahead {l : Launch} {N : Nat} {v1 v2 : Int32} (hl : l.stackTraces = false) {M : Mm} {r : (Int32 ⊕ String)} {M' : Mm} (h : f_X10_ahead N v1 v2 M = some (r, M')) : am_M l yX10_ahead cX10_ahead 3 (some .int) 8 2 12 LY M [.ref 0, .int v1, .int v2] (am_oi r) M' := by
  unfold f_X10_ahead at h
  refine am_intro (by decide) (by simp [Value.category]) (Nat.le_of_ble_eq_true rfl) (fun X hC hnt => ?_)
  refine am_start (L := [some (.ref 0), some (.int v1), some (.int v2)]) rfl ?_
  refine v_aload_n hC dX10_ahead_0 rfl ?_
  refine v_iload_n hC dX10_ahead_1 rfl ?_
  rcases bnx_some h with ⟨r1, M2, q3, h⟩ | ⟨r1, M2, q3, h⟩
  · refine w_callVv hC [.int v1] [] (ok_X10_needsCellar hl q3) mv_X10_needsCellar aw_912 ly_0 rfl (Nat.le_of_ble_eq_true rfl) ⟨by decide, by decide⟩ ⟨by decide, by decide⟩ dX10_ahead_2 ?_
    refine v_aload_n hC dX10_ahead_5 rfl ?_
    refine v_iload_n hC dX10_ahead_6 rfl ?_
    refine v_iconst (v := (0 : Int32)) hC dX10_ahead_7 rfl ?_
    refine v_sipush (v := (200 : Int32)) hC dX10_ahead_8 rfl ?_
    rcases bnx_some h with ⟨r4, M5, q6, h⟩ | ⟨r4, M5, q6, h⟩
    · refine w_callVv hC [.int v2, .int (0 : Int32), .int (200 : Int32)] [] (ok_X10_needsWithin hl q6) mv_X10_needsWithin aw_969 ly_0 rfl (Nat.le_of_ble_eq_true rfl) ⟨by decide, by decide⟩ ⟨by decide, by decide⟩ dX10_ahead_11 ?_
      refine v_aload_n hC dX10_ahead_14 rfl ?_
      refine v_iload_n hC dX10_ahead_15 rfl ?_
      obtain ⟨r7, M8, q9, h⟩ := bnd_some h
      refine w_callVv hC [.int v2] [] (ok_X10_looksAheadBy q9) mv_X10_looksAheadBy aw_1038 ly_0 rfl (Nat.le_of_ble_eq_true rfl) ⟨by decide, by decide⟩ ⟨by decide, by decide⟩ dX10_ahead_16 ?_
      refine v_aload_n hC dX10_ahead_19 rfl ?_
      refine v_geta (k := 3) (b := 16) hC cls_X10 ly_0 (by decide) rfl aw_318 rfl dX10_ahead_20 ?_
      refine v_geta (k := 16) (b := 22) hC cls_X6 ly_16 (by decide) rfl aw_135 rfl dX10_ahead_23 ?_
      refine v_iload_n hC dX10_ahead_26 rfl ?_
      obtain ⟨g10, h⟩ := grd_some h
      refine v_iald hC ly_22 (inb_in g10) dX10_ahead_27 ?_
      cases h
      exact v_iret hC (by decide) (by decide) dX10_ahead_28
    · cases h
      exact w_callVx hC hnt [.int v2, .int (0 : Int32), .int (200 : Int32)] [] (ok_X10_needsWithin hl q6) mv_X10_needsWithin aw_969 ly_0 rfl (Nat.le_of_ble_eq_true rfl) ⟨by decide, by decide⟩ ⟨by decide, by decide⟩ dX10_ahead_11 (by decide) (by decide)
  · cases h
    exact w_callVx hC hnt [.int v1] [] (ok_X10_needsCellar hl q3) mv_X10_needsCellar aw_912 ly_0 rfl (Nat.le_of_ble_eq_true rfl) ⟨by decide, by decide⟩ ⟨by decide, by decide⟩ dX10_ahead_2 (by decide) (by decide)
def f_X10_swap_86 (N : Nat) (k50 : Int32 → Int32 → Int32 → Int32 → Mm → Option (Int32 × Mm)) (v2 : Int32) (v3 : Int32) (v4 : Int32) (v5 : Int32) (M : Mm) : Option (Int32 × Mm) :=
  bnd (f_X10_looksAhead N M) (fun r19 M20 => bnd (f_X6_changesAbout N 16 v4 v5 M20) (fun r22 M23 => bnd (f_X6_heldCellars N 16 M23) (fun r25 M26 => bnd (f_X10_untilFree N r25 (v2 - (1 : Int32)) M26) (fun r28 M29 => (if r28 = (-1 : Int32) then k50 v2 v3 v4 (v5 + (1 : Int32)) M29 else lt (((10 : Int32) * v4) + v5) (fun x33 => k50 r28 x33 v4 (v5 + (1 : Int32)) M29))))))
def f_X10_swap_50 (N : Nat) (k37 : Int32 → Int32 → Int32 → Mm → Option (Int32 × Mm)) : Nat → Int32 → Int32 → Int32 → Int32 → Mm → Option (Int32 × Mm)
  | 0, _, _, _, _, _ => none
  | n + 1, v2, v3, v4, v5, M => (if (10 : Int32) ≤ v5 then k37 v2 v3 (v4 + (1 : Int32)) M else bnd (f_X6_dinerAt N 7 v4 M) (fun r15 M16 => (if r15 = (-1 : Int32) then bnd (f_X6_dinerAt N 7 v5 M16) (fun r35 M36 => (if r35 = (-1 : Int32) then f_X10_swap_50 N k37 n v2 v3 v4 (v5 + (1 : Int32)) M36 else f_X10_swap_86 N (fun v2 v3 v4 v5 M => f_X10_swap_50 N k37 n v2 v3 v4 v5 M) v2 v3 v4 v5 M36)) else f_X10_swap_86 N (fun v2 v3 v4 v5 M => f_X10_swap_50 N k37 n v2 v3 v4 v5 M) v2 v3 v4 v5 M16)))
def f_X10_swap_37 (N : Nat) : Nat → Int32 → Int32 → Int32 → Mm → Option (Int32 × Mm)
  | 0, _, _, _, _ => none
  | n + 1, v2, v3, v4, M => (if (10 : Int32) ≤ v4 then some (v3, M) else lt (v4 + (1 : Int32)) (fun x12 => f_X10_swap_50 N (fun v2 v3 v4 M => f_X10_swap_37 N n v2 v3 v4 M) N v2 v3 v4 x12 M))
def f_X10_swap (N : Nat) (M : Mm) : Option (Int32 × Mm) :=
  bnd (f_X10_looksAhead N M) (fun r1 M2 => bnd (f_X6_heldCellars N 16 M2) (fun r4 M5 => bnd (f_X10_untilFree N r4 (200 : Int32) M5) (fun r7 M8 => (if r7 = (-1 : Int32) then f_X10_swap_37 N N (201 : Int32) (-1 : Int32) (0 : Int32) M8 else f_X10_swap_37 N N r7 (-1 : Int32) (0 : Int32) M8))))
set_option maxRecDepth 20000 in
set_option maxHeartbeats 4000000 in
theorem ok_X10_swap_86 {N : Nat} {X : am_X} {l : Launch} (hC : am_C X l (am_rm 8 0 0) cX10_swap yX10_swap.cls (some .int)) (hnt : am_NT X) {k50 : Int32 → Int32 → Int32 → Int32 → Mm → Option (Int32 × Mm)} (hk50 : ∀ (v2 v3 v4 v5 : Int32) (M : Mm) (r : Int32) (M' : Mm), k50 v2 v3 v4 v5 M = some (r, M') → am_V X LY M 0 0 (am_Q X LY 0 0 (.inl (some (.int r))) M') 50 [some (.ref 0), none, some (.int v2), some (.int v3), some (.int v4), some (.int v5), none] []) {v2 v3 v4 v5 : Int32} {M : Mm} {r : Int32} {M' : Mm} (h : f_X10_swap_86 N k50 v2 v3 v4 v5 M = some (r, M')) : am_V X LY M 0 0 (am_Q X LY 0 0 (.inl (some (.int r))) M') 86 [some (.ref 0), none, some (.int v2), some (.int v3), some (.int v4), some (.int v5), none] [] := by
  unfold f_X10_swap_86 at h
  refine v_aload_n hC dX10_swap_86 rfl ?_
  obtain ⟨r19, M20, q21, h⟩ := bnd_some h
  refine w_callVv hC [] [] (ok_X10_looksAhead q21) mv_X10_looksAhead aw_393 ly_0 rfl (Nat.le_of_ble_eq_true rfl) ⟨by decide, by decide⟩ ⟨by decide, by decide⟩ dX10_swap_87 ?_
  refine v_aload_n hC dX10_swap_90 rfl ?_
  refine v_geta (k := 3) (b := 16) hC cls_X10 ly_0 (by decide) rfl aw_318 rfl dX10_swap_91 ?_
  refine v_iload hC dX10_swap_94 rfl ?_
  refine v_iload hC dX10_swap_96 rfl ?_
  obtain ⟨r22, M23, q24, h⟩ := bnd_some h
  refine w_callVv hC [.int v4, .int v5] [] (ok_X6_changesAbout kTable_16 q24) mv_X6_changesAbout aw_485 ly_16 rfl (Nat.le_of_ble_eq_true rfl) ⟨by decide, by decide⟩ ⟨by decide, by decide⟩ dX10_swap_98 ?_
  refine v_aload_n hC dX10_swap_101 rfl ?_
  refine v_aload_n hC dX10_swap_102 rfl ?_
  refine v_geta (k := 3) (b := 16) hC cls_X10 ly_0 (by decide) rfl aw_318 rfl dX10_swap_103 ?_
  obtain ⟨r25, M26, q27, h⟩ := bnd_some h
  refine w_callVi hC [] [.ref 0] (ok_X6_heldCellars kTable_16 q27) mv_X6_heldCellars aw_409 ly_16 rfl (Nat.le_of_ble_eq_true rfl) ⟨by decide, by decide⟩ ⟨by decide, by decide⟩ dX10_swap_106 ?_
  refine v_iload_n hC dX10_swap_109 rfl ?_
  refine v_iconst (v := (1 : Int32)) hC dX10_swap_110 rfl ?_
  refine v_isub hC dX10_swap_111 ?_
  obtain ⟨r28, M29, q30, h⟩ := bnd_some h
  refine w_callVi hC [.int r25, .int (v2 - (1 : Int32))] [] (ok_X10_untilFree q30) mv_X10_untilFree aw_413 ly_0 rfl (Nat.le_of_ble_eq_true rfl) ⟨by decide, by decide⟩ ⟨by decide, by decide⟩ dX10_swap_112 ?_
  refine w_istore hC dX10_swap_115 (ltk rfl) [some (.ref 0), none, some (.int v2), some (.int v3), some (.int v4), some (.int v5), some (.int r28)] rfl ?_
  refine v_iload hC dX10_swap_117 rfl ?_
  refine v_iconst (v := (-1 : Int32)) hC dX10_swap_119 rfl ?_
  refine v_icmp_eq hC 135 dX10_swap_120 rfl (fun c31 => ?_) (fun c31 => ?_)
  · rw [if_pos c31] at h
    refine w_iinc hC (v5 + (1 : Int32)) dX10_swap_135 rfl rfl [some (.ref 0), none, some (.int v2), some (.int v3), some (.int v4), some (.int (v5 + (1 : Int32))), some (.int r28)] rfl ?_
    refine v_goto (tg := 50) hC dX10_swap_138 rfl ?_
    refine v_drop [true, false, true, true, true, true, false] [some (.ref 0), none, some (.int v2), some (.int v3), some (.int v4), some (.int (v5 + (1 : Int32))), none] rfl ?_
    exact hk50 _ _ _ _ _ _ _ h
  · rw [if_neg c31] at h
    refine v_iload hC dX10_swap_123 rfl ?_
    refine w_istore_n hC dX10_swap_125 (ltk rfl) [some (.ref 0), none, some (.int r28), some (.int v3), some (.int v4), some (.int v5), some (.int r28)] rfl ?_
    refine v_bipush (v := (10 : Int32)) hC dX10_swap_126 rfl ?_
    refine v_iload hC dX10_swap_128 rfl ?_
    refine v_imul hC dX10_swap_130 ?_
    refine v_iload hC dX10_swap_131 rfl ?_
    refine v_iadd hC dX10_swap_133 ?_
    obtain ⟨x33, e_x33, h⟩ := lt_some h
    refine v_nam e_x33 ?_
    refine w_istore_n hC dX10_swap_134 (ltk rfl) [some (.ref 0), none, some (.int r28), some (.int x33), some (.int v4), some (.int v5), some (.int r28)] rfl ?_
    refine w_iinc hC (v5 + (1 : Int32)) dX10_swap_135 rfl rfl [some (.ref 0), none, some (.int r28), some (.int x33), some (.int v4), some (.int (v5 + (1 : Int32))), some (.int r28)] rfl ?_
    refine v_goto (tg := 50) hC dX10_swap_138 rfl ?_
    refine v_drop [true, false, true, true, true, true, false] [some (.ref 0), none, some (.int r28), some (.int x33), some (.int v4), some (.int (v5 + (1 : Int32))), none] rfl ?_
    exact hk50 _ _ _ _ _ _ _ h
set_option maxRecDepth 20000 in
set_option maxHeartbeats 4000000 in
theorem ok_X10_swap_50 {N : Nat} {X : am_X} {l : Launch} (hC : am_C X l (am_rm 8 0 0) cX10_swap yX10_swap.cls (some .int)) (hnt : am_NT X) {k37 : Int32 → Int32 → Int32 → Mm → Option (Int32 × Mm)} (hk37 : ∀ (v2 v3 v4 : Int32) (M : Mm) (r : Int32) (M' : Mm), k37 v2 v3 v4 M = some (r, M') → am_V X LY M 0 0 (am_Q X LY 0 0 (.inl (some (.int r))) M') 37 [some (.ref 0), none, some (.int v2), some (.int v3), some (.int v4), none, none] []) : ∀ (n : Nat) (v2 v3 v4 v5 : Int32) (M : Mm) (r : Int32) (M' : Mm), f_X10_swap_50 N k37 n v2 v3 v4 v5 M = some (r, M') → am_V X LY M 0 0 (am_Q X LY 0 0 (.inl (some (.int r))) M') 50 [some (.ref 0), none, some (.int v2), some (.int v3), some (.int v4), some (.int v5), none] [] := by
  intro n
  induction n with
  | zero => intro v2 v3 v4 v5 M r M' h; cases h
  | succ n ih =>
    intro v2 v3 v4 v5 M r M' h
    simp only [f_X10_swap_50] at h
    refine v_iload hC dX10_swap_50 rfl ?_
    refine v_bipush (v := (10 : Int32)) hC dX10_swap_52 rfl ?_
    refine v_icmp_ge hC 141 dX10_swap_54 rfl (fun c13 => ?_) (fun c13 => ?_)
    · rw [if_pos c13] at h
      refine w_iinc hC (v4 + (1 : Int32)) dX10_swap_141 rfl rfl [some (.ref 0), none, some (.int v2), some (.int v3), some (.int (v4 + (1 : Int32))), some (.int v5), none] rfl ?_
      refine v_goto (tg := 37) hC dX10_swap_144 rfl ?_
      refine v_drop [true, false, true, true, true, false, false] [some (.ref 0), none, some (.int v2), some (.int v3), some (.int (v4 + (1 : Int32))), none, none] rfl ?_
      exact hk37 _ _ _ _ _ _ h
    · rw [if_neg c13] at h
      refine v_aload_n hC dX10_swap_57 rfl ?_
      refine v_geta (k := 2) (b := 7) hC cls_X10 ly_0 (by decide) rfl aw_317 rfl dX10_swap_58 ?_
      refine v_iload hC dX10_swap_61 rfl ?_
      obtain ⟨r15, M16, q17, h⟩ := bnd_some h
      refine w_callVi hC [.int v4] [] (ok_X6_dinerAt kTable_7 q17) mv_X6_dinerAt aw_484 ly_7 rfl (Nat.le_of_ble_eq_true rfl) ⟨by decide, by decide⟩ ⟨by decide, by decide⟩ dX10_swap_63 ?_
      refine v_iconst (v := (-1 : Int32)) hC dX10_swap_66 rfl ?_
      refine v_icmp_ne hC 86 dX10_swap_67 rfl (fun c18 => ?_) (fun c18 => ?_)
      · rw [if_neg c18] at h
        exact ok_X10_swap_86 hC hnt (fun v2 v3 v4 v5 M r M' h => ih v2 v3 v4 v5 M r M' h) h
      · rw [if_pos c18] at h
        refine v_aload_n hC dX10_swap_70 rfl ?_
        refine v_geta (k := 2) (b := 7) hC cls_X10 ly_0 (by decide) rfl aw_317 rfl dX10_swap_71 ?_
        refine v_iload hC dX10_swap_74 rfl ?_
        obtain ⟨r35, M36, q37, h⟩ := bnd_some h
        refine w_callVi hC [.int v5] [] (ok_X6_dinerAt kTable_7 q37) mv_X6_dinerAt aw_484 ly_7 rfl (Nat.le_of_ble_eq_true rfl) ⟨by decide, by decide⟩ ⟨by decide, by decide⟩ dX10_swap_76 ?_
        refine v_iconst (v := (-1 : Int32)) hC dX10_swap_79 rfl ?_
        refine v_icmp_ne hC 86 dX10_swap_80 rfl (fun c38 => ?_) (fun c38 => ?_)
        · rw [if_neg c38] at h
          exact ok_X10_swap_86 hC hnt (fun v2 v3 v4 v5 M r M' h => ih v2 v3 v4 v5 M r M' h) h
        · rw [if_pos c38] at h
          refine v_goto (tg := 135) hC dX10_swap_83 rfl ?_
          refine w_iinc hC (v5 + (1 : Int32)) dX10_swap_135 rfl rfl [some (.ref 0), none, some (.int v2), some (.int v3), some (.int v4), some (.int (v5 + (1 : Int32))), none] rfl ?_
          refine v_goto (tg := 50) hC dX10_swap_138 rfl ?_
          exact ih _ _ _ _ _ _ _ h
set_option maxRecDepth 20000 in
set_option maxHeartbeats 4000000 in
theorem ok_X10_swap_37 {N : Nat} {X : am_X} {l : Launch} (hC : am_C X l (am_rm 8 0 0) cX10_swap yX10_swap.cls (some .int)) (hnt : am_NT X) : ∀ (n : Nat) (v2 v3 v4 : Int32) (M : Mm) (r : Int32) (M' : Mm), f_X10_swap_37 N n v2 v3 v4 M = some (r, M') → am_V X LY M 0 0 (am_Q X LY 0 0 (.inl (some (.int r))) M') 37 [some (.ref 0), none, some (.int v2), some (.int v3), some (.int v4), none, none] [] := by
  intro n
  induction n with
  | zero => intro v2 v3 v4 M r M' h; cases h
  | succ n ih =>
    intro v2 v3 v4 M r M' h
    simp only [f_X10_swap_37] at h
    refine v_iload hC dX10_swap_37 rfl ?_
    refine v_bipush (v := (10 : Int32)) hC dX10_swap_39 rfl ?_
    refine v_icmp_ge hC 147 dX10_swap_41 rfl (fun c11 => ?_) (fun c11 => ?_)
    · rw [if_pos c11] at h
      refine v_iload_n hC dX10_swap_147 rfl ?_
      cases h
      exact v_iret hC (by decide) (by decide) dX10_swap_148
    · rw [if_neg c11] at h
      refine v_iload hC dX10_swap_44 rfl ?_
      refine v_iconst (v := (1 : Int32)) hC dX10_swap_46 rfl ?_
      refine v_iadd hC dX10_swap_47 ?_
      obtain ⟨x12, e_x12, h⟩ := lt_some h
      refine v_nam e_x12 ?_
      refine w_istore hC dX10_swap_48 (ltk rfl) [some (.ref 0), none, some (.int v2), some (.int v3), some (.int v4), some (.int x12), none] rfl ?_
      exact ok_X10_swap_50 hC hnt (fun v2 v3 v4 M r M' h => ih v2 v3 v4 M r M' h) N _ _ _ _ _ _ _ h
set_option maxRecDepth 20000 in
set_option maxHeartbeats 4000000 in
theorem ok_X10_swap {l : Launch} {N : Nat} {M : Mm} {r : Int32} {M' : Mm} (h : f_X10_swap N M = some (r, M')) : am_M l yX10_swap cX10_swap 7 (some .int) 8 0 0 LY M [.ref 0] (.inl (some (.int r))) M' := by
  unfold f_X10_swap at h
  refine am_intro (by decide) (by simp [Value.category]) (Nat.le_of_ble_eq_true rfl) (fun X hC hnt => ?_)
  refine am_start (L := [some (.ref 0), none, none, none, none, none, none]) rfl ?_
  refine v_aload_n hC dX10_swap_0 rfl ?_
  obtain ⟨r1, M2, q3, h⟩ := bnd_some h
  refine w_callVv hC [] [] (ok_X10_looksAhead q3) mv_X10_looksAhead aw_393 ly_0 rfl (Nat.le_of_ble_eq_true rfl) ⟨by decide, by decide⟩ ⟨by decide, by decide⟩ dX10_swap_1 ?_
  refine v_aload_n hC dX10_swap_4 rfl ?_
  refine v_aload_n hC dX10_swap_5 rfl ?_
  refine v_geta (k := 3) (b := 16) hC cls_X10 ly_0 (by decide) rfl aw_318 rfl dX10_swap_6 ?_
  obtain ⟨r4, M5, q6, h⟩ := bnd_some h
  refine w_callVi hC [] [.ref 0] (ok_X6_heldCellars kTable_16 q6) mv_X6_heldCellars aw_409 ly_16 rfl (Nat.le_of_ble_eq_true rfl) ⟨by decide, by decide⟩ ⟨by decide, by decide⟩ dX10_swap_9 ?_
  refine v_sipush (v := (200 : Int32)) hC dX10_swap_12 rfl ?_
  obtain ⟨r7, M8, q9, h⟩ := bnd_some h
  refine w_callVi hC [.int r4, .int (200 : Int32)] [] (ok_X10_untilFree q9) mv_X10_untilFree aw_413 ly_0 rfl (Nat.le_of_ble_eq_true rfl) ⟨by decide, by decide⟩ ⟨by decide, by decide⟩ dX10_swap_15 ?_
  refine w_istore_n hC dX10_swap_18 (ltk rfl) [some (.ref 0), some (.int r7), none, none, none, none, none] rfl ?_
  refine v_iload_n hC dX10_swap_19 rfl ?_
  refine v_iconst (v := (-1 : Int32)) hC dX10_swap_20 rfl ?_
  refine v_icmp_ne hC 30 dX10_swap_21 rfl (fun c10 => ?_) (fun c10 => ?_)
  · rw [if_neg c10] at h
    refine v_iload_n hC dX10_swap_30 rfl ?_
    refine w_istore_n hC dX10_swap_31 (ltk rfl) [some (.ref 0), some (.int r7), some (.int r7), none, none, none, none] rfl ?_
    refine v_iconst (v := (-1 : Int32)) hC dX10_swap_32 rfl ?_
    refine w_istore_n hC dX10_swap_33 (ltk rfl) [some (.ref 0), some (.int r7), some (.int r7), some (.int (-1 : Int32)), none, none, none] rfl ?_
    refine v_iconst (v := (0 : Int32)) hC dX10_swap_34 rfl ?_
    refine w_istore hC dX10_swap_35 (ltk rfl) [some (.ref 0), some (.int r7), some (.int r7), some (.int (-1 : Int32)), some (.int (0 : Int32)), none, none] rfl ?_
    refine v_drop [true, false, true, true, true, false, false] [some (.ref 0), none, some (.int r7), some (.int (-1 : Int32)), some (.int (0 : Int32)), none, none] rfl ?_
    exact ok_X10_swap_37 hC hnt N _ _ _ _ _ _ h
  · rw [if_pos c10] at h
    refine v_sipush (v := (201 : Int32)) hC dX10_swap_24 rfl ?_
    refine v_goto (tg := 31) hC dX10_swap_27 rfl ?_
    refine w_istore_n hC dX10_swap_31 (ltk rfl) [some (.ref 0), some (.int r7), some (.int (201 : Int32)), none, none, none, none] rfl ?_
    refine v_iconst (v := (-1 : Int32)) hC dX10_swap_32 rfl ?_
    refine w_istore_n hC dX10_swap_33 (ltk rfl) [some (.ref 0), some (.int r7), some (.int (201 : Int32)), some (.int (-1 : Int32)), none, none, none] rfl ?_
    refine v_iconst (v := (0 : Int32)) hC dX10_swap_34 rfl ?_
    refine w_istore hC dX10_swap_35 (ltk rfl) [some (.ref 0), some (.int r7), some (.int (201 : Int32)), some (.int (-1 : Int32)), some (.int (0 : Int32)), none, none] rfl ?_
    refine v_drop [true, false, true, true, true, false, false] [some (.ref 0), none, some (.int (201 : Int32)), some (.int (-1 : Int32)), some (.int (0 : Int32)), none, none] rfl ?_
    exact ok_X10_swap_37 hC hnt N _ _ _ _ _ _ h
def f_J6_bitCount_0f7a4 (N : Nat) (v0 : Int32) (M : Mm) : Option (Int32 × Mm) :=
  lt (v0 - (((v0).toUInt32 >>> (((1 : Int32)).toUInt32 &&& Int32.toUInt32 31)).toInt32 &&& (1431655765 : Int32))) (fun x1 => lt ((x1 &&& (858993459 : Int32)) + (((x1).toUInt32 >>> (((2 : Int32)).toUInt32 &&& Int32.toUInt32 31)).toInt32 &&& (858993459 : Int32))) (fun x2 => lt ((x2 + ((x2).toUInt32 >>> (((4 : Int32)).toUInt32 &&& Int32.toUInt32 31)).toInt32) &&& (252645135 : Int32)) (fun x3 => lt (x3 + ((x3).toUInt32 >>> (((8 : Int32)).toUInt32 &&& Int32.toUInt32 31)).toInt32) (fun x4 => lt (x4 + ((x4).toUInt32 >>> (((16 : Int32)).toUInt32 &&& Int32.toUInt32 31)).toInt32) (fun x5 => some ((x5 &&& (63 : Int32)), M))))))
set_option maxRecDepth 20000 in
set_option maxHeartbeats 4000000 in
theorem ok_J6_bitCount_0f7a4 {l : Launch} {ly : Ly} {N : Nat} {v0 : Int32} {M : Mm} {r : Int32} {M' : Mm} (h : f_J6_bitCount_0f7a4 N v0 M = some (r, M')) : am_M l yJ6_bitCount_0f7a4 cJ6_bitCount_0f7a4 1 (some .int) 1 0 0 ly M [.int v0] (.inl (some (.int r))) M' := by
  unfold f_J6_bitCount_0f7a4 at h
  refine am_intro (by decide) (by simp [Value.category]) (Nat.le_of_ble_eq_true rfl) (fun X hC hnt => ?_)
  refine am_start (L := [some (.int v0)]) rfl ?_
  refine v_iload_n hC dJ6_bitCount_0f7a4_0 rfl ?_
  refine v_iload_n hC dJ6_bitCount_0f7a4_1 rfl ?_
  refine v_iconst (v := (1 : Int32)) hC dJ6_bitCount_0f7a4_2 rfl ?_
  refine v_iushr hC dJ6_bitCount_0f7a4_3 ?_
  refine v_ldcw hC aw_529 dJ6_bitCount_0f7a4_4 ?_
  refine v_iand hC dJ6_bitCount_0f7a4_7 ?_
  refine v_isub hC dJ6_bitCount_0f7a4_8 ?_
  obtain ⟨x1, e_x1, h⟩ := lt_some h
  refine v_nam e_x1 ?_
  refine w_istore_n hC dJ6_bitCount_0f7a4_9 (ltk rfl) [some (.int x1)] rfl ?_
  refine v_iload_n hC dJ6_bitCount_0f7a4_10 rfl ?_
  refine v_ldcw hC aw_530 dJ6_bitCount_0f7a4_11 ?_
  refine v_iand hC dJ6_bitCount_0f7a4_14 ?_
  refine v_iload_n hC dJ6_bitCount_0f7a4_15 rfl ?_
  refine v_iconst (v := (2 : Int32)) hC dJ6_bitCount_0f7a4_16 rfl ?_
  refine v_iushr hC dJ6_bitCount_0f7a4_17 ?_
  refine v_ldcw hC aw_530 dJ6_bitCount_0f7a4_18 ?_
  refine v_iand hC dJ6_bitCount_0f7a4_21 ?_
  refine v_iadd hC dJ6_bitCount_0f7a4_22 ?_
  obtain ⟨x2, e_x2, h⟩ := lt_some h
  refine v_nam e_x2 ?_
  refine w_istore_n hC dJ6_bitCount_0f7a4_23 (ltk rfl) [some (.int x2)] rfl ?_
  refine v_iload_n hC dJ6_bitCount_0f7a4_24 rfl ?_
  refine v_iload_n hC dJ6_bitCount_0f7a4_25 rfl ?_
  refine v_iconst (v := (4 : Int32)) hC dJ6_bitCount_0f7a4_26 rfl ?_
  refine v_iushr hC dJ6_bitCount_0f7a4_27 ?_
  refine v_iadd hC dJ6_bitCount_0f7a4_28 ?_
  refine v_ldcw hC aw_531 dJ6_bitCount_0f7a4_29 ?_
  refine v_iand hC dJ6_bitCount_0f7a4_32 ?_
  obtain ⟨x3, e_x3, h⟩ := lt_some h
  refine v_nam e_x3 ?_
  refine w_istore_n hC dJ6_bitCount_0f7a4_33 (ltk rfl) [some (.int x3)] rfl ?_
  refine v_iload_n hC dJ6_bitCount_0f7a4_34 rfl ?_
  refine v_iload_n hC dJ6_bitCount_0f7a4_35 rfl ?_
  refine v_bipush (v := (8 : Int32)) hC dJ6_bitCount_0f7a4_36 rfl ?_
  refine v_iushr hC dJ6_bitCount_0f7a4_38 ?_
  refine v_iadd hC dJ6_bitCount_0f7a4_39 ?_
  obtain ⟨x4, e_x4, h⟩ := lt_some h
  refine v_nam e_x4 ?_
  refine w_istore_n hC dJ6_bitCount_0f7a4_40 (ltk rfl) [some (.int x4)] rfl ?_
  refine v_iload_n hC dJ6_bitCount_0f7a4_41 rfl ?_
  refine v_iload_n hC dJ6_bitCount_0f7a4_42 rfl ?_
  refine v_bipush (v := (16 : Int32)) hC dJ6_bitCount_0f7a4_43 rfl ?_
  refine v_iushr hC dJ6_bitCount_0f7a4_45 ?_
  refine v_iadd hC dJ6_bitCount_0f7a4_46 ?_
  obtain ⟨x5, e_x5, h⟩ := lt_some h
  refine v_nam e_x5 ?_
  refine w_istore_n hC dJ6_bitCount_0f7a4_47 (ltk rfl) [some (.int x5)] rfl ?_
  refine v_iload_n hC dJ6_bitCount_0f7a4_48 rfl ?_
  refine v_bipush (v := (63 : Int32)) hC dJ6_bitCount_0f7a4_49 rfl ?_
  refine v_iand hC dJ6_bitCount_0f7a4_51 ?_
  cases h
  exact v_iret hC (by decide) (by decide) dJ6_bitCount_0f7a4_52
def f_X10_fewest_43 (N : Nat) (k28 : Int32 → Int32 → Int32 → Int32 → Mm → Option ((Int32 ⊕ String) × Mm)) : Nat → Int32 → Int32 → Int32 → Int32 → Int32 → Mm → Option ((Int32 ⊕ String) × Mm)
  | 0, _, _, _, _, _, _ => none
  | n + 1, v1, v2, v3, v4, v5, M => (if v3 < v5 then k28 v1 v2 v3 (v4 + (1 : Int32)) M else bnd (f_J6_bitCount_0f7a4 N v5 M) (fun r11 M12 => (if r11 = v4 then bnd (f_X10_looksAhead N M12) (fun r15 M16 => lt (wr M16 16 2 (v3 &&& (v5 ^^^ (-1 : Int32)))) (fun M18 => bnd (f_X10_untilFree N ((1 : Int32) <<< (v1 &&& 31)) v2 M18) (fun r19 M20 => (if r19 = (-1 : Int32) then f_X10_fewest_43 N k28 n v1 v2 v3 v4 (v5 + (1 : Int32)) M20 else some (.inl v5, M20))))) else f_X10_fewest_43 N k28 n v1 v2 v3 v4 (v5 + (1 : Int32)) M12)))
def f_X10_fewest_28 (N : Nat) : Nat → Int32 → Int32 → Int32 → Int32 → Mm → Option ((Int32 ⊕ String) × Mm)
  | 0, _, _, _, _, _ => none
  | n + 1, v1, v2, v3, v4, M => (if (M 7 0) < v4 then some (.inl (-1 : Int32), M) else f_X10_fewest_43 N (fun v1 v2 v3 v4 M => f_X10_fewest_28 N n v1 v2 v3 v4 M) N v1 v2 v3 v4 (0 : Int32) M)
def f_X10_fewest (N : Nat) (v1 : Int32) (v2 : Int32) (M : Mm) : Option ((Int32 ⊕ String) × Mm) :=
  bnx (f_X10_needsCellar N v1 M) (fun r1 M2 => bnx (f_X10_needsWithin N v2 (0 : Int32) (24 : Int32) M2) (fun r4 M5 => lt (((1 : Int32) <<< ((M5 7 0) &&& 31)) - (1 : Int32)) (fun x7 => f_X10_fewest_28 N N v1 v2 x7 (0 : Int32) M5)) (fun r4 M5 => some (.inr r4, M5))) (fun r1 M2 => some (.inr r1, M2))
set_option maxRecDepth 20000 in
set_option maxHeartbeats 4000000 in
theorem ok_X10_fewest_43 {N : Nat} {X : am_X} {l : Launch} (hl : l.stackTraces = false) (hC : am_C X l (am_rm 8 2 12) cX10_fewest yX10_fewest.cls (some .int)) (hnt : am_NT X) {k28 : Int32 → Int32 → Int32 → Int32 → Mm → Option ((Int32 ⊕ String) × Mm)} (hk28 : ∀ (v1 v2 v3 v4 : Int32) (M : Mm) (r : (Int32 ⊕ String)) (M' : Mm), k28 v1 v2 v3 v4 M = some (r, M') → am_V X LY M 2 12 (am_Q X LY 2 12 (am_oi r) M') 28 [some (.ref 0), some (.int v1), some (.int v2), some (.int v3), some (.int v4), none] []) : ∀ (n : Nat) (v1 v2 v3 v4 v5 : Int32) (M : Mm) (r : (Int32 ⊕ String)) (M' : Mm), f_X10_fewest_43 N k28 n v1 v2 v3 v4 v5 M = some (r, M') → am_V X LY M 2 12 (am_Q X LY 2 12 (am_oi r) M') 43 [some (.ref 0), some (.int v1), some (.int v2), some (.int v3), some (.int v4), some (.int v5)] [] := by
  intro n
  induction n with
  | zero => intro v1 v2 v3 v4 v5 M r M' h; cases h
  | succ n ih =>
    intro v1 v2 v3 v4 v5 M r M' h
    simp only [f_X10_fewest_43] at h
    refine v_iload hC dX10_fewest_43 rfl ?_
    refine v_iload_n hC dX10_fewest_45 rfl ?_
    refine v_icmp_gt hC 100 dX10_fewest_46 rfl (fun c9 => ?_) (fun c9 => ?_)
    · rw [if_pos c9] at h
      refine w_iinc hC (v4 + (1 : Int32)) dX10_fewest_100 rfl rfl [some (.ref 0), some (.int v1), some (.int v2), some (.int v3), some (.int (v4 + (1 : Int32))), some (.int v5)] rfl ?_
      refine v_goto (tg := 28) hC dX10_fewest_103 rfl ?_
      refine v_drop [true, true, true, true, true, false] [some (.ref 0), some (.int v1), some (.int v2), some (.int v3), some (.int (v4 + (1 : Int32))), none] rfl ?_
      exact hk28 _ _ _ _ _ _ _ h
    · rw [if_neg c9] at h
      refine v_iload hC dX10_fewest_49 rfl ?_
      obtain ⟨r11, M12, q13, h⟩ := bnd_some h
      refine w_callSi hC [.int v5] [] (ok_J6_bitCount_0f7a4 q13) ms_J6_bitCount_0f7a4 aw_526 rfl (Nat.le_of_ble_eq_true rfl) ⟨by decide, by decide⟩ ⟨by decide, by decide⟩ dX10_fewest_51 ?_
      refine v_iload hC dX10_fewest_54 rfl ?_
      refine v_icmp_eq hC 62 dX10_fewest_56 rfl (fun c14 => ?_) (fun c14 => ?_)
      · rw [if_pos c14] at h
        refine v_aload_n hC dX10_fewest_62 rfl ?_
        obtain ⟨r15, M16, q17, h⟩ := bnd_some h
        refine w_callVv hC [] [] (ok_X10_looksAhead q17) mv_X10_looksAhead aw_393 ly_0 rfl (Nat.le_of_ble_eq_true rfl) ⟨by decide, by decide⟩ ⟨by decide, by decide⟩ dX10_fewest_63 ?_
        refine v_aload_n hC dX10_fewest_66 rfl ?_
        refine v_geta (k := 3) (b := 16) hC cls_X10 ly_0 (by decide) rfl aw_318 rfl dX10_fewest_67 ?_
        refine v_iload_n hC dX10_fewest_70 rfl ?_
        refine v_iload hC dX10_fewest_71 rfl ?_
        refine v_iconst (v := (-1 : Int32)) hC dX10_fewest_73 rfl ?_
        refine v_ixor hC dX10_fewest_74 ?_
        refine v_iand hC dX10_fewest_75 ?_
        obtain ⟨M18, e_M18, h⟩ := lt_some h
        refine w_puti (k := 2) hC cls_X6 ly_16 (by decide) rfl aw_93 rfl rfl ⟨rfl, rfl⟩ dX10_fewest_76 e_M18 ?_
        refine v_aload_n hC dX10_fewest_79 rfl ?_
        refine v_iconst (v := (1 : Int32)) hC dX10_fewest_80 rfl ?_
        refine v_iload_n hC dX10_fewest_81 rfl ?_
        refine v_ishl hC dX10_fewest_82 ?_
        refine v_iload_n hC dX10_fewest_83 rfl ?_
        obtain ⟨r19, M20, q21, h⟩ := bnd_some h
        refine w_callVi hC [.int ((1 : Int32) <<< (v1 &&& 31)), .int v2] [] (ok_X10_untilFree q21) mv_X10_untilFree aw_413 ly_0 rfl (Nat.le_of_ble_eq_true rfl) ⟨by decide, by decide⟩ ⟨by decide, by decide⟩ dX10_fewest_84 ?_
        refine v_iconst (v := (-1 : Int32)) hC dX10_fewest_87 rfl ?_
        refine v_icmp_eq hC 94 dX10_fewest_88 rfl (fun c22 => ?_) (fun c22 => ?_)
        · rw [if_pos c22] at h
          refine w_iinc hC (v5 + (1 : Int32)) dX10_fewest_94 rfl rfl [some (.ref 0), some (.int v1), some (.int v2), some (.int v3), some (.int v4), some (.int (v5 + (1 : Int32)))] rfl ?_
          refine v_goto (tg := 43) hC dX10_fewest_97 rfl ?_
          exact ih _ _ _ _ _ _ _ _ h
        · rw [if_neg c22] at h
          refine v_iload hC dX10_fewest_91 rfl ?_
          cases h
          exact v_iret hC (by decide) (by decide) dX10_fewest_93
      · rw [if_neg c14] at h
        refine v_goto (tg := 94) hC dX10_fewest_59 rfl ?_
        refine w_iinc hC (v5 + (1 : Int32)) dX10_fewest_94 rfl rfl [some (.ref 0), some (.int v1), some (.int v2), some (.int v3), some (.int v4), some (.int (v5 + (1 : Int32)))] rfl ?_
        refine v_goto (tg := 43) hC dX10_fewest_97 rfl ?_
        exact ih _ _ _ _ _ _ _ _ h
set_option maxRecDepth 20000 in
set_option maxHeartbeats 4000000 in
theorem ok_X10_fewest_28 {N : Nat} {X : am_X} {l : Launch} (hl : l.stackTraces = false) (hC : am_C X l (am_rm 8 2 12) cX10_fewest yX10_fewest.cls (some .int)) (hnt : am_NT X) : ∀ (n : Nat) (v1 v2 v3 v4 : Int32) (M : Mm) (r : (Int32 ⊕ String)) (M' : Mm), f_X10_fewest_28 N n v1 v2 v3 v4 M = some (r, M') → am_V X LY M 2 12 (am_Q X LY 2 12 (am_oi r) M') 28 [some (.ref 0), some (.int v1), some (.int v2), some (.int v3), some (.int v4), none] [] := by
  intro n
  induction n with
  | zero => intro v1 v2 v3 v4 M r M' h; cases h
  | succ n ih =>
    intro v1 v2 v3 v4 M r M' h
    simp only [f_X10_fewest_28] at h
    refine v_iload hC dX10_fewest_28 rfl ?_
    refine v_aload_n hC dX10_fewest_30 rfl ?_
    refine v_geta (k := 2) (b := 7) hC cls_X10 ly_0 (by decide) rfl aw_317 rfl dX10_fewest_31 ?_
    refine v_geti (k := 0) hC cls_X6 ly_7 (by decide) rfl aw_87 rfl dX10_fewest_34 ?_
    refine v_icmp_gt hC 106 dX10_fewest_37 rfl (fun c8 => ?_) (fun c8 => ?_)
    · rw [if_pos c8] at h
      refine v_iconst (v := (-1 : Int32)) hC dX10_fewest_106 rfl ?_
      cases h
      exact v_iret hC (by decide) (by decide) dX10_fewest_107
    · rw [if_neg c8] at h
      refine v_iconst (v := (0 : Int32)) hC dX10_fewest_40 rfl ?_
      refine w_istore hC dX10_fewest_41 (ltk rfl) [some (.ref 0), some (.int v1), some (.int v2), some (.int v3), some (.int v4), some (.int (0 : Int32))] rfl ?_
      exact ok_X10_fewest_43 hl hC hnt (fun v1 v2 v3 v4 M r M' h => ih v1 v2 v3 v4 M r M' h) N _ _ _ _ _ _ _ _ h
set_option maxRecDepth 20000 in
set_option maxHeartbeats 4000000 in
theorem ok_X10_fewest {l : Launch} {N : Nat} {v1 v2 : Int32} (hl : l.stackTraces = false) {M : Mm} {r : (Int32 ⊕ String)} {M' : Mm} (h : f_X10_fewest N v1 v2 M = some (r, M')) : am_M l yX10_fewest cX10_fewest 6 (some .int) 8 2 12 LY M [.ref 0, .int v1, .int v2] (am_oi r) M' := by
  unfold f_X10_fewest at h
  refine am_intro (by decide) (by simp [Value.category]) (Nat.le_of_ble_eq_true rfl) (fun X hC hnt => ?_)
  refine am_start (L := [some (.ref 0), some (.int v1), some (.int v2), none, none, none]) rfl ?_
  refine v_aload_n hC dX10_fewest_0 rfl ?_
  refine v_iload_n hC dX10_fewest_1 rfl ?_
  rcases bnx_some h with ⟨r1, M2, q3, h⟩ | ⟨r1, M2, q3, h⟩
  · refine w_callVv hC [.int v1] [] (ok_X10_needsCellar hl q3) mv_X10_needsCellar aw_912 ly_0 rfl (Nat.le_of_ble_eq_true rfl) ⟨by decide, by decide⟩ ⟨by decide, by decide⟩ dX10_fewest_2 ?_
    refine v_aload_n hC dX10_fewest_5 rfl ?_
    refine v_iload_n hC dX10_fewest_6 rfl ?_
    refine v_iconst (v := (0 : Int32)) hC dX10_fewest_7 rfl ?_
    refine v_bipush (v := (24 : Int32)) hC dX10_fewest_8 rfl ?_
    rcases bnx_some h with ⟨r4, M5, q6, h⟩ | ⟨r4, M5, q6, h⟩
    · refine w_callVv hC [.int v2, .int (0 : Int32), .int (24 : Int32)] [] (ok_X10_needsWithin hl q6) mv_X10_needsWithin aw_969 ly_0 rfl (Nat.le_of_ble_eq_true rfl) ⟨by decide, by decide⟩ ⟨by decide, by decide⟩ dX10_fewest_10 ?_
      refine v_iconst (v := (1 : Int32)) hC dX10_fewest_13 rfl ?_
      refine v_aload_n hC dX10_fewest_14 rfl ?_
      refine v_geta (k := 2) (b := 7) hC cls_X10 ly_0 (by decide) rfl aw_317 rfl dX10_fewest_15 ?_
      refine v_geti (k := 0) hC cls_X6 ly_7 (by decide) rfl aw_87 rfl dX10_fewest_18 ?_
      refine v_ishl hC dX10_fewest_21 ?_
      refine v_iconst (v := (1 : Int32)) hC dX10_fewest_22 rfl ?_
      refine v_isub hC dX10_fewest_23 ?_
      obtain ⟨x7, e_x7, h⟩ := lt_some h
      refine v_nam e_x7 ?_
      refine w_istore_n hC dX10_fewest_24 (ltk rfl) [some (.ref 0), some (.int v1), some (.int v2), some (.int x7), none, none] rfl ?_
      refine v_iconst (v := (0 : Int32)) hC dX10_fewest_25 rfl ?_
      refine w_istore hC dX10_fewest_26 (ltk rfl) [some (.ref 0), some (.int v1), some (.int v2), some (.int x7), some (.int (0 : Int32)), none] rfl ?_
      exact ok_X10_fewest_28 hl hC hnt N _ _ _ _ _ _ _ h
    · cases h
      exact w_callVx hC hnt [.int v2, .int (0 : Int32), .int (24 : Int32)] [] (ok_X10_needsWithin hl q6) mv_X10_needsWithin aw_969 ly_0 rfl (Nat.le_of_ble_eq_true rfl) ⟨by decide, by decide⟩ ⟨by decide, by decide⟩ dX10_fewest_10 (by decide) (by decide)
  · cases h
    exact w_callVx hC hnt [.int v1] [] (ok_X10_needsCellar hl q3) mv_X10_needsCellar aw_912 ly_0 rfl (Nat.le_of_ble_eq_true rfl) ⟨by decide, by decide⟩ ⟨by decide, by decide⟩ dX10_fewest_2 (by decide) (by decide)
def f_X10_asTold_2 (N : Nat) : Nat → Int32 → Int32 → Mm → Option (Int32 × Mm)
  | 0, _, _, _ => none
  | n + 1, v1, v2, M => (if (M 0 16) ≤ (v2 + (2 : Int32)) then some ((1 : Int32), M) else grd (inb v2 12) (lt (M 61 (v2).toNatClampNeg) (fun x3 => grd (inb (v2 + (1 : Int32)) 12) ((if (M 61 ((v2 + (1 : Int32))).toNatClampNeg) = v1 then (if x3 < (0 : Int32) then f_X10_asTold_2 N n v1 (v2 + (3 : Int32)) M else (if (5 : Int32) ≤ x3 then f_X10_asTold_2 N n v1 (v2 + (3 : Int32)) M else grd (inb x3 5) (grd (inb (v2 + (2 : Int32)) 12) ((if (M 22 (x3).toNatClampNeg) = (M 61 ((v2 + (2 : Int32))).toNatClampNeg) then f_X10_asTold_2 N n v1 (v2 + (3 : Int32)) M else some ((0 : Int32), M)))))) else f_X10_asTold_2 N n v1 (v2 + (3 : Int32)) M)))))
def f_X10_asTold (N : Nat) (v1 : Int32) (M : Mm) : Option (Int32 × Mm) :=
  f_X10_asTold_2 N N v1 (0 : Int32) M
set_option maxRecDepth 20000 in
set_option maxHeartbeats 4000000 in
theorem ok_X10_asTold_2 {N : Nat} {X : am_X} {l : Launch} (hC : am_C X l (am_rm 1 0 0) cX10_asTold yX10_asTold.cls (some .boolean)) (hnt : am_NT X) : ∀ (n : Nat) (v1 v2 : Int32) (M : Mm) (r : Int32) (M' : Mm), f_X10_asTold_2 N n v1 v2 M = some (r, M') → am_V X LY M 0 0 (am_Q X LY 0 0 (.inl (some (.int r))) M') 2 [some (.ref 0), some (.int v1), some (.int v2), none] [] := by
  intro n
  induction n with
  | zero => intro v1 v2 M r M' h; cases h
  | succ n ih =>
    intro v1 v2 M r M' h
    simp only [f_X10_asTold_2] at h
    refine v_iload_n hC dX10_asTold_2 rfl ?_
    refine v_iconst (v := (2 : Int32)) hC dX10_asTold_3 rfl ?_
    refine v_iadd hC dX10_asTold_4 ?_
    refine v_aload_n hC dX10_asTold_5 rfl ?_
    refine v_geti (k := 16) hC cls_X10 ly_0 (by decide) rfl aw_331 rfl dX10_asTold_6 ?_
    refine v_icmp_ge hC 68 dX10_asTold_9 rfl (fun c1 => ?_) (fun c1 => ?_)
    · rw [if_pos c1] at h
      refine v_iconst (v := (1 : Int32)) hC dX10_asTold_68 rfl ?_
      cases h
      exact v_zret hC (by decide) (by decide) (by decide) dX10_asTold_69
    · rw [if_neg c1] at h
      refine v_aload_n hC dX10_asTold_12 rfl ?_
      refine v_geta (k := 15) (b := 61) hC cls_X10 ly_0 (by decide) rfl aw_330 rfl dX10_asTold_13 ?_
      refine v_iload_n hC dX10_asTold_16 rfl ?_
      obtain ⟨g2, h⟩ := grd_some h
      refine v_iald hC ly_61 (inb_in g2) dX10_asTold_17 ?_
      obtain ⟨x3, e_x3, h⟩ := lt_some h
      refine v_nam e_x3 ?_
      refine w_istore_n hC dX10_asTold_18 (ltk rfl) [some (.ref 0), some (.int v1), some (.int v2), some (.int x3)] rfl ?_
      refine v_aload_n hC dX10_asTold_19 rfl ?_
      refine v_geta (k := 15) (b := 61) hC cls_X10 ly_0 (by decide) rfl aw_330 rfl dX10_asTold_20 ?_
      refine v_iload_n hC dX10_asTold_23 rfl ?_
      refine v_iconst (v := (1 : Int32)) hC dX10_asTold_24 rfl ?_
      refine v_iadd hC dX10_asTold_25 ?_
      obtain ⟨g4, h⟩ := grd_some h
      refine v_iald hC ly_61 (inb_in g4) dX10_asTold_26 ?_
      refine v_iload_n hC dX10_asTold_27 rfl ?_
      refine v_icmp_ne hC 62 dX10_asTold_28 rfl (fun c5 => ?_) (fun c5 => ?_)
      · rw [if_neg c5] at h
        refine w_iinc hC (v2 + (3 : Int32)) dX10_asTold_62 rfl rfl [some (.ref 0), some (.int v1), some (.int (v2 + (3 : Int32))), some (.int x3)] rfl ?_
        refine v_goto (tg := 2) hC dX10_asTold_65 rfl ?_
        refine v_drop [true, true, true, false] [some (.ref 0), some (.int v1), some (.int (v2 + (3 : Int32))), none] rfl ?_
        exact ih _ _ _ _ _ h
      · rw [if_pos c5] at h
        refine v_iload_n hC dX10_asTold_31 rfl ?_
        refine v_if_lt hC 62 dX10_asTold_32 rfl (fun c7 => ?_) (fun c7 => ?_)
        · rw [if_pos c7] at h
          refine w_iinc hC (v2 + (3 : Int32)) dX10_asTold_62 rfl rfl [some (.ref 0), some (.int v1), some (.int (v2 + (3 : Int32))), some (.int x3)] rfl ?_
          refine v_goto (tg := 2) hC dX10_asTold_65 rfl ?_
          refine v_drop [true, true, true, false] [some (.ref 0), some (.int v1), some (.int (v2 + (3 : Int32))), none] rfl ?_
          exact ih _ _ _ _ _ h
        · rw [if_neg c7] at h
          refine v_iload_n hC dX10_asTold_35 rfl ?_
          refine v_iconst (v := (5 : Int32)) hC dX10_asTold_36 rfl ?_
          refine v_icmp_ge hC 62 dX10_asTold_37 rfl (fun c9 => ?_) (fun c9 => ?_)
          · rw [if_pos c9] at h
            refine w_iinc hC (v2 + (3 : Int32)) dX10_asTold_62 rfl rfl [some (.ref 0), some (.int v1), some (.int (v2 + (3 : Int32))), some (.int x3)] rfl ?_
            refine v_goto (tg := 2) hC dX10_asTold_65 rfl ?_
            refine v_drop [true, true, true, false] [some (.ref 0), some (.int v1), some (.int (v2 + (3 : Int32))), none] rfl ?_
            exact ih _ _ _ _ _ h
          · rw [if_neg c9] at h
            refine v_aload_n hC dX10_asTold_40 rfl ?_
            refine v_geta (k := 3) (b := 16) hC cls_X10 ly_0 (by decide) rfl aw_318 rfl dX10_asTold_41 ?_
            refine v_geta (k := 16) (b := 22) hC cls_X6 ly_16 (by decide) rfl aw_135 rfl dX10_asTold_44 ?_
            refine v_iload_n hC dX10_asTold_47 rfl ?_
            obtain ⟨g11, h⟩ := grd_some h
            refine v_iald hC ly_22 (inb_in g11) dX10_asTold_48 ?_
            refine v_aload_n hC dX10_asTold_49 rfl ?_
            refine v_geta (k := 15) (b := 61) hC cls_X10 ly_0 (by decide) rfl aw_330 rfl dX10_asTold_50 ?_
            refine v_iload_n hC dX10_asTold_53 rfl ?_
            refine v_iconst (v := (2 : Int32)) hC dX10_asTold_54 rfl ?_
            refine v_iadd hC dX10_asTold_55 ?_
            obtain ⟨g12, h⟩ := grd_some h
            refine v_iald hC ly_61 (inb_in g12) dX10_asTold_56 ?_
            refine v_icmp_eq hC 62 dX10_asTold_57 rfl (fun c13 => ?_) (fun c13 => ?_)
            · rw [if_pos c13] at h
              refine w_iinc hC (v2 + (3 : Int32)) dX10_asTold_62 rfl rfl [some (.ref 0), some (.int v1), some (.int (v2 + (3 : Int32))), some (.int x3)] rfl ?_
              refine v_goto (tg := 2) hC dX10_asTold_65 rfl ?_
              refine v_drop [true, true, true, false] [some (.ref 0), some (.int v1), some (.int (v2 + (3 : Int32))), none] rfl ?_
              exact ih _ _ _ _ _ h
            · rw [if_neg c13] at h
              refine v_iconst (v := (0 : Int32)) hC dX10_asTold_60 rfl ?_
              cases h
              exact v_zret hC (by decide) (by decide) (by decide) dX10_asTold_61
set_option maxRecDepth 20000 in
set_option maxHeartbeats 4000000 in
theorem ok_X10_asTold {l : Launch} {N : Nat} {v1 : Int32} {M : Mm} {r : Int32} {M' : Mm} (h : f_X10_asTold N v1 M = some (r, M')) : am_M l yX10_asTold cX10_asTold 4 (some .boolean) 1 0 0 LY M [.ref 0, .int v1] (.inl (some (.int r))) M' := by
  unfold f_X10_asTold at h
  refine am_intro (by decide) (by simp [Value.category]) (Nat.le_of_ble_eq_true rfl) (fun X hC hnt => ?_)
  refine am_start (L := [some (.ref 0), some (.int v1), none, none]) rfl ?_
  refine v_iconst (v := (0 : Int32)) hC dX10_asTold_0 rfl ?_
  refine w_istore_n hC dX10_asTold_1 (ltk rfl) [some (.ref 0), some (.int v1), some (.int (0 : Int32)), none] rfl ?_
  exact ok_X10_asTold_2 hC hnt N _ _ _ _ _ h
def f_X10_keepsParted_13 (N : Nat) : Nat → Int32 → Int32 → Mm → Option (Int32 × Mm)
  | 0, _, _, _ => none
  | n + 1, v1, v2, M => (if (M 16 1) ≤ v2 then some (0, M) else grd (inb v2 5) (grd (inb ((v1 * (5 : Int32)) + v2) 185) (lt (wr M 62 (((v1 * (5 : Int32)) + v2)).toNatClampNeg (M 22 (v2).toNatClampNeg)) (fun M6 => f_X10_keepsParted_13 N n v1 (v2 + (1 : Int32)) M6))))
def f_X10_keepsParted (N : Nat) (v1 : Int32) (M : Mm) : Option (Int32 × Mm) :=
  (if v1 < (0 : Int32) then some (0, M) else (if v1 < (37 : Int32) then f_X10_keepsParted_13 N N v1 (0 : Int32) M else some (0, M)))
set_option maxRecDepth 20000 in
set_option maxHeartbeats 4000000 in
theorem ok_X10_keepsParted_13 {N : Nat} {X : am_X} {l : Launch} (hC : am_C X l (am_rm 1 0 0) cX10_keepsParted yX10_keepsParted.cls none) (hnt : am_NT X) : ∀ (n : Nat) (v1 v2 : Int32) (M : Mm) (r : Int32) (M' : Mm), f_X10_keepsParted_13 N n v1 v2 M = some (r, M') → am_V X LY M 0 0 (am_Q X LY 0 0 (.inl none) M') 13 [some (.ref 0), some (.int v1), some (.int v2)] [] := by
  intro n
  induction n with
  | zero => intro v1 v2 M r M' h; cases h
  | succ n ih =>
    intro v1 v2 M r M' h
    simp only [f_X10_keepsParted_13] at h
    refine v_iload_n hC dX10_keepsParted_13 rfl ?_
    refine v_aload_n hC dX10_keepsParted_14 rfl ?_
    refine v_geta (k := 3) (b := 16) hC cls_X10 ly_0 (by decide) rfl aw_318 rfl dX10_keepsParted_15 ?_
    refine v_geti (k := 1) hC cls_X6 ly_16 (by decide) rfl aw_91 rfl dX10_keepsParted_18 ?_
    refine v_icmp_ge hC 49 dX10_keepsParted_21 rfl (fun c3 => ?_) (fun c3 => ?_)
    · rw [if_pos c3] at h
      cases h
      exact v_vret hC (by decide) (by decide) dX10_keepsParted_49
    · rw [if_neg c3] at h
      refine v_aload_n hC dX10_keepsParted_24 rfl ?_
      refine v_geta (k := 17) (b := 62) hC cls_X10 ly_0 (by decide) rfl aw_332 rfl dX10_keepsParted_25 ?_
      refine v_iload_n hC dX10_keepsParted_28 rfl ?_
      refine v_iconst (v := (5 : Int32)) hC dX10_keepsParted_29 rfl ?_
      refine v_imul hC dX10_keepsParted_30 ?_
      refine v_iload_n hC dX10_keepsParted_31 rfl ?_
      refine v_iadd hC dX10_keepsParted_32 ?_
      refine v_aload_n hC dX10_keepsParted_33 rfl ?_
      refine v_geta (k := 3) (b := 16) hC cls_X10 ly_0 (by decide) rfl aw_318 rfl dX10_keepsParted_34 ?_
      refine v_geta (k := 16) (b := 22) hC cls_X6 ly_16 (by decide) rfl aw_135 rfl dX10_keepsParted_37 ?_
      refine v_iload_n hC dX10_keepsParted_40 rfl ?_
      obtain ⟨g4, h⟩ := grd_some h
      refine v_iald hC ly_22 (inb_in g4) dX10_keepsParted_41 ?_
      obtain ⟨g5, h⟩ := grd_some h
      obtain ⟨M6, e_M6, h⟩ := lt_some h
      refine w_iast hC ly_62 (inb_in g5) dX10_keepsParted_42 e_M6 ?_
      refine w_iinc hC (v2 + (1 : Int32)) dX10_keepsParted_43 rfl rfl [some (.ref 0), some (.int v1), some (.int (v2 + (1 : Int32)))] rfl ?_
      refine v_goto (tg := 13) hC dX10_keepsParted_46 rfl ?_
      exact ih _ _ _ _ _ h
set_option maxRecDepth 20000 in
set_option maxHeartbeats 4000000 in
theorem ok_X10_keepsParted {l : Launch} {N : Nat} {v1 : Int32} {M : Mm} {r : Int32} {M' : Mm} (h : f_X10_keepsParted N v1 M = some (r, M')) : am_M l yX10_keepsParted cX10_keepsParted 3 none 1 0 0 LY M [.ref 0, .int v1] (.inl none) M' := by
  unfold f_X10_keepsParted at h
  refine am_intro (by decide) (by simp [Value.category]) (Nat.le_of_ble_eq_true rfl) (fun X hC hnt => ?_)
  refine am_start (L := [some (.ref 0), some (.int v1), none]) rfl ?_
  refine v_iload_n hC dX10_keepsParted_0 rfl ?_
  refine v_if_lt hC 10 dX10_keepsParted_1 rfl (fun c1 => ?_) (fun c1 => ?_)
  · rw [if_pos c1] at h
    cases h
    exact v_vret hC (by decide) (by decide) dX10_keepsParted_10
  · rw [if_neg c1] at h
    refine v_iload_n hC dX10_keepsParted_4 rfl ?_
    refine v_bipush (v := (37 : Int32)) hC dX10_keepsParted_5 rfl ?_
    refine v_icmp_lt hC 11 dX10_keepsParted_7 rfl (fun c2 => ?_) (fun c2 => ?_)
    · rw [if_pos c2] at h
      refine v_iconst (v := (0 : Int32)) hC dX10_keepsParted_11 rfl ?_
      refine w_istore_n hC dX10_keepsParted_12 (ltk rfl) [some (.ref 0), some (.int v1), some (.int (0 : Int32))] rfl ?_
      exact ok_X10_keepsParted_13 hC hnt N _ _ _ _ _ h
    · rw [if_neg c2] at h
      cases h
      exact v_vret hC (by decide) (by decide) dX10_keepsParted_10
def f_X10_latestTold_4 (N : Nat) : Nat → Int32 → Int32 → Mm → Option (Int32 × Mm)
  | 0, _, _, _ => none
  | n + 1, v1, v2, M => (if (M 0 16) ≤ (v2 + (2 : Int32)) then some (v1, M) else grd (inb (v2 + (1 : Int32)) 12) (lt (if v1 < (M 61 ((v2 + (1 : Int32))).toNatClampNeg) then (M 61 ((v2 + (1 : Int32))).toNatClampNeg) else v1) (fun x3 => f_X10_latestTold_4 N n x3 (v2 + (3 : Int32)) M)))
def f_X10_latestTold (N : Nat) (M : Mm) : Option (Int32 × Mm) :=
  f_X10_latestTold_4 N N (0 : Int32) (0 : Int32) M
set_option maxRecDepth 20000 in
set_option maxHeartbeats 4000000 in
theorem ok_X10_latestTold_4 {N : Nat} {X : am_X} {l : Launch} (hC : am_C X l (am_rm 1 0 0) cX10_latestTold yX10_latestTold.cls (some .int)) (hnt : am_NT X) : ∀ (n : Nat) (v1 v2 : Int32) (M : Mm) (r : Int32) (M' : Mm), f_X10_latestTold_4 N n v1 v2 M = some (r, M') → am_V X LY M 0 0 (am_Q X LY 0 0 (.inl (some (.int r))) M') 4 [some (.ref 0), some (.int v1), some (.int v2)] [] := by
  intro n
  induction n with
  | zero => intro v1 v2 M r M' h; cases h
  | succ n ih =>
    intro v1 v2 M r M' h
    simp only [f_X10_latestTold_4] at h
    refine v_iload_n hC dX10_latestTold_4 rfl ?_
    refine v_iconst (v := (2 : Int32)) hC dX10_latestTold_5 rfl ?_
    refine v_iadd hC dX10_latestTold_6 ?_
    refine v_aload_n hC dX10_latestTold_7 rfl ?_
    refine v_geti (k := 16) hC cls_X10 ly_0 (by decide) rfl aw_331 rfl dX10_latestTold_8 ?_
    refine v_icmp_ge hC 33 dX10_latestTold_11 rfl (fun c1 => ?_) (fun c1 => ?_)
    · rw [if_pos c1] at h
      refine v_iload_n hC dX10_latestTold_33 rfl ?_
      cases h
      exact v_iret hC (by decide) (by decide) dX10_latestTold_34
    · rw [if_neg c1] at h
      refine v_iload_n hC dX10_latestTold_14 rfl ?_
      refine v_aload_n hC dX10_latestTold_15 rfl ?_
      refine v_geta (k := 15) (b := 61) hC cls_X10 ly_0 (by decide) rfl aw_330 rfl dX10_latestTold_16 ?_
      refine v_iload_n hC dX10_latestTold_19 rfl ?_
      refine v_iconst (v := (1 : Int32)) hC dX10_latestTold_20 rfl ?_
      refine v_iadd hC dX10_latestTold_21 ?_
      obtain ⟨g2, h⟩ := grd_some h
      refine v_iald hC ly_61 (inb_in g2) dX10_latestTold_22 ?_
      refine v_mmax hC aw_1094 wm_max (Nat.le_of_ble_eq_true rfl) (Nat.le_of_ble_eq_true rfl) (Nat.le_of_ble_eq_true rfl) (Nat.le_of_ble_eq_true rfl) dX10_latestTold_23 ?_
      obtain ⟨x3, e_x3, h⟩ := lt_some h
      refine v_nam e_x3 ?_
      refine w_istore_n hC dX10_latestTold_26 (ltk rfl) [some (.ref 0), some (.int x3), some (.int v2)] rfl ?_
      refine w_iinc hC (v2 + (3 : Int32)) dX10_latestTold_27 rfl rfl [some (.ref 0), some (.int x3), some (.int (v2 + (3 : Int32)))] rfl ?_
      refine v_goto (tg := 4) hC dX10_latestTold_30 rfl ?_
      exact ih _ _ _ _ _ h
set_option maxRecDepth 20000 in
set_option maxHeartbeats 4000000 in
theorem ok_X10_latestTold {l : Launch} {N : Nat} {M : Mm} {r : Int32} {M' : Mm} (h : f_X10_latestTold N M = some (r, M')) : am_M l yX10_latestTold cX10_latestTold 3 (some .int) 1 0 0 LY M [.ref 0] (.inl (some (.int r))) M' := by
  unfold f_X10_latestTold at h
  refine am_intro (by decide) (by simp [Value.category]) (Nat.le_of_ble_eq_true rfl) (fun X hC hnt => ?_)
  refine am_start (L := [some (.ref 0), none, none]) rfl ?_
  refine v_iconst (v := (0 : Int32)) hC dX10_latestTold_0 rfl ?_
  refine w_istore_n hC dX10_latestTold_1 (ltk rfl) [some (.ref 0), some (.int (0 : Int32)), none] rfl ?_
  refine v_iconst (v := (0 : Int32)) hC dX10_latestTold_2 rfl ?_
  refine w_istore_n hC dX10_latestTold_3 (ltk rfl) [some (.ref 0), some (.int (0 : Int32)), some (.int (0 : Int32))] rfl ?_
  exact ok_X10_latestTold_4 hC hnt N _ _ _ _ _ h
def f_X10_fits_54 (N : Nat) (k25 : Int32 → Int32 → Int32 → Int32 → Mm → Option (Int32 × Mm)) (v2 : Int32) (v3 : Int32) (v4 : Int32) (v5 : Int32) (M : Mm) : Option (Int32 × Mm) :=
  (if v4 ≤ v5 then k25 v2 v3 v4 (v5 + (1 : Int32)) M else bnd (f_X5_goesAhead N 16 25 M) (fun r19 M20 => k25 v2 v3 v4 (v5 + (1 : Int32)) M20))
def f_X10_fits_25 (N : Nat) : Nat → Int32 → Int32 → Int32 → Int32 → Mm → Option (Int32 × Mm)
  | 0, _, _, _, _, _ => none
  | n + 1, v2, v3, v4, v5, M => (if v4 < v5 then some ((1 : Int32), M) else bnd (f_X10_asTold N v5 M) (fun r12 M13 => (if r12 = (0 : Int32) then some ((0 : Int32), M13) else (if v5 = v2 then bnd (f_X10_keepsParted N v3 M13) (fun r23 M24 => f_X10_fits_54 N (fun v2 v3 v4 v5 M => f_X10_fits_25 N n v2 v3 v4 v5 M) v2 v3 v4 v5 M24) else f_X10_fits_54 N (fun v2 v3 v4 v5 M => f_X10_fits_25 N n v2 v3 v4 v5 M) v2 v3 v4 v5 M13))))
def f_X10_fits (N : Nat) (v1 : Int32) (v2 : Int32) (v3 : Int32) (M : Mm) : Option (Int32 × Mm) :=
  bnd (f_X10_looksAhead N M) (fun r1 M2 => bnd (f_X5_opens N v1 M2) (fun r4 M5 => bnd (f_X10_latestTold N M5) (fun r7 M8 => lt (if v2 < r7 then r7 else v2) (fun x10 => f_X10_fits_25 N N v2 v3 x10 (0 : Int32) M8))))
set_option maxRecDepth 20000 in
set_option maxHeartbeats 4000000 in
theorem ok_X10_fits_54 {N : Nat} {X : am_X} {l : Launch} (hC : am_C X l (am_rm 7 0 0) cX10_fits yX10_fits.cls (some .boolean)) (hnt : am_NT X) {k25 : Int32 → Int32 → Int32 → Int32 → Mm → Option (Int32 × Mm)} (hk25 : ∀ (v2 v3 v4 v5 : Int32) (M : Mm) (r : Int32) (M' : Mm), k25 v2 v3 v4 v5 M = some (r, M') → am_V X LY M 0 0 (am_Q X LY 0 0 (.inl (some (.int r))) M') 25 [some (.ref 0), none, some (.int v2), some (.int v3), some (.int v4), some (.int v5)] []) {v2 v3 v4 v5 : Int32} {M : Mm} {r : Int32} {M' : Mm} (h : f_X10_fits_54 N k25 v2 v3 v4 v5 M = some (r, M')) : am_V X LY M 0 0 (am_Q X LY 0 0 (.inl (some (.int r))) M') 54 [some (.ref 0), none, some (.int v2), some (.int v3), some (.int v4), some (.int v5)] [] := by
  unfold f_X10_fits_54 at h
  refine v_iload hC dX10_fits_54 rfl ?_
  refine v_iload hC dX10_fits_56 rfl ?_
  refine v_icmp_ge hC 77 dX10_fits_58 rfl (fun c17 => ?_) (fun c17 => ?_)
  · rw [if_pos c17] at h
    refine w_iinc hC (v5 + (1 : Int32)) dX10_fits_77 rfl rfl [some (.ref 0), none, some (.int v2), some (.int v3), some (.int v4), some (.int (v5 + (1 : Int32)))] rfl ?_
    refine v_goto (tg := 25) hC dX10_fits_80 rfl ?_
    exact hk25 _ _ _ _ _ _ _ h
  · rw [if_neg c17] at h
    refine v_aload_n hC dX10_fits_61 rfl ?_
    refine v_geta (k := 7) (b := 39) hC cls_X10 ly_0 (by decide) rfl aw_322 rfl dX10_fits_62 ?_
    refine v_aload_n hC dX10_fits_65 rfl ?_
    refine v_geta (k := 3) (b := 16) hC cls_X10 ly_0 (by decide) rfl aw_318 rfl dX10_fits_66 ?_
    refine v_aload_n hC dX10_fits_69 rfl ?_
    refine v_geta (k := 4) (b := 25) hC cls_X10 ly_0 (by decide) rfl aw_319 rfl dX10_fits_70 ?_
    obtain ⟨r19, M20, q21, h⟩ := bnd_some h
    refine w_callVi hC [.ref 16, .ref 25] [] (ok_X5_goesAhead kTable_16 kLaw_25 q21) mv_X5_goesAhead aw_417 ly_39 rfl (Nat.le_of_ble_eq_true rfl) ⟨by decide, by decide⟩ ⟨by decide, by decide⟩ dX10_fits_73 ?_
    refine v_pop hC dX10_fits_76 rfl ?_
    refine w_iinc hC (v5 + (1 : Int32)) dX10_fits_77 rfl rfl [some (.ref 0), none, some (.int v2), some (.int v3), some (.int v4), some (.int (v5 + (1 : Int32)))] rfl ?_
    refine v_goto (tg := 25) hC dX10_fits_80 rfl ?_
    exact hk25 _ _ _ _ _ _ _ h
set_option maxRecDepth 20000 in
set_option maxHeartbeats 4000000 in
theorem ok_X10_fits_25 {N : Nat} {X : am_X} {l : Launch} (hC : am_C X l (am_rm 7 0 0) cX10_fits yX10_fits.cls (some .boolean)) (hnt : am_NT X) : ∀ (n : Nat) (v2 v3 v4 v5 : Int32) (M : Mm) (r : Int32) (M' : Mm), f_X10_fits_25 N n v2 v3 v4 v5 M = some (r, M') → am_V X LY M 0 0 (am_Q X LY 0 0 (.inl (some (.int r))) M') 25 [some (.ref 0), none, some (.int v2), some (.int v3), some (.int v4), some (.int v5)] [] := by
  intro n
  induction n with
  | zero => intro v2 v3 v4 v5 M r M' h; cases h
  | succ n ih =>
    intro v2 v3 v4 v5 M r M' h
    simp only [f_X10_fits_25] at h
    refine v_iload hC dX10_fits_25 rfl ?_
    refine v_iload hC dX10_fits_27 rfl ?_
    refine v_icmp_gt hC 83 dX10_fits_29 rfl (fun c11 => ?_) (fun c11 => ?_)
    · rw [if_pos c11] at h
      refine v_iconst (v := (1 : Int32)) hC dX10_fits_83 rfl ?_
      cases h
      exact v_zret hC (by decide) (by decide) (by decide) dX10_fits_84
    · rw [if_neg c11] at h
      refine v_aload_n hC dX10_fits_32 rfl ?_
      refine v_iload hC dX10_fits_33 rfl ?_
      obtain ⟨r12, M13, q14, h⟩ := bnd_some h
      refine w_callVi hC [.int v5] [] (ok_X10_asTold q14) mv_X10_asTold aw_1095 ly_0 rfl (Nat.le_of_ble_eq_true rfl) ⟨by decide, by decide⟩ ⟨by decide, by decide⟩ dX10_fits_35 ?_
      refine v_if_ne hC 43 dX10_fits_38 rfl (fun c15 => ?_) (fun c15 => ?_)
      · rw [if_neg c15] at h
        refine v_iload hC dX10_fits_43 rfl ?_
        refine v_iload_n hC dX10_fits_45 rfl ?_
        refine v_icmp_ne hC 54 dX10_fits_46 rfl (fun c16 => ?_) (fun c16 => ?_)
        · rw [if_neg c16] at h
          exact ok_X10_fits_54 hC hnt (fun v2 v3 v4 v5 M r M' h => ih v2 v3 v4 v5 M r M' h) h
        · rw [if_pos c16] at h
          refine v_aload_n hC dX10_fits_49 rfl ?_
          refine v_iload_n hC dX10_fits_50 rfl ?_
          obtain ⟨r23, M24, q25, h⟩ := bnd_some h
          refine w_callVv hC [.int v3] [] (ok_X10_keepsParted q25) mv_X10_keepsParted aw_1099 ly_0 rfl (Nat.le_of_ble_eq_true rfl) ⟨by decide, by decide⟩ ⟨by decide, by decide⟩ dX10_fits_51 ?_
          exact ok_X10_fits_54 hC hnt (fun v2 v3 v4 v5 M r M' h => ih v2 v3 v4 v5 M r M' h) h
      · rw [if_pos c15] at h
        refine v_iconst (v := (0 : Int32)) hC dX10_fits_41 rfl ?_
        cases h
        exact v_zret hC (by decide) (by decide) (by decide) dX10_fits_42
set_option maxRecDepth 20000 in
set_option maxHeartbeats 4000000 in
theorem ok_X10_fits {l : Launch} {N : Nat} {v1 v2 v3 : Int32} {M : Mm} {r : Int32} {M' : Mm} (h : f_X10_fits N v1 v2 v3 M = some (r, M')) : am_M l yX10_fits cX10_fits 6 (some .boolean) 7 0 0 LY M [.ref 0, .int v1, .int v2, .int v3] (.inl (some (.int r))) M' := by
  unfold f_X10_fits at h
  refine am_intro (by decide) (by simp [Value.category]) (Nat.le_of_ble_eq_true rfl) (fun X hC hnt => ?_)
  refine am_start (L := [some (.ref 0), some (.int v1), some (.int v2), some (.int v3), none, none]) rfl ?_
  refine v_aload_n hC dX10_fits_0 rfl ?_
  obtain ⟨r1, M2, q3, h⟩ := bnd_some h
  refine w_callVv hC [] [] (ok_X10_looksAhead q3) mv_X10_looksAhead aw_393 ly_0 rfl (Nat.le_of_ble_eq_true rfl) ⟨by decide, by decide⟩ ⟨by decide, by decide⟩ dX10_fits_1 ?_
  refine v_aload_n hC dX10_fits_4 rfl ?_
  refine v_geta (k := 7) (b := 39) hC cls_X10 ly_0 (by decide) rfl aw_322 rfl dX10_fits_5 ?_
  refine v_iload_n hC dX10_fits_8 rfl ?_
  obtain ⟨r4, M5, q6, h⟩ := bnd_some h
  refine w_callVv hC [.int v1] [] (ok_X5_opens q6) mv_X5_opens aw_404 ly_39 rfl (Nat.le_of_ble_eq_true rfl) ⟨by decide, by decide⟩ ⟨by decide, by decide⟩ dX10_fits_9 ?_
  refine v_iload_n hC dX10_fits_12 rfl ?_
  refine v_aload_n hC dX10_fits_13 rfl ?_
  obtain ⟨r7, M8, q9, h⟩ := bnd_some h
  refine w_callVi hC [] [.int v2] (ok_X10_latestTold q9) mv_X10_latestTold aw_1090 ly_0 rfl (Nat.le_of_ble_eq_true rfl) ⟨by decide, by decide⟩ ⟨by decide, by decide⟩ dX10_fits_14 ?_
  refine v_mmax hC aw_1094 wm_max (Nat.le_of_ble_eq_true rfl) (Nat.le_of_ble_eq_true rfl) (Nat.le_of_ble_eq_true rfl) (Nat.le_of_ble_eq_true rfl) dX10_fits_17 ?_
  obtain ⟨x10, e_x10, h⟩ := lt_some h
  refine v_nam e_x10 ?_
  refine w_istore hC dX10_fits_20 (ltk rfl) [some (.ref 0), some (.int v1), some (.int v2), some (.int v3), some (.int x10), none] rfl ?_
  refine v_iconst (v := (0 : Int32)) hC dX10_fits_22 rfl ?_
  refine w_istore hC dX10_fits_23 (ltk rfl) [some (.ref 0), some (.int v1), some (.int v2), some (.int v3), some (.int x10), some (.int (0 : Int32))] rfl ?_
  refine v_drop [true, false, true, true, true, true] [some (.ref 0), none, some (.int v2), some (.int v3), some (.int x10), some (.int (0 : Int32))] rfl ?_
  exact ok_X10_fits_25 hC hnt N _ _ _ _ _ _ _ h
