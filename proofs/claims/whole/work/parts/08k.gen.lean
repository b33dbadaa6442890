def f_X11_oneCourse_105 (N : Nat) (v2 : Int32) (M : Mm) : Option (Int32 × Mm) :=
  bnd (f_X11_passesOn N M) (fun r14 M15 => some (v2, M15))
def f_X11_oneCourse_80 (N : Nat) : Nat → Int32 → Int32 → Int32 → Mm → Option (Int32 × Mm)
  | 0, _, _, _, _ => none
  | n + 1, v2, v3, v4, M => bnd (f_X11_cellars N M) (fun r10 M11 => (if r10 ≤ v4 then f_X11_oneCourse_105 N v2 M11 else (if v3 = (0 : Int32) then f_X11_oneCourse_105 N v2 M11 else bnd (f_X11_dampens N v4 M11) (fun r18 M19 => f_X11_oneCourse_80 N n v2 v3 (v4 + (1 : Int32)) M19))))
def f_X11_oneCourse_75 (N : Nat) (v2 : Int32) (M : Mm) : Option (Int32 × Mm) :=
  f_X11_oneCourse_80 N N v2 (0 : Int32) (0 : Int32) M
def f_X11_oneCourse_51 (N : Nat) (v1 : Int32) (v2 : Int32) (M : Mm) : Option (Int32 × Mm) :=
  (if v1 = (0 : Int32) then bnd (f_X11_drawn N (100 : Int32) M) (fun r22 M23 => grd (inb (8 : Int32) 2107) ((if (M23 209 ((8 : Int32)).toNatClampNeg) ≤ r22 then f_X11_oneCourse_75 N v2 M23 else f_X11_oneCourse_80 N N v2 (1 : Int32) (0 : Int32) M23))) else f_X11_oneCourse_75 N v2 M)
def f_X11_oneCourse_28 (N : Nat) : Nat → Int32 → Int32 → Int32 → Mm → Option (Int32 × Mm)
  | 0, _, _, _, _ => none
  | n + 1, v1, v2, v3, M => bnd (f_X11_cellars N M) (fun r5 M6 => (if r5 ≤ v3 then f_X11_oneCourse_51 N v1 v2 M6 else (if v1 = (0 : Int32) then bnd (f_X11_spills N v3 M6) (fun r28 M29 => f_X11_oneCourse_28 N n v1 v2 (v3 + (1 : Int32)) M29) else f_X11_oneCourse_51 N v1 v2 M6)))
def f_X11_oneCourse_4 (N : Nat) : Nat → Int32 → Int32 → Int32 → Mm → Option (Int32 × Mm)
  | 0, _, _, _, _ => none
  | n + 1, v1, v2, v3, M => bnd (f_X11_cellars N M) (fun r1 M2 => (if r1 ≤ v3 then f_X11_oneCourse_28 N N v1 v2 (0 : Int32) M2 else bnd (f_X11_eats N v3 M2) (fun r32 M33 => lt (v2 + r32) (fun x35 => f_X11_oneCourse_4 N n v1 x35 (v3 + (1 : Int32)) M33))))
def f_X11_oneCourse (N : Nat) (v1 : Int32) (M : Mm) : Option (Int32 × Mm) :=
  f_X11_oneCourse_4 N N v1 (0 : Int32) (0 : Int32) M
set_option maxRecDepth 20000 in
set_option maxHeartbeats 4000000 in
theorem ok_X11_oneCourse_105 {N : Nat} {X : am_X} {l : Launch} (hC : am_C X l (am_rm 9 0 0) cX11_oneCourse yX11_oneCourse.cls (some .int)) (hnt : am_NT X) {v2 : Int32} {M : Mm} {r : Int32} {M' : Mm} (h : f_X11_oneCourse_105 N v2 M = some (r, M')) : am_V X LY M 0 0 (am_Q X LY 0 0 (.inl (some (.int r))) M') 105 [some (.ref 208), none, some (.int v2), none, none] [] := by
  unfold f_X11_oneCourse_105 at h
  refine v_aload_n hC dX11_oneCourse_105 rfl ?_
  obtain ⟨r14, M15, q16, h⟩ := bnd_some h
  refine w_callVv hC [] [] (ok_X11_passesOn q16) mv_X11_passesOn aw_1627 ly_208 rfl (Nat.le_of_ble_eq_true rfl) ⟨by decide, by decide⟩ ⟨by decide, by decide⟩ dX11_oneCourse_106 ?_
  refine v_iload_n hC dX11_oneCourse_109 rfl ?_
  cases h
  exact v_iret hC (by decide) (by decide) dX11_oneCourse_110
set_option maxRecDepth 20000 in
set_option maxHeartbeats 4000000 in
theorem ok_X11_oneCourse_80 {N : Nat} {X : am_X} {l : Launch} (hC : am_C X l (am_rm 9 0 0) cX11_oneCourse yX11_oneCourse.cls (some .int)) (hnt : am_NT X) : ∀ (n : Nat) (v2 v3 v4 : Int32) (M : Mm) (r : Int32) (M' : Mm), f_X11_oneCourse_80 N n v2 v3 v4 M = some (r, M') → am_V X LY M 0 0 (am_Q X LY 0 0 (.inl (some (.int r))) M') 80 [some (.ref 208), none, some (.int v2), some (.int v3), some (.int v4)] [] := by
  intro n
  induction n with
  | zero => intro v2 v3 v4 M r M' h; cases h
  | succ n ih =>
    intro v2 v3 v4 M r M' h
    simp only [f_X11_oneCourse_80] at h
    refine v_iload hC dX11_oneCourse_80 rfl ?_
    refine v_aload_n hC dX11_oneCourse_82 rfl ?_
    obtain ⟨r10, M11, q12, h⟩ := bnd_some h
    refine w_callVi hC [] [.int v4] (ok_X11_cellars q12) mv_X11_cellars aw_1397 ly_208 rfl (Nat.le_of_ble_eq_true rfl) ⟨by decide, by decide⟩ ⟨by decide, by decide⟩ dX11_oneCourse_83 ?_
    refine v_icmp_ge hC 105 dX11_oneCourse_86 rfl (fun c13 => ?_) (fun c13 => ?_)
    · rw [if_pos c13] at h
      refine v_drop [true, false, true, false, false] [some (.ref 208), none, some (.int v2), none, none] rfl ?_
      exact ok_X11_oneCourse_105 hC hnt h
    · rw [if_neg c13] at h
      refine v_iload_n hC dX11_oneCourse_89 rfl ?_
      refine v_if_eq hC 105 dX11_oneCourse_90 rfl (fun c17 => ?_) (fun c17 => ?_)
      · rw [if_pos c17] at h
        refine v_drop [true, false, true, false, false] [some (.ref 208), none, some (.int v2), none, none] rfl ?_
        exact ok_X11_oneCourse_105 hC hnt h
      · rw [if_neg c17] at h
        refine v_aload_n hC dX11_oneCourse_93 rfl ?_
        refine v_iload hC dX11_oneCourse_94 rfl ?_
        obtain ⟨r18, M19, q20, h⟩ := bnd_some h
        refine w_callVv hC [.int v4] [] (ok_X11_dampens q20) mv_X11_dampens aw_1623 ly_208 rfl (Nat.le_of_ble_eq_true rfl) ⟨by decide, by decide⟩ ⟨by decide, by decide⟩ dX11_oneCourse_96 ?_
        refine w_iinc hC (v4 + (1 : Int32)) dX11_oneCourse_99 rfl rfl [some (.ref 208), none, some (.int v2), some (.int v3), some (.int (v4 + (1 : Int32)))] rfl ?_
        refine v_goto (tg := 80) hC dX11_oneCourse_102 rfl ?_
        exact ih _ _ _ _ _ _ h
set_option maxRecDepth 20000 in
set_option maxHeartbeats 4000000 in
theorem ok_X11_oneCourse_75 {N : Nat} {X : am_X} {l : Launch} (hC : am_C X l (am_rm 9 0 0) cX11_oneCourse yX11_oneCourse.cls (some .int)) (hnt : am_NT X) {v2 : Int32} {M : Mm} {r : Int32} {M' : Mm} (h : f_X11_oneCourse_75 N v2 M = some (r, M')) : am_V X LY M 0 0 (am_Q X LY 0 0 (.inl (some (.int r))) M') 75 [some (.ref 208), none, some (.int v2), none, none] [] := by
  unfold f_X11_oneCourse_75 at h
  refine v_iconst (v := (0 : Int32)) hC dX11_oneCourse_75 rfl ?_
  refine w_istore_n hC dX11_oneCourse_76 (ltk rfl) [some (.ref 208), none, some (.int v2), some (.int (0 : Int32)), none] rfl ?_
  refine v_iconst (v := (0 : Int32)) hC dX11_oneCourse_77 rfl ?_
  refine w_istore hC dX11_oneCourse_78 (ltk rfl) [some (.ref 208), none, some (.int v2), some (.int (0 : Int32)), some (.int (0 : Int32))] rfl ?_
  exact ok_X11_oneCourse_80 hC hnt N _ _ _ _ _ _ h
set_option maxRecDepth 20000 in
set_option maxHeartbeats 4000000 in
theorem ok_X11_oneCourse_51 {N : Nat} {X : am_X} {l : Launch} (hC : am_C X l (am_rm 9 0 0) cX11_oneCourse yX11_oneCourse.cls (some .int)) (hnt : am_NT X) {v1 v2 : Int32} {M : Mm} {r : Int32} {M' : Mm} (h : f_X11_oneCourse_51 N v1 v2 M = some (r, M')) : am_V X LY M 0 0 (am_Q X LY 0 0 (.inl (some (.int r))) M') 51 [some (.ref 208), some (.int v1), some (.int v2), none, none] [] := by
  unfold f_X11_oneCourse_51 at h
  refine v_iload_n hC dX11_oneCourse_51 rfl ?_
  refine v_if_ne hC 75 dX11_oneCourse_52 rfl (fun c9 => ?_) (fun c9 => ?_)
  · rw [if_neg c9] at h
    refine v_drop [true, false, true, false, false] [some (.ref 208), none, some (.int v2), none, none] rfl ?_
    exact ok_X11_oneCourse_75 hC hnt h
  · rw [if_pos c9] at h
    refine v_aload_n hC dX11_oneCourse_55 rfl ?_
    refine v_bipush (v := (100 : Int32)) hC dX11_oneCourse_56 rfl ?_
    obtain ⟨r22, M23, q24, h⟩ := bnd_some h
    refine w_callVi hC [.int (100 : Int32)] [] (ok_X11_drawn q24) mv_X11_drawn aw_1618 ly_208 rfl (Nat.le_of_ble_eq_true rfl) ⟨by decide, by decide⟩ ⟨by decide, by decide⟩ dX11_oneCourse_58 ?_
    refine v_aload_n hC dX11_oneCourse_61 rfl ?_
    refine v_geta (k := 1) (b := 209) hC cls_X11 ly_208 (by decide) rfl aw_1232 rfl dX11_oneCourse_62 ?_
    refine v_bipush (v := (8 : Int32)) hC dX11_oneCourse_65 rfl ?_
    obtain ⟨g25, h⟩ := grd_some h
    refine v_iald hC ly_209 (inb_in g25) dX11_oneCourse_67 ?_
    refine v_icmp_ge hC 75 dX11_oneCourse_68 rfl (fun c26 => ?_) (fun c26 => ?_)
    · rw [if_pos c26] at h
      refine v_drop [true, false, true, false, false] [some (.ref 208), none, some (.int v2), none, none] rfl ?_
      exact ok_X11_oneCourse_75 hC hnt h
    · rw [if_neg c26] at h
      refine v_iconst (v := (1 : Int32)) hC dX11_oneCourse_71 rfl ?_
      refine v_goto (tg := 76) hC dX11_oneCourse_72 rfl ?_
      refine w_istore_n hC dX11_oneCourse_76 (ltk rfl) [some (.ref 208), some (.int v1), some (.int v2), some (.int (1 : Int32)), none] rfl ?_
      refine v_iconst (v := (0 : Int32)) hC dX11_oneCourse_77 rfl ?_
      refine w_istore hC dX11_oneCourse_78 (ltk rfl) [some (.ref 208), some (.int v1), some (.int v2), some (.int (1 : Int32)), some (.int (0 : Int32))] rfl ?_
      refine v_drop [true, false, true, true, true] [some (.ref 208), none, some (.int v2), some (.int (1 : Int32)), some (.int (0 : Int32))] rfl ?_
      exact ok_X11_oneCourse_80 hC hnt N _ _ _ _ _ _ h
set_option maxRecDepth 20000 in
set_option maxHeartbeats 4000000 in
theorem ok_X11_oneCourse_28 {N : Nat} {X : am_X} {l : Launch} (hC : am_C X l (am_rm 9 0 0) cX11_oneCourse yX11_oneCourse.cls (some .int)) (hnt : am_NT X) : ∀ (n : Nat) (v1 v2 v3 : Int32) (M : Mm) (r : Int32) (M' : Mm), f_X11_oneCourse_28 N n v1 v2 v3 M = some (r, M') → am_V X LY M 0 0 (am_Q X LY 0 0 (.inl (some (.int r))) M') 28 [some (.ref 208), some (.int v1), some (.int v2), some (.int v3), none] [] := by
  intro n
  induction n with
  | zero => intro v1 v2 v3 M r M' h; cases h
  | succ n ih =>
    intro v1 v2 v3 M r M' h
    simp only [f_X11_oneCourse_28] at h
    refine v_iload_n hC dX11_oneCourse_28 rfl ?_
    refine v_aload_n hC dX11_oneCourse_29 rfl ?_
    obtain ⟨r5, M6, q7, h⟩ := bnd_some h
    refine w_callVi hC [] [.int v3] (ok_X11_cellars q7) mv_X11_cellars aw_1397 ly_208 rfl (Nat.le_of_ble_eq_true rfl) ⟨by decide, by decide⟩ ⟨by decide, by decide⟩ dX11_oneCourse_30 ?_
    refine v_icmp_ge hC 51 dX11_oneCourse_33 rfl (fun c8 => ?_) (fun c8 => ?_)
    · rw [if_pos c8] at h
      refine v_drop [true, true, true, false, false] [some (.ref 208), some (.int v1), some (.int v2), none, none] rfl ?_
      exact ok_X11_oneCourse_51 hC hnt h
    · rw [if_neg c8] at h
      refine v_iload_n hC dX11_oneCourse_36 rfl ?_
      refine v_if_ne hC 51 dX11_oneCourse_37 rfl (fun c27 => ?_) (fun c27 => ?_)
      · rw [if_neg c27] at h
        refine v_drop [true, true, true, false, false] [some (.ref 208), some (.int v1), some (.int v2), none, none] rfl ?_
        exact ok_X11_oneCourse_51 hC hnt h
      · rw [if_pos c27] at h
        refine v_aload_n hC dX11_oneCourse_40 rfl ?_
        refine v_iload_n hC dX11_oneCourse_41 rfl ?_
        obtain ⟨r28, M29, q30, h⟩ := bnd_some h
        refine w_callVv hC [.int v3] [] (ok_X11_spills q30) mv_X11_spills aw_1614 ly_208 rfl (Nat.le_of_ble_eq_true rfl) ⟨by decide, by decide⟩ ⟨by decide, by decide⟩ dX11_oneCourse_42 ?_
        refine w_iinc hC (v3 + (1 : Int32)) dX11_oneCourse_45 rfl rfl [some (.ref 208), some (.int v1), some (.int v2), some (.int (v3 + (1 : Int32))), none] rfl ?_
        refine v_goto (tg := 28) hC dX11_oneCourse_48 rfl ?_
        exact ih _ _ _ _ _ _ h
set_option maxRecDepth 20000 in
set_option maxHeartbeats 4000000 in
theorem ok_X11_oneCourse_4 {N : Nat} {X : am_X} {l : Launch} (hC : am_C X l (am_rm 9 0 0) cX11_oneCourse yX11_oneCourse.cls (some .int)) (hnt : am_NT X) : ∀ (n : Nat) (v1 v2 v3 : Int32) (M : Mm) (r : Int32) (M' : Mm), f_X11_oneCourse_4 N n v1 v2 v3 M = some (r, M') → am_V X LY M 0 0 (am_Q X LY 0 0 (.inl (some (.int r))) M') 4 [some (.ref 208), some (.int v1), some (.int v2), some (.int v3), none] [] := by
  intro n
  induction n with
  | zero => intro v1 v2 v3 M r M' h; cases h
  | succ n ih =>
    intro v1 v2 v3 M r M' h
    simp only [f_X11_oneCourse_4] at h
    refine v_iload_n hC dX11_oneCourse_4 rfl ?_
    refine v_aload_n hC dX11_oneCourse_5 rfl ?_
    obtain ⟨r1, M2, q3, h⟩ := bnd_some h
    refine w_callVi hC [] [.int v3] (ok_X11_cellars q3) mv_X11_cellars aw_1397 ly_208 rfl (Nat.le_of_ble_eq_true rfl) ⟨by decide, by decide⟩ ⟨by decide, by decide⟩ dX11_oneCourse_6 ?_
    refine v_icmp_ge hC 26 dX11_oneCourse_9 rfl (fun c4 => ?_) (fun c4 => ?_)
    · rw [if_pos c4] at h
      refine v_iconst (v := (0 : Int32)) hC dX11_oneCourse_26 rfl ?_
      refine w_istore_n hC dX11_oneCourse_27 (ltk rfl) [some (.ref 208), some (.int v1), some (.int v2), some (.int (0 : Int32)), none] rfl ?_
      exact ok_X11_oneCourse_28 hC hnt N _ _ _ _ _ _ h
    · rw [if_neg c4] at h
      refine v_iload_n hC dX11_oneCourse_12 rfl ?_
      refine v_aload_n hC dX11_oneCourse_13 rfl ?_
      refine v_iload_n hC dX11_oneCourse_14 rfl ?_
      obtain ⟨r32, M33, q34, h⟩ := bnd_some h
      refine w_callVi hC [.int v3] [.int v2] (ok_X11_eats q34) mv_X11_eats aw_1606 ly_208 rfl (Nat.le_of_ble_eq_true rfl) ⟨by decide, by decide⟩ ⟨by decide, by decide⟩ dX11_oneCourse_15 ?_
      refine v_iadd hC dX11_oneCourse_18 ?_
      obtain ⟨x35, e_x35, h⟩ := lt_some h
      refine v_nam e_x35 ?_
      refine w_istore_n hC dX11_oneCourse_19 (ltk rfl) [some (.ref 208), some (.int v1), some (.int x35), some (.int v3), none] rfl ?_
      refine w_iinc hC (v3 + (1 : Int32)) dX11_oneCourse_20 rfl rfl [some (.ref 208), some (.int v1), some (.int x35), some (.int (v3 + (1 : Int32))), none] rfl ?_
      refine v_goto (tg := 4) hC dX11_oneCourse_23 rfl ?_
      exact ih _ _ _ _ _ _ h
set_option maxRecDepth 20000 in
set_option maxHeartbeats 4000000 in
theorem ok_X11_oneCourse {l : Launch} {N : Nat} {v1 : Int32} {M : Mm} {r : Int32} {M' : Mm} (h : f_X11_oneCourse N v1 M = some (r, M')) : am_M l yX11_oneCourse cX11_oneCourse 5 (some .int) 9 0 0 LY M [.ref 208, .int v1] (.inl (some (.int r))) M' := by
  unfold f_X11_oneCourse at h
  refine am_intro (by decide) (by simp [Value.category]) (Nat.le_of_ble_eq_true rfl) (fun X hC hnt => ?_)
  refine am_start (L := [some (.ref 208), some (.int v1), none, none, none]) rfl ?_
  refine v_iconst (v := (0 : Int32)) hC dX11_oneCourse_0 rfl ?_
  refine w_istore_n hC dX11_oneCourse_1 (ltk rfl) [some (.ref 208), some (.int v1), some (.int (0 : Int32)), none, none] rfl ?_
  refine v_iconst (v := (0 : Int32)) hC dX11_oneCourse_2 rfl ?_
  refine w_istore_n hC dX11_oneCourse_3 (ltk rfl) [some (.ref 208), some (.int v1), some (.int (0 : Int32)), some (.int (0 : Int32)), none] rfl ?_
  exact ok_X11_oneCourse_4 hC hnt N _ _ _ _ _ _ h
def f_X11_keepsAll_2 (N : Nat) : Nat → Int32 → Mm → Option (Int32 × Mm)
  | 0, _, _ => none
  | n + 1, v1, M => (if (409 : Int32) ≤ v1 then some (0, M) else grd (inb v1 2107) (grd (inb v1 409) (lt (wr M 212 (v1).toNatClampNeg (M 209 (v1).toNatClampNeg)) (fun M4 => f_X11_keepsAll_2 N n (v1 + (1 : Int32)) M4))))
def f_X11_keepsAll (N : Nat) (M : Mm) : Option (Int32 × Mm) :=
  f_X11_keepsAll_2 N N (0 : Int32) M
set_option maxRecDepth 20000 in
set_option maxHeartbeats 4000000 in
theorem ok_X11_keepsAll_2 {N : Nat} {X : am_X} {l : Launch} (hC : am_C X l (am_rm 1 0 0) cX11_keepsAll yX11_keepsAll.cls none) (hnt : am_NT X) : ∀ (n : Nat) (v1 : Int32) (M : Mm) (r : Int32) (M' : Mm), f_X11_keepsAll_2 N n v1 M = some (r, M') → am_V X LY M 0 0 (am_Q X LY 0 0 (.inl none) M') 2 [some (.ref 208), some (.int v1)] [] := by
  intro n
  induction n with
  | zero => intro v1 M r M' h; cases h
  | succ n ih =>
    intro v1 M r M' h
    simp only [f_X11_keepsAll_2] at h
    refine v_iload_n hC dX11_keepsAll_2 rfl ?_
    refine v_sipush (v := (409 : Int32)) hC dX11_keepsAll_3 rfl ?_
    refine v_icmp_ge hC 27 dX11_keepsAll_6 rfl (fun c1 => ?_) (fun c1 => ?_)
    · rw [if_pos c1] at h
      cases h
      exact v_vret hC (by decide) (by decide) dX11_keepsAll_27
    · rw [if_neg c1] at h
      refine v_aload_n hC dX11_keepsAll_9 rfl ?_
      refine v_geta (k := 4) (b := 212) hC cls_X11 ly_208 (by decide) rfl aw_1235 rfl dX11_keepsAll_10 ?_
      refine v_iload_n hC dX11_keepsAll_13 rfl ?_
      refine v_aload_n hC dX11_keepsAll_14 rfl ?_
      refine v_geta (k := 1) (b := 209) hC cls_X11 ly_208 (by decide) rfl aw_1232 rfl dX11_keepsAll_15 ?_
      refine v_iload_n hC dX11_keepsAll_18 rfl ?_
      obtain ⟨g2, h⟩ := grd_some h
      refine v_iald hC ly_209 (inb_in g2) dX11_keepsAll_19 ?_
      obtain ⟨g3, h⟩ := grd_some h
      obtain ⟨M4, e_M4, h⟩ := lt_some h
      refine w_iast hC ly_212 (inb_in g3) dX11_keepsAll_20 e_M4 ?_
      refine w_iinc hC (v1 + (1 : Int32)) dX11_keepsAll_21 rfl rfl [some (.ref 208), some (.int (v1 + (1 : Int32)))] rfl ?_
      refine v_goto (tg := 2) hC dX11_keepsAll_24 rfl ?_
      exact ih _ _ _ _ h
set_option maxRecDepth 20000 in
set_option maxHeartbeats 4000000 in
theorem ok_X11_keepsAll {l : Launch} {N : Nat} {M : Mm} {r : Int32} {M' : Mm} (h : f_X11_keepsAll N M = some (r, M')) : am_M l yX11_keepsAll cX11_keepsAll 2 none 1 0 0 LY M [.ref 208] (.inl none) M' := by
  unfold f_X11_keepsAll at h
  refine am_intro (by decide) (by simp [Value.category]) (Nat.le_of_ble_eq_true rfl) (fun X hC hnt => ?_)
  refine am_start (L := [some (.ref 208), none]) rfl ?_
  refine v_iconst (v := (0 : Int32)) hC dX11_keepsAll_0 rfl ?_
  refine w_istore_n hC dX11_keepsAll_1 (ltk rfl) [some (.ref 208), some (.int (0 : Int32))] rfl ?_
  exact ok_X11_keepsAll_2 hC hnt N _ _ _ _ h
def f_X11_bringsBack_2 (N : Nat) : Nat → Int32 → Mm → Option (Int32 × Mm)
  | 0, _, _ => none
  | n + 1, v1, M => (if (409 : Int32) ≤ v1 then some (0, M) else grd (inb v1 409) (grd (inb v1 2107) (lt (wr M 209 (v1).toNatClampNeg (M 212 (v1).toNatClampNeg)) (fun M4 => f_X11_bringsBack_2 N n (v1 + (1 : Int32)) M4))))
def f_X11_bringsBack (N : Nat) (M : Mm) : Option (Int32 × Mm) :=
  f_X11_bringsBack_2 N N (0 : Int32) M
set_option maxRecDepth 20000 in
set_option maxHeartbeats 4000000 in
theorem ok_X11_bringsBack_2 {N : Nat} {X : am_X} {l : Launch} (hC : am_C X l (am_rm 1 0 0) cX11_bringsBack yX11_bringsBack.cls none) (hnt : am_NT X) : ∀ (n : Nat) (v1 : Int32) (M : Mm) (r : Int32) (M' : Mm), f_X11_bringsBack_2 N n v1 M = some (r, M') → am_V X LY M 0 0 (am_Q X LY 0 0 (.inl none) M') 2 [some (.ref 208), some (.int v1)] [] := by
  intro n
  induction n with
  | zero => intro v1 M r M' h; cases h
  | succ n ih =>
    intro v1 M r M' h
    simp only [f_X11_bringsBack_2] at h
    refine v_iload_n hC dX11_bringsBack_2 rfl ?_
    refine v_sipush (v := (409 : Int32)) hC dX11_bringsBack_3 rfl ?_
    refine v_icmp_ge hC 27 dX11_bringsBack_6 rfl (fun c1 => ?_) (fun c1 => ?_)
    · rw [if_pos c1] at h
      cases h
      exact v_vret hC (by decide) (by decide) dX11_bringsBack_27
    · rw [if_neg c1] at h
      refine v_aload_n hC dX11_bringsBack_9 rfl ?_
      refine v_geta (k := 1) (b := 209) hC cls_X11 ly_208 (by decide) rfl aw_1232 rfl dX11_bringsBack_10 ?_
      refine v_iload_n hC dX11_bringsBack_13 rfl ?_
      refine v_aload_n hC dX11_bringsBack_14 rfl ?_
      refine v_geta (k := 4) (b := 212) hC cls_X11 ly_208 (by decide) rfl aw_1235 rfl dX11_bringsBack_15 ?_
      refine v_iload_n hC dX11_bringsBack_18 rfl ?_
      obtain ⟨g2, h⟩ := grd_some h
      refine v_iald hC ly_212 (inb_in g2) dX11_bringsBack_19 ?_
      obtain ⟨g3, h⟩ := grd_some h
      obtain ⟨M4, e_M4, h⟩ := lt_some h
      refine w_iast hC ly_209 (inb_in g3) dX11_bringsBack_20 e_M4 ?_
      refine w_iinc hC (v1 + (1 : Int32)) dX11_bringsBack_21 rfl rfl [some (.ref 208), some (.int (v1 + (1 : Int32)))] rfl ?_
      refine v_goto (tg := 2) hC dX11_bringsBack_24 rfl ?_
      exact ih _ _ _ _ h
set_option maxRecDepth 20000 in
set_option maxHeartbeats 4000000 in
theorem ok_X11_bringsBack {l : Launch} {N : Nat} {M : Mm} {r : Int32} {M' : Mm} (h : f_X11_bringsBack N M = some (r, M')) : am_M l yX11_bringsBack cX11_bringsBack 2 none 1 0 0 LY M [.ref 208] (.inl none) M' := by
  unfold f_X11_bringsBack at h
  refine am_intro (by decide) (by simp [Value.category]) (Nat.le_of_ble_eq_true rfl) (fun X hC hnt => ?_)
  refine am_start (L := [some (.ref 208), none]) rfl ?_
  refine v_iconst (v := (0 : Int32)) hC dX11_bringsBack_0 rfl ?_
  refine w_istore_n hC dX11_bringsBack_1 (ltk rfl) [some (.ref 208), some (.int (0 : Int32))] rfl ?_
  exact ok_X11_bringsBack_2 hC hnt N _ _ _ _ h
def f_X11_goesOn_5 (N : Nat) : Nat → Int32 → Int32 → Int32 → Int32 → Mm → Option (Int32 × Mm)
  | 0, _, _, _, _, _ => none
  | n + 1, v1, v2, v3, v4, M => (if v1 ≤ v4 then some (v3, M) else bnd (f_X11_oneCourse N v2 M) (fun r2 M3 => lt (v3 + r2) (fun x5 => f_X11_goesOn_5 N n v1 v2 x5 (v4 + (1 : Int32)) M3)))
def f_X11_goesOn (N : Nat) (v1 : Int32) (v2 : Int32) (M : Mm) : Option (Int32 × Mm) :=
  f_X11_goesOn_5 N N v1 v2 (0 : Int32) (0 : Int32) M
set_option maxRecDepth 20000 in
set_option maxHeartbeats 4000000 in
theorem ok_X11_goesOn_5 {N : Nat} {X : am_X} {l : Launch} (hC : am_C X l (am_rm 10 0 0) cX11_goesOn yX11_goesOn.cls (some .int)) (hnt : am_NT X) : ∀ (n : Nat) (v1 v2 v3 v4 : Int32) (M : Mm) (r : Int32) (M' : Mm), f_X11_goesOn_5 N n v1 v2 v3 v4 M = some (r, M') → am_V X LY M 0 0 (am_Q X LY 0 0 (.inl (some (.int r))) M') 5 [some (.ref 208), some (.int v1), some (.int v2), some (.int v3), some (.int v4)] [] := by
  intro n
  induction n with
  | zero => intro v1 v2 v3 v4 M r M' h; cases h
  | succ n ih =>
    intro v1 v2 v3 v4 M r M' h
    simp only [f_X11_goesOn_5] at h
    refine v_iload hC dX11_goesOn_5 rfl ?_
    refine v_iload_n hC dX11_goesOn_7 rfl ?_
    refine v_icmp_ge hC 25 dX11_goesOn_8 rfl (fun c1 => ?_) (fun c1 => ?_)
    · rw [if_pos c1] at h
      refine v_iload_n hC dX11_goesOn_25 rfl ?_
      cases h
      exact v_iret hC (by decide) (by decide) dX11_goesOn_26
    · rw [if_neg c1] at h
      refine v_iload_n hC dX11_goesOn_11 rfl ?_
      refine v_aload_n hC dX11_goesOn_12 rfl ?_
      refine v_iload_n hC dX11_goesOn_13 rfl ?_
      obtain ⟨r2, M3, q4, h⟩ := bnd_some h
      refine w_callVi hC [.int v2] [.int v3] (ok_X11_oneCourse q4) mv_X11_oneCourse aw_1602 ly_208 rfl (Nat.le_of_ble_eq_true rfl) ⟨by decide, by decide⟩ ⟨by decide, by decide⟩ dX11_goesOn_14 ?_
      refine v_iadd hC dX11_goesOn_17 ?_
      obtain ⟨x5, e_x5, h⟩ := lt_some h
      refine v_nam e_x5 ?_
      refine w_istore_n hC dX11_goesOn_18 (ltk rfl) [some (.ref 208), some (.int v1), some (.int v2), some (.int x5), some (.int v4)] rfl ?_
      refine w_iinc hC (v4 + (1 : Int32)) dX11_goesOn_19 rfl rfl [some (.ref 208), some (.int v1), some (.int v2), some (.int x5), some (.int (v4 + (1 : Int32)))] rfl ?_
      refine v_goto (tg := 5) hC dX11_goesOn_22 rfl ?_
      exact ih _ _ _ _ _ _ _ h
set_option maxRecDepth 20000 in
set_option maxHeartbeats 4000000 in
theorem ok_X11_goesOn {l : Launch} {N : Nat} {v1 v2 : Int32} {M : Mm} {r : Int32} {M' : Mm} (h : f_X11_goesOn N v1 v2 M = some (r, M')) : am_M l yX11_goesOn cX11_goesOn 5 (some .int) 10 0 0 LY M [.ref 208, .int v1, .int v2] (.inl (some (.int r))) M' := by
  unfold f_X11_goesOn at h
  refine am_intro (by decide) (by simp [Value.category]) (Nat.le_of_ble_eq_true rfl) (fun X hC hnt => ?_)
  refine am_start (L := [some (.ref 208), some (.int v1), some (.int v2), none, none]) rfl ?_
  refine v_iconst (v := (0 : Int32)) hC dX11_goesOn_0 rfl ?_
  refine w_istore_n hC dX11_goesOn_1 (ltk rfl) [some (.ref 208), some (.int v1), some (.int v2), some (.int (0 : Int32)), none] rfl ?_
  refine v_iconst (v := (0 : Int32)) hC dX11_goesOn_2 rfl ?_
  refine w_istore hC dX11_goesOn_3 (ltk rfl) [some (.ref 208), some (.int v1), some (.int v2), some (.int (0 : Int32)), some (.int (0 : Int32))] rfl ?_
  exact ok_X11_goesOn_5 hC hnt N _ _ _ _ _ _ _ h
def f_X11_courses_21 (N : Nat) (v1 : Int32) (s1 : Int32) (M : Mm) : Option (Int32 × Mm) :=
  bnd (f_X11_throwsIf N s1 (1 : Int32) M) (fun r6 M7 => (if r6 = (0 : Int32) then bnd (f_X11_remembers N M7) (fun r10 M11 => bnd (f_X11_goesOn N v1 (0 : Int32) M11) (fun r13 M14 => some (r13, M14))) else some ((0 : Int32), M7)))
def f_X11_courses (N : Nat) (v1 : Int32) (M : Mm) : Option (Int32 × Mm) :=
  lt (wr M 208 0 (0 : Int32)) (fun M1 => bnd (f_X11_in N v1 (1 : Int32) (100 : Int32) M1) (fun r2 M3 => (if r2 = (0 : Int32) then f_X11_courses_21 N v1 (1 : Int32) M3 else f_X11_courses_21 N v1 (0 : Int32) M3)))
set_option maxRecDepth 20000 in
set_option maxHeartbeats 4000000 in
theorem ok_X11_courses_21 {N : Nat} {X : am_X} {l : Launch} (hC : am_C X l (am_rm 11 0 0) cX11_courses yX11_courses.cls (some .int)) (hnt : am_NT X) {v1 s1 : Int32} {M : Mm} {r : Int32} {M' : Mm} (h : f_X11_courses_21 N v1 s1 M = some (r, M')) : am_V X LY M 0 0 (am_Q X LY 0 0 (.inl (some (.int r))) M') 21 [some (.ref 208), some (.int v1)] [.int s1, .ref 208] := by
  unfold f_X11_courses_21 at h
  refine v_iconst (v := (1 : Int32)) hC dX11_courses_21 rfl ?_
  obtain ⟨r6, M7, q8, h⟩ := bnd_some h
  refine w_callVi hC [.int s1, .int (1 : Int32)] [] (ok_X11_throwsIf q8) mv_X11_throwsIf aw_1470 ly_208 rfl (Nat.le_of_ble_eq_true rfl) ⟨by decide, by decide⟩ ⟨by decide, by decide⟩ dX11_courses_22 ?_
  refine v_if_eq hC 30 dX11_courses_25 rfl (fun c9 => ?_) (fun c9 => ?_)
  · rw [if_pos c9] at h
    refine v_aload_n hC dX11_courses_30 rfl ?_
    obtain ⟨r10, M11, q12, h⟩ := bnd_some h
    refine w_callVv hC [] [] (ok_X11_remembers q12) mv_X11_remembers aw_1566 ly_208 rfl (Nat.le_of_ble_eq_true rfl) ⟨by decide, by decide⟩ ⟨by decide, by decide⟩ dX11_courses_31 ?_
    refine v_aload_n hC dX11_courses_34 rfl ?_
    refine v_iload_n hC dX11_courses_35 rfl ?_
    refine v_iconst (v := (0 : Int32)) hC dX11_courses_36 rfl ?_
    obtain ⟨r13, M14, q15, h⟩ := bnd_some h
    refine w_callVi hC [.int v1, .int (0 : Int32)] [] (ok_X11_goesOn q15) mv_X11_goesOn aw_1598 ly_208 rfl (Nat.le_of_ble_eq_true rfl) ⟨by decide, by decide⟩ ⟨by decide, by decide⟩ dX11_courses_37 ?_
    cases h
    exact v_iret hC (by decide) (by decide) dX11_courses_40
  · rw [if_neg c9] at h
    refine v_iconst (v := (0 : Int32)) hC dX11_courses_28 rfl ?_
    cases h
    exact v_iret hC (by decide) (by decide) dX11_courses_29
set_option maxRecDepth 20000 in
set_option maxHeartbeats 4000000 in
theorem ok_X11_courses {l : Launch} {N : Nat} {v1 : Int32} {M : Mm} {r : Int32} {M' : Mm} (h : f_X11_courses N v1 M = some (r, M')) : am_M l yX11_courses cX11_courses 2 (some .int) 11 0 0 LY M [.ref 208, .int v1] (.inl (some (.int r))) M' := by
  unfold f_X11_courses at h
  refine am_intro (by decide) (by simp [Value.category]) (Nat.le_of_ble_eq_true rfl) (fun X hC hnt => ?_)
  refine am_start (L := [some (.ref 208), some (.int v1)]) rfl ?_
  refine v_aload_n hC dX11_courses_0 rfl ?_
  refine v_iconst (v := (0 : Int32)) hC dX11_courses_1 rfl ?_
  obtain ⟨M1, e_M1, h⟩ := lt_some h
  refine w_puti (k := 0) hC cls_X11 ly_208 (by decide) rfl aw_1231 rfl rfl ⟨rfl, rfl⟩ dX11_courses_2 e_M1 ?_
  refine v_aload_n hC dX11_courses_5 rfl ?_
  refine v_iload_n hC dX11_courses_6 rfl ?_
  refine v_iconst (v := (1 : Int32)) hC dX11_courses_7 rfl ?_
  refine v_bipush (v := (100 : Int32)) hC dX11_courses_8 rfl ?_
  obtain ⟨r2, M3, q4, h⟩ := bnd_some h
  refine w_callSi hC [.int v1, .int (1 : Int32), .int (100 : Int32)] [.ref 208] (ok_X11_in q4) ms_X11_in aw_1404 rfl (Nat.le_of_ble_eq_true rfl) ⟨by decide, by decide⟩ ⟨by decide, by decide⟩ dX11_courses_10 ?_
  refine v_if_ne hC 20 dX11_courses_13 rfl (fun c5 => ?_) (fun c5 => ?_)
  · rw [if_neg c5] at h
    refine v_iconst (v := (0 : Int32)) hC dX11_courses_20 rfl ?_
    exact ok_X11_courses_21 hC hnt h
  · rw [if_pos c5] at h
    refine v_iconst (v := (1 : Int32)) hC dX11_courses_16 rfl ?_
    refine v_goto (tg := 21) hC dX11_courses_17 rfl ?_
    exact ok_X11_courses_21 hC hnt h
def f_X11_heldOnes_4 (N : Nat) : Nat → Int32 → Int32 → Mm → Option (Int32 × Mm)
  | 0, _, _, _ => none
  | n + 1, v1, v2, M => bnd (f_X11_cellars N M) (fun r1 M2 => (if r1 ≤ v2 then some (v1, M2) else bnd (f_X11_isFree N v2 M2) (fun r5 M6 => (if r5 = (0 : Int32) then lt (v1 ||| ((1 : Int32) <<< (v2 &&& 31))) (fun x9 => f_X11_heldOnes_4 N n x9 (v2 + (1 : Int32)) M6) else lt (v1 ||| (0 : Int32)) (fun x11 => f_X11_heldOnes_4 N n x11 (v2 + (1 : Int32)) M6)))))
def f_X11_heldOnes (N : Nat) (M : Mm) : Option (Int32 × Mm) :=
  f_X11_heldOnes_4 N N (0 : Int32) (0 : Int32) M
set_option maxRecDepth 20000 in
set_option maxHeartbeats 4000000 in
theorem ok_X11_heldOnes_4 {N : Nat} {X : am_X} {l : Launch} (hC : am_C X l (am_rm 4 0 0) cX11_heldOnes yX11_heldOnes.cls (some .int)) (hnt : am_NT X) : ∀ (n : Nat) (v1 v2 : Int32) (M : Mm) (r : Int32) (M' : Mm), f_X11_heldOnes_4 N n v1 v2 M = some (r, M') → am_V X LY M 0 0 (am_Q X LY 0 0 (.inl (some (.int r))) M') 4 [some (.ref 208), some (.int v1), some (.int v2)] [] := by
  intro n
  induction n with
  | zero => intro v1 v2 M r M' h; cases h
  | succ n ih =>
    intro v1 v2 M r M' h
    simp only [f_X11_heldOnes_4] at h
    refine v_iload_n hC dX11_heldOnes_4 rfl ?_
    refine v_aload_n hC dX11_heldOnes_5 rfl ?_
    obtain ⟨r1, M2, q3, h⟩ := bnd_some h
    refine w_callVi hC [] [.int v2] (ok_X11_cellars q3) mv_X11_cellars aw_1397 ly_208 rfl (Nat.le_of_ble_eq_true rfl) ⟨by decide, by decide⟩ ⟨by decide, by decide⟩ dX11_heldOnes_6 ?_
    refine v_icmp_ge hC 36 dX11_heldOnes_9 rfl (fun c4 => ?_) (fun c4 => ?_)
    · rw [if_pos c4] at h
      refine v_iload_n hC dX11_heldOnes_36 rfl ?_
      cases h
      exact v_iret hC (by decide) (by decide) dX11_heldOnes_37
    · rw [if_neg c4] at h
      refine v_iload_n hC dX11_heldOnes_12 rfl ?_
      refine v_aload_n hC dX11_heldOnes_13 rfl ?_
      refine v_iload_n hC dX11_heldOnes_14 rfl ?_
      obtain ⟨r5, M6, q7, h⟩ := bnd_some h
      refine w_callVi hC [.int v2] [.int v1] (ok_X11_isFree q7) mv_X11_isFree aw_1525 ly_208 rfl (Nat.le_of_ble_eq_true rfl) ⟨by decide, by decide⟩ ⟨by decide, by decide⟩ dX11_heldOnes_15 ?_
      refine v_if_eq hC 25 dX11_heldOnes_18 rfl (fun c8 => ?_) (fun c8 => ?_)
      · rw [if_pos c8] at h
        refine v_iconst (v := (1 : Int32)) hC dX11_heldOnes_25 rfl ?_
        refine v_iload_n hC dX11_heldOnes_26 rfl ?_
        refine v_ishl hC dX11_heldOnes_27 ?_
        refine v_ior hC dX11_heldOnes_28 ?_
        obtain ⟨x9, e_x9, h⟩ := lt_some h
        refine v_nam e_x9 ?_
        refine w_istore_n hC dX11_heldOnes_29 (ltk rfl) [some (.ref 208), some (.int x9), some (.int v2)] rfl ?_
        refine w_iinc hC (v2 + (1 : Int32)) dX11_heldOnes_30 rfl rfl [some (.ref 208), some (.int x9), some (.int (v2 + (1 : Int32)))] rfl ?_
        refine v_goto (tg := 4) hC dX11_heldOnes_33 rfl ?_
        exact ih _ _ _ _ _ h
      · rw [if_neg c8] at h
        refine v_iconst (v := (0 : Int32)) hC dX11_heldOnes_21 rfl ?_
        refine v_goto (tg := 28) hC dX11_heldOnes_22 rfl ?_
        refine v_ior hC dX11_heldOnes_28 ?_
        obtain ⟨x11, e_x11, h⟩ := lt_some h
        refine v_nam e_x11 ?_
        refine w_istore_n hC dX11_heldOnes_29 (ltk rfl) [some (.ref 208), some (.int x11), some (.int v2)] rfl ?_
        refine w_iinc hC (v2 + (1 : Int32)) dX11_heldOnes_30 rfl rfl [some (.ref 208), some (.int x11), some (.int (v2 + (1 : Int32)))] rfl ?_
        refine v_goto (tg := 4) hC dX11_heldOnes_33 rfl ?_
        exact ih _ _ _ _ _ h
set_option maxRecDepth 20000 in
set_option maxHeartbeats 4000000 in
theorem ok_X11_heldOnes {l : Launch} {N : Nat} {M : Mm} {r : Int32} {M' : Mm} (h : f_X11_heldOnes N M = some (r, M')) : am_M l yX11_heldOnes cX11_heldOnes 3 (some .int) 4 0 0 LY M [.ref 208] (.inl (some (.int r))) M' := by
  unfold f_X11_heldOnes at h
  refine am_intro (by decide) (by simp [Value.category]) (Nat.le_of_ble_eq_true rfl) (fun X hC hnt => ?_)
  refine am_start (L := [some (.ref 208), none, none]) rfl ?_
  refine v_iconst (v := (0 : Int32)) hC dX11_heldOnes_0 rfl ?_
  refine w_istore_n hC dX11_heldOnes_1 (ltk rfl) [some (.ref 208), some (.int (0 : Int32)), none] rfl ?_
  refine v_iconst (v := (0 : Int32)) hC dX11_heldOnes_2 rfl ?_
  refine w_istore_n hC dX11_heldOnes_3 (ltk rfl) [some (.ref 208), some (.int (0 : Int32)), some (.int (0 : Int32))] rfl ?_
  exact ok_X11_heldOnes_4 hC hnt N _ _ _ _ _ h
def f_X11_freedIn_53 (N : Nat) (v2 : Int32) (M : Mm) : Option (Int32 × Mm) :=
  bnd (f_X11_bringsBack N M) (fun r5 M6 => some (v2, M6))
def f_X11_freedIn_40 (N : Nat) (k10 : Int32 → Int32 → Int32 → Mm → Option (Int32 × Mm)) (v1 : Int32) (v3 : Int32) (s0 : Int32) (M : Mm) : Option (Int32 × Mm) :=
  bnd (f_X11_oneCourse N (1 : Int32) M) (fun r13 M14 => k10 v1 s0 (v3 + (1 : Int32)) M14)
def f_X11_freedIn_10 (N : Nat) : Nat → Int32 → Int32 → Int32 → Mm → Option (Int32 × Mm)
  | 0, _, _, _, _ => none
  | n + 1, v1, v2, v3, M => (if (200 : Int32) < v3 then f_X11_freedIn_53 N v2 M else (if v2 = (1000000 : Int32) then bnd (f_X11_heldOnes N M) (fun r9 M10 => (if (r9 &&& v1) = (0 : Int32) then f_X11_freedIn_40 N (fun v1 v2 v3 M => f_X11_freedIn_10 N n v1 v2 v3 M) v1 v3 v3 M10 else f_X11_freedIn_40 N (fun v1 v2 v3 M => f_X11_freedIn_10 N n v1 v2 v3 M) v1 v3 (1000000 : Int32) M10)) else f_X11_freedIn_53 N v2 M))
def f_X11_freedIn (N : Nat) (v1 : Int32) (M : Mm) : Option (Int32 × Mm) :=
  bnd (f_X11_keepsAll N M) (fun r1 M2 => f_X11_freedIn_10 N N v1 (1000000 : Int32) (0 : Int32) M2)
set_option maxRecDepth 20000 in
set_option maxHeartbeats 4000000 in
theorem ok_X11_freedIn_53 {N : Nat} {X : am_X} {l : Launch} (hC : am_C X l (am_rm 10 0 0) cX11_freedIn yX11_freedIn.cls (some .int)) (hnt : am_NT X) {v2 : Int32} {M : Mm} {r : Int32} {M' : Mm} (h : f_X11_freedIn_53 N v2 M = some (r, M')) : am_V X LY M 0 0 (am_Q X LY 0 0 (.inl (some (.int r))) M') 53 [some (.ref 208), none, some (.int v2), none] [] := by
  unfold f_X11_freedIn_53 at h
  refine v_aload_n hC dX11_freedIn_53 rfl ?_
  obtain ⟨r5, M6, q7, h⟩ := bnd_some h
  refine w_callVv hC [] [] (ok_X11_bringsBack q7) mv_X11_bringsBack aw_1648 ly_208 rfl (Nat.le_of_ble_eq_true rfl) ⟨by decide, by decide⟩ ⟨by decide, by decide⟩ dX11_freedIn_54 ?_
  refine v_iload_n hC dX11_freedIn_57 rfl ?_
  cases h
  exact v_iret hC (by decide) (by decide) dX11_freedIn_58
set_option maxRecDepth 20000 in
set_option maxHeartbeats 4000000 in
theorem ok_X11_freedIn_40 {N : Nat} {X : am_X} {l : Launch} (hC : am_C X l (am_rm 10 0 0) cX11_freedIn yX11_freedIn.cls (some .int)) (hnt : am_NT X) {k10 : Int32 → Int32 → Int32 → Mm → Option (Int32 × Mm)} (hk10 : ∀ (v1 v2 v3 : Int32) (M : Mm) (r : Int32) (M' : Mm), k10 v1 v2 v3 M = some (r, M') → am_V X LY M 0 0 (am_Q X LY 0 0 (.inl (some (.int r))) M') 10 [some (.ref 208), some (.int v1), some (.int v2), some (.int v3)] []) {v1 v3 s0 : Int32} {M : Mm} {r : Int32} {M' : Mm} (h : f_X11_freedIn_40 N k10 v1 v3 s0 M = some (r, M')) : am_V X LY M 0 0 (am_Q X LY 0 0 (.inl (some (.int r))) M') 40 [some (.ref 208), some (.int v1), none, some (.int v3)] [.int s0] := by
  unfold f_X11_freedIn_40 at h
  refine w_istore_n hC dX11_freedIn_40 (ltk rfl) [some (.ref 208), some (.int v1), some (.int s0), some (.int v3)] rfl ?_
  refine v_aload_n hC dX11_freedIn_41 rfl ?_
  refine v_iconst (v := (1 : Int32)) hC dX11_freedIn_42 rfl ?_
  obtain ⟨r13, M14, q15, h⟩ := bnd_some h
  refine w_callVi hC [.int (1 : Int32)] [] (ok_X11_oneCourse q15) mv_X11_oneCourse aw_1602 ly_208 rfl (Nat.le_of_ble_eq_true rfl) ⟨by decide, by decide⟩ ⟨by decide, by decide⟩ dX11_freedIn_43 ?_
  refine v_pop hC dX11_freedIn_46 rfl ?_
  refine w_iinc hC (v3 + (1 : Int32)) dX11_freedIn_47 rfl rfl [some (.ref 208), some (.int v1), some (.int s0), some (.int (v3 + (1 : Int32)))] rfl ?_
  refine v_goto (tg := 10) hC dX11_freedIn_50 rfl ?_
  exact hk10 _ _ _ _ _ _ h
set_option maxRecDepth 20000 in
set_option maxHeartbeats 4000000 in
theorem ok_X11_freedIn_10 {N : Nat} {X : am_X} {l : Launch} (hC : am_C X l (am_rm 10 0 0) cX11_freedIn yX11_freedIn.cls (some .int)) (hnt : am_NT X) : ∀ (n : Nat) (v1 v2 v3 : Int32) (M : Mm) (r : Int32) (M' : Mm), f_X11_freedIn_10 N n v1 v2 v3 M = some (r, M') → am_V X LY M 0 0 (am_Q X LY 0 0 (.inl (some (.int r))) M') 10 [some (.ref 208), some (.int v1), some (.int v2), some (.int v3)] [] := by
  intro n
  induction n with
  | zero => intro v1 v2 v3 M r M' h; cases h
  | succ n ih =>
    intro v1 v2 v3 M r M' h
    simp only [f_X11_freedIn_10] at h
    refine v_iload_n hC dX11_freedIn_10 rfl ?_
    refine v_sipush (v := (200 : Int32)) hC dX11_freedIn_11 rfl ?_
    refine v_icmp_gt hC 53 dX11_freedIn_14 rfl (fun c4 => ?_) (fun c4 => ?_)
    · rw [if_pos c4] at h
      refine v_drop [true, false, true, false] [some (.ref 208), none, some (.int v2), none] rfl ?_
      exact ok_X11_freedIn_53 hC hnt h
    · rw [if_neg c4] at h
      refine v_iload_n hC dX11_freedIn_17 rfl ?_
      refine v_ldcw hC aw_1639 dX11_freedIn_18 ?_
      refine v_icmp_ne hC 53 dX11_freedIn_21 rfl (fun c8 => ?_) (fun c8 => ?_)
      · rw [if_neg c8] at h
        refine v_drop [true, false, true, false] [some (.ref 208), none, some (.int v2), none] rfl ?_
        exact ok_X11_freedIn_53 hC hnt h
      · rw [if_pos c8] at h
        refine v_aload_n hC dX11_freedIn_24 rfl ?_
        obtain ⟨r9, M10, q11, h⟩ := bnd_some h
        refine w_callVi hC [] [] (ok_X11_heldOnes q11) mv_X11_heldOnes aw_1644 ly_208 rfl (Nat.le_of_ble_eq_true rfl) ⟨by decide, by decide⟩ ⟨by decide, by decide⟩ dX11_freedIn_25 ?_
        refine v_iload_n hC dX11_freedIn_28 rfl ?_
        refine v_iand hC dX11_freedIn_29 ?_
        refine v_if_ne hC 37 dX11_freedIn_30 rfl (fun c12 => ?_) (fun c12 => ?_)
        · rw [if_neg c12] at h
          refine v_ldcw hC aw_1639 dX11_freedIn_37 ?_
          refine v_drop [true, true, false, true] [some (.ref 208), some (.int v1), none, some (.int v3)] rfl ?_
          exact ok_X11_freedIn_40 hC hnt (fun v1 v2 v3 M r M' h => ih v1 v2 v3 M r M' h) h
        · rw [if_pos c12] at h
          refine v_iload_n hC dX11_freedIn_33 rfl ?_
          refine v_goto (tg := 40) hC dX11_freedIn_34 rfl ?_
          refine v_drop [true, true, false, true] [some (.ref 208), some (.int v1), none, some (.int v3)] rfl ?_
          exact ok_X11_freedIn_40 hC hnt (fun v1 v2 v3 M r M' h => ih v1 v2 v3 M r M' h) h
set_option maxRecDepth 20000 in
set_option maxHeartbeats 4000000 in
theorem ok_X11_freedIn {l : Launch} {N : Nat} {v1 : Int32} {M : Mm} {r : Int32} {M' : Mm} (h : f_X11_freedIn N v1 M = some (r, M')) : am_M l yX11_freedIn cX11_freedIn 4 (some .int) 10 0 0 LY M [.ref 208, .int v1] (.inl (some (.int r))) M' := by
  unfold f_X11_freedIn at h
  refine am_intro (by decide) (by simp [Value.category]) (Nat.le_of_ble_eq_true rfl) (fun X hC hnt => ?_)
  refine am_start (L := [some (.ref 208), some (.int v1), none, none]) rfl ?_
  refine v_ldcw hC aw_1639 dX11_freedIn_0 ?_
  refine w_istore_n hC dX11_freedIn_3 (ltk rfl) [some (.ref 208), some (.int v1), some (.int (1000000 : Int32)), none] rfl ?_
  refine v_aload_n hC dX11_freedIn_4 rfl ?_
  obtain ⟨r1, M2, q3, h⟩ := bnd_some h
  refine w_callVv hC [] [] (ok_X11_keepsAll q3) mv_X11_keepsAll aw_1640 ly_208 rfl (Nat.le_of_ble_eq_true rfl) ⟨by decide, by decide⟩ ⟨by decide, by decide⟩ dX11_freedIn_5 ?_
  refine v_iconst (v := (0 : Int32)) hC dX11_freedIn_8 rfl ?_
  refine w_istore_n hC dX11_freedIn_9 (ltk rfl) [some (.ref 208), some (.int v1), some (.int (1000000 : Int32)), some (.int (0 : Int32))] rfl ?_
  exact ok_X11_freedIn_10 hC hnt N _ _ _ _ _ _ h
def f_X11_orNone (N : Nat) (v0 : Int32) (M : Mm) : Option (Int32 × Mm) :=
  (if v0 < (1000000 : Int32) then some (v0, M) else some ((-1 : Int32), M))
set_option maxRecDepth 20000 in
set_option maxHeartbeats 4000000 in
theorem ok_X11_orNone {l : Launch} {N : Nat} {v0 : Int32} {M : Mm} {r : Int32} {M' : Mm} (h : f_X11_orNone N v0 M = some (r, M')) : am_M l yX11_orNone cX11_orNone 1 (some .int) 1 0 0 LY M [.int v0] (.inl (some (.int r))) M' := by
  unfold f_X11_orNone at h
  refine am_intro (by decide) (by simp [Value.category]) (Nat.le_of_ble_eq_true rfl) (fun X hC hnt => ?_)
  refine am_start (L := [some (.int v0)]) rfl ?_
  refine v_iload_n hC dX11_orNone_0 rfl ?_
  refine v_ldcw hC aw_1639 dX11_orNone_1 ?_
  refine v_icmp_lt hC 11 dX11_orNone_4 rfl (fun c1 => ?_) (fun c1 => ?_)
  · rw [if_pos c1] at h
    refine v_iload_n hC dX11_orNone_11 rfl ?_
    cases h
    exact v_iret hC (by decide) (by decide) dX11_orNone_12
  · rw [if_neg c1] at h
    refine v_iconst (v := (-1 : Int32)) hC dX11_orNone_7 rfl ?_
    refine v_goto (tg := 12) hC dX11_orNone_8 rfl ?_
    cases h
    exact v_iret hC (by decide) (by decide) dX11_orNone_12
def f_X11_frees (N : Nat) (v1 : Int32) (M : Mm) : Option (Int32 × Mm) :=
  lt (wr M 208 0 (0 : Int32)) (fun M1 => bnd (f_X11_noCellar N v1 M1) (fun r2 M3 => bnd (f_X11_throwsIf N r2 (1 : Int32) M3) (fun r5 M6 => (if r5 = (0 : Int32) then bnd (f_X11_freedIn N ((1 : Int32) <<< (v1 &&& 31)) M6) (fun r9 M10 => bnd (f_X11_orNone N r9 M10) (fun r12 M13 => some (r12, M13))) else some ((0 : Int32), M6)))))
set_option maxRecDepth 20000 in
set_option maxHeartbeats 4000000 in
theorem ok_X11_frees {l : Launch} {N : Nat} {v1 : Int32} {M : Mm} {r : Int32} {M' : Mm} (h : f_X11_frees N v1 M = some (r, M')) : am_M l yX11_frees cX11_frees 2 (some .int) 11 0 0 LY M [.ref 208, .int v1] (.inl (some (.int r))) M' := by
  unfold f_X11_frees at h
  refine am_intro (by decide) (by simp [Value.category]) (Nat.le_of_ble_eq_true rfl) (fun X hC hnt => ?_)
  refine am_start (L := [some (.ref 208), some (.int v1)]) rfl ?_
  refine v_aload_n hC dX11_frees_0 rfl ?_
  refine v_iconst (v := (0 : Int32)) hC dX11_frees_1 rfl ?_
  obtain ⟨M1, e_M1, h⟩ := lt_some h
  refine w_puti (k := 0) hC cls_X11 ly_208 (by decide) rfl aw_1231 rfl rfl ⟨rfl, rfl⟩ dX11_frees_2 e_M1 ?_
  refine v_aload_n hC dX11_frees_5 rfl ?_
  refine v_aload_n hC dX11_frees_6 rfl ?_
  refine v_iload_n hC dX11_frees_7 rfl ?_
  obtain ⟨r2, M3, q4, h⟩ := bnd_some h
  refine w_callVi hC [.int v1] [.ref 208] (ok_X11_noCellar q4) mv_X11_noCellar aw_1502 ly_208 rfl (Nat.le_of_ble_eq_true rfl) ⟨by decide, by decide⟩ ⟨by decide, by decide⟩ dX11_frees_8 ?_
  refine v_iconst (v := (1 : Int32)) hC dX11_frees_11 rfl ?_
  obtain ⟨r5, M6, q7, h⟩ := bnd_some h
  refine w_callVi hC [.int r2, .int (1 : Int32)] [] (ok_X11_throwsIf q7) mv_X11_throwsIf aw_1470 ly_208 rfl (Nat.le_of_ble_eq_true rfl) ⟨by decide, by decide⟩ ⟨by decide, by decide⟩ dX11_frees_12 ?_
  refine v_if_eq hC 22 dX11_frees_15 rfl (fun c8 => ?_) (fun c8 => ?_)
  · rw [if_pos c8] at h
    refine v_aload_n hC dX11_frees_22 rfl ?_
    refine v_iconst (v := (1 : Int32)) hC dX11_frees_23 rfl ?_
    refine v_iload_n hC dX11_frees_24 rfl ?_
    refine v_ishl hC dX11_frees_25 ?_
    obtain ⟨r9, M10, q11, h⟩ := bnd_some h
    refine w_callVi hC [.int ((1 : Int32) <<< (v1 &&& 31))] [] (ok_X11_freedIn q11) mv_X11_freedIn aw_1635 ly_208 rfl (Nat.le_of_ble_eq_true rfl) ⟨by decide, by decide⟩ ⟨by decide, by decide⟩ dX11_frees_26 ?_
    obtain ⟨r12, M13, q14, h⟩ := bnd_some h
    refine w_callSi hC [.int r9] [] (ok_X11_orNone q14) ms_X11_orNone aw_1652 rfl (Nat.le_of_ble_eq_true rfl) ⟨by decide, by decide⟩ ⟨by decide, by decide⟩ dX11_frees_29 ?_
    cases h
    exact v_iret hC (by decide) (by decide) dX11_frees_32
  · rw [if_neg c8] at h
    refine v_iconst (v := (0 : Int32)) hC dX11_frees_18 rfl ?_
    refine v_goto (tg := 32) hC dX11_frees_19 rfl ?_
    cases h
    exact v_iret hC (by decide) (by decide) dX11_frees_32
def f_X11_all (N : Nat) (M : Mm) : Option (Int32 × Mm) :=
  lt (wr M 208 0 (0 : Int32)) (fun M1 => bnd (f_X11_freedIn N (31 : Int32) M1) (fun r2 M3 => bnd (f_X11_orNone N r2 M3) (fun r5 M6 => some (r5, M6))))
set_option maxRecDepth 20000 in
set_option maxHeartbeats 4000000 in
theorem ok_X11_all {l : Launch} {N : Nat} {M : Mm} {r : Int32} {M' : Mm} (h : f_X11_all N M = some (r, M')) : am_M l yX11_all cX11_all 1 (some .int) 11 0 0 LY M [.ref 208] (.inl (some (.int r))) M' := by
  unfold f_X11_all at h
  refine am_intro (by decide) (by simp [Value.category]) (Nat.le_of_ble_eq_true rfl) (fun X hC hnt => ?_)
  refine am_start (L := [some (.ref 208)]) rfl ?_
  refine v_aload_n hC dX11_all_0 rfl ?_
  refine v_iconst (v := (0 : Int32)) hC dX11_all_1 rfl ?_
  obtain ⟨M1, e_M1, h⟩ := lt_some h
  refine w_puti (k := 0) hC cls_X11 ly_208 (by decide) rfl aw_1231 rfl rfl ⟨rfl, rfl⟩ dX11_all_2 e_M1 ?_
  refine v_aload_n hC dX11_all_5 rfl ?_
  refine v_bipush (v := (31 : Int32)) hC dX11_all_6 rfl ?_
  obtain ⟨r2, M3, q4, h⟩ := bnd_some h
  refine w_callVi hC [.int (31 : Int32)] [] (ok_X11_freedIn q4) mv_X11_freedIn aw_1635 ly_208 rfl (Nat.le_of_ble_eq_true rfl) ⟨by decide, by decide⟩ ⟨by decide, by decide⟩ dX11_all_8 ?_
  obtain ⟨r5, M6, q7, h⟩ := bnd_some h
  refine w_callSi hC [.int r2] [] (ok_X11_orNone q7) ms_X11_orNone aw_1652 rfl (Nat.le_of_ble_eq_true rfl) ⟨by decide, by decide⟩ ⟨by decide, by decide⟩ dX11_all_11 ?_
  cases h
  exact v_iret hC (by decide) (by decide) dX11_all_14
def f_X11_held (N : Nat) (M : Mm) : Option (Int32 × Mm) :=
  lt (wr M 208 0 (0 : Int32)) (fun M1 => bnd (f_X11_heldOnes N M1) (fun r2 M3 => some (r2, M3)))
set_option maxRecDepth 20000 in
set_option maxHeartbeats 4000000 in
theorem ok_X11_held {l : Launch} {N : Nat} {M : Mm} {r : Int32} {M' : Mm} (h : f_X11_held N M = some (r, M')) : am_M l yX11_held cX11_held 1 (some .int) 5 0 0 LY M [.ref 208] (.inl (some (.int r))) M' := by
  unfold f_X11_held at h
  refine am_intro (by decide) (by simp [Value.category]) (Nat.le_of_ble_eq_true rfl) (fun X hC hnt => ?_)
  refine am_start (L := [some (.ref 208)]) rfl ?_
  refine v_aload_n hC dX11_held_0 rfl ?_
  refine v_iconst (v := (0 : Int32)) hC dX11_held_1 rfl ?_
  obtain ⟨M1, e_M1, h⟩ := lt_some h
  refine w_puti (k := 0) hC cls_X11 ly_208 (by decide) rfl aw_1231 rfl rfl ⟨rfl, rfl⟩ dX11_held_2 e_M1 ?_
  refine v_aload_n hC dX11_held_5 rfl ?_
  obtain ⟨r2, M3, q4, h⟩ := bnd_some h
  refine w_callVi hC [] [] (ok_X11_heldOnes q4) mv_X11_heldOnes aw_1644 ly_208 rfl (Nat.le_of_ble_eq_true rfl) ⟨by decide, by decide⟩ ⟨by decide, by decide⟩ dX11_held_6 ?_
  cases h
  exact v_iret hC (by decide) (by decide) dX11_held_9
def f_X11_noAhead (N : Nat) (v0 : Int32) (M : Mm) : Option (Int32 × Mm) :=
  bnd (f_X11_in N v0 (0 : Int32) (200 : Int32) M) (fun r1 M2 => (if r1 = (0 : Int32) then some ((1 : Int32), M2) else some ((0 : Int32), M2)))
set_option maxRecDepth 20000 in
set_option maxHeartbeats 4000000 in
theorem ok_X11_noAhead {l : Launch} {N : Nat} {v0 : Int32} {M : Mm} {r : Int32} {M' : Mm} (h : f_X11_noAhead N v0 M = some (r, M')) : am_M l yX11_noAhead cX11_noAhead 1 (some .boolean) 2 0 0 LY M [.int v0] (.inl (some (.int r))) M' := by
  unfold f_X11_noAhead at h
  refine am_intro (by decide) (by simp [Value.category]) (Nat.le_of_ble_eq_true rfl) (fun X hC hnt => ?_)
  refine am_start (L := [some (.int v0)]) rfl ?_
  refine v_iload_n hC dX11_noAhead_0 rfl ?_
  refine v_iconst (v := (0 : Int32)) hC dX11_noAhead_1 rfl ?_
  refine v_sipush (v := (200 : Int32)) hC dX11_noAhead_2 rfl ?_
  obtain ⟨r1, M2, q3, h⟩ := bnd_some h
  refine w_callSi hC [.int v0, .int (0 : Int32), .int (200 : Int32)] [] (ok_X11_in q3) ms_X11_in aw_1404 rfl (Nat.le_of_ble_eq_true rfl) ⟨by decide, by decide⟩ ⟨by decide, by decide⟩ dX11_noAhead_5 ?_
  refine v_if_ne hC 15 dX11_noAhead_8 rfl (fun c4 => ?_) (fun c4 => ?_)
  · rw [if_neg c4] at h
    refine v_iconst (v := (0 : Int32)) hC dX11_noAhead_15 rfl ?_
    cases h
    exact v_zret hC (by decide) (by decide) (by decide) dX11_noAhead_16
  · rw [if_pos c4] at h
    refine v_iconst (v := (1 : Int32)) hC dX11_noAhead_11 rfl ?_
    refine v_goto (tg := 16) hC dX11_noAhead_12 rfl ?_
    cases h
    exact v_zret hC (by decide) (by decide) (by decide) dX11_noAhead_16
def f_X11_laysTakes_34 (N : Nat) (k27 : Int32 → Int32 → Mm → Option (Int32 × Mm)) : Nat → Int32 → Int32 → Int32 → Mm → Option (Int32 × Mm)
  | 0, _, _, _, _ => none
  | n + 1, v1, v2, v3, M => bnd (f_X11_cellars N M) (fun r9 M10 => (if r9 ≤ v3 then bnd (f_X11_passesOn N M10) (fun r13 M14 => k27 v1 (v2 + (1 : Int32)) M14) else bnd (f_X11_eaterOf N v3 M10) (fun r17 M18 => bnd (f_X11_eats N v3 M18) (fun r20 M21 => (if r17 = (-1 : Int32) then f_X11_laysTakes_34 N k27 n v1 v2 (v3 + (1 : Int32)) M21 else grd (inb r17 8) (grd (inb r17 8) (lt (wr M21 217 (r17).toNatClampNeg ((M21 217 (r17).toNatClampNeg) + r20)) (fun M27 => f_X11_laysTakes_34 N k27 n v1 v2 (v3 + (1 : Int32)) M27))))))))
def f_X11_laysTakes_27 (N : Nat) : Nat → Int32 → Int32 → Mm → Option (Int32 × Mm)
  | 0, _, _, _ => none
  | n + 1, v1, v2, M => (if v1 ≤ v2 then bnd (f_X11_bringsBack N M) (fun r6 M7 => some (0, M7)) else f_X11_laysTakes_34 N (fun v1 v2 M => f_X11_laysTakes_27 N n v1 v2 M) N v1 v2 (0 : Int32) M)
def f_X11_laysTakes_6 (N : Nat) : Nat → Int32 → Int32 → Mm → Option (Int32 × Mm)
  | 0, _, _, _ => none
  | n + 1, v1, v2, M => (if (8 : Int32) ≤ v2 then f_X11_laysTakes_27 N N v1 (0 : Int32) M else grd (inb v2 8) (lt (wr M 217 (v2).toNatClampNeg (0 : Int32)) (fun M30 => f_X11_laysTakes_6 N n v1 (v2 + (1 : Int32)) M30)))
def f_X11_laysTakes (N : Nat) (v1 : Int32) (M : Mm) : Option (Int32 × Mm) :=
  bnd (f_X11_keepsAll N M) (fun r1 M2 => f_X11_laysTakes_6 N N v1 (0 : Int32) M2)
set_option maxRecDepth 20000 in
set_option maxHeartbeats 4000000 in
theorem ok_X11_laysTakes_34 {N : Nat} {X : am_X} {l : Launch} (hC : am_C X l (am_rm 9 0 0) cX11_laysTakes yX11_laysTakes.cls none) (hnt : am_NT X) {k27 : Int32 → Int32 → Mm → Option (Int32 × Mm)} (hk27 : ∀ (v1 v2 : Int32) (M : Mm) (r : Int32) (M' : Mm), k27 v1 v2 M = some (r, M') → am_V X LY M 0 0 (am_Q X LY 0 0 (.inl none) M') 27 [some (.ref 208), some (.int v1), some (.int v2), none, none, none] []) : ∀ (n : Nat) (v1 v2 v3 : Int32) (M : Mm) (r : Int32) (M' : Mm), f_X11_laysTakes_34 N k27 n v1 v2 v3 M = some (r, M') → am_V X LY M 0 0 (am_Q X LY 0 0 (.inl none) M') 34 [some (.ref 208), some (.int v1), some (.int v2), some (.int v3), none, none] [] := by
  intro n
  induction n with
  | zero => intro v1 v2 v3 M r M' h; cases h
  | succ n ih =>
    intro v1 v2 v3 M r M' h
    simp only [f_X11_laysTakes_34] at h
    refine v_iload_n hC dX11_laysTakes_34 rfl ?_
    refine v_aload_n hC dX11_laysTakes_35 rfl ?_
    obtain ⟨r9, M10, q11, h⟩ := bnd_some h
    refine w_callVi hC [] [.int v3] (ok_X11_cellars q11) mv_X11_cellars aw_1397 ly_208 rfl (Nat.le_of_ble_eq_true rfl) ⟨by decide, by decide⟩ ⟨by decide, by decide⟩ dX11_laysTakes_36 ?_
    refine v_icmp_ge hC 80 dX11_laysTakes_39 rfl (fun c12 => ?_) (fun c12 => ?_)
    · rw [if_pos c12] at h
      refine v_aload_n hC dX11_laysTakes_80 rfl ?_
      obtain ⟨r13, M14, q15, h⟩ := bnd_some h
      refine w_callVv hC [] [] (ok_X11_passesOn q15) mv_X11_passesOn aw_1627 ly_208 rfl (Nat.le_of_ble_eq_true rfl) ⟨by decide, by decide⟩ ⟨by decide, by decide⟩ dX11_laysTakes_81 ?_
      refine w_iinc hC (v2 + (1 : Int32)) dX11_laysTakes_84 rfl rfl [some (.ref 208), some (.int v1), some (.int (v2 + (1 : Int32))), some (.int v3), none, none] rfl ?_
      refine v_goto (tg := 27) hC dX11_laysTakes_87 rfl ?_
      refine v_drop [true, true, true, false, false, false] [some (.ref 208), some (.int v1), some (.int (v2 + (1 : Int32))), none, none, none] rfl ?_
      exact hk27 _ _ _ _ _ h
    · rw [if_neg c12] at h
      refine v_aload_n hC dX11_laysTakes_42 rfl ?_
      refine v_iload_n hC dX11_laysTakes_43 rfl ?_
      obtain ⟨r17, M18, q19, h⟩ := bnd_some h
      refine w_callVi hC [.int v3] [] (ok_X11_eaterOf q19) mv_X11_eaterOf aw_1506 ly_208 rfl (Nat.le_of_ble_eq_true rfl) ⟨by decide, by decide⟩ ⟨by decide, by decide⟩ dX11_laysTakes_44 ?_
      refine w_istore hC dX11_laysTakes_47 (ltk rfl) [some (.ref 208), some (.int v1), some (.int v2), some (.int v3), some (.int r17), none] rfl ?_
      refine v_aload_n hC dX11_laysTakes_49 rfl ?_
      refine v_iload_n hC dX11_laysTakes_50 rfl ?_
      obtain ⟨r20, M21, q22, h⟩ := bnd_some h
      refine w_callVi hC [.int v3] [] (ok_X11_eats q22) mv_X11_eats aw_1606 ly_208 rfl (Nat.le_of_ble_eq_true rfl) ⟨by decide, by decide⟩ ⟨by decide, by decide⟩ dX11_laysTakes_51 ?_
      refine w_istore hC dX11_laysTakes_54 (ltk rfl) [some (.ref 208), some (.int v1), some (.int v2), some (.int v3), some (.int r17), some (.int r20)] rfl ?_
      refine v_iload hC dX11_laysTakes_56 rfl ?_
      refine v_iconst (v := (-1 : Int32)) hC dX11_laysTakes_58 rfl ?_
      refine v_icmp_eq hC 74 dX11_laysTakes_59 rfl (fun c23 => ?_) (fun c23 => ?_)
      · rw [if_pos c23] at h
        refine w_iinc hC (v3 + (1 : Int32)) dX11_laysTakes_74 rfl rfl [some (.ref 208), some (.int v1), some (.int v2), some (.int (v3 + (1 : Int32))), some (.int r17), some (.int r20)] rfl ?_
        refine v_goto (tg := 34) hC dX11_laysTakes_77 rfl ?_
        refine v_drop [true, true, true, true, false, false] [some (.ref 208), some (.int v1), some (.int v2), some (.int (v3 + (1 : Int32))), none, none] rfl ?_
        exact ih _ _ _ _ _ _ h
      · rw [if_neg c23] at h
        refine v_aload_n hC dX11_laysTakes_62 rfl ?_
        refine v_geta (k := 19) (b := 217) hC cls_X11 ly_208 (by decide) rfl aw_1250 rfl dX11_laysTakes_63 ?_
        refine v_iload hC dX11_laysTakes_66 rfl ?_
        refine v_dup2 hC dX11_laysTakes_68 rfl rfl ?_
        obtain ⟨g25, h⟩ := grd_some h
        refine v_iald hC ly_217 (inb_in g25) dX11_laysTakes_69 ?_
        refine v_iload hC dX11_laysTakes_70 rfl ?_
        refine v_iadd hC dX11_laysTakes_72 ?_
        obtain ⟨g26, h⟩ := grd_some h
        obtain ⟨M27, e_M27, h⟩ := lt_some h
        refine w_iast hC ly_217 (inb_in g26) dX11_laysTakes_73 e_M27 ?_
        refine w_iinc hC (v3 + (1 : Int32)) dX11_laysTakes_74 rfl rfl [some (.ref 208), some (.int v1), some (.int v2), some (.int (v3 + (1 : Int32))), some (.int r17), some (.int r20)] rfl ?_
        refine v_goto (tg := 34) hC dX11_laysTakes_77 rfl ?_
        refine v_drop [true, true, true, true, false, false] [some (.ref 208), some (.int v1), some (.int v2), some (.int (v3 + (1 : Int32))), none, none] rfl ?_
        exact ih _ _ _ _ _ _ h
set_option maxRecDepth 20000 in
set_option maxHeartbeats 4000000 in
theorem ok_X11_laysTakes_27 {N : Nat} {X : am_X} {l : Launch} (hC : am_C X l (am_rm 9 0 0) cX11_laysTakes yX11_laysTakes.cls none) (hnt : am_NT X) : ∀ (n : Nat) (v1 v2 : Int32) (M : Mm) (r : Int32) (M' : Mm), f_X11_laysTakes_27 N n v1 v2 M = some (r, M') → am_V X LY M 0 0 (am_Q X LY 0 0 (.inl none) M') 27 [some (.ref 208), some (.int v1), some (.int v2), none, none, none] [] := by
  intro n
  induction n with
  | zero => intro v1 v2 M r M' h; cases h
  | succ n ih =>
    intro v1 v2 M r M' h
    simp only [f_X11_laysTakes_27] at h
    refine v_iload_n hC dX11_laysTakes_27 rfl ?_
    refine v_iload_n hC dX11_laysTakes_28 rfl ?_
    refine v_icmp_ge hC 90 dX11_laysTakes_29 rfl (fun c5 => ?_) (fun c5 => ?_)
    · rw [if_pos c5] at h
      refine v_aload_n hC dX11_laysTakes_90 rfl ?_
      obtain ⟨r6, M7, q8, h⟩ := bnd_some h
      refine w_callVv hC [] [] (ok_X11_bringsBack q8) mv_X11_bringsBack aw_1648 ly_208 rfl (Nat.le_of_ble_eq_true rfl) ⟨by decide, by decide⟩ ⟨by decide, by decide⟩ dX11_laysTakes_91 ?_
      cases h
      exact v_vret hC (by decide) (by decide) dX11_laysTakes_94
    · rw [if_neg c5] at h
      refine v_iconst (v := (0 : Int32)) hC dX11_laysTakes_32 rfl ?_
      refine w_istore_n hC dX11_laysTakes_33 (ltk rfl) [some (.ref 208), some (.int v1), some (.int v2), some (.int (0 : Int32)), none, none] rfl ?_
      exact ok_X11_laysTakes_34 hC hnt (fun v1 v2 M r M' h => ih v1 v2 M r M' h) N _ _ _ _ _ _ h
set_option maxRecDepth 20000 in
set_option maxHeartbeats 4000000 in
theorem ok_X11_laysTakes_6 {N : Nat} {X : am_X} {l : Launch} (hC : am_C X l (am_rm 9 0 0) cX11_laysTakes yX11_laysTakes.cls none) (hnt : am_NT X) : ∀ (n : Nat) (v1 v2 : Int32) (M : Mm) (r : Int32) (M' : Mm), f_X11_laysTakes_6 N n v1 v2 M = some (r, M') → am_V X LY M 0 0 (am_Q X LY 0 0 (.inl none) M') 6 [some (.ref 208), some (.int v1), some (.int v2), none, none, none] [] := by
  intro n
  induction n with
  | zero => intro v1 v2 M r M' h; cases h
  | succ n ih =>
    intro v1 v2 M r M' h
    simp only [f_X11_laysTakes_6] at h
    refine v_iload_n hC dX11_laysTakes_6 rfl ?_
    refine v_bipush (v := (8 : Int32)) hC dX11_laysTakes_7 rfl ?_
    refine v_icmp_ge hC 25 dX11_laysTakes_9 rfl (fun c4 => ?_) (fun c4 => ?_)
    · rw [if_pos c4] at h
      refine v_iconst (v := (0 : Int32)) hC dX11_laysTakes_25 rfl ?_
      refine w_istore_n hC dX11_laysTakes_26 (ltk rfl) [some (.ref 208), some (.int v1), some (.int (0 : Int32)), none, none, none] rfl ?_
      exact ok_X11_laysTakes_27 hC hnt N _ _ _ _ _ h
    · rw [if_neg c4] at h
      refine v_aload_n hC dX11_laysTakes_12 rfl ?_
      refine v_geta (k := 19) (b := 217) hC cls_X11 ly_208 (by decide) rfl aw_1250 rfl dX11_laysTakes_13 ?_
      refine v_iload_n hC dX11_laysTakes_16 rfl ?_
      refine v_iconst (v := (0 : Int32)) hC dX11_laysTakes_17 rfl ?_
      obtain ⟨g29, h⟩ := grd_some h
      obtain ⟨M30, e_M30, h⟩ := lt_some h
      refine w_iast hC ly_217 (inb_in g29) dX11_laysTakes_18 e_M30 ?_
      refine w_iinc hC (v2 + (1 : Int32)) dX11_laysTakes_19 rfl rfl [some (.ref 208), some (.int v1), some (.int (v2 + (1 : Int32))), none, none, none] rfl ?_
      refine v_goto (tg := 6) hC dX11_laysTakes_22 rfl ?_
      exact ih _ _ _ _ _ h
set_option maxRecDepth 20000 in
set_option maxHeartbeats 4000000 in
theorem ok_X11_laysTakes {l : Launch} {N : Nat} {v1 : Int32} {M : Mm} {r : Int32} {M' : Mm} (h : f_X11_laysTakes N v1 M = some (r, M')) : am_M l yX11_laysTakes cX11_laysTakes 6 none 9 0 0 LY M [.ref 208, .int v1] (.inl none) M' := by
  unfold f_X11_laysTakes at h
  refine am_intro (by decide) (by simp [Value.category]) (Nat.le_of_ble_eq_true rfl) (fun X hC hnt => ?_)
  refine am_start (L := [some (.ref 208), some (.int v1), none, none, none, none]) rfl ?_
  refine v_aload_n hC dX11_laysTakes_0 rfl ?_
  obtain ⟨r1, M2, q3, h⟩ := bnd_some h
  refine w_callVv hC [] [] (ok_X11_keepsAll q3) mv_X11_keepsAll aw_1640 ly_208 rfl (Nat.le_of_ble_eq_true rfl) ⟨by decide, by decide⟩ ⟨by decide, by decide⟩ dX11_laysTakes_1 ?_
  refine v_iconst (v := (0 : Int32)) hC dX11_laysTakes_4 rfl ?_
  refine w_istore_n hC dX11_laysTakes_5 (ltk rfl) [some (.ref 208), some (.int v1), some (.int (0 : Int32)), none, none, none] rfl ?_
  exact ok_X11_laysTakes_6 hC hnt N _ _ _ _ _ h
def f_X11_takes (N : Nat) (v1 : Int32) (v2 : Int32) (M : Mm) : Option (Int32 × Mm) :=
  lt (wr M 208 0 (0 : Int32)) (fun M1 => bnd (f_X11_noDiner N v1 M1) (fun r2 M3 => bnd (f_X11_throwsIf N r2 (1 : Int32) M3) (fun r5 M6 => (if r5 = (0 : Int32) then bnd (f_X11_noAhead N v2 M6) (fun r9 M10 => bnd (f_X11_throwsIf N r9 (2 : Int32) M10) (fun r12 M13 => (if r12 = (0 : Int32) then bnd (f_X11_laysTakes N v2 M13) (fun r16 M17 => grd (inb v1 8) (some ((M17 217 (v1).toNatClampNeg), M17))) else some ((0 : Int32), M13)))) else some ((0 : Int32), M6)))))
set_option maxRecDepth 20000 in
set_option maxHeartbeats 4000000 in
theorem ok_X11_takes {l : Launch} {N : Nat} {v1 v2 : Int32} {M : Mm} {r : Int32} {M' : Mm} (h : f_X11_takes N v1 v2 M = some (r, M')) : am_M l yX11_takes cX11_takes 3 (some .int) 10 0 0 LY M [.ref 208, .int v1, .int v2] (.inl (some (.int r))) M' := by
  unfold f_X11_takes at h
  refine am_intro (by decide) (by simp [Value.category]) (Nat.le_of_ble_eq_true rfl) (fun X hC hnt => ?_)
  refine am_start (L := [some (.ref 208), some (.int v1), some (.int v2)]) rfl ?_
  refine v_aload_n hC dX11_takes_0 rfl ?_
  refine v_iconst (v := (0 : Int32)) hC dX11_takes_1 rfl ?_
  obtain ⟨M1, e_M1, h⟩ := lt_some h
  refine w_puti (k := 0) hC cls_X11 ly_208 (by decide) rfl aw_1231 rfl rfl ⟨rfl, rfl⟩ dX11_takes_2 e_M1 ?_
  refine v_aload_n hC dX11_takes_5 rfl ?_
  refine v_aload_n hC dX11_takes_6 rfl ?_
  refine v_iload_n hC dX11_takes_7 rfl ?_
  obtain ⟨r2, M3, q4, h⟩ := bnd_some h
  refine w_callVi hC [.int v1] [.ref 208] (ok_X11_noDiner q4) mv_X11_noDiner aw_1482 ly_208 rfl (Nat.le_of_ble_eq_true rfl) ⟨by decide, by decide⟩ ⟨by decide, by decide⟩ dX11_takes_8 ?_
  refine v_iconst (v := (1 : Int32)) hC dX11_takes_11 rfl ?_
  obtain ⟨r5, M6, q7, h⟩ := bnd_some h
  refine w_callVi hC [.int r2, .int (1 : Int32)] [] (ok_X11_throwsIf q7) mv_X11_throwsIf aw_1470 ly_208 rfl (Nat.le_of_ble_eq_true rfl) ⟨by decide, by decide⟩ ⟨by decide, by decide⟩ dX11_takes_12 ?_
  refine v_if_ne hC 30 dX11_takes_15 rfl (fun c8 => ?_) (fun c8 => ?_)
  · rw [if_neg c8] at h
    refine v_iconst (v := (0 : Int32)) hC dX11_takes_30 rfl ?_
    cases h
    exact v_iret hC (by decide) (by decide) dX11_takes_31
  · rw [if_pos c8] at h
    refine v_aload_n hC dX11_takes_18 rfl ?_
    refine v_iload_n hC dX11_takes_19 rfl ?_
    obtain ⟨r9, M10, q11, h⟩ := bnd_some h
    refine w_callSi hC [.int v2] [.ref 208] (ok_X11_noAhead q11) ms_X11_noAhead aw_1667 rfl (Nat.le_of_ble_eq_true rfl) ⟨by decide, by decide⟩ ⟨by decide, by decide⟩ dX11_takes_20 ?_
    refine v_iconst (v := (2 : Int32)) hC dX11_takes_23 rfl ?_
    obtain ⟨r12, M13, q14, h⟩ := bnd_some h
    refine w_callVi hC [.int r9, .int (2 : Int32)] [] (ok_X11_throwsIf q14) mv_X11_throwsIf aw_1470 ly_208 rfl (Nat.le_of_ble_eq_true rfl) ⟨by decide, by decide⟩ ⟨by decide, by decide⟩ dX11_takes_24 ?_
    refine v_if_eq hC 32 dX11_takes_27 rfl (fun c15 => ?_) (fun c15 => ?_)
    · rw [if_pos c15] at h
      refine v_aload_n hC dX11_takes_32 rfl ?_
      refine v_iload_n hC dX11_takes_33 rfl ?_
      obtain ⟨r16, M17, q18, h⟩ := bnd_some h
      refine w_callVv hC [.int v2] [] (ok_X11_laysTakes q18) mv_X11_laysTakes aw_1670 ly_208 rfl (Nat.le_of_ble_eq_true rfl) ⟨by decide, by decide⟩ ⟨by decide, by decide⟩ dX11_takes_34 ?_
      refine v_aload_n hC dX11_takes_37 rfl ?_
      refine v_geta (k := 19) (b := 217) hC cls_X11 ly_208 (by decide) rfl aw_1250 rfl dX11_takes_38 ?_
      refine v_iload_n hC dX11_takes_41 rfl ?_
      obtain ⟨g19, h⟩ := grd_some h
      refine v_iald hC ly_217 (inb_in g19) dX11_takes_42 ?_
      cases h
      exact v_iret hC (by decide) (by decide) dX11_takes_43
    · rw [if_neg c15] at h
      refine v_iconst (v := (0 : Int32)) hC dX11_takes_30 rfl ?_
      cases h
      exact v_iret hC (by decide) (by decide) dX11_takes_31
def f_X11_keenest_55 (N : Nat) (k28 : Int32 → Int32 → Mm → Option (Int32 × Mm)) (v3 : Int32) (M : Mm) : Option (Int32 × Mm) :=
  k28 v3 (v3 + (1 : Int32)) M
def f_X11_keenest_28 (N : Nat) : Nat → Int32 → Int32 → Mm → Option (Int32 × Mm)
  | 0, _, _, _ => none
  | n + 1, v2, v3, M => bnd (f_X11_diners N M) (fun r12 M13 => (if r12 ≤ v3 then some (v2, M13) else (if v2 < (0 : Int32) then f_X11_keenest_55 N (fun v2 v3 M => f_X11_keenest_28 N n v2 v3 M) v3 M13 else grd (inb v3 8) (grd (inb v2 8) ((if (M13 217 (v3).toNatClampNeg) ≤ (M13 217 (v2).toNatClampNeg) then f_X11_keenest_28 N n v2 (v3 + (1 : Int32)) M13 else f_X11_keenest_55 N (fun v2 v3 M => f_X11_keenest_28 N n v2 v3 M) v3 M13))))))
def f_X11_keenest (N : Nat) (v1 : Int32) (M : Mm) : Option (Int32 × Mm) :=
  lt (wr M 208 0 (0 : Int32)) (fun M1 => bnd (f_X11_noAhead N v1 M1) (fun r2 M3 => bnd (f_X11_throwsIf N r2 (1 : Int32) M3) (fun r5 M6 => (if r5 = (0 : Int32) then bnd (f_X11_laysTakes N v1 M6) (fun r9 M10 => f_X11_keenest_28 N N (-1 : Int32) (0 : Int32) M10) else some ((0 : Int32), M6)))))
set_option maxRecDepth 20000 in
set_option maxHeartbeats 4000000 in
theorem ok_X11_keenest_55 {N : Nat} {X : am_X} {l : Launch} (hC : am_C X l (am_rm 10 0 0) cX11_keenest yX11_keenest.cls (some .int)) (hnt : am_NT X) {k28 : Int32 → Int32 → Mm → Option (Int32 × Mm)} (hk28 : ∀ (v2 v3 : Int32) (M : Mm) (r : Int32) (M' : Mm), k28 v2 v3 M = some (r, M') → am_V X LY M 0 0 (am_Q X LY 0 0 (.inl (some (.int r))) M') 28 [some (.ref 208), none, some (.int v2), some (.int v3)] []) {v3 : Int32} {M : Mm} {r : Int32} {M' : Mm} (h : f_X11_keenest_55 N k28 v3 M = some (r, M')) : am_V X LY M 0 0 (am_Q X LY 0 0 (.inl (some (.int r))) M') 55 [some (.ref 208), none, none, some (.int v3)] [] := by
  unfold f_X11_keenest_55 at h
  refine v_iload_n hC dX11_keenest_55 rfl ?_
  refine v_goto (tg := 60) hC dX11_keenest_56 rfl ?_
  refine w_istore_n hC dX11_keenest_60 (ltk rfl) [some (.ref 208), none, some (.int v3), some (.int v3)] rfl ?_
  refine w_iinc hC (v3 + (1 : Int32)) dX11_keenest_61 rfl rfl [some (.ref 208), none, some (.int v3), some (.int (v3 + (1 : Int32)))] rfl ?_
  refine v_goto (tg := 28) hC dX11_keenest_64 rfl ?_
  exact hk28 _ _ _ _ _ h
set_option maxRecDepth 20000 in
set_option maxHeartbeats 4000000 in
theorem ok_X11_keenest_28 {N : Nat} {X : am_X} {l : Launch} (hC : am_C X l (am_rm 10 0 0) cX11_keenest yX11_keenest.cls (some .int)) (hnt : am_NT X) : ∀ (n : Nat) (v2 v3 : Int32) (M : Mm) (r : Int32) (M' : Mm), f_X11_keenest_28 N n v2 v3 M = some (r, M') → am_V X LY M 0 0 (am_Q X LY 0 0 (.inl (some (.int r))) M') 28 [some (.ref 208), none, some (.int v2), some (.int v3)] [] := by
  intro n
  induction n with
  | zero => intro v2 v3 M r M' h; cases h
  | succ n ih =>
    intro v2 v3 M r M' h
    simp only [f_X11_keenest_28] at h
    refine v_iload_n hC dX11_keenest_28 rfl ?_
    refine v_aload_n hC dX11_keenest_29 rfl ?_
    obtain ⟨r12, M13, q14, h⟩ := bnd_some h
    refine w_callVi hC [] [.int v3] (ok_X11_diners q14) mv_X11_diners aw_1362 ly_208 rfl (Nat.le_of_ble_eq_true rfl) ⟨by decide, by decide⟩ ⟨by decide, by decide⟩ dX11_keenest_30 ?_
    refine v_icmp_ge hC 67 dX11_keenest_33 rfl (fun c15 => ?_) (fun c15 => ?_)
    · rw [if_pos c15] at h
      refine v_iload_n hC dX11_keenest_67 rfl ?_
      cases h
      exact v_iret hC (by decide) (by decide) dX11_keenest_68
    · rw [if_neg c15] at h
      refine v_iload_n hC dX11_keenest_36 rfl ?_
      refine v_if_lt hC 55 dX11_keenest_37 rfl (fun c16 => ?_) (fun c16 => ?_)
      · rw [if_pos c16] at h
        refine v_drop [true, false, false, true] [some (.ref 208), none, none, some (.int v3)] rfl ?_
        exact ok_X11_keenest_55 hC hnt (fun v2 v3 M r M' h => ih v2 v3 M r M' h) h
      · rw [if_neg c16] at h
        refine v_aload_n hC dX11_keenest_40 rfl ?_
        refine v_geta (k := 19) (b := 217) hC cls_X11 ly_208 (by decide) rfl aw_1250 rfl dX11_keenest_41 ?_
        refine v_iload_n hC dX11_keenest_44 rfl ?_
        obtain ⟨g18, h⟩ := grd_some h
        refine v_iald hC ly_217 (inb_in g18) dX11_keenest_45 ?_
        refine v_aload_n hC dX11_keenest_46 rfl ?_
        refine v_geta (k := 19) (b := 217) hC cls_X11 ly_208 (by decide) rfl aw_1250 rfl dX11_keenest_47 ?_
        refine v_iload_n hC dX11_keenest_50 rfl ?_
        obtain ⟨g19, h⟩ := grd_some h
        refine v_iald hC ly_217 (inb_in g19) dX11_keenest_51 ?_
        refine v_icmp_le hC 59 dX11_keenest_52 rfl (fun c20 => ?_) (fun c20 => ?_)
        · rw [if_pos c20] at h
          refine v_iload_n hC dX11_keenest_59 rfl ?_
          refine w_istore_n hC dX11_keenest_60 (ltk rfl) [some (.ref 208), none, some (.int v2), some (.int v3)] rfl ?_
          refine w_iinc hC (v3 + (1 : Int32)) dX11_keenest_61 rfl rfl [some (.ref 208), none, some (.int v2), some (.int (v3 + (1 : Int32)))] rfl ?_
          refine v_goto (tg := 28) hC dX11_keenest_64 rfl ?_
          exact ih _ _ _ _ _ h
        · rw [if_neg c20] at h
          refine v_drop [true, false, false, true] [some (.ref 208), none, none, some (.int v3)] rfl ?_
          exact ok_X11_keenest_55 hC hnt (fun v2 v3 M r M' h => ih v2 v3 M r M' h) h
set_option maxRecDepth 20000 in
set_option maxHeartbeats 4000000 in
theorem ok_X11_keenest {l : Launch} {N : Nat} {v1 : Int32} {M : Mm} {r : Int32} {M' : Mm} (h : f_X11_keenest N v1 M = some (r, M')) : am_M l yX11_keenest cX11_keenest 4 (some .int) 10 0 0 LY M [.ref 208, .int v1] (.inl (some (.int r))) M' := by
  unfold f_X11_keenest at h
  refine am_intro (by decide) (by simp [Value.category]) (Nat.le_of_ble_eq_true rfl) (fun X hC hnt => ?_)
  refine am_start (L := [some (.ref 208), some (.int v1), none, none]) rfl ?_
  refine v_aload_n hC dX11_keenest_0 rfl ?_
  refine v_iconst (v := (0 : Int32)) hC dX11_keenest_1 rfl ?_
  obtain ⟨M1, e_M1, h⟩ := lt_some h
  refine w_puti (k := 0) hC cls_X11 ly_208 (by decide) rfl aw_1231 rfl rfl ⟨rfl, rfl⟩ dX11_keenest_2 e_M1 ?_
  refine v_aload_n hC dX11_keenest_5 rfl ?_
  refine v_iload_n hC dX11_keenest_6 rfl ?_
  obtain ⟨r2, M3, q4, h⟩ := bnd_some h
  refine w_callSi hC [.int v1] [.ref 208] (ok_X11_noAhead q4) ms_X11_noAhead aw_1667 rfl (Nat.le_of_ble_eq_true rfl) ⟨by decide, by decide⟩ ⟨by decide, by decide⟩ dX11_keenest_7 ?_
  refine v_iconst (v := (1 : Int32)) hC dX11_keenest_10 rfl ?_
  obtain ⟨r5, M6, q7, h⟩ := bnd_some h
  refine w_callVi hC [.int r2, .int (1 : Int32)] [] (ok_X11_throwsIf q7) mv_X11_throwsIf aw_1470 ly_208 rfl (Nat.le_of_ble_eq_true rfl) ⟨by decide, by decide⟩ ⟨by decide, by decide⟩ dX11_keenest_11 ?_
  refine v_if_eq hC 19 dX11_keenest_14 rfl (fun c8 => ?_) (fun c8 => ?_)
  · rw [if_pos c8] at h
    refine v_aload_n hC dX11_keenest_19 rfl ?_
    refine v_iload_n hC dX11_keenest_20 rfl ?_
    obtain ⟨r9, M10, q11, h⟩ := bnd_some h
    refine w_callVv hC [.int v1] [] (ok_X11_laysTakes q11) mv_X11_laysTakes aw_1670 ly_208 rfl (Nat.le_of_ble_eq_true rfl) ⟨by decide, by decide⟩ ⟨by decide, by decide⟩ dX11_keenest_21 ?_
    refine v_iconst (v := (-1 : Int32)) hC dX11_keenest_24 rfl ?_
    refine w_istore_n hC dX11_keenest_25 (ltk rfl) [some (.ref 208), some (.int v1), some (.int (-1 : Int32)), none] rfl ?_
    refine v_iconst (v := (0 : Int32)) hC dX11_keenest_26 rfl ?_
    refine w_istore_n hC dX11_keenest_27 (ltk rfl) [some (.ref 208), some (.int v1), some (.int (-1 : Int32)), some (.int (0 : Int32))] rfl ?_
    refine v_drop [true, false, true, true] [some (.ref 208), none, some (.int (-1 : Int32)), some (.int (0 : Int32))] rfl ?_
    exact ok_X11_keenest_28 hC hnt N _ _ _ _ _ h
  · rw [if_neg c8] at h
    refine v_iconst (v := (0 : Int32)) hC dX11_keenest_17 rfl ?_
    cases h
    exact v_iret hC (by decide) (by decide) dX11_keenest_18
def f_X11_goes (N : Nat) (v1 : Int32) (v2 : Int32) (M : Mm) : Option (Int32 × Mm) :=
  lt (wr M 208 0 (0 : Int32)) (fun M1 => bnd (f_X11_noCellar N v1 M1) (fun r2 M3 => bnd (f_X11_throwsIf N r2 (1 : Int32) M3) (fun r5 M6 => (if r5 = (0 : Int32) then bnd (f_X11_noAhead N v2 M6) (fun r9 M10 => bnd (f_X11_throwsIf N r9 (2 : Int32) M10) (fun r12 M13 => (if r12 = (0 : Int32) then bnd (f_X11_ofCellar N v1 (0 : Int32) M13) (fun r16 M17 => bnd (f_X11_ofCellar N v1 (4 : Int32) M17) (fun r19 M20 => some (((r16 + (v2 * r19)) - (r16 + (v2 * r19)) / (10 : Int32) * (10 : Int32)), M20))) else some ((0 : Int32), M13)))) else some ((0 : Int32), M6)))))
set_option maxRecDepth 20000 in
set_option maxHeartbeats 4000000 in
theorem ok_X11_goes {l : Launch} {N : Nat} {v1 v2 : Int32} {M : Mm} {r : Int32} {M' : Mm} (h : f_X11_goes N v1 v2 M = some (r, M')) : am_M l yX11_goes cX11_goes 3 (some .int) 3 0 0 LY M [.ref 208, .int v1, .int v2] (.inl (some (.int r))) M' := by
  unfold f_X11_goes at h
  refine am_intro (by decide) (by simp [Value.category]) (Nat.le_of_ble_eq_true rfl) (fun X hC hnt => ?_)
  refine am_start (L := [some (.ref 208), some (.int v1), some (.int v2)]) rfl ?_
  refine v_aload_n hC dX11_goes_0 rfl ?_
  refine v_iconst (v := (0 : Int32)) hC dX11_goes_1 rfl ?_
  obtain ⟨M1, e_M1, h⟩ := lt_some h
  refine w_puti (k := 0) hC cls_X11 ly_208 (by decide) rfl aw_1231 rfl rfl ⟨rfl, rfl⟩ dX11_goes_2 e_M1 ?_
  refine v_aload_n hC dX11_goes_5 rfl ?_
  refine v_aload_n hC dX11_goes_6 rfl ?_
  refine v_iload_n hC dX11_goes_7 rfl ?_
  obtain ⟨r2, M3, q4, h⟩ := bnd_some h
  refine w_callVi hC [.int v1] [.ref 208] (ok_X11_noCellar q4) mv_X11_noCellar aw_1502 ly_208 rfl (Nat.le_of_ble_eq_true rfl) ⟨by decide, by decide⟩ ⟨by decide, by decide⟩ dX11_goes_8 ?_
  refine v_iconst (v := (1 : Int32)) hC dX11_goes_11 rfl ?_
  obtain ⟨r5, M6, q7, h⟩ := bnd_some h
  refine w_callVi hC [.int r2, .int (1 : Int32)] [] (ok_X11_throwsIf q7) mv_X11_throwsIf aw_1470 ly_208 rfl (Nat.le_of_ble_eq_true rfl) ⟨by decide, by decide⟩ ⟨by decide, by decide⟩ dX11_goes_12 ?_
  refine v_if_ne hC 30 dX11_goes_15 rfl (fun c8 => ?_) (fun c8 => ?_)
  · rw [if_neg c8] at h
    refine v_iconst (v := (0 : Int32)) hC dX11_goes_30 rfl ?_
    cases h
    exact v_iret hC (by decide) (by decide) dX11_goes_31
  · rw [if_pos c8] at h
    refine v_aload_n hC dX11_goes_18 rfl ?_
    refine v_iload_n hC dX11_goes_19 rfl ?_
    obtain ⟨r9, M10, q11, h⟩ := bnd_some h
    refine w_callSi hC [.int v2] [.ref 208] (ok_X11_noAhead q11) ms_X11_noAhead aw_1667 rfl (Nat.le_of_ble_eq_true rfl) ⟨by decide, by decide⟩ ⟨by decide, by decide⟩ dX11_goes_20 ?_
    refine v_iconst (v := (2 : Int32)) hC dX11_goes_23 rfl ?_
    obtain ⟨r12, M13, q14, h⟩ := bnd_some h
    refine w_callVi hC [.int r9, .int (2 : Int32)] [] (ok_X11_throwsIf q14) mv_X11_throwsIf aw_1470 ly_208 rfl (Nat.le_of_ble_eq_true rfl) ⟨by decide, by decide⟩ ⟨by decide, by decide⟩ dX11_goes_24 ?_
    refine v_if_eq hC 32 dX11_goes_27 rfl (fun c15 => ?_) (fun c15 => ?_)
    · rw [if_pos c15] at h
      refine v_aload_n hC dX11_goes_32 rfl ?_
      refine v_iload_n hC dX11_goes_33 rfl ?_
      refine v_iconst (v := (0 : Int32)) hC dX11_goes_34 rfl ?_
      obtain ⟨r16, M17, q18, h⟩ := bnd_some h
      refine w_callVi hC [.int v1, .int (0 : Int32)] [] (ok_X11_ofCellar q18) mv_X11_ofCellar aw_1510 ly_208 rfl (Nat.le_of_ble_eq_true rfl) ⟨by decide, by decide⟩ ⟨by decide, by decide⟩ dX11_goes_35 ?_
      refine v_iload_n hC dX11_goes_38 rfl ?_
      refine v_aload_n hC dX11_goes_39 rfl ?_
      refine v_iload_n hC dX11_goes_40 rfl ?_
      refine v_iconst (v := (4 : Int32)) hC dX11_goes_41 rfl ?_
      obtain ⟨r19, M20, q21, h⟩ := bnd_some h
      refine w_callVi hC [.int v1, .int (4 : Int32)] [.int v2, .int r16] (ok_X11_ofCellar q21) mv_X11_ofCellar aw_1510 ly_208 rfl (Nat.le_of_ble_eq_true rfl) ⟨by decide, by decide⟩ ⟨by decide, by decide⟩ dX11_goes_42 ?_
      refine v_imul hC dX11_goes_45 ?_
      refine v_iadd hC dX11_goes_46 ?_
      refine v_bipush (v := (10 : Int32)) hC dX11_goes_47 rfl ?_
      refine v_irem hC dX11_goes_49 (by decide) ?_
      cases h
      exact v_iret hC (by decide) (by decide) dX11_goes_50
    · rw [if_neg c15] at h
      refine v_iconst (v := (0 : Int32)) hC dX11_goes_30 rfl ?_
      cases h
      exact v_iret hC (by decide) (by decide) dX11_goes_31
def f_X11_grainsIn (N : Nat) (v1 : Int32) (v2 : Int32) (M : Mm) : Option (Int32 × Mm) :=
  bnd (f_X11_keepsAll N M) (fun r1 M2 => bnd (f_X11_goesOn N v2 (1 : Int32) M2) (fun r4 M5 => bnd (f_X11_ofCellar N v1 (2 : Int32) M5) (fun r7 M8 => bnd (f_X11_bringsBack N M8) (fun r10 M11 => some (r7, M11)))))
set_option maxRecDepth 20000 in
set_option maxHeartbeats 4000000 in
theorem ok_X11_grainsIn {l : Launch} {N : Nat} {v1 v2 : Int32} {M : Mm} {r : Int32} {M' : Mm} (h : f_X11_grainsIn N v1 v2 M = some (r, M')) : am_M l yX11_grainsIn cX11_grainsIn 4 (some .int) 11 0 0 LY M [.ref 208, .int v1, .int v2] (.inl (some (.int r))) M' := by
  unfold f_X11_grainsIn at h
  refine am_intro (by decide) (by simp [Value.category]) (Nat.le_of_ble_eq_true rfl) (fun X hC hnt => ?_)
  refine am_start (L := [some (.ref 208), some (.int v1), some (.int v2), none]) rfl ?_
  refine v_aload_n hC dX11_grainsIn_0 rfl ?_
  obtain ⟨r1, M2, q3, h⟩ := bnd_some h
  refine w_callVv hC [] [] (ok_X11_keepsAll q3) mv_X11_keepsAll aw_1640 ly_208 rfl (Nat.le_of_ble_eq_true rfl) ⟨by decide, by decide⟩ ⟨by decide, by decide⟩ dX11_grainsIn_1 ?_
  refine v_aload_n hC dX11_grainsIn_4 rfl ?_
  refine v_iload_n hC dX11_grainsIn_5 rfl ?_
  refine v_iconst (v := (1 : Int32)) hC dX11_grainsIn_6 rfl ?_
  obtain ⟨r4, M5, q6, h⟩ := bnd_some h
  refine w_callVi hC [.int v2, .int (1 : Int32)] [] (ok_X11_goesOn q6) mv_X11_goesOn aw_1598 ly_208 rfl (Nat.le_of_ble_eq_true rfl) ⟨by decide, by decide⟩ ⟨by decide, by decide⟩ dX11_grainsIn_7 ?_
  refine v_pop hC dX11_grainsIn_10 rfl ?_
  refine v_aload_n hC dX11_grainsIn_11 rfl ?_
  refine v_iload_n hC dX11_grainsIn_12 rfl ?_
  refine v_iconst (v := (2 : Int32)) hC dX11_grainsIn_13 rfl ?_
  obtain ⟨r7, M8, q9, h⟩ := bnd_some h
  refine w_callVi hC [.int v1, .int (2 : Int32)] [] (ok_X11_ofCellar q9) mv_X11_ofCellar aw_1510 ly_208 rfl (Nat.le_of_ble_eq_true rfl) ⟨by decide, by decide⟩ ⟨by decide, by decide⟩ dX11_grainsIn_14 ?_
  refine w_istore_n hC dX11_grainsIn_17 (ltk rfl) [some (.ref 208), some (.int v1), some (.int v2), some (.int r7)] rfl ?_
  refine v_aload_n hC dX11_grainsIn_18 rfl ?_
  obtain ⟨r10, M11, q12, h⟩ := bnd_some h
  refine w_callVv hC [] [] (ok_X11_bringsBack q12) mv_X11_bringsBack aw_1648 ly_208 rfl (Nat.le_of_ble_eq_true rfl) ⟨by decide, by decide⟩ ⟨by decide, by decide⟩ dX11_grainsIn_19 ?_
  refine v_iload_n hC dX11_grainsIn_22 rfl ?_
  cases h
  exact v_iret hC (by decide) (by decide) dX11_grainsIn_23
def f_X11_ahead_30 (N : Nat) (M : Mm) : Option (Int32 × Mm) :=
  some ((0 : Int32), M)
def f_X11_ahead (N : Nat) (v1 : Int32) (v2 : Int32) (M : Mm) : Option (Int32 × Mm) :=
  lt (wr M 208 0 (0 : Int32)) (fun M1 => bnd (f_X11_noCellar N v1 M1) (fun r2 M3 => bnd (f_X11_throwsIf N r2 (1 : Int32) M3) (fun r5 M6 => (if r5 = (0 : Int32) then bnd (f_X11_noAhead N v2 M6) (fun r9 M10 => bnd (f_X11_throwsIf N r9 (2 : Int32) M10) (fun r12 M13 => (if r12 = (0 : Int32) then bnd (f_X11_grainsIn N v1 v2 M13) (fun r16 M17 => some (r16, M17)) else f_X11_ahead_30 N M13))) else f_X11_ahead_30 N M6))))
set_option maxRecDepth 20000 in
set_option maxHeartbeats 4000000 in
theorem ok_X11_ahead_30 {N : Nat} {X : am_X} {l : Launch} (hC : am_C X l (am_rm 12 0 0) cX11_ahead yX11_ahead.cls (some .int)) (hnt : am_NT X) {M : Mm} {r : Int32} {M' : Mm} (h : f_X11_ahead_30 N M = some (r, M')) : am_V X LY M 0 0 (am_Q X LY 0 0 (.inl (some (.int r))) M') 30 [none, none, none] [] := by
  unfold f_X11_ahead_30 at h
  refine v_iconst (v := (0 : Int32)) hC dX11_ahead_30 rfl ?_
  refine v_goto (tg := 40) hC dX11_ahead_31 rfl ?_
  cases h
  exact v_iret hC (by decide) (by decide) dX11_ahead_40
set_option maxRecDepth 20000 in
set_option maxHeartbeats 4000000 in
theorem ok_X11_ahead {l : Launch} {N : Nat} {v1 v2 : Int32} {M : Mm} {r : Int32} {M' : Mm} (h : f_X11_ahead N v1 v2 M = some (r, M')) : am_M l yX11_ahead cX11_ahead 3 (some .int) 12 0 0 LY M [.ref 208, .int v1, .int v2] (.inl (some (.int r))) M' := by
  unfold f_X11_ahead at h
  refine am_intro (by decide) (by simp [Value.category]) (Nat.le_of_ble_eq_true rfl) (fun X hC hnt => ?_)
  refine am_start (L := [some (.ref 208), some (.int v1), some (.int v2)]) rfl ?_
  refine v_aload_n hC dX11_ahead_0 rfl ?_
  refine v_iconst (v := (0 : Int32)) hC dX11_ahead_1 rfl ?_
  obtain ⟨M1, e_M1, h⟩ := lt_some h
  refine w_puti (k := 0) hC cls_X11 ly_208 (by decide) rfl aw_1231 rfl rfl ⟨rfl, rfl⟩ dX11_ahead_2 e_M1 ?_
  refine v_aload_n hC dX11_ahead_5 rfl ?_
  refine v_aload_n hC dX11_ahead_6 rfl ?_
  refine v_iload_n hC dX11_ahead_7 rfl ?_
  obtain ⟨r2, M3, q4, h⟩ := bnd_some h
  refine w_callVi hC [.int v1] [.ref 208] (ok_X11_noCellar q4) mv_X11_noCellar aw_1502 ly_208 rfl (Nat.le_of_ble_eq_true rfl) ⟨by decide, by decide⟩ ⟨by decide, by decide⟩ dX11_ahead_8 ?_
  refine v_iconst (v := (1 : Int32)) hC dX11_ahead_11 rfl ?_
  obtain ⟨r5, M6, q7, h⟩ := bnd_some h
  refine w_callVi hC [.int r2, .int (1 : Int32)] [] (ok_X11_throwsIf q7) mv_X11_throwsIf aw_1470 ly_208 rfl (Nat.le_of_ble_eq_true rfl) ⟨by decide, by decide⟩ ⟨by decide, by decide⟩ dX11_ahead_12 ?_
  refine v_if_ne hC 30 dX11_ahead_15 rfl (fun c8 => ?_) (fun c8 => ?_)
  · rw [if_neg c8] at h
    refine v_drop [false, false, false] [none, none, none] rfl ?_
    exact ok_X11_ahead_30 hC hnt h
  · rw [if_pos c8] at h
    refine v_aload_n hC dX11_ahead_18 rfl ?_
    refine v_iload_n hC dX11_ahead_19 rfl ?_
    obtain ⟨r9, M10, q11, h⟩ := bnd_some h
    refine w_callSi hC [.int v2] [.ref 208] (ok_X11_noAhead q11) ms_X11_noAhead aw_1667 rfl (Nat.le_of_ble_eq_true rfl) ⟨by decide, by decide⟩ ⟨by decide, by decide⟩ dX11_ahead_20 ?_
    refine v_iconst (v := (2 : Int32)) hC dX11_ahead_23 rfl ?_
    obtain ⟨r12, M13, q14, h⟩ := bnd_some h
    refine w_callVi hC [.int r9, .int (2 : Int32)] [] (ok_X11_throwsIf q14) mv_X11_throwsIf aw_1470 ly_208 rfl (Nat.le_of_ble_eq_true rfl) ⟨by decide, by decide⟩ ⟨by decide, by decide⟩ dX11_ahead_24 ?_
    refine v_if_eq hC 34 dX11_ahead_27 rfl (fun c15 => ?_) (fun c15 => ?_)
    · rw [if_pos c15] at h
      refine v_aload_n hC dX11_ahead_34 rfl ?_
      refine v_iload_n hC dX11_ahead_35 rfl ?_
      refine v_iload_n hC dX11_ahead_36 rfl ?_
      obtain ⟨r16, M17, q18, h⟩ := bnd_some h
      refine w_callVi hC [.int v1, .int v2] [] (ok_X11_grainsIn q18) mv_X11_grainsIn aw_1686 ly_208 rfl (Nat.le_of_ble_eq_true rfl) ⟨by decide, by decide⟩ ⟨by decide, by decide⟩ dX11_ahead_37 ?_
      cases h
      exact v_iret hC (by decide) (by decide) dX11_ahead_40
    · rw [if_neg c15] at h
      refine v_drop [false, false, false] [none, none, none] rfl ?_
      exact ok_X11_ahead_30 hC hnt h
def f_X11_least_68 (N : Nat) (k43 : Int32 → Int32 → Int32 → Int32 → Mm → Option (Int32 × Mm)) (v1 : Int32) (v3 : Int32) (v4 : Int32) (v5 : Int32) (s0 : Int32) (M : Mm) : Option (Int32 × Mm) :=
  lt (if v5 < v3 then v5 else v3) (fun x21 => k43 v1 s0 x21 (v4 + (1 : Int32)) M)
def f_X11_least_43 (N : Nat) : Nat → Int32 → Int32 → Int32 → Int32 → Mm → Option (Int32 × Mm)
  | 0, _, _, _, _, _ => none
  | n + 1, v1, v2, v3, v4, M => (if v1 < v4 then bnd (f_X11_bringsBack N M) (fun r14 M15 => some (v2, M15)) else bnd (f_X11_oneCourse N (1 : Int32) M) (fun r17 M18 => (if v3 ≤ r17 then f_X11_least_68 N (fun v1 v2 v3 v4 M => f_X11_least_43 N n v1 v2 v3 v4 M) v1 v3 v4 r17 v2 M18 else f_X11_least_68 N (fun v1 v2 v3 v4 M => f_X11_least_43 N n v1 v2 v3 v4 M) v1 v3 v4 r17 v4 M18)))
def f_X11_least_21 (N : Nat) (v1 : Int32) (s1 : Int32) (M : Mm) : Option (Int32 × Mm) :=
  bnd (f_X11_throwsIf N s1 (1 : Int32) M) (fun r6 M7 => (if r6 = (0 : Int32) then bnd (f_X11_keepsAll N M7) (fun r10 M11 => f_X11_least_43 N N v1 (0 : Int32) (1000000 : Int32) (0 : Int32) M11) else some ((0 : Int32), M7)))
def f_X11_least (N : Nat) (v1 : Int32) (M : Mm) : Option (Int32 × Mm) :=
  lt (wr M 208 0 (0 : Int32)) (fun M1 => bnd (f_X11_in N v1 (0 : Int32) (60 : Int32) M1) (fun r2 M3 => (if r2 = (0 : Int32) then f_X11_least_21 N v1 (1 : Int32) M3 else f_X11_least_21 N v1 (0 : Int32) M3)))
set_option maxRecDepth 20000 in
set_option maxHeartbeats 4000000 in
theorem ok_X11_least_68 {N : Nat} {X : am_X} {l : Launch} (hC : am_C X l (am_rm 10 0 0) cX11_least yX11_least.cls (some .int)) (hnt : am_NT X) {k43 : Int32 → Int32 → Int32 → Int32 → Mm → Option (Int32 × Mm)} (hk43 : ∀ (v1 v2 v3 v4 : Int32) (M : Mm) (r : Int32) (M' : Mm), k43 v1 v2 v3 v4 M = some (r, M') → am_V X LY M 0 0 (am_Q X LY 0 0 (.inl (some (.int r))) M') 43 [some (.ref 208), some (.int v1), some (.int v2), some (.int v3), some (.int v4), none] []) {v1 v3 v4 v5 s0 : Int32} {M : Mm} {r : Int32} {M' : Mm} (h : f_X11_least_68 N k43 v1 v3 v4 v5 s0 M = some (r, M')) : am_V X LY M 0 0 (am_Q X LY 0 0 (.inl (some (.int r))) M') 68 [some (.ref 208), some (.int v1), none, some (.int v3), some (.int v4), some (.int v5)] [.int s0] := by
  unfold f_X11_least_68 at h
  refine w_istore_n hC dX11_least_68 (ltk rfl) [some (.ref 208), some (.int v1), some (.int s0), some (.int v3), some (.int v4), some (.int v5)] rfl ?_
  refine v_iload_n hC dX11_least_69 rfl ?_
  refine v_iload hC dX11_least_70 rfl ?_
  refine v_mmin hC aw_1550 wm_min (Nat.le_of_ble_eq_true rfl) (Nat.le_of_ble_eq_true rfl) (Nat.le_of_ble_eq_true rfl) (Nat.le_of_ble_eq_true rfl) dX11_least_72 ?_
  obtain ⟨x21, e_x21, h⟩ := lt_some h
  refine v_nam e_x21 ?_
  refine w_istore_n hC dX11_least_75 (ltk rfl) [some (.ref 208), some (.int v1), some (.int s0), some (.int x21), some (.int v4), some (.int v5)] rfl ?_
  refine w_iinc hC (v4 + (1 : Int32)) dX11_least_76 rfl rfl [some (.ref 208), some (.int v1), some (.int s0), some (.int x21), some (.int (v4 + (1 : Int32))), some (.int v5)] rfl ?_
  refine v_goto (tg := 43) hC dX11_least_79 rfl ?_
  refine v_drop [true, true, true, true, true, false] [some (.ref 208), some (.int v1), some (.int s0), some (.int x21), some (.int (v4 + (1 : Int32))), none] rfl ?_
  exact hk43 _ _ _ _ _ _ _ h
set_option maxRecDepth 20000 in
set_option maxHeartbeats 4000000 in
theorem ok_X11_least_43 {N : Nat} {X : am_X} {l : Launch} (hC : am_C X l (am_rm 10 0 0) cX11_least yX11_least.cls (some .int)) (hnt : am_NT X) : ∀ (n : Nat) (v1 v2 v3 v4 : Int32) (M : Mm) (r : Int32) (M' : Mm), f_X11_least_43 N n v1 v2 v3 v4 M = some (r, M') → am_V X LY M 0 0 (am_Q X LY 0 0 (.inl (some (.int r))) M') 43 [some (.ref 208), some (.int v1), some (.int v2), some (.int v3), some (.int v4), none] [] := by
  intro n
  induction n with
  | zero => intro v1 v2 v3 v4 M r M' h; cases h
  | succ n ih =>
    intro v1 v2 v3 v4 M r M' h
    simp only [f_X11_least_43] at h
    refine v_iload hC dX11_least_43 rfl ?_
    refine v_iload_n hC dX11_least_45 rfl ?_
    refine v_icmp_gt hC 82 dX11_least_46 rfl (fun c13 => ?_) (fun c13 => ?_)
    · rw [if_pos c13] at h
      refine v_aload_n hC dX11_least_82 rfl ?_
      obtain ⟨r14, M15, q16, h⟩ := bnd_some h
      refine w_callVv hC [] [] (ok_X11_bringsBack q16) mv_X11_bringsBack aw_1648 ly_208 rfl (Nat.le_of_ble_eq_true rfl) ⟨by decide, by decide⟩ ⟨by decide, by decide⟩ dX11_least_83 ?_
      refine v_iload_n hC dX11_least_86 rfl ?_
      cases h
      exact v_iret hC (by decide) (by decide) dX11_least_87
    · rw [if_neg c13] at h
      refine v_aload_n hC dX11_least_49 rfl ?_
      refine v_iconst (v := (1 : Int32)) hC dX11_least_50 rfl ?_
      obtain ⟨r17, M18, q19, h⟩ := bnd_some h
      refine w_callVi hC [.int (1 : Int32)] [] (ok_X11_oneCourse q19) mv_X11_oneCourse aw_1602 ly_208 rfl (Nat.le_of_ble_eq_true rfl) ⟨by decide, by decide⟩ ⟨by decide, by decide⟩ dX11_least_51 ?_
      refine w_istore hC dX11_least_54 (ltk rfl) [some (.ref 208), some (.int v1), some (.int v2), some (.int v3), some (.int v4), some (.int r17)] rfl ?_
      refine v_iload hC dX11_least_56 rfl ?_
      refine v_iload_n hC dX11_least_58 rfl ?_
      refine v_icmp_ge hC 67 dX11_least_59 rfl (fun c20 => ?_) (fun c20 => ?_)
      · rw [if_pos c20] at h
        refine v_iload_n hC dX11_least_67 rfl ?_
        refine v_drop [true, true, false, true, true, true] [some (.ref 208), some (.int v1), none, some (.int v3), some (.int v4), some (.int r17)] rfl ?_
        exact ok_X11_least_68 hC hnt (fun v1 v2 v3 v4 M r M' h => ih v1 v2 v3 v4 M r M' h) h
      · rw [if_neg c20] at h
        refine v_iload hC dX11_least_62 rfl ?_
        refine v_goto (tg := 68) hC dX11_least_64 rfl ?_
        refine v_drop [true, true, false, true, true, true] [some (.ref 208), some (.int v1), none, some (.int v3), some (.int v4), some (.int r17)] rfl ?_
        exact ok_X11_least_68 hC hnt (fun v1 v2 v3 v4 M r M' h => ih v1 v2 v3 v4 M r M' h) h
set_option maxRecDepth 20000 in
set_option maxHeartbeats 4000000 in
theorem ok_X11_least_21 {N : Nat} {X : am_X} {l : Launch} (hC : am_C X l (am_rm 10 0 0) cX11_least yX11_least.cls (some .int)) (hnt : am_NT X) {v1 s1 : Int32} {M : Mm} {r : Int32} {M' : Mm} (h : f_X11_least_21 N v1 s1 M = some (r, M')) : am_V X LY M 0 0 (am_Q X LY 0 0 (.inl (some (.int r))) M') 21 [some (.ref 208), some (.int v1), none, none, none, none] [.int s1, .ref 208] := by
  unfold f_X11_least_21 at h
  refine v_iconst (v := (1 : Int32)) hC dX11_least_21 rfl ?_
  obtain ⟨r6, M7, q8, h⟩ := bnd_some h
  refine w_callVi hC [.int s1, .int (1 : Int32)] [] (ok_X11_throwsIf q8) mv_X11_throwsIf aw_1470 ly_208 rfl (Nat.le_of_ble_eq_true rfl) ⟨by decide, by decide⟩ ⟨by decide, by decide⟩ dX11_least_22 ?_
  refine v_if_eq hC 30 dX11_least_25 rfl (fun c9 => ?_) (fun c9 => ?_)
  · rw [if_pos c9] at h
    refine v_iconst (v := (0 : Int32)) hC dX11_least_30 rfl ?_
    refine w_istore_n hC dX11_least_31 (ltk rfl) [some (.ref 208), some (.int v1), some (.int (0 : Int32)), none, none, none] rfl ?_
    refine v_ldcw hC aw_1639 dX11_least_32 ?_
    refine w_istore_n hC dX11_least_35 (ltk rfl) [some (.ref 208), some (.int v1), some (.int (0 : Int32)), some (.int (1000000 : Int32)), none, none] rfl ?_
    refine v_aload_n hC dX11_least_36 rfl ?_
    obtain ⟨r10, M11, q12, h⟩ := bnd_some h
    refine w_callVv hC [] [] (ok_X11_keepsAll q12) mv_X11_keepsAll aw_1640 ly_208 rfl (Nat.le_of_ble_eq_true rfl) ⟨by decide, by decide⟩ ⟨by decide, by decide⟩ dX11_least_37 ?_
    refine v_iconst (v := (0 : Int32)) hC dX11_least_40 rfl ?_
    refine w_istore hC dX11_least_41 (ltk rfl) [some (.ref 208), some (.int v1), some (.int (0 : Int32)), some (.int (1000000 : Int32)), some (.int (0 : Int32)), none] rfl ?_
    exact ok_X11_least_43 hC hnt N _ _ _ _ _ _ _ h
  · rw [if_neg c9] at h
    refine v_iconst (v := (0 : Int32)) hC dX11_least_28 rfl ?_
    cases h
    exact v_iret hC (by decide) (by decide) dX11_least_29
set_option maxRecDepth 20000 in
set_option maxHeartbeats 4000000 in
theorem ok_X11_least {l : Launch} {N : Nat} {v1 : Int32} {M : Mm} {r : Int32} {M' : Mm} (h : f_X11_least N v1 M = some (r, M')) : am_M l yX11_least cX11_least 6 (some .int) 10 0 0 LY M [.ref 208, .int v1] (.inl (some (.int r))) M' := by
  unfold f_X11_least at h
  refine am_intro (by decide) (by simp [Value.category]) (Nat.le_of_ble_eq_true rfl) (fun X hC hnt => ?_)
  refine am_start (L := [some (.ref 208), some (.int v1), none, none, none, none]) rfl ?_
  refine v_aload_n hC dX11_least_0 rfl ?_
  refine v_iconst (v := (0 : Int32)) hC dX11_least_1 rfl ?_
  obtain ⟨M1, e_M1, h⟩ := lt_some h
  refine w_puti (k := 0) hC cls_X11 ly_208 (by decide) rfl aw_1231 rfl rfl ⟨rfl, rfl⟩ dX11_least_2 e_M1 ?_
  refine v_aload_n hC dX11_least_5 rfl ?_
  refine v_iload_n hC dX11_least_6 rfl ?_
  refine v_iconst (v := (0 : Int32)) hC dX11_least_7 rfl ?_
  refine v_bipush (v := (60 : Int32)) hC dX11_least_8 rfl ?_
  obtain ⟨r2, M3, q4, h⟩ := bnd_some h
  refine w_callSi hC [.int v1, .int (0 : Int32), .int (60 : Int32)] [.ref 208] (ok_X11_in q4) ms_X11_in aw_1404 rfl (Nat.le_of_ble_eq_true rfl) ⟨by decide, by decide⟩ ⟨by decide, by decide⟩ dX11_least_10 ?_
  refine v_if_ne hC 20 dX11_least_13 rfl (fun c5 => ?_) (fun c5 => ?_)
  · rw [if_neg c5] at h
    refine v_iconst (v := (0 : Int32)) hC dX11_least_20 rfl ?_
    exact ok_X11_least_21 hC hnt h
  · rw [if_pos c5] at h
    refine v_iconst (v := (1 : Int32)) hC dX11_least_16 rfl ?_
    refine v_goto (tg := 21) hC dX11_least_17 rfl ?_
    exact ok_X11_least_21 hC hnt h
def f_X11_swap_73 (N : Nat) (k27 : Int32 → Int32 → Int32 → Int32 → Mm → Option (Int32 × Mm)) (v2 : Int32) (v3 : Int32) (v4 : Int32) (v5 : Int32) (s0 : Int32) (M : Mm) : Option (Int32 × Mm) :=
  lt (if v5 < v2 then v5 else v2) (fun x19 => k27 s0 x19 v3 (v4 + (1 : Int32)) M)
def f_X11_swap_27 (N : Nat) (k16 : Int32 → Int32 → Int32 → Mm → Option (Int32 × Mm)) : Nat → Int32 → Int32 → Int32 → Int32 → Mm → Option (Int32 × Mm)
  | 0, _, _, _, _, _ => none
  | n + 1, v1, v2, v3, v4, M => (if (10 : Int32) ≤ v4 then k16 v1 v2 (v3 + (1 : Int32)) M else bnd (f_X11_exchanges N v3 v4 M) (fun r9 M10 => bnd (f_X11_freedIn N (31 : Int32) M10) (fun r12 M13 => bnd (f_X11_exchanges N v3 v4 M13) (fun r15 M16 => (if v2 ≤ r12 then f_X11_swap_73 N (fun v1 v2 v3 v4 M => f_X11_swap_27 N k16 n v1 v2 v3 v4 M) v2 v3 v4 r12 v1 M16 else f_X11_swap_73 N (fun v1 v2 v3 v4 M => f_X11_swap_27 N k16 n v1 v2 v3 v4 M) v2 v3 v4 r12 (((10 : Int32) * v3) + v4) M16)))))
def f_X11_swap_16 (N : Nat) : Nat → Int32 → Int32 → Int32 → Mm → Option (Int32 × Mm)
  | 0, _, _, _, _ => none
  | n + 1, v1, v2, v3, M => (if (10 : Int32) ≤ v3 then some (v1, M) else lt (v3 + (1 : Int32)) (fun x6 => f_X11_swap_27 N (fun v1 v2 v3 M => f_X11_swap_16 N n v1 v2 v3 M) N v1 v2 v3 x6 M))
def f_X11_swap (N : Nat) (M : Mm) : Option (Int32 × Mm) :=
  lt (wr M 208 0 (0 : Int32)) (fun M1 => bnd (f_X11_freedIn N (31 : Int32) M1) (fun r2 M3 => f_X11_swap_16 N N (-1 : Int32) r2 (0 : Int32) M3))
set_option maxRecDepth 20000 in
set_option maxHeartbeats 4000000 in
theorem ok_X11_swap_73 {N : Nat} {X : am_X} {l : Launch} (hC : am_C X l (am_rm 11 0 0) cX11_swap yX11_swap.cls (some .int)) (hnt : am_NT X) {k27 : Int32 → Int32 → Int32 → Int32 → Mm → Option (Int32 × Mm)} (hk27 : ∀ (v1 v2 v3 v4 : Int32) (M : Mm) (r : Int32) (M' : Mm), k27 v1 v2 v3 v4 M = some (r, M') → am_V X LY M 0 0 (am_Q X LY 0 0 (.inl (some (.int r))) M') 27 [some (.ref 208), some (.int v1), some (.int v2), some (.int v3), some (.int v4), none] []) {v2 v3 v4 v5 s0 : Int32} {M : Mm} {r : Int32} {M' : Mm} (h : f_X11_swap_73 N k27 v2 v3 v4 v5 s0 M = some (r, M')) : am_V X LY M 0 0 (am_Q X LY 0 0 (.inl (some (.int r))) M') 73 [some (.ref 208), none, some (.int v2), some (.int v3), some (.int v4), some (.int v5)] [.int s0] := by
  unfold f_X11_swap_73 at h
  refine w_istore_n hC dX11_swap_73 (ltk rfl) [some (.ref 208), some (.int s0), some (.int v2), some (.int v3), some (.int v4), some (.int v5)] rfl ?_
  refine v_iload_n hC dX11_swap_74 rfl ?_
  refine v_iload hC dX11_swap_75 rfl ?_
  refine v_mmin hC aw_1550 wm_min (Nat.le_of_ble_eq_true rfl) (Nat.le_of_ble_eq_true rfl) (Nat.le_of_ble_eq_true rfl) (Nat.le_of_ble_eq_true rfl) dX11_swap_77 ?_
  obtain ⟨x19, e_x19, h⟩ := lt_some h
  refine v_nam e_x19 ?_
  refine w_istore_n hC dX11_swap_80 (ltk rfl) [some (.ref 208), some (.int s0), some (.int x19), some (.int v3), some (.int v4), some (.int v5)] rfl ?_
  refine w_iinc hC (v4 + (1 : Int32)) dX11_swap_81 rfl rfl [some (.ref 208), some (.int s0), some (.int x19), some (.int v3), some (.int (v4 + (1 : Int32))), some (.int v5)] rfl ?_
  refine v_goto (tg := 27) hC dX11_swap_84 rfl ?_
  refine v_drop [true, true, true, true, true, false] [some (.ref 208), some (.int s0), some (.int x19), some (.int v3), some (.int (v4 + (1 : Int32))), none] rfl ?_
  exact hk27 _ _ _ _ _ _ _ h
set_option maxRecDepth 20000 in
set_option maxHeartbeats 4000000 in
theorem ok_X11_swap_27 {N : Nat} {X : am_X} {l : Launch} (hC : am_C X l (am_rm 11 0 0) cX11_swap yX11_swap.cls (some .int)) (hnt : am_NT X) {k16 : Int32 → Int32 → Int32 → Mm → Option (Int32 × Mm)} (hk16 : ∀ (v1 v2 v3 : Int32) (M : Mm) (r : Int32) (M' : Mm), k16 v1 v2 v3 M = some (r, M') → am_V X LY M 0 0 (am_Q X LY 0 0 (.inl (some (.int r))) M') 16 [some (.ref 208), some (.int v1), some (.int v2), some (.int v3), none, none] []) : ∀ (n : Nat) (v1 v2 v3 v4 : Int32) (M : Mm) (r : Int32) (M' : Mm), f_X11_swap_27 N k16 n v1 v2 v3 v4 M = some (r, M') → am_V X LY M 0 0 (am_Q X LY 0 0 (.inl (some (.int r))) M') 27 [some (.ref 208), some (.int v1), some (.int v2), some (.int v3), some (.int v4), none] [] := by
  intro n
  induction n with
  | zero => intro v1 v2 v3 v4 M r M' h; cases h
  | succ n ih =>
    intro v1 v2 v3 v4 M r M' h
    simp only [f_X11_swap_27] at h
    refine v_iload hC dX11_swap_27 rfl ?_
    refine v_bipush (v := (10 : Int32)) hC dX11_swap_29 rfl ?_
    refine v_icmp_ge hC 87 dX11_swap_31 rfl (fun c7 => ?_) (fun c7 => ?_)
    · rw [if_pos c7] at h
      refine w_iinc hC (v3 + (1 : Int32)) dX11_swap_87 rfl rfl [some (.ref 208), some (.int v1), some (.int v2), some (.int (v3 + (1 : Int32))), some (.int v4), none] rfl ?_
      refine v_goto (tg := 16) hC dX11_swap_90 rfl ?_
      refine v_drop [true, true, true, true, false, false] [some (.ref 208), some (.int v1), some (.int v2), some (.int (v3 + (1 : Int32))), none, none] rfl ?_
      exact hk16 _ _ _ _ _ _ h
    · rw [if_neg c7] at h
      refine v_aload_n hC dX11_swap_34 rfl ?_
      refine v_iload_n hC dX11_swap_35 rfl ?_
      refine v_iload hC dX11_swap_36 rfl ?_
      obtain ⟨r9, M10, q11, h⟩ := bnd_some h
      refine w_callVv hC [.int v3, .int v4] [] (ok_X11_exchanges q11) mv_X11_exchanges aw_1582 ly_208 rfl (Nat.le_of_ble_eq_true rfl) ⟨by decide, by decide⟩ ⟨by decide, by decide⟩ dX11_swap_38 ?_
      refine v_aload_n hC dX11_swap_41 rfl ?_
      refine v_bipush (v := (31 : Int32)) hC dX11_swap_42 rfl ?_
      obtain ⟨r12, M13, q14, h⟩ := bnd_some h
      refine w_callVi hC [.int (31 : Int32)] [] (ok_X11_freedIn q14) mv_X11_freedIn aw_1635 ly_208 rfl (Nat.le_of_ble_eq_true rfl) ⟨by decide, by decide⟩ ⟨by decide, by decide⟩ dX11_swap_44 ?_
      refine w_istore hC dX11_swap_47 (ltk rfl) [some (.ref 208), some (.int v1), some (.int v2), some (.int v3), some (.int v4), some (.int r12)] rfl ?_
      refine v_aload_n hC dX11_swap_49 rfl ?_
      refine v_iload_n hC dX11_swap_50 rfl ?_
      refine v_iload hC dX11_swap_51 rfl ?_
      obtain ⟨r15, M16, q17, h⟩ := bnd_some h
      refine w_callVv hC [.int v3, .int v4] [] (ok_X11_exchanges q17) mv_X11_exchanges aw_1582 ly_208 rfl (Nat.le_of_ble_eq_true rfl) ⟨by decide, by decide⟩ ⟨by decide, by decide⟩ dX11_swap_53 ?_
      refine v_iload hC dX11_swap_56 rfl ?_
      refine v_iload_n hC dX11_swap_58 rfl ?_
      refine v_icmp_ge hC 72 dX11_swap_59 rfl (fun c18 => ?_) (fun c18 => ?_)
      · rw [if_pos c18] at h
        refine v_iload_n hC dX11_swap_72 rfl ?_
        refine v_drop [true, false, true, true, true, true] [some (.ref 208), none, some (.int v2), some (.int v3), some (.int v4), some (.int r12)] rfl ?_
        exact ok_X11_swap_73 hC hnt (fun v1 v2 v3 v4 M r M' h => ih v1 v2 v3 v4 M r M' h) h
      · rw [if_neg c18] at h
        refine v_bipush (v := (10 : Int32)) hC dX11_swap_62 rfl ?_
        refine v_iload_n hC dX11_swap_64 rfl ?_
        refine v_imul hC dX11_swap_65 ?_
        refine v_iload hC dX11_swap_66 rfl ?_
        refine v_iadd hC dX11_swap_68 ?_
        refine v_goto (tg := 73) hC dX11_swap_69 rfl ?_
        refine v_drop [true, false, true, true, true, true] [some (.ref 208), none, some (.int v2), some (.int v3), some (.int v4), some (.int r12)] rfl ?_
        exact ok_X11_swap_73 hC hnt (fun v1 v2 v3 v4 M r M' h => ih v1 v2 v3 v4 M r M' h) h
set_option maxRecDepth 20000 in
set_option maxHeartbeats 4000000 in
theorem ok_X11_swap_16 {N : Nat} {X : am_X} {l : Launch} (hC : am_C X l (am_rm 11 0 0) cX11_swap yX11_swap.cls (some .int)) (hnt : am_NT X) : ∀ (n : Nat) (v1 v2 v3 : Int32) (M : Mm) (r : Int32) (M' : Mm), f_X11_swap_16 N n v1 v2 v3 M = some (r, M') → am_V X LY M 0 0 (am_Q X LY 0 0 (.inl (some (.int r))) M') 16 [some (.ref 208), some (.int v1), some (.int v2), some (.int v3), none, none] [] := by
  intro n
  induction n with
  | zero => intro v1 v2 v3 M r M' h; cases h
  | succ n ih =>
    intro v1 v2 v3 M r M' h
    simp only [f_X11_swap_16] at h
    refine v_iload_n hC dX11_swap_16 rfl ?_
    refine v_bipush (v := (10 : Int32)) hC dX11_swap_17 rfl ?_
    refine v_icmp_ge hC 93 dX11_swap_19 rfl (fun c5 => ?_) (fun c5 => ?_)
    · rw [if_pos c5] at h
      refine v_iload_n hC dX11_swap_93 rfl ?_
      cases h
      exact v_iret hC (by decide) (by decide) dX11_swap_94
    · rw [if_neg c5] at h
      refine v_iload_n hC dX11_swap_22 rfl ?_
      refine v_iconst (v := (1 : Int32)) hC dX11_swap_23 rfl ?_
      refine v_iadd hC dX11_swap_24 ?_
      obtain ⟨x6, e_x6, h⟩ := lt_some h
      refine v_nam e_x6 ?_
      refine w_istore hC dX11_swap_25 (ltk rfl) [some (.ref 208), some (.int v1), some (.int v2), some (.int v3), some (.int x6), none] rfl ?_
      exact ok_X11_swap_27 hC hnt (fun v1 v2 v3 M r M' h => ih v1 v2 v3 M r M' h) N _ _ _ _ _ _ _ h
set_option maxRecDepth 20000 in
set_option maxHeartbeats 4000000 in
theorem ok_X11_swap {l : Launch} {N : Nat} {M : Mm} {r : Int32} {M' : Mm} (h : f_X11_swap N M = some (r, M')) : am_M l yX11_swap cX11_swap 6 (some .int) 11 0 0 LY M [.ref 208] (.inl (some (.int r))) M' := by
  unfold f_X11_swap at h
  refine am_intro (by decide) (by simp [Value.category]) (Nat.le_of_ble_eq_true rfl) (fun X hC hnt => ?_)
  refine am_start (L := [some (.ref 208), none, none, none, none, none]) rfl ?_
  refine v_aload_n hC dX11_swap_0 rfl ?_
  refine v_iconst (v := (0 : Int32)) hC dX11_swap_1 rfl ?_
  obtain ⟨M1, e_M1, h⟩ := lt_some h
  refine w_puti (k := 0) hC cls_X11 ly_208 (by decide) rfl aw_1231 rfl rfl ⟨rfl, rfl⟩ dX11_swap_2 e_M1 ?_
  refine v_iconst (v := (-1 : Int32)) hC dX11_swap_5 rfl ?_
  refine w_istore_n hC dX11_swap_6 (ltk rfl) [some (.ref 208), some (.int (-1 : Int32)), none, none, none, none] rfl ?_
  refine v_aload_n hC dX11_swap_7 rfl ?_
  refine v_bipush (v := (31 : Int32)) hC dX11_swap_8 rfl ?_
  obtain ⟨r2, M3, q4, h⟩ := bnd_some h
  refine w_callVi hC [.int (31 : Int32)] [] (ok_X11_freedIn q4) mv_X11_freedIn aw_1635 ly_208 rfl (Nat.le_of_ble_eq_true rfl) ⟨by decide, by decide⟩ ⟨by decide, by decide⟩ dX11_swap_10 ?_
  refine w_istore_n hC dX11_swap_13 (ltk rfl) [some (.ref 208), some (.int (-1 : Int32)), some (.int r2), none, none, none] rfl ?_
  refine v_iconst (v := (0 : Int32)) hC dX11_swap_14 rfl ?_
  refine w_istore_n hC dX11_swap_15 (ltk rfl) [some (.ref 208), some (.int (-1 : Int32)), some (.int r2), some (.int (0 : Int32)), none, none] rfl ?_
  exact ok_X11_swap_16 hC hnt N _ _ _ _ _ _ h
def f_X11_setsDiets_2 (N : Nat) : Nat → Int32 → Int32 → Mm → Option (Int32 × Mm)
  | 0, _, _, _ => none
  | n + 1, v1, v2, M => bnd (f_X11_diners N M) (fun r1 M2 => (if r1 ≤ v2 then some (0, M2) else bnd (f_X11_dinerAt N v2 (2 : Int32) M2) (fun r5 M6 => bnd (f_X11_holds N v1 v2 M6) (fun r8 M9 => (if r8 = (0 : Int32) then grd (inb r5 2107) (lt (wr M9 209 (r5).toNatClampNeg (1 : Int32)) (fun M13 => f_X11_setsDiets_2 N n v1 (v2 + (1 : Int32)) M13)) else grd (inb r5 2107) (lt (wr M9 209 (r5).toNatClampNeg (0 : Int32)) (fun M16 => f_X11_setsDiets_2 N n v1 (v2 + (1 : Int32)) M16)))))))
def f_X11_setsDiets (N : Nat) (v1 : Int32) (M : Mm) : Option (Int32 × Mm) :=
  f_X11_setsDiets_2 N N v1 (0 : Int32) M
set_option maxRecDepth 20000 in
set_option maxHeartbeats 4000000 in
theorem ok_X11_setsDiets_2 {N : Nat} {X : am_X} {l : Launch} (hC : am_C X l (am_rm 2 0 0) cX11_setsDiets yX11_setsDiets.cls none) (hnt : am_NT X) : ∀ (n : Nat) (v1 v2 : Int32) (M : Mm) (r : Int32) (M' : Mm), f_X11_setsDiets_2 N n v1 v2 M = some (r, M') → am_V X LY M 0 0 (am_Q X LY 0 0 (.inl none) M') 2 [some (.ref 208), some (.int v1), some (.int v2)] [] := by
  intro n
  induction n with
  | zero => intro v1 v2 M r M' h; cases h
  | succ n ih =>
    intro v1 v2 M r M' h
    simp only [f_X11_setsDiets_2] at h
    refine v_iload_n hC dX11_setsDiets_2 rfl ?_
    refine v_aload_n hC dX11_setsDiets_3 rfl ?_
    obtain ⟨r1, M2, q3, h⟩ := bnd_some h
    refine w_callVi hC [] [.int v2] (ok_X11_diners q3) mv_X11_diners aw_1362 ly_208 rfl (Nat.le_of_ble_eq_true rfl) ⟨by decide, by decide⟩ ⟨by decide, by decide⟩ dX11_setsDiets_4 ?_
    refine v_icmp_ge hC 39 dX11_setsDiets_7 rfl (fun c4 => ?_) (fun c4 => ?_)
    · rw [if_pos c4] at h
      cases h
      exact v_vret hC (by decide) (by decide) dX11_setsDiets_39
    · rw [if_neg c4] at h
      refine v_aload_n hC dX11_setsDiets_10 rfl ?_
      refine v_geta (k := 1) (b := 209) hC cls_X11 ly_208 (by decide) rfl aw_1232 rfl dX11_setsDiets_11 ?_
      refine v_iload_n hC dX11_setsDiets_14 rfl ?_
      refine v_iconst (v := (2 : Int32)) hC dX11_setsDiets_15 rfl ?_
      obtain ⟨r5, M6, q7, h⟩ := bnd_some h
      refine w_callSi hC [.int v2, .int (2 : Int32)] [.ref 209] (ok_X11_dinerAt q7) ms_X11_dinerAt aw_1384 rfl (Nat.le_of_ble_eq_true rfl) ⟨by decide, by decide⟩ ⟨by decide, by decide⟩ dX11_setsDiets_16 ?_
      refine v_iload_n hC dX11_setsDiets_19 rfl ?_
      refine v_iload_n hC dX11_setsDiets_20 rfl ?_
      obtain ⟨r8, M9, q10, h⟩ := bnd_some h
      refine w_callSi hC [.int v1, .int v2] [.int r5, .ref 209] (ok_X11_holds q10) ms_X11_holds aw_1522 rfl (Nat.le_of_ble_eq_true rfl) ⟨by decide, by decide⟩ ⟨by decide, by decide⟩ dX11_setsDiets_21 ?_
      refine v_if_eq hC 31 dX11_setsDiets_24 rfl (fun c11 => ?_) (fun c11 => ?_)
      · rw [if_pos c11] at h
        refine v_iconst (v := (1 : Int32)) hC dX11_setsDiets_31 rfl ?_
        obtain ⟨g12, h⟩ := grd_some h
        obtain ⟨M13, e_M13, h⟩ := lt_some h
        refine w_iast hC ly_209 (inb_in g12) dX11_setsDiets_32 e_M13 ?_
        refine w_iinc hC (v2 + (1 : Int32)) dX11_setsDiets_33 rfl rfl [some (.ref 208), some (.int v1), some (.int (v2 + (1 : Int32)))] rfl ?_
        refine v_goto (tg := 2) hC dX11_setsDiets_36 rfl ?_
        exact ih _ _ _ _ _ h
      · rw [if_neg c11] at h
        refine v_iconst (v := (0 : Int32)) hC dX11_setsDiets_27 rfl ?_
        refine v_goto (tg := 32) hC dX11_setsDiets_28 rfl ?_
        obtain ⟨g15, h⟩ := grd_some h
        obtain ⟨M16, e_M16, h⟩ := lt_some h
        refine w_iast hC ly_209 (inb_in g15) dX11_setsDiets_32 e_M16 ?_
        refine w_iinc hC (v2 + (1 : Int32)) dX11_setsDiets_33 rfl rfl [some (.ref 208), some (.int v1), some (.int (v2 + (1 : Int32)))] rfl ?_
        refine v_goto (tg := 2) hC dX11_setsDiets_36 rfl ?_
        exact ih _ _ _ _ _ h
set_option maxRecDepth 20000 in
set_option maxHeartbeats 4000000 in
theorem ok_X11_setsDiets {l : Launch} {N : Nat} {v1 : Int32} {M : Mm} {r : Int32} {M' : Mm} (h : f_X11_setsDiets N v1 M = some (r, M')) : am_M l yX11_setsDiets cX11_setsDiets 3 none 2 0 0 LY M [.ref 208, .int v1] (.inl none) M' := by
  unfold f_X11_setsDiets at h
  refine am_intro (by decide) (by simp [Value.category]) (Nat.le_of_ble_eq_true rfl) (fun X hC hnt => ?_)
  refine am_start (L := [some (.ref 208), some (.int v1), none]) rfl ?_
  refine v_iconst (v := (0 : Int32)) hC dX11_setsDiets_0 rfl ?_
  refine w_istore_n hC dX11_setsDiets_1 (ltk rfl) [some (.ref 208), some (.int v1), some (.int (0 : Int32))] rfl ?_
  exact ok_X11_setsDiets_2 hC hnt N _ _ _ _ _ h
def f_X11_dietOnes_4 (N : Nat) : Nat → Int32 → Int32 → Mm → Option (Int32 × Mm)
  | 0, _, _, _ => none
  | n + 1, v1, v2, M => bnd (f_X11_diners N M) (fun r1 M2 => (if r1 ≤ v2 then some (v1, M2) else bnd (f_X11_onDiet N v2 M2) (fun r5 M6 => (if r5 = (0 : Int32) then lt (v1 ||| (0 : Int32)) (fun x9 => f_X11_dietOnes_4 N n x9 (v2 + (1 : Int32)) M6) else lt (v1 ||| ((1 : Int32) <<< (v2 &&& 31))) (fun x11 => f_X11_dietOnes_4 N n x11 (v2 + (1 : Int32)) M6)))))
def f_X11_dietOnes (N : Nat) (M : Mm) : Option (Int32 × Mm) :=
  f_X11_dietOnes_4 N N (0 : Int32) (0 : Int32) M
set_option maxRecDepth 20000 in
set_option maxHeartbeats 4000000 in
theorem ok_X11_dietOnes_4 {N : Nat} {X : am_X} {l : Launch} (hC : am_C X l (am_rm 4 0 0) cX11_dietOnes yX11_dietOnes.cls (some .int)) (hnt : am_NT X) : ∀ (n : Nat) (v1 v2 : Int32) (M : Mm) (r : Int32) (M' : Mm), f_X11_dietOnes_4 N n v1 v2 M = some (r, M') → am_V X LY M 0 0 (am_Q X LY 0 0 (.inl (some (.int r))) M') 4 [some (.ref 208), some (.int v1), some (.int v2)] [] := by
  intro n
  induction n with
  | zero => intro v1 v2 M r M' h; cases h
  | succ n ih =>
    intro v1 v2 M r M' h
    simp only [f_X11_dietOnes_4] at h
    refine v_iload_n hC dX11_dietOnes_4 rfl ?_
    refine v_aload_n hC dX11_dietOnes_5 rfl ?_
    obtain ⟨r1, M2, q3, h⟩ := bnd_some h
    refine w_callVi hC [] [.int v2] (ok_X11_diners q3) mv_X11_diners aw_1362 ly_208 rfl (Nat.le_of_ble_eq_true rfl) ⟨by decide, by decide⟩ ⟨by decide, by decide⟩ dX11_dietOnes_6 ?_
    refine v_icmp_ge hC 36 dX11_dietOnes_9 rfl (fun c4 => ?_) (fun c4 => ?_)
    · rw [if_pos c4] at h
      refine v_iload_n hC dX11_dietOnes_36 rfl ?_
      cases h
      exact v_iret hC (by decide) (by decide) dX11_dietOnes_37
    · rw [if_neg c4] at h
      refine v_iload_n hC dX11_dietOnes_12 rfl ?_
      refine v_aload_n hC dX11_dietOnes_13 rfl ?_
      refine v_iload_n hC dX11_dietOnes_14 rfl ?_
      obtain ⟨r5, M6, q7, h⟩ := bnd_some h
      refine w_callVi hC [.int v2] [.int v1] (ok_X11_onDiet q7) mv_X11_onDiet aw_1533 ly_208 rfl (Nat.le_of_ble_eq_true rfl) ⟨by decide, by decide⟩ ⟨by decide, by decide⟩ dX11_dietOnes_15 ?_
      refine v_if_eq hC 27 dX11_dietOnes_18 rfl (fun c8 => ?_) (fun c8 => ?_)
      · rw [if_pos c8] at h
        refine v_iconst (v := (0 : Int32)) hC dX11_dietOnes_27 rfl ?_
        refine v_ior hC dX11_dietOnes_28 ?_
        obtain ⟨x9, e_x9, h⟩ := lt_some h
        refine v_nam e_x9 ?_
        refine w_istore_n hC dX11_dietOnes_29 (ltk rfl) [some (.ref 208), some (.int x9), some (.int v2)] rfl ?_
        refine w_iinc hC (v2 + (1 : Int32)) dX11_dietOnes_30 rfl rfl [some (.ref 208), some (.int x9), some (.int (v2 + (1 : Int32)))] rfl ?_
        refine v_goto (tg := 4) hC dX11_dietOnes_33 rfl ?_
        exact ih _ _ _ _ _ h
      · rw [if_neg c8] at h
        refine v_iconst (v := (1 : Int32)) hC dX11_dietOnes_21 rfl ?_
        refine v_iload_n hC dX11_dietOnes_22 rfl ?_
        refine v_ishl hC dX11_dietOnes_23 ?_
        refine v_goto (tg := 28) hC dX11_dietOnes_24 rfl ?_
        refine v_ior hC dX11_dietOnes_28 ?_
        obtain ⟨x11, e_x11, h⟩ := lt_some h
        refine v_nam e_x11 ?_
        refine w_istore_n hC dX11_dietOnes_29 (ltk rfl) [some (.ref 208), some (.int x11), some (.int v2)] rfl ?_
        refine w_iinc hC (v2 + (1 : Int32)) dX11_dietOnes_30 rfl rfl [some (.ref 208), some (.int x11), some (.int (v2 + (1 : Int32)))] rfl ?_
        refine v_goto (tg := 4) hC dX11_dietOnes_33 rfl ?_
        exact ih _ _ _ _ _ h
set_option maxRecDepth 20000 in
set_option maxHeartbeats 4000000 in
theorem ok_X11_dietOnes {l : Launch} {N : Nat} {M : Mm} {r : Int32} {M' : Mm} (h : f_X11_dietOnes N M = some (r, M')) : am_M l yX11_dietOnes cX11_dietOnes 3 (some .int) 4 0 0 LY M [.ref 208] (.inl (some (.int r))) M' := by
  unfold f_X11_dietOnes at h
  refine am_intro (by decide) (by simp [Value.category]) (Nat.le_of_ble_eq_true rfl) (fun X hC hnt => ?_)
  refine am_start (L := [some (.ref 208), none, none]) rfl ?_
  refine v_iconst (v := (0 : Int32)) hC dX11_dietOnes_0 rfl ?_
  refine w_istore_n hC dX11_dietOnes_1 (ltk rfl) [some (.ref 208), some (.int (0 : Int32)), none] rfl ?_
  refine v_iconst (v := (0 : Int32)) hC dX11_dietOnes_2 rfl ?_
  refine w_istore_n hC dX11_dietOnes_3 (ltk rfl) [some (.ref 208), some (.int (0 : Int32)), some (.int (0 : Int32))] rfl ?_
  exact ok_X11_dietOnes_4 hC hnt N _ _ _ _ _ h
def f_X11_fewest_131 (N : Nat) (k58 : Int32 → Int32 → Int32 → Int32 → Int32 → Int32 → Mm → Option (Int32 × Mm)) (v1 : Int32) (v2 : Int32) (v3 : Int32) (v5 : Int32) (v6 : Int32) (s0 : Int32) (M : Mm) : Option (Int32 × Mm) :=
  k58 v1 v2 v3 s0 v5 (v6 + (1 : Int32)) M
def f_X11_fewest_115 (N : Nat) (k58 : Int32 → Int32 → Int32 → Int32 → Int32 → Int32 → Mm → Option (Int32 × Mm)) (v1 : Int32) (v2 : Int32) (v4 : Int32) (v5 : Int32) (v6 : Int32) (v7 : Int32) (s0 : Int32) (M : Mm) : Option (Int32 × Mm) :=
  (if v7 = (0 : Int32) then f_X11_fewest_131 N k58 v1 v2 s0 v5 v6 v4 M else bnd (f_J6_bitCount_0f7a4 N v6 M) (fun r41 M42 => f_X11_fewest_131 N k58 v1 v2 s0 v5 v6 r41 M42))
def f_X11_fewest_102 (N : Nat) (k58 : Int32 → Int32 → Int32 → Int32 → Int32 → Int32 → Mm → Option (Int32 × Mm)) (v1 : Int32) (v2 : Int32) (v3 : Int32) (v4 : Int32) (v5 : Int32) (v6 : Int32) (s0 : Int32) (M : Mm) : Option (Int32 × Mm) :=
  (if s0 = (0 : Int32) then f_X11_fewest_115 N k58 v1 v2 v4 v5 v6 s0 v3 M else f_X11_fewest_115 N k58 v1 v2 v4 v5 v6 s0 v6 M)
def f_X11_fewest_58 (N : Nat) : Nat → Int32 → Int32 → Int32 → Int32 → Int32 → Int32 → Mm → Option (Int32 × Mm)
  | 0, _, _, _, _, _, _, _ => none
  | n + 1, v1, v2, v3, v4, v5, v6, M => bnd (f_X11_diners N M) (fun r20 M21 => (if ((1 : Int32) <<< (r20 &&& 31)) ≤ v6 then bnd (f_X11_setsDiets N (v5 ^^^ (-1 : Int32)) M21) (fun r24 M25 => some (v3, M25)) else bnd (f_J6_bitCount_0f7a4 N v6 M21) (fun r27 M28 => (if r27 < v4 then bnd (f_X11_setsDiets N v6 M28) (fun r31 M32 => bnd (f_X11_grainsIn N v1 v2 M32) (fun r34 M35 => (if r34 = (0 : Int32) then f_X11_fewest_102 N (fun v1 v2 v3 v4 v5 v6 M => f_X11_fewest_58 N n v1 v2 v3 v4 v5 v6 M) v1 v2 v3 v4 v5 v6 (1 : Int32) M35 else f_X11_fewest_102 N (fun v1 v2 v3 v4 v5 v6 M => f_X11_fewest_58 N n v1 v2 v3 v4 v5 v6 M) v1 v2 v3 v4 v5 v6 (0 : Int32) M35))) else f_X11_fewest_58 N n v1 v2 v3 v4 v5 (v6 + (1 : Int32)) M28))))
def f_X11_fewest_34 (N : Nat) (v1 : Int32) (v2 : Int32) (s1 : Int32) (M : Mm) : Option (Int32 × Mm) :=
  bnd (f_X11_throwsIf N s1 (2 : Int32) M) (fun r13 M14 => (if r13 = (0 : Int32) then bnd (f_X11_dietOnes N M14) (fun r17 M18 => f_X11_fewest_58 N N v1 v2 (-1 : Int32) (9 : Int32) r17 (0 : Int32) M18) else some ((0 : Int32), M14)))
def f_X11_fewest (N : Nat) (v1 : Int32) (v2 : Int32) (M : Mm) : Option (Int32 × Mm) :=
  lt (wr M 208 0 (0 : Int32)) (fun M1 => bnd (f_X11_noCellar N v1 M1) (fun r2 M3 => bnd (f_X11_throwsIf N r2 (1 : Int32) M3) (fun r5 M6 => (if r5 = (0 : Int32) then bnd (f_X11_in N v2 (0 : Int32) (24 : Int32) M6) (fun r9 M10 => (if r9 = (0 : Int32) then f_X11_fewest_34 N v1 v2 (1 : Int32) M10 else f_X11_fewest_34 N v1 v2 (0 : Int32) M10)) else some ((0 : Int32), M6)))))
set_option maxRecDepth 20000 in
set_option maxHeartbeats 4000000 in
theorem ok_X11_fewest_131 {N : Nat} {X : am_X} {l : Launch} (hC : am_C X l (am_rm 12 0 0) cX11_fewest yX11_fewest.cls (some .int)) (hnt : am_NT X) {k58 : Int32 → Int32 → Int32 → Int32 → Int32 → Int32 → Mm → Option (Int32 × Mm)} (hk58 : ∀ (v1 v2 v3 v4 v5 v6 : Int32) (M : Mm) (r : Int32) (M' : Mm), k58 v1 v2 v3 v4 v5 v6 M = some (r, M') → am_V X LY M 0 0 (am_Q X LY 0 0 (.inl (some (.int r))) M') 58 [some (.ref 208), some (.int v1), some (.int v2), some (.int v3), some (.int v4), some (.int v5), some (.int v6), none] []) {v1 v2 v3 v5 v6 s0 : Int32} {M : Mm} {r : Int32} {M' : Mm} (h : f_X11_fewest_131 N k58 v1 v2 v3 v5 v6 s0 M = some (r, M')) : am_V X LY M 0 0 (am_Q X LY 0 0 (.inl (some (.int r))) M') 131 [some (.ref 208), some (.int v1), some (.int v2), some (.int v3), none, some (.int v5), some (.int v6), none] [.int s0] := by
  unfold f_X11_fewest_131 at h
  refine w_istore hC dX11_fewest_131 (ltk rfl) [some (.ref 208), some (.int v1), some (.int v2), some (.int v3), some (.int s0), some (.int v5), some (.int v6), none] rfl ?_
  refine w_iinc hC (v6 + (1 : Int32)) dX11_fewest_133 rfl rfl [some (.ref 208), some (.int v1), some (.int v2), some (.int v3), some (.int s0), some (.int v5), some (.int (v6 + (1 : Int32))), none] rfl ?_
  refine v_goto (tg := 58) hC dX11_fewest_136 rfl ?_
  exact hk58 _ _ _ _ _ _ _ _ _ h
set_option maxRecDepth 20000 in
set_option maxHeartbeats 4000000 in
theorem ok_X11_fewest_115 {N : Nat} {X : am_X} {l : Launch} (hC : am_C X l (am_rm 12 0 0) cX11_fewest yX11_fewest.cls (some .int)) (hnt : am_NT X) {k58 : Int32 → Int32 → Int32 → Int32 → Int32 → Int32 → Mm → Option (Int32 × Mm)} (hk58 : ∀ (v1 v2 v3 v4 v5 v6 : Int32) (M : Mm) (r : Int32) (M' : Mm), k58 v1 v2 v3 v4 v5 v6 M = some (r, M') → am_V X LY M 0 0 (am_Q X LY 0 0 (.inl (some (.int r))) M') 58 [some (.ref 208), some (.int v1), some (.int v2), some (.int v3), some (.int v4), some (.int v5), some (.int v6), none] []) {v1 v2 v4 v5 v6 v7 s0 : Int32} {M : Mm} {r : Int32} {M' : Mm} (h : f_X11_fewest_115 N k58 v1 v2 v4 v5 v6 v7 s0 M = some (r, M')) : am_V X LY M 0 0 (am_Q X LY 0 0 (.inl (some (.int r))) M') 115 [some (.ref 208), some (.int v1), some (.int v2), none, some (.int v4), some (.int v5), some (.int v6), some (.int v7)] [.int s0] := by
  unfold f_X11_fewest_115 at h
  refine w_istore_n hC dX11_fewest_115 (ltk rfl) [some (.ref 208), some (.int v1), some (.int v2), some (.int s0), some (.int v4), some (.int v5), some (.int v6), some (.int v7)] rfl ?_
  refine v_iload hC dX11_fewest_116 rfl ?_
  refine v_if_eq hC 129 dX11_fewest_118 rfl (fun c39 => ?_) (fun c39 => ?_)
  · rw [if_pos c39] at h
    refine v_iload hC dX11_fewest_129 rfl ?_
    refine v_drop [true, true, true, true, false, true, true, false] [some (.ref 208), some (.int v1), some (.int v2), some (.int s0), none, some (.int v5), some (.int v6), none] rfl ?_
    exact ok_X11_fewest_131 hC hnt hk58 h
  · rw [if_neg c39] at h
    refine v_iload hC dX11_fewest_121 rfl ?_
    obtain ⟨r41, M42, q43, h⟩ := bnd_some h
    refine w_callSi hC [.int v6] [] (ok_J6_bitCount_0f7a4 q43) ms_J6_bitCount_0f7a4 aw_1706 rfl (Nat.le_of_ble_eq_true rfl) ⟨by decide, by decide⟩ ⟨by decide, by decide⟩ dX11_fewest_123 ?_
    refine v_goto (tg := 131) hC dX11_fewest_126 rfl ?_
    refine v_drop [true, true, true, true, false, true, true, false] [some (.ref 208), some (.int v1), some (.int v2), some (.int s0), none, some (.int v5), some (.int v6), none] rfl ?_
    exact ok_X11_fewest_131 hC hnt hk58 h
set_option maxRecDepth 20000 in
set_option maxHeartbeats 4000000 in
theorem ok_X11_fewest_102 {N : Nat} {X : am_X} {l : Launch} (hC : am_C X l (am_rm 12 0 0) cX11_fewest yX11_fewest.cls (some .int)) (hnt : am_NT X) {k58 : Int32 → Int32 → Int32 → Int32 → Int32 → Int32 → Mm → Option (Int32 × Mm)} (hk58 : ∀ (v1 v2 v3 v4 v5 v6 : Int32) (M : Mm) (r : Int32) (M' : Mm), k58 v1 v2 v3 v4 v5 v6 M = some (r, M') → am_V X LY M 0 0 (am_Q X LY 0 0 (.inl (some (.int r))) M') 58 [some (.ref 208), some (.int v1), some (.int v2), some (.int v3), some (.int v4), some (.int v5), some (.int v6), none] []) {v1 v2 v3 v4 v5 v6 s0 : Int32} {M : Mm} {r : Int32} {M' : Mm} (h : f_X11_fewest_102 N k58 v1 v2 v3 v4 v5 v6 s0 M = some (r, M')) : am_V X LY M 0 0 (am_Q X LY 0 0 (.inl (some (.int r))) M') 102 [some (.ref 208), some (.int v1), some (.int v2), some (.int v3), some (.int v4), some (.int v5), some (.int v6), none] [.int s0] := by
  unfold f_X11_fewest_102 at h
  refine w_istore hC dX11_fewest_102 (ltk rfl) [some (.ref 208), some (.int v1), some (.int v2), some (.int v3), some (.int v4), some (.int v5), some (.int v6), some (.int s0)] rfl ?_
  refine v_iload hC dX11_fewest_104 rfl ?_
  refine v_if_eq hC 114 dX11_fewest_106 rfl (fun c38 => ?_) (fun c38 => ?_)
  · rw [if_pos c38] at h
    refine v_iload_n hC dX11_fewest_114 rfl ?_
    refine v_drop [true, true, true, false, true, true, true, true] [some (.ref 208), some (.int v1), some (.int v2), none, some (.int v4), some (.int v5), some (.int v6), some (.int s0)] rfl ?_
    exact ok_X11_fewest_115 hC hnt hk58 h
  · rw [if_neg c38] at h
    refine v_iload hC dX11_fewest_109 rfl ?_
    refine v_goto (tg := 115) hC dX11_fewest_111 rfl ?_
    refine v_drop [true, true, true, false, true, true, true, true] [some (.ref 208), some (.int v1), some (.int v2), none, some (.int v4), some (.int v5), some (.int v6), some (.int s0)] rfl ?_
    exact ok_X11_fewest_115 hC hnt hk58 h
set_option maxRecDepth 20000 in
set_option maxHeartbeats 4000000 in
theorem ok_X11_fewest_58 {N : Nat} {X : am_X} {l : Launch} (hC : am_C X l (am_rm 12 0 0) cX11_fewest yX11_fewest.cls (some .int)) (hnt : am_NT X) : ∀ (n : Nat) (v1 v2 v3 v4 v5 v6 : Int32) (M : Mm) (r : Int32) (M' : Mm), f_X11_fewest_58 N n v1 v2 v3 v4 v5 v6 M = some (r, M') → am_V X LY M 0 0 (am_Q X LY 0 0 (.inl (some (.int r))) M') 58 [some (.ref 208), some (.int v1), some (.int v2), some (.int v3), some (.int v4), some (.int v5), some (.int v6), none] [] := by
  intro n
  induction n with
  | zero => intro v1 v2 v3 v4 v5 v6 M r M' h; cases h
  | succ n ih =>
    intro v1 v2 v3 v4 v5 v6 M r M' h
    simp only [f_X11_fewest_58] at h
    refine v_iload hC dX11_fewest_58 rfl ?_
    refine v_iconst (v := (1 : Int32)) hC dX11_fewest_60 rfl ?_
    refine v_aload_n hC dX11_fewest_61 rfl ?_
    obtain ⟨r20, M21, q22, h⟩ := bnd_some h
    refine w_callVi hC [] [.int (1 : Int32), .int v6] (ok_X11_diners q22) mv_X11_diners aw_1362 ly_208 rfl (Nat.le_of_ble_eq_true rfl) ⟨by decide, by decide⟩ ⟨by decide, by decide⟩ dX11_fewest_62 ?_
    refine v_ishl hC dX11_fewest_65 ?_
    refine v_icmp_ge hC 139 dX11_fewest_66 rfl (fun c23 => ?_) (fun c23 => ?_)
    · rw [if_pos c23] at h
      refine v_aload_n hC dX11_fewest_139 rfl ?_
      refine v_iload hC dX11_fewest_140 rfl ?_
      refine v_iconst (v := (-1 : Int32)) hC dX11_fewest_142 rfl ?_
      refine v_ixor hC dX11_fewest_143 ?_
      obtain ⟨r24, M25, q26, h⟩ := bnd_some h
      refine w_callVv hC [.int (v5 ^^^ (-1 : Int32))] [] (ok_X11_setsDiets q26) mv_X11_setsDiets aw_1707 ly_208 rfl (Nat.le_of_ble_eq_true rfl) ⟨by decide, by decide⟩ ⟨by decide, by decide⟩ dX11_fewest_144 ?_
      refine v_iload_n hC dX11_fewest_147 rfl ?_
      cases h
      exact v_iret hC (by decide) (by decide) dX11_fewest_148
    · rw [if_neg c23] at h
      refine v_iload hC dX11_fewest_69 rfl ?_
      obtain ⟨r27, M28, q29, h⟩ := bnd_some h
      refine w_callSi hC [.int v6] [] (ok_J6_bitCount_0f7a4 q29) ms_J6_bitCount_0f7a4 aw_1706 rfl (Nat.le_of_ble_eq_true rfl) ⟨by decide, by decide⟩ ⟨by decide, by decide⟩ dX11_fewest_71 ?_
      refine v_iload hC dX11_fewest_74 rfl ?_
      refine v_icmp_lt hC 82 dX11_fewest_76 rfl (fun c30 => ?_) (fun c30 => ?_)
      · rw [if_pos c30] at h
        refine v_aload_n hC dX11_fewest_82 rfl ?_
        refine v_iload hC dX11_fewest_83 rfl ?_
        obtain ⟨r31, M32, q33, h⟩ := bnd_some h
        refine w_callVv hC [.int v6] [] (ok_X11_setsDiets q33) mv_X11_setsDiets aw_1707 ly_208 rfl (Nat.le_of_ble_eq_true rfl) ⟨by decide, by decide⟩ ⟨by decide, by decide⟩ dX11_fewest_85 ?_
        refine v_aload_n hC dX11_fewest_88 rfl ?_
        refine v_iload_n hC dX11_fewest_89 rfl ?_
        refine v_iload_n hC dX11_fewest_90 rfl ?_
        obtain ⟨r34, M35, q36, h⟩ := bnd_some h
        refine w_callVi hC [.int v1, .int v2] [] (ok_X11_grainsIn q36) mv_X11_grainsIn aw_1686 ly_208 rfl (Nat.le_of_ble_eq_true rfl) ⟨by decide, by decide⟩ ⟨by decide, by decide⟩ dX11_fewest_91 ?_
        refine v_if_ne hC 101 dX11_fewest_94 rfl (fun c37 => ?_) (fun c37 => ?_)
        · rw [if_neg c37] at h
          refine v_iconst (v := (0 : Int32)) hC dX11_fewest_101 rfl ?_
          exact ok_X11_fewest_102 hC hnt (fun v1 v2 v3 v4 v5 v6 M r M' h => ih v1 v2 v3 v4 v5 v6 M r M' h) h
        · rw [if_pos c37] at h
          refine v_iconst (v := (1 : Int32)) hC dX11_fewest_97 rfl ?_
          refine v_goto (tg := 102) hC dX11_fewest_98 rfl ?_
          exact ok_X11_fewest_102 hC hnt (fun v1 v2 v3 v4 v5 v6 M r M' h => ih v1 v2 v3 v4 v5 v6 M r M' h) h
      · rw [if_neg c30] at h
        refine v_goto (tg := 133) hC dX11_fewest_79 rfl ?_
        refine w_iinc hC (v6 + (1 : Int32)) dX11_fewest_133 rfl rfl [some (.ref 208), some (.int v1), some (.int v2), some (.int v3), some (.int v4), some (.int v5), some (.int (v6 + (1 : Int32))), none] rfl ?_
        refine v_goto (tg := 58) hC dX11_fewest_136 rfl ?_
        exact ih _ _ _ _ _ _ _ _ _ h
set_option maxRecDepth 20000 in
set_option maxHeartbeats 4000000 in
theorem ok_X11_fewest_34 {N : Nat} {X : am_X} {l : Launch} (hC : am_C X l (am_rm 12 0 0) cX11_fewest yX11_fewest.cls (some .int)) (hnt : am_NT X) {v1 v2 s1 : Int32} {M : Mm} {r : Int32} {M' : Mm} (h : f_X11_fewest_34 N v1 v2 s1 M = some (r, M')) : am_V X LY M 0 0 (am_Q X LY 0 0 (.inl (some (.int r))) M') 34 [some (.ref 208), some (.int v1), some (.int v2), none, none, none, none, none] [.int s1, .ref 208] := by
  unfold f_X11_fewest_34 at h
  refine v_iconst (v := (2 : Int32)) hC dX11_fewest_34 rfl ?_
  obtain ⟨r13, M14, q15, h⟩ := bnd_some h
  refine w_callVi hC [.int s1, .int (2 : Int32)] [] (ok_X11_throwsIf q15) mv_X11_throwsIf aw_1470 ly_208 rfl (Nat.le_of_ble_eq_true rfl) ⟨by decide, by decide⟩ ⟨by decide, by decide⟩ dX11_fewest_35 ?_
  refine v_if_eq hC 43 dX11_fewest_38 rfl (fun c16 => ?_) (fun c16 => ?_)
  · rw [if_pos c16] at h
    refine v_iconst (v := (-1 : Int32)) hC dX11_fewest_43 rfl ?_
    refine w_istore_n hC dX11_fewest_44 (ltk rfl) [some (.ref 208), some (.int v1), some (.int v2), some (.int (-1 : Int32)), none, none, none, none] rfl ?_
    refine v_bipush (v := (9 : Int32)) hC dX11_fewest_45 rfl ?_
    refine w_istore hC dX11_fewest_47 (ltk rfl) [some (.ref 208), some (.int v1), some (.int v2), some (.int (-1 : Int32)), some (.int (9 : Int32)), none, none, none] rfl ?_
    refine v_aload_n hC dX11_fewest_49 rfl ?_
    obtain ⟨r17, M18, q19, h⟩ := bnd_some h
    refine w_callVi hC [] [] (ok_X11_dietOnes q19) mv_X11_dietOnes aw_1702 ly_208 rfl (Nat.le_of_ble_eq_true rfl) ⟨by decide, by decide⟩ ⟨by decide, by decide⟩ dX11_fewest_50 ?_
    refine w_istore hC dX11_fewest_53 (ltk rfl) [some (.ref 208), some (.int v1), some (.int v2), some (.int (-1 : Int32)), some (.int (9 : Int32)), some (.int r17), none, none] rfl ?_
    refine v_iconst (v := (0 : Int32)) hC dX11_fewest_55 rfl ?_
    refine w_istore hC dX11_fewest_56 (ltk rfl) [some (.ref 208), some (.int v1), some (.int v2), some (.int (-1 : Int32)), some (.int (9 : Int32)), some (.int r17), some (.int (0 : Int32)), none] rfl ?_
    exact ok_X11_fewest_58 hC hnt N _ _ _ _ _ _ _ _ _ h
  · rw [if_neg c16] at h
    refine v_iconst (v := (0 : Int32)) hC dX11_fewest_41 rfl ?_
    cases h
    exact v_iret hC (by decide) (by decide) dX11_fewest_42
set_option maxRecDepth 20000 in
set_option maxHeartbeats 4000000 in
theorem ok_X11_fewest {l : Launch} {N : Nat} {v1 v2 : Int32} {M : Mm} {r : Int32} {M' : Mm} (h : f_X11_fewest N v1 v2 M = some (r, M')) : am_M l yX11_fewest cX11_fewest 8 (some .int) 12 0 0 LY M [.ref 208, .int v1, .int v2] (.inl (some (.int r))) M' := by
  unfold f_X11_fewest at h
  refine am_intro (by decide) (by simp [Value.category]) (Nat.le_of_ble_eq_true rfl) (fun X hC hnt => ?_)
  refine am_start (L := [some (.ref 208), some (.int v1), some (.int v2), none, none, none, none, none]) rfl ?_
  refine v_aload_n hC dX11_fewest_0 rfl ?_
  refine v_iconst (v := (0 : Int32)) hC dX11_fewest_1 rfl ?_
  obtain ⟨M1, e_M1, h⟩ := lt_some h
  refine w_puti (k := 0) hC cls_X11 ly_208 (by decide) rfl aw_1231 rfl rfl ⟨rfl, rfl⟩ dX11_fewest_2 e_M1 ?_
  refine v_aload_n hC dX11_fewest_5 rfl ?_
  refine v_aload_n hC dX11_fewest_6 rfl ?_
  refine v_iload_n hC dX11_fewest_7 rfl ?_
  obtain ⟨r2, M3, q4, h⟩ := bnd_some h
  refine w_callVi hC [.int v1] [.ref 208] (ok_X11_noCellar q4) mv_X11_noCellar aw_1502 ly_208 rfl (Nat.le_of_ble_eq_true rfl) ⟨by decide, by decide⟩ ⟨by decide, by decide⟩ dX11_fewest_8 ?_
  refine v_iconst (v := (1 : Int32)) hC dX11_fewest_11 rfl ?_
  obtain ⟨r5, M6, q7, h⟩ := bnd_some h
  refine w_callVi hC [.int r2, .int (1 : Int32)] [] (ok_X11_throwsIf q7) mv_X11_throwsIf aw_1470 ly_208 rfl (Nat.le_of_ble_eq_true rfl) ⟨by decide, by decide⟩ ⟨by decide, by decide⟩ dX11_fewest_12 ?_
  refine v_if_ne hC 41 dX11_fewest_15 rfl (fun c8 => ?_) (fun c8 => ?_)
  · rw [if_neg c8] at h
    refine v_iconst (v := (0 : Int32)) hC dX11_fewest_41 rfl ?_
    cases h
    exact v_iret hC (by decide) (by decide) dX11_fewest_42
  · rw [if_pos c8] at h
    refine v_aload_n hC dX11_fewest_18 rfl ?_
    refine v_iload_n hC dX11_fewest_19 rfl ?_
    refine v_iconst (v := (0 : Int32)) hC dX11_fewest_20 rfl ?_
    refine v_bipush (v := (24 : Int32)) hC dX11_fewest_21 rfl ?_
    obtain ⟨r9, M10, q11, h⟩ := bnd_some h
    refine w_callSi hC [.int v2, .int (0 : Int32), .int (24 : Int32)] [.ref 208] (ok_X11_in q11) ms_X11_in aw_1404 rfl (Nat.le_of_ble_eq_true rfl) ⟨by decide, by decide⟩ ⟨by decide, by decide⟩ dX11_fewest_23 ?_
    refine v_if_ne hC 33 dX11_fewest_26 rfl (fun c12 => ?_) (fun c12 => ?_)
    · rw [if_neg c12] at h
      refine v_iconst (v := (0 : Int32)) hC dX11_fewest_33 rfl ?_
      exact ok_X11_fewest_34 hC hnt h
    · rw [if_pos c12] at h
      refine v_iconst (v := (1 : Int32)) hC dX11_fewest_29 rfl ?_
      refine v_goto (tg := 34) hC dX11_fewest_30 rfl ?_
      exact ok_X11_fewest_34 hC hnt h
def f_X11_isTold_72 (N : Nat) (k26 : Int32 → Int32 → Mm → Option (Int32 × Mm)) (v2 : Int32) (M : Mm) : Option (Int32 × Mm) :=
  k26 (0 : Int32) (v2 + (3 : Int32)) M
def f_X11_isTold_26 (N : Nat) : Nat → Int32 → Int32 → Mm → Option (Int32 × Mm)
  | 0, _, _, _ => none
  | n + 1, v1, v2, M => (if (M 208 11) ≤ v2 then grd (isb v1) (some (v1, M)) else (if v1 = (0 : Int32) then grd (isb v1) (some (v1, M)) else grd (inb v2 400) (bnd (f_X11_noCellar N (M 214 (v2).toNatClampNeg) M) (fun r7 M8 => (if r7 = (0 : Int32) then grd (inb (v2 + (1 : Int32)) 400) (bnd (f_X11_in N (M8 214 ((v2 + (1 : Int32))).toNatClampNeg) (0 : Int32) (24 : Int32) M8) (fun r13 M14 => (if r13 = (0 : Int32) then f_X11_isTold_72 N (fun v1 v2 M => f_X11_isTold_26 N n v1 v2 M) v2 M14 else f_X11_isTold_26 N n (1 : Int32) (v2 + (3 : Int32)) M14))) else f_X11_isTold_72 N (fun v1 v2 M => f_X11_isTold_26 N n v1 v2 M) v2 M8)))))
def f_X11_isTold_22 (N : Nat) (M : Mm) : Option (Int32 × Mm) :=
  f_X11_isTold_26 N N (0 : Int32) (0 : Int32) M
def f_X11_isTold (N : Nat) (M : Mm) : Option (Int32 × Mm) :=
  (if ((M 208 11) - (M 208 11) / (3 : Int32) * (3 : Int32)) = (0 : Int32) then (if (12 : Int32) < (M 208 11) then f_X11_isTold_22 N M else f_X11_isTold_26 N N (1 : Int32) (0 : Int32) M) else f_X11_isTold_22 N M)
set_option maxRecDepth 20000 in
set_option maxHeartbeats 4000000 in
theorem ok_X11_isTold_72 {N : Nat} {X : am_X} {l : Launch} (hC : am_C X l (am_rm 3 0 0) cX11_isTold yX11_isTold.cls (some .boolean)) (hnt : am_NT X) {k26 : Int32 → Int32 → Mm → Option (Int32 × Mm)} (hk26 : ∀ (v1 v2 : Int32) (M : Mm) (r : Int32) (M' : Mm), k26 v1 v2 M = some (r, M') → am_V X LY M 0 0 (am_Q X LY 0 0 (.inl (some (.int r))) M') 26 [some (.ref 208), some (.int v1), some (.int v2)] []) {v2 : Int32} {M : Mm} {r : Int32} {M' : Mm} (h : f_X11_isTold_72 N k26 v2 M = some (r, M')) : am_V X LY M 0 0 (am_Q X LY 0 0 (.inl (some (.int r))) M') 72 [some (.ref 208), none, some (.int v2)] [] := by
  unfold f_X11_isTold_72 at h
  refine v_iconst (v := (0 : Int32)) hC dX11_isTold_72 rfl ?_
  refine w_istore_n hC dX11_isTold_73 (ltk rfl) [some (.ref 208), some (.int (0 : Int32)), some (.int v2)] rfl ?_
  refine w_iinc hC (v2 + (3 : Int32)) dX11_isTold_74 rfl rfl [some (.ref 208), some (.int (0 : Int32)), some (.int (v2 + (3 : Int32)))] rfl ?_
  refine v_goto (tg := 26) hC dX11_isTold_77 rfl ?_
  exact hk26 _ _ _ _ _ h
set_option maxRecDepth 20000 in
set_option maxHeartbeats 4000000 in
theorem ok_X11_isTold_26 {N : Nat} {X : am_X} {l : Launch} (hC : am_C X l (am_rm 3 0 0) cX11_isTold yX11_isTold.cls (some .boolean)) (hnt : am_NT X) : ∀ (n : Nat) (v1 v2 : Int32) (M : Mm) (r : Int32) (M' : Mm), f_X11_isTold_26 N n v1 v2 M = some (r, M') → am_V X LY M 0 0 (am_Q X LY 0 0 (.inl (some (.int r))) M') 26 [some (.ref 208), some (.int v1), some (.int v2)] [] := by
  intro n
  induction n with
  | zero => intro v1 v2 M r M' h; cases h
  | succ n ih =>
    intro v1 v2 M r M' h
    simp only [f_X11_isTold_26] at h
    refine v_iload_n hC dX11_isTold_26 rfl ?_
    refine v_aload_n hC dX11_isTold_27 rfl ?_
    refine v_geti (k := 11) hC cls_X11 ly_208 (by decide) rfl aw_1242 rfl dX11_isTold_28 ?_
    refine v_icmp_ge hC 80 dX11_isTold_31 rfl (fun c2 => ?_) (fun c2 => ?_)
    · rw [if_pos c2] at h
      refine v_iload_n hC dX11_isTold_80 rfl ?_
      obtain ⟨g3, h⟩ := grd_some h
      cases h
      exact v_zret hC (isb_nar g3).1 (by decide) (by decide) dX11_isTold_81
    · rw [if_neg c2] at h
      refine v_iload_n hC dX11_isTold_34 rfl ?_
      refine v_if_eq hC 80 dX11_isTold_35 rfl (fun c4 => ?_) (fun c4 => ?_)
      · rw [if_pos c4] at h
        refine v_iload_n hC dX11_isTold_80 rfl ?_
        obtain ⟨g5, h⟩ := grd_some h
        cases h
        exact v_zret hC (isb_nar g5).1 (by decide) (by decide) dX11_isTold_81
      · rw [if_neg c4] at h
        refine v_aload_n hC dX11_isTold_38 rfl ?_
        refine v_aload_n hC dX11_isTold_39 rfl ?_
        refine v_geta (k := 8) (b := 214) hC cls_X11 ly_208 (by decide) rfl aw_1239 rfl dX11_isTold_40 ?_
        refine v_iload_n hC dX11_isTold_43 rfl ?_
        obtain ⟨g6, h⟩ := grd_some h
        refine v_bald hC ly_214 (inb_in g6) dX11_isTold_44 ?_
        obtain ⟨r7, M8, q9, h⟩ := bnd_some h
        refine w_callVi hC [.int (M 214 (v2).toNatClampNeg)] [] (ok_X11_noCellar q9) mv_X11_noCellar aw_1502 ly_208 rfl (Nat.le_of_ble_eq_true rfl) ⟨by decide, by decide⟩ ⟨by decide, by decide⟩ dX11_isTold_45 ?_
        refine v_if_ne hC 72 dX11_isTold_48 rfl (fun c10 => ?_) (fun c10 => ?_)
        · rw [if_neg c10] at h
          refine v_drop [true, false, true] [some (.ref 208), none, some (.int v2)] rfl ?_
          exact ok_X11_isTold_72 hC hnt (fun v1 v2 M r M' h => ih v1 v2 M r M' h) h
        · rw [if_pos c10] at h
          refine v_aload_n hC dX11_isTold_51 rfl ?_
          refine v_geta (k := 8) (b := 214) hC cls_X11 ly_208 (by decide) rfl aw_1239 rfl dX11_isTold_52 ?_
          refine v_iload_n hC dX11_isTold_55 rfl ?_
          refine v_iconst (v := (1 : Int32)) hC dX11_isTold_56 rfl ?_
          refine v_iadd hC dX11_isTold_57 ?_
          obtain ⟨g12, h⟩ := grd_some h
          refine v_bald hC ly_214 (inb_in g12) dX11_isTold_58 ?_
          refine v_iconst (v := (0 : Int32)) hC dX11_isTold_59 rfl ?_
          refine v_bipush (v := (24 : Int32)) hC dX11_isTold_60 rfl ?_
          obtain ⟨r13, M14, q15, h⟩ := bnd_some h
          refine w_callSi hC [.int (M8 214 ((v2 + (1 : Int32))).toNatClampNeg), .int (0 : Int32), .int (24 : Int32)] [] (ok_X11_in q15) ms_X11_in aw_1404 rfl (Nat.le_of_ble_eq_true rfl) ⟨by decide, by decide⟩ ⟨by decide, by decide⟩ dX11_isTold_62 ?_
          refine v_if_eq hC 72 dX11_isTold_65 rfl (fun c16 => ?_) (fun c16 => ?_)
          · rw [if_pos c16] at h
            refine v_drop [true, false, true] [some (.ref 208), none, some (.int v2)] rfl ?_
            exact ok_X11_isTold_72 hC hnt (fun v1 v2 M r M' h => ih v1 v2 M r M' h) h
          · rw [if_neg c16] at h
            refine v_iconst (v := (1 : Int32)) hC dX11_isTold_68 rfl ?_
            refine v_goto (tg := 73) hC dX11_isTold_69 rfl ?_
            refine w_istore_n hC dX11_isTold_73 (ltk rfl) [some (.ref 208), some (.int (1 : Int32)), some (.int v2)] rfl ?_
            refine w_iinc hC (v2 + (3 : Int32)) dX11_isTold_74 rfl rfl [some (.ref 208), some (.int (1 : Int32)), some (.int (v2 + (3 : Int32)))] rfl ?_
            refine v_goto (tg := 26) hC dX11_isTold_77 rfl ?_
            exact ih _ _ _ _ _ h
set_option maxRecDepth 20000 in
set_option maxHeartbeats 4000000 in
theorem ok_X11_isTold_22 {N : Nat} {X : am_X} {l : Launch} (hC : am_C X l (am_rm 3 0 0) cX11_isTold yX11_isTold.cls (some .boolean)) (hnt : am_NT X) {M : Mm} {r : Int32} {M' : Mm} (h : f_X11_isTold_22 N M = some (r, M')) : am_V X LY M 0 0 (am_Q X LY 0 0 (.inl (some (.int r))) M') 22 [some (.ref 208), none, none] [] := by
  unfold f_X11_isTold_22 at h
  refine v_iconst (v := (0 : Int32)) hC dX11_isTold_22 rfl ?_
  refine w_istore_n hC dX11_isTold_23 (ltk rfl) [some (.ref 208), some (.int (0 : Int32)), none] rfl ?_
  refine v_iconst (v := (0 : Int32)) hC dX11_isTold_24 rfl ?_
  refine w_istore_n hC dX11_isTold_25 (ltk rfl) [some (.ref 208), some (.int (0 : Int32)), some (.int (0 : Int32))] rfl ?_
  exact ok_X11_isTold_26 hC hnt N _ _ _ _ _ h
set_option maxRecDepth 20000 in
set_option maxHeartbeats 4000000 in
theorem ok_X11_isTold {l : Launch} {N : Nat} {M : Mm} {r : Int32} {M' : Mm} (h : f_X11_isTold N M = some (r, M')) : am_M l yX11_isTold cX11_isTold 3 (some .boolean) 3 0 0 LY M [.ref 208] (.inl (some (.int r))) M' := by
  unfold f_X11_isTold at h
  refine am_intro (by decide) (by simp [Value.category]) (Nat.le_of_ble_eq_true rfl) (fun X hC hnt => ?_)
  refine am_start (L := [some (.ref 208), none, none]) rfl ?_
  refine v_aload_n hC dX11_isTold_0 rfl ?_
  refine v_geti (k := 11) hC cls_X11 ly_208 (by decide) rfl aw_1242 rfl dX11_isTold_1 ?_
  refine v_iconst (v := (3 : Int32)) hC dX11_isTold_4 rfl ?_
  refine v_irem hC dX11_isTold_5 (by decide) ?_
  refine v_if_ne hC 22 dX11_isTold_6 rfl (fun c1 => ?_) (fun c1 => ?_)
  · rw [if_neg c1] at h
    exact ok_X11_isTold_22 hC hnt h
  · rw [if_pos c1] at h
    refine v_aload_n hC dX11_isTold_9 rfl ?_
    refine v_geti (k := 11) hC cls_X11 ly_208 (by decide) rfl aw_1242 rfl dX11_isTold_10 ?_
    refine v_bipush (v := (12 : Int32)) hC dX11_isTold_13 rfl ?_
    refine v_icmp_gt hC 22 dX11_isTold_15 rfl (fun c18 => ?_) (fun c18 => ?_)
    · rw [if_pos c18] at h
      exact ok_X11_isTold_22 hC hnt h
    · rw [if_neg c18] at h
      refine v_iconst (v := (1 : Int32)) hC dX11_isTold_18 rfl ?_
      refine v_goto (tg := 23) hC dX11_isTold_19 rfl ?_
      refine w_istore_n hC dX11_isTold_23 (ltk rfl) [some (.ref 208), some (.int (1 : Int32)), none] rfl ?_
      refine v_iconst (v := (0 : Int32)) hC dX11_isTold_24 rfl ?_
      refine w_istore_n hC dX11_isTold_25 (ltk rfl) [some (.ref 208), some (.int (1 : Int32)), some (.int (0 : Int32))] rfl ?_
      exact ok_X11_isTold_26 hC hnt N _ _ _ _ _ h
