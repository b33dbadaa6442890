def f_X11_setsBy (N : Nat) (v1 : Int32) (v2 : Int32) (M : Mm) : Option (Int32 × Mm) :=
  bnd (f_X11_sumOf N (2 : Int32) v1 v2 M) (fun r1 M2 => some (((1 : Int32) + r1), M2))
set_option maxRecDepth 20000 in
set_option maxHeartbeats 4000000 in
theorem ok_X11_setsBy {l : Launch} {N : Nat} {v1 v2 : Int32} {M : Mm} {r : Int32} {M' : Mm} (h : f_X11_setsBy N v1 v2 M = some (r, M')) : am_M l yX11_setsBy cX11_setsBy 3 (some .int) 6 0 0 LY M [.ref 208, .int v1, .int v2] (.inl (some (.int r))) M' := by
  unfold f_X11_setsBy at h
  refine am_intro (by decide) (by simp [Value.category]) (Nat.le_of_ble_eq_true rfl) (fun X hC hnt => ?_)
  refine am_start (L := [some (.ref 208), some (.int v1), some (.int v2)]) rfl ?_
  refine v_iconst (v := (1 : Int32)) hC dX11_setsBy_0 rfl ?_
  refine v_aload_n hC dX11_setsBy_1 rfl ?_
  refine v_iconst (v := (2 : Int32)) hC dX11_setsBy_2 rfl ?_
  refine v_iload_n hC dX11_setsBy_3 rfl ?_
  refine v_iload_n hC dX11_setsBy_4 rfl ?_
  obtain ⟨r1, M2, q3, h⟩ := bnd_some h
  refine w_callVi hC [.int (2 : Int32), .int v1, .int v2] [.int (1 : Int32)] (ok_X11_sumOf q3) mv_X11_sumOf aw_1538 ly_208 rfl (Nat.le_of_ble_eq_true rfl) ⟨by decide, by decide⟩ ⟨by decide, by decide⟩ dX11_setsBy_5 ?_
  refine v_iadd hC dX11_setsBy_8 ?_
  cases h
  exact v_iret hC (by decide) (by decide) dX11_setsBy_9
def f_X11_mixedOf_4 (N : Nat) : Nat → Int32 → Int32 → Int32 → Mm → Option (Int32 × Mm)
  | 0, _, _, _, _ => none
  | n + 1, v1, v2, v3, M => (if (6 : Int32) ≤ v3 then some (v2, M) else bnd (f_X11_of N v1 ((3 : Int32) + v3) M) (fun r2 M3 => (if r2 ≤ (0 : Int32) then lt (v2 + (0 : Int32)) (fun x6 => f_X11_mixedOf_4 N n v1 x6 (v3 + (1 : Int32)) M3) else lt (v2 + (1 : Int32)) (fun x8 => f_X11_mixedOf_4 N n v1 x8 (v3 + (1 : Int32)) M3))))
def f_X11_mixedOf (N : Nat) (v1 : Int32) (M : Mm) : Option (Int32 × Mm) :=
  f_X11_mixedOf_4 N N v1 (0 : Int32) (0 : Int32) M
set_option maxRecDepth 20000 in
set_option maxHeartbeats 4000000 in
theorem ok_X11_mixedOf_4 {N : Nat} {X : am_X} {l : Launch} (hC : am_C X l (am_rm 3 0 0) cX11_mixedOf yX11_mixedOf.cls (some .int)) (hnt : am_NT X) : ∀ (n : Nat) (v1 v2 v3 : Int32) (M : Mm) (r : Int32) (M' : Mm), f_X11_mixedOf_4 N n v1 v2 v3 M = some (r, M') → am_V X LY M 0 0 (am_Q X LY 0 0 (.inl (some (.int r))) M') 4 [some (.ref 208), some (.int v1), some (.int v2), some (.int v3)] [] := by
  intro n
  induction n with
  | zero => intro v1 v2 v3 M r M' h; cases h
  | succ n ih =>
    intro v1 v2 v3 M r M' h
    simp only [f_X11_mixedOf_4] at h
    refine v_iload_n hC dX11_mixedOf_4 rfl ?_
    refine v_bipush (v := (6 : Int32)) hC dX11_mixedOf_5 rfl ?_
    refine v_icmp_ge hC 35 dX11_mixedOf_7 rfl (fun c1 => ?_) (fun c1 => ?_)
    · rw [if_pos c1] at h
      refine v_iload_n hC dX11_mixedOf_35 rfl ?_
      cases h
      exact v_iret hC (by decide) (by decide) dX11_mixedOf_36
    · rw [if_neg c1] at h
      refine v_iload_n hC dX11_mixedOf_10 rfl ?_
      refine v_aload_n hC dX11_mixedOf_11 rfl ?_
      refine v_iload_n hC dX11_mixedOf_12 rfl ?_
      refine v_iconst (v := (3 : Int32)) hC dX11_mixedOf_13 rfl ?_
      refine v_iload_n hC dX11_mixedOf_14 rfl ?_
      refine v_iadd hC dX11_mixedOf_15 ?_
      obtain ⟨r2, M3, q4, h⟩ := bnd_some h
      refine w_callVi hC [.int v1, .int ((3 : Int32) + v3)] [.int v2] (ok_X11_of q4) mv_X11_of aw_1380 ly_208 rfl (Nat.le_of_ble_eq_true rfl) ⟨by decide, by decide⟩ ⟨by decide, by decide⟩ dX11_mixedOf_16 ?_
      refine v_if_le hC 26 dX11_mixedOf_19 rfl (fun c5 => ?_) (fun c5 => ?_)
      · rw [if_pos c5] at h
        refine v_iconst (v := (0 : Int32)) hC dX11_mixedOf_26 rfl ?_
        refine v_iadd hC dX11_mixedOf_27 ?_
        obtain ⟨x6, e_x6, h⟩ := lt_some h
        refine v_nam e_x6 ?_
        refine w_istore_n hC dX11_mixedOf_28 (ltk rfl) [some (.ref 208), some (.int v1), some (.int x6), some (.int v3)] rfl ?_
        refine w_iinc hC (v3 + (1 : Int32)) dX11_mixedOf_29 rfl rfl [some (.ref 208), some (.int v1), some (.int x6), some (.int (v3 + (1 : Int32)))] rfl ?_
        refine v_goto (tg := 4) hC dX11_mixedOf_32 rfl ?_
        exact ih _ _ _ _ _ _ h
      · rw [if_neg c5] at h
        refine v_iconst (v := (1 : Int32)) hC dX11_mixedOf_22 rfl ?_
        refine v_goto (tg := 27) hC dX11_mixedOf_23 rfl ?_
        refine v_iadd hC dX11_mixedOf_27 ?_
        obtain ⟨x8, e_x8, h⟩ := lt_some h
        refine v_nam e_x8 ?_
        refine w_istore_n hC dX11_mixedOf_28 (ltk rfl) [some (.ref 208), some (.int v1), some (.int x8), some (.int v3)] rfl ?_
        refine w_iinc hC (v3 + (1 : Int32)) dX11_mixedOf_29 rfl rfl [some (.ref 208), some (.int v1), some (.int x8), some (.int (v3 + (1 : Int32)))] rfl ?_
        refine v_goto (tg := 4) hC dX11_mixedOf_32 rfl ?_
        exact ih _ _ _ _ _ _ h
set_option maxRecDepth 20000 in
set_option maxHeartbeats 4000000 in
theorem ok_X11_mixedOf {l : Launch} {N : Nat} {v1 : Int32} {M : Mm} {r : Int32} {M' : Mm} (h : f_X11_mixedOf N v1 M = some (r, M')) : am_M l yX11_mixedOf cX11_mixedOf 4 (some .int) 3 0 0 LY M [.ref 208, .int v1] (.inl (some (.int r))) M' := by
  unfold f_X11_mixedOf at h
  refine am_intro (by decide) (by simp [Value.category]) (Nat.le_of_ble_eq_true rfl) (fun X hC hnt => ?_)
  refine am_start (L := [some (.ref 208), some (.int v1), none, none]) rfl ?_
  refine v_iconst (v := (0 : Int32)) hC dX11_mixedOf_0 rfl ?_
  refine w_istore_n hC dX11_mixedOf_1 (ltk rfl) [some (.ref 208), some (.int v1), some (.int (0 : Int32)), none] rfl ?_
  refine v_iconst (v := (0 : Int32)) hC dX11_mixedOf_2 rfl ?_
  refine w_istore_n hC dX11_mixedOf_3 (ltk rfl) [some (.ref 208), some (.int v1), some (.int (0 : Int32)), some (.int (0 : Int32))] rfl ?_
  exact ok_X11_mixedOf_4 hC hnt N _ _ _ _ _ _ h
def f_X11_allOf_4 (N : Nat) : Nat → Int32 → Int32 → Int32 → Mm → Option (Int32 × Mm)
  | 0, _, _, _, _ => none
  | n + 1, v1, v2, v3, M => (if (6 : Int32) ≤ v3 then some (v2, M) else bnd (f_X11_of N v1 ((3 : Int32) + v3) M) (fun r2 M3 => lt (v2 + r2) (fun x5 => f_X11_allOf_4 N n v1 x5 (v3 + (1 : Int32)) M3)))
def f_X11_allOf (N : Nat) (v1 : Int32) (M : Mm) : Option (Int32 × Mm) :=
  f_X11_allOf_4 N N v1 (0 : Int32) (0 : Int32) M
set_option maxRecDepth 20000 in
set_option maxHeartbeats 4000000 in
theorem ok_X11_allOf_4 {N : Nat} {X : am_X} {l : Launch} (hC : am_C X l (am_rm 3 0 0) cX11_allOf yX11_allOf.cls (some .int)) (hnt : am_NT X) : ∀ (n : Nat) (v1 v2 v3 : Int32) (M : Mm) (r : Int32) (M' : Mm), f_X11_allOf_4 N n v1 v2 v3 M = some (r, M') → am_V X LY M 0 0 (am_Q X LY 0 0 (.inl (some (.int r))) M') 4 [some (.ref 208), some (.int v1), some (.int v2), some (.int v3)] [] := by
  intro n
  induction n with
  | zero => intro v1 v2 v3 M r M' h; cases h
  | succ n ih =>
    intro v1 v2 v3 M r M' h
    simp only [f_X11_allOf_4] at h
    refine v_iload_n hC dX11_allOf_4 rfl ?_
    refine v_bipush (v := (6 : Int32)) hC dX11_allOf_5 rfl ?_
    refine v_icmp_ge hC 27 dX11_allOf_7 rfl (fun c1 => ?_) (fun c1 => ?_)
    · rw [if_pos c1] at h
      refine v_iload_n hC dX11_allOf_27 rfl ?_
      cases h
      exact v_iret hC (by decide) (by decide) dX11_allOf_28
    · rw [if_neg c1] at h
      refine v_iload_n hC dX11_allOf_10 rfl ?_
      refine v_aload_n hC dX11_allOf_11 rfl ?_
      refine v_iload_n hC dX11_allOf_12 rfl ?_
      refine v_iconst (v := (3 : Int32)) hC dX11_allOf_13 rfl ?_
      refine v_iload_n hC dX11_allOf_14 rfl ?_
      refine v_iadd hC dX11_allOf_15 ?_
      obtain ⟨r2, M3, q4, h⟩ := bnd_some h
      refine w_callVi hC [.int v1, .int ((3 : Int32) + v3)] [.int v2] (ok_X11_of q4) mv_X11_of aw_1380 ly_208 rfl (Nat.le_of_ble_eq_true rfl) ⟨by decide, by decide⟩ ⟨by decide, by decide⟩ dX11_allOf_16 ?_
      refine v_iadd hC dX11_allOf_19 ?_
      obtain ⟨x5, e_x5, h⟩ := lt_some h
      refine v_nam e_x5 ?_
      refine w_istore_n hC dX11_allOf_20 (ltk rfl) [some (.ref 208), some (.int v1), some (.int x5), some (.int v3)] rfl ?_
      refine w_iinc hC (v3 + (1 : Int32)) dX11_allOf_21 rfl rfl [some (.ref 208), some (.int v1), some (.int x5), some (.int (v3 + (1 : Int32)))] rfl ?_
      refine v_goto (tg := 4) hC dX11_allOf_24 rfl ?_
      exact ih _ _ _ _ _ _ h
set_option maxRecDepth 20000 in
set_option maxHeartbeats 4000000 in
theorem ok_X11_allOf {l : Launch} {N : Nat} {v1 : Int32} {M : Mm} {r : Int32} {M' : Mm} (h : f_X11_allOf N v1 M = some (r, M')) : am_M l yX11_allOf cX11_allOf 4 (some .int) 3 0 0 LY M [.ref 208, .int v1] (.inl (some (.int r))) M' := by
  unfold f_X11_allOf at h
  refine am_intro (by decide) (by simp [Value.category]) (Nat.le_of_ble_eq_true rfl) (fun X hC hnt => ?_)
  refine am_start (L := [some (.ref 208), some (.int v1), none, none]) rfl ?_
  refine v_iconst (v := (0 : Int32)) hC dX11_allOf_0 rfl ?_
  refine w_istore_n hC dX11_allOf_1 (ltk rfl) [some (.ref 208), some (.int v1), some (.int (0 : Int32)), none] rfl ?_
  refine v_iconst (v := (0 : Int32)) hC dX11_allOf_2 rfl ?_
  refine w_istore_n hC dX11_allOf_3 (ltk rfl) [some (.ref 208), some (.int v1), some (.int (0 : Int32)), some (.int (0 : Int32))] rfl ?_
  exact ok_X11_allOf_4 hC hnt N _ _ _ _ _ _ h
def f_X11_diner_33 (N : Nat) (v1 : Int32) (v2 : Int32) (s1 : Int32) (M : Mm) : Option (Int32 × Mm) :=
  bnd (f_X11_throwsIf N s1 (2 : Int32) M) (fun r13 M14 => (if r13 = (0 : Int32) then (if v2 = (3 : Int32) then bnd (f_X11_mixedOf N v1 M14) (fun r25 M26 => some (r25, M26)) else (if v2 = (4 : Int32) then bnd (f_X11_allOf N v1 M14) (fun r22 M23 => some (r22, M23)) else bnd (f_X11_of N v1 v2 M14) (fun r19 M20 => some (r19, M20)))) else some ((0 : Int32), M14)))
def f_X11_diner (N : Nat) (v1 : Int32) (v2 : Int32) (M : Mm) : Option (Int32 × Mm) :=
  lt (wr M 208 0 (0 : Int32)) (fun M1 => bnd (f_X11_noDiner N v1 M1) (fun r2 M3 => bnd (f_X11_throwsIf N r2 (1 : Int32) M3) (fun r5 M6 => (if r5 = (0 : Int32) then bnd (f_X11_in N v2 (0 : Int32) (4 : Int32) M6) (fun r9 M10 => (if r9 = (0 : Int32) then f_X11_diner_33 N v1 v2 (1 : Int32) M10 else f_X11_diner_33 N v1 v2 (0 : Int32) M10)) else some ((0 : Int32), M6)))))
set_option maxRecDepth 20000 in
set_option maxHeartbeats 4000000 in
theorem ok_X11_diner_33 {N : Nat} {X : am_X} {l : Launch} (hC : am_C X l (am_rm 4 0 0) cX11_diner yX11_diner.cls (some .int)) (hnt : am_NT X) {v1 v2 s1 : Int32} {M : Mm} {r : Int32} {M' : Mm} (h : f_X11_diner_33 N v1 v2 s1 M = some (r, M')) : am_V X LY M 0 0 (am_Q X LY 0 0 (.inl (some (.int r))) M') 33 [some (.ref 208), some (.int v1), some (.int v2)] [.int s1, .ref 208] := by
  unfold f_X11_diner_33 at h
  refine v_iconst (v := (2 : Int32)) hC dX11_diner_33 rfl ?_
  obtain ⟨r13, M14, q15, h⟩ := bnd_some h
  refine w_callVi hC [.int s1, .int (2 : Int32)] [] (ok_X11_throwsIf q15) mv_X11_throwsIf aw_1470 ly_208 rfl (Nat.le_of_ble_eq_true rfl) ⟨by decide, by decide⟩ ⟨by decide, by decide⟩ dX11_diner_34 ?_
  refine v_if_eq hC 42 dX11_diner_37 rfl (fun c16 => ?_) (fun c16 => ?_)
  · rw [if_pos c16] at h
    refine v_iload_n hC dX11_diner_42 rfl ?_
    refine v_iconst (v := (3 : Int32)) hC dX11_diner_43 rfl ?_
    refine v_icmp_ne hC 55 dX11_diner_44 rfl (fun c17 => ?_) (fun c17 => ?_)
    · rw [if_neg c17] at h
      refine v_iload_n hC dX11_diner_55 rfl ?_
      refine v_iconst (v := (4 : Int32)) hC dX11_diner_56 rfl ?_
      refine v_icmp_ne hC 68 dX11_diner_57 rfl (fun c18 => ?_) (fun c18 => ?_)
      · rw [if_neg c18] at h
        refine v_aload_n hC dX11_diner_68 rfl ?_
        refine v_iload_n hC dX11_diner_69 rfl ?_
        refine v_iload_n hC dX11_diner_70 rfl ?_
        obtain ⟨r19, M20, q21, h⟩ := bnd_some h
        refine w_callVi hC [.int v1, .int v2] [] (ok_X11_of q21) mv_X11_of aw_1380 ly_208 rfl (Nat.le_of_ble_eq_true rfl) ⟨by decide, by decide⟩ ⟨by decide, by decide⟩ dX11_diner_71 ?_
        cases h
        exact v_iret hC (by decide) (by decide) dX11_diner_74
      · rw [if_pos c18] at h
        refine v_aload_n hC dX11_diner_60 rfl ?_
        refine v_iload_n hC dX11_diner_61 rfl ?_
        obtain ⟨r22, M23, q24, h⟩ := bnd_some h
        refine w_callVi hC [.int v1] [] (ok_X11_allOf q24) mv_X11_allOf aw_1490 ly_208 rfl (Nat.le_of_ble_eq_true rfl) ⟨by decide, by decide⟩ ⟨by decide, by decide⟩ dX11_diner_62 ?_
        refine v_goto (tg := 74) hC dX11_diner_65 rfl ?_
        cases h
        exact v_iret hC (by decide) (by decide) dX11_diner_74
    · rw [if_pos c17] at h
      refine v_aload_n hC dX11_diner_47 rfl ?_
      refine v_iload_n hC dX11_diner_48 rfl ?_
      obtain ⟨r25, M26, q27, h⟩ := bnd_some h
      refine w_callVi hC [.int v1] [] (ok_X11_mixedOf q27) mv_X11_mixedOf aw_1486 ly_208 rfl (Nat.le_of_ble_eq_true rfl) ⟨by decide, by decide⟩ ⟨by decide, by decide⟩ dX11_diner_49 ?_
      refine v_goto (tg := 74) hC dX11_diner_52 rfl ?_
      cases h
      exact v_iret hC (by decide) (by decide) dX11_diner_74
  · rw [if_neg c16] at h
    refine v_iconst (v := (0 : Int32)) hC dX11_diner_40 rfl ?_
    cases h
    exact v_iret hC (by decide) (by decide) dX11_diner_41
set_option maxRecDepth 20000 in
set_option maxHeartbeats 4000000 in
theorem ok_X11_diner {l : Launch} {N : Nat} {v1 v2 : Int32} {M : Mm} {r : Int32} {M' : Mm} (h : f_X11_diner N v1 v2 M = some (r, M')) : am_M l yX11_diner cX11_diner 3 (some .int) 4 0 0 LY M [.ref 208, .int v1, .int v2] (.inl (some (.int r))) M' := by
  unfold f_X11_diner at h
  refine am_intro (by decide) (by simp [Value.category]) (Nat.le_of_ble_eq_true rfl) (fun X hC hnt => ?_)
  refine am_start (L := [some (.ref 208), some (.int v1), some (.int v2)]) rfl ?_
  refine v_aload_n hC dX11_diner_0 rfl ?_
  refine v_iconst (v := (0 : Int32)) hC dX11_diner_1 rfl ?_
  obtain ⟨M1, e_M1, h⟩ := lt_some h
  refine w_puti (k := 0) hC cls_X11 ly_208 (by decide) rfl aw_1231 rfl rfl ⟨rfl, rfl⟩ dX11_diner_2 e_M1 ?_
  refine v_aload_n hC dX11_diner_5 rfl ?_
  refine v_aload_n hC dX11_diner_6 rfl ?_
  refine v_iload_n hC dX11_diner_7 rfl ?_
  obtain ⟨r2, M3, q4, h⟩ := bnd_some h
  refine w_callVi hC [.int v1] [.ref 208] (ok_X11_noDiner q4) mv_X11_noDiner aw_1482 ly_208 rfl (Nat.le_of_ble_eq_true rfl) ⟨by decide, by decide⟩ ⟨by decide, by decide⟩ dX11_diner_8 ?_
  refine v_iconst (v := (1 : Int32)) hC dX11_diner_11 rfl ?_
  obtain ⟨r5, M6, q7, h⟩ := bnd_some h
  refine w_callVi hC [.int r2, .int (1 : Int32)] [] (ok_X11_throwsIf q7) mv_X11_throwsIf aw_1470 ly_208 rfl (Nat.le_of_ble_eq_true rfl) ⟨by decide, by decide⟩ ⟨by decide, by decide⟩ dX11_diner_12 ?_
  refine v_if_ne hC 40 dX11_diner_15 rfl (fun c8 => ?_) (fun c8 => ?_)
  · rw [if_neg c8] at h
    refine v_iconst (v := (0 : Int32)) hC dX11_diner_40 rfl ?_
    cases h
    exact v_iret hC (by decide) (by decide) dX11_diner_41
  · rw [if_pos c8] at h
    refine v_aload_n hC dX11_diner_18 rfl ?_
    refine v_iload_n hC dX11_diner_19 rfl ?_
    refine v_iconst (v := (0 : Int32)) hC dX11_diner_20 rfl ?_
    refine v_iconst (v := (4 : Int32)) hC dX11_diner_21 rfl ?_
    obtain ⟨r9, M10, q11, h⟩ := bnd_some h
    refine w_callSi hC [.int v2, .int (0 : Int32), .int (4 : Int32)] [.ref 208] (ok_X11_in q11) ms_X11_in aw_1404 rfl (Nat.le_of_ble_eq_true rfl) ⟨by decide, by decide⟩ ⟨by decide, by decide⟩ dX11_diner_22 ?_
    refine v_if_ne hC 32 dX11_diner_25 rfl (fun c12 => ?_) (fun c12 => ?_)
    · rw [if_neg c12] at h
      refine v_iconst (v := (0 : Int32)) hC dX11_diner_32 rfl ?_
      exact ok_X11_diner_33 hC hnt h
    · rw [if_pos c12] at h
      refine v_iconst (v := (1 : Int32)) hC dX11_diner_28 rfl ?_
      refine v_goto (tg := 33) hC dX11_diner_29 rfl ?_
      exact ok_X11_diner_33 hC hnt h
def f_X11_has_26 (N : Nat) (v1 : Int32) (v2 : Int32) (s1 : Int32) (M : Mm) : Option (Int32 × Mm) :=
  bnd (f_X11_throwsIf N s1 (1 : Int32) M) (fun r6 M7 => (if r6 = (0 : Int32) then bnd (f_X11_of N v1 ((3 : Int32) + v2) M7) (fun r10 M11 => some (r10, M11)) else some ((0 : Int32), M7)))
def f_X11_has_21 (N : Nat) (v1 : Int32) (v2 : Int32) (M : Mm) : Option (Int32 × Mm) :=
  f_X11_has_26 N v1 v2 (1 : Int32) M
def f_X11_has (N : Nat) (v1 : Int32) (v2 : Int32) (M : Mm) : Option (Int32 × Mm) :=
  lt (wr M 208 0 (0 : Int32)) (fun M1 => bnd (f_X11_noDiner N v1 M1) (fun r2 M3 => (if r2 = (0 : Int32) then bnd (f_X11_noTrait N v2 M3) (fun r13 M14 => (if r13 = (0 : Int32) then f_X11_has_26 N v1 v2 (0 : Int32) M14 else f_X11_has_21 N v1 v2 M14)) else f_X11_has_21 N v1 v2 M3)))
set_option maxRecDepth 20000 in
set_option maxHeartbeats 4000000 in
theorem ok_X11_has_26 {N : Nat} {X : am_X} {l : Launch} (hC : am_C X l (am_rm 3 0 0) cX11_has yX11_has.cls (some .int)) (hnt : am_NT X) {v1 v2 s1 : Int32} {M : Mm} {r : Int32} {M' : Mm} (h : f_X11_has_26 N v1 v2 s1 M = some (r, M')) : am_V X LY M 0 0 (am_Q X LY 0 0 (.inl (some (.int r))) M') 26 [some (.ref 208), some (.int v1), some (.int v2)] [.int s1, .ref 208] := by
  unfold f_X11_has_26 at h
  refine v_iconst (v := (1 : Int32)) hC dX11_has_26 rfl ?_
  obtain ⟨r6, M7, q8, h⟩ := bnd_some h
  refine w_callVi hC [.int s1, .int (1 : Int32)] [] (ok_X11_throwsIf q8) mv_X11_throwsIf aw_1470 ly_208 rfl (Nat.le_of_ble_eq_true rfl) ⟨by decide, by decide⟩ ⟨by decide, by decide⟩ dX11_has_27 ?_
  refine v_if_eq hC 37 dX11_has_30 rfl (fun c9 => ?_) (fun c9 => ?_)
  · rw [if_pos c9] at h
    refine v_aload_n hC dX11_has_37 rfl ?_
    refine v_iload_n hC dX11_has_38 rfl ?_
    refine v_iconst (v := (3 : Int32)) hC dX11_has_39 rfl ?_
    refine v_iload_n hC dX11_has_40 rfl ?_
    refine v_iadd hC dX11_has_41 ?_
    obtain ⟨r10, M11, q12, h⟩ := bnd_some h
    refine w_callVi hC [.int v1, .int ((3 : Int32) + v2)] [] (ok_X11_of q12) mv_X11_of aw_1380 ly_208 rfl (Nat.le_of_ble_eq_true rfl) ⟨by decide, by decide⟩ ⟨by decide, by decide⟩ dX11_has_42 ?_
    cases h
    exact v_iret hC (by decide) (by decide) dX11_has_45
  · rw [if_neg c9] at h
    refine v_iconst (v := (0 : Int32)) hC dX11_has_33 rfl ?_
    refine v_goto (tg := 45) hC dX11_has_34 rfl ?_
    cases h
    exact v_iret hC (by decide) (by decide) dX11_has_45
set_option maxRecDepth 20000 in
set_option maxHeartbeats 4000000 in
theorem ok_X11_has_21 {N : Nat} {X : am_X} {l : Launch} (hC : am_C X l (am_rm 3 0 0) cX11_has yX11_has.cls (some .int)) (hnt : am_NT X) {v1 v2 : Int32} {M : Mm} {r : Int32} {M' : Mm} (h : f_X11_has_21 N v1 v2 M = some (r, M')) : am_V X LY M 0 0 (am_Q X LY 0 0 (.inl (some (.int r))) M') 21 [some (.ref 208), some (.int v1), some (.int v2)] [.ref 208] := by
  unfold f_X11_has_21 at h
  refine v_iconst (v := (1 : Int32)) hC dX11_has_21 rfl ?_
  refine v_goto (tg := 26) hC dX11_has_22 rfl ?_
  exact ok_X11_has_26 hC hnt h
set_option maxRecDepth 20000 in
set_option maxHeartbeats 4000000 in
theorem ok_X11_has {l : Launch} {N : Nat} {v1 v2 : Int32} {M : Mm} {r : Int32} {M' : Mm} (h : f_X11_has N v1 v2 M = some (r, M')) : am_M l yX11_has cX11_has 3 (some .int) 3 0 0 LY M [.ref 208, .int v1, .int v2] (.inl (some (.int r))) M' := by
  unfold f_X11_has at h
  refine am_intro (by decide) (by simp [Value.category]) (Nat.le_of_ble_eq_true rfl) (fun X hC hnt => ?_)
  refine am_start (L := [some (.ref 208), some (.int v1), some (.int v2)]) rfl ?_
  refine v_aload_n hC dX11_has_0 rfl ?_
  refine v_iconst (v := (0 : Int32)) hC dX11_has_1 rfl ?_
  obtain ⟨M1, e_M1, h⟩ := lt_some h
  refine w_puti (k := 0) hC cls_X11 ly_208 (by decide) rfl aw_1231 rfl rfl ⟨rfl, rfl⟩ dX11_has_2 e_M1 ?_
  refine v_aload_n hC dX11_has_5 rfl ?_
  refine v_aload_n hC dX11_has_6 rfl ?_
  refine v_iload_n hC dX11_has_7 rfl ?_
  obtain ⟨r2, M3, q4, h⟩ := bnd_some h
  refine w_callVi hC [.int v1] [.ref 208] (ok_X11_noDiner q4) mv_X11_noDiner aw_1482 ly_208 rfl (Nat.le_of_ble_eq_true rfl) ⟨by decide, by decide⟩ ⟨by decide, by decide⟩ dX11_has_8 ?_
  refine v_if_ne hC 21 dX11_has_11 rfl (fun c5 => ?_) (fun c5 => ?_)
  · rw [if_neg c5] at h
    exact ok_X11_has_21 hC hnt h
  · rw [if_pos c5] at h
    refine v_iload_n hC dX11_has_14 rfl ?_
    obtain ⟨r13, M14, q15, h⟩ := bnd_some h
    refine w_callSi hC [.int v2] [.ref 208] (ok_X11_noTrait q15) ms_X11_noTrait aw_1401 rfl (Nat.le_of_ble_eq_true rfl) ⟨by decide, by decide⟩ ⟨by decide, by decide⟩ dX11_has_15 ?_
    refine v_if_eq hC 25 dX11_has_18 rfl (fun c16 => ?_) (fun c16 => ?_)
    · rw [if_pos c16] at h
      refine v_iconst (v := (0 : Int32)) hC dX11_has_25 rfl ?_
      exact ok_X11_has_26 hC hnt h
    · rw [if_neg c16] at h
      exact ok_X11_has_21 hC hnt h
def f_X11_cellar_34 (N : Nat) (v1 : Int32) (v2 : Int32) (s1 : Int32) (M : Mm) : Option (Int32 × Mm) :=
  bnd (f_X11_throwsIf N s1 (2 : Int32) M) (fun r13 M14 => (if r13 = (0 : Int32) then bnd (f_X11_eaterOf N v1 M14) (fun r17 M18 => (if v2 = (5 : Int32) then some (r17, M18) else (if v2 = (6 : Int32) then (if r17 = (-1 : Int32) then some ((0 : Int32), M18) else bnd (f_X11_pinchOf N v1 r17 M18) (fun r23 M24 => some (r23, M24))) else (if v2 = (7 : Int32) then (if r17 = (-1 : Int32) then some ((0 : Int32), M18) else bnd (f_X11_setsBy N v1 r17 M18) (fun r28 M29 => some (r28, M29))) else bnd (f_X11_ofCellar N v1 v2 M18) (fun r31 M32 => some (r31, M32)))))) else some ((0 : Int32), M14)))
def f_X11_cellar (N : Nat) (v1 : Int32) (v2 : Int32) (M : Mm) : Option (Int32 × Mm) :=
  lt (wr M 208 0 (0 : Int32)) (fun M1 => bnd (f_X11_noCellar N v1 M1) (fun r2 M3 => bnd (f_X11_throwsIf N r2 (1 : Int32) M3) (fun r5 M6 => (if r5 = (0 : Int32) then bnd (f_X11_in N v2 (0 : Int32) (7 : Int32) M6) (fun r9 M10 => (if r9 = (0 : Int32) then f_X11_cellar_34 N v1 v2 (1 : Int32) M10 else f_X11_cellar_34 N v1 v2 (0 : Int32) M10)) else some ((0 : Int32), M6)))))
set_option maxRecDepth 20000 in
set_option maxHeartbeats 4000000 in
theorem ok_X11_cellar_34 {N : Nat} {X : am_X} {l : Launch} (hC : am_C X l (am_rm 8 0 0) cX11_cellar yX11_cellar.cls (some .int)) (hnt : am_NT X) {v1 v2 s1 : Int32} {M : Mm} {r : Int32} {M' : Mm} (h : f_X11_cellar_34 N v1 v2 s1 M = some (r, M')) : am_V X LY M 0 0 (am_Q X LY 0 0 (.inl (some (.int r))) M') 34 [some (.ref 208), some (.int v1), some (.int v2), none] [.int s1, .ref 208] := by
  unfold f_X11_cellar_34 at h
  refine v_iconst (v := (2 : Int32)) hC dX11_cellar_34 rfl ?_
  obtain ⟨r13, M14, q15, h⟩ := bnd_some h
  refine w_callVi hC [.int s1, .int (2 : Int32)] [] (ok_X11_throwsIf q15) mv_X11_throwsIf aw_1470 ly_208 rfl (Nat.le_of_ble_eq_true rfl) ⟨by decide, by decide⟩ ⟨by decide, by decide⟩ dX11_cellar_35 ?_
  refine v_if_eq hC 43 dX11_cellar_38 rfl (fun c16 => ?_) (fun c16 => ?_)
  · rw [if_pos c16] at h
    refine v_aload_n hC dX11_cellar_43 rfl ?_
    refine v_iload_n hC dX11_cellar_44 rfl ?_
    obtain ⟨r17, M18, q19, h⟩ := bnd_some h
    refine w_callVi hC [.int v1] [] (ok_X11_eaterOf q19) mv_X11_eaterOf aw_1506 ly_208 rfl (Nat.le_of_ble_eq_true rfl) ⟨by decide, by decide⟩ ⟨by decide, by decide⟩ dX11_cellar_45 ?_
    refine w_istore_n hC dX11_cellar_48 (ltk rfl) [some (.ref 208), some (.int v1), some (.int v2), some (.int r17)] rfl ?_
    refine v_iload_n hC dX11_cellar_49 rfl ?_
    by_cases c20 : v2 = (5 : Int32)
    · rw [if_pos c20] at h
      refine v_tableIn hC 76 dX11_cellar_50 (by rw [c20]; decide) (by rw [c20]; decide) (by rw [c20]; first | done | rfl) rfl ?_
      refine v_iload_n hC dX11_cellar_76 rfl ?_
      cases h
      exact v_iret hC (by decide) (by decide) dX11_cellar_77
    · rw [if_neg c20] at h
      by_cases c21 : v2 = (6 : Int32)
      · rw [if_pos c21] at h
        refine v_tableIn hC 78 dX11_cellar_50 (by rw [c21]; decide) (by rw [c21]; decide) (by rw [c21]; first | done | rfl) rfl ?_
        refine v_iload_n hC dX11_cellar_78 rfl ?_
        refine v_iconst (v := (-1 : Int32)) hC dX11_cellar_79 rfl ?_
        refine v_icmp_ne hC 87 dX11_cellar_80 rfl (fun c22 => ?_) (fun c22 => ?_)
        · rw [if_neg c22] at h
          refine v_aload_n hC dX11_cellar_87 rfl ?_
          refine v_iload_n hC dX11_cellar_88 rfl ?_
          refine v_iload_n hC dX11_cellar_89 rfl ?_
          obtain ⟨r23, M24, q25, h⟩ := bnd_some h
          refine w_callVi hC [.int v1, .int r17] [] (ok_X11_pinchOf q25) mv_X11_pinchOf aw_1514 ly_208 rfl (Nat.le_of_ble_eq_true rfl) ⟨by decide, by decide⟩ ⟨by decide, by decide⟩ dX11_cellar_90 ?_
          cases h
          exact v_iret hC (by decide) (by decide) dX11_cellar_93
        · rw [if_pos c22] at h
          refine v_iconst (v := (0 : Int32)) hC dX11_cellar_83 rfl ?_
          refine v_goto (tg := 93) hC dX11_cellar_84 rfl ?_
          cases h
          exact v_iret hC (by decide) (by decide) dX11_cellar_93
      · rw [if_neg c21] at h
        by_cases c26 : v2 = (7 : Int32)
        · rw [if_pos c26] at h
          refine v_tableIn hC 94 dX11_cellar_50 (by rw [c26]; decide) (by rw [c26]; decide) (by rw [c26]; first | done | rfl) rfl ?_
          refine v_iload_n hC dX11_cellar_94 rfl ?_
          refine v_iconst (v := (-1 : Int32)) hC dX11_cellar_95 rfl ?_
          refine v_icmp_ne hC 103 dX11_cellar_96 rfl (fun c27 => ?_) (fun c27 => ?_)
          · rw [if_neg c27] at h
            refine v_aload_n hC dX11_cellar_103 rfl ?_
            refine v_iload_n hC dX11_cellar_104 rfl ?_
            refine v_iload_n hC dX11_cellar_105 rfl ?_
            obtain ⟨r28, M29, q30, h⟩ := bnd_some h
            refine w_callVi hC [.int v1, .int r17] [] (ok_X11_setsBy q30) mv_X11_setsBy aw_1551 ly_208 rfl (Nat.le_of_ble_eq_true rfl) ⟨by decide, by decide⟩ ⟨by decide, by decide⟩ dX11_cellar_106 ?_
            cases h
            exact v_iret hC (by decide) (by decide) dX11_cellar_109
          · rw [if_pos c27] at h
            refine v_iconst (v := (0 : Int32)) hC dX11_cellar_99 rfl ?_
            refine v_goto (tg := 109) hC dX11_cellar_100 rfl ?_
            cases h
            exact v_iret hC (by decide) (by decide) dX11_cellar_109
        · rw [if_neg c26] at h
          refine v_tableOut hC 110 dX11_cellar_50 (by have t_c20 := lv_neT (k := (5 : Int32)) (a := 5) c20 rfl; have t_c21 := lv_neT (k := (6 : Int32)) (a := 6) c21 rfl; have t_c26 := lv_neT (k := (7 : Int32)) (a := 7) c26 rfl; omega) rfl ?_
          refine v_aload_n hC dX11_cellar_110 rfl ?_
          refine v_iload_n hC dX11_cellar_111 rfl ?_
          refine v_iload_n hC dX11_cellar_112 rfl ?_
          obtain ⟨r31, M32, q33, h⟩ := bnd_some h
          refine w_callVi hC [.int v1, .int v2] [] (ok_X11_ofCellar q33) mv_X11_ofCellar aw_1510 ly_208 rfl (Nat.le_of_ble_eq_true rfl) ⟨by decide, by decide⟩ ⟨by decide, by decide⟩ dX11_cellar_113 ?_
          cases h
          exact v_iret hC (by decide) (by decide) dX11_cellar_116
  · rw [if_neg c16] at h
    refine v_iconst (v := (0 : Int32)) hC dX11_cellar_41 rfl ?_
    cases h
    exact v_iret hC (by decide) (by decide) dX11_cellar_42
set_option maxRecDepth 20000 in
set_option maxHeartbeats 4000000 in
theorem ok_X11_cellar {l : Launch} {N : Nat} {v1 v2 : Int32} {M : Mm} {r : Int32} {M' : Mm} (h : f_X11_cellar N v1 v2 M = some (r, M')) : am_M l yX11_cellar cX11_cellar 4 (some .int) 8 0 0 LY M [.ref 208, .int v1, .int v2] (.inl (some (.int r))) M' := by
  unfold f_X11_cellar at h
  refine am_intro (by decide) (by simp [Value.category]) (Nat.le_of_ble_eq_true rfl) (fun X hC hnt => ?_)
  refine am_start (L := [some (.ref 208), some (.int v1), some (.int v2), none]) rfl ?_
  refine v_aload_n hC dX11_cellar_0 rfl ?_
  refine v_iconst (v := (0 : Int32)) hC dX11_cellar_1 rfl ?_
  obtain ⟨M1, e_M1, h⟩ := lt_some h
  refine w_puti (k := 0) hC cls_X11 ly_208 (by decide) rfl aw_1231 rfl rfl ⟨rfl, rfl⟩ dX11_cellar_2 e_M1 ?_
  refine v_aload_n hC dX11_cellar_5 rfl ?_
  refine v_aload_n hC dX11_cellar_6 rfl ?_
  refine v_iload_n hC dX11_cellar_7 rfl ?_
  obtain ⟨r2, M3, q4, h⟩ := bnd_some h
  refine w_callVi hC [.int v1] [.ref 208] (ok_X11_noCellar q4) mv_X11_noCellar aw_1502 ly_208 rfl (Nat.le_of_ble_eq_true rfl) ⟨by decide, by decide⟩ ⟨by decide, by decide⟩ dX11_cellar_8 ?_
  refine v_iconst (v := (1 : Int32)) hC dX11_cellar_11 rfl ?_
  obtain ⟨r5, M6, q7, h⟩ := bnd_some h
  refine w_callVi hC [.int r2, .int (1 : Int32)] [] (ok_X11_throwsIf q7) mv_X11_throwsIf aw_1470 ly_208 rfl (Nat.le_of_ble_eq_true rfl) ⟨by decide, by decide⟩ ⟨by decide, by decide⟩ dX11_cellar_12 ?_
  refine v_if_ne hC 41 dX11_cellar_15 rfl (fun c8 => ?_) (fun c8 => ?_)
  · rw [if_neg c8] at h
    refine v_iconst (v := (0 : Int32)) hC dX11_cellar_41 rfl ?_
    cases h
    exact v_iret hC (by decide) (by decide) dX11_cellar_42
  · rw [if_pos c8] at h
    refine v_aload_n hC dX11_cellar_18 rfl ?_
    refine v_iload_n hC dX11_cellar_19 rfl ?_
    refine v_iconst (v := (0 : Int32)) hC dX11_cellar_20 rfl ?_
    refine v_bipush (v := (7 : Int32)) hC dX11_cellar_21 rfl ?_
    obtain ⟨r9, M10, q11, h⟩ := bnd_some h
    refine w_callSi hC [.int v2, .int (0 : Int32), .int (7 : Int32)] [.ref 208] (ok_X11_in q11) ms_X11_in aw_1404 rfl (Nat.le_of_ble_eq_true rfl) ⟨by decide, by decide⟩ ⟨by decide, by decide⟩ dX11_cellar_23 ?_
    refine v_if_ne hC 33 dX11_cellar_26 rfl (fun c12 => ?_) (fun c12 => ?_)
    · rw [if_neg c12] at h
      refine v_iconst (v := (0 : Int32)) hC dX11_cellar_33 rfl ?_
      exact ok_X11_cellar_34 hC hnt h
    · rw [if_pos c12] at h
      refine v_iconst (v := (1 : Int32)) hC dX11_cellar_29 rfl ?_
      refine v_goto (tg := 34) hC dX11_cellar_30 rfl ?_
      exact ok_X11_cellar_34 hC hnt h
def f_X11_seat (N : Nat) (v1 : Int32) (M : Mm) : Option (Int32 × Mm) :=
  lt (wr M 208 0 (0 : Int32)) (fun M1 => bnd (f_X11_noSeat N v1 M1) (fun r2 M3 => bnd (f_X11_throwsIf N r2 (1 : Int32) M3) (fun r5 M6 => (if r5 = (0 : Int32) then bnd (f_X11_dinerIn N v1 M6) (fun r9 M10 => some (r9, M10)) else some ((0 : Int32), M6)))))
set_option maxRecDepth 20000 in
set_option maxHeartbeats 4000000 in
theorem ok_X11_seat {l : Launch} {N : Nat} {v1 : Int32} {M : Mm} {r : Int32} {M' : Mm} (h : f_X11_seat N v1 M = some (r, M')) : am_M l yX11_seat cX11_seat 2 (some .int) 4 0 0 LY M [.ref 208, .int v1] (.inl (some (.int r))) M' := by
  unfold f_X11_seat at h
  refine am_intro (by decide) (by simp [Value.category]) (Nat.le_of_ble_eq_true rfl) (fun X hC hnt => ?_)
  refine am_start (L := [some (.ref 208), some (.int v1)]) rfl ?_
  refine v_aload_n hC dX11_seat_0 rfl ?_
  refine v_iconst (v := (0 : Int32)) hC dX11_seat_1 rfl ?_
  obtain ⟨M1, e_M1, h⟩ := lt_some h
  refine w_puti (k := 0) hC cls_X11 ly_208 (by decide) rfl aw_1231 rfl rfl ⟨rfl, rfl⟩ dX11_seat_2 e_M1 ?_
  refine v_aload_n hC dX11_seat_5 rfl ?_
  refine v_iload_n hC dX11_seat_6 rfl ?_
  obtain ⟨r2, M3, q4, h⟩ := bnd_some h
  refine w_callSi hC [.int v1] [.ref 208] (ok_X11_noSeat q4) ms_X11_noSeat aw_1559 rfl (Nat.le_of_ble_eq_true rfl) ⟨by decide, by decide⟩ ⟨by decide, by decide⟩ dX11_seat_7 ?_
  refine v_iconst (v := (1 : Int32)) hC dX11_seat_10 rfl ?_
  obtain ⟨r5, M6, q7, h⟩ := bnd_some h
  refine w_callVi hC [.int r2, .int (1 : Int32)] [] (ok_X11_throwsIf q7) mv_X11_throwsIf aw_1470 ly_208 rfl (Nat.le_of_ble_eq_true rfl) ⟨by decide, by decide⟩ ⟨by decide, by decide⟩ dX11_seat_11 ?_
  refine v_if_eq hC 21 dX11_seat_14 rfl (fun c8 => ?_) (fun c8 => ?_)
  · rw [if_pos c8] at h
    refine v_aload_n hC dX11_seat_21 rfl ?_
    refine v_iload_n hC dX11_seat_22 rfl ?_
    obtain ⟨r9, M10, q11, h⟩ := bnd_some h
    refine w_callVi hC [.int v1] [] (ok_X11_dinerIn q11) mv_X11_dinerIn aw_1376 ly_208 rfl (Nat.le_of_ble_eq_true rfl) ⟨by decide, by decide⟩ ⟨by decide, by decide⟩ dX11_seat_23 ?_
    cases h
    exact v_iret hC (by decide) (by decide) dX11_seat_26
  · rw [if_neg c8] at h
    refine v_iconst (v := (0 : Int32)) hC dX11_seat_17 rfl ?_
    refine v_goto (tg := 26) hC dX11_seat_18 rfl ?_
    cases h
    exact v_iret hC (by decide) (by decide) dX11_seat_26
def f_X11_pass_26 (N : Nat) (v1 : Int32) (v2 : Int32) (s1 : Int32) (M : Mm) : Option (Int32 × Mm) :=
  bnd (f_X11_throwsIf N s1 (1 : Int32) M) (fun r6 M7 => (if r6 = (0 : Int32) then bnd (f_X11_remembers N M7) (fun r10 M11 => bnd (f_X11_ofCellar N v1 (0 : Int32) M11) (fun r13 M14 => bnd (f_X11_cellarAt N v1 (0 : Int32) M14) (fun r16 M17 => grd (inb r16 2107) (lt (wr M17 209 (r16).toNatClampNeg v2) (fun M20 => some (r13, M20)))))) else some ((0 : Int32), M7)))
def f_X11_pass_21 (N : Nat) (v1 : Int32) (v2 : Int32) (M : Mm) : Option (Int32 × Mm) :=
  f_X11_pass_26 N v1 v2 (1 : Int32) M
def f_X11_pass (N : Nat) (v1 : Int32) (v2 : Int32) (M : Mm) : Option (Int32 × Mm) :=
  lt (wr M 208 0 (0 : Int32)) (fun M1 => bnd (f_X11_noCellar N v1 M1) (fun r2 M3 => (if r2 = (0 : Int32) then bnd (f_X11_noSeat N v2 M3) (fun r21 M22 => (if r21 = (0 : Int32) then f_X11_pass_26 N v1 v2 (0 : Int32) M22 else f_X11_pass_21 N v1 v2 M22)) else f_X11_pass_21 N v1 v2 M3)))
set_option maxRecDepth 20000 in
set_option maxHeartbeats 4000000 in
theorem ok_X11_pass_26 {N : Nat} {X : am_X} {l : Launch} (hC : am_C X l (am_rm 3 0 0) cX11_pass yX11_pass.cls (some .int)) (hnt : am_NT X) {v1 v2 s1 : Int32} {M : Mm} {r : Int32} {M' : Mm} (h : f_X11_pass_26 N v1 v2 s1 M = some (r, M')) : am_V X LY M 0 0 (am_Q X LY 0 0 (.inl (some (.int r))) M') 26 [some (.ref 208), some (.int v1), some (.int v2), none] [.int s1, .ref 208] := by
  unfold f_X11_pass_26 at h
  refine v_iconst (v := (1 : Int32)) hC dX11_pass_26 rfl ?_
  obtain ⟨r6, M7, q8, h⟩ := bnd_some h
  refine w_callVi hC [.int s1, .int (1 : Int32)] [] (ok_X11_throwsIf q8) mv_X11_throwsIf aw_1470 ly_208 rfl (Nat.le_of_ble_eq_true rfl) ⟨by decide, by decide⟩ ⟨by decide, by decide⟩ dX11_pass_27 ?_
  refine v_if_eq hC 35 dX11_pass_30 rfl (fun c9 => ?_) (fun c9 => ?_)
  · rw [if_pos c9] at h
    refine v_aload_n hC dX11_pass_35 rfl ?_
    obtain ⟨r10, M11, q12, h⟩ := bnd_some h
    refine w_callVv hC [] [] (ok_X11_remembers q12) mv_X11_remembers aw_1566 ly_208 rfl (Nat.le_of_ble_eq_true rfl) ⟨by decide, by decide⟩ ⟨by decide, by decide⟩ dX11_pass_36 ?_
    refine v_aload_n hC dX11_pass_39 rfl ?_
    refine v_iload_n hC dX11_pass_40 rfl ?_
    refine v_iconst (v := (0 : Int32)) hC dX11_pass_41 rfl ?_
    obtain ⟨r13, M14, q15, h⟩ := bnd_some h
    refine w_callVi hC [.int v1, .int (0 : Int32)] [] (ok_X11_ofCellar q15) mv_X11_ofCellar aw_1510 ly_208 rfl (Nat.le_of_ble_eq_true rfl) ⟨by decide, by decide⟩ ⟨by decide, by decide⟩ dX11_pass_42 ?_
    refine w_istore_n hC dX11_pass_45 (ltk rfl) [some (.ref 208), some (.int v1), some (.int v2), some (.int r13)] rfl ?_
    refine v_aload_n hC dX11_pass_46 rfl ?_
    refine v_geta (k := 1) (b := 209) hC cls_X11 ly_208 (by decide) rfl aw_1232 rfl dX11_pass_47 ?_
    refine v_iload_n hC dX11_pass_50 rfl ?_
    refine v_iconst (v := (0 : Int32)) hC dX11_pass_51 rfl ?_
    obtain ⟨r16, M17, q18, h⟩ := bnd_some h
    refine w_callSi hC [.int v1, .int (0 : Int32)] [.ref 209] (ok_X11_cellarAt q18) ms_X11_cellarAt aw_1410 rfl (Nat.le_of_ble_eq_true rfl) ⟨by decide, by decide⟩ ⟨by decide, by decide⟩ dX11_pass_52 ?_
    refine v_iload_n hC dX11_pass_55 rfl ?_
    obtain ⟨g19, h⟩ := grd_some h
    obtain ⟨M20, e_M20, h⟩ := lt_some h
    refine w_iast hC ly_209 (inb_in g19) dX11_pass_56 e_M20 ?_
    refine v_iload_n hC dX11_pass_57 rfl ?_
    cases h
    exact v_iret hC (by decide) (by decide) dX11_pass_58
  · rw [if_neg c9] at h
    refine v_iconst (v := (0 : Int32)) hC dX11_pass_33 rfl ?_
    cases h
    exact v_iret hC (by decide) (by decide) dX11_pass_34
set_option maxRecDepth 20000 in
set_option maxHeartbeats 4000000 in
theorem ok_X11_pass_21 {N : Nat} {X : am_X} {l : Launch} (hC : am_C X l (am_rm 3 0 0) cX11_pass yX11_pass.cls (some .int)) (hnt : am_NT X) {v1 v2 : Int32} {M : Mm} {r : Int32} {M' : Mm} (h : f_X11_pass_21 N v1 v2 M = some (r, M')) : am_V X LY M 0 0 (am_Q X LY 0 0 (.inl (some (.int r))) M') 21 [some (.ref 208), some (.int v1), some (.int v2), none] [.ref 208] := by
  unfold f_X11_pass_21 at h
  refine v_iconst (v := (1 : Int32)) hC dX11_pass_21 rfl ?_
  refine v_goto (tg := 26) hC dX11_pass_22 rfl ?_
  exact ok_X11_pass_26 hC hnt h
set_option maxRecDepth 20000 in
set_option maxHeartbeats 4000000 in
theorem ok_X11_pass {l : Launch} {N : Nat} {v1 v2 : Int32} {M : Mm} {r : Int32} {M' : Mm} (h : f_X11_pass N v1 v2 M = some (r, M')) : am_M l yX11_pass cX11_pass 4 (some .int) 3 0 0 LY M [.ref 208, .int v1, .int v2] (.inl (some (.int r))) M' := by
  unfold f_X11_pass at h
  refine am_intro (by decide) (by simp [Value.category]) (Nat.le_of_ble_eq_true rfl) (fun X hC hnt => ?_)
  refine am_start (L := [some (.ref 208), some (.int v1), some (.int v2), none]) rfl ?_
  refine v_aload_n hC dX11_pass_0 rfl ?_
  refine v_iconst (v := (0 : Int32)) hC dX11_pass_1 rfl ?_
  obtain ⟨M1, e_M1, h⟩ := lt_some h
  refine w_puti (k := 0) hC cls_X11 ly_208 (by decide) rfl aw_1231 rfl rfl ⟨rfl, rfl⟩ dX11_pass_2 e_M1 ?_
  refine v_aload_n hC dX11_pass_5 rfl ?_
  refine v_aload_n hC dX11_pass_6 rfl ?_
  refine v_iload_n hC dX11_pass_7 rfl ?_
  obtain ⟨r2, M3, q4, h⟩ := bnd_some h
  refine w_callVi hC [.int v1] [.ref 208] (ok_X11_noCellar q4) mv_X11_noCellar aw_1502 ly_208 rfl (Nat.le_of_ble_eq_true rfl) ⟨by decide, by decide⟩ ⟨by decide, by decide⟩ dX11_pass_8 ?_
  refine v_if_ne hC 21 dX11_pass_11 rfl (fun c5 => ?_) (fun c5 => ?_)
  · rw [if_neg c5] at h
    exact ok_X11_pass_21 hC hnt h
  · rw [if_pos c5] at h
    refine v_iload_n hC dX11_pass_14 rfl ?_
    obtain ⟨r21, M22, q23, h⟩ := bnd_some h
    refine w_callSi hC [.int v2] [.ref 208] (ok_X11_noSeat q23) ms_X11_noSeat aw_1559 rfl (Nat.le_of_ble_eq_true rfl) ⟨by decide, by decide⟩ ⟨by decide, by decide⟩ dX11_pass_15 ?_
    refine v_if_eq hC 25 dX11_pass_18 rfl (fun c24 => ?_) (fun c24 => ?_)
    · rw [if_pos c24] at h
      refine v_iconst (v := (0 : Int32)) hC dX11_pass_25 rfl ?_
      exact ok_X11_pass_26 hC hnt h
    · rw [if_neg c24] at h
      exact ok_X11_pass_21 hC hnt h
def f_X11_knock (N : Nat) (v1 : Int32) (M : Mm) : Option (Int32 × Mm) :=
  lt (wr M 208 0 (0 : Int32)) (fun M1 => bnd (f_X11_noCellar N v1 M1) (fun r2 M3 => bnd (f_X11_throwsIf N r2 (1 : Int32) M3) (fun r5 M6 => (if r5 = (0 : Int32) then bnd (f_X11_remembers N M6) (fun r9 M10 => bnd (f_X11_ofCellar N v1 (3 : Int32) M10) (fun r12 M13 => bnd (f_X11_cellarAt N v1 (3 : Int32) M13) (fun r15 M16 => grd (inb r15 2107) (lt (wr M16 209 (r15).toNatClampNeg (0 : Int32)) (fun M19 => some (r12, M19)))))) else some ((0 : Int32), M6)))))
set_option maxRecDepth 20000 in
set_option maxHeartbeats 4000000 in
theorem ok_X11_knock {l : Launch} {N : Nat} {v1 : Int32} {M : Mm} {r : Int32} {M' : Mm} (h : f_X11_knock N v1 M = some (r, M')) : am_M l yX11_knock cX11_knock 3 (some .int) 3 0 0 LY M [.ref 208, .int v1] (.inl (some (.int r))) M' := by
  unfold f_X11_knock at h
  refine am_intro (by decide) (by simp [Value.category]) (Nat.le_of_ble_eq_true rfl) (fun X hC hnt => ?_)
  refine am_start (L := [some (.ref 208), some (.int v1), none]) rfl ?_
  refine v_aload_n hC dX11_knock_0 rfl ?_
  refine v_iconst (v := (0 : Int32)) hC dX11_knock_1 rfl ?_
  obtain ⟨M1, e_M1, h⟩ := lt_some h
  refine w_puti (k := 0) hC cls_X11 ly_208 (by decide) rfl aw_1231 rfl rfl ⟨rfl, rfl⟩ dX11_knock_2 e_M1 ?_
  refine v_aload_n hC dX11_knock_5 rfl ?_
  refine v_aload_n hC dX11_knock_6 rfl ?_
  refine v_iload_n hC dX11_knock_7 rfl ?_
  obtain ⟨r2, M3, q4, h⟩ := bnd_some h
  refine w_callVi hC [.int v1] [.ref 208] (ok_X11_noCellar q4) mv_X11_noCellar aw_1502 ly_208 rfl (Nat.le_of_ble_eq_true rfl) ⟨by decide, by decide⟩ ⟨by decide, by decide⟩ dX11_knock_8 ?_
  refine v_iconst (v := (1 : Int32)) hC dX11_knock_11 rfl ?_
  obtain ⟨r5, M6, q7, h⟩ := bnd_some h
  refine w_callVi hC [.int r2, .int (1 : Int32)] [] (ok_X11_throwsIf q7) mv_X11_throwsIf aw_1470 ly_208 rfl (Nat.le_of_ble_eq_true rfl) ⟨by decide, by decide⟩ ⟨by decide, by decide⟩ dX11_knock_12 ?_
  refine v_if_eq hC 20 dX11_knock_15 rfl (fun c8 => ?_) (fun c8 => ?_)
  · rw [if_pos c8] at h
    refine v_aload_n hC dX11_knock_20 rfl ?_
    obtain ⟨r9, M10, q11, h⟩ := bnd_some h
    refine w_callVv hC [] [] (ok_X11_remembers q11) mv_X11_remembers aw_1566 ly_208 rfl (Nat.le_of_ble_eq_true rfl) ⟨by decide, by decide⟩ ⟨by decide, by decide⟩ dX11_knock_21 ?_
    refine v_aload_n hC dX11_knock_24 rfl ?_
    refine v_iload_n hC dX11_knock_25 rfl ?_
    refine v_iconst (v := (3 : Int32)) hC dX11_knock_26 rfl ?_
    obtain ⟨r12, M13, q14, h⟩ := bnd_some h
    refine w_callVi hC [.int v1, .int (3 : Int32)] [] (ok_X11_ofCellar q14) mv_X11_ofCellar aw_1510 ly_208 rfl (Nat.le_of_ble_eq_true rfl) ⟨by decide, by decide⟩ ⟨by decide, by decide⟩ dX11_knock_27 ?_
    refine w_istore_n hC dX11_knock_30 (ltk rfl) [some (.ref 208), some (.int v1), some (.int r12)] rfl ?_
    refine v_aload_n hC dX11_knock_31 rfl ?_
    refine v_geta (k := 1) (b := 209) hC cls_X11 ly_208 (by decide) rfl aw_1232 rfl dX11_knock_32 ?_
    refine v_iload_n hC dX11_knock_35 rfl ?_
    refine v_iconst (v := (3 : Int32)) hC dX11_knock_36 rfl ?_
    obtain ⟨r15, M16, q17, h⟩ := bnd_some h
    refine w_callSi hC [.int v1, .int (3 : Int32)] [.ref 209] (ok_X11_cellarAt q17) ms_X11_cellarAt aw_1410 rfl (Nat.le_of_ble_eq_true rfl) ⟨by decide, by decide⟩ ⟨by decide, by decide⟩ dX11_knock_37 ?_
    refine v_iconst (v := (0 : Int32)) hC dX11_knock_40 rfl ?_
    obtain ⟨g18, h⟩ := grd_some h
    obtain ⟨M19, e_M19, h⟩ := lt_some h
    refine w_iast hC ly_209 (inb_in g18) dX11_knock_41 e_M19 ?_
    refine v_iload_n hC dX11_knock_42 rfl ?_
    cases h
    exact v_iret hC (by decide) (by decide) dX11_knock_43
  · rw [if_neg c8] at h
    refine v_iconst (v := (0 : Int32)) hC dX11_knock_18 rfl ?_
    cases h
    exact v_iret hC (by decide) (by decide) dX11_knock_19
def f_X11_fill_35 (N : Nat) (v1 : Int32) (v2 : Int32) (s1 : Int32) (M : Mm) : Option (Int32 × Mm) :=
  bnd (f_X11_throwsIf N s1 (2 : Int32) M) (fun r13 M14 => (if r13 = (0 : Int32) then bnd (f_X11_remembers N M14) (fun r17 M18 => bnd (f_X11_cellarAt N v1 (2 : Int32) M18) (fun r20 M21 => bnd (f_X11_ofCellar N v1 (2 : Int32) M21) (fun r23 M24 => grd (inb r20 2107) (lt (wr M24 209 (r20).toNatClampNeg (if (r23 + v2) < (200 : Int32) then (r23 + v2) else (200 : Int32))) (fun M27 => bnd (f_X11_ofCellar N v1 (2 : Int32) M27) (fun r28 M29 => some (r28, M29))))))) else some ((0 : Int32), M14)))
def f_X11_fill (N : Nat) (v1 : Int32) (v2 : Int32) (M : Mm) : Option (Int32 × Mm) :=
  lt (wr M 208 0 (0 : Int32)) (fun M1 => bnd (f_X11_noCellar N v1 M1) (fun r2 M3 => bnd (f_X11_throwsIf N r2 (1 : Int32) M3) (fun r5 M6 => (if r5 = (0 : Int32) then bnd (f_X11_in N v2 (1 : Int32) (200 : Int32) M6) (fun r9 M10 => (if r9 = (0 : Int32) then f_X11_fill_35 N v1 v2 (1 : Int32) M10 else f_X11_fill_35 N v1 v2 (0 : Int32) M10)) else some ((0 : Int32), M6)))))
set_option maxRecDepth 20000 in
set_option maxHeartbeats 4000000 in
theorem ok_X11_fill_35 {N : Nat} {X : am_X} {l : Launch} (hC : am_C X l (am_rm 3 0 0) cX11_fill yX11_fill.cls (some .int)) (hnt : am_NT X) {v1 v2 s1 : Int32} {M : Mm} {r : Int32} {M' : Mm} (h : f_X11_fill_35 N v1 v2 s1 M = some (r, M')) : am_V X LY M 0 0 (am_Q X LY 0 0 (.inl (some (.int r))) M') 35 [some (.ref 208), some (.int v1), some (.int v2)] [.int s1, .ref 208] := by
  unfold f_X11_fill_35 at h
  refine v_iconst (v := (2 : Int32)) hC dX11_fill_35 rfl ?_
  obtain ⟨r13, M14, q15, h⟩ := bnd_some h
  refine w_callVi hC [.int s1, .int (2 : Int32)] [] (ok_X11_throwsIf q15) mv_X11_throwsIf aw_1470 ly_208 rfl (Nat.le_of_ble_eq_true rfl) ⟨by decide, by decide⟩ ⟨by decide, by decide⟩ dX11_fill_36 ?_
  refine v_if_eq hC 44 dX11_fill_39 rfl (fun c16 => ?_) (fun c16 => ?_)
  · rw [if_pos c16] at h
    refine v_aload_n hC dX11_fill_44 rfl ?_
    obtain ⟨r17, M18, q19, h⟩ := bnd_some h
    refine w_callVv hC [] [] (ok_X11_remembers q19) mv_X11_remembers aw_1566 ly_208 rfl (Nat.le_of_ble_eq_true rfl) ⟨by decide, by decide⟩ ⟨by decide, by decide⟩ dX11_fill_45 ?_
    refine v_aload_n hC dX11_fill_48 rfl ?_
    refine v_geta (k := 1) (b := 209) hC cls_X11 ly_208 (by decide) rfl aw_1232 rfl dX11_fill_49 ?_
    refine v_iload_n hC dX11_fill_52 rfl ?_
    refine v_iconst (v := (2 : Int32)) hC dX11_fill_53 rfl ?_
    obtain ⟨r20, M21, q22, h⟩ := bnd_some h
    refine w_callSi hC [.int v1, .int (2 : Int32)] [.ref 209] (ok_X11_cellarAt q22) ms_X11_cellarAt aw_1410 rfl (Nat.le_of_ble_eq_true rfl) ⟨by decide, by decide⟩ ⟨by decide, by decide⟩ dX11_fill_54 ?_
    refine v_sipush (v := (200 : Int32)) hC dX11_fill_57 rfl ?_
    refine v_aload_n hC dX11_fill_60 rfl ?_
    refine v_iload_n hC dX11_fill_61 rfl ?_
    refine v_iconst (v := (2 : Int32)) hC dX11_fill_62 rfl ?_
    obtain ⟨r23, M24, q25, h⟩ := bnd_some h
    refine w_callVi hC [.int v1, .int (2 : Int32)] [.int (200 : Int32), .int r20, .ref 209] (ok_X11_ofCellar q25) mv_X11_ofCellar aw_1510 ly_208 rfl (Nat.le_of_ble_eq_true rfl) ⟨by decide, by decide⟩ ⟨by decide, by decide⟩ dX11_fill_63 ?_
    refine v_iload_n hC dX11_fill_66 rfl ?_
    refine v_iadd hC dX11_fill_67 ?_
    refine v_mmin hC aw_1550 wm_min (Nat.le_of_ble_eq_true rfl) (Nat.le_of_ble_eq_true rfl) (Nat.le_of_ble_eq_true rfl) (Nat.le_of_ble_eq_true rfl) dX11_fill_68 ?_
    obtain ⟨g26, h⟩ := grd_some h
    obtain ⟨M27, e_M27, h⟩ := lt_some h
    refine w_iast hC ly_209 (inb_in g26) dX11_fill_71 e_M27 ?_
    refine v_aload_n hC dX11_fill_72 rfl ?_
    refine v_iload_n hC dX11_fill_73 rfl ?_
    refine v_iconst (v := (2 : Int32)) hC dX11_fill_74 rfl ?_
    obtain ⟨r28, M29, q30, h⟩ := bnd_some h
    refine w_callVi hC [.int v1, .int (2 : Int32)] [] (ok_X11_ofCellar q30) mv_X11_ofCellar aw_1510 ly_208 rfl (Nat.le_of_ble_eq_true rfl) ⟨by decide, by decide⟩ ⟨by decide, by decide⟩ dX11_fill_75 ?_
    cases h
    exact v_iret hC (by decide) (by decide) dX11_fill_78
  · rw [if_neg c16] at h
    refine v_iconst (v := (0 : Int32)) hC dX11_fill_42 rfl ?_
    cases h
    exact v_iret hC (by decide) (by decide) dX11_fill_43
set_option maxRecDepth 20000 in
set_option maxHeartbeats 4000000 in
theorem ok_X11_fill {l : Launch} {N : Nat} {v1 v2 : Int32} {M : Mm} {r : Int32} {M' : Mm} (h : f_X11_fill N v1 v2 M = some (r, M')) : am_M l yX11_fill cX11_fill 3 (some .int) 3 0 0 LY M [.ref 208, .int v1, .int v2] (.inl (some (.int r))) M' := by
  unfold f_X11_fill at h
  refine am_intro (by decide) (by simp [Value.category]) (Nat.le_of_ble_eq_true rfl) (fun X hC hnt => ?_)
  refine am_start (L := [some (.ref 208), some (.int v1), some (.int v2)]) rfl ?_
  refine v_aload_n hC dX11_fill_0 rfl ?_
  refine v_iconst (v := (0 : Int32)) hC dX11_fill_1 rfl ?_
  obtain ⟨M1, e_M1, h⟩ := lt_some h
  refine w_puti (k := 0) hC cls_X11 ly_208 (by decide) rfl aw_1231 rfl rfl ⟨rfl, rfl⟩ dX11_fill_2 e_M1 ?_
  refine v_aload_n hC dX11_fill_5 rfl ?_
  refine v_aload_n hC dX11_fill_6 rfl ?_
  refine v_iload_n hC dX11_fill_7 rfl ?_
  obtain ⟨r2, M3, q4, h⟩ := bnd_some h
  refine w_callVi hC [.int v1] [.ref 208] (ok_X11_noCellar q4) mv_X11_noCellar aw_1502 ly_208 rfl (Nat.le_of_ble_eq_true rfl) ⟨by decide, by decide⟩ ⟨by decide, by decide⟩ dX11_fill_8 ?_
  refine v_iconst (v := (1 : Int32)) hC dX11_fill_11 rfl ?_
  obtain ⟨r5, M6, q7, h⟩ := bnd_some h
  refine w_callVi hC [.int r2, .int (1 : Int32)] [] (ok_X11_throwsIf q7) mv_X11_throwsIf aw_1470 ly_208 rfl (Nat.le_of_ble_eq_true rfl) ⟨by decide, by decide⟩ ⟨by decide, by decide⟩ dX11_fill_12 ?_
  refine v_if_ne hC 42 dX11_fill_15 rfl (fun c8 => ?_) (fun c8 => ?_)
  · rw [if_neg c8] at h
    refine v_iconst (v := (0 : Int32)) hC dX11_fill_42 rfl ?_
    cases h
    exact v_iret hC (by decide) (by decide) dX11_fill_43
  · rw [if_pos c8] at h
    refine v_aload_n hC dX11_fill_18 rfl ?_
    refine v_iload_n hC dX11_fill_19 rfl ?_
    refine v_iconst (v := (1 : Int32)) hC dX11_fill_20 rfl ?_
    refine v_sipush (v := (200 : Int32)) hC dX11_fill_21 rfl ?_
    obtain ⟨r9, M10, q11, h⟩ := bnd_some h
    refine w_callSi hC [.int v2, .int (1 : Int32), .int (200 : Int32)] [.ref 208] (ok_X11_in q11) ms_X11_in aw_1404 rfl (Nat.le_of_ble_eq_true rfl) ⟨by decide, by decide⟩ ⟨by decide, by decide⟩ dX11_fill_24 ?_
    refine v_if_ne hC 34 dX11_fill_27 rfl (fun c12 => ?_) (fun c12 => ?_)
    · rw [if_neg c12] at h
      refine v_iconst (v := (0 : Int32)) hC dX11_fill_34 rfl ?_
      exact ok_X11_fill_35 hC hnt h
    · rw [if_pos c12] at h
      refine v_iconst (v := (1 : Int32)) hC dX11_fill_30 rfl ?_
      refine v_goto (tg := 35) hC dX11_fill_31 rfl ?_
      exact ok_X11_fill_35 hC hnt h
def f_X11_exchanges_29 (N : Nat) (v1 : Int32) (v4 : Int32) (M : Mm) : Option (Int32 × Mm) :=
  (if v4 = (-1 : Int32) then some (0, M) else bnd (f_X11_dinerAt N v4 (0 : Int32) M) (fun r9 M10 => grd (inb r9 2107) (lt (wr M10 209 (r9).toNatClampNeg v1) (fun M13 => some (0, M13)))))
def f_X11_exchanges (N : Nat) (v1 : Int32) (v2 : Int32) (M : Mm) : Option (Int32 × Mm) :=
  bnd (f_X11_dinerIn N v1 M) (fun r1 M2 => bnd (f_X11_dinerIn N v2 M2) (fun r4 M5 => (if r1 = (-1 : Int32) then f_X11_exchanges_29 N v1 r4 M5 else bnd (f_X11_dinerAt N r1 (0 : Int32) M5) (fun r14 M15 => grd (inb r14 2107) (lt (wr M15 209 (r14).toNatClampNeg v2) (fun M18 => f_X11_exchanges_29 N v1 r4 M18))))))
set_option maxRecDepth 20000 in
set_option maxHeartbeats 4000000 in
theorem ok_X11_exchanges_29 {N : Nat} {X : am_X} {l : Launch} (hC : am_C X l (am_rm 4 0 0) cX11_exchanges yX11_exchanges.cls none) (hnt : am_NT X) {v1 v4 : Int32} {M : Mm} {r : Int32} {M' : Mm} (h : f_X11_exchanges_29 N v1 v4 M = some (r, M')) : am_V X LY M 0 0 (am_Q X LY 0 0 (.inl none) M') 29 [some (.ref 208), some (.int v1), none, none, some (.int v4)] [] := by
  unfold f_X11_exchanges_29 at h
  refine v_iload hC dX11_exchanges_29 rfl ?_
  refine v_iconst (v := (-1 : Int32)) hC dX11_exchanges_31 rfl ?_
  refine v_icmp_eq hC 47 dX11_exchanges_32 rfl (fun c8 => ?_) (fun c8 => ?_)
  · rw [if_pos c8] at h
    cases h
    exact v_vret hC (by decide) (by decide) dX11_exchanges_47
  · rw [if_neg c8] at h
    refine v_aload_n hC dX11_exchanges_35 rfl ?_
    refine v_geta (k := 1) (b := 209) hC cls_X11 ly_208 (by decide) rfl aw_1232 rfl dX11_exchanges_36 ?_
    refine v_iload hC dX11_exchanges_39 rfl ?_
    refine v_iconst (v := (0 : Int32)) hC dX11_exchanges_41 rfl ?_
    obtain ⟨r9, M10, q11, h⟩ := bnd_some h
    refine w_callSi hC [.int v4, .int (0 : Int32)] [.ref 209] (ok_X11_dinerAt q11) ms_X11_dinerAt aw_1384 rfl (Nat.le_of_ble_eq_true rfl) ⟨by decide, by decide⟩ ⟨by decide, by decide⟩ dX11_exchanges_42 ?_
    refine v_iload_n hC dX11_exchanges_45 rfl ?_
    obtain ⟨g12, h⟩ := grd_some h
    obtain ⟨M13, e_M13, h⟩ := lt_some h
    refine w_iast hC ly_209 (inb_in g12) dX11_exchanges_46 e_M13 ?_
    cases h
    exact v_vret hC (by decide) (by decide) dX11_exchanges_47
set_option maxRecDepth 20000 in
set_option maxHeartbeats 4000000 in
theorem ok_X11_exchanges {l : Launch} {N : Nat} {v1 v2 : Int32} {M : Mm} {r : Int32} {M' : Mm} (h : f_X11_exchanges N v1 v2 M = some (r, M')) : am_M l yX11_exchanges cX11_exchanges 5 none 4 0 0 LY M [.ref 208, .int v1, .int v2] (.inl none) M' := by
  unfold f_X11_exchanges at h
  refine am_intro (by decide) (by simp [Value.category]) (Nat.le_of_ble_eq_true rfl) (fun X hC hnt => ?_)
  refine am_start (L := [some (.ref 208), some (.int v1), some (.int v2), none, none]) rfl ?_
  refine v_aload_n hC dX11_exchanges_0 rfl ?_
  refine v_iload_n hC dX11_exchanges_1 rfl ?_
  obtain ⟨r1, M2, q3, h⟩ := bnd_some h
  refine w_callVi hC [.int v1] [] (ok_X11_dinerIn q3) mv_X11_dinerIn aw_1376 ly_208 rfl (Nat.le_of_ble_eq_true rfl) ⟨by decide, by decide⟩ ⟨by decide, by decide⟩ dX11_exchanges_2 ?_
  refine w_istore_n hC dX11_exchanges_5 (ltk rfl) [some (.ref 208), some (.int v1), some (.int v2), some (.int r1), none] rfl ?_
  refine v_aload_n hC dX11_exchanges_6 rfl ?_
  refine v_iload_n hC dX11_exchanges_7 rfl ?_
  obtain ⟨r4, M5, q6, h⟩ := bnd_some h
  refine w_callVi hC [.int v2] [] (ok_X11_dinerIn q6) mv_X11_dinerIn aw_1376 ly_208 rfl (Nat.le_of_ble_eq_true rfl) ⟨by decide, by decide⟩ ⟨by decide, by decide⟩ dX11_exchanges_8 ?_
  refine w_istore hC dX11_exchanges_11 (ltk rfl) [some (.ref 208), some (.int v1), some (.int v2), some (.int r1), some (.int r4)] rfl ?_
  refine v_iload_n hC dX11_exchanges_13 rfl ?_
  refine v_iconst (v := (-1 : Int32)) hC dX11_exchanges_14 rfl ?_
  refine v_icmp_eq hC 29 dX11_exchanges_15 rfl (fun c7 => ?_) (fun c7 => ?_)
  · rw [if_pos c7] at h
    refine v_drop [true, true, false, false, true] [some (.ref 208), some (.int v1), none, none, some (.int r4)] rfl ?_
    exact ok_X11_exchanges_29 hC hnt h
  · rw [if_neg c7] at h
    refine v_aload_n hC dX11_exchanges_18 rfl ?_
    refine v_geta (k := 1) (b := 209) hC cls_X11 ly_208 (by decide) rfl aw_1232 rfl dX11_exchanges_19 ?_
    refine v_iload_n hC dX11_exchanges_22 rfl ?_
    refine v_iconst (v := (0 : Int32)) hC dX11_exchanges_23 rfl ?_
    obtain ⟨r14, M15, q16, h⟩ := bnd_some h
    refine w_callSi hC [.int r1, .int (0 : Int32)] [.ref 209] (ok_X11_dinerAt q16) ms_X11_dinerAt aw_1384 rfl (Nat.le_of_ble_eq_true rfl) ⟨by decide, by decide⟩ ⟨by decide, by decide⟩ dX11_exchanges_24 ?_
    refine v_iload_n hC dX11_exchanges_27 rfl ?_
    obtain ⟨g17, h⟩ := grd_some h
    obtain ⟨M18, e_M18, h⟩ := lt_some h
    refine w_iast hC ly_209 (inb_in g17) dX11_exchanges_28 e_M18 ?_
    refine v_drop [true, true, false, false, true] [some (.ref 208), some (.int v1), none, none, some (.int r4)] rfl ?_
    exact ok_X11_exchanges_29 hC hnt h
def f_X11_change_43 (N : Nat) (v1 : Int32) (v2 : Int32) (s1 : Int32) (M : Mm) : Option (Int32 × Mm) :=
  bnd (f_X11_throwsIf N s1 (2 : Int32) M) (fun r11 M12 => (if r11 = (0 : Int32) then bnd (f_X11_remembers N M12) (fun r15 M16 => bnd (f_X11_exchanges N v1 v2 M16) (fun r18 M19 => bnd (f_X11_dinerIn N v1 M19) (fun r21 M22 => some (r21, M22)))) else some ((0 : Int32), M12)))
def f_X11_change_25 (N : Nat) (v1 : Int32) (v2 : Int32) (s1 : Int32) (M : Mm) : Option (Int32 × Mm) :=
  bnd (f_X11_throwsIf N s1 (1 : Int32) M) (fun r6 M7 => (if r6 = (0 : Int32) then (if v1 = v2 then f_X11_change_43 N v1 v2 (1 : Int32) M7 else f_X11_change_43 N v1 v2 (0 : Int32) M7) else some ((0 : Int32), M7)))
def f_X11_change_20 (N : Nat) (v1 : Int32) (v2 : Int32) (M : Mm) : Option (Int32 × Mm) :=
  f_X11_change_25 N v1 v2 (1 : Int32) M
def f_X11_change (N : Nat) (v1 : Int32) (v2 : Int32) (M : Mm) : Option (Int32 × Mm) :=
  lt (wr M 208 0 (0 : Int32)) (fun M1 => bnd (f_X11_noSeat N v1 M1) (fun r2 M3 => (if r2 = (0 : Int32) then bnd (f_X11_noSeat N v2 M3) (fun r24 M25 => (if r24 = (0 : Int32) then f_X11_change_25 N v1 v2 (0 : Int32) M25 else f_X11_change_20 N v1 v2 M25)) else f_X11_change_20 N v1 v2 M3)))
set_option maxRecDepth 20000 in
set_option maxHeartbeats 4000000 in
theorem ok_X11_change_43 {N : Nat} {X : am_X} {l : Launch} (hC : am_C X l (am_rm 5 0 0) cX11_change yX11_change.cls (some .int)) (hnt : am_NT X) {v1 v2 s1 : Int32} {M : Mm} {r : Int32} {M' : Mm} (h : f_X11_change_43 N v1 v2 s1 M = some (r, M')) : am_V X LY M 0 0 (am_Q X LY 0 0 (.inl (some (.int r))) M') 43 [some (.ref 208), some (.int v1), some (.int v2)] [.int s1, .ref 208] := by
  unfold f_X11_change_43 at h
  refine v_iconst (v := (2 : Int32)) hC dX11_change_43 rfl ?_
  obtain ⟨r11, M12, q13, h⟩ := bnd_some h
  refine w_callVi hC [.int s1, .int (2 : Int32)] [] (ok_X11_throwsIf q13) mv_X11_throwsIf aw_1470 ly_208 rfl (Nat.le_of_ble_eq_true rfl) ⟨by decide, by decide⟩ ⟨by decide, by decide⟩ dX11_change_44 ?_
  refine v_if_eq hC 52 dX11_change_47 rfl (fun c14 => ?_) (fun c14 => ?_)
  · rw [if_pos c14] at h
    refine v_aload_n hC dX11_change_52 rfl ?_
    obtain ⟨r15, M16, q17, h⟩ := bnd_some h
    refine w_callVv hC [] [] (ok_X11_remembers q17) mv_X11_remembers aw_1566 ly_208 rfl (Nat.le_of_ble_eq_true rfl) ⟨by decide, by decide⟩ ⟨by decide, by decide⟩ dX11_change_53 ?_
    refine v_aload_n hC dX11_change_56 rfl ?_
    refine v_iload_n hC dX11_change_57 rfl ?_
    refine v_iload_n hC dX11_change_58 rfl ?_
    obtain ⟨r18, M19, q20, h⟩ := bnd_some h
    refine w_callVv hC [.int v1, .int v2] [] (ok_X11_exchanges q20) mv_X11_exchanges aw_1582 ly_208 rfl (Nat.le_of_ble_eq_true rfl) ⟨by decide, by decide⟩ ⟨by decide, by decide⟩ dX11_change_59 ?_
    refine v_aload_n hC dX11_change_62 rfl ?_
    refine v_iload_n hC dX11_change_63 rfl ?_
    obtain ⟨r21, M22, q23, h⟩ := bnd_some h
    refine w_callVi hC [.int v1] [] (ok_X11_dinerIn q23) mv_X11_dinerIn aw_1376 ly_208 rfl (Nat.le_of_ble_eq_true rfl) ⟨by decide, by decide⟩ ⟨by decide, by decide⟩ dX11_change_64 ?_
    cases h
    exact v_iret hC (by decide) (by decide) dX11_change_67
  · rw [if_neg c14] at h
    refine v_iconst (v := (0 : Int32)) hC dX11_change_50 rfl ?_
    cases h
    exact v_iret hC (by decide) (by decide) dX11_change_51
set_option maxRecDepth 20000 in
set_option maxHeartbeats 4000000 in
theorem ok_X11_change_25 {N : Nat} {X : am_X} {l : Launch} (hC : am_C X l (am_rm 5 0 0) cX11_change yX11_change.cls (some .int)) (hnt : am_NT X) {v1 v2 s1 : Int32} {M : Mm} {r : Int32} {M' : Mm} (h : f_X11_change_25 N v1 v2 s1 M = some (r, M')) : am_V X LY M 0 0 (am_Q X LY 0 0 (.inl (some (.int r))) M') 25 [some (.ref 208), some (.int v1), some (.int v2)] [.int s1, .ref 208] := by
  unfold f_X11_change_25 at h
  refine v_iconst (v := (1 : Int32)) hC dX11_change_25 rfl ?_
  obtain ⟨r6, M7, q8, h⟩ := bnd_some h
  refine w_callVi hC [.int s1, .int (1 : Int32)] [] (ok_X11_throwsIf q8) mv_X11_throwsIf aw_1470 ly_208 rfl (Nat.le_of_ble_eq_true rfl) ⟨by decide, by decide⟩ ⟨by decide, by decide⟩ dX11_change_26 ?_
  refine v_if_ne hC 50 dX11_change_29 rfl (fun c9 => ?_) (fun c9 => ?_)
  · rw [if_neg c9] at h
    refine v_iconst (v := (0 : Int32)) hC dX11_change_50 rfl ?_
    cases h
    exact v_iret hC (by decide) (by decide) dX11_change_51
  · rw [if_pos c9] at h
    refine v_aload_n hC dX11_change_32 rfl ?_
    refine v_iload_n hC dX11_change_33 rfl ?_
    refine v_iload_n hC dX11_change_34 rfl ?_
    refine v_icmp_ne hC 42 dX11_change_35 rfl (fun c10 => ?_) (fun c10 => ?_)
    · rw [if_neg c10] at h
      refine v_iconst (v := (0 : Int32)) hC dX11_change_42 rfl ?_
      exact ok_X11_change_43 hC hnt h
    · rw [if_pos c10] at h
      refine v_iconst (v := (1 : Int32)) hC dX11_change_38 rfl ?_
      refine v_goto (tg := 43) hC dX11_change_39 rfl ?_
      exact ok_X11_change_43 hC hnt h
set_option maxRecDepth 20000 in
set_option maxHeartbeats 4000000 in
theorem ok_X11_change_20 {N : Nat} {X : am_X} {l : Launch} (hC : am_C X l (am_rm 5 0 0) cX11_change yX11_change.cls (some .int)) (hnt : am_NT X) {v1 v2 : Int32} {M : Mm} {r : Int32} {M' : Mm} (h : f_X11_change_20 N v1 v2 M = some (r, M')) : am_V X LY M 0 0 (am_Q X LY 0 0 (.inl (some (.int r))) M') 20 [some (.ref 208), some (.int v1), some (.int v2)] [.ref 208] := by
  unfold f_X11_change_20 at h
  refine v_iconst (v := (1 : Int32)) hC dX11_change_20 rfl ?_
  refine v_goto (tg := 25) hC dX11_change_21 rfl ?_
  exact ok_X11_change_25 hC hnt h
set_option maxRecDepth 20000 in
set_option maxHeartbeats 4000000 in
theorem ok_X11_change {l : Launch} {N : Nat} {v1 v2 : Int32} {M : Mm} {r : Int32} {M' : Mm} (h : f_X11_change N v1 v2 M = some (r, M')) : am_M l yX11_change cX11_change 3 (some .int) 5 0 0 LY M [.ref 208, .int v1, .int v2] (.inl (some (.int r))) M' := by
  unfold f_X11_change at h
  refine am_intro (by decide) (by simp [Value.category]) (Nat.le_of_ble_eq_true rfl) (fun X hC hnt => ?_)
  refine am_start (L := [some (.ref 208), some (.int v1), some (.int v2)]) rfl ?_
  refine v_aload_n hC dX11_change_0 rfl ?_
  refine v_iconst (v := (0 : Int32)) hC dX11_change_1 rfl ?_
  obtain ⟨M1, e_M1, h⟩ := lt_some h
  refine w_puti (k := 0) hC cls_X11 ly_208 (by decide) rfl aw_1231 rfl rfl ⟨rfl, rfl⟩ dX11_change_2 e_M1 ?_
  refine v_aload_n hC dX11_change_5 rfl ?_
  refine v_iload_n hC dX11_change_6 rfl ?_
  obtain ⟨r2, M3, q4, h⟩ := bnd_some h
  refine w_callSi hC [.int v1] [.ref 208] (ok_X11_noSeat q4) ms_X11_noSeat aw_1559 rfl (Nat.le_of_ble_eq_true rfl) ⟨by decide, by decide⟩ ⟨by decide, by decide⟩ dX11_change_7 ?_
  refine v_if_ne hC 20 dX11_change_10 rfl (fun c5 => ?_) (fun c5 => ?_)
  · rw [if_neg c5] at h
    exact ok_X11_change_20 hC hnt h
  · rw [if_pos c5] at h
    refine v_iload_n hC dX11_change_13 rfl ?_
    obtain ⟨r24, M25, q26, h⟩ := bnd_some h
    refine w_callSi hC [.int v2] [.ref 208] (ok_X11_noSeat q26) ms_X11_noSeat aw_1559 rfl (Nat.le_of_ble_eq_true rfl) ⟨by decide, by decide⟩ ⟨by decide, by decide⟩ dX11_change_14 ?_
    refine v_if_eq hC 24 dX11_change_17 rfl (fun c27 => ?_) (fun c27 => ?_)
    · rw [if_pos c27] at h
      refine v_iconst (v := (0 : Int32)) hC dX11_change_24 rfl ?_
      exact ok_X11_change_25 hC hnt h
    · rw [if_neg c27] at h
      exact ok_X11_change_20 hC hnt h
def f_X11_diet_48 (N : Nat) (v2 : Int32) (v3 : Int32) (s1 : Int32) (s2 : Int32) (M : Mm) : Option (Int32 × Mm) :=
  grd (inb s1 2107) (lt (wr M 209 (s1).toNatClampNeg s2) (fun M20 => (if v3 = v2 then some ((0 : Int32), M20) else some ((1 : Int32), M20))))
def f_X11_diet (N : Nat) (v1 : Int32) (v2 : Int32) (M : Mm) : Option (Int32 × Mm) :=
  lt (wr M 208 0 (0 : Int32)) (fun M1 => bnd (f_X11_noDiner N v1 M1) (fun r2 M3 => bnd (f_X11_throwsIf N r2 (1 : Int32) M3) (fun r5 M6 => (if r5 = (0 : Int32) then bnd (f_X11_remembers N M6) (fun r9 M10 => bnd (f_X11_onDiet N v1 M10) (fun r12 M13 => bnd (f_X11_dinerAt N v1 (2 : Int32) M13) (fun r15 M16 => (if v2 = (0 : Int32) then f_X11_diet_48 N v2 r12 r15 (0 : Int32) M16 else f_X11_diet_48 N v2 r12 r15 (1 : Int32) M16)))) else some ((0 : Int32), M6)))))
set_option maxRecDepth 20000 in
set_option maxHeartbeats 4000000 in
theorem ok_X11_diet_48 {N : Nat} {X : am_X} {l : Launch} (hC : am_C X l (am_rm 4 0 0) cX11_diet yX11_diet.cls (some .boolean)) (hnt : am_NT X) {v2 v3 s1 s2 : Int32} {M : Mm} {r : Int32} {M' : Mm} (h : f_X11_diet_48 N v2 v3 s1 s2 M = some (r, M')) : am_V X LY M 0 0 (am_Q X LY 0 0 (.inl (some (.int r))) M') 48 [none, none, some (.int v2), some (.int v3)] [.int s2, .int s1, .ref 209] := by
  unfold f_X11_diet_48 at h
  obtain ⟨g19, h⟩ := grd_some h
  obtain ⟨M20, e_M20, h⟩ := lt_some h
  refine w_iast hC ly_209 (inb_in g19) dX11_diet_48 e_M20 ?_
  refine v_iload_n hC dX11_diet_49 rfl ?_
  refine v_iload_n hC dX11_diet_50 rfl ?_
  refine v_icmp_eq hC 58 dX11_diet_51 rfl (fun c21 => ?_) (fun c21 => ?_)
  · rw [if_pos c21] at h
    refine v_iconst (v := (0 : Int32)) hC dX11_diet_58 rfl ?_
    cases h
    exact v_zret hC (by decide) (by decide) (by decide) dX11_diet_59
  · rw [if_neg c21] at h
    refine v_iconst (v := (1 : Int32)) hC dX11_diet_54 rfl ?_
    refine v_goto (tg := 59) hC dX11_diet_55 rfl ?_
    cases h
    exact v_zret hC (by decide) (by decide) (by decide) dX11_diet_59
set_option maxRecDepth 20000 in
set_option maxHeartbeats 4000000 in
theorem ok_X11_diet {l : Launch} {N : Nat} {v1 v2 : Int32} {M : Mm} {r : Int32} {M' : Mm} (h : f_X11_diet N v1 v2 M = some (r, M')) : am_M l yX11_diet cX11_diet 4 (some .boolean) 4 0 0 LY M [.ref 208, .int v1, .int v2] (.inl (some (.int r))) M' := by
  unfold f_X11_diet at h
  refine am_intro (by decide) (by simp [Value.category]) (Nat.le_of_ble_eq_true rfl) (fun X hC hnt => ?_)
  refine am_start (L := [some (.ref 208), some (.int v1), some (.int v2), none]) rfl ?_
  refine v_aload_n hC dX11_diet_0 rfl ?_
  refine v_iconst (v := (0 : Int32)) hC dX11_diet_1 rfl ?_
  obtain ⟨M1, e_M1, h⟩ := lt_some h
  refine w_puti (k := 0) hC cls_X11 ly_208 (by decide) rfl aw_1231 rfl rfl ⟨rfl, rfl⟩ dX11_diet_2 e_M1 ?_
  refine v_aload_n hC dX11_diet_5 rfl ?_
  refine v_aload_n hC dX11_diet_6 rfl ?_
  refine v_iload_n hC dX11_diet_7 rfl ?_
  obtain ⟨r2, M3, q4, h⟩ := bnd_some h
  refine w_callVi hC [.int v1] [.ref 208] (ok_X11_noDiner q4) mv_X11_noDiner aw_1482 ly_208 rfl (Nat.le_of_ble_eq_true rfl) ⟨by decide, by decide⟩ ⟨by decide, by decide⟩ dX11_diet_8 ?_
  refine v_iconst (v := (1 : Int32)) hC dX11_diet_11 rfl ?_
  obtain ⟨r5, M6, q7, h⟩ := bnd_some h
  refine w_callVi hC [.int r2, .int (1 : Int32)] [] (ok_X11_throwsIf q7) mv_X11_throwsIf aw_1470 ly_208 rfl (Nat.le_of_ble_eq_true rfl) ⟨by decide, by decide⟩ ⟨by decide, by decide⟩ dX11_diet_12 ?_
  refine v_if_eq hC 20 dX11_diet_15 rfl (fun c8 => ?_) (fun c8 => ?_)
  · rw [if_pos c8] at h
    refine v_aload_n hC dX11_diet_20 rfl ?_
    obtain ⟨r9, M10, q11, h⟩ := bnd_some h
    refine w_callVv hC [] [] (ok_X11_remembers q11) mv_X11_remembers aw_1566 ly_208 rfl (Nat.le_of_ble_eq_true rfl) ⟨by decide, by decide⟩ ⟨by decide, by decide⟩ dX11_diet_21 ?_
    refine v_aload_n hC dX11_diet_24 rfl ?_
    refine v_iload_n hC dX11_diet_25 rfl ?_
    obtain ⟨r12, M13, q14, h⟩ := bnd_some h
    refine w_callVi hC [.int v1] [] (ok_X11_onDiet q14) mv_X11_onDiet aw_1533 ly_208 rfl (Nat.le_of_ble_eq_true rfl) ⟨by decide, by decide⟩ ⟨by decide, by decide⟩ dX11_diet_26 ?_
    refine w_istore_n hC dX11_diet_29 (ltk rfl) [some (.ref 208), some (.int v1), some (.int v2), some (.int r12)] rfl ?_
    refine v_aload_n hC dX11_diet_30 rfl ?_
    refine v_geta (k := 1) (b := 209) hC cls_X11 ly_208 (by decide) rfl aw_1232 rfl dX11_diet_31 ?_
    refine v_iload_n hC dX11_diet_34 rfl ?_
    refine v_iconst (v := (2 : Int32)) hC dX11_diet_35 rfl ?_
    obtain ⟨r15, M16, q17, h⟩ := bnd_some h
    refine w_callSi hC [.int v1, .int (2 : Int32)] [.ref 209] (ok_X11_dinerAt q17) ms_X11_dinerAt aw_1384 rfl (Nat.le_of_ble_eq_true rfl) ⟨by decide, by decide⟩ ⟨by decide, by decide⟩ dX11_diet_36 ?_
    refine v_iload_n hC dX11_diet_39 rfl ?_
    refine v_if_eq hC 47 dX11_diet_40 rfl (fun c18 => ?_) (fun c18 => ?_)
    · rw [if_pos c18] at h
      refine v_iconst (v := (0 : Int32)) hC dX11_diet_47 rfl ?_
      refine v_drop [false, false, true, true] [none, none, some (.int v2), some (.int r12)] rfl ?_
      exact ok_X11_diet_48 hC hnt h
    · rw [if_neg c18] at h
      refine v_iconst (v := (1 : Int32)) hC dX11_diet_43 rfl ?_
      refine v_goto (tg := 48) hC dX11_diet_44 rfl ?_
      refine v_drop [false, false, true, true] [none, none, some (.int v2), some (.int r12)] rfl ?_
      exact ok_X11_diet_48 hC hnt h
  · rw [if_neg c8] at h
    refine v_iconst (v := (0 : Int32)) hC dX11_diet_18 rfl ?_
    cases h
    exact v_zret hC (by decide) (by decide) (by decide) dX11_diet_19
def f_X11_sweet_83 (N : Nat) (v2 : Int32) (v3 : Int32) (s1 : Int32) (s2 : Int32) (M : Mm) : Option (Int32 × Mm) :=
  grd (inb s1 2107) (lt (wr M 209 (s1).toNatClampNeg s2) (fun M20 => (if v3 = v2 then some ((0 : Int32), M20) else some ((1 : Int32), M20))))
def f_X11_sweet_21 (N : Nat) (v1 : Int32) (v2 : Int32) (s1 : Int32) (M : Mm) : Option (Int32 × Mm) :=
  bnd (f_X11_throwsIf N s1 (1 : Int32) M) (fun r6 M7 => (if r6 = (0 : Int32) then bnd (f_X11_remembers N M7) (fun r10 M11 => grd (inb (6 : Int32) 2107) (bnd (f_X11_holds N (M11 209 ((6 : Int32)).toNatClampNeg) v1 M11) (fun r14 M15 => (if v2 = (0 : Int32) then grd (inb (6 : Int32) 2107) (f_X11_sweet_83 N v2 r14 (6 : Int32) ((M15 209 ((6 : Int32)).toNatClampNeg) &&& (((1 : Int32) <<< (v1 &&& 31)) ^^^ (-1 : Int32))) M15) else grd (inb (6 : Int32) 2107) (f_X11_sweet_83 N v2 r14 (6 : Int32) ((M15 209 ((6 : Int32)).toNatClampNeg) ||| ((1 : Int32) <<< (v1 &&& 31))) M15))))) else some ((0 : Int32), M7)))
def f_X11_sweet (N : Nat) (v1 : Int32) (v2 : Int32) (M : Mm) : Option (Int32 × Mm) :=
  lt (wr M 208 0 (0 : Int32)) (fun M1 => bnd (f_X11_in N v1 (0 : Int32) (11 : Int32) M1) (fun r2 M3 => (if r2 = (0 : Int32) then f_X11_sweet_21 N v1 v2 (1 : Int32) M3 else f_X11_sweet_21 N v1 v2 (0 : Int32) M3)))
set_option maxRecDepth 20000 in
set_option maxHeartbeats 4000000 in
theorem ok_X11_sweet_83 {N : Nat} {X : am_X} {l : Launch} (hC : am_C X l (am_rm 2 0 0) cX11_sweet yX11_sweet.cls (some .boolean)) (hnt : am_NT X) {v2 v3 s1 s2 : Int32} {M : Mm} {r : Int32} {M' : Mm} (h : f_X11_sweet_83 N v2 v3 s1 s2 M = some (r, M')) : am_V X LY M 0 0 (am_Q X LY 0 0 (.inl (some (.int r))) M') 83 [none, none, some (.int v2), some (.int v3)] [.int s2, .int s1, .ref 209] := by
  unfold f_X11_sweet_83 at h
  obtain ⟨g19, h⟩ := grd_some h
  obtain ⟨M20, e_M20, h⟩ := lt_some h
  refine w_iast hC ly_209 (inb_in g19) dX11_sweet_83 e_M20 ?_
  refine v_iload_n hC dX11_sweet_84 rfl ?_
  refine v_iload_n hC dX11_sweet_85 rfl ?_
  refine v_icmp_eq hC 93 dX11_sweet_86 rfl (fun c21 => ?_) (fun c21 => ?_)
  · rw [if_pos c21] at h
    refine v_iconst (v := (0 : Int32)) hC dX11_sweet_93 rfl ?_
    cases h
    exact v_zret hC (by decide) (by decide) (by decide) dX11_sweet_94
  · rw [if_neg c21] at h
    refine v_iconst (v := (1 : Int32)) hC dX11_sweet_89 rfl ?_
    refine v_goto (tg := 94) hC dX11_sweet_90 rfl ?_
    cases h
    exact v_zret hC (by decide) (by decide) (by decide) dX11_sweet_94
set_option maxRecDepth 20000 in
set_option maxHeartbeats 4000000 in
theorem ok_X11_sweet_21 {N : Nat} {X : am_X} {l : Launch} (hC : am_C X l (am_rm 2 0 0) cX11_sweet yX11_sweet.cls (some .boolean)) (hnt : am_NT X) {v1 v2 s1 : Int32} {M : Mm} {r : Int32} {M' : Mm} (h : f_X11_sweet_21 N v1 v2 s1 M = some (r, M')) : am_V X LY M 0 0 (am_Q X LY 0 0 (.inl (some (.int r))) M') 21 [some (.ref 208), some (.int v1), some (.int v2), none] [.int s1, .ref 208] := by
  unfold f_X11_sweet_21 at h
  refine v_iconst (v := (1 : Int32)) hC dX11_sweet_21 rfl ?_
  obtain ⟨r6, M7, q8, h⟩ := bnd_some h
  refine w_callVi hC [.int s1, .int (1 : Int32)] [] (ok_X11_throwsIf q8) mv_X11_throwsIf aw_1470 ly_208 rfl (Nat.le_of_ble_eq_true rfl) ⟨by decide, by decide⟩ ⟨by decide, by decide⟩ dX11_sweet_22 ?_
  refine v_if_eq hC 30 dX11_sweet_25 rfl (fun c9 => ?_) (fun c9 => ?_)
  · rw [if_pos c9] at h
    refine v_aload_n hC dX11_sweet_30 rfl ?_
    obtain ⟨r10, M11, q12, h⟩ := bnd_some h
    refine w_callVv hC [] [] (ok_X11_remembers q12) mv_X11_remembers aw_1566 ly_208 rfl (Nat.le_of_ble_eq_true rfl) ⟨by decide, by decide⟩ ⟨by decide, by decide⟩ dX11_sweet_31 ?_
    refine v_aload_n hC dX11_sweet_34 rfl ?_
    refine v_geta (k := 1) (b := 209) hC cls_X11 ly_208 (by decide) rfl aw_1232 rfl dX11_sweet_35 ?_
    refine v_bipush (v := (6 : Int32)) hC dX11_sweet_38 rfl ?_
    obtain ⟨g13, h⟩ := grd_some h
    refine v_iald hC ly_209 (inb_in g13) dX11_sweet_40 ?_
    refine v_iload_n hC dX11_sweet_41 rfl ?_
    obtain ⟨r14, M15, q16, h⟩ := bnd_some h
    refine w_callSi hC [.int (M11 209 ((6 : Int32)).toNatClampNeg), .int v1] [] (ok_X11_holds q16) ms_X11_holds aw_1522 rfl (Nat.le_of_ble_eq_true rfl) ⟨by decide, by decide⟩ ⟨by decide, by decide⟩ dX11_sweet_42 ?_
    refine w_istore_n hC dX11_sweet_45 (ltk rfl) [some (.ref 208), some (.int v1), some (.int v2), some (.int r14)] rfl ?_
    refine v_aload_n hC dX11_sweet_46 rfl ?_
    refine v_geta (k := 1) (b := 209) hC cls_X11 ly_208 (by decide) rfl aw_1232 rfl dX11_sweet_47 ?_
    refine v_bipush (v := (6 : Int32)) hC dX11_sweet_50 rfl ?_
    refine v_iload_n hC dX11_sweet_52 rfl ?_
    refine v_if_eq hC 70 dX11_sweet_53 rfl (fun c17 => ?_) (fun c17 => ?_)
    · rw [if_pos c17] at h
      refine v_aload_n hC dX11_sweet_70 rfl ?_
      refine v_geta (k := 1) (b := 209) hC cls_X11 ly_208 (by decide) rfl aw_1232 rfl dX11_sweet_71 ?_
      refine v_bipush (v := (6 : Int32)) hC dX11_sweet_74 rfl ?_
      obtain ⟨g18, h⟩ := grd_some h
      refine v_iald hC ly_209 (inb_in g18) dX11_sweet_76 ?_
      refine v_iconst (v := (1 : Int32)) hC dX11_sweet_77 rfl ?_
      refine v_iload_n hC dX11_sweet_78 rfl ?_
      refine v_ishl hC dX11_sweet_79 ?_
      refine v_iconst (v := (-1 : Int32)) hC dX11_sweet_80 rfl ?_
      refine v_ixor hC dX11_sweet_81 ?_
      refine v_iand hC dX11_sweet_82 ?_
      refine v_drop [false, false, true, true] [none, none, some (.int v2), some (.int r14)] rfl ?_
      exact ok_X11_sweet_83 hC hnt h
    · rw [if_neg c17] at h
      refine v_aload_n hC dX11_sweet_56 rfl ?_
      refine v_geta (k := 1) (b := 209) hC cls_X11 ly_208 (by decide) rfl aw_1232 rfl dX11_sweet_57 ?_
      refine v_bipush (v := (6 : Int32)) hC dX11_sweet_60 rfl ?_
      obtain ⟨g22, h⟩ := grd_some h
      refine v_iald hC ly_209 (inb_in g22) dX11_sweet_62 ?_
      refine v_iconst (v := (1 : Int32)) hC dX11_sweet_63 rfl ?_
      refine v_iload_n hC dX11_sweet_64 rfl ?_
      refine v_ishl hC dX11_sweet_65 ?_
      refine v_ior hC dX11_sweet_66 ?_
      refine v_goto (tg := 83) hC dX11_sweet_67 rfl ?_
      refine v_drop [false, false, true, true] [none, none, some (.int v2), some (.int r14)] rfl ?_
      exact ok_X11_sweet_83 hC hnt h
  · rw [if_neg c9] at h
    refine v_iconst (v := (0 : Int32)) hC dX11_sweet_28 rfl ?_
    cases h
    exact v_zret hC (by decide) (by decide) (by decide) dX11_sweet_29
set_option maxRecDepth 20000 in
set_option maxHeartbeats 4000000 in
theorem ok_X11_sweet {l : Launch} {N : Nat} {v1 v2 : Int32} {M : Mm} {r : Int32} {M' : Mm} (h : f_X11_sweet N v1 v2 M = some (r, M')) : am_M l yX11_sweet cX11_sweet 4 (some .boolean) 2 0 0 LY M [.ref 208, .int v1, .int v2] (.inl (some (.int r))) M' := by
  unfold f_X11_sweet at h
  refine am_intro (by decide) (by simp [Value.category]) (Nat.le_of_ble_eq_true rfl) (fun X hC hnt => ?_)
  refine am_start (L := [some (.ref 208), some (.int v1), some (.int v2), none]) rfl ?_
  refine v_aload_n hC dX11_sweet_0 rfl ?_
  refine v_iconst (v := (0 : Int32)) hC dX11_sweet_1 rfl ?_
  obtain ⟨M1, e_M1, h⟩ := lt_some h
  refine w_puti (k := 0) hC cls_X11 ly_208 (by decide) rfl aw_1231 rfl rfl ⟨rfl, rfl⟩ dX11_sweet_2 e_M1 ?_
  refine v_aload_n hC dX11_sweet_5 rfl ?_
  refine v_iload_n hC dX11_sweet_6 rfl ?_
  refine v_iconst (v := (0 : Int32)) hC dX11_sweet_7 rfl ?_
  refine v_bipush (v := (11 : Int32)) hC dX11_sweet_8 rfl ?_
  obtain ⟨r2, M3, q4, h⟩ := bnd_some h
  refine w_callSi hC [.int v1, .int (0 : Int32), .int (11 : Int32)] [.ref 208] (ok_X11_in q4) ms_X11_in aw_1404 rfl (Nat.le_of_ble_eq_true rfl) ⟨by decide, by decide⟩ ⟨by decide, by decide⟩ dX11_sweet_10 ?_
  refine v_if_ne hC 20 dX11_sweet_13 rfl (fun c5 => ?_) (fun c5 => ?_)
  · rw [if_neg c5] at h
    refine v_iconst (v := (0 : Int32)) hC dX11_sweet_20 rfl ?_
    exact ok_X11_sweet_21 hC hnt h
  · rw [if_pos c5] at h
    refine v_iconst (v := (1 : Int32)) hC dX11_sweet_16 rfl ?_
    refine v_goto (tg := 21) hC dX11_sweet_17 rfl ?_
    exact ok_X11_sweet_21 hC hnt h
def f_X11_tells_5 (N : Nat) : Nat → Int32 → Int32 → Int32 → Int32 → Mm → Option (Int32 × Mm)
  | 0, _, _, _, _, _ => none
  | n + 1, v1, v2, v3, v4, M => (if v4 < (5 : Int32) then grd (inb (5 : Int32) 2107) (grd (inb (109 : Int32) 2107) (lt (wr M 209 ((109 : Int32)).toNatClampNeg (M 209 ((5 : Int32)).toNatClampNeg)) (fun M4 => grd (inb (4 : Int32) 2107) (grd (inb (110 : Int32) 2107) (lt (wr M4 209 ((110 : Int32)).toNatClampNeg (M4 209 ((4 : Int32)).toNatClampNeg)) (fun M7 => grd (inb (111 : Int32) 2107) (lt (wr M7 209 ((111 : Int32)).toNatClampNeg v1) (fun M9 => grd (inb (112 : Int32) 2107) (lt (wr M9 209 ((112 : Int32)).toNatClampNeg v2) (fun M11 => grd (inb (113 : Int32) 2107) (lt (wr M11 209 ((113 : Int32)).toNatClampNeg v3) (fun M13 => grd (inb (10 : Int32) 2107) (grd (inb (10 : Int32) 2107) (lt (wr M13 209 ((10 : Int32)).toNatClampNeg (if ((M13 209 ((10 : Int32)).toNatClampNeg) + (1 : Int32)) < (60 : Int32) then ((M13 209 ((10 : Int32)).toNatClampNeg) + (1 : Int32)) else (60 : Int32))) (fun M16 => some (0, M16)))))))))))))))) else grd (inb (((109 : Int32) + v4) - (5 : Int32)) 2107) (grd (inb ((109 : Int32) + v4) 2107) (lt (wr M 209 (((109 : Int32) + v4)).toNatClampNeg (M 209 ((((109 : Int32) + v4) - (5 : Int32))).toNatClampNeg)) (fun M19 => f_X11_tells_5 N n v1 v2 v3 (v4 + (-1 : Int32)) M19))))
def f_X11_tells (N : Nat) (v1 : Int32) (v2 : Int32) (v3 : Int32) (M : Mm) : Option (Int32 × Mm) :=
  f_X11_tells_5 N N v1 v2 v3 (299 : Int32) M
set_option maxRecDepth 20000 in
set_option maxHeartbeats 4000000 in
theorem ok_X11_tells_5 {N : Nat} {X : am_X} {l : Launch} (hC : am_C X l (am_rm 1 0 0) cX11_tells yX11_tells.cls none) (hnt : am_NT X) : ∀ (n : Nat) (v1 v2 v3 v4 : Int32) (M : Mm) (r : Int32) (M' : Mm), f_X11_tells_5 N n v1 v2 v3 v4 M = some (r, M') → am_V X LY M 0 0 (am_Q X LY 0 0 (.inl none) M') 5 [some (.ref 208), some (.int v1), some (.int v2), some (.int v3), some (.int v4)] [] := by
  intro n
  induction n with
  | zero => intro v1 v2 v3 v4 M r M' h; cases h
  | succ n ih =>
    intro v1 v2 v3 v4 M r M' h
    simp only [f_X11_tells_5] at h
    refine v_iload hC dX11_tells_5 rfl ?_
    refine v_iconst (v := (5 : Int32)) hC dX11_tells_7 rfl ?_
    refine v_icmp_lt hC 39 dX11_tells_8 rfl (fun c1 => ?_) (fun c1 => ?_)
    · rw [if_pos c1] at h
      refine v_aload_n hC dX11_tells_39 rfl ?_
      refine v_geta (k := 1) (b := 209) hC cls_X11 ly_208 (by decide) rfl aw_1232 rfl dX11_tells_40 ?_
      refine v_bipush (v := (109 : Int32)) hC dX11_tells_43 rfl ?_
      refine v_aload_n hC dX11_tells_45 rfl ?_
      refine v_geta (k := 1) (b := 209) hC cls_X11 ly_208 (by decide) rfl aw_1232 rfl dX11_tells_46 ?_
      refine v_iconst (v := (5 : Int32)) hC dX11_tells_49 rfl ?_
      obtain ⟨g2, h⟩ := grd_some h
      refine v_iald hC ly_209 (inb_in g2) dX11_tells_50 ?_
      obtain ⟨g3, h⟩ := grd_some h
      obtain ⟨M4, e_M4, h⟩ := lt_some h
      refine w_iast hC ly_209 (inb_in g3) dX11_tells_51 e_M4 ?_
      refine v_aload_n hC dX11_tells_52 rfl ?_
      refine v_geta (k := 1) (b := 209) hC cls_X11 ly_208 (by decide) rfl aw_1232 rfl dX11_tells_53 ?_
      refine v_bipush (v := (110 : Int32)) hC dX11_tells_56 rfl ?_
      refine v_aload_n hC dX11_tells_58 rfl ?_
      refine v_geta (k := 1) (b := 209) hC cls_X11 ly_208 (by decide) rfl aw_1232 rfl dX11_tells_59 ?_
      refine v_iconst (v := (4 : Int32)) hC dX11_tells_62 rfl ?_
      obtain ⟨g5, h⟩ := grd_some h
      refine v_iald hC ly_209 (inb_in g5) dX11_tells_63 ?_
      obtain ⟨g6, h⟩ := grd_some h
      obtain ⟨M7, e_M7, h⟩ := lt_some h
      refine w_iast hC ly_209 (inb_in g6) dX11_tells_64 e_M7 ?_
      refine v_aload_n hC dX11_tells_65 rfl ?_
      refine v_geta (k := 1) (b := 209) hC cls_X11 ly_208 (by decide) rfl aw_1232 rfl dX11_tells_66 ?_
      refine v_bipush (v := (111 : Int32)) hC dX11_tells_69 rfl ?_
      refine v_iload_n hC dX11_tells_71 rfl ?_
      obtain ⟨g8, h⟩ := grd_some h
      obtain ⟨M9, e_M9, h⟩ := lt_some h
      refine w_iast hC ly_209 (inb_in g8) dX11_tells_72 e_M9 ?_
      refine v_aload_n hC dX11_tells_73 rfl ?_
      refine v_geta (k := 1) (b := 209) hC cls_X11 ly_208 (by decide) rfl aw_1232 rfl dX11_tells_74 ?_
      refine v_bipush (v := (112 : Int32)) hC dX11_tells_77 rfl ?_
      refine v_iload_n hC dX11_tells_79 rfl ?_
      obtain ⟨g10, h⟩ := grd_some h
      obtain ⟨M11, e_M11, h⟩ := lt_some h
      refine w_iast hC ly_209 (inb_in g10) dX11_tells_80 e_M11 ?_
      refine v_aload_n hC dX11_tells_81 rfl ?_
      refine v_geta (k := 1) (b := 209) hC cls_X11 ly_208 (by decide) rfl aw_1232 rfl dX11_tells_82 ?_
      refine v_bipush (v := (113 : Int32)) hC dX11_tells_85 rfl ?_
      refine v_iload_n hC dX11_tells_87 rfl ?_
      obtain ⟨g12, h⟩ := grd_some h
      obtain ⟨M13, e_M13, h⟩ := lt_some h
      refine w_iast hC ly_209 (inb_in g12) dX11_tells_88 e_M13 ?_
      refine v_aload_n hC dX11_tells_89 rfl ?_
      refine v_geta (k := 1) (b := 209) hC cls_X11 ly_208 (by decide) rfl aw_1232 rfl dX11_tells_90 ?_
      refine v_bipush (v := (10 : Int32)) hC dX11_tells_93 rfl ?_
      refine v_bipush (v := (60 : Int32)) hC dX11_tells_95 rfl ?_
      refine v_aload_n hC dX11_tells_97 rfl ?_
      refine v_geta (k := 1) (b := 209) hC cls_X11 ly_208 (by decide) rfl aw_1232 rfl dX11_tells_98 ?_
      refine v_bipush (v := (10 : Int32)) hC dX11_tells_101 rfl ?_
      obtain ⟨g14, h⟩ := grd_some h
      refine v_iald hC ly_209 (inb_in g14) dX11_tells_103 ?_
      refine v_iconst (v := (1 : Int32)) hC dX11_tells_104 rfl ?_
      refine v_iadd hC dX11_tells_105 ?_
      refine v_mmin hC aw_1550 wm_min (Nat.le_of_ble_eq_true rfl) (Nat.le_of_ble_eq_true rfl) (Nat.le_of_ble_eq_true rfl) (Nat.le_of_ble_eq_true rfl) dX11_tells_106 ?_
      obtain ⟨g15, h⟩ := grd_some h
      obtain ⟨M16, e_M16, h⟩ := lt_some h
      refine w_iast hC ly_209 (inb_in g15) dX11_tells_109 e_M16 ?_
      cases h
      exact v_vret hC (by decide) (by decide) dX11_tells_110
    · rw [if_neg c1] at h
      refine v_aload_n hC dX11_tells_11 rfl ?_
      refine v_geta (k := 1) (b := 209) hC cls_X11 ly_208 (by decide) rfl aw_1232 rfl dX11_tells_12 ?_
      refine v_bipush (v := (109 : Int32)) hC dX11_tells_15 rfl ?_
      refine v_iload hC dX11_tells_17 rfl ?_
      refine v_iadd hC dX11_tells_19 ?_
      refine v_aload_n hC dX11_tells_20 rfl ?_
      refine v_geta (k := 1) (b := 209) hC cls_X11 ly_208 (by decide) rfl aw_1232 rfl dX11_tells_21 ?_
      refine v_bipush (v := (109 : Int32)) hC dX11_tells_24 rfl ?_
      refine v_iload hC dX11_tells_26 rfl ?_
      refine v_iadd hC dX11_tells_28 ?_
      refine v_iconst (v := (5 : Int32)) hC dX11_tells_29 rfl ?_
      refine v_isub hC dX11_tells_30 ?_
      obtain ⟨g17, h⟩ := grd_some h
      refine v_iald hC ly_209 (inb_in g17) dX11_tells_31 ?_
      obtain ⟨g18, h⟩ := grd_some h
      obtain ⟨M19, e_M19, h⟩ := lt_some h
      refine w_iast hC ly_209 (inb_in g18) dX11_tells_32 e_M19 ?_
      refine w_iinc hC (v4 + (-1 : Int32)) dX11_tells_33 rfl rfl [some (.ref 208), some (.int v1), some (.int v2), some (.int v3), some (.int (v4 + (-1 : Int32)))] rfl ?_
      refine v_goto (tg := 5) hC dX11_tells_36 rfl ?_
      exact ih _ _ _ _ _ _ _ h
set_option maxRecDepth 20000 in
set_option maxHeartbeats 4000000 in
theorem ok_X11_tells {l : Launch} {N : Nat} {v1 v2 v3 : Int32} {M : Mm} {r : Int32} {M' : Mm} (h : f_X11_tells N v1 v2 v3 M = some (r, M')) : am_M l yX11_tells cX11_tells 5 none 1 0 0 LY M [.ref 208, .int v1, .int v2, .int v3] (.inl none) M' := by
  unfold f_X11_tells at h
  refine am_intro (by decide) (by simp [Value.category]) (Nat.le_of_ble_eq_true rfl) (fun X hC hnt => ?_)
  refine am_start (L := [some (.ref 208), some (.int v1), some (.int v2), some (.int v3), none]) rfl ?_
  refine v_sipush (v := (299 : Int32)) hC dX11_tells_0 rfl ?_
  refine w_istore hC dX11_tells_3 (ltk rfl) [some (.ref 208), some (.int v1), some (.int v2), some (.int v3), some (.int (299 : Int32))] rfl ?_
  exact ok_X11_tells_5 hC hnt N _ _ _ _ _ _ _ h
def f_X11_eats_46 (N : Nat) (v1 : Int32) (v2 : Int32) (v3 : Int32) (M : Mm) : Option (Int32 × Mm) :=
  (if v3 = (0 : Int32) then some ((0 : Int32), M) else bnd (f_X11_ofCellar N v1 (1 : Int32) M) (fun r10 M11 => bnd (f_X11_dinerAt N v2 ((3 : Int32) + r10) M11) (fun r13 M14 => bnd (f_X11_cellarAt N v1 (2 : Int32) M14) (fun r16 M17 => grd (inb r16 2107) (grd (inb r16 2107) (lt (wr M17 209 (r16).toNatClampNeg ((M17 209 (r16).toNatClampNeg) - v3)) (fun M21 => grd (inb r13 2107) (grd (inb r13 2107) (lt (wr M21 209 (r13).toNatClampNeg (if ((M21 209 (r13).toNatClampNeg) + v3) < (999 : Int32) then ((M21 209 (r13).toNatClampNeg) + v3) else (999 : Int32))) (fun M24 => bnd (f_X11_tells N v2 v1 v3 M24) (fun r25 M26 => some (v3, M26))))))))))))
def f_X11_eats_21 (N : Nat) (v1 : Int32) (v2 : Int32) (s0 : Int32) (M : Mm) : Option (Int32 × Mm) :=
  (if v2 = (-1 : Int32) then f_X11_eats_46 N v1 v2 s0 M else bnd (f_X11_holds N (M 208 18) v2 M) (fun r28 M29 => (if r28 = (0 : Int32) then f_X11_eats_46 N v1 v2 s0 M29 else lt (if (0 : Int32) < (s0 - (1 : Int32)) then (s0 - (1 : Int32)) else (0 : Int32)) (fun x32 => f_X11_eats_46 N v1 v2 x32 M29))))
def f_X11_eats (N : Nat) (v1 : Int32) (M : Mm) : Option (Int32 × Mm) :=
  bnd (f_X11_eaterOf N v1 M) (fun r1 M2 => (if r1 = (-1 : Int32) then f_X11_eats_21 N v1 r1 (0 : Int32) M2 else bnd (f_X11_pinchOf N v1 r1 M2) (fun r5 M6 => f_X11_eats_21 N v1 r1 r5 M6)))
set_option maxRecDepth 20000 in
set_option maxHeartbeats 4000000 in
theorem ok_X11_eats_46 {N : Nat} {X : am_X} {l : Launch} (hC : am_C X l (am_rm 8 0 0) cX11_eats yX11_eats.cls (some .int)) (hnt : am_NT X) {v1 v2 v3 : Int32} {M : Mm} {r : Int32} {M' : Mm} (h : f_X11_eats_46 N v1 v2 v3 M = some (r, M')) : am_V X LY M 0 0 (am_Q X LY 0 0 (.inl (some (.int r))) M') 46 [some (.ref 208), some (.int v1), some (.int v2), some (.int v3), none] [] := by
  unfold f_X11_eats_46 at h
  refine v_iload_n hC dX11_eats_46 rfl ?_
  refine v_if_ne hC 52 dX11_eats_47 rfl (fun c9 => ?_) (fun c9 => ?_)
  · rw [if_neg c9] at h
    refine v_iload_n hC dX11_eats_52 rfl ?_
    refine v_iconst (v := (3 : Int32)) hC dX11_eats_53 rfl ?_
    refine v_aload_n hC dX11_eats_54 rfl ?_
    refine v_iload_n hC dX11_eats_55 rfl ?_
    refine v_iconst (v := (1 : Int32)) hC dX11_eats_56 rfl ?_
    obtain ⟨r10, M11, q12, h⟩ := bnd_some h
    refine w_callVi hC [.int v1, .int (1 : Int32)] [.int (3 : Int32), .int v2] (ok_X11_ofCellar q12) mv_X11_ofCellar aw_1510 ly_208 rfl (Nat.le_of_ble_eq_true rfl) ⟨by decide, by decide⟩ ⟨by decide, by decide⟩ dX11_eats_57 ?_
    refine v_iadd hC dX11_eats_60 ?_
    obtain ⟨r13, M14, q15, h⟩ := bnd_some h
    refine w_callSi hC [.int v2, .int ((3 : Int32) + r10)] [] (ok_X11_dinerAt q15) ms_X11_dinerAt aw_1384 rfl (Nat.le_of_ble_eq_true rfl) ⟨by decide, by decide⟩ ⟨by decide, by decide⟩ dX11_eats_61 ?_
    refine w_istore hC dX11_eats_64 (ltk rfl) [some (.ref 208), some (.int v1), some (.int v2), some (.int v3), some (.int r13)] rfl ?_
    refine v_aload_n hC dX11_eats_66 rfl ?_
    refine v_geta (k := 1) (b := 209) hC cls_X11 ly_208 (by decide) rfl aw_1232 rfl dX11_eats_67 ?_
    refine v_iload_n hC dX11_eats_70 rfl ?_
    refine v_iconst (v := (2 : Int32)) hC dX11_eats_71 rfl ?_
    obtain ⟨r16, M17, q18, h⟩ := bnd_some h
    refine w_callSi hC [.int v1, .int (2 : Int32)] [.ref 209] (ok_X11_cellarAt q18) ms_X11_cellarAt aw_1410 rfl (Nat.le_of_ble_eq_true rfl) ⟨by decide, by decide⟩ ⟨by decide, by decide⟩ dX11_eats_72 ?_
    refine v_dup2 hC dX11_eats_75 rfl rfl ?_
    obtain ⟨g19, h⟩ := grd_some h
    refine v_iald hC ly_209 (inb_in g19) dX11_eats_76 ?_
    refine v_iload_n hC dX11_eats_77 rfl ?_
    refine v_isub hC dX11_eats_78 ?_
    obtain ⟨g20, h⟩ := grd_some h
    obtain ⟨M21, e_M21, h⟩ := lt_some h
    refine w_iast hC ly_209 (inb_in g20) dX11_eats_79 e_M21 ?_
    refine v_aload_n hC dX11_eats_80 rfl ?_
    refine v_geta (k := 1) (b := 209) hC cls_X11 ly_208 (by decide) rfl aw_1232 rfl dX11_eats_81 ?_
    refine v_iload hC dX11_eats_84 rfl ?_
    refine v_sipush (v := (999 : Int32)) hC dX11_eats_86 rfl ?_
    refine v_aload_n hC dX11_eats_89 rfl ?_
    refine v_geta (k := 1) (b := 209) hC cls_X11 ly_208 (by decide) rfl aw_1232 rfl dX11_eats_90 ?_
    refine v_iload hC dX11_eats_93 rfl ?_
    obtain ⟨g22, h⟩ := grd_some h
    refine v_iald hC ly_209 (inb_in g22) dX11_eats_95 ?_
    refine v_iload_n hC dX11_eats_96 rfl ?_
    refine v_iadd hC dX11_eats_97 ?_
    refine v_mmin hC aw_1550 wm_min (Nat.le_of_ble_eq_true rfl) (Nat.le_of_ble_eq_true rfl) (Nat.le_of_ble_eq_true rfl) (Nat.le_of_ble_eq_true rfl) dX11_eats_98 ?_
    obtain ⟨g23, h⟩ := grd_some h
    obtain ⟨M24, e_M24, h⟩ := lt_some h
    refine w_iast hC ly_209 (inb_in g23) dX11_eats_101 e_M24 ?_
    refine v_aload_n hC dX11_eats_102 rfl ?_
    refine v_iload_n hC dX11_eats_103 rfl ?_
    refine v_iload_n hC dX11_eats_104 rfl ?_
    refine v_iload_n hC dX11_eats_105 rfl ?_
    obtain ⟨r25, M26, q27, h⟩ := bnd_some h
    refine w_callVv hC [.int v2, .int v1, .int v3] [] (ok_X11_tells q27) mv_X11_tells aw_1610 ly_208 rfl (Nat.le_of_ble_eq_true rfl) ⟨by decide, by decide⟩ ⟨by decide, by decide⟩ dX11_eats_106 ?_
    refine v_iload_n hC dX11_eats_109 rfl ?_
    cases h
    exact v_iret hC (by decide) (by decide) dX11_eats_110
  · rw [if_pos c9] at h
    refine v_iconst (v := (0 : Int32)) hC dX11_eats_50 rfl ?_
    cases h
    exact v_iret hC (by decide) (by decide) dX11_eats_51
set_option maxRecDepth 20000 in
set_option maxHeartbeats 4000000 in
theorem ok_X11_eats_21 {N : Nat} {X : am_X} {l : Launch} (hC : am_C X l (am_rm 8 0 0) cX11_eats yX11_eats.cls (some .int)) (hnt : am_NT X) {v1 v2 s0 : Int32} {M : Mm} {r : Int32} {M' : Mm} (h : f_X11_eats_21 N v1 v2 s0 M = some (r, M')) : am_V X LY M 0 0 (am_Q X LY 0 0 (.inl (some (.int r))) M') 21 [some (.ref 208), some (.int v1), some (.int v2), none, none] [.int s0] := by
  unfold f_X11_eats_21 at h
  refine w_istore_n hC dX11_eats_21 (ltk rfl) [some (.ref 208), some (.int v1), some (.int v2), some (.int s0), none] rfl ?_
  refine v_iload_n hC dX11_eats_22 rfl ?_
  refine v_iconst (v := (-1 : Int32)) hC dX11_eats_23 rfl ?_
  refine v_icmp_eq hC 46 dX11_eats_24 rfl (fun c8 => ?_) (fun c8 => ?_)
  · rw [if_pos c8] at h
    exact ok_X11_eats_46 hC hnt h
  · rw [if_neg c8] at h
    refine v_aload_n hC dX11_eats_27 rfl ?_
    refine v_geti (k := 18) hC cls_X11 ly_208 (by decide) rfl aw_1249 rfl dX11_eats_28 ?_
    refine v_iload_n hC dX11_eats_31 rfl ?_
    obtain ⟨r28, M29, q30, h⟩ := bnd_some h
    refine w_callSi hC [.int (M 208 18), .int v2] [] (ok_X11_holds q30) ms_X11_holds aw_1522 rfl (Nat.le_of_ble_eq_true rfl) ⟨by decide, by decide⟩ ⟨by decide, by decide⟩ dX11_eats_32 ?_
    refine v_if_eq hC 46 dX11_eats_35 rfl (fun c31 => ?_) (fun c31 => ?_)
    · rw [if_pos c31] at h
      exact ok_X11_eats_46 hC hnt h
    · rw [if_neg c31] at h
      refine v_iconst (v := (0 : Int32)) hC dX11_eats_38 rfl ?_
      refine v_iload_n hC dX11_eats_39 rfl ?_
      refine v_iconst (v := (1 : Int32)) hC dX11_eats_40 rfl ?_
      refine v_isub hC dX11_eats_41 ?_
      refine v_mmax hC aw_1537 wm_max (Nat.le_of_ble_eq_true rfl) (Nat.le_of_ble_eq_true rfl) (Nat.le_of_ble_eq_true rfl) (Nat.le_of_ble_eq_true rfl) dX11_eats_42 ?_
      obtain ⟨x32, e_x32, h⟩ := lt_some h
      refine v_nam e_x32 ?_
      refine w_istore_n hC dX11_eats_45 (ltk rfl) [some (.ref 208), some (.int v1), some (.int v2), some (.int x32), none] rfl ?_
      exact ok_X11_eats_46 hC hnt h
set_option maxRecDepth 20000 in
set_option maxHeartbeats 4000000 in
theorem ok_X11_eats {l : Launch} {N : Nat} {v1 : Int32} {M : Mm} {r : Int32} {M' : Mm} (h : f_X11_eats N v1 M = some (r, M')) : am_M l yX11_eats cX11_eats 5 (some .int) 8 0 0 LY M [.ref 208, .int v1] (.inl (some (.int r))) M' := by
  unfold f_X11_eats at h
  refine am_intro (by decide) (by simp [Value.category]) (Nat.le_of_ble_eq_true rfl) (fun X hC hnt => ?_)
  refine am_start (L := [some (.ref 208), some (.int v1), none, none, none]) rfl ?_
  refine v_aload_n hC dX11_eats_0 rfl ?_
  refine v_iload_n hC dX11_eats_1 rfl ?_
  obtain ⟨r1, M2, q3, h⟩ := bnd_some h
  refine w_callVi hC [.int v1] [] (ok_X11_eaterOf q3) mv_X11_eaterOf aw_1506 ly_208 rfl (Nat.le_of_ble_eq_true rfl) ⟨by decide, by decide⟩ ⟨by decide, by decide⟩ dX11_eats_2 ?_
  refine w_istore_n hC dX11_eats_5 (ltk rfl) [some (.ref 208), some (.int v1), some (.int r1), none, none] rfl ?_
  refine v_iload_n hC dX11_eats_6 rfl ?_
  refine v_iconst (v := (-1 : Int32)) hC dX11_eats_7 rfl ?_
  refine v_icmp_ne hC 15 dX11_eats_8 rfl (fun c4 => ?_) (fun c4 => ?_)
  · rw [if_neg c4] at h
    refine v_aload_n hC dX11_eats_15 rfl ?_
    refine v_iload_n hC dX11_eats_16 rfl ?_
    refine v_iload_n hC dX11_eats_17 rfl ?_
    obtain ⟨r5, M6, q7, h⟩ := bnd_some h
    refine w_callVi hC [.int v1, .int r1] [] (ok_X11_pinchOf q7) mv_X11_pinchOf aw_1514 ly_208 rfl (Nat.le_of_ble_eq_true rfl) ⟨by decide, by decide⟩ ⟨by decide, by decide⟩ dX11_eats_18 ?_
    exact ok_X11_eats_21 hC hnt h
  · rw [if_pos c4] at h
    refine v_iconst (v := (0 : Int32)) hC dX11_eats_11 rfl ?_
    refine v_goto (tg := 21) hC dX11_eats_12 rfl ?_
    exact ok_X11_eats_21 hC hnt h
def f_X11_spills (N : Nat) (v1 : Int32) (M : Mm) : Option (Int32 × Mm) :=
  bnd (f_X11_isFree N v1 M) (fun r1 M2 => (if r1 = (0 : Int32) then bnd (f_X11_drawn N (100 : Int32) M2) (fun r5 M6 => grd (inb (7 : Int32) 2107) ((if r5 < (M6 209 ((7 : Int32)).toNatClampNeg) then bnd (f_X11_cellarAt N v1 (2 : Int32) M6) (fun r10 M11 => grd (inb r10 2107) (grd (inb r10 2107) (lt (wr M11 209 (r10).toNatClampNeg ((M11 209 (r10).toNatClampNeg) - (1 : Int32))) (fun M15 => grd (inb (9 : Int32) 2107) (grd (inb (9 : Int32) 2107) (lt (wr M15 209 ((9 : Int32)).toNatClampNeg (if ((M15 209 ((9 : Int32)).toNatClampNeg) + (1 : Int32)) < (9999 : Int32) then ((M15 209 ((9 : Int32)).toNatClampNeg) + (1 : Int32)) else (9999 : Int32))) (fun M18 => some (0, M18)))))))) else some (0, M6)))) else some (0, M2)))
set_option maxRecDepth 20000 in
set_option maxHeartbeats 4000000 in
theorem ok_X11_spills {l : Launch} {N : Nat} {v1 : Int32} {M : Mm} {r : Int32} {M' : Mm} (h : f_X11_spills N v1 M = some (r, M')) : am_M l yX11_spills cX11_spills 2 none 4 0 0 LY M [.ref 208, .int v1] (.inl none) M' := by
  unfold f_X11_spills at h
  refine am_intro (by decide) (by simp [Value.category]) (Nat.le_of_ble_eq_true rfl) (fun X hC hnt => ?_)
  refine am_start (L := [some (.ref 208), some (.int v1)]) rfl ?_
  refine v_aload_n hC dX11_spills_0 rfl ?_
  refine v_iload_n hC dX11_spills_1 rfl ?_
  obtain ⟨r1, M2, q3, h⟩ := bnd_some h
  refine w_callVi hC [.int v1] [] (ok_X11_isFree q3) mv_X11_isFree aw_1525 ly_208 rfl (Nat.le_of_ble_eq_true rfl) ⟨by decide, by decide⟩ ⟨by decide, by decide⟩ dX11_spills_2 ?_
  refine v_if_ne hC 24 dX11_spills_5 rfl (fun c4 => ?_) (fun c4 => ?_)
  · rw [if_neg c4] at h
    cases h
    exact v_vret hC (by decide) (by decide) dX11_spills_24
  · rw [if_pos c4] at h
    refine v_aload_n hC dX11_spills_8 rfl ?_
    refine v_bipush (v := (100 : Int32)) hC dX11_spills_9 rfl ?_
    obtain ⟨r5, M6, q7, h⟩ := bnd_some h
    refine w_callVi hC [.int (100 : Int32)] [] (ok_X11_drawn q7) mv_X11_drawn aw_1618 ly_208 rfl (Nat.le_of_ble_eq_true rfl) ⟨by decide, by decide⟩ ⟨by decide, by decide⟩ dX11_spills_11 ?_
    refine v_aload_n hC dX11_spills_14 rfl ?_
    refine v_geta (k := 1) (b := 209) hC cls_X11 ly_208 (by decide) rfl aw_1232 rfl dX11_spills_15 ?_
    refine v_bipush (v := (7 : Int32)) hC dX11_spills_18 rfl ?_
    obtain ⟨g8, h⟩ := grd_some h
    refine v_iald hC ly_209 (inb_in g8) dX11_spills_20 ?_
    refine v_icmp_lt hC 25 dX11_spills_21 rfl (fun c9 => ?_) (fun c9 => ?_)
    · rw [if_pos c9] at h
      refine v_aload_n hC dX11_spills_25 rfl ?_
      refine v_geta (k := 1) (b := 209) hC cls_X11 ly_208 (by decide) rfl aw_1232 rfl dX11_spills_26 ?_
      refine v_iload_n hC dX11_spills_29 rfl ?_
      refine v_iconst (v := (2 : Int32)) hC dX11_spills_30 rfl ?_
      obtain ⟨r10, M11, q12, h⟩ := bnd_some h
      refine w_callSi hC [.int v1, .int (2 : Int32)] [.ref 209] (ok_X11_cellarAt q12) ms_X11_cellarAt aw_1410 rfl (Nat.le_of_ble_eq_true rfl) ⟨by decide, by decide⟩ ⟨by decide, by decide⟩ dX11_spills_31 ?_
      refine v_dup2 hC dX11_spills_34 rfl rfl ?_
      obtain ⟨g13, h⟩ := grd_some h
      refine v_iald hC ly_209 (inb_in g13) dX11_spills_35 ?_
      refine v_iconst (v := (1 : Int32)) hC dX11_spills_36 rfl ?_
      refine v_isub hC dX11_spills_37 ?_
      obtain ⟨g14, h⟩ := grd_some h
      obtain ⟨M15, e_M15, h⟩ := lt_some h
      refine w_iast hC ly_209 (inb_in g14) dX11_spills_38 e_M15 ?_
      refine v_aload_n hC dX11_spills_39 rfl ?_
      refine v_geta (k := 1) (b := 209) hC cls_X11 ly_208 (by decide) rfl aw_1232 rfl dX11_spills_40 ?_
      refine v_bipush (v := (9 : Int32)) hC dX11_spills_43 rfl ?_
      refine v_sipush (v := (9999 : Int32)) hC dX11_spills_45 rfl ?_
      refine v_aload_n hC dX11_spills_48 rfl ?_
      refine v_geta (k := 1) (b := 209) hC cls_X11 ly_208 (by decide) rfl aw_1232 rfl dX11_spills_49 ?_
      refine v_bipush (v := (9 : Int32)) hC dX11_spills_52 rfl ?_
      obtain ⟨g16, h⟩ := grd_some h
      refine v_iald hC ly_209 (inb_in g16) dX11_spills_54 ?_
      refine v_iconst (v := (1 : Int32)) hC dX11_spills_55 rfl ?_
      refine v_iadd hC dX11_spills_56 ?_
      refine v_mmin hC aw_1550 wm_min (Nat.le_of_ble_eq_true rfl) (Nat.le_of_ble_eq_true rfl) (Nat.le_of_ble_eq_true rfl) (Nat.le_of_ble_eq_true rfl) dX11_spills_57 ?_
      obtain ⟨g17, h⟩ := grd_some h
      obtain ⟨M18, e_M18, h⟩ := lt_some h
      refine w_iast hC ly_209 (inb_in g17) dX11_spills_60 e_M18 ?_
      cases h
      exact v_vret hC (by decide) (by decide) dX11_spills_61
    · rw [if_neg c9] at h
      cases h
      exact v_vret hC (by decide) (by decide) dX11_spills_24
def f_X11_dampens_47 (N : Nat) (s1 : Int32) (s2 : Int32) (s3 : Int32) (s4 : Int32) (M : Mm) : Option (Int32 × Mm) :=
  grd (inb s1 2107) (lt (wr M 209 (s1).toNatClampNeg (if (s3 + s4) < s2 then (s3 + s4) else s2)) (fun M19 => some (0, M19)))
def f_X11_dampens (N : Nat) (v1 : Int32) (M : Mm) : Option (Int32 × Mm) :=
  bnd (f_X11_isFree N v1 M) (fun r1 M2 => (if r1 = (0 : Int32) then bnd (f_X11_eaterOf N v1 M2) (fun r5 M6 => bnd (f_X11_cellarAt N v1 (3 : Int32) M6) (fun r8 M9 => bnd (f_X11_ofCellar N v1 (3 : Int32) M9) (fun r11 M12 => (if r5 = (-1 : Int32) then f_X11_dampens_47 N r8 (9 : Int32) r11 (1 : Int32) M12 else bnd (f_X11_setsBy N v1 r5 M12) (fun r15 M16 => f_X11_dampens_47 N r8 (9 : Int32) r11 r15 M16))))) else some (0, M2)))
set_option maxRecDepth 20000 in
set_option maxHeartbeats 4000000 in
theorem ok_X11_dampens_47 {N : Nat} {X : am_X} {l : Launch} (hC : am_C X l (am_rm 7 0 0) cX11_dampens yX11_dampens.cls none) (hnt : am_NT X) {s1 s2 s3 s4 : Int32} {M : Mm} {r : Int32} {M' : Mm} (h : f_X11_dampens_47 N s1 s2 s3 s4 M = some (r, M')) : am_V X LY M 0 0 (am_Q X LY 0 0 (.inl none) M') 47 [none, none, none] [.int s4, .int s3, .int s2, .int s1, .ref 209] := by
  unfold f_X11_dampens_47 at h
  refine v_iadd hC dX11_dampens_47 ?_
  refine v_mmin hC aw_1550 wm_min (Nat.le_of_ble_eq_true rfl) (Nat.le_of_ble_eq_true rfl) (Nat.le_of_ble_eq_true rfl) (Nat.le_of_ble_eq_true rfl) dX11_dampens_48 ?_
  obtain ⟨g18, h⟩ := grd_some h
  obtain ⟨M19, e_M19, h⟩ := lt_some h
  refine w_iast hC ly_209 (inb_in g18) dX11_dampens_51 e_M19 ?_
  cases h
  exact v_vret hC (by decide) (by decide) dX11_dampens_52
set_option maxRecDepth 20000 in
set_option maxHeartbeats 4000000 in
theorem ok_X11_dampens {l : Launch} {N : Nat} {v1 : Int32} {M : Mm} {r : Int32} {M' : Mm} (h : f_X11_dampens N v1 M = some (r, M')) : am_M l yX11_dampens cX11_dampens 3 none 7 0 0 LY M [.ref 208, .int v1] (.inl none) M' := by
  unfold f_X11_dampens at h
  refine am_intro (by decide) (by simp [Value.category]) (Nat.le_of_ble_eq_true rfl) (fun X hC hnt => ?_)
  refine am_start (L := [some (.ref 208), some (.int v1), none]) rfl ?_
  refine v_aload_n hC dX11_dampens_0 rfl ?_
  refine v_iload_n hC dX11_dampens_1 rfl ?_
  obtain ⟨r1, M2, q3, h⟩ := bnd_some h
  refine w_callVi hC [.int v1] [] (ok_X11_isFree q3) mv_X11_isFree aw_1525 ly_208 rfl (Nat.le_of_ble_eq_true rfl) ⟨by decide, by decide⟩ ⟨by decide, by decide⟩ dX11_dampens_2 ?_
  refine v_if_eq hC 9 dX11_dampens_5 rfl (fun c4 => ?_) (fun c4 => ?_)
  · rw [if_pos c4] at h
    refine v_aload_n hC dX11_dampens_9 rfl ?_
    refine v_iload_n hC dX11_dampens_10 rfl ?_
    obtain ⟨r5, M6, q7, h⟩ := bnd_some h
    refine w_callVi hC [.int v1] [] (ok_X11_eaterOf q7) mv_X11_eaterOf aw_1506 ly_208 rfl (Nat.le_of_ble_eq_true rfl) ⟨by decide, by decide⟩ ⟨by decide, by decide⟩ dX11_dampens_11 ?_
    refine w_istore_n hC dX11_dampens_14 (ltk rfl) [some (.ref 208), some (.int v1), some (.int r5)] rfl ?_
    refine v_aload_n hC dX11_dampens_15 rfl ?_
    refine v_geta (k := 1) (b := 209) hC cls_X11 ly_208 (by decide) rfl aw_1232 rfl dX11_dampens_16 ?_
    refine v_iload_n hC dX11_dampens_19 rfl ?_
    refine v_iconst (v := (3 : Int32)) hC dX11_dampens_20 rfl ?_
    obtain ⟨r8, M9, q10, h⟩ := bnd_some h
    refine w_callSi hC [.int v1, .int (3 : Int32)] [.ref 209] (ok_X11_cellarAt q10) ms_X11_cellarAt aw_1410 rfl (Nat.le_of_ble_eq_true rfl) ⟨by decide, by decide⟩ ⟨by decide, by decide⟩ dX11_dampens_21 ?_
    refine v_bipush (v := (9 : Int32)) hC dX11_dampens_24 rfl ?_
    refine v_aload_n hC dX11_dampens_26 rfl ?_
    refine v_iload_n hC dX11_dampens_27 rfl ?_
    refine v_iconst (v := (3 : Int32)) hC dX11_dampens_28 rfl ?_
    obtain ⟨r11, M12, q13, h⟩ := bnd_some h
    refine w_callVi hC [.int v1, .int (3 : Int32)] [.int (9 : Int32), .int r8, .ref 209] (ok_X11_ofCellar q13) mv_X11_ofCellar aw_1510 ly_208 rfl (Nat.le_of_ble_eq_true rfl) ⟨by decide, by decide⟩ ⟨by decide, by decide⟩ dX11_dampens_29 ?_
    refine v_iload_n hC dX11_dampens_32 rfl ?_
    refine v_iconst (v := (-1 : Int32)) hC dX11_dampens_33 rfl ?_
    refine v_icmp_ne hC 41 dX11_dampens_34 rfl (fun c14 => ?_) (fun c14 => ?_)
    · rw [if_neg c14] at h
      refine v_aload_n hC dX11_dampens_41 rfl ?_
      refine v_iload_n hC dX11_dampens_42 rfl ?_
      refine v_iload_n hC dX11_dampens_43 rfl ?_
      obtain ⟨r15, M16, q17, h⟩ := bnd_some h
      refine w_callVi hC [.int v1, .int r5] [.int r11, .int (9 : Int32), .int r8, .ref 209] (ok_X11_setsBy q17) mv_X11_setsBy aw_1551 ly_208 rfl (Nat.le_of_ble_eq_true rfl) ⟨by decide, by decide⟩ ⟨by decide, by decide⟩ dX11_dampens_44 ?_
      refine v_drop [false, false, false] [none, none, none] rfl ?_
      exact ok_X11_dampens_47 hC hnt h
    · rw [if_pos c14] at h
      refine v_iconst (v := (1 : Int32)) hC dX11_dampens_37 rfl ?_
      refine v_goto (tg := 47) hC dX11_dampens_38 rfl ?_
      refine v_drop [false, false, false] [none, none, none] rfl ?_
      exact ok_X11_dampens_47 hC hnt h
  · rw [if_neg c4] at h
    cases h
    exact v_vret hC (by decide) (by decide) dX11_dampens_8
def f_X11_passesOn_2 (N : Nat) : Nat → Int32 → Mm → Option (Int32 × Mm)
  | 0, _, _ => none
  | n + 1, v1, M => bnd (f_X11_cellars N M) (fun r1 M2 => (if r1 ≤ v1 then grd (inb (4 : Int32) 2107) (grd (inb (4 : Int32) 2107) (lt (wr M2 209 ((4 : Int32)).toNatClampNeg (((M2 209 ((4 : Int32)).toNatClampNeg) + (1 : Int32)) - ((M2 209 ((4 : Int32)).toNatClampNeg) + (1 : Int32)) / (12 : Int32) * (12 : Int32))) (fun M7 => grd (inb (4 : Int32) 2107) ((if (M7 209 ((4 : Int32)).toNatClampNeg) = (0 : Int32) then grd (inb (5 : Int32) 2107) (grd (inb (5 : Int32) 2107) (lt (wr M7 209 ((5 : Int32)).toNatClampNeg (if ((M7 209 ((5 : Int32)).toNatClampNeg) + (1 : Int32)) < (9999 : Int32) then ((M7 209 ((5 : Int32)).toNatClampNeg) + (1 : Int32)) else (9999 : Int32))) (fun M12 => some (0, M12)))) else some (0, M7)))))) else bnd (f_X11_cellarAt N v1 (0 : Int32) M2) (fun r13 M14 => bnd (f_X11_ofCellar N v1 (0 : Int32) M14) (fun r16 M17 => bnd (f_X11_ofCellar N v1 (4 : Int32) M17) (fun r19 M20 => grd (inb r13 2107) (lt (wr M20 209 (r13).toNatClampNeg ((r16 + r19) - (r16 + r19) / (10 : Int32) * (10 : Int32))) (fun M23 => f_X11_passesOn_2 N n (v1 + (1 : Int32)) M23)))))))
def f_X11_passesOn (N : Nat) (M : Mm) : Option (Int32 × Mm) :=
  f_X11_passesOn_2 N N (0 : Int32) M
set_option maxRecDepth 20000 in
set_option maxHeartbeats 4000000 in
theorem ok_X11_passesOn_2 {N : Nat} {X : am_X} {l : Launch} (hC : am_C X l (am_rm 3 0 0) cX11_passesOn yX11_passesOn.cls none) (hnt : am_NT X) : ∀ (n : Nat) (v1 : Int32) (M : Mm) (r : Int32) (M' : Mm), f_X11_passesOn_2 N n v1 M = some (r, M') → am_V X LY M 0 0 (am_Q X LY 0 0 (.inl none) M') 2 [some (.ref 208), some (.int v1)] [] := by
  intro n
  induction n with
  | zero => intro v1 M r M' h; cases h
  | succ n ih =>
    intro v1 M r M' h
    simp only [f_X11_passesOn_2] at h
    refine v_iload_n hC dX11_passesOn_2 rfl ?_
    refine v_aload_n hC dX11_passesOn_3 rfl ?_
    obtain ⟨r1, M2, q3, h⟩ := bnd_some h
    refine w_callVi hC [] [.int v1] (ok_X11_cellars q3) mv_X11_cellars aw_1397 ly_208 rfl (Nat.le_of_ble_eq_true rfl) ⟨by decide, by decide⟩ ⟨by decide, by decide⟩ dX11_passesOn_4 ?_
    refine v_icmp_ge hC 42 dX11_passesOn_7 rfl (fun c4 => ?_) (fun c4 => ?_)
    · rw [if_pos c4] at h
      refine v_aload_n hC dX11_passesOn_42 rfl ?_
      refine v_geta (k := 1) (b := 209) hC cls_X11 ly_208 (by decide) rfl aw_1232 rfl dX11_passesOn_43 ?_
      refine v_iconst (v := (4 : Int32)) hC dX11_passesOn_46 rfl ?_
      refine v_aload_n hC dX11_passesOn_47 rfl ?_
      refine v_geta (k := 1) (b := 209) hC cls_X11 ly_208 (by decide) rfl aw_1232 rfl dX11_passesOn_48 ?_
      refine v_iconst (v := (4 : Int32)) hC dX11_passesOn_51 rfl ?_
      obtain ⟨g5, h⟩ := grd_some h
      refine v_iald hC ly_209 (inb_in g5) dX11_passesOn_52 ?_
      refine v_iconst (v := (1 : Int32)) hC dX11_passesOn_53 rfl ?_
      refine v_iadd hC dX11_passesOn_54 ?_
      refine v_bipush (v := (12 : Int32)) hC dX11_passesOn_55 rfl ?_
      refine v_irem hC dX11_passesOn_57 (by decide) ?_
      obtain ⟨g6, h⟩ := grd_some h
      obtain ⟨M7, e_M7, h⟩ := lt_some h
      refine w_iast hC ly_209 (inb_in g6) dX11_passesOn_58 e_M7 ?_
      refine v_aload_n hC dX11_passesOn_59 rfl ?_
      refine v_geta (k := 1) (b := 209) hC cls_X11 ly_208 (by decide) rfl aw_1232 rfl dX11_passesOn_60 ?_
      refine v_iconst (v := (4 : Int32)) hC dX11_passesOn_63 rfl ?_
      obtain ⟨g8, h⟩ := grd_some h
      refine v_iald hC ly_209 (inb_in g8) dX11_passesOn_64 ?_
      refine v_if_ne hC 88 dX11_passesOn_65 rfl (fun c9 => ?_) (fun c9 => ?_)
      · rw [if_neg c9] at h
        cases h
        exact v_vret hC (by decide) (by decide) dX11_passesOn_88
      · rw [if_pos c9] at h
        refine v_aload_n hC dX11_passesOn_68 rfl ?_
        refine v_geta (k := 1) (b := 209) hC cls_X11 ly_208 (by decide) rfl aw_1232 rfl dX11_passesOn_69 ?_
        refine v_iconst (v := (5 : Int32)) hC dX11_passesOn_72 rfl ?_
        refine v_sipush (v := (9999 : Int32)) hC dX11_passesOn_73 rfl ?_
        refine v_aload_n hC dX11_passesOn_76 rfl ?_
        refine v_geta (k := 1) (b := 209) hC cls_X11 ly_208 (by decide) rfl aw_1232 rfl dX11_passesOn_77 ?_
        refine v_iconst (v := (5 : Int32)) hC dX11_passesOn_80 rfl ?_
        obtain ⟨g10, h⟩ := grd_some h
        refine v_iald hC ly_209 (inb_in g10) dX11_passesOn_81 ?_
        refine v_iconst (v := (1 : Int32)) hC dX11_passesOn_82 rfl ?_
        refine v_iadd hC dX11_passesOn_83 ?_
        refine v_mmin hC aw_1550 wm_min (Nat.le_of_ble_eq_true rfl) (Nat.le_of_ble_eq_true rfl) (Nat.le_of_ble_eq_true rfl) (Nat.le_of_ble_eq_true rfl) dX11_passesOn_84 ?_
        obtain ⟨g11, h⟩ := grd_some h
        obtain ⟨M12, e_M12, h⟩ := lt_some h
        refine w_iast hC ly_209 (inb_in g11) dX11_passesOn_87 e_M12 ?_
        cases h
        exact v_vret hC (by decide) (by decide) dX11_passesOn_88
    · rw [if_neg c4] at h
      refine v_aload_n hC dX11_passesOn_10 rfl ?_
      refine v_geta (k := 1) (b := 209) hC cls_X11 ly_208 (by decide) rfl aw_1232 rfl dX11_passesOn_11 ?_
      refine v_iload_n hC dX11_passesOn_14 rfl ?_
      refine v_iconst (v := (0 : Int32)) hC dX11_passesOn_15 rfl ?_
      obtain ⟨r13, M14, q15, h⟩ := bnd_some h
      refine w_callSi hC [.int v1, .int (0 : Int32)] [.ref 209] (ok_X11_cellarAt q15) ms_X11_cellarAt aw_1410 rfl (Nat.le_of_ble_eq_true rfl) ⟨by decide, by decide⟩ ⟨by decide, by decide⟩ dX11_passesOn_16 ?_
      refine v_aload_n hC dX11_passesOn_19 rfl ?_
      refine v_iload_n hC dX11_passesOn_20 rfl ?_
      refine v_iconst (v := (0 : Int32)) hC dX11_passesOn_21 rfl ?_
      obtain ⟨r16, M17, q18, h⟩ := bnd_some h
      refine w_callVi hC [.int v1, .int (0 : Int32)] [.int r13, .ref 209] (ok_X11_ofCellar q18) mv_X11_ofCellar aw_1510 ly_208 rfl (Nat.le_of_ble_eq_true rfl) ⟨by decide, by decide⟩ ⟨by decide, by decide⟩ dX11_passesOn_22 ?_
      refine v_aload_n hC dX11_passesOn_25 rfl ?_
      refine v_iload_n hC dX11_passesOn_26 rfl ?_
      refine v_iconst (v := (4 : Int32)) hC dX11_passesOn_27 rfl ?_
      obtain ⟨r19, M20, q21, h⟩ := bnd_some h
      refine w_callVi hC [.int v1, .int (4 : Int32)] [.int r16, .int r13, .ref 209] (ok_X11_ofCellar q21) mv_X11_ofCellar aw_1510 ly_208 rfl (Nat.le_of_ble_eq_true rfl) ⟨by decide, by decide⟩ ⟨by decide, by decide⟩ dX11_passesOn_28 ?_
      refine v_iadd hC dX11_passesOn_31 ?_
      refine v_bipush (v := (10 : Int32)) hC dX11_passesOn_32 rfl ?_
      refine v_irem hC dX11_passesOn_34 (by decide) ?_
      obtain ⟨g22, h⟩ := grd_some h
      obtain ⟨M23, e_M23, h⟩ := lt_some h
      refine w_iast hC ly_209 (inb_in g22) dX11_passesOn_35 e_M23 ?_
      refine w_iinc hC (v1 + (1 : Int32)) dX11_passesOn_36 rfl rfl [some (.ref 208), some (.int (v1 + (1 : Int32)))] rfl ?_
      refine v_goto (tg := 2) hC dX11_passesOn_39 rfl ?_
      exact ih _ _ _ _ h
set_option maxRecDepth 20000 in
set_option maxHeartbeats 4000000 in
theorem ok_X11_passesOn {l : Launch} {N : Nat} {M : Mm} {r : Int32} {M' : Mm} (h : f_X11_passesOn N M = some (r, M')) : am_M l yX11_passesOn cX11_passesOn 2 none 3 0 0 LY M [.ref 208] (.inl none) M' := by
  unfold f_X11_passesOn at h
  refine am_intro (by decide) (by simp [Value.category]) (Nat.le_of_ble_eq_true rfl) (fun X hC hnt => ?_)
  refine am_start (L := [some (.ref 208), none]) rfl ?_
  refine v_iconst (v := (0 : Int32)) hC dX11_passesOn_0 rfl ?_
  refine w_istore_n hC dX11_passesOn_1 (ltk rfl) [some (.ref 208), some (.int (0 : Int32))] rfl ?_
  exact ok_X11_passesOn_2 hC hnt N _ _ _ _ h
