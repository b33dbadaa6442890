def f_X10_least_33 (N : Nat) : Nat → Int32 → Int32 → Int32 → Int32 → Mm → Option ((Int32 ⊕ String) × Mm)
  | 0, _, _, _, _, _ => none
  | n + 1, v1, v2, v3, v4, M => (if v1 < v4 then some (.inl v2, M) else bnd (f_X5_goesAhead N 16 25 M) (fun r11 M12 => (if v3 ≤ r11 then f_X10_least_33 N n v1 v2 v3 (v4 + (1 : Int32)) M12 else f_X10_least_33 N n v1 v4 r11 (v4 + (1 : Int32)) M12)))
def f_X10_least (N : Nat) (v1 : Int32) (M : Mm) : Option ((Int32 ⊕ String) × Mm) :=
  bnx (f_X10_needsWithin N v1 (0 : Int32) (60 : Int32) M) (fun r1 M2 => bnd (f_X10_looksAhead N M2) (fun r4 M5 => bnd (f_X5_goesAhead N 16 25 M5) (fun r7 M8 => f_X10_least_33 N N v1 (0 : Int32) r7 (1 : Int32) M8))) (fun r1 M2 => some (.inr r1, M2))
set_option maxRecDepth 20000 in
set_option maxHeartbeats 4000000 in
theorem ok_X10_least_33 {N : Nat} {X : am_X} {l : Launch} (hl : l.stackTraces = false) (hC : am_C X l (am_rm 7 1 6) cX10_least yX10_least.cls (some .int)) (hnt : am_NT X) : ∀ (n : Nat) (v1 v2 v3 v4 : Int32) (M : Mm) (r : (Int32 ⊕ String)) (M' : Mm), f_X10_least_33 N n v1 v2 v3 v4 M = some (r, M') → am_V X LY M 1 6 (am_Q X LY 1 6 (am_oi r) M') 33 [some (.ref 0), some (.int v1), some (.int v2), some (.int v3), some (.int v4), none] [] := by
  intro n
  induction n with
  | zero => intro v1 v2 v3 v4 M r M' h; cases h
  | succ n ih =>
    intro v1 v2 v3 v4 M r M' h
    simp only [f_X10_least_33] at h
    refine v_iload hC dX10_least_33 rfl ?_
    refine v_iload_n hC dX10_least_35 rfl ?_
    refine v_icmp_gt hC 74 dX10_least_36 rfl (fun c10 => ?_) (fun c10 => ?_)
    · rw [if_pos c10] at h
      refine v_iload_n hC dX10_least_74 rfl ?_
      cases h
      exact v_iret hC (by decide) (by decide) dX10_least_75
    · rw [if_neg c10] at h
      refine v_aload_n hC dX10_least_39 rfl ?_
      refine v_geta (k := 7) (b := 39) hC cls_X10 ly_0 (by decide) rfl aw_322 rfl dX10_least_40 ?_
      refine v_aload_n hC dX10_least_43 rfl ?_
      refine v_geta (k := 3) (b := 16) hC cls_X10 ly_0 (by decide) rfl aw_318 rfl dX10_least_44 ?_
      refine v_aload_n hC dX10_least_47 rfl ?_
      refine v_geta (k := 4) (b := 25) hC cls_X10 ly_0 (by decide) rfl aw_319 rfl dX10_least_48 ?_
      obtain ⟨r11, M12, q13, h⟩ := bnd_some h
      refine w_callVi hC [.ref 16, .ref 25] [] (ok_X5_goesAhead kTable_16 kLaw_25 q13) mv_X5_goesAhead aw_417 ly_39 rfl (Nat.le_of_ble_eq_true rfl) ⟨by decide, by decide⟩ ⟨by decide, by decide⟩ dX10_least_51 ?_
      refine w_istore hC dX10_least_54 (ltk rfl) [some (.ref 0), some (.int v1), some (.int v2), some (.int v3), some (.int v4), some (.int r11)] rfl ?_
      refine v_iload hC dX10_least_56 rfl ?_
      refine v_iload_n hC dX10_least_58 rfl ?_
      refine v_icmp_ge hC 68 dX10_least_59 rfl (fun c14 => ?_) (fun c14 => ?_)
      · rw [if_pos c14] at h
        refine w_iinc hC (v4 + (1 : Int32)) dX10_least_68 rfl rfl [some (.ref 0), some (.int v1), some (.int v2), some (.int v3), some (.int (v4 + (1 : Int32))), some (.int r11)] rfl ?_
        refine v_goto (tg := 33) hC dX10_least_71 rfl ?_
        refine v_drop [true, true, true, true, true, false] [some (.ref 0), some (.int v1), some (.int v2), some (.int v3), some (.int (v4 + (1 : Int32))), none] rfl ?_
        exact ih _ _ _ _ _ _ _ h
      · rw [if_neg c14] at h
        refine v_iload hC dX10_least_62 rfl ?_
        refine w_istore_n hC dX10_least_64 (ltk rfl) [some (.ref 0), some (.int v1), some (.int v2), some (.int r11), some (.int v4), some (.int r11)] rfl ?_
        refine v_iload hC dX10_least_65 rfl ?_
        refine w_istore_n hC dX10_least_67 (ltk rfl) [some (.ref 0), some (.int v1), some (.int v4), some (.int r11), some (.int v4), some (.int r11)] rfl ?_
        refine w_iinc hC (v4 + (1 : Int32)) dX10_least_68 rfl rfl [some (.ref 0), some (.int v1), some (.int v4), some (.int r11), some (.int (v4 + (1 : Int32))), some (.int r11)] rfl ?_
        refine v_goto (tg := 33) hC dX10_least_71 rfl ?_
        refine v_drop [true, true, true, true, true, false] [some (.ref 0), some (.int v1), some (.int v4), some (.int r11), some (.int (v4 + (1 : Int32))), none] rfl ?_
        exact ih _ _ _ _ _ _ _ h
set_option maxRecDepth 20000 in
set_option maxHeartbeats 4000000 in
theorem ok_X10_least {l : Launch} {N : Nat} {v1 : Int32} (hl : l.stackTraces = false) {M : Mm} {r : (Int32 ⊕ String)} {M' : Mm} (h : f_X10_least N v1 M = some (r, M')) : am_M l yX10_least cX10_least 6 (some .int) 7 1 6 LY M [.ref 0, .int v1] (am_oi r) M' := by
  unfold f_X10_least at h
  refine am_intro (by decide) (by simp [Value.category]) (Nat.le_of_ble_eq_true rfl) (fun X hC hnt => ?_)
  refine am_start (L := [some (.ref 0), some (.int v1), none, none, none, none]) rfl ?_
  refine v_aload_n hC dX10_least_0 rfl ?_
  refine v_iload_n hC dX10_least_1 rfl ?_
  refine v_iconst (v := (0 : Int32)) hC dX10_least_2 rfl ?_
  refine v_bipush (v := (60 : Int32)) hC dX10_least_3 rfl ?_
  rcases bnx_some h with ⟨r1, M2, q3, h⟩ | ⟨r1, M2, q3, h⟩
  · refine w_callVv hC [.int v1, .int (0 : Int32), .int (60 : Int32)] [] (ok_X10_needsWithin hl q3) mv_X10_needsWithin aw_969 ly_0 rfl (Nat.le_of_ble_eq_true rfl) ⟨by decide, by decide⟩ ⟨by decide, by decide⟩ dX10_least_5 ?_
    refine v_aload_n hC dX10_least_8 rfl ?_
    obtain ⟨r4, M5, q6, h⟩ := bnd_some h
    refine w_callVv hC [] [] (ok_X10_looksAhead q6) mv_X10_looksAhead aw_393 ly_0 rfl (Nat.le_of_ble_eq_true rfl) ⟨by decide, by decide⟩ ⟨by decide, by decide⟩ dX10_least_9 ?_
    refine v_iconst (v := (0 : Int32)) hC dX10_least_12 rfl ?_
    refine w_istore_n hC dX10_least_13 (ltk rfl) [some (.ref 0), some (.int v1), some (.int (0 : Int32)), none, none, none] rfl ?_
    refine v_aload_n hC dX10_least_14 rfl ?_
    refine v_geta (k := 7) (b := 39) hC cls_X10 ly_0 (by decide) rfl aw_322 rfl dX10_least_15 ?_
    refine v_aload_n hC dX10_least_18 rfl ?_
    refine v_geta (k := 3) (b := 16) hC cls_X10 ly_0 (by decide) rfl aw_318 rfl dX10_least_19 ?_
    refine v_aload_n hC dX10_least_22 rfl ?_
    refine v_geta (k := 4) (b := 25) hC cls_X10 ly_0 (by decide) rfl aw_319 rfl dX10_least_23 ?_
    obtain ⟨r7, M8, q9, h⟩ := bnd_some h
    refine w_callVi hC [.ref 16, .ref 25] [] (ok_X5_goesAhead kTable_16 kLaw_25 q9) mv_X5_goesAhead aw_417 ly_39 rfl (Nat.le_of_ble_eq_true rfl) ⟨by decide, by decide⟩ ⟨by decide, by decide⟩ dX10_least_26 ?_
    refine w_istore_n hC dX10_least_29 (ltk rfl) [some (.ref 0), some (.int v1), some (.int (0 : Int32)), some (.int r7), none, none] rfl ?_
    refine v_iconst (v := (1 : Int32)) hC dX10_least_30 rfl ?_
    refine w_istore hC dX10_least_31 (ltk rfl) [some (.ref 0), some (.int v1), some (.int (0 : Int32)), some (.int r7), some (.int (1 : Int32)), none] rfl ?_
    exact ok_X10_least_33 hl hC hnt N _ _ _ _ _ _ _ h
  · cases h
    exact w_callVx hC hnt [.int v1, .int (0 : Int32), .int (60 : Int32)] [] (ok_X10_needsWithin hl q3) mv_X10_needsWithin aw_969 ly_0 rfl (Nat.le_of_ble_eq_true rfl) ⟨by decide, by decide⟩ ⟨by decide, by decide⟩ dX10_least_5 (by decide) (by decide)
def f_X10_tries_14 (N : Nat) : Nat → Int32 → Int32 → Mm → Option (Int32 × Mm)
  | 0, _, _, _ => none
  | n + 1, v1, v3, M => (if v1 ≤ v3 then some (0, M) else bnd (f_X5_goesBy_n N 16 25 M) (fun r6 M7 => f_X10_tries_14 N n v1 (v3 + (1 : Int32)) M7))
def f_X10_tries (N : Nat) (v1 : Int32) (v2 : Int32) (M : Mm) : Option (Int32 × Mm) :=
  bnd (f_X10_looksAhead N M) (fun r1 M2 => lt (wr M2 16 9 v2) (fun M4 => f_X10_tries_14 N N v1 (0 : Int32) M4))
set_option maxRecDepth 20000 in
set_option maxHeartbeats 4000000 in
theorem ok_X10_tries_14 {N : Nat} {X : am_X} {l : Launch} (hC : am_C X l (am_rm 7 0 0) cX10_tries yX10_tries.cls none) (hnt : am_NT X) : ∀ (n : Nat) (v1 v3 : Int32) (M : Mm) (r : Int32) (M' : Mm), f_X10_tries_14 N n v1 v3 M = some (r, M') → am_V X LY M 0 0 (am_Q X LY 0 0 (.inl none) M') 14 [some (.ref 0), some (.int v1), none, some (.int v3)] [] := by
  intro n
  induction n with
  | zero => intro v1 v3 M r M' h; cases h
  | succ n ih =>
    intro v1 v3 M r M' h
    simp only [f_X10_tries_14] at h
    refine v_iload_n hC dX10_tries_14 rfl ?_
    refine v_iload_n hC dX10_tries_15 rfl ?_
    refine v_icmp_ge hC 42 dX10_tries_16 rfl (fun c5 => ?_) (fun c5 => ?_)
    · rw [if_pos c5] at h
      cases h
      exact v_vret hC (by decide) (by decide) dX10_tries_42
    · rw [if_neg c5] at h
      refine v_aload_n hC dX10_tries_19 rfl ?_
      refine v_geta (k := 7) (b := 39) hC cls_X10 ly_0 (by decide) rfl aw_322 rfl dX10_tries_20 ?_
      refine v_aload_n hC dX10_tries_23 rfl ?_
      refine v_geta (k := 3) (b := 16) hC cls_X10 ly_0 (by decide) rfl aw_318 rfl dX10_tries_24 ?_
      refine v_aload_n hC dX10_tries_27 rfl ?_
      refine v_geta (k := 4) (b := 25) hC cls_X10 ly_0 (by decide) rfl aw_319 rfl dX10_tries_28 ?_
      refine v_null hC dX10_tries_31 ?_
      obtain ⟨r6, M7, q8, h⟩ := bnd_some h
      refine w_callVi hC [.ref 16, .ref 25, .null] [] (ok_X5_goesBy_n kTable_16 kLaw_25 q8) mv_X5_goesBy aw_1005 ly_39 rfl (Nat.le_of_ble_eq_true rfl) ⟨by decide, by decide⟩ ⟨by decide, by decide⟩ dX10_tries_32 ?_
      refine v_pop hC dX10_tries_35 rfl ?_
      refine w_iinc hC (v3 + (1 : Int32)) dX10_tries_36 rfl rfl [some (.ref 0), some (.int v1), none, some (.int (v3 + (1 : Int32)))] rfl ?_
      refine v_goto (tg := 14) hC dX10_tries_39 rfl ?_
      exact ih _ _ _ _ _ h
set_option maxRecDepth 20000 in
set_option maxHeartbeats 4000000 in
theorem ok_X10_tries {l : Launch} {N : Nat} {v1 v2 : Int32} {M : Mm} {r : Int32} {M' : Mm} (h : f_X10_tries N v1 v2 M = some (r, M')) : am_M l yX10_tries cX10_tries 4 none 7 0 0 LY M [.ref 0, .int v1, .int v2] (.inl none) M' := by
  unfold f_X10_tries at h
  refine am_intro (by decide) (by simp [Value.category]) (Nat.le_of_ble_eq_true rfl) (fun X hC hnt => ?_)
  refine am_start (L := [some (.ref 0), some (.int v1), some (.int v2), none]) rfl ?_
  refine v_aload_n hC dX10_tries_0 rfl ?_
  obtain ⟨r1, M2, q3, h⟩ := bnd_some h
  refine w_callVv hC [] [] (ok_X10_looksAhead q3) mv_X10_looksAhead aw_393 ly_0 rfl (Nat.le_of_ble_eq_true rfl) ⟨by decide, by decide⟩ ⟨by decide, by decide⟩ dX10_tries_1 ?_
  refine v_aload_n hC dX10_tries_4 rfl ?_
  refine v_geta (k := 3) (b := 16) hC cls_X10 ly_0 (by decide) rfl aw_318 rfl dX10_tries_5 ?_
  refine v_iload_n hC dX10_tries_8 rfl ?_
  obtain ⟨M4, e_M4, h⟩ := lt_some h
  refine w_puti (k := 9) hC cls_X6 ly_16 (by decide) rfl aw_117 rfl rfl ⟨rfl, rfl⟩ dX10_tries_9 e_M4 ?_
  refine v_iconst (v := (0 : Int32)) hC dX10_tries_12 rfl ?_
  refine w_istore_n hC dX10_tries_13 (ltk rfl) [some (.ref 0), some (.int v1), some (.int v2), some (.int (0 : Int32))] rfl ?_
  refine v_drop [true, true, false, true] [some (.ref 0), some (.int v1), none, some (.int (0 : Int32))] rfl ?_
  exact ok_X10_tries_14 hC hnt N _ _ _ _ _ h
def f_X10_trial (N : Nat) (v1 : Int32) (v2 : Int32) (M : Mm) : Option ((Int32 ⊕ String) × Mm) :=
  bnx (f_X10_needsWithin N v1 (0 : Int32) (200 : Int32) M) (fun r1 M2 => bnd (f_X10_tries N v1 (M2 7 9) M2) (fun r4 M5 => (if v2 = (0 : Int32) then some (.inl (M5 16 8), M5) else bnd (f_X6_heldCellars N 16 M5) (fun r8 M9 => some (.inl r8, M9))))) (fun r1 M2 => some (.inr r1, M2))
set_option maxRecDepth 20000 in
set_option maxHeartbeats 4000000 in
theorem ok_X10_trial {l : Launch} {N : Nat} {v1 v2 : Int32} (hl : l.stackTraces = false) {M : Mm} {r : (Int32 ⊕ String)} {M' : Mm} (h : f_X10_trial N v1 v2 M = some (r, M')) : am_M l yX10_trial cX10_trial 3 (some .int) 8 1 6 LY M [.ref 0, .int v1, .int v2] (am_oi r) M' := by
  unfold f_X10_trial at h
  refine am_intro (by decide) (by simp [Value.category]) (Nat.le_of_ble_eq_true rfl) (fun X hC hnt => ?_)
  refine am_start (L := [some (.ref 0), some (.int v1), some (.int v2)]) rfl ?_
  refine v_aload_n hC dX10_trial_0 rfl ?_
  refine v_iload_n hC dX10_trial_1 rfl ?_
  refine v_iconst (v := (0 : Int32)) hC dX10_trial_2 rfl ?_
  refine v_sipush (v := (200 : Int32)) hC dX10_trial_3 rfl ?_
  rcases bnx_some h with ⟨r1, M2, q3, h⟩ | ⟨r1, M2, q3, h⟩
  · refine w_callVv hC [.int v1, .int (0 : Int32), .int (200 : Int32)] [] (ok_X10_needsWithin hl q3) mv_X10_needsWithin aw_969 ly_0 rfl (Nat.le_of_ble_eq_true rfl) ⟨by decide, by decide⟩ ⟨by decide, by decide⟩ dX10_trial_6 ?_
    refine v_aload_n hC dX10_trial_9 rfl ?_
    refine v_iload_n hC dX10_trial_10 rfl ?_
    refine v_aload_n hC dX10_trial_11 rfl ?_
    refine v_geta (k := 2) (b := 7) hC cls_X10 ly_0 (by decide) rfl aw_317 rfl dX10_trial_12 ?_
    refine v_geti (k := 9) hC cls_X6 ly_7 (by decide) rfl aw_117 rfl dX10_trial_15 ?_
    obtain ⟨r4, M5, q6, h⟩ := bnd_some h
    refine w_callVv hC [.int v1, .int (M2 7 9)] [] (ok_X10_tries q6) mv_X10_tries aw_1183 ly_0 rfl (Nat.le_of_ble_eq_true rfl) ⟨by decide, by decide⟩ ⟨by decide, by decide⟩ dX10_trial_18 ?_
    refine v_iload_n hC dX10_trial_21 rfl ?_
    refine v_if_eq hC 35 dX10_trial_22 rfl (fun c7 => ?_) (fun c7 => ?_)
    · rw [if_pos c7] at h
      refine v_aload_n hC dX10_trial_35 rfl ?_
      refine v_geta (k := 3) (b := 16) hC cls_X10 ly_0 (by decide) rfl aw_318 rfl dX10_trial_36 ?_
      refine v_geti (k := 8) hC cls_X6 ly_16 (by decide) rfl aw_115 rfl dX10_trial_39 ?_
      cases h
      exact v_iret hC (by decide) (by decide) dX10_trial_42
    · rw [if_neg c7] at h
      refine v_aload_n hC dX10_trial_25 rfl ?_
      refine v_geta (k := 3) (b := 16) hC cls_X10 ly_0 (by decide) rfl aw_318 rfl dX10_trial_26 ?_
      obtain ⟨r8, M9, q10, h⟩ := bnd_some h
      refine w_callVi hC [] [] (ok_X6_heldCellars kTable_16 q10) mv_X6_heldCellars aw_409 ly_16 rfl (Nat.le_of_ble_eq_true rfl) ⟨by decide, by decide⟩ ⟨by decide, by decide⟩ dX10_trial_29 ?_
      refine v_goto (tg := 42) hC dX10_trial_32 rfl ?_
      cases h
      exact v_iret hC (by decide) (by decide) dX10_trial_42
  · cases h
    exact w_callVx hC hnt [.int v1, .int (0 : Int32), .int (200 : Int32)] [] (ok_X10_needsWithin hl q3) mv_X10_needsWithin aw_969 ly_0 rfl (Nat.le_of_ble_eq_true rfl) ⟨by decide, by decide⟩ ⟨by decide, by decide⟩ dX10_trial_6 (by decide) (by decide)
def f_X10_span_19 (N : Nat) : Nat → Int32 → Int32 → Int32 → Int32 → Int32 → Mm → Option ((Int32 ⊕ String) × Mm)
  | 0, _, _, _, _, _, _ => none
  | n + 1, v1, v2, v3, v4, v5, M => (if (6 : Int32) < v5 then (if v2 = (0 : Int32) then some (.inl v3, M) else some (.inl v4, M)) else bnd (f_X10_tries N v1 v5 M) (fun r6 M7 => lt (if (M7 16 8) < v3 then (M7 16 8) else v3) (fun x9 => lt (if v4 < (M7 16 8) then (M7 16 8) else v4) (fun x10 => f_X10_span_19 N n v1 v2 x9 x10 (v5 + (1 : Int32)) M7))))
def f_X10_span (N : Nat) (v1 : Int32) (v2 : Int32) (M : Mm) : Option ((Int32 ⊕ String) × Mm) :=
  bnx (f_X10_needsWithin N v1 (0 : Int32) (200 : Int32) M) (fun r1 M2 => f_X10_span_19 N N v1 v2 (9999 : Int32) (0 : Int32) (1 : Int32) M2) (fun r1 M2 => some (.inr r1, M2))
set_option maxRecDepth 20000 in
set_option maxHeartbeats 4000000 in
theorem ok_X10_span_19 {N : Nat} {X : am_X} {l : Launch} (hl : l.stackTraces = false) (hC : am_C X l (am_rm 8 1 6) cX10_span yX10_span.cls (some .int)) (hnt : am_NT X) : ∀ (n : Nat) (v1 v2 v3 v4 v5 : Int32) (M : Mm) (r : (Int32 ⊕ String)) (M' : Mm), f_X10_span_19 N n v1 v2 v3 v4 v5 M = some (r, M') → am_V X LY M 1 6 (am_Q X LY 1 6 (am_oi r) M') 19 [some (.ref 0), some (.int v1), some (.int v2), some (.int v3), some (.int v4), some (.int v5)] [] := by
  intro n
  induction n with
  | zero => intro v1 v2 v3 v4 v5 M r M' h; cases h
  | succ n ih =>
    intro v1 v2 v3 v4 v5 M r M' h
    simp only [f_X10_span_19] at h
    refine v_iload hC dX10_span_19 rfl ?_
    refine v_bipush (v := (6 : Int32)) hC dX10_span_21 rfl ?_
    refine v_icmp_gt hC 65 dX10_span_23 rfl (fun c4 => ?_) (fun c4 => ?_)
    · rw [if_pos c4] at h
      refine v_iload_n hC dX10_span_65 rfl ?_
      refine v_if_eq hC 74 dX10_span_66 rfl (fun c5 => ?_) (fun c5 => ?_)
      · rw [if_pos c5] at h
        refine v_iload_n hC dX10_span_74 rfl ?_
        cases h
        exact v_iret hC (by decide) (by decide) dX10_span_75
      · rw [if_neg c5] at h
        refine v_iload hC dX10_span_69 rfl ?_
        refine v_goto (tg := 75) hC dX10_span_71 rfl ?_
        cases h
        exact v_iret hC (by decide) (by decide) dX10_span_75
    · rw [if_neg c4] at h
      refine v_aload_n hC dX10_span_26 rfl ?_
      refine v_iload_n hC dX10_span_27 rfl ?_
      refine v_iload hC dX10_span_28 rfl ?_
      obtain ⟨r6, M7, q8, h⟩ := bnd_some h
      refine w_callVv hC [.int v1, .int v5] [] (ok_X10_tries q8) mv_X10_tries aw_1183 ly_0 rfl (Nat.le_of_ble_eq_true rfl) ⟨by decide, by decide⟩ ⟨by decide, by decide⟩ dX10_span_30 ?_
      refine v_iload_n hC dX10_span_33 rfl ?_
      refine v_aload_n hC dX10_span_34 rfl ?_
      refine v_geta (k := 3) (b := 16) hC cls_X10 ly_0 (by decide) rfl aw_318 rfl dX10_span_35 ?_
      refine v_geti (k := 8) hC cls_X6 ly_16 (by decide) rfl aw_115 rfl dX10_span_38 ?_
      refine v_mmin hC aw_954 wm_min (Nat.le_of_ble_eq_true rfl) (Nat.le_of_ble_eq_true rfl) (Nat.le_of_ble_eq_true rfl) (Nat.le_of_ble_eq_true rfl) dX10_span_41 ?_
      obtain ⟨x9, e_x9, h⟩ := lt_some h
      refine v_nam e_x9 ?_
      refine w_istore_n hC dX10_span_44 (ltk rfl) [some (.ref 0), some (.int v1), some (.int v2), some (.int x9), some (.int v4), some (.int v5)] rfl ?_
      refine v_iload hC dX10_span_45 rfl ?_
      refine v_aload_n hC dX10_span_47 rfl ?_
      refine v_geta (k := 3) (b := 16) hC cls_X10 ly_0 (by decide) rfl aw_318 rfl dX10_span_48 ?_
      refine v_geti (k := 8) hC cls_X6 ly_16 (by decide) rfl aw_115 rfl dX10_span_51 ?_
      refine v_mmax hC aw_1094 wm_max (Nat.le_of_ble_eq_true rfl) (Nat.le_of_ble_eq_true rfl) (Nat.le_of_ble_eq_true rfl) (Nat.le_of_ble_eq_true rfl) dX10_span_54 ?_
      obtain ⟨x10, e_x10, h⟩ := lt_some h
      refine v_nam e_x10 ?_
      refine w_istore hC dX10_span_57 (ltk rfl) [some (.ref 0), some (.int v1), some (.int v2), some (.int x9), some (.int x10), some (.int v5)] rfl ?_
      refine w_iinc hC (v5 + (1 : Int32)) dX10_span_59 rfl rfl [some (.ref 0), some (.int v1), some (.int v2), some (.int x9), some (.int x10), some (.int (v5 + (1 : Int32)))] rfl ?_
      refine v_goto (tg := 19) hC dX10_span_62 rfl ?_
      exact ih _ _ _ _ _ _ _ _ h
set_option maxRecDepth 20000 in
set_option maxHeartbeats 4000000 in
theorem ok_X10_span {l : Launch} {N : Nat} {v1 v2 : Int32} (hl : l.stackTraces = false) {M : Mm} {r : (Int32 ⊕ String)} {M' : Mm} (h : f_X10_span N v1 v2 M = some (r, M')) : am_M l yX10_span cX10_span 6 (some .int) 8 1 6 LY M [.ref 0, .int v1, .int v2] (am_oi r) M' := by
  unfold f_X10_span at h
  refine am_intro (by decide) (by simp [Value.category]) (Nat.le_of_ble_eq_true rfl) (fun X hC hnt => ?_)
  refine am_start (L := [some (.ref 0), some (.int v1), some (.int v2), none, none, none]) rfl ?_
  refine v_aload_n hC dX10_span_0 rfl ?_
  refine v_iload_n hC dX10_span_1 rfl ?_
  refine v_iconst (v := (0 : Int32)) hC dX10_span_2 rfl ?_
  refine v_sipush (v := (200 : Int32)) hC dX10_span_3 rfl ?_
  rcases bnx_some h with ⟨r1, M2, q3, h⟩ | ⟨r1, M2, q3, h⟩
  · refine w_callVv hC [.int v1, .int (0 : Int32), .int (200 : Int32)] [] (ok_X10_needsWithin hl q3) mv_X10_needsWithin aw_969 ly_0 rfl (Nat.le_of_ble_eq_true rfl) ⟨by decide, by decide⟩ ⟨by decide, by decide⟩ dX10_span_6 ?_
    refine v_sipush (v := (9999 : Int32)) hC dX10_span_9 rfl ?_
    refine w_istore_n hC dX10_span_12 (ltk rfl) [some (.ref 0), some (.int v1), some (.int v2), some (.int (9999 : Int32)), none, none] rfl ?_
    refine v_iconst (v := (0 : Int32)) hC dX10_span_13 rfl ?_
    refine w_istore hC dX10_span_14 (ltk rfl) [some (.ref 0), some (.int v1), some (.int v2), some (.int (9999 : Int32)), some (.int (0 : Int32)), none] rfl ?_
    refine v_iconst (v := (1 : Int32)) hC dX10_span_16 rfl ?_
    refine w_istore hC dX10_span_17 (ltk rfl) [some (.ref 0), some (.int v1), some (.int v2), some (.int (9999 : Int32)), some (.int (0 : Int32)), some (.int (1 : Int32))] rfl ?_
    exact ok_X10_span_19 hl hC hnt N _ _ _ _ _ _ _ _ h
  · cases h
    exact w_callVx hC hnt [.int v1, .int (0 : Int32), .int (200 : Int32)] [] (ok_X10_needsWithin hl q3) mv_X10_needsWithin aw_969 ly_0 rfl (Nat.le_of_ble_eq_true rfl) ⟨by decide, by decide⟩ ⟨by decide, by decide⟩ dX10_span_6 (by decide) (by decide)
def f_X10_led (N : Nat) (v1 : Int32) (v2 : Int32) (M : Mm) : Option ((Int32 ⊕ String) × Mm) :=
  bnx (f_X10_needsCellar N v1 M) (fun r1 M2 => (if v2 = (0 : Int32) then bnd (f_X4_rowsOf N 37 v1 M2) (fun r5 M6 => some (.inl r5, M6)) else bnd (f_X4_latestDinnerOf N 37 v1 M2) (fun r8 M9 => some (.inl r8, M9)))) (fun r1 M2 => some (.inr r1, M2))
set_option maxRecDepth 20000 in
set_option maxHeartbeats 4000000 in
theorem ok_X10_led {l : Launch} {N : Nat} {v1 v2 : Int32} (hl : l.stackTraces = false) {M : Mm} {r : (Int32 ⊕ String)} {M' : Mm} (h : f_X10_led N v1 v2 M = some (r, M')) : am_M l yX10_led cX10_led 3 (some .int) 7 1 6 LY M [.ref 0, .int v1, .int v2] (am_oi r) M' := by
  unfold f_X10_led at h
  refine am_intro (by decide) (by simp [Value.category]) (Nat.le_of_ble_eq_true rfl) (fun X hC hnt => ?_)
  refine am_start (L := [some (.ref 0), some (.int v1), some (.int v2)]) rfl ?_
  refine v_aload_n hC dX10_led_0 rfl ?_
  refine v_iload_n hC dX10_led_1 rfl ?_
  rcases bnx_some h with ⟨r1, M2, q3, h⟩ | ⟨r1, M2, q3, h⟩
  · refine w_callVv hC [.int v1] [] (ok_X10_needsCellar hl q3) mv_X10_needsCellar aw_912 ly_0 rfl (Nat.le_of_ble_eq_true rfl) ⟨by decide, by decide⟩ ⟨by decide, by decide⟩ dX10_led_2 ?_
    refine v_iload_n hC dX10_led_5 rfl ?_
    refine v_if_eq hC 20 dX10_led_6 rfl (fun c4 => ?_) (fun c4 => ?_)
    · rw [if_pos c4] at h
      refine v_aload_n hC dX10_led_20 rfl ?_
      refine v_geta (k := 6) (b := 37) hC cls_X10 ly_0 (by decide) rfl aw_321 rfl dX10_led_21 ?_
      refine v_iload_n hC dX10_led_24 rfl ?_
      obtain ⟨r5, M6, q7, h⟩ := bnd_some h
      refine w_callVi hC [.int v1] [] (ok_X4_rowsOf kLog_37 q7) mv_X4_rowsOf aw_1209 ly_37 rfl (Nat.le_of_ble_eq_true rfl) ⟨by decide, by decide⟩ ⟨by decide, by decide⟩ dX10_led_25 ?_
      cases h
      exact v_iret hC (by decide) (by decide) dX10_led_28
    · rw [if_neg c4] at h
      refine v_aload_n hC dX10_led_9 rfl ?_
      refine v_geta (k := 6) (b := 37) hC cls_X10 ly_0 (by decide) rfl aw_321 rfl dX10_led_10 ?_
      refine v_iload_n hC dX10_led_13 rfl ?_
      obtain ⟨r8, M9, q10, h⟩ := bnd_some h
      refine w_callVi hC [.int v1] [] (ok_X4_latestDinnerOf kLog_37 q10) mv_X4_latestDinnerOf aw_1201 ly_37 rfl (Nat.le_of_ble_eq_true rfl) ⟨by decide, by decide⟩ ⟨by decide, by decide⟩ dX10_led_14 ?_
      refine v_goto (tg := 28) hC dX10_led_17 rfl ?_
      cases h
      exact v_iret hC (by decide) (by decide) dX10_led_28
  · cases h
    exact w_callVx hC hnt [.int v1] [] (ok_X10_needsCellar hl q3) mv_X10_needsCellar aw_912 ly_0 rfl (Nat.le_of_ble_eq_true rfl) ⟨by decide, by decide⟩ ⟨by decide, by decide⟩ dX10_led_2 (by decide) (by decide)
def f_X10_log (N : Nat) (v1 : Int32) (v2 : Int32) (M : Mm) : Option ((Int32 ⊕ String) × Mm) :=
  bnx (f_X10_needsWhat N v2 (4 : Int32) M) (fun r1 M2 => bnd (f_X4_tells N 37 v1 v2 M2) (fun r4 M5 => some (.inl r4, M5))) (fun r1 M2 => some (.inr r1, M2))
set_option maxRecDepth 20000 in
set_option maxHeartbeats 4000000 in
theorem ok_X10_log {l : Launch} {N : Nat} {v1 v2 : Int32} (hl : l.stackTraces = false) {M : Mm} {r : (Int32 ⊕ String)} {M' : Mm} (h : f_X10_log N v1 v2 M = some (r, M')) : am_M l yX10_log cX10_log 3 (some .int) 7 1 6 LY M [.ref 0, .int v1, .int v2] (am_oi r) M' := by
  unfold f_X10_log at h
  refine am_intro (by decide) (by simp [Value.category]) (Nat.le_of_ble_eq_true rfl) (fun X hC hnt => ?_)
  refine am_start (L := [some (.ref 0), some (.int v1), some (.int v2)]) rfl ?_
  refine v_aload_n hC dX10_log_0 rfl ?_
  refine v_iload_n hC dX10_log_1 rfl ?_
  refine v_iconst (v := (4 : Int32)) hC dX10_log_2 rfl ?_
  rcases bnx_some h with ⟨r1, M2, q3, h⟩ | ⟨r1, M2, q3, h⟩
  · refine w_callVv hC [.int v2, .int (4 : Int32)] [] (ok_X10_needsWhat hl q3) mv_X10_needsWhat aw_863 ly_0 rfl (Nat.le_of_ble_eq_true rfl) ⟨by decide, by decide⟩ ⟨by decide, by decide⟩ dX10_log_3 ?_
    refine v_aload_n hC dX10_log_6 rfl ?_
    refine v_geta (k := 6) (b := 37) hC cls_X10 ly_0 (by decide) rfl aw_321 rfl dX10_log_7 ?_
    refine v_iload_n hC dX10_log_10 rfl ?_
    refine v_iload_n hC dX10_log_11 rfl ?_
    obtain ⟨r4, M5, q6, h⟩ := bnd_some h
    refine w_callVi hC [.int v1, .int v2] [] (ok_X4_tells kLog_37 q6) mv_X4_tells aw_1220 ly_37 rfl (Nat.le_of_ble_eq_true rfl) ⟨by decide, by decide⟩ ⟨by decide, by decide⟩ dX10_log_12 ?_
    cases h
    exact v_iret hC (by decide) (by decide) dX10_log_15
  · cases h
    exact w_callVx hC hnt [.int v2, .int (4 : Int32)] [] (ok_X10_needsWhat hl q3) mv_X10_needsWhat aw_863 ly_0 rfl (Nat.le_of_ble_eq_true rfl) ⟨by decide, by decide⟩ ⟨by decide, by decide⟩ dX10_log_3 (by decide) (by decide)
def f_X10_seed (N : Nat) (v1 : Int32) (M : Mm) : Option (Int32 × Mm) :=
  lt (M 7 9) (fun x1 => lt (wr M 7 9 v1) (fun M2 => some (x1, M2)))
set_option maxRecDepth 20000 in
set_option maxHeartbeats 4000000 in
theorem ok_X10_seed {l : Launch} {N : Nat} {v1 : Int32} {M : Mm} {r : Int32} {M' : Mm} (h : f_X10_seed N v1 M = some (r, M')) : am_M l yX10_seed cX10_seed 3 (some .int) 1 0 0 LY M [.ref 0, .int v1] (.inl (some (.int r))) M' := by
  unfold f_X10_seed at h
  refine am_intro (by decide) (by simp [Value.category]) (Nat.le_of_ble_eq_true rfl) (fun X hC hnt => ?_)
  refine am_start (L := [some (.ref 0), some (.int v1), none]) rfl ?_
  refine v_aload_n hC dX10_seed_0 rfl ?_
  refine v_geta (k := 2) (b := 7) hC cls_X10 ly_0 (by decide) rfl aw_317 rfl dX10_seed_1 ?_
  refine v_geti (k := 9) hC cls_X6 ly_7 (by decide) rfl aw_117 rfl dX10_seed_4 ?_
  obtain ⟨x1, e_x1, h⟩ := lt_some h
  refine v_nam e_x1 ?_
  refine w_istore_n hC dX10_seed_7 (ltk rfl) [some (.ref 0), some (.int v1), some (.int x1)] rfl ?_
  refine v_aload_n hC dX10_seed_8 rfl ?_
  refine v_geta (k := 2) (b := 7) hC cls_X10 ly_0 (by decide) rfl aw_317 rfl dX10_seed_9 ?_
  refine v_iload_n hC dX10_seed_12 rfl ?_
  obtain ⟨M2, e_M2, h⟩ := lt_some h
  refine w_puti (k := 9) hC cls_X6 ly_7 (by decide) rfl aw_117 rfl rfl ⟨rfl, rfl⟩ dX10_seed_13 e_M2 ?_
  refine v_iload_n hC dX10_seed_16 rfl ?_
  cases h
  exact v_iret hC (by decide) (by decide) dX10_seed_17
def f_X10_undo (N : Nat) (M : Mm) : Option (Int32 × Mm) :=
  lt ((((M 0 9) + (12 : Int32)) - (1 : Int32)) - (((M 0 9) + (12 : Int32)) - (1 : Int32)) / (12 : Int32) * (12 : Int32)) (fun x1 => (if (M 0 10) ≤ (0 : Int32) then some ((0 : Int32), M) else (if x1 < (0 : Int32) then some ((0 : Int32), M) else grd (inb x1 12) (grd (inb x1 12) (bnd (f_X3_returns N ((12 * (x1).toNatClampNeg) + 64) 7 37 M) (fun r6 M7 => lt (wr M7 0 9 x1) (fun M9 => lt (wr M9 0 10 ((M9 0 10) - (1 : Int32))) (fun M10 => some ((1 : Int32), M10)))))))))
set_option maxRecDepth 20000 in
set_option maxHeartbeats 4000000 in
theorem ok_X10_undo {l : Launch} {N : Nat} {M : Mm} {r : Int32} {M' : Mm} (h : f_X10_undo N M = some (r, M')) : am_M l yX10_undo cX10_undo 2 (some .boolean) 3 0 0 LY M [.ref 0] (.inl (some (.int r))) M' := by
  unfold f_X10_undo at h
  refine am_intro (by decide) (by simp [Value.category]) (Nat.le_of_ble_eq_true rfl) (fun X hC hnt => ?_)
  refine am_start (L := [some (.ref 0), none]) rfl ?_
  refine v_aload_n hC dX10_undo_0 rfl ?_
  refine v_geti (k := 9) hC cls_X10 ly_0 (by decide) rfl aw_324 rfl dX10_undo_1 ?_
  refine v_bipush (v := (12 : Int32)) hC dX10_undo_4 rfl ?_
  refine v_iadd hC dX10_undo_6 ?_
  refine v_iconst (v := (1 : Int32)) hC dX10_undo_7 rfl ?_
  refine v_isub hC dX10_undo_8 ?_
  refine v_bipush (v := (12 : Int32)) hC dX10_undo_9 rfl ?_
  refine v_irem hC dX10_undo_11 (by decide) ?_
  obtain ⟨x1, e_x1, h⟩ := lt_some h
  refine v_nam e_x1 ?_
  refine w_istore_n hC dX10_undo_12 (ltk rfl) [some (.ref 0), some (.int x1)] rfl ?_
  refine v_aload_n hC dX10_undo_13 rfl ?_
  refine v_geti (k := 10) hC cls_X10 ly_0 (by decide) rfl aw_325 rfl dX10_undo_14 ?_
  refine v_if_le hC 33 dX10_undo_17 rfl (fun c2 => ?_) (fun c2 => ?_)
  · rw [if_pos c2] at h
    refine v_iconst (v := (0 : Int32)) hC dX10_undo_33 rfl ?_
    cases h
    exact v_zret hC (by decide) (by decide) (by decide) dX10_undo_34
  · rw [if_neg c2] at h
    refine v_iload_n hC dX10_undo_20 rfl ?_
    refine v_if_lt hC 33 dX10_undo_21 rfl (fun c3 => ?_) (fun c3 => ?_)
    · rw [if_pos c3] at h
      refine v_iconst (v := (0 : Int32)) hC dX10_undo_33 rfl ?_
      cases h
      exact v_zret hC (by decide) (by decide) (by decide) dX10_undo_34
    · rw [if_neg c3] at h
      refine v_aload_n hC dX10_undo_24 rfl ?_
      refine v_geta (k := 8) (b := 42) hC cls_X10 ly_0 (by decide) rfl aw_323 rfl dX10_undo_25 ?_
      refine v_iload_n hC dX10_undo_28 rfl ?_
      obtain ⟨g4, h⟩ := grd_some h
      refine v_aald (b := ((12 * (x1).toNatClampNeg) + 64)) hC ly_42 (inb_in g4) (rf_mom g4) dX10_undo_29 ?_
      refine v_ifnonnull hC 35 dX10_undo_30 rfl ?_
      refine v_aload_n hC dX10_undo_35 rfl ?_
      refine v_geta (k := 8) (b := 42) hC cls_X10 ly_0 (by decide) rfl aw_323 rfl dX10_undo_36 ?_
      refine v_iload_n hC dX10_undo_39 rfl ?_
      obtain ⟨g5, h⟩ := grd_some h
      refine v_aald (b := ((12 * (x1).toNatClampNeg) + 64)) hC ly_42 (inb_in g5) (rf_mom g5) dX10_undo_40 ?_
      refine v_aload_n hC dX10_undo_41 rfl ?_
      refine v_geta (k := 2) (b := 7) hC cls_X10 ly_0 (by decide) rfl aw_317 rfl dX10_undo_42 ?_
      refine v_aload_n hC dX10_undo_45 rfl ?_
      refine v_geta (k := 6) (b := 37) hC cls_X10 ly_0 (by decide) rfl aw_321 rfl dX10_undo_46 ?_
      obtain ⟨r6, M7, q8, h⟩ := bnd_some h
      refine w_callVv hC [.ref 7, .ref 37] [] (ok_X3_returns (kM_at g5) kTable_7 kLog_37 q8) mv_X3_returns aw_544 (kM_at g5).1 rfl (Nat.le_of_ble_eq_true rfl) ⟨by decide, by decide⟩ ⟨by decide, by decide⟩ dX10_undo_49 ?_
      refine v_aload_n hC dX10_undo_52 rfl ?_
      refine v_iload_n hC dX10_undo_53 rfl ?_
      obtain ⟨M9, e_M9, h⟩ := lt_some h
      refine w_puti (k := 9) hC cls_X10 ly_0 (by decide) rfl aw_324 rfl rfl ⟨rfl, rfl⟩ dX10_undo_54 e_M9 ?_
      refine v_aload_n hC dX10_undo_57 rfl ?_
      refine v_dup hC dX10_undo_58 rfl ?_
      refine v_geti (k := 10) hC cls_X10 ly_0 (by decide) rfl aw_325 rfl dX10_undo_59 ?_
      refine v_iconst (v := (1 : Int32)) hC dX10_undo_62 rfl ?_
      refine v_isub hC dX10_undo_63 ?_
      obtain ⟨M10, e_M10, h⟩ := lt_some h
      refine w_puti (k := 10) hC cls_X10 ly_0 (by decide) rfl aw_325 rfl rfl ⟨rfl, rfl⟩ dX10_undo_64 e_M10 ?_
      refine v_iconst (v := (1 : Int32)) hC dX10_undo_67 rfl ?_
      cases h
      exact v_zret hC (by decide) (by decide) (by decide) dX10_undo_68
def f_X10_image (N : Nat) (M : Mm) : Option (Int32 × Mm) :=
  bnd (f_X3_keeps N 43 7 37 M) (fun r1 M2 => bnd (f_X1_copies N 55 25 M2) (fun r4 M5 => lt (wr M5 0 13 (1 : Int32)) (fun M7 => some (0, M7))))
set_option maxRecDepth 20000 in
set_option maxHeartbeats 4000000 in
theorem ok_X10_image {l : Launch} {N : Nat} {M : Mm} {r : Int32} {M' : Mm} (h : f_X10_image N M = some (r, M')) : am_M l yX10_image cX10_image 1 none 3 0 0 LY M [.ref 0] (.inl none) M' := by
  unfold f_X10_image at h
  refine am_intro (by decide) (by simp [Value.category]) (Nat.le_of_ble_eq_true rfl) (fun X hC hnt => ?_)
  refine am_start (L := [some (.ref 0)]) rfl ?_
  refine v_aload_n hC dX10_image_0 rfl ?_
  refine v_geta (k := 11) (b := 43) hC cls_X10 ly_0 (by decide) rfl aw_326 rfl dX10_image_1 ?_
  refine v_aload_n hC dX10_image_4 rfl ?_
  refine v_geta (k := 2) (b := 7) hC cls_X10 ly_0 (by decide) rfl aw_317 rfl dX10_image_5 ?_
  refine v_aload_n hC dX10_image_8 rfl ?_
  refine v_geta (k := 6) (b := 37) hC cls_X10 ly_0 (by decide) rfl aw_321 rfl dX10_image_9 ?_
  obtain ⟨r1, M2, q3, h⟩ := bnd_some h
  refine w_callVv hC [.ref 7, .ref 37] [] (ok_X3_keeps kMoment_43 kTable_7 kLog_37 q3) mv_X3_keeps aw_558 ly_43 rfl (Nat.le_of_ble_eq_true rfl) ⟨by decide, by decide⟩ ⟨by decide, by decide⟩ dX10_image_12 ?_
  refine v_aload_n hC dX10_image_15 rfl ?_
  refine v_geta (k := 12) (b := 55) hC cls_X10 ly_0 (by decide) rfl aw_327 rfl dX10_image_16 ?_
  refine v_aload_n hC dX10_image_19 rfl ?_
  refine v_geta (k := 4) (b := 25) hC cls_X10 ly_0 (by decide) rfl aw_319 rfl dX10_image_20 ?_
  obtain ⟨r4, M5, q6, h⟩ := bnd_some h
  refine w_callVv hC [.ref 25] [] (ok_X1_copies kLaw_55 kLaw_25 q6) mv_X1_copies aw_562 ly_55 rfl (Nat.le_of_ble_eq_true rfl) ⟨by decide, by decide⟩ ⟨by decide, by decide⟩ dX10_image_23 ?_
  refine v_aload_n hC dX10_image_26 rfl ?_
  refine v_iconst (v := (1 : Int32)) hC dX10_image_27 rfl ?_
  obtain ⟨M7, e_M7, h⟩ := lt_some h
  refine w_puti (k := 13) hC cls_X10 ly_0 (by decide) rfl aw_328 rfl rfl ⟨by decide, by decide⟩ dX10_image_28 e_M7 ?_
  cases h
  exact v_vret hC (by decide) (by decide) dX10_image_31
def f_X10_back (N : Nat) (M : Mm) : Option (Int32 × Mm) :=
  (if (M 0 13) = (0 : Int32) then some ((0 : Int32), M) else bnd (f_X3_returns N 43 7 37 M) (fun r2 M3 => bnd (f_X1_copies N 25 55 M3) (fun r5 M6 => lt (wr M6 0 10 (0 : Int32)) (fun M8 => some ((1 : Int32), M8)))))
set_option maxRecDepth 20000 in
set_option maxHeartbeats 4000000 in
theorem ok_X10_back {l : Launch} {N : Nat} {M : Mm} {r : Int32} {M' : Mm} (h : f_X10_back N M = some (r, M')) : am_M l yX10_back cX10_back 1 (some .boolean) 3 0 0 LY M [.ref 0] (.inl (some (.int r))) M' := by
  unfold f_X10_back at h
  refine am_intro (by decide) (by simp [Value.category]) (Nat.le_of_ble_eq_true rfl) (fun X hC hnt => ?_)
  refine am_start (L := [some (.ref 0)]) rfl ?_
  refine v_aload_n hC dX10_back_0 rfl ?_
  refine v_geti (k := 13) hC cls_X10 ly_0 (by decide) rfl aw_328 rfl dX10_back_1 ?_
  refine v_if_ne hC 9 dX10_back_4 rfl (fun c1 => ?_) (fun c1 => ?_)
  · rw [if_neg c1] at h
    refine v_aload_n hC dX10_back_9 rfl ?_
    refine v_geta (k := 11) (b := 43) hC cls_X10 ly_0 (by decide) rfl aw_326 rfl dX10_back_10 ?_
    refine v_aload_n hC dX10_back_13 rfl ?_
    refine v_geta (k := 2) (b := 7) hC cls_X10 ly_0 (by decide) rfl aw_317 rfl dX10_back_14 ?_
    refine v_aload_n hC dX10_back_17 rfl ?_
    refine v_geta (k := 6) (b := 37) hC cls_X10 ly_0 (by decide) rfl aw_321 rfl dX10_back_18 ?_
    obtain ⟨r2, M3, q4, h⟩ := bnd_some h
    refine w_callVv hC [.ref 7, .ref 37] [] (ok_X3_returns kMoment_43 kTable_7 kLog_37 q4) mv_X3_returns aw_544 ly_43 rfl (Nat.le_of_ble_eq_true rfl) ⟨by decide, by decide⟩ ⟨by decide, by decide⟩ dX10_back_21 ?_
    refine v_aload_n hC dX10_back_24 rfl ?_
    refine v_geta (k := 4) (b := 25) hC cls_X10 ly_0 (by decide) rfl aw_319 rfl dX10_back_25 ?_
    refine v_aload_n hC dX10_back_28 rfl ?_
    refine v_geta (k := 12) (b := 55) hC cls_X10 ly_0 (by decide) rfl aw_327 rfl dX10_back_29 ?_
    obtain ⟨r5, M6, q7, h⟩ := bnd_some h
    refine w_callVv hC [.ref 55] [] (ok_X1_copies kLaw_25 kLaw_55 q7) mv_X1_copies aw_562 ly_25 rfl (Nat.le_of_ble_eq_true rfl) ⟨by decide, by decide⟩ ⟨by decide, by decide⟩ dX10_back_32 ?_
    refine v_aload_n hC dX10_back_35 rfl ?_
    refine v_iconst (v := (0 : Int32)) hC dX10_back_36 rfl ?_
    obtain ⟨M8, e_M8, h⟩ := lt_some h
    refine w_puti (k := 10) hC cls_X10 ly_0 (by decide) rfl aw_325 rfl rfl ⟨rfl, rfl⟩ dX10_back_37 e_M8 ?_
    refine v_iconst (v := (1 : Int32)) hC dX10_back_40 rfl ?_
    cases h
    exact v_zret hC (by decide) (by decide) (by decide) dX10_back_41
  · rw [if_pos c1] at h
    refine v_iconst (v := (0 : Int32)) hC dX10_back_7 rfl ?_
    cases h
    exact v_zret hC (by decide) (by decide) (by decide) dX10_back_8
def f_X10_count (N : Nat) (v1 : Int32) (M : Mm) : Option (Int32 × Mm) :=
  (if v1 = (0 : Int32) then some ((M 7 0), M) else (if v1 = (1 : Int32) then some ((M 7 1), M) else (if v1 = (2 : Int32) then some ((M 7 10), M) else (if v1 = (3 : Int32) then (if (M 25 0) = (0 : Int32) then some ((-1 : Int32), M) else some ((M 25 1), M)) else (if v1 = (4 : Int32) then some ((M 7 4), M) else (if v1 = (5 : Int32) then some ((M 7 5), M) else (if v1 = (6 : Int32) then some ((M 7 3), M) else (if v1 = (7 : Int32) then some ((M 7 6), M) else (if v1 = (8 : Int32) then some ((M 7 7), M) else (if v1 = (9 : Int32) then some ((M 7 8), M) else (if v1 = (10 : Int32) then bnd (f_X6_grainsInAll N 7 M) (fun r13 M14 => some (r13, M14)) else (if v1 = (11 : Int32) then some ((M 7 2), M) else (if v1 = (12 : Int32) then some ((M 37 1), M) else (if v1 = (13 : Int32) then some ((M 0 10), M) else some ((-1 : Int32), M)))))))))))))))
set_option maxRecDepth 20000 in
set_option maxHeartbeats 4000000 in
theorem ok_X10_count {l : Launch} {N : Nat} {v1 : Int32} {M : Mm} {r : Int32} {M' : Mm} (h : f_X10_count N v1 M = some (r, M')) : am_M l yX10_count cX10_count 2 (some .int) 2 0 0 LY M [.ref 0, .int v1] (.inl (some (.int r))) M' := by
  unfold f_X10_count at h
  refine am_intro (by decide) (by simp [Value.category]) (Nat.le_of_ble_eq_true rfl) (fun X hC hnt => ?_)
  refine am_start (L := [some (.ref 0), some (.int v1)]) rfl ?_
  refine v_iload_n hC dX10_count_0 rfl ?_
  by_cases c1 : v1 = (0 : Int32)
  · rw [if_pos c1] at h
    refine v_tableIn hC 72 dX10_count_1 (by rw [c1]; decide) (by rw [c1]; decide) (by rw [c1]; first | done | rfl) rfl ?_
    refine v_aload_n hC dX10_count_72 rfl ?_
    refine v_geta (k := 2) (b := 7) hC cls_X10 ly_0 (by decide) rfl aw_317 rfl dX10_count_73 ?_
    refine v_geti (k := 0) hC cls_X6 ly_7 (by decide) rfl aw_87 rfl dX10_count_76 ?_
    cases h
    exact v_iret hC (by decide) (by decide) dX10_count_79
  · rw [if_neg c1] at h
    by_cases c2 : v1 = (1 : Int32)
    · rw [if_pos c2] at h
      refine v_tableIn hC 80 dX10_count_1 (by rw [c2]; decide) (by rw [c2]; decide) (by rw [c2]; first | done | rfl) rfl ?_
      refine v_aload_n hC dX10_count_80 rfl ?_
      refine v_geta (k := 2) (b := 7) hC cls_X10 ly_0 (by decide) rfl aw_317 rfl dX10_count_81 ?_
      refine v_geti (k := 1) hC cls_X6 ly_7 (by decide) rfl aw_91 rfl dX10_count_84 ?_
      cases h
      exact v_iret hC (by decide) (by decide) dX10_count_87
    · rw [if_neg c2] at h
      by_cases c3 : v1 = (2 : Int32)
      · rw [if_pos c3] at h
        refine v_tableIn hC 88 dX10_count_1 (by rw [c3]; decide) (by rw [c3]; decide) (by rw [c3]; first | done | rfl) rfl ?_
        refine v_aload_n hC dX10_count_88 rfl ?_
        refine v_geta (k := 2) (b := 7) hC cls_X10 ly_0 (by decide) rfl aw_317 rfl dX10_count_89 ?_
        refine v_geti (k := 10) hC cls_X6 ly_7 (by decide) rfl aw_119 rfl dX10_count_92 ?_
        cases h
        exact v_iret hC (by decide) (by decide) dX10_count_95
      · rw [if_neg c3] at h
        by_cases c4 : v1 = (3 : Int32)
        · rw [if_pos c4] at h
          refine v_tableIn hC 96 dX10_count_1 (by rw [c4]; decide) (by rw [c4]; decide) (by rw [c4]; first | done | rfl) rfl ?_
          refine v_aload_n hC dX10_count_96 rfl ?_
          refine v_geta (k := 4) (b := 25) hC cls_X10 ly_0 (by decide) rfl aw_319 rfl dX10_count_97 ?_
          refine v_geti (k := 0) hC cls_X1 ly_25 (by decide) rfl aw_188 rfl dX10_count_100 ?_
          refine v_if_eq hC 116 dX10_count_103 rfl (fun c5 => ?_) (fun c5 => ?_)
          · rw [if_pos c5] at h
            refine v_iconst (v := (-1 : Int32)) hC dX10_count_116 rfl ?_
            cases h
            exact v_iret hC (by decide) (by decide) dX10_count_117
          · rw [if_neg c5] at h
            refine v_aload_n hC dX10_count_106 rfl ?_
            refine v_geta (k := 4) (b := 25) hC cls_X10 ly_0 (by decide) rfl aw_319 rfl dX10_count_107 ?_
            refine v_geti (k := 1) hC cls_X1 ly_25 (by decide) rfl aw_190 rfl dX10_count_110 ?_
            refine v_goto (tg := 117) hC dX10_count_113 rfl ?_
            cases h
            exact v_iret hC (by decide) (by decide) dX10_count_117
        · rw [if_neg c4] at h
          by_cases c6 : v1 = (4 : Int32)
          · rw [if_pos c6] at h
            refine v_tableIn hC 118 dX10_count_1 (by rw [c6]; decide) (by rw [c6]; decide) (by rw [c6]; first | done | rfl) rfl ?_
            refine v_aload_n hC dX10_count_118 rfl ?_
            refine v_geta (k := 2) (b := 7) hC cls_X10 ly_0 (by decide) rfl aw_317 rfl dX10_count_119 ?_
            refine v_geti (k := 4) hC cls_X6 ly_7 (by decide) rfl aw_101 rfl dX10_count_122 ?_
            cases h
            exact v_iret hC (by decide) (by decide) dX10_count_125
          · rw [if_neg c6] at h
            by_cases c7 : v1 = (5 : Int32)
            · rw [if_pos c7] at h
              refine v_tableIn hC 126 dX10_count_1 (by rw [c7]; decide) (by rw [c7]; decide) (by rw [c7]; first | done | rfl) rfl ?_
              refine v_aload_n hC dX10_count_126 rfl ?_
              refine v_geta (k := 2) (b := 7) hC cls_X10 ly_0 (by decide) rfl aw_317 rfl dX10_count_127 ?_
              refine v_geti (k := 5) hC cls_X6 ly_7 (by decide) rfl aw_104 rfl dX10_count_130 ?_
              cases h
              exact v_iret hC (by decide) (by decide) dX10_count_133
            · rw [if_neg c7] at h
              by_cases c8 : v1 = (6 : Int32)
              · rw [if_pos c8] at h
                refine v_tableIn hC 134 dX10_count_1 (by rw [c8]; decide) (by rw [c8]; decide) (by rw [c8]; first | done | rfl) rfl ?_
                refine v_aload_n hC dX10_count_134 rfl ?_
                refine v_geta (k := 2) (b := 7) hC cls_X10 ly_0 (by decide) rfl aw_317 rfl dX10_count_135 ?_
                refine v_geti (k := 3) hC cls_X6 ly_7 (by decide) rfl aw_96 rfl dX10_count_138 ?_
                cases h
                exact v_iret hC (by decide) (by decide) dX10_count_141
              · rw [if_neg c8] at h
                by_cases c9 : v1 = (7 : Int32)
                · rw [if_pos c9] at h
                  refine v_tableIn hC 142 dX10_count_1 (by rw [c9]; decide) (by rw [c9]; decide) (by rw [c9]; first | done | rfl) rfl ?_
                  refine v_aload_n hC dX10_count_142 rfl ?_
                  refine v_geta (k := 2) (b := 7) hC cls_X10 ly_0 (by decide) rfl aw_317 rfl dX10_count_143 ?_
                  refine v_geti (k := 6) hC cls_X6 ly_7 (by decide) rfl aw_108 rfl dX10_count_146 ?_
                  cases h
                  exact v_iret hC (by decide) (by decide) dX10_count_149
                · rw [if_neg c9] at h
                  by_cases c10 : v1 = (8 : Int32)
                  · rw [if_pos c10] at h
                    refine v_tableIn hC 150 dX10_count_1 (by rw [c10]; decide) (by rw [c10]; decide) (by rw [c10]; first | done | rfl) rfl ?_
                    refine v_aload_n hC dX10_count_150 rfl ?_
                    refine v_geta (k := 2) (b := 7) hC cls_X10 ly_0 (by decide) rfl aw_317 rfl dX10_count_151 ?_
                    refine v_geti (k := 7) hC cls_X6 ly_7 (by decide) rfl aw_112 rfl dX10_count_154 ?_
                    cases h
                    exact v_iret hC (by decide) (by decide) dX10_count_157
                  · rw [if_neg c10] at h
                    by_cases c11 : v1 = (9 : Int32)
                    · rw [if_pos c11] at h
                      refine v_tableIn hC 158 dX10_count_1 (by rw [c11]; decide) (by rw [c11]; decide) (by rw [c11]; first | done | rfl) rfl ?_
                      refine v_aload_n hC dX10_count_158 rfl ?_
                      refine v_geta (k := 2) (b := 7) hC cls_X10 ly_0 (by decide) rfl aw_317 rfl dX10_count_159 ?_
                      refine v_geti (k := 8) hC cls_X6 ly_7 (by decide) rfl aw_115 rfl dX10_count_162 ?_
                      cases h
                      exact v_iret hC (by decide) (by decide) dX10_count_165
                    · rw [if_neg c11] at h
                      by_cases c12 : v1 = (10 : Int32)
                      · rw [if_pos c12] at h
                        refine v_tableIn hC 166 dX10_count_1 (by rw [c12]; decide) (by rw [c12]; decide) (by rw [c12]; first | done | rfl) rfl ?_
                        refine v_aload_n hC dX10_count_166 rfl ?_
                        refine v_geta (k := 2) (b := 7) hC cls_X10 ly_0 (by decide) rfl aw_317 rfl dX10_count_167 ?_
                        obtain ⟨r13, M14, q15, h⟩ := bnd_some h
                        refine w_callVi hC [] [] (ok_X6_grainsInAll kTable_7 q15) mv_X6_grainsInAll aw_502 ly_7 rfl (Nat.le_of_ble_eq_true rfl) ⟨by decide, by decide⟩ ⟨by decide, by decide⟩ dX10_count_170 ?_
                        cases h
                        exact v_iret hC (by decide) (by decide) dX10_count_173
                      · rw [if_neg c12] at h
                        by_cases c16 : v1 = (11 : Int32)
                        · rw [if_pos c16] at h
                          refine v_tableIn hC 174 dX10_count_1 (by rw [c16]; decide) (by rw [c16]; decide) (by rw [c16]; first | done | rfl) rfl ?_
                          refine v_aload_n hC dX10_count_174 rfl ?_
                          refine v_geta (k := 2) (b := 7) hC cls_X10 ly_0 (by decide) rfl aw_317 rfl dX10_count_175 ?_
                          refine v_geti (k := 2) hC cls_X6 ly_7 (by decide) rfl aw_93 rfl dX10_count_178 ?_
                          cases h
                          exact v_iret hC (by decide) (by decide) dX10_count_181
                        · rw [if_neg c16] at h
                          by_cases c17 : v1 = (12 : Int32)
                          · rw [if_pos c17] at h
                            refine v_tableIn hC 182 dX10_count_1 (by rw [c17]; decide) (by rw [c17]; decide) (by rw [c17]; first | done | rfl) rfl ?_
                            refine v_aload_n hC dX10_count_182 rfl ?_
                            refine v_geta (k := 6) (b := 37) hC cls_X10 ly_0 (by decide) rfl aw_321 rfl dX10_count_183 ?_
                            refine v_geti (k := 1) hC cls_X4 ly_37 (by decide) rfl aw_223 rfl dX10_count_186 ?_
                            cases h
                            exact v_iret hC (by decide) (by decide) dX10_count_189
                          · rw [if_neg c17] at h
                            by_cases c18 : v1 = (13 : Int32)
                            · rw [if_pos c18] at h
                              refine v_tableIn hC 190 dX10_count_1 (by rw [c18]; decide) (by rw [c18]; decide) (by rw [c18]; first | done | rfl) rfl ?_
                              refine v_aload_n hC dX10_count_190 rfl ?_
                              refine v_geti (k := 10) hC cls_X10 ly_0 (by decide) rfl aw_325 rfl dX10_count_191 ?_
                              cases h
                              exact v_iret hC (by decide) (by decide) dX10_count_194
                            · rw [if_neg c18] at h
                              refine v_tableOut hC 195 dX10_count_1 (by have t_c1 := lv_neT (k := (0 : Int32)) (a := 0) c1 rfl; have t_c2 := lv_neT (k := (1 : Int32)) (a := 1) c2 rfl; have t_c3 := lv_neT (k := (2 : Int32)) (a := 2) c3 rfl; have t_c4 := lv_neT (k := (3 : Int32)) (a := 3) c4 rfl; have t_c6 := lv_neT (k := (4 : Int32)) (a := 4) c6 rfl; have t_c7 := lv_neT (k := (5 : Int32)) (a := 5) c7 rfl; have t_c8 := lv_neT (k := (6 : Int32)) (a := 6) c8 rfl; have t_c9 := lv_neT (k := (7 : Int32)) (a := 7) c9 rfl; have t_c10 := lv_neT (k := (8 : Int32)) (a := 8) c10 rfl; have t_c11 := lv_neT (k := (9 : Int32)) (a := 9) c11 rfl; have t_c12 := lv_neT (k := (10 : Int32)) (a := 10) c12 rfl; have t_c16 := lv_neT (k := (11 : Int32)) (a := 11) c16 rfl; have t_c17 := lv_neT (k := (12 : Int32)) (a := 12) c17 rfl; have t_c18 := lv_neT (k := (13 : Int32)) (a := 13) c18 rfl; omega) rfl ?_
                              refine v_iconst (v := (-1 : Int32)) hC dX10_count_195 rfl ?_
                              cases h
                              exact v_iret hC (by decide) (by decide) dX10_count_196
def f_X11_thrown (N : Nat) (M : Mm) : Option (Int32 × Mm) :=
  some ((M 208 0), M)
set_option maxRecDepth 20000 in
set_option maxHeartbeats 4000000 in
theorem ok_X11_thrown {l : Launch} {N : Nat} {M : Mm} {r : Int32} {M' : Mm} (h : f_X11_thrown N M = some (r, M')) : am_M l yX11_thrown cX11_thrown 1 (some .int) 1 0 0 LY M [.ref 208] (.inl (some (.int r))) M' := by
  unfold f_X11_thrown at h
  refine am_intro (by decide) (by simp [Value.category]) (Nat.le_of_ble_eq_true rfl) (fun X hC hnt => ?_)
  refine am_start (L := [some (.ref 208)]) rfl ?_
  refine v_aload_n hC dX11_thrown_0 rfl ?_
  refine v_geti (k := 0) hC cls_X11 ly_208 (by decide) rfl aw_1231 rfl dX11_thrown_1 ?_
  cases h
  exact v_iret hC (by decide) (by decide) dX11_thrown_4
def f_X11_throwsIf (N : Nat) (v1 : Int32) (v2 : Int32) (M : Mm) : Option (Int32 × Mm) :=
  (if v1 = (0 : Int32) then grd (isb v1) (some (v1, M)) else lt (wr M 208 0 v2) (fun M3 => grd (isb v1) (some (v1, M3))))
set_option maxRecDepth 20000 in
set_option maxHeartbeats 4000000 in
theorem ok_X11_throwsIf {l : Launch} {N : Nat} {v1 v2 : Int32} {M : Mm} {r : Int32} {M' : Mm} (h : f_X11_throwsIf N v1 v2 M = some (r, M')) : am_M l yX11_throwsIf cX11_throwsIf 3 (some .boolean) 1 0 0 LY M [.ref 208, .int v1, .int v2] (.inl (some (.int r))) M' := by
  unfold f_X11_throwsIf at h
  refine am_intro (by decide) (by simp [Value.category]) (Nat.le_of_ble_eq_true rfl) (fun X hC hnt => ?_)
  refine am_start (L := [some (.ref 208), some (.int v1), some (.int v2)]) rfl ?_
  refine v_iload_n hC dX11_throwsIf_0 rfl ?_
  refine v_if_eq hC 9 dX11_throwsIf_1 rfl (fun c1 => ?_) (fun c1 => ?_)
  · rw [if_pos c1] at h
    refine v_iload_n hC dX11_throwsIf_9 rfl ?_
    obtain ⟨g2, h⟩ := grd_some h
    cases h
    exact v_zret hC (isb_nar g2).1 (by decide) (by decide) dX11_throwsIf_10
  · rw [if_neg c1] at h
    refine v_aload_n hC dX11_throwsIf_4 rfl ?_
    refine v_iload_n hC dX11_throwsIf_5 rfl ?_
    obtain ⟨M3, e_M3, h⟩ := lt_some h
    refine w_puti (k := 0) hC cls_X11 ly_208 (by decide) rfl aw_1231 rfl rfl ⟨rfl, rfl⟩ dX11_throwsIf_6 e_M3 ?_
    refine v_iload_n hC dX11_throwsIf_9 rfl ?_
    obtain ⟨g4, h⟩ := grd_some h
    cases h
    exact v_zret hC (isb_nar g4).1 (by decide) (by decide) dX11_throwsIf_10
def f_X11_in_14 (N : Nat) (M : Mm) : Option (Int32 × Mm) :=
  some ((0 : Int32), M)
def f_X11_in (N : Nat) (v0 : Int32) (v1 : Int32) (v2 : Int32) (M : Mm) : Option (Int32 × Mm) :=
  (if v0 < v1 then f_X11_in_14 N M else (if v2 < v0 then f_X11_in_14 N M else some ((1 : Int32), M)))
set_option maxRecDepth 20000 in
set_option maxHeartbeats 4000000 in
theorem ok_X11_in_14 {N : Nat} {X : am_X} {l : Launch} (hC : am_C X l (am_rm 1 0 0) cX11_in yX11_in.cls (some .boolean)) (hnt : am_NT X) {M : Mm} {r : Int32} {M' : Mm} (h : f_X11_in_14 N M = some (r, M')) : am_V X LY M 0 0 (am_Q X LY 0 0 (.inl (some (.int r))) M') 14 [none, none, none] [] := by
  unfold f_X11_in_14 at h
  refine v_iconst (v := (0 : Int32)) hC dX11_in_14 rfl ?_
  cases h
  exact v_zret hC (by decide) (by decide) (by decide) dX11_in_15
set_option maxRecDepth 20000 in
set_option maxHeartbeats 4000000 in
theorem ok_X11_in {l : Launch} {N : Nat} {v0 v1 v2 : Int32} {M : Mm} {r : Int32} {M' : Mm} (h : f_X11_in N v0 v1 v2 M = some (r, M')) : am_M l yX11_in cX11_in 3 (some .boolean) 1 0 0 LY M [.int v0, .int v1, .int v2] (.inl (some (.int r))) M' := by
  unfold f_X11_in at h
  refine am_intro (by decide) (by simp [Value.category]) (Nat.le_of_ble_eq_true rfl) (fun X hC hnt => ?_)
  refine am_start (L := [some (.int v0), some (.int v1), some (.int v2)]) rfl ?_
  refine v_iload_n hC dX11_in_0 rfl ?_
  refine v_iload_n hC dX11_in_1 rfl ?_
  refine v_icmp_lt hC 14 dX11_in_2 rfl (fun c1 => ?_) (fun c1 => ?_)
  · rw [if_pos c1] at h
    refine v_drop [false, false, false] [none, none, none] rfl ?_
    exact ok_X11_in_14 hC hnt h
  · rw [if_neg c1] at h
    refine v_iload_n hC dX11_in_5 rfl ?_
    refine v_iload_n hC dX11_in_6 rfl ?_
    refine v_icmp_gt hC 14 dX11_in_7 rfl (fun c2 => ?_) (fun c2 => ?_)
    · rw [if_pos c2] at h
      refine v_drop [false, false, false] [none, none, none] rfl ?_
      exact ok_X11_in_14 hC hnt h
    · rw [if_neg c2] at h
      refine v_iconst (v := (1 : Int32)) hC dX11_in_10 rfl ?_
      refine v_goto (tg := 15) hC dX11_in_11 rfl ?_
      cases h
      exact v_zret hC (by decide) (by decide) (by decide) dX11_in_15
def f_X11_holds (N : Nat) (v0 : Int32) (v1 : Int32) (M : Mm) : Option (Int32 × Mm) :=
  (if ((v0 >>> (v1 &&& 31)) &&& (1 : Int32)) = (1 : Int32) then some ((1 : Int32), M) else some ((0 : Int32), M))
set_option maxRecDepth 20000 in
set_option maxHeartbeats 4000000 in
theorem ok_X11_holds {l : Launch} {N : Nat} {v0 v1 : Int32} {M : Mm} {r : Int32} {M' : Mm} (h : f_X11_holds N v0 v1 M = some (r, M')) : am_M l yX11_holds cX11_holds 2 (some .boolean) 1 0 0 LY M [.int v0, .int v1] (.inl (some (.int r))) M' := by
  unfold f_X11_holds at h
  refine am_intro (by decide) (by simp [Value.category]) (Nat.le_of_ble_eq_true rfl) (fun X hC hnt => ?_)
  refine am_start (L := [some (.int v0), some (.int v1)]) rfl ?_
  refine v_iload_n hC dX11_holds_0 rfl ?_
  refine v_iload_n hC dX11_holds_1 rfl ?_
  refine v_ishr hC dX11_holds_2 ?_
  refine v_iconst (v := (1 : Int32)) hC dX11_holds_3 rfl ?_
  refine v_iand hC dX11_holds_4 ?_
  refine v_iconst (v := (1 : Int32)) hC dX11_holds_5 rfl ?_
  refine v_icmp_ne hC 13 dX11_holds_6 rfl (fun c1 => ?_) (fun c1 => ?_)
  · rw [if_neg c1] at h
    refine v_iconst (v := (0 : Int32)) hC dX11_holds_13 rfl ?_
    cases h
    exact v_zret hC (by decide) (by decide) (by decide) dX11_holds_14
  · rw [if_pos c1] at h
    refine v_iconst (v := (1 : Int32)) hC dX11_holds_9 rfl ?_
    refine v_goto (tg := 14) hC dX11_holds_10 rfl ?_
    cases h
    exact v_zret hC (by decide) (by decide) (by decide) dX11_holds_14
def f_X11_image_7 (N : Nat) : Nat → Int32 → Mm → Option (Int32 × Mm)
  | 0, _, _ => none
  | n + 1, v1, M => (if (1258 : Int32) ≤ v1 then lt (wr M 208 6 (1 : Int32)) (fun M3 => some (0, M3)) else grd (inb v1 2107) (grd (inb v1 1258) (lt (wr M 210 (v1).toNatClampNeg (M 209 (v1).toNatClampNeg)) (fun M6 => f_X11_image_7 N n (v1 + (1 : Int32)) M6))))
def f_X11_image (N : Nat) (M : Mm) : Option (Int32 × Mm) :=
  lt (wr M 208 0 (0 : Int32)) (fun M1 => f_X11_image_7 N N (0 : Int32) M1)
set_option maxRecDepth 20000 in
set_option maxHeartbeats 4000000 in
theorem ok_X11_image_7 {N : Nat} {X : am_X} {l : Launch} (hC : am_C X l (am_rm 1 0 0) cX11_image yX11_image.cls none) (hnt : am_NT X) : ∀ (n : Nat) (v1 : Int32) (M : Mm) (r : Int32) (M' : Mm), f_X11_image_7 N n v1 M = some (r, M') → am_V X LY M 0 0 (am_Q X LY 0 0 (.inl none) M') 7 [some (.ref 208), some (.int v1)] [] := by
  intro n
  induction n with
  | zero => intro v1 M r M' h; cases h
  | succ n ih =>
    intro v1 M r M' h
    simp only [f_X11_image_7] at h
    refine v_iload_n hC dX11_image_7 rfl ?_
    refine v_sipush (v := (1258 : Int32)) hC dX11_image_8 rfl ?_
    refine v_icmp_ge hC 32 dX11_image_11 rfl (fun c2 => ?_) (fun c2 => ?_)
    · rw [if_pos c2] at h
      refine v_aload_n hC dX11_image_32 rfl ?_
      refine v_iconst (v := (1 : Int32)) hC dX11_image_33 rfl ?_
      obtain ⟨M3, e_M3, h⟩ := lt_some h
      refine w_puti (k := 6) hC cls_X11 ly_208 (by decide) rfl aw_1237 rfl rfl ⟨by decide, by decide⟩ dX11_image_34 e_M3 ?_
      cases h
      exact v_vret hC (by decide) (by decide) dX11_image_37
    · rw [if_neg c2] at h
      refine v_aload_n hC dX11_image_14 rfl ?_
      refine v_geta (k := 2) (b := 210) hC cls_X11 ly_208 (by decide) rfl aw_1233 rfl dX11_image_15 ?_
      refine v_iload_n hC dX11_image_18 rfl ?_
      refine v_aload_n hC dX11_image_19 rfl ?_
      refine v_geta (k := 1) (b := 209) hC cls_X11 ly_208 (by decide) rfl aw_1232 rfl dX11_image_20 ?_
      refine v_iload_n hC dX11_image_23 rfl ?_
      obtain ⟨g4, h⟩ := grd_some h
      refine v_iald hC ly_209 (inb_in g4) dX11_image_24 ?_
      obtain ⟨g5, h⟩ := grd_some h
      obtain ⟨M6, e_M6, h⟩ := lt_some h
      refine w_iast hC ly_210 (inb_in g5) dX11_image_25 e_M6 ?_
      refine w_iinc hC (v1 + (1 : Int32)) dX11_image_26 rfl rfl [some (.ref 208), some (.int (v1 + (1 : Int32)))] rfl ?_
      refine v_goto (tg := 7) hC dX11_image_29 rfl ?_
      exact ih _ _ _ _ h
set_option maxRecDepth 20000 in
set_option maxHeartbeats 4000000 in
theorem ok_X11_image {l : Launch} {N : Nat} {M : Mm} {r : Int32} {M' : Mm} (h : f_X11_image N M = some (r, M')) : am_M l yX11_image cX11_image 2 none 1 0 0 LY M [.ref 208] (.inl none) M' := by
  unfold f_X11_image at h
  refine am_intro (by decide) (by simp [Value.category]) (Nat.le_of_ble_eq_true rfl) (fun X hC hnt => ?_)
  refine am_start (L := [some (.ref 208), none]) rfl ?_
  refine v_aload_n hC dX11_image_0 rfl ?_
  refine v_iconst (v := (0 : Int32)) hC dX11_image_1 rfl ?_
  obtain ⟨M1, e_M1, h⟩ := lt_some h
  refine w_puti (k := 0) hC cls_X11 ly_208 (by decide) rfl aw_1231 rfl rfl ⟨rfl, rfl⟩ dX11_image_2 e_M1 ?_
  refine v_iconst (v := (0 : Int32)) hC dX11_image_5 rfl ?_
  refine w_istore_n hC dX11_image_6 (ltk rfl) [some (.ref 208), some (.int (0 : Int32))] rfl ?_
  exact ok_X11_image_7 hC hnt N _ _ _ _ h
def f_X11_back_16 (N : Nat) : Nat → Int32 → Mm → Option (Int32 × Mm)
  | 0, _, _ => none
  | n + 1, v1, M => (if (1258 : Int32) ≤ v1 then lt (wr M 208 7 (0 : Int32)) (fun M4 => some ((1 : Int32), M4)) else grd (inb v1 1258) (grd (inb v1 2107) (lt (wr M 209 (v1).toNatClampNeg (M 210 (v1).toNatClampNeg)) (fun M7 => f_X11_back_16 N n (v1 + (1 : Int32)) M7))))
def f_X11_back (N : Nat) (M : Mm) : Option (Int32 × Mm) :=
  lt (wr M 208 0 (0 : Int32)) (fun M1 => (if (M1 208 6) = (0 : Int32) then some ((0 : Int32), M1) else f_X11_back_16 N N (0 : Int32) M1))
set_option maxRecDepth 20000 in
set_option maxHeartbeats 4000000 in
theorem ok_X11_back_16 {N : Nat} {X : am_X} {l : Launch} (hC : am_C X l (am_rm 1 0 0) cX11_back yX11_back.cls (some .boolean)) (hnt : am_NT X) : ∀ (n : Nat) (v1 : Int32) (M : Mm) (r : Int32) (M' : Mm), f_X11_back_16 N n v1 M = some (r, M') → am_V X LY M 0 0 (am_Q X LY 0 0 (.inl (some (.int r))) M') 16 [some (.ref 208), some (.int v1)] [] := by
  intro n
  induction n with
  | zero => intro v1 M r M' h; cases h
  | succ n ih =>
    intro v1 M r M' h
    simp only [f_X11_back_16] at h
    refine v_iload_n hC dX11_back_16 rfl ?_
    refine v_sipush (v := (1258 : Int32)) hC dX11_back_17 rfl ?_
    refine v_icmp_ge hC 41 dX11_back_20 rfl (fun c3 => ?_) (fun c3 => ?_)
    · rw [if_pos c3] at h
      refine v_aload_n hC dX11_back_41 rfl ?_
      refine v_iconst (v := (0 : Int32)) hC dX11_back_42 rfl ?_
      obtain ⟨M4, e_M4, h⟩ := lt_some h
      refine w_puti (k := 7) hC cls_X11 ly_208 (by decide) rfl aw_1238 rfl rfl ⟨rfl, rfl⟩ dX11_back_43 e_M4 ?_
      refine v_iconst (v := (1 : Int32)) hC dX11_back_46 rfl ?_
      cases h
      exact v_zret hC (by decide) (by decide) (by decide) dX11_back_47
    · rw [if_neg c3] at h
      refine v_aload_n hC dX11_back_23 rfl ?_
      refine v_geta (k := 1) (b := 209) hC cls_X11 ly_208 (by decide) rfl aw_1232 rfl dX11_back_24 ?_
      refine v_iload_n hC dX11_back_27 rfl ?_
      refine v_aload_n hC dX11_back_28 rfl ?_
      refine v_geta (k := 2) (b := 210) hC cls_X11 ly_208 (by decide) rfl aw_1233 rfl dX11_back_29 ?_
      refine v_iload_n hC dX11_back_32 rfl ?_
      obtain ⟨g5, h⟩ := grd_some h
      refine v_iald hC ly_210 (inb_in g5) dX11_back_33 ?_
      obtain ⟨g6, h⟩ := grd_some h
      obtain ⟨M7, e_M7, h⟩ := lt_some h
      refine w_iast hC ly_209 (inb_in g6) dX11_back_34 e_M7 ?_
      refine w_iinc hC (v1 + (1 : Int32)) dX11_back_35 rfl rfl [some (.ref 208), some (.int (v1 + (1 : Int32)))] rfl ?_
      refine v_goto (tg := 16) hC dX11_back_38 rfl ?_
      exact ih _ _ _ _ h
set_option maxRecDepth 20000 in
set_option maxHeartbeats 4000000 in
theorem ok_X11_back {l : Launch} {N : Nat} {M : Mm} {r : Int32} {M' : Mm} (h : f_X11_back N M = some (r, M')) : am_M l yX11_back cX11_back 2 (some .boolean) 1 0 0 LY M [.ref 208] (.inl (some (.int r))) M' := by
  unfold f_X11_back at h
  refine am_intro (by decide) (by simp [Value.category]) (Nat.le_of_ble_eq_true rfl) (fun X hC hnt => ?_)
  refine am_start (L := [some (.ref 208), none]) rfl ?_
  refine v_aload_n hC dX11_back_0 rfl ?_
  refine v_iconst (v := (0 : Int32)) hC dX11_back_1 rfl ?_
  obtain ⟨M1, e_M1, h⟩ := lt_some h
  refine w_puti (k := 0) hC cls_X11 ly_208 (by decide) rfl aw_1231 rfl rfl ⟨rfl, rfl⟩ dX11_back_2 e_M1 ?_
  refine v_aload_n hC dX11_back_5 rfl ?_
  refine v_geti (k := 6) hC cls_X11 ly_208 (by decide) rfl aw_1237 rfl dX11_back_6 ?_
  refine v_if_ne hC 14 dX11_back_9 rfl (fun c2 => ?_) (fun c2 => ?_)
  · rw [if_neg c2] at h
    refine v_iconst (v := (0 : Int32)) hC dX11_back_14 rfl ?_
    refine w_istore_n hC dX11_back_15 (ltk rfl) [some (.ref 208), some (.int (0 : Int32))] rfl ?_
    exact ok_X11_back_16 hC hnt N _ _ _ _ h
  · rw [if_pos c2] at h
    refine v_iconst (v := (0 : Int32)) hC dX11_back_12 rfl ?_
    cases h
    exact v_zret hC (by decide) (by decide) (by decide) dX11_back_13
def f_X11_remembers_55 (N : Nat) : Nat → Int32 → Mm → Option (Int32 × Mm)
  | 0, _, _ => none
  | n + 1, v1, M => (if (409 : Int32) ≤ v1 then some (0, M) else grd (inb v1 2107) (grd (inb (((409 : Int32) * ((M 208 7) - (1 : Int32))) + v1) 4908) (lt (wr M 213 ((((409 : Int32) * ((M 208 7) - (1 : Int32))) + v1)).toNatClampNeg (M 209 (v1).toNatClampNeg)) (fun M6 => f_X11_remembers_55 N n (v1 + (1 : Int32)) M6))))
def f_X11_remembers_11 (N : Nat) : Nat → Int32 → Mm → Option (Int32 × Mm)
  | 0, _, _ => none
  | n + 1, v1, M => (if (4499 : Int32) ≤ v1 then f_X11_remembers_55 N N (0 : Int32) M else grd (inb (v1 + (409 : Int32)) 4908) (grd (inb v1 4908) (lt (wr M 213 (v1).toNatClampNeg (M 213 ((v1 + (409 : Int32))).toNatClampNeg)) (fun M11 => f_X11_remembers_11 N n (v1 + (1 : Int32)) M11))))
def f_X11_remembers (N : Nat) (M : Mm) : Option (Int32 × Mm) :=
  (if (M 208 7) = (12 : Int32) then f_X11_remembers_11 N N (0 : Int32) M else lt (wr M 208 7 ((M 208 7) + (1 : Int32))) (fun M2 => f_X11_remembers_55 N N (0 : Int32) M2))
set_option maxRecDepth 20000 in
set_option maxHeartbeats 4000000 in
theorem ok_X11_remembers_55 {N : Nat} {X : am_X} {l : Launch} (hC : am_C X l (am_rm 1 0 0) cX11_remembers yX11_remembers.cls none) (hnt : am_NT X) : ∀ (n : Nat) (v1 : Int32) (M : Mm) (r : Int32) (M' : Mm), f_X11_remembers_55 N n v1 M = some (r, M') → am_V X LY M 0 0 (am_Q X LY 0 0 (.inl none) M') 55 [some (.ref 208), some (.int v1)] [] := by
  intro n
  induction n with
  | zero => intro v1 M r M' h; cases h
  | succ n ih =>
    intro v1 M r M' h
    simp only [f_X11_remembers_55] at h
    refine v_iload_n hC dX11_remembers_55 rfl ?_
    refine v_sipush (v := (409 : Int32)) hC dX11_remembers_56 rfl ?_
    refine v_icmp_ge hC 91 dX11_remembers_59 rfl (fun c3 => ?_) (fun c3 => ?_)
    · rw [if_pos c3] at h
      cases h
      exact v_vret hC (by decide) (by decide) dX11_remembers_91
    · rw [if_neg c3] at h
      refine v_aload_n hC dX11_remembers_62 rfl ?_
      refine v_geta (k := 5) (b := 213) hC cls_X11 ly_208 (by decide) rfl aw_1236 rfl dX11_remembers_63 ?_
      refine v_sipush (v := (409 : Int32)) hC dX11_remembers_66 rfl ?_
      refine v_aload_n hC dX11_remembers_69 rfl ?_
      refine v_geti (k := 7) hC cls_X11 ly_208 (by decide) rfl aw_1238 rfl dX11_remembers_70 ?_
      refine v_iconst (v := (1 : Int32)) hC dX11_remembers_73 rfl ?_
      refine v_isub hC dX11_remembers_74 ?_
      refine v_imul hC dX11_remembers_75 ?_
      refine v_iload_n hC dX11_remembers_76 rfl ?_
      refine v_iadd hC dX11_remembers_77 ?_
      refine v_aload_n hC dX11_remembers_78 rfl ?_
      refine v_geta (k := 1) (b := 209) hC cls_X11 ly_208 (by decide) rfl aw_1232 rfl dX11_remembers_79 ?_
      refine v_iload_n hC dX11_remembers_82 rfl ?_
      obtain ⟨g4, h⟩ := grd_some h
      refine v_iald hC ly_209 (inb_in g4) dX11_remembers_83 ?_
      obtain ⟨g5, h⟩ := grd_some h
      obtain ⟨M6, e_M6, h⟩ := lt_some h
      refine w_iast hC ly_213 (inb_in g5) dX11_remembers_84 e_M6 ?_
      refine w_iinc hC (v1 + (1 : Int32)) dX11_remembers_85 rfl rfl [some (.ref 208), some (.int (v1 + (1 : Int32)))] rfl ?_
      refine v_goto (tg := 55) hC dX11_remembers_88 rfl ?_
      exact ih _ _ _ _ h
set_option maxRecDepth 20000 in
set_option maxHeartbeats 4000000 in
theorem ok_X11_remembers_11 {N : Nat} {X : am_X} {l : Launch} (hC : am_C X l (am_rm 1 0 0) cX11_remembers yX11_remembers.cls none) (hnt : am_NT X) : ∀ (n : Nat) (v1 : Int32) (M : Mm) (r : Int32) (M' : Mm), f_X11_remembers_11 N n v1 M = some (r, M') → am_V X LY M 0 0 (am_Q X LY 0 0 (.inl none) M') 11 [some (.ref 208), some (.int v1)] [] := by
  intro n
  induction n with
  | zero => intro v1 M r M' h; cases h
  | succ n ih =>
    intro v1 M r M' h
    simp only [f_X11_remembers_11] at h
    refine v_iload_n hC dX11_remembers_11 rfl ?_
    refine v_sipush (v := (4499 : Int32)) hC dX11_remembers_12 rfl ?_
    refine v_icmp_ge hC 40 dX11_remembers_15 rfl (fun c8 => ?_) (fun c8 => ?_)
    · rw [if_pos c8] at h
      refine v_goto (tg := 53) hC dX11_remembers_40 rfl ?_
      refine v_iconst (v := (0 : Int32)) hC dX11_remembers_53 rfl ?_
      refine w_istore_n hC dX11_remembers_54 (ltk rfl) [some (.ref 208), some (.int (0 : Int32))] rfl ?_
      exact ok_X11_remembers_55 hC hnt N _ _ _ _ h
    · rw [if_neg c8] at h
      refine v_aload_n hC dX11_remembers_18 rfl ?_
      refine v_geta (k := 5) (b := 213) hC cls_X11 ly_208 (by decide) rfl aw_1236 rfl dX11_remembers_19 ?_
      refine v_iload_n hC dX11_remembers_22 rfl ?_
      refine v_aload_n hC dX11_remembers_23 rfl ?_
      refine v_geta (k := 5) (b := 213) hC cls_X11 ly_208 (by decide) rfl aw_1236 rfl dX11_remembers_24 ?_
      refine v_iload_n hC dX11_remembers_27 rfl ?_
      refine v_sipush (v := (409 : Int32)) hC dX11_remembers_28 rfl ?_
      refine v_iadd hC dX11_remembers_31 ?_
      obtain ⟨g9, h⟩ := grd_some h
      refine v_iald hC ly_213 (inb_in g9) dX11_remembers_32 ?_
      obtain ⟨g10, h⟩ := grd_some h
      obtain ⟨M11, e_M11, h⟩ := lt_some h
      refine w_iast hC ly_213 (inb_in g10) dX11_remembers_33 e_M11 ?_
      refine w_iinc hC (v1 + (1 : Int32)) dX11_remembers_34 rfl rfl [some (.ref 208), some (.int (v1 + (1 : Int32)))] rfl ?_
      refine v_goto (tg := 11) hC dX11_remembers_37 rfl ?_
      exact ih _ _ _ _ h
set_option maxRecDepth 20000 in
set_option maxHeartbeats 4000000 in
theorem ok_X11_remembers {l : Launch} {N : Nat} {M : Mm} {r : Int32} {M' : Mm} (h : f_X11_remembers N M = some (r, M')) : am_M l yX11_remembers cX11_remembers 2 none 1 0 0 LY M [.ref 208] (.inl none) M' := by
  unfold f_X11_remembers at h
  refine am_intro (by decide) (by simp [Value.category]) (Nat.le_of_ble_eq_true rfl) (fun X hC hnt => ?_)
  refine am_start (L := [some (.ref 208), none]) rfl ?_
  refine v_aload_n hC dX11_remembers_0 rfl ?_
  refine v_geti (k := 7) hC cls_X11 ly_208 (by decide) rfl aw_1238 rfl dX11_remembers_1 ?_
  refine v_bipush (v := (12 : Int32)) hC dX11_remembers_4 rfl ?_
  refine v_icmp_ne hC 43 dX11_remembers_6 rfl (fun c1 => ?_) (fun c1 => ?_)
  · rw [if_neg c1] at h
    refine v_aload_n hC dX11_remembers_43 rfl ?_
    refine v_dup hC dX11_remembers_44 rfl ?_
    refine v_geti (k := 7) hC cls_X11 ly_208 (by decide) rfl aw_1238 rfl dX11_remembers_45 ?_
    refine v_iconst (v := (1 : Int32)) hC dX11_remembers_48 rfl ?_
    refine v_iadd hC dX11_remembers_49 ?_
    obtain ⟨M2, e_M2, h⟩ := lt_some h
    refine w_puti (k := 7) hC cls_X11 ly_208 (by decide) rfl aw_1238 rfl rfl ⟨rfl, rfl⟩ dX11_remembers_50 e_M2 ?_
    refine v_iconst (v := (0 : Int32)) hC dX11_remembers_53 rfl ?_
    refine w_istore_n hC dX11_remembers_54 (ltk rfl) [some (.ref 208), some (.int (0 : Int32))] rfl ?_
    exact ok_X11_remembers_55 hC hnt N _ _ _ _ h
  · rw [if_pos c1] at h
    refine v_iconst (v := (0 : Int32)) hC dX11_remembers_9 rfl ?_
    refine w_istore_n hC dX11_remembers_10 (ltk rfl) [some (.ref 208), some (.int (0 : Int32))] rfl ?_
    exact ok_X11_remembers_11 hC hnt N _ _ _ _ h
def f_X11_undo_26 (N : Nat) : Nat → Int32 → Mm → Option (Int32 × Mm)
  | 0, _, _ => none
  | n + 1, v1, M => (if (409 : Int32) ≤ v1 then some ((1 : Int32), M) else grd (inb (((409 : Int32) * (M 208 7)) + v1) 4908) (grd (inb v1 2107) (lt (wr M 209 (v1).toNatClampNeg (M 213 ((((409 : Int32) * (M 208 7)) + v1)).toNatClampNeg)) (fun M7 => f_X11_undo_26 N n (v1 + (1 : Int32)) M7))))
def f_X11_undo (N : Nat) (M : Mm) : Option (Int32 × Mm) :=
  lt (wr M 208 0 (0 : Int32)) (fun M1 => (if (M1 208 7) = (0 : Int32) then some ((0 : Int32), M1) else lt (wr M1 208 7 ((M1 208 7) - (1 : Int32))) (fun M3 => f_X11_undo_26 N N (0 : Int32) M3)))
set_option maxRecDepth 20000 in
set_option maxHeartbeats 4000000 in
theorem ok_X11_undo_26 {N : Nat} {X : am_X} {l : Launch} (hC : am_C X l (am_rm 1 0 0) cX11_undo yX11_undo.cls (some .boolean)) (hnt : am_NT X) : ∀ (n : Nat) (v1 : Int32) (M : Mm) (r : Int32) (M' : Mm), f_X11_undo_26 N n v1 M = some (r, M') → am_V X LY M 0 0 (am_Q X LY 0 0 (.inl (some (.int r))) M') 26 [some (.ref 208), some (.int v1)] [] := by
  intro n
  induction n with
  | zero => intro v1 M r M' h; cases h
  | succ n ih =>
    intro v1 M r M' h
    simp only [f_X11_undo_26] at h
    refine v_iload_n hC dX11_undo_26 rfl ?_
    refine v_sipush (v := (409 : Int32)) hC dX11_undo_27 rfl ?_
    refine v_icmp_ge hC 60 dX11_undo_30 rfl (fun c4 => ?_) (fun c4 => ?_)
    · rw [if_pos c4] at h
      refine v_iconst (v := (1 : Int32)) hC dX11_undo_60 rfl ?_
      cases h
      exact v_zret hC (by decide) (by decide) (by decide) dX11_undo_61
    · rw [if_neg c4] at h
      refine v_aload_n hC dX11_undo_33 rfl ?_
      refine v_geta (k := 1) (b := 209) hC cls_X11 ly_208 (by decide) rfl aw_1232 rfl dX11_undo_34 ?_
      refine v_iload_n hC dX11_undo_37 rfl ?_
      refine v_aload_n hC dX11_undo_38 rfl ?_
      refine v_geta (k := 5) (b := 213) hC cls_X11 ly_208 (by decide) rfl aw_1236 rfl dX11_undo_39 ?_
      refine v_sipush (v := (409 : Int32)) hC dX11_undo_42 rfl ?_
      refine v_aload_n hC dX11_undo_45 rfl ?_
      refine v_geti (k := 7) hC cls_X11 ly_208 (by decide) rfl aw_1238 rfl dX11_undo_46 ?_
      refine v_imul hC dX11_undo_49 ?_
      refine v_iload_n hC dX11_undo_50 rfl ?_
      refine v_iadd hC dX11_undo_51 ?_
      obtain ⟨g5, h⟩ := grd_some h
      refine v_iald hC ly_213 (inb_in g5) dX11_undo_52 ?_
      obtain ⟨g6, h⟩ := grd_some h
      obtain ⟨M7, e_M7, h⟩ := lt_some h
      refine w_iast hC ly_209 (inb_in g6) dX11_undo_53 e_M7 ?_
      refine w_iinc hC (v1 + (1 : Int32)) dX11_undo_54 rfl rfl [some (.ref 208), some (.int (v1 + (1 : Int32)))] rfl ?_
      refine v_goto (tg := 26) hC dX11_undo_57 rfl ?_
      exact ih _ _ _ _ h
set_option maxRecDepth 20000 in
set_option maxHeartbeats 4000000 in
theorem ok_X11_undo {l : Launch} {N : Nat} {M : Mm} {r : Int32} {M' : Mm} (h : f_X11_undo N M = some (r, M')) : am_M l yX11_undo cX11_undo 2 (some .boolean) 1 0 0 LY M [.ref 208] (.inl (some (.int r))) M' := by
  unfold f_X11_undo at h
  refine am_intro (by decide) (by simp [Value.category]) (Nat.le_of_ble_eq_true rfl) (fun X hC hnt => ?_)
  refine am_start (L := [some (.ref 208), none]) rfl ?_
  refine v_aload_n hC dX11_undo_0 rfl ?_
  refine v_iconst (v := (0 : Int32)) hC dX11_undo_1 rfl ?_
  obtain ⟨M1, e_M1, h⟩ := lt_some h
  refine w_puti (k := 0) hC cls_X11 ly_208 (by decide) rfl aw_1231 rfl rfl ⟨rfl, rfl⟩ dX11_undo_2 e_M1 ?_
  refine v_aload_n hC dX11_undo_5 rfl ?_
  refine v_geti (k := 7) hC cls_X11 ly_208 (by decide) rfl aw_1238 rfl dX11_undo_6 ?_
  refine v_if_ne hC 14 dX11_undo_9 rfl (fun c2 => ?_) (fun c2 => ?_)
  · rw [if_neg c2] at h
    refine v_aload_n hC dX11_undo_14 rfl ?_
    refine v_dup hC dX11_undo_15 rfl ?_
    refine v_geti (k := 7) hC cls_X11 ly_208 (by decide) rfl aw_1238 rfl dX11_undo_16 ?_
    refine v_iconst (v := (1 : Int32)) hC dX11_undo_19 rfl ?_
    refine v_isub hC dX11_undo_20 ?_
    obtain ⟨M3, e_M3, h⟩ := lt_some h
    refine w_puti (k := 7) hC cls_X11 ly_208 (by decide) rfl aw_1238 rfl rfl ⟨rfl, rfl⟩ dX11_undo_21 e_M3 ?_
    refine v_iconst (v := (0 : Int32)) hC dX11_undo_24 rfl ?_
    refine w_istore_n hC dX11_undo_25 (ltk rfl) [some (.ref 208), some (.int (0 : Int32))] rfl ?_
    exact ok_X11_undo_26 hC hnt N _ _ _ _ h
  · rw [if_pos c2] at h
    refine v_iconst (v := (0 : Int32)) hC dX11_undo_12 rfl ?_
    cases h
    exact v_zret hC (by decide) (by decide) (by decide) dX11_undo_13
def f_X11_diners (N : Nat) (M : Mm) : Option (Int32 × Mm) :=
  grd (inb (0 : Int32) 2107) (some ((M 209 ((0 : Int32)).toNatClampNeg), M))
set_option maxRecDepth 20000 in
set_option maxHeartbeats 4000000 in
theorem ok_X11_diners {l : Launch} {N : Nat} {M : Mm} {r : Int32} {M' : Mm} (h : f_X11_diners N M = some (r, M')) : am_M l yX11_diners cX11_diners 1 (some .int) 1 0 0 LY M [.ref 208] (.inl (some (.int r))) M' := by
  unfold f_X11_diners at h
  refine am_intro (by decide) (by simp [Value.category]) (Nat.le_of_ble_eq_true rfl) (fun X hC hnt => ?_)
  refine am_start (L := [some (.ref 208)]) rfl ?_
  refine v_aload_n hC dX11_diners_0 rfl ?_
  refine v_geta (k := 1) (b := 209) hC cls_X11 ly_208 (by decide) rfl aw_1232 rfl dX11_diners_1 ?_
  refine v_iconst (v := (0 : Int32)) hC dX11_diners_4 rfl ?_
  obtain ⟨g1, h⟩ := grd_some h
  refine v_iald hC ly_209 (inb_in g1) dX11_diners_5 ?_
  cases h
  exact v_iret hC (by decide) (by decide) dX11_diners_6
def f_X11_cellars (N : Nat) (M : Mm) : Option (Int32 × Mm) :=
  grd (inb (1 : Int32) 2107) (some ((M 209 ((1 : Int32)).toNatClampNeg), M))
set_option maxRecDepth 20000 in
set_option maxHeartbeats 4000000 in
theorem ok_X11_cellars {l : Launch} {N : Nat} {M : Mm} {r : Int32} {M' : Mm} (h : f_X11_cellars N M = some (r, M')) : am_M l yX11_cellars cX11_cellars 1 (some .int) 1 0 0 LY M [.ref 208] (.inl (some (.int r))) M' := by
  unfold f_X11_cellars at h
  refine am_intro (by decide) (by simp [Value.category]) (Nat.le_of_ble_eq_true rfl) (fun X hC hnt => ?_)
  refine am_start (L := [some (.ref 208)]) rfl ?_
  refine v_aload_n hC dX11_cellars_0 rfl ?_
  refine v_geta (k := 1) (b := 209) hC cls_X11 ly_208 (by decide) rfl aw_1232 rfl dX11_cellars_1 ?_
  refine v_iconst (v := (1 : Int32)) hC dX11_cellars_4 rfl ?_
  obtain ⟨g1, h⟩ := grd_some h
  refine v_iald hC ly_209 (inb_in g1) dX11_cellars_5 ?_
  cases h
  exact v_iret hC (by decide) (by decide) dX11_cellars_6
def f_X11_dinerAt (N : Nat) (v0 : Int32) (v1 : Int32) (M : Mm) : Option (Int32 × Mm) :=
  some ((((12 : Int32) + ((9 : Int32) * v0)) + v1), M)
set_option maxRecDepth 20000 in
set_option maxHeartbeats 4000000 in
theorem ok_X11_dinerAt {l : Launch} {N : Nat} {v0 v1 : Int32} {M : Mm} {r : Int32} {M' : Mm} (h : f_X11_dinerAt N v0 v1 M = some (r, M')) : am_M l yX11_dinerAt cX11_dinerAt 2 (some .int) 1 0 0 LY M [.int v0, .int v1] (.inl (some (.int r))) M' := by
  unfold f_X11_dinerAt at h
  refine am_intro (by decide) (by simp [Value.category]) (Nat.le_of_ble_eq_true rfl) (fun X hC hnt => ?_)
  refine am_start (L := [some (.int v0), some (.int v1)]) rfl ?_
  refine v_bipush (v := (12 : Int32)) hC dX11_dinerAt_0 rfl ?_
  refine v_bipush (v := (9 : Int32)) hC dX11_dinerAt_2 rfl ?_
  refine v_iload_n hC dX11_dinerAt_4 rfl ?_
  refine v_imul hC dX11_dinerAt_5 ?_
  refine v_iadd hC dX11_dinerAt_6 ?_
  refine v_iload_n hC dX11_dinerAt_7 rfl ?_
  refine v_iadd hC dX11_dinerAt_8 ?_
  cases h
  exact v_iret hC (by decide) (by decide) dX11_dinerAt_9
def f_X11_of (N : Nat) (v1 : Int32) (v2 : Int32) (M : Mm) : Option (Int32 × Mm) :=
  bnd (f_X11_dinerAt N v1 v2 M) (fun r1 M2 => grd (inb r1 2107) (some ((M2 209 (r1).toNatClampNeg), M2)))
set_option maxRecDepth 20000 in
set_option maxHeartbeats 4000000 in
theorem ok_X11_of {l : Launch} {N : Nat} {v1 v2 : Int32} {M : Mm} {r : Int32} {M' : Mm} (h : f_X11_of N v1 v2 M = some (r, M')) : am_M l yX11_of cX11_of 3 (some .int) 2 0 0 LY M [.ref 208, .int v1, .int v2] (.inl (some (.int r))) M' := by
  unfold f_X11_of at h
  refine am_intro (by decide) (by simp [Value.category]) (Nat.le_of_ble_eq_true rfl) (fun X hC hnt => ?_)
  refine am_start (L := [some (.ref 208), some (.int v1), some (.int v2)]) rfl ?_
  refine v_aload_n hC dX11_of_0 rfl ?_
  refine v_geta (k := 1) (b := 209) hC cls_X11 ly_208 (by decide) rfl aw_1232 rfl dX11_of_1 ?_
  refine v_iload_n hC dX11_of_4 rfl ?_
  refine v_iload_n hC dX11_of_5 rfl ?_
  obtain ⟨r1, M2, q3, h⟩ := bnd_some h
  refine w_callSi hC [.int v1, .int v2] [.ref 209] (ok_X11_dinerAt q3) ms_X11_dinerAt aw_1384 rfl (Nat.le_of_ble_eq_true rfl) ⟨by decide, by decide⟩ ⟨by decide, by decide⟩ dX11_of_6 ?_
  obtain ⟨g4, h⟩ := grd_some h
  refine v_iald hC ly_209 (inb_in g4) dX11_of_9 ?_
  cases h
  exact v_iret hC (by decide) (by decide) dX11_of_10
def f_X11_onDiet (N : Nat) (v1 : Int32) (M : Mm) : Option (Int32 × Mm) :=
  bnd (f_X11_of N v1 (2 : Int32) M) (fun r1 M2 => (if r1 = (1 : Int32) then some ((1 : Int32), M2) else some ((0 : Int32), M2)))
set_option maxRecDepth 20000 in
set_option maxHeartbeats 4000000 in
theorem ok_X11_onDiet {l : Launch} {N : Nat} {v1 : Int32} {M : Mm} {r : Int32} {M' : Mm} (h : f_X11_onDiet N v1 M = some (r, M')) : am_M l yX11_onDiet cX11_onDiet 2 (some .boolean) 3 0 0 LY M [.ref 208, .int v1] (.inl (some (.int r))) M' := by
  unfold f_X11_onDiet at h
  refine am_intro (by decide) (by simp [Value.category]) (Nat.le_of_ble_eq_true rfl) (fun X hC hnt => ?_)
  refine am_start (L := [some (.ref 208), some (.int v1)]) rfl ?_
  refine v_aload_n hC dX11_onDiet_0 rfl ?_
  refine v_iload_n hC dX11_onDiet_1 rfl ?_
  refine v_iconst (v := (2 : Int32)) hC dX11_onDiet_2 rfl ?_
  obtain ⟨r1, M2, q3, h⟩ := bnd_some h
  refine w_callVi hC [.int v1, .int (2 : Int32)] [] (ok_X11_of q3) mv_X11_of aw_1380 ly_208 rfl (Nat.le_of_ble_eq_true rfl) ⟨by decide, by decide⟩ ⟨by decide, by decide⟩ dX11_onDiet_3 ?_
  refine v_iconst (v := (1 : Int32)) hC dX11_onDiet_6 rfl ?_
  refine v_icmp_ne hC 14 dX11_onDiet_7 rfl (fun c4 => ?_) (fun c4 => ?_)
  · rw [if_neg c4] at h
    refine v_iconst (v := (0 : Int32)) hC dX11_onDiet_14 rfl ?_
    cases h
    exact v_zret hC (by decide) (by decide) (by decide) dX11_onDiet_15
  · rw [if_pos c4] at h
    refine v_iconst (v := (1 : Int32)) hC dX11_onDiet_10 rfl ?_
    refine v_goto (tg := 15) hC dX11_onDiet_11 rfl ?_
    cases h
    exact v_zret hC (by decide) (by decide) (by decide) dX11_onDiet_15
def f_X11_cellarAt (N : Nat) (v0 : Int32) (v1 : Int32) (M : Mm) : Option (Int32 × Mm) :=
  some ((((84 : Int32) + ((5 : Int32) * v0)) + v1), M)
set_option maxRecDepth 20000 in
set_option maxHeartbeats 4000000 in
theorem ok_X11_cellarAt {l : Launch} {N : Nat} {v0 v1 : Int32} {M : Mm} {r : Int32} {M' : Mm} (h : f_X11_cellarAt N v0 v1 M = some (r, M')) : am_M l yX11_cellarAt cX11_cellarAt 2 (some .int) 1 0 0 LY M [.int v0, .int v1] (.inl (some (.int r))) M' := by
  unfold f_X11_cellarAt at h
  refine am_intro (by decide) (by simp [Value.category]) (Nat.le_of_ble_eq_true rfl) (fun X hC hnt => ?_)
  refine am_start (L := [some (.int v0), some (.int v1)]) rfl ?_
  refine v_bipush (v := (84 : Int32)) hC dX11_cellarAt_0 rfl ?_
  refine v_iconst (v := (5 : Int32)) hC dX11_cellarAt_2 rfl ?_
  refine v_iload_n hC dX11_cellarAt_3 rfl ?_
  refine v_imul hC dX11_cellarAt_4 ?_
  refine v_iadd hC dX11_cellarAt_5 ?_
  refine v_iload_n hC dX11_cellarAt_6 rfl ?_
  refine v_iadd hC dX11_cellarAt_7 ?_
  cases h
  exact v_iret hC (by decide) (by decide) dX11_cellarAt_8
def f_X11_ofCellar (N : Nat) (v1 : Int32) (v2 : Int32) (M : Mm) : Option (Int32 × Mm) :=
  bnd (f_X11_cellarAt N v1 v2 M) (fun r1 M2 => grd (inb r1 2107) (some ((M2 209 (r1).toNatClampNeg), M2)))
set_option maxRecDepth 20000 in
set_option maxHeartbeats 4000000 in
theorem ok_X11_ofCellar {l : Launch} {N : Nat} {v1 v2 : Int32} {M : Mm} {r : Int32} {M' : Mm} (h : f_X11_ofCellar N v1 v2 M = some (r, M')) : am_M l yX11_ofCellar cX11_ofCellar 3 (some .int) 2 0 0 LY M [.ref 208, .int v1, .int v2] (.inl (some (.int r))) M' := by
  unfold f_X11_ofCellar at h
  refine am_intro (by decide) (by simp [Value.category]) (Nat.le_of_ble_eq_true rfl) (fun X hC hnt => ?_)
  refine am_start (L := [some (.ref 208), some (.int v1), some (.int v2)]) rfl ?_
  refine v_aload_n hC dX11_ofCellar_0 rfl ?_
  refine v_geta (k := 1) (b := 209) hC cls_X11 ly_208 (by decide) rfl aw_1232 rfl dX11_ofCellar_1 ?_
  refine v_iload_n hC dX11_ofCellar_4 rfl ?_
  refine v_iload_n hC dX11_ofCellar_5 rfl ?_
  obtain ⟨r1, M2, q3, h⟩ := bnd_some h
  refine w_callSi hC [.int v1, .int v2] [.ref 209] (ok_X11_cellarAt q3) ms_X11_cellarAt aw_1410 rfl (Nat.le_of_ble_eq_true rfl) ⟨by decide, by decide⟩ ⟨by decide, by decide⟩ dX11_ofCellar_6 ?_
  obtain ⟨g4, h⟩ := grd_some h
  refine v_iald hC ly_209 (inb_in g4) dX11_ofCellar_9 ?_
  cases h
  exact v_iret hC (by decide) (by decide) dX11_ofCellar_10
def f_X11_isFree (N : Nat) (v1 : Int32) (M : Mm) : Option (Int32 × Mm) :=
  bnd (f_X11_ofCellar N v1 (2 : Int32) M) (fun r1 M2 => (if r1 = (0 : Int32) then some ((1 : Int32), M2) else some ((0 : Int32), M2)))
set_option maxRecDepth 20000 in
set_option maxHeartbeats 4000000 in
theorem ok_X11_isFree {l : Launch} {N : Nat} {v1 : Int32} {M : Mm} {r : Int32} {M' : Mm} (h : f_X11_isFree N v1 M = some (r, M')) : am_M l yX11_isFree cX11_isFree 2 (some .boolean) 3 0 0 LY M [.ref 208, .int v1] (.inl (some (.int r))) M' := by
  unfold f_X11_isFree at h
  refine am_intro (by decide) (by simp [Value.category]) (Nat.le_of_ble_eq_true rfl) (fun X hC hnt => ?_)
  refine am_start (L := [some (.ref 208), some (.int v1)]) rfl ?_
  refine v_aload_n hC dX11_isFree_0 rfl ?_
  refine v_iload_n hC dX11_isFree_1 rfl ?_
  refine v_iconst (v := (2 : Int32)) hC dX11_isFree_2 rfl ?_
  obtain ⟨r1, M2, q3, h⟩ := bnd_some h
  refine w_callVi hC [.int v1, .int (2 : Int32)] [] (ok_X11_ofCellar q3) mv_X11_ofCellar aw_1510 ly_208 rfl (Nat.le_of_ble_eq_true rfl) ⟨by decide, by decide⟩ ⟨by decide, by decide⟩ dX11_isFree_3 ?_
  refine v_if_ne hC 13 dX11_isFree_6 rfl (fun c4 => ?_) (fun c4 => ?_)
  · rw [if_neg c4] at h
    refine v_iconst (v := (0 : Int32)) hC dX11_isFree_13 rfl ?_
    cases h
    exact v_zret hC (by decide) (by decide) (by decide) dX11_isFree_14
  · rw [if_pos c4] at h
    refine v_iconst (v := (1 : Int32)) hC dX11_isFree_9 rfl ?_
    refine v_goto (tg := 14) hC dX11_isFree_10 rfl ?_
    cases h
    exact v_zret hC (by decide) (by decide) (by decide) dX11_isFree_14
def f_X11_noDiner (N : Nat) (v1 : Int32) (M : Mm) : Option (Int32 × Mm) :=
  bnd (f_X11_diners N M) (fun r1 M2 => bnd (f_X11_in N v1 (0 : Int32) (r1 - (1 : Int32)) M2) (fun r4 M5 => (if r4 = (0 : Int32) then some ((1 : Int32), M5) else some ((0 : Int32), M5))))
set_option maxRecDepth 20000 in
set_option maxHeartbeats 4000000 in
theorem ok_X11_noDiner {l : Launch} {N : Nat} {v1 : Int32} {M : Mm} {r : Int32} {M' : Mm} (h : f_X11_noDiner N v1 M = some (r, M')) : am_M l yX11_noDiner cX11_noDiner 2 (some .boolean) 2 0 0 LY M [.ref 208, .int v1] (.inl (some (.int r))) M' := by
  unfold f_X11_noDiner at h
  refine am_intro (by decide) (by simp [Value.category]) (Nat.le_of_ble_eq_true rfl) (fun X hC hnt => ?_)
  refine am_start (L := [some (.ref 208), some (.int v1)]) rfl ?_
  refine v_iload_n hC dX11_noDiner_0 rfl ?_
  refine v_iconst (v := (0 : Int32)) hC dX11_noDiner_1 rfl ?_
  refine v_aload_n hC dX11_noDiner_2 rfl ?_
  obtain ⟨r1, M2, q3, h⟩ := bnd_some h
  refine w_callVi hC [] [.int (0 : Int32), .int v1] (ok_X11_diners q3) mv_X11_diners aw_1362 ly_208 rfl (Nat.le_of_ble_eq_true rfl) ⟨by decide, by decide⟩ ⟨by decide, by decide⟩ dX11_noDiner_3 ?_
  refine v_iconst (v := (1 : Int32)) hC dX11_noDiner_6 rfl ?_
  refine v_isub hC dX11_noDiner_7 ?_
  obtain ⟨r4, M5, q6, h⟩ := bnd_some h
  refine w_callSi hC [.int v1, .int (0 : Int32), .int (r1 - (1 : Int32))] [] (ok_X11_in q6) ms_X11_in aw_1404 rfl (Nat.le_of_ble_eq_true rfl) ⟨by decide, by decide⟩ ⟨by decide, by decide⟩ dX11_noDiner_8 ?_
  refine v_if_ne hC 18 dX11_noDiner_11 rfl (fun c7 => ?_) (fun c7 => ?_)
  · rw [if_neg c7] at h
    refine v_iconst (v := (0 : Int32)) hC dX11_noDiner_18 rfl ?_
    cases h
    exact v_zret hC (by decide) (by decide) (by decide) dX11_noDiner_19
  · rw [if_pos c7] at h
    refine v_iconst (v := (1 : Int32)) hC dX11_noDiner_14 rfl ?_
    refine v_goto (tg := 19) hC dX11_noDiner_15 rfl ?_
    cases h
    exact v_zret hC (by decide) (by decide) (by decide) dX11_noDiner_19
def f_X11_noCellar (N : Nat) (v1 : Int32) (M : Mm) : Option (Int32 × Mm) :=
  bnd (f_X11_cellars N M) (fun r1 M2 => bnd (f_X11_in N v1 (0 : Int32) (r1 - (1 : Int32)) M2) (fun r4 M5 => (if r4 = (0 : Int32) then some ((1 : Int32), M5) else some ((0 : Int32), M5))))
set_option maxRecDepth 20000 in
set_option maxHeartbeats 4000000 in
theorem ok_X11_noCellar {l : Launch} {N : Nat} {v1 : Int32} {M : Mm} {r : Int32} {M' : Mm} (h : f_X11_noCellar N v1 M = some (r, M')) : am_M l yX11_noCellar cX11_noCellar 2 (some .boolean) 2 0 0 LY M [.ref 208, .int v1] (.inl (some (.int r))) M' := by
  unfold f_X11_noCellar at h
  refine am_intro (by decide) (by simp [Value.category]) (Nat.le_of_ble_eq_true rfl) (fun X hC hnt => ?_)
  refine am_start (L := [some (.ref 208), some (.int v1)]) rfl ?_
  refine v_iload_n hC dX11_noCellar_0 rfl ?_
  refine v_iconst (v := (0 : Int32)) hC dX11_noCellar_1 rfl ?_
  refine v_aload_n hC dX11_noCellar_2 rfl ?_
  obtain ⟨r1, M2, q3, h⟩ := bnd_some h
  refine w_callVi hC [] [.int (0 : Int32), .int v1] (ok_X11_cellars q3) mv_X11_cellars aw_1397 ly_208 rfl (Nat.le_of_ble_eq_true rfl) ⟨by decide, by decide⟩ ⟨by decide, by decide⟩ dX11_noCellar_3 ?_
  refine v_iconst (v := (1 : Int32)) hC dX11_noCellar_6 rfl ?_
  refine v_isub hC dX11_noCellar_7 ?_
  obtain ⟨r4, M5, q6, h⟩ := bnd_some h
  refine w_callSi hC [.int v1, .int (0 : Int32), .int (r1 - (1 : Int32))] [] (ok_X11_in q6) ms_X11_in aw_1404 rfl (Nat.le_of_ble_eq_true rfl) ⟨by decide, by decide⟩ ⟨by decide, by decide⟩ dX11_noCellar_8 ?_
  refine v_if_ne hC 18 dX11_noCellar_11 rfl (fun c7 => ?_) (fun c7 => ?_)
  · rw [if_neg c7] at h
    refine v_iconst (v := (0 : Int32)) hC dX11_noCellar_18 rfl ?_
    cases h
    exact v_zret hC (by decide) (by decide) (by decide) dX11_noCellar_19
  · rw [if_pos c7] at h
    refine v_iconst (v := (1 : Int32)) hC dX11_noCellar_14 rfl ?_
    refine v_goto (tg := 19) hC dX11_noCellar_15 rfl ?_
    cases h
    exact v_zret hC (by decide) (by decide) (by decide) dX11_noCellar_19
def f_X11_noSeat (N : Nat) (v0 : Int32) (M : Mm) : Option (Int32 × Mm) :=
  bnd (f_X11_in N v0 (0 : Int32) (9 : Int32) M) (fun r1 M2 => (if r1 = (0 : Int32) then some ((1 : Int32), M2) else some ((0 : Int32), M2)))
set_option maxRecDepth 20000 in
set_option maxHeartbeats 4000000 in
theorem ok_X11_noSeat {l : Launch} {N : Nat} {v0 : Int32} {M : Mm} {r : Int32} {M' : Mm} (h : f_X11_noSeat N v0 M = some (r, M')) : am_M l yX11_noSeat cX11_noSeat 1 (some .boolean) 2 0 0 LY M [.int v0] (.inl (some (.int r))) M' := by
  unfold f_X11_noSeat at h
  refine am_intro (by decide) (by simp [Value.category]) (Nat.le_of_ble_eq_true rfl) (fun X hC hnt => ?_)
  refine am_start (L := [some (.int v0)]) rfl ?_
  refine v_iload_n hC dX11_noSeat_0 rfl ?_
  refine v_iconst (v := (0 : Int32)) hC dX11_noSeat_1 rfl ?_
  refine v_bipush (v := (9 : Int32)) hC dX11_noSeat_2 rfl ?_
  obtain ⟨r1, M2, q3, h⟩ := bnd_some h
  refine w_callSi hC [.int v0, .int (0 : Int32), .int (9 : Int32)] [] (ok_X11_in q3) ms_X11_in aw_1404 rfl (Nat.le_of_ble_eq_true rfl) ⟨by decide, by decide⟩ ⟨by decide, by decide⟩ dX11_noSeat_4 ?_
  refine v_if_ne hC 14 dX11_noSeat_7 rfl (fun c4 => ?_) (fun c4 => ?_)
  · rw [if_neg c4] at h
    refine v_iconst (v := (0 : Int32)) hC dX11_noSeat_14 rfl ?_
    cases h
    exact v_zret hC (by decide) (by decide) (by decide) dX11_noSeat_15
  · rw [if_pos c4] at h
    refine v_iconst (v := (1 : Int32)) hC dX11_noSeat_10 rfl ?_
    refine v_goto (tg := 15) hC dX11_noSeat_11 rfl ?_
    cases h
    exact v_zret hC (by decide) (by decide) (by decide) dX11_noSeat_15
def f_X11_noTrait (N : Nat) (v0 : Int32) (M : Mm) : Option (Int32 × Mm) :=
  bnd (f_X11_in N v0 (0 : Int32) (5 : Int32) M) (fun r1 M2 => (if r1 = (0 : Int32) then some ((1 : Int32), M2) else some ((0 : Int32), M2)))
set_option maxRecDepth 20000 in
set_option maxHeartbeats 4000000 in
theorem ok_X11_noTrait {l : Launch} {N : Nat} {v0 : Int32} {M : Mm} {r : Int32} {M' : Mm} (h : f_X11_noTrait N v0 M = some (r, M')) : am_M l yX11_noTrait cX11_noTrait 1 (some .boolean) 2 0 0 LY M [.int v0] (.inl (some (.int r))) M' := by
  unfold f_X11_noTrait at h
  refine am_intro (by decide) (by simp [Value.category]) (Nat.le_of_ble_eq_true rfl) (fun X hC hnt => ?_)
  refine am_start (L := [some (.int v0)]) rfl ?_
  refine v_iload_n hC dX11_noTrait_0 rfl ?_
  refine v_iconst (v := (0 : Int32)) hC dX11_noTrait_1 rfl ?_
  refine v_iconst (v := (5 : Int32)) hC dX11_noTrait_2 rfl ?_
  obtain ⟨r1, M2, q3, h⟩ := bnd_some h
  refine w_callSi hC [.int v0, .int (0 : Int32), .int (5 : Int32)] [] (ok_X11_in q3) ms_X11_in aw_1404 rfl (Nat.le_of_ble_eq_true rfl) ⟨by decide, by decide⟩ ⟨by decide, by decide⟩ dX11_noTrait_3 ?_
  refine v_if_ne hC 13 dX11_noTrait_6 rfl (fun c4 => ?_) (fun c4 => ?_)
  · rw [if_neg c4] at h
    refine v_iconst (v := (0 : Int32)) hC dX11_noTrait_13 rfl ?_
    cases h
    exact v_zret hC (by decide) (by decide) (by decide) dX11_noTrait_14
  · rw [if_pos c4] at h
    refine v_iconst (v := (1 : Int32)) hC dX11_noTrait_9 rfl ?_
    refine v_goto (tg := 14) hC dX11_noTrait_10 rfl ?_
    cases h
    exact v_zret hC (by decide) (by decide) (by decide) dX11_noTrait_14
def f_X11_dinerIn_2 (N : Nat) : Nat → Int32 → Int32 → Mm → Option (Int32 × Mm)
  | 0, _, _, _ => none
  | n + 1, v1, v2, M => bnd (f_X11_diners N M) (fun r1 M2 => (if r1 ≤ v2 then some ((-1 : Int32), M2) else bnd (f_X11_of N v2 (0 : Int32) M2) (fun r5 M6 => (if r5 = v1 then some (v2, M6) else f_X11_dinerIn_2 N n v1 (v2 + (1 : Int32)) M6))))
def f_X11_dinerIn (N : Nat) (v1 : Int32) (M : Mm) : Option (Int32 × Mm) :=
  f_X11_dinerIn_2 N N v1 (0 : Int32) M
set_option maxRecDepth 20000 in
set_option maxHeartbeats 4000000 in
theorem ok_X11_dinerIn_2 {N : Nat} {X : am_X} {l : Launch} (hC : am_C X l (am_rm 3 0 0) cX11_dinerIn yX11_dinerIn.cls (some .int)) (hnt : am_NT X) : ∀ (n : Nat) (v1 v2 : Int32) (M : Mm) (r : Int32) (M' : Mm), f_X11_dinerIn_2 N n v1 v2 M = some (r, M') → am_V X LY M 0 0 (am_Q X LY 0 0 (.inl (some (.int r))) M') 2 [some (.ref 208), some (.int v1), some (.int v2)] [] := by
  intro n
  induction n with
  | zero => intro v1 v2 M r M' h; cases h
  | succ n ih =>
    intro v1 v2 M r M' h
    simp only [f_X11_dinerIn_2] at h
    refine v_iload_n hC dX11_dinerIn_2 rfl ?_
    refine v_aload_n hC dX11_dinerIn_3 rfl ?_
    obtain ⟨r1, M2, q3, h⟩ := bnd_some h
    refine w_callVi hC [] [.int v2] (ok_X11_diners q3) mv_X11_diners aw_1362 ly_208 rfl (Nat.le_of_ble_eq_true rfl) ⟨by decide, by decide⟩ ⟨by decide, by decide⟩ dX11_dinerIn_4 ?_
    refine v_icmp_ge hC 28 dX11_dinerIn_7 rfl (fun c4 => ?_) (fun c4 => ?_)
    · rw [if_pos c4] at h
      refine v_iconst (v := (-1 : Int32)) hC dX11_dinerIn_28 rfl ?_
      cases h
      exact v_iret hC (by decide) (by decide) dX11_dinerIn_29
    · rw [if_neg c4] at h
      refine v_aload_n hC dX11_dinerIn_10 rfl ?_
      refine v_iload_n hC dX11_dinerIn_11 rfl ?_
      refine v_iconst (v := (0 : Int32)) hC dX11_dinerIn_12 rfl ?_
      obtain ⟨r5, M6, q7, h⟩ := bnd_some h
      refine w_callVi hC [.int v2, .int (0 : Int32)] [] (ok_X11_of q7) mv_X11_of aw_1380 ly_208 rfl (Nat.le_of_ble_eq_true rfl) ⟨by decide, by decide⟩ ⟨by decide, by decide⟩ dX11_dinerIn_13 ?_
      refine v_iload_n hC dX11_dinerIn_16 rfl ?_
      refine v_icmp_ne hC 22 dX11_dinerIn_17 rfl (fun c8 => ?_) (fun c8 => ?_)
      · rw [if_neg c8] at h
        refine w_iinc hC (v2 + (1 : Int32)) dX11_dinerIn_22 rfl rfl [some (.ref 208), some (.int v1), some (.int (v2 + (1 : Int32)))] rfl ?_
        refine v_goto (tg := 2) hC dX11_dinerIn_25 rfl ?_
        exact ih _ _ _ _ _ h
      · rw [if_pos c8] at h
        refine v_iload_n hC dX11_dinerIn_20 rfl ?_
        cases h
        exact v_iret hC (by decide) (by decide) dX11_dinerIn_21
set_option maxRecDepth 20000 in
set_option maxHeartbeats 4000000 in
theorem ok_X11_dinerIn {l : Launch} {N : Nat} {v1 : Int32} {M : Mm} {r : Int32} {M' : Mm} (h : f_X11_dinerIn N v1 M = some (r, M')) : am_M l yX11_dinerIn cX11_dinerIn 3 (some .int) 3 0 0 LY M [.ref 208, .int v1] (.inl (some (.int r))) M' := by
  unfold f_X11_dinerIn at h
  refine am_intro (by decide) (by simp [Value.category]) (Nat.le_of_ble_eq_true rfl) (fun X hC hnt => ?_)
  refine am_start (L := [some (.ref 208), some (.int v1), none]) rfl ?_
  refine v_iconst (v := (0 : Int32)) hC dX11_dinerIn_0 rfl ?_
  refine w_istore_n hC dX11_dinerIn_1 (ltk rfl) [some (.ref 208), some (.int v1), some (.int (0 : Int32))] rfl ?_
  exact ok_X11_dinerIn_2 hC hnt N _ _ _ _ _ h
def f_X11_eaterOf (N : Nat) (v1 : Int32) (M : Mm) : Option (Int32 × Mm) :=
  bnd (f_X11_ofCellar N v1 (0 : Int32) M) (fun r1 M2 => bnd (f_X11_dinerIn N r1 M2) (fun r4 M5 => some (r4, M5)))
set_option maxRecDepth 20000 in
set_option maxHeartbeats 4000000 in
theorem ok_X11_eaterOf {l : Launch} {N : Nat} {v1 : Int32} {M : Mm} {r : Int32} {M' : Mm} (h : f_X11_eaterOf N v1 M = some (r, M')) : am_M l yX11_eaterOf cX11_eaterOf 2 (some .int) 4 0 0 LY M [.ref 208, .int v1] (.inl (some (.int r))) M' := by
  unfold f_X11_eaterOf at h
  refine am_intro (by decide) (by simp [Value.category]) (Nat.le_of_ble_eq_true rfl) (fun X hC hnt => ?_)
  refine am_start (L := [some (.ref 208), some (.int v1)]) rfl ?_
  refine v_aload_n hC dX11_eaterOf_0 rfl ?_
  refine v_aload_n hC dX11_eaterOf_1 rfl ?_
  refine v_iload_n hC dX11_eaterOf_2 rfl ?_
  refine v_iconst (v := (0 : Int32)) hC dX11_eaterOf_3 rfl ?_
  obtain ⟨r1, M2, q3, h⟩ := bnd_some h
  refine w_callVi hC [.int v1, .int (0 : Int32)] [.ref 208] (ok_X11_ofCellar q3) mv_X11_ofCellar aw_1510 ly_208 rfl (Nat.le_of_ble_eq_true rfl) ⟨by decide, by decide⟩ ⟨by decide, by decide⟩ dX11_eaterOf_4 ?_
  obtain ⟨r4, M5, q6, h⟩ := bnd_some h
  refine w_callVi hC [.int r1] [] (ok_X11_dinerIn q6) mv_X11_dinerIn aw_1376 ly_208 rfl (Nat.le_of_ble_eq_true rfl) ⟨by decide, by decide⟩ ⟨by decide, by decide⟩ dX11_eaterOf_7 ?_
  cases h
  exact v_iret hC (by decide) (by decide) dX11_eaterOf_10
def f_X11_isSweet (N : Nat) (M : Mm) : Option (Int32 × Mm) :=
  grd (inb (6 : Int32) 2107) (grd (inb (4 : Int32) 2107) (bnd (f_X11_holds N (M 209 ((6 : Int32)).toNatClampNeg) (M 209 ((4 : Int32)).toNatClampNeg) M) (fun r3 M4 => grd (isb r3) (some (r3, M4)))))
set_option maxRecDepth 20000 in
set_option maxHeartbeats 4000000 in
theorem ok_X11_isSweet {l : Launch} {N : Nat} {M : Mm} {r : Int32} {M' : Mm} (h : f_X11_isSweet N M = some (r, M')) : am_M l yX11_isSweet cX11_isSweet 1 (some .boolean) 2 0 0 LY M [.ref 208] (.inl (some (.int r))) M' := by
  unfold f_X11_isSweet at h
  refine am_intro (by decide) (by simp [Value.category]) (Nat.le_of_ble_eq_true rfl) (fun X hC hnt => ?_)
  refine am_start (L := [some (.ref 208)]) rfl ?_
  refine v_aload_n hC dX11_isSweet_0 rfl ?_
  refine v_geta (k := 1) (b := 209) hC cls_X11 ly_208 (by decide) rfl aw_1232 rfl dX11_isSweet_1 ?_
  refine v_bipush (v := (6 : Int32)) hC dX11_isSweet_4 rfl ?_
  obtain ⟨g1, h⟩ := grd_some h
  refine v_iald hC ly_209 (inb_in g1) dX11_isSweet_6 ?_
  refine v_aload_n hC dX11_isSweet_7 rfl ?_
  refine v_geta (k := 1) (b := 209) hC cls_X11 ly_208 (by decide) rfl aw_1232 rfl dX11_isSweet_8 ?_
  refine v_iconst (v := (4 : Int32)) hC dX11_isSweet_11 rfl ?_
  obtain ⟨g2, h⟩ := grd_some h
  refine v_iald hC ly_209 (inb_in g2) dX11_isSweet_12 ?_
  obtain ⟨r3, M4, q5, h⟩ := bnd_some h
  refine w_callSi hC [.int (M 209 ((6 : Int32)).toNatClampNeg), .int (M 209 ((4 : Int32)).toNatClampNeg)] [] (ok_X11_holds q5) ms_X11_holds aw_1522 rfl (Nat.le_of_ble_eq_true rfl) ⟨by decide, by decide⟩ ⟨by decide, by decide⟩ dX11_isSweet_13 ?_
  obtain ⟨g6, h⟩ := grd_some h
  cases h
  exact v_zret hC (isb_nar g6).1 (by decide) (by decide) dX11_isSweet_16
def f_X11_drawn (N : Nat) (v1 : Int32) (M : Mm) : Option (Int32 × Mm) :=
  grd (inb (11 : Int32) 2107) (grd (inb (11 : Int32) 2107) (lt (wr M 209 ((11 : Int32)).toNatClampNeg (((1103515245 : Int32) * (M 209 ((11 : Int32)).toNatClampNeg)) + (12345 : Int32))) (fun M3 => grd (inb (11 : Int32) 2107) (grd (nz v1) (some (((((M3 209 ((11 : Int32)).toNatClampNeg) >>> ((16 : Int32) &&& 31)) &&& (32767 : Int32)) - (((M3 209 ((11 : Int32)).toNatClampNeg) >>> ((16 : Int32) &&& 31)) &&& (32767 : Int32)) / v1 * v1), M3))))))
set_option maxRecDepth 20000 in
set_option maxHeartbeats 4000000 in
theorem ok_X11_drawn {l : Launch} {N : Nat} {v1 : Int32} {M : Mm} {r : Int32} {M' : Mm} (h : f_X11_drawn N v1 M = some (r, M')) : am_M l yX11_drawn cX11_drawn 2 (some .int) 1 0 0 LY M [.ref 208, .int v1] (.inl (some (.int r))) M' := by
  unfold f_X11_drawn at h
  refine am_intro (by decide) (by simp [Value.category]) (Nat.le_of_ble_eq_true rfl) (fun X hC hnt => ?_)
  refine am_start (L := [some (.ref 208), some (.int v1)]) rfl ?_
  refine v_aload_n hC dX11_drawn_0 rfl ?_
  refine v_geta (k := 1) (b := 209) hC cls_X11 ly_208 (by decide) rfl aw_1232 rfl dX11_drawn_1 ?_
  refine v_bipush (v := (11 : Int32)) hC dX11_drawn_4 rfl ?_
  refine v_ldc hC aw_1622 dX11_drawn_6 ?_
  refine v_aload_n hC dX11_drawn_8 rfl ?_
  refine v_geta (k := 1) (b := 209) hC cls_X11 ly_208 (by decide) rfl aw_1232 rfl dX11_drawn_9 ?_
  refine v_bipush (v := (11 : Int32)) hC dX11_drawn_12 rfl ?_
  obtain ⟨g1, h⟩ := grd_some h
  refine v_iald hC ly_209 (inb_in g1) dX11_drawn_14 ?_
  refine v_imul hC dX11_drawn_15 ?_
  refine v_sipush (v := (12345 : Int32)) hC dX11_drawn_16 rfl ?_
  refine v_iadd hC dX11_drawn_19 ?_
  obtain ⟨g2, h⟩ := grd_some h
  obtain ⟨M3, e_M3, h⟩ := lt_some h
  refine w_iast hC ly_209 (inb_in g2) dX11_drawn_20 e_M3 ?_
  refine v_aload_n hC dX11_drawn_21 rfl ?_
  refine v_geta (k := 1) (b := 209) hC cls_X11 ly_208 (by decide) rfl aw_1232 rfl dX11_drawn_22 ?_
  refine v_bipush (v := (11 : Int32)) hC dX11_drawn_25 rfl ?_
  obtain ⟨g4, h⟩ := grd_some h
  refine v_iald hC ly_209 (inb_in g4) dX11_drawn_27 ?_
  refine v_bipush (v := (16 : Int32)) hC dX11_drawn_28 rfl ?_
  refine v_ishr hC dX11_drawn_30 ?_
  refine v_sipush (v := (32767 : Int32)) hC dX11_drawn_31 rfl ?_
  refine v_iand hC dX11_drawn_34 ?_
  refine v_iload_n hC dX11_drawn_35 rfl ?_
  obtain ⟨g5, h⟩ := grd_some h
  refine v_irem hC dX11_drawn_36 (nz_ne g5) ?_
  cases h
  exact v_iret hC (by decide) (by decide) dX11_drawn_37
def f_X11_feed_60 (N : Nat) : Nat → Int32 → Mm → Option (Int32 × Mm)
  | 0, _, _ => none
  | n + 1, v6, M => (if (20 : Int32) ≤ v6 then lt (wr M 208 9 ((M 208 9) + (20 : Int32))) (fun M14 => some ((M14 208 9), M14)) else grd (inb (v6 / (4 : Int32)) 5) (grd (inb ((M 208 9) + v6) 400) (lt (wr M 214 (((M 208 9) + v6)).toNatClampNeg (vp_nar .byte (((M 215 ((v6 / (4 : Int32))).toNatClampNeg) >>> (((24 : Int32) - ((8 : Int32) * (v6 - v6 / (4 : Int32) * (4 : Int32)))) &&& 31))).toInt8.toInt32)) (fun M17 => f_X11_feed_60 N n (v6 + (1 : Int32)) M17))))
def f_X11_feed (N : Nat) (v1 : Int32) (v2 : Int32) (v3 : Int32) (v4 : Int32) (v5 : Int32) (M : Mm) : Option (Int32 × Mm) :=
  lt (wr M 208 0 (0 : Int32)) (fun M1 => (if ((M1 208 9) + (20 : Int32)) ≤ (400 : Int32) then grd (inb (0 : Int32) 5) (lt (wr M1 215 ((0 : Int32)).toNatClampNeg v1) (fun M4 => grd (inb (1 : Int32) 5) (lt (wr M4 215 ((1 : Int32)).toNatClampNeg v2) (fun M6 => grd (inb (2 : Int32) 5) (lt (wr M6 215 ((2 : Int32)).toNatClampNeg v3) (fun M8 => grd (inb (3 : Int32) 5) (lt (wr M8 215 ((3 : Int32)).toNatClampNeg v4) (fun M10 => grd (inb (4 : Int32) 5) (lt (wr M10 215 ((4 : Int32)).toNatClampNeg v5) (fun M12 => f_X11_feed_60 N N (0 : Int32) M12)))))))))) else some ((-1 : Int32), M1)))
set_option maxRecDepth 20000 in
set_option maxHeartbeats 4000000 in
theorem ok_X11_feed_60 {N : Nat} {X : am_X} {l : Launch} (hC : am_C X l (am_rm 1 0 0) cX11_feed yX11_feed.cls (some .int)) (hnt : am_NT X) : ∀ (n : Nat) (v6 : Int32) (M : Mm) (r : Int32) (M' : Mm), f_X11_feed_60 N n v6 M = some (r, M') → am_V X LY M 0 0 (am_Q X LY 0 0 (.inl (some (.int r))) M') 60 [some (.ref 208), none, none, none, none, none, some (.int v6)] [] := by
  intro n
  induction n with
  | zero => intro v6 M r M' h; cases h
  | succ n ih =>
    intro v6 M r M' h
    simp only [f_X11_feed_60] at h
    refine v_iload hC dX11_feed_60 rfl ?_
    refine v_bipush (v := (20 : Int32)) hC dX11_feed_62 rfl ?_
    refine v_icmp_ge hC 106 dX11_feed_64 rfl (fun c13 => ?_) (fun c13 => ?_)
    · rw [if_pos c13] at h
      refine v_aload_n hC dX11_feed_106 rfl ?_
      refine v_dup hC dX11_feed_107 rfl ?_
      refine v_geti (k := 9) hC cls_X11 ly_208 (by decide) rfl aw_1240 rfl dX11_feed_108 ?_
      refine v_bipush (v := (20 : Int32)) hC dX11_feed_111 rfl ?_
      refine v_iadd hC dX11_feed_113 ?_
      obtain ⟨M14, e_M14, h⟩ := lt_some h
      refine w_puti (k := 9) hC cls_X11 ly_208 (by decide) rfl aw_1240 rfl rfl ⟨rfl, rfl⟩ dX11_feed_114 e_M14 ?_
      refine v_aload_n hC dX11_feed_117 rfl ?_
      refine v_geti (k := 9) hC cls_X11 ly_208 (by decide) rfl aw_1240 rfl dX11_feed_118 ?_
      cases h
      exact v_iret hC (by decide) (by decide) dX11_feed_121
    · rw [if_neg c13] at h
      refine v_aload_n hC dX11_feed_67 rfl ?_
      refine v_geta (k := 8) (b := 214) hC cls_X11 ly_208 (by decide) rfl aw_1239 rfl dX11_feed_68 ?_
      refine v_aload_n hC dX11_feed_71 rfl ?_
      refine v_geti (k := 9) hC cls_X11 ly_208 (by decide) rfl aw_1240 rfl dX11_feed_72 ?_
      refine v_iload hC dX11_feed_75 rfl ?_
      refine v_iadd hC dX11_feed_77 ?_
      refine v_aload_n hC dX11_feed_78 rfl ?_
      refine v_geta (k := 15) (b := 215) hC cls_X11 ly_208 (by decide) rfl aw_1246 rfl dX11_feed_79 ?_
      refine v_iload hC dX11_feed_82 rfl ?_
      refine v_iconst (v := (4 : Int32)) hC dX11_feed_84 rfl ?_
      refine v_idiv hC dX11_feed_85 (by decide) ?_
      obtain ⟨g15, h⟩ := grd_some h
      refine v_iald hC ly_215 (inb_in g15) dX11_feed_86 ?_
      refine v_bipush (v := (24 : Int32)) hC dX11_feed_87 rfl ?_
      refine v_bipush (v := (8 : Int32)) hC dX11_feed_89 rfl ?_
      refine v_iload hC dX11_feed_91 rfl ?_
      refine v_iconst (v := (4 : Int32)) hC dX11_feed_93 rfl ?_
      refine v_irem hC dX11_feed_94 (by decide) ?_
      refine v_imul hC dX11_feed_95 ?_
      refine v_isub hC dX11_feed_96 ?_
      refine v_ishr hC dX11_feed_97 ?_
      refine v_i2b hC dX11_feed_98 ?_
      obtain ⟨g16, h⟩ := grd_some h
      obtain ⟨M17, e_M17, h⟩ := lt_some h
      refine w_bast hC ly_214 (inb_in g16) dX11_feed_99 e_M17 ?_
      refine w_iinc hC (v6 + (1 : Int32)) dX11_feed_100 rfl rfl [some (.ref 208), none, none, none, none, none, some (.int (v6 + (1 : Int32)))] rfl ?_
      refine v_goto (tg := 60) hC dX11_feed_103 rfl ?_
      exact ih _ _ _ _ h
set_option maxRecDepth 20000 in
set_option maxHeartbeats 4000000 in
theorem ok_X11_feed {l : Launch} {N : Nat} {v1 v2 v3 v4 v5 : Int32} {M : Mm} {r : Int32} {M' : Mm} (h : f_X11_feed N v1 v2 v3 v4 v5 M = some (r, M')) : am_M l yX11_feed cX11_feed 7 (some .int) 1 0 0 LY M [.ref 208, .int v1, .int v2, .int v3, .int v4, .int v5] (.inl (some (.int r))) M' := by
  unfold f_X11_feed at h
  refine am_intro (by decide) (by simp [Value.category]) (Nat.le_of_ble_eq_true rfl) (fun X hC hnt => ?_)
  refine am_start (L := [some (.ref 208), some (.int v1), some (.int v2), some (.int v3), some (.int v4), some (.int v5), none]) rfl ?_
  refine v_aload_n hC dX11_feed_0 rfl ?_
  refine v_iconst (v := (0 : Int32)) hC dX11_feed_1 rfl ?_
  obtain ⟨M1, e_M1, h⟩ := lt_some h
  refine w_puti (k := 0) hC cls_X11 ly_208 (by decide) rfl aw_1231 rfl rfl ⟨rfl, rfl⟩ dX11_feed_2 e_M1 ?_
  refine v_aload_n hC dX11_feed_5 rfl ?_
  refine v_geti (k := 9) hC cls_X11 ly_208 (by decide) rfl aw_1240 rfl dX11_feed_6 ?_
  refine v_bipush (v := (20 : Int32)) hC dX11_feed_9 rfl ?_
  refine v_iadd hC dX11_feed_11 ?_
  refine v_sipush (v := (400 : Int32)) hC dX11_feed_12 rfl ?_
  refine v_icmp_le hC 20 dX11_feed_15 rfl (fun c2 => ?_) (fun c2 => ?_)
  · rw [if_pos c2] at h
    refine v_aload_n hC dX11_feed_20 rfl ?_
    refine v_geta (k := 15) (b := 215) hC cls_X11 ly_208 (by decide) rfl aw_1246 rfl dX11_feed_21 ?_
    refine v_iconst (v := (0 : Int32)) hC dX11_feed_24 rfl ?_
    refine v_iload_n hC dX11_feed_25 rfl ?_
    obtain ⟨g3, h⟩ := grd_some h
    obtain ⟨M4, e_M4, h⟩ := lt_some h
    refine w_iast hC ly_215 (inb_in g3) dX11_feed_26 e_M4 ?_
    refine v_aload_n hC dX11_feed_27 rfl ?_
    refine v_geta (k := 15) (b := 215) hC cls_X11 ly_208 (by decide) rfl aw_1246 rfl dX11_feed_28 ?_
    refine v_iconst (v := (1 : Int32)) hC dX11_feed_31 rfl ?_
    refine v_iload_n hC dX11_feed_32 rfl ?_
    obtain ⟨g5, h⟩ := grd_some h
    obtain ⟨M6, e_M6, h⟩ := lt_some h
    refine w_iast hC ly_215 (inb_in g5) dX11_feed_33 e_M6 ?_
    refine v_aload_n hC dX11_feed_34 rfl ?_
    refine v_geta (k := 15) (b := 215) hC cls_X11 ly_208 (by decide) rfl aw_1246 rfl dX11_feed_35 ?_
    refine v_iconst (v := (2 : Int32)) hC dX11_feed_38 rfl ?_
    refine v_iload_n hC dX11_feed_39 rfl ?_
    obtain ⟨g7, h⟩ := grd_some h
    obtain ⟨M8, e_M8, h⟩ := lt_some h
    refine w_iast hC ly_215 (inb_in g7) dX11_feed_40 e_M8 ?_
    refine v_aload_n hC dX11_feed_41 rfl ?_
    refine v_geta (k := 15) (b := 215) hC cls_X11 ly_208 (by decide) rfl aw_1246 rfl dX11_feed_42 ?_
    refine v_iconst (v := (3 : Int32)) hC dX11_feed_45 rfl ?_
    refine v_iload hC dX11_feed_46 rfl ?_
    obtain ⟨g9, h⟩ := grd_some h
    obtain ⟨M10, e_M10, h⟩ := lt_some h
    refine w_iast hC ly_215 (inb_in g9) dX11_feed_48 e_M10 ?_
    refine v_aload_n hC dX11_feed_49 rfl ?_
    refine v_geta (k := 15) (b := 215) hC cls_X11 ly_208 (by decide) rfl aw_1246 rfl dX11_feed_50 ?_
    refine v_iconst (v := (4 : Int32)) hC dX11_feed_53 rfl ?_
    refine v_iload hC dX11_feed_54 rfl ?_
    obtain ⟨g11, h⟩ := grd_some h
    obtain ⟨M12, e_M12, h⟩ := lt_some h
    refine w_iast hC ly_215 (inb_in g11) dX11_feed_56 e_M12 ?_
    refine v_iconst (v := (0 : Int32)) hC dX11_feed_57 rfl ?_
    refine w_istore hC dX11_feed_58 (ltk rfl) [some (.ref 208), some (.int v1), some (.int v2), some (.int v3), some (.int v4), some (.int v5), some (.int (0 : Int32))] rfl ?_
    refine v_drop [true, false, false, false, false, false, true] [some (.ref 208), none, none, none, none, none, some (.int (0 : Int32))] rfl ?_
    exact ok_X11_feed_60 hC hnt N _ _ _ _ h
  · rw [if_neg c2] at h
    refine v_iconst (v := (-1 : Int32)) hC dX11_feed_18 rfl ?_
    cases h
    exact v_iret hC (by decide) (by decide) dX11_feed_19
