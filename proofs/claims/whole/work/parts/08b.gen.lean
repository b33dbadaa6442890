def f_X2_readsLine_78 (N : Nat) (a1 : Nat) (v2 : Int32) (v3 : Int32) (v4 : Int32) (M : Mm) : Option (Int32 × Mm) :=
  bnd (f_X1_addsLine N a1 v2 v3 v4 M) (fun r18 M19 => some ((1 : Int32), M19))
def f_X2_readsLine_26 (N : Nat) (a1 : Nat) (v2 : Int32) (M : Mm) : Option (Int32 × Mm) :=
  bnd (f_X9_eats N v2 M) (fun r5 M6 => (if r5 = (0 : Int32) then some ((0 : Int32), M6) else bnd (f_X9_eatsNumber N (0 : Int32) (30 : Int32) M6) (fun r9 M10 => (if r9 = (-1 : Int32) then some ((0 : Int32), M10) else lt (M10 a1 2) (fun x13 => bnd (f_X9_eats N (271 : Int32) M10) (fun r14 M15 => (if r14 = (0 : Int32) then f_X2_readsLine_78 N a1 v2 r9 x13 M15 else bnd (f_X2_readsCondition N a1 (f_X2_readsAtom N a1 20) (0 : Int32) M15) (fun r21 M22 => (if r21 = (0 : Int32) then some ((0 : Int32), M22) else f_X2_readsLine_78 N a1 v2 r9 x13 M22)))))))))
def f_X2_readsLine (N : Nat) (a1 : Nat) (M : Mm) : Option (Int32 × Mm) :=
  bnd (f_X9_kind N M) (fun r1 M2 => (if r1 = (269 : Int32) then f_X2_readsLine_26 N a1 r1 M2 else (if r1 = (270 : Int32) then f_X2_readsLine_26 N a1 r1 M2 else (if r1 = (262 : Int32) then f_X2_readsLine_26 N a1 r1 M2 else some ((0 : Int32), M2)))))
set_option maxRecDepth 20000 in
set_option maxHeartbeats 4000000 in
theorem ok_X2_readsLine_78 {N : Nat} {X : am_X} {l : Launch} (hC : am_C X l (am_rm 71 0 0) cX2_readsLine yX2_readsLine.cls (some .boolean)) (hnt : am_NT X) {a1 : Nat} (h1 : kLaw a1) {v2 v3 v4 : Int32} {M : Mm} {r : Int32} {M' : Mm} (h : f_X2_readsLine_78 N a1 v2 v3 v4 M = some (r, M')) : am_V X LY M 0 0 (am_Q X LY 0 0 (.inl (some (.int r))) M') 78 [none, some (.ref a1), some (.int v2), some (.int v3), some (.int v4)] [] := by
  unfold f_X2_readsLine_78 at h
  refine v_aload_n hC dX2_readsLine_78 rfl ?_
  refine v_iload_n hC dX2_readsLine_79 rfl ?_
  refine v_iload_n hC dX2_readsLine_80 rfl ?_
  refine v_iload hC dX2_readsLine_81 rfl ?_
  obtain ⟨r18, M19, q20, h⟩ := bnd_some h
  refine w_callVv hC [.int v2, .int v3, .int v4] [] (ok_X1_addsLine h1 q20) mv_X1_addsLine aw_830 h1.1 rfl (Nat.le_of_ble_eq_true rfl) ⟨by decide, by decide⟩ ⟨by decide, by decide⟩ dX2_readsLine_83 ?_
  refine v_iconst (v := (1 : Int32)) hC dX2_readsLine_86 rfl ?_
  cases h
  exact v_zret hC (by decide) (by decide) (by decide) dX2_readsLine_87
set_option maxRecDepth 20000 in
set_option maxHeartbeats 4000000 in
theorem ok_X2_readsLine_26 {N : Nat} {X : am_X} {l : Launch} (hC : am_C X l (am_rm 71 0 0) cX2_readsLine yX2_readsLine.cls (some .boolean)) (hnt : am_NT X) {a1 : Nat} (h1 : kLaw a1) {v2 : Int32} {M : Mm} {r : Int32} {M' : Mm} (h : f_X2_readsLine_26 N a1 v2 M = some (r, M')) : am_V X LY M 0 0 (am_Q X LY 0 0 (.inl (some (.int r))) M') 26 [some (.ref 3), some (.ref a1), some (.int v2), none, none] [] := by
  unfold f_X2_readsLine_26 at h
  refine v_aload_n hC dX2_readsLine_26 rfl ?_
  refine v_iload_n hC dX2_readsLine_27 rfl ?_
  obtain ⟨r5, M6, q7, h⟩ := bnd_some h
  refine w_callVi hC [.int v2] [] (ok_X9_eats q7) mv_X9_eats aw_812 ly_3 rfl (Nat.le_of_ble_eq_true rfl) ⟨by decide, by decide⟩ ⟨by decide, by decide⟩ dX2_readsLine_28 ?_
  refine v_if_ne hC 36 dX2_readsLine_31 rfl (fun c8 => ?_) (fun c8 => ?_)
  · rw [if_neg c8] at h
    refine v_aload_n hC dX2_readsLine_36 rfl ?_
    refine v_iconst (v := (0 : Int32)) hC dX2_readsLine_37 rfl ?_
    refine v_bipush (v := (30 : Int32)) hC dX2_readsLine_38 rfl ?_
    obtain ⟨r9, M10, q11, h⟩ := bnd_some h
    refine w_callVi hC [.int (0 : Int32), .int (30 : Int32)] [] (ok_X9_eatsNumber q11) mv_X9_eatsNumber aw_813 ly_3 rfl (Nat.le_of_ble_eq_true rfl) ⟨by decide, by decide⟩ ⟨by decide, by decide⟩ dX2_readsLine_40 ?_
    refine w_istore_n hC dX2_readsLine_43 (ltk rfl) [some (.ref 3), some (.ref a1), some (.int v2), some (.int r9), none] rfl ?_
    refine v_iload_n hC dX2_readsLine_44 rfl ?_
    refine v_iconst (v := (-1 : Int32)) hC dX2_readsLine_45 rfl ?_
    refine v_icmp_ne hC 51 dX2_readsLine_46 rfl (fun c12 => ?_) (fun c12 => ?_)
    · rw [if_neg c12] at h
      refine v_aload_n hC dX2_readsLine_51 rfl ?_
      refine v_geti (k := 2) hC cls_X1 h1.1 (by decide) rfl aw_192 rfl dX2_readsLine_52 ?_
      obtain ⟨x13, e_x13, h⟩ := lt_some h
      refine v_nam e_x13 ?_
      refine w_istore hC dX2_readsLine_55 (ltk rfl) [some (.ref 3), some (.ref a1), some (.int v2), some (.int r9), some (.int x13)] rfl ?_
      refine v_aload_n hC dX2_readsLine_57 rfl ?_
      refine v_sipush (v := (271 : Int32)) hC dX2_readsLine_58 rfl ?_
      obtain ⟨r14, M15, q16, h⟩ := bnd_some h
      refine w_callVi hC [.int (271 : Int32)] [] (ok_X9_eats q16) mv_X9_eats aw_812 ly_3 rfl (Nat.le_of_ble_eq_true rfl) ⟨by decide, by decide⟩ ⟨by decide, by decide⟩ dX2_readsLine_61 ?_
      refine v_if_eq hC 78 dX2_readsLine_64 rfl (fun c17 => ?_) (fun c17 => ?_)
      · rw [if_pos c17] at h
        refine v_drop [false, true, true, true, true] [none, some (.ref a1), some (.int v2), some (.int r9), some (.int x13)] rfl ?_
        exact ok_X2_readsLine_78 hC hnt h1 h
      · rw [if_neg c17] at h
        refine v_aload_n hC dX2_readsLine_67 rfl ?_
        refine v_aload_n hC dX2_readsLine_68 rfl ?_
        refine v_iconst (v := (0 : Int32)) hC dX2_readsLine_69 rfl ?_
        obtain ⟨r21, M22, q23, h⟩ := bnd_some h
        refine w_callSi hC [.ref 3, .ref a1, .int (0 : Int32)] [] (ok_X2_readsCondition h1 (D := 68) (fun w0 M r M' h => ok_X2_readsAtom h1 20 w0 M r M' h) (by decide) q23) ms_X2_readsCondition aw_814 rfl (Nat.le_of_ble_eq_true rfl) ⟨by decide, by decide⟩ ⟨by decide, by decide⟩ dX2_readsLine_70 ?_
        refine v_if_ne hC 78 dX2_readsLine_73 rfl (fun c24 => ?_) (fun c24 => ?_)
        · rw [if_neg c24] at h
          refine v_drop [false, true, true, true, true] [none, some (.ref a1), some (.int v2), some (.int r9), some (.int x13)] rfl ?_
          exact ok_X2_readsLine_78 hC hnt h1 h
        · rw [if_pos c24] at h
          refine v_iconst (v := (0 : Int32)) hC dX2_readsLine_76 rfl ?_
          cases h
          exact v_zret hC (by decide) (by decide) (by decide) dX2_readsLine_77
    · rw [if_pos c12] at h
      refine v_iconst (v := (0 : Int32)) hC dX2_readsLine_49 rfl ?_
      cases h
      exact v_zret hC (by decide) (by decide) (by decide) dX2_readsLine_50
  · rw [if_pos c8] at h
    refine v_iconst (v := (0 : Int32)) hC dX2_readsLine_34 rfl ?_
    cases h
    exact v_zret hC (by decide) (by decide) (by decide) dX2_readsLine_35
set_option maxRecDepth 20000 in
set_option maxHeartbeats 4000000 in
theorem ok_X2_readsLine {l : Launch} {N : Nat} {a1 : Nat} {M : Mm} {r : Int32} {M' : Mm} (h1 : kLaw a1) (h : f_X2_readsLine N a1 M = some (r, M')) : am_M l yX2_readsLine cX2_readsLine 5 (some .boolean) 71 0 0 LY M [.ref 3, .ref a1] (.inl (some (.int r))) M' := by
  unfold f_X2_readsLine at h
  refine am_intro (by decide) (by simp [Value.category]) (Nat.le_of_ble_eq_true rfl) (fun X hC hnt => ?_)
  refine am_start (L := [some (.ref 3), some (.ref a1), none, none, none]) rfl ?_
  refine v_aload_n hC dX2_readsLine_0 rfl ?_
  obtain ⟨r1, M2, q3, h⟩ := bnd_some h
  refine w_callVi hC [] [] (ok_X9_kind q3) mv_X9_kind aw_808 ly_3 rfl (Nat.le_of_ble_eq_true rfl) ⟨by decide, by decide⟩ ⟨by decide, by decide⟩ dX2_readsLine_1 ?_
  refine w_istore_n hC dX2_readsLine_4 (ltk rfl) [some (.ref 3), some (.ref a1), some (.int r1), none, none] rfl ?_
  refine v_iload_n hC dX2_readsLine_5 rfl ?_
  refine v_sipush (v := (269 : Int32)) hC dX2_readsLine_6 rfl ?_
  refine v_icmp_eq hC 26 dX2_readsLine_9 rfl (fun c4 => ?_) (fun c4 => ?_)
  · rw [if_pos c4] at h
    exact ok_X2_readsLine_26 hC hnt h1 h
  · rw [if_neg c4] at h
    refine v_iload_n hC dX2_readsLine_12 rfl ?_
    refine v_sipush (v := (270 : Int32)) hC dX2_readsLine_13 rfl ?_
    refine v_icmp_eq hC 26 dX2_readsLine_16 rfl (fun c25 => ?_) (fun c25 => ?_)
    · rw [if_pos c25] at h
      exact ok_X2_readsLine_26 hC hnt h1 h
    · rw [if_neg c25] at h
      refine v_iload_n hC dX2_readsLine_19 rfl ?_
      refine v_sipush (v := (262 : Int32)) hC dX2_readsLine_20 rfl ?_
      refine v_icmp_ne hC 34 dX2_readsLine_23 rfl (fun c26 => ?_) (fun c26 => ?_)
      · rw [if_neg c26] at h
        refine v_iconst (v := (0 : Int32)) hC dX2_readsLine_34 rfl ?_
        cases h
        exact v_zret hC (by decide) (by decide) (by decide) dX2_readsLine_35
      · rw [if_pos c26] at h
        exact ok_X2_readsLine_26 hC hnt h1 h
def f_X2_reads_18 (N : Nat) (a1 : Nat) : Nat → Int32 → Mm → Option (Int32 × Mm)
  | 0, _, _ => none
  | n + 1, v2, M => (if (12 : Int32) ≤ v2 then some ((0 : Int32), M) else bnd (f_X2_readsLine N a1 M) (fun r9 M10 => (if r9 = (0 : Int32) then some ((0 : Int32), M10) else bnd (f_X9_kind N M10) (fun r13 M14 => (if r13 = (303 : Int32) then some ((1 : Int32), M14) else bnd (f_X9_eats N (59 : Int32) M14) (fun r17 M18 => (if r17 = (0 : Int32) then some ((0 : Int32), M18) else f_X2_reads_18 N a1 n (v2 + (1 : Int32)) M18)))))))
def f_X2_reads (N : Nat) (a1 : Nat) (M : Mm) : Option (Int32 × Mm) :=
  bnd (f_X1_clears N a1 M) (fun r1 M2 => bnd (f_X9_kind N M2) (fun r4 M5 => (if r4 = (303 : Int32) then some ((1 : Int32), M5) else f_X2_reads_18 N a1 N (0 : Int32) M5)))
set_option maxRecDepth 20000 in
set_option maxHeartbeats 4000000 in
theorem ok_X2_reads_18 {N : Nat} {X : am_X} {l : Launch} (hC : am_C X l (am_rm 72 0 0) cX2_reads yX2_reads.cls (some .boolean)) (hnt : am_NT X) {a1 : Nat} (h1 : kLaw a1) : ∀ (n : Nat) (v2 : Int32) (M : Mm) (r : Int32) (M' : Mm), f_X2_reads_18 N a1 n v2 M = some (r, M') → am_V X LY M 0 0 (am_Q X LY 0 0 (.inl (some (.int r))) M') 18 [some (.ref 3), some (.ref a1), some (.int v2)] [] := by
  intro n
  induction n with
  | zero => intro v2 M r M' h; cases h
  | succ n ih =>
    intro v2 M r M' h
    simp only [f_X2_reads_18] at h
    refine v_iload_n hC dX2_reads_18 rfl ?_
    refine v_bipush (v := (12 : Int32)) hC dX2_reads_19 rfl ?_
    refine v_icmp_ge hC 63 dX2_reads_21 rfl (fun c8 => ?_) (fun c8 => ?_)
    · rw [if_pos c8] at h
      refine v_iconst (v := (0 : Int32)) hC dX2_reads_63 rfl ?_
      cases h
      exact v_zret hC (by decide) (by decide) (by decide) dX2_reads_64
    · rw [if_neg c8] at h
      refine v_aload_n hC dX2_reads_24 rfl ?_
      refine v_aload_n hC dX2_reads_25 rfl ?_
      obtain ⟨r9, M10, q11, h⟩ := bnd_some h
      refine w_callSi hC [.ref 3, .ref a1] [] (ok_X2_readsLine h1 q11) ms_X2_readsLine aw_809 rfl (Nat.le_of_ble_eq_true rfl) ⟨by decide, by decide⟩ ⟨by decide, by decide⟩ dX2_reads_26 ?_
      refine v_if_ne hC 34 dX2_reads_29 rfl (fun c12 => ?_) (fun c12 => ?_)
      · rw [if_neg c12] at h
        refine v_aload_n hC dX2_reads_34 rfl ?_
        obtain ⟨r13, M14, q15, h⟩ := bnd_some h
        refine w_callVi hC [] [] (ok_X9_kind q15) mv_X9_kind aw_808 ly_3 rfl (Nat.le_of_ble_eq_true rfl) ⟨by decide, by decide⟩ ⟨by decide, by decide⟩ dX2_reads_35 ?_
        refine v_sipush (v := (303 : Int32)) hC dX2_reads_38 rfl ?_
        refine v_icmp_ne hC 46 dX2_reads_41 rfl (fun c16 => ?_) (fun c16 => ?_)
        · rw [if_neg c16] at h
          refine v_aload_n hC dX2_reads_46 rfl ?_
          refine v_bipush (v := (59 : Int32)) hC dX2_reads_47 rfl ?_
          obtain ⟨r17, M18, q19, h⟩ := bnd_some h
          refine w_callVi hC [.int (59 : Int32)] [] (ok_X9_eats q19) mv_X9_eats aw_812 ly_3 rfl (Nat.le_of_ble_eq_true rfl) ⟨by decide, by decide⟩ ⟨by decide, by decide⟩ dX2_reads_49 ?_
          refine v_if_ne hC 57 dX2_reads_52 rfl (fun c20 => ?_) (fun c20 => ?_)
          · rw [if_neg c20] at h
            refine w_iinc hC (v2 + (1 : Int32)) dX2_reads_57 rfl rfl [some (.ref 3), some (.ref a1), some (.int (v2 + (1 : Int32)))] rfl ?_
            refine v_goto (tg := 18) hC dX2_reads_60 rfl ?_
            exact ih _ _ _ _ h
          · rw [if_pos c20] at h
            refine v_iconst (v := (0 : Int32)) hC dX2_reads_55 rfl ?_
            cases h
            exact v_zret hC (by decide) (by decide) (by decide) dX2_reads_56
        · rw [if_pos c16] at h
          refine v_iconst (v := (1 : Int32)) hC dX2_reads_44 rfl ?_
          cases h
          exact v_zret hC (by decide) (by decide) (by decide) dX2_reads_45
      · rw [if_pos c12] at h
        refine v_iconst (v := (0 : Int32)) hC dX2_reads_32 rfl ?_
        cases h
        exact v_zret hC (by decide) (by decide) (by decide) dX2_reads_33
set_option maxRecDepth 20000 in
set_option maxHeartbeats 4000000 in
theorem ok_X2_reads {l : Launch} {N : Nat} {a1 : Nat} {M : Mm} {r : Int32} {M' : Mm} (h1 : kLaw a1) (h : f_X2_reads N a1 M = some (r, M')) : am_M l yX2_reads cX2_reads 3 (some .boolean) 72 0 0 LY M [.ref 3, .ref a1] (.inl (some (.int r))) M' := by
  unfold f_X2_reads at h
  refine am_intro (by decide) (by simp [Value.category]) (Nat.le_of_ble_eq_true rfl) (fun X hC hnt => ?_)
  refine am_start (L := [some (.ref 3), some (.ref a1), none]) rfl ?_
  refine v_aload_n hC dX2_reads_0 rfl ?_
  obtain ⟨r1, M2, q3, h⟩ := bnd_some h
  refine w_callVv hC [] [] (ok_X1_clears h1 q3) mv_X1_clears aw_804 h1.1 rfl (Nat.le_of_ble_eq_true rfl) ⟨by decide, by decide⟩ ⟨by decide, by decide⟩ dX2_reads_1 ?_
  refine v_aload_n hC dX2_reads_4 rfl ?_
  obtain ⟨r4, M5, q6, h⟩ := bnd_some h
  refine w_callVi hC [] [] (ok_X9_kind q6) mv_X9_kind aw_808 ly_3 rfl (Nat.le_of_ble_eq_true rfl) ⟨by decide, by decide⟩ ⟨by decide, by decide⟩ dX2_reads_5 ?_
  refine v_sipush (v := (303 : Int32)) hC dX2_reads_8 rfl ?_
  refine v_icmp_ne hC 16 dX2_reads_11 rfl (fun c7 => ?_) (fun c7 => ?_)
  · rw [if_neg c7] at h
    refine v_iconst (v := (0 : Int32)) hC dX2_reads_16 rfl ?_
    refine w_istore_n hC dX2_reads_17 (ltk rfl) [some (.ref 3), some (.ref a1), some (.int (0 : Int32))] rfl ?_
    exact ok_X2_reads_18 hC hnt h1 N _ _ _ _ h
  · rw [if_pos c7] at h
    refine v_iconst (v := (1 : Int32)) hC dX2_reads_14 rfl ?_
    cases h
    exact v_zret hC (by decide) (by decide) (by decide) dX2_reads_15
def f_X4_copies (N : Nat) (a0 : Nat) (a1 : Nat) (M : Mm) : Option (Int32 × Mm) :=
  lt (cpy M (a1 + 1) (a0 + 1) 60) (fun M1 => lt (wr M1 a0 1 (M1 a1 1)) (fun M2 => lt (wr M2 a0 2 (M2 a1 2)) (fun M3 => some (0, M3))))
set_option maxRecDepth 20000 in
set_option maxHeartbeats 4000000 in
theorem ok_X4_copies {l : Launch} {N : Nat} {a0 a1 : Nat} {M : Mm} {r : Int32} {M' : Mm} (h0 : kLog a0) (h1 : kLog a1) (h : f_X4_copies N a0 a1 M = some (r, M')) : am_M l yX4_copies cX4_copies 2 none 1 0 0 LY M [.ref a0, .ref a1] (.inl none) M' := by
  unfold f_X4_copies at h
  refine am_intro (by decide) (by simp [Value.category]) (Nat.le_of_ble_eq_true rfl) (fun X hC hnt => ?_)
  refine am_start (L := [some (.ref a0), some (.ref a1)]) rfl ?_
  refine v_aload_n hC dX4_copies_0 rfl ?_
  refine v_geta (k := 0) (b := (a1 + 1)) hC cls_X4 h1.1 (by decide) rfl aw_221 rfl dX4_copies_1 ?_
  refine v_iconst (v := (0 : Int32)) hC dX4_copies_4 rfl ?_
  refine v_aload_n hC dX4_copies_5 rfl ?_
  refine v_geta (k := 0) (b := (a0 + 1)) hC cls_X4 h0.1 (by decide) rfl aw_221 rfl dX4_copies_6 ?_
  refine v_iconst (v := (0 : Int32)) hC dX4_copies_9 rfl ?_
  refine v_bipush (v := (60 : Int32)) hC dX4_copies_10 rfl ?_
  obtain ⟨M1, e_M1, h⟩ := lt_some h
  refine w_copy (N := 60) hC rfl (by decide) (kP_packed h1) (kP_packed h0) (by decide) (by decide) aw_553 aw_403 aw_402 aw_12 (by decide) (Nat.le_of_ble_eq_true rfl) dX4_copies_12 e_M1 ?_
  refine v_aload_n hC dX4_copies_15 rfl ?_
  refine v_aload_n hC dX4_copies_16 rfl ?_
  refine v_geti (k := 1) hC cls_X4 h1.1 (by decide) rfl aw_222 rfl dX4_copies_17 ?_
  obtain ⟨M2, e_M2, h⟩ := lt_some h
  refine w_puti (k := 1) hC cls_X4 h0.1 (by decide) rfl aw_222 rfl rfl ⟨rfl, rfl⟩ dX4_copies_20 e_M2 ?_
  refine v_aload_n hC dX4_copies_23 rfl ?_
  refine v_aload_n hC dX4_copies_24 rfl ?_
  refine v_geti (k := 2) hC cls_X4 h1.1 (by decide) rfl aw_224 rfl dX4_copies_25 ?_
  obtain ⟨M3, e_M3, h⟩ := lt_some h
  refine w_puti (k := 2) hC cls_X4 h0.1 (by decide) rfl aw_224 rfl rfl ⟨rfl, rfl⟩ dX4_copies_28 e_M3 ?_
  cases h
  exact v_vret hC (by decide) (by decide) dX4_copies_31
def f_X6_copies (N : Nat) (a0 : Nat) (a1 : Nat) (M : Mm) : Option (Int32 × Mm) :=
  lt (wr M a0 0 (M a1 0)) (fun M1 => lt (wr M1 a0 1 (M1 a1 1)) (fun M2 => lt (wr M2 a0 2 (M2 a1 2)) (fun M3 => lt (wr M3 a0 3 (M3 a1 3)) (fun M4 => lt (wr M4 a0 4 (M4 a1 4)) (fun M5 => lt (wr M5 a0 5 (M5 a1 5)) (fun M6 => lt (wr M6 a0 6 (M6 a1 6)) (fun M7 => lt (wr M7 a0 7 (M7 a1 7)) (fun M8 => lt (wr M8 a0 8 (M8 a1 8)) (fun M9 => lt (wr M9 a0 9 (M9 a1 9)) (fun M10 => lt (wr M10 a0 10 (M10 a1 10)) (fun M11 => lt (cpy M11 (a1 + 1) (a0 + 1) 10) (fun M12 => lt (cpy M12 (a1 + 2) (a0 + 2) 8) (fun M13 => lt (cpy M13 (a1 + 3) (a0 + 3) 48) (fun M14 => lt (cpy M14 (a1 + 4) (a0 + 4) 5) (fun M15 => lt (cpy M15 (a1 + 5) (a0 + 5) 5) (fun M16 => lt (cpy M16 (a1 + 6) (a0 + 6) 5) (fun M17 => lt (cpy M17 (a1 + 7) (a0 + 7) 5) (fun M18 => lt (cpy M18 (a1 + 8) (a0 + 8) 5) (fun M19 => some (0, M19))))))))))))))))))))
set_option maxRecDepth 20000 in
set_option maxHeartbeats 4000000 in
theorem ok_X6_copies {l : Launch} {N : Nat} {a0 a1 : Nat} {M : Mm} {r : Int32} {M' : Mm} (h0 : kTable a0) (h1 : kTable a1) (h : f_X6_copies N a0 a1 M = some (r, M')) : am_M l yX6_copies cX6_copies 2 none 1 0 0 LY M [.ref a0, .ref a1] (.inl none) M' := by
  unfold f_X6_copies at h
  refine am_intro (by decide) (by simp [Value.category]) (Nat.le_of_ble_eq_true rfl) (fun X hC hnt => ?_)
  refine am_start (L := [some (.ref a0), some (.ref a1)]) rfl ?_
  refine v_aload_n hC dX6_copies_0 rfl ?_
  refine v_aload_n hC dX6_copies_1 rfl ?_
  refine v_geti (k := 0) hC cls_X6 h1.1 (by decide) rfl aw_85 rfl dX6_copies_2 ?_
  obtain ⟨M1, e_M1, h⟩ := lt_some h
  refine w_puti (k := 0) hC cls_X6 h0.1 (by decide) rfl aw_85 rfl rfl ⟨rfl, rfl⟩ dX6_copies_5 e_M1 ?_
  refine v_aload_n hC dX6_copies_8 rfl ?_
  refine v_aload_n hC dX6_copies_9 rfl ?_
  refine v_geti (k := 1) hC cls_X6 h1.1 (by decide) rfl aw_88 rfl dX6_copies_10 ?_
  obtain ⟨M2, e_M2, h⟩ := lt_some h
  refine w_puti (k := 1) hC cls_X6 h0.1 (by decide) rfl aw_88 rfl rfl ⟨rfl, rfl⟩ dX6_copies_13 e_M2 ?_
  refine v_aload_n hC dX6_copies_16 rfl ?_
  refine v_aload_n hC dX6_copies_17 rfl ?_
  refine v_geti (k := 2) hC cls_X6 h1.1 (by decide) rfl aw_92 rfl dX6_copies_18 ?_
  obtain ⟨M3, e_M3, h⟩ := lt_some h
  refine w_puti (k := 2) hC cls_X6 h0.1 (by decide) rfl aw_92 rfl rfl ⟨rfl, rfl⟩ dX6_copies_21 e_M3 ?_
  refine v_aload_n hC dX6_copies_24 rfl ?_
  refine v_aload_n hC dX6_copies_25 rfl ?_
  refine v_geti (k := 3) hC cls_X6 h1.1 (by decide) rfl aw_94 rfl dX6_copies_26 ?_
  obtain ⟨M4, e_M4, h⟩ := lt_some h
  refine w_puti (k := 3) hC cls_X6 h0.1 (by decide) rfl aw_94 rfl rfl ⟨rfl, rfl⟩ dX6_copies_29 e_M4 ?_
  refine v_aload_n hC dX6_copies_32 rfl ?_
  refine v_aload_n hC dX6_copies_33 rfl ?_
  refine v_geti (k := 4) hC cls_X6 h1.1 (by decide) rfl aw_97 rfl dX6_copies_34 ?_
  obtain ⟨M5, e_M5, h⟩ := lt_some h
  refine w_puti (k := 4) hC cls_X6 h0.1 (by decide) rfl aw_97 rfl rfl ⟨rfl, rfl⟩ dX6_copies_37 e_M5 ?_
  refine v_aload_n hC dX6_copies_40 rfl ?_
  refine v_aload_n hC dX6_copies_41 rfl ?_
  refine v_geti (k := 5) hC cls_X6 h1.1 (by decide) rfl aw_102 rfl dX6_copies_42 ?_
  obtain ⟨M6, e_M6, h⟩ := lt_some h
  refine w_puti (k := 5) hC cls_X6 h0.1 (by decide) rfl aw_102 rfl rfl ⟨rfl, rfl⟩ dX6_copies_45 e_M6 ?_
  refine v_aload_n hC dX6_copies_48 rfl ?_
  refine v_aload_n hC dX6_copies_49 rfl ?_
  refine v_geti (k := 6) hC cls_X6 h1.1 (by decide) rfl aw_105 rfl dX6_copies_50 ?_
  obtain ⟨M7, e_M7, h⟩ := lt_some h
  refine w_puti (k := 6) hC cls_X6 h0.1 (by decide) rfl aw_105 rfl rfl ⟨rfl, rfl⟩ dX6_copies_53 e_M7 ?_
  refine v_aload_n hC dX6_copies_56 rfl ?_
  refine v_aload_n hC dX6_copies_57 rfl ?_
  refine v_geti (k := 7) hC cls_X6 h1.1 (by decide) rfl aw_109 rfl dX6_copies_58 ?_
  obtain ⟨M8, e_M8, h⟩ := lt_some h
  refine w_puti (k := 7) hC cls_X6 h0.1 (by decide) rfl aw_109 rfl rfl ⟨rfl, rfl⟩ dX6_copies_61 e_M8 ?_
  refine v_aload_n hC dX6_copies_64 rfl ?_
  refine v_aload_n hC dX6_copies_65 rfl ?_
  refine v_geti (k := 8) hC cls_X6 h1.1 (by decide) rfl aw_113 rfl dX6_copies_66 ?_
  obtain ⟨M9, e_M9, h⟩ := lt_some h
  refine w_puti (k := 8) hC cls_X6 h0.1 (by decide) rfl aw_113 rfl rfl ⟨rfl, rfl⟩ dX6_copies_69 e_M9 ?_
  refine v_aload_n hC dX6_copies_72 rfl ?_
  refine v_aload_n hC dX6_copies_73 rfl ?_
  refine v_geti (k := 9) hC cls_X6 h1.1 (by decide) rfl aw_116 rfl dX6_copies_74 ?_
  obtain ⟨M10, e_M10, h⟩ := lt_some h
  refine w_puti (k := 9) hC cls_X6 h0.1 (by decide) rfl aw_116 rfl rfl ⟨rfl, rfl⟩ dX6_copies_77 e_M10 ?_
  refine v_aload_n hC dX6_copies_80 rfl ?_
  refine v_aload_n hC dX6_copies_81 rfl ?_
  refine v_geti (k := 10) hC cls_X6 h1.1 (by decide) rfl aw_118 rfl dX6_copies_82 ?_
  obtain ⟨M11, e_M11, h⟩ := lt_some h
  refine w_puti (k := 10) hC cls_X6 h0.1 (by decide) rfl aw_118 rfl rfl ⟨rfl, rfl⟩ dX6_copies_85 e_M11 ?_
  refine v_aload_n hC dX6_copies_88 rfl ?_
  refine v_geta (k := 11) (b := (a1 + 1)) hC cls_X6 h1.1 (by decide) rfl aw_120 rfl dX6_copies_89 ?_
  refine v_iconst (v := (0 : Int32)) hC dX6_copies_92 rfl ?_
  refine v_aload_n hC dX6_copies_93 rfl ?_
  refine v_geta (k := 11) (b := (a0 + 1)) hC cls_X6 h0.1 (by decide) rfl aw_120 rfl dX6_copies_94 ?_
  refine v_iconst (v := (0 : Int32)) hC dX6_copies_97 rfl ?_
  refine v_bipush (v := (10 : Int32)) hC dX6_copies_98 rfl ?_
  obtain ⟨M12, e_M12, h⟩ := lt_some h
  refine w_copy (N := 10) hC rfl (by decide) (kT_who h1) (kT_who h0) (by decide) (by decide) aw_401 aw_403 aw_402 aw_12 (by decide) (Nat.le_of_ble_eq_true rfl) dX6_copies_100 e_M12 ?_
  refine v_aload_n hC dX6_copies_103 rfl ?_
  refine v_geta (k := 12) (b := (a1 + 2)) hC cls_X6 h1.1 (by decide) rfl aw_121 rfl dX6_copies_104 ?_
  refine v_iconst (v := (0 : Int32)) hC dX6_copies_107 rfl ?_
  refine v_aload_n hC dX6_copies_108 rfl ?_
  refine v_geta (k := 12) (b := (a0 + 2)) hC cls_X6 h0.1 (by decide) rfl aw_121 rfl dX6_copies_109 ?_
  refine v_iconst (v := (0 : Int32)) hC dX6_copies_112 rfl ?_
  refine v_bipush (v := (8 : Int32)) hC dX6_copies_113 rfl ?_
  obtain ⟨M13, e_M13, h⟩ := lt_some h
  refine w_copy (N := 8) hC rfl (by decide) (kT_taste h1) (kT_taste h0) (by decide) (by decide) aw_401 aw_403 aw_402 aw_12 (by decide) (Nat.le_of_ble_eq_true rfl) dX6_copies_115 e_M13 ?_
  refine v_aload_n hC dX6_copies_118 rfl ?_
  refine v_geta (k := 13) (b := (a1 + 3)) hC cls_X6 h1.1 (by decide) rfl aw_124 rfl dX6_copies_119 ?_
  refine v_iconst (v := (0 : Int32)) hC dX6_copies_122 rfl ?_
  refine v_aload_n hC dX6_copies_123 rfl ?_
  refine v_geta (k := 13) (b := (a0 + 3)) hC cls_X6 h0.1 (by decide) rfl aw_124 rfl dX6_copies_124 ?_
  refine v_iconst (v := (0 : Int32)) hC dX6_copies_127 rfl ?_
  refine v_bipush (v := (48 : Int32)) hC dX6_copies_128 rfl ?_
  obtain ⟨M14, e_M14, h⟩ := lt_some h
  refine w_copy (N := 48) hC rfl (by decide) (kT_has h1) (kT_has h0) (by decide) (by decide) aw_401 aw_403 aw_402 aw_12 (by decide) (Nat.le_of_ble_eq_true rfl) dX6_copies_130 e_M14 ?_
  refine v_aload_n hC dX6_copies_133 rfl ?_
  refine v_geta (k := 14) (b := (a1 + 4)) hC cls_X6 h1.1 (by decide) rfl aw_125 rfl dX6_copies_134 ?_
  refine v_iconst (v := (0 : Int32)) hC dX6_copies_137 rfl ?_
  refine v_aload_n hC dX6_copies_138 rfl ?_
  refine v_geta (k := 14) (b := (a0 + 4)) hC cls_X6 h0.1 (by decide) rfl aw_125 rfl dX6_copies_139 ?_
  refine v_iconst (v := (0 : Int32)) hC dX6_copies_142 rfl ?_
  refine v_iconst (v := (5 : Int32)) hC dX6_copies_143 rfl ?_
  obtain ⟨M15, e_M15, h⟩ := lt_some h
  refine w_copy (N := 5) hC rfl (by decide) (kT_place h1) (kT_place h0) (by decide) (by decide) aw_401 aw_403 aw_402 aw_12 (by decide) (Nat.le_of_ble_eq_true rfl) dX6_copies_144 e_M15 ?_
  refine v_aload_n hC dX6_copies_147 rfl ?_
  refine v_geta (k := 15) (b := (a1 + 5)) hC cls_X6 h1.1 (by decide) rfl aw_128 rfl dX6_copies_148 ?_
  refine v_iconst (v := (0 : Int32)) hC dX6_copies_151 rfl ?_
  refine v_aload_n hC dX6_copies_152 rfl ?_
  refine v_geta (k := 15) (b := (a0 + 5)) hC cls_X6 h0.1 (by decide) rfl aw_128 rfl dX6_copies_153 ?_
  refine v_iconst (v := (0 : Int32)) hC dX6_copies_156 rfl ?_
  refine v_iconst (v := (5 : Int32)) hC dX6_copies_157 rfl ?_
  obtain ⟨M16, e_M16, h⟩ := lt_some h
  refine w_copy (N := 5) hC rfl (by decide) (kT_trait h1) (kT_trait h0) (by decide) (by decide) aw_401 aw_403 aw_402 aw_12 (by decide) (Nat.le_of_ble_eq_true rfl) dX6_copies_158 e_M16 ?_
  refine v_aload_n hC dX6_copies_161 rfl ?_
  refine v_geta (k := 16) (b := (a1 + 6)) hC cls_X6 h1.1 (by decide) rfl aw_132 rfl dX6_copies_162 ?_
  refine v_iconst (v := (0 : Int32)) hC dX6_copies_165 rfl ?_
  refine v_aload_n hC dX6_copies_166 rfl ?_
  refine v_geta (k := 16) (b := (a0 + 6)) hC cls_X6 h0.1 (by decide) rfl aw_132 rfl dX6_copies_167 ?_
  refine v_iconst (v := (0 : Int32)) hC dX6_copies_170 rfl ?_
  refine v_iconst (v := (5 : Int32)) hC dX6_copies_171 rfl ?_
  obtain ⟨M17, e_M17, h⟩ := lt_some h
  refine w_copy (N := 5) hC rfl (by decide) (kT_grains h1) (kT_grains h0) (by decide) (by decide) aw_401 aw_403 aw_402 aw_12 (by decide) (Nat.le_of_ble_eq_true rfl) dX6_copies_172 e_M17 ?_
  refine v_aload_n hC dX6_copies_175 rfl ?_
  refine v_geta (k := 17) (b := (a1 + 7)) hC cls_X6 h1.1 (by decide) rfl aw_136 rfl dX6_copies_176 ?_
  refine v_iconst (v := (0 : Int32)) hC dX6_copies_179 rfl ?_
  refine v_aload_n hC dX6_copies_180 rfl ?_
  refine v_geta (k := 17) (b := (a0 + 7)) hC cls_X6 h0.1 (by decide) rfl aw_136 rfl dX6_copies_181 ?_
  refine v_iconst (v := (0 : Int32)) hC dX6_copies_184 rfl ?_
  refine v_iconst (v := (5 : Int32)) hC dX6_copies_185 rfl ?_
  obtain ⟨M18, e_M18, h⟩ := lt_some h
  refine w_copy (N := 5) hC rfl (by decide) (kT_set h1) (kT_set h0) (by decide) (by decide) aw_401 aw_403 aw_402 aw_12 (by decide) (Nat.le_of_ble_eq_true rfl) dX6_copies_186 e_M18 ?_
  refine v_aload_n hC dX6_copies_189 rfl ?_
  refine v_geta (k := 18) (b := (a1 + 8)) hC cls_X6 h1.1 (by decide) rfl aw_140 rfl dX6_copies_190 ?_
  refine v_iconst (v := (0 : Int32)) hC dX6_copies_193 rfl ?_
  refine v_aload_n hC dX6_copies_194 rfl ?_
  refine v_geta (k := 18) (b := (a0 + 8)) hC cls_X6 h0.1 (by decide) rfl aw_140 rfl dX6_copies_195 ?_
  refine v_iconst (v := (0 : Int32)) hC dX6_copies_198 rfl ?_
  refine v_iconst (v := (5 : Int32)) hC dX6_copies_199 rfl ?_
  obtain ⟨M19, e_M19, h⟩ := lt_some h
  refine w_copy (N := 5) hC rfl (by decide) (kT_step h1) (kT_step h0) (by decide) (by decide) aw_401 aw_403 aw_402 aw_12 (by decide) (Nat.le_of_ble_eq_true rfl) dX6_copies_200 e_M19 ?_
  cases h
  exact v_vret hC (by decide) (by decide) dX6_copies_203
def f_X3_keeps (N : Nat) (a0 : Nat) (a1 : Nat) (a2 : Nat) (M : Mm) : Option (Int32 × Mm) :=
  bnd (f_X6_copies N (a0 + 1) a1 M) (fun r1 M2 => bnd (f_X4_copies N (a0 + 10) a2 M2) (fun r4 M5 => some (0, M5)))
set_option maxRecDepth 20000 in
set_option maxHeartbeats 4000000 in
theorem ok_X3_keeps {l : Launch} {N : Nat} {a0 a1 a2 : Nat} {M : Mm} {r : Int32} {M' : Mm} (h0 : kMoment a0) (h1 : kTable a1) (h2 : kLog a2) (h : f_X3_keeps N a0 a1 a2 M = some (r, M')) : am_M l yX3_keeps cX3_keeps 3 none 2 0 0 LY M [.ref a0, .ref a1, .ref a2] (.inl none) M' := by
  unfold f_X3_keeps at h
  refine am_intro (by decide) (by simp [Value.category]) (Nat.le_of_ble_eq_true rfl) (fun X hC hnt => ?_)
  refine am_start (L := [some (.ref a0), some (.ref a1), some (.ref a2)]) rfl ?_
  refine v_aload_n hC dX3_keeps_0 rfl ?_
  refine v_geta (k := 0) (b := (a0 + 1)) hC cls_X3 h0.1 (by decide) rfl aw_308 rfl dX3_keeps_1 ?_
  refine v_aload_n hC dX3_keeps_4 rfl ?_
  obtain ⟨r1, M2, q3, h⟩ := bnd_some h
  refine w_callVv hC [.ref a1] [] (ok_X6_copies (kM_table h0) h1 q3) mv_X6_copies aw_548 (kM_table h0).1 rfl (Nat.le_of_ble_eq_true rfl) ⟨by decide, by decide⟩ ⟨by decide, by decide⟩ dX3_keeps_5 ?_
  refine v_aload_n hC dX3_keeps_8 rfl ?_
  refine v_geta (k := 1) (b := (a0 + 10)) hC cls_X3 h0.1 (by decide) rfl aw_309 rfl dX3_keeps_9 ?_
  refine v_aload_n hC dX3_keeps_12 rfl ?_
  obtain ⟨r4, M5, q6, h⟩ := bnd_some h
  refine w_callVv hC [.ref a2] [] (ok_X4_copies (kM_log h0) h2 q6) mv_X4_copies aw_549 (kM_log h0).1 rfl (Nat.le_of_ble_eq_true rfl) ⟨by decide, by decide⟩ ⟨by decide, by decide⟩ dX3_keeps_13 ?_
  cases h
  exact v_vret hC (by decide) (by decide) dX3_keeps_16
def f_X3_returns (N : Nat) (a0 : Nat) (a1 : Nat) (a2 : Nat) (M : Mm) : Option (Int32 × Mm) :=
  bnd (f_X6_copies N a1 (a0 + 1) M) (fun r1 M2 => bnd (f_X4_copies N a2 (a0 + 10) M2) (fun r4 M5 => some (0, M5)))
set_option maxRecDepth 20000 in
set_option maxHeartbeats 4000000 in
theorem ok_X3_returns {l : Launch} {N : Nat} {a0 a1 a2 : Nat} {M : Mm} {r : Int32} {M' : Mm} (h0 : kMoment a0) (h1 : kTable a1) (h2 : kLog a2) (h : f_X3_returns N a0 a1 a2 M = some (r, M')) : am_M l yX3_returns cX3_returns 3 none 2 0 0 LY M [.ref a0, .ref a1, .ref a2] (.inl none) M' := by
  unfold f_X3_returns at h
  refine am_intro (by decide) (by simp [Value.category]) (Nat.le_of_ble_eq_true rfl) (fun X hC hnt => ?_)
  refine am_start (L := [some (.ref a0), some (.ref a1), some (.ref a2)]) rfl ?_
  refine v_aload_n hC dX3_returns_0 rfl ?_
  refine v_aload_n hC dX3_returns_1 rfl ?_
  refine v_geta (k := 0) (b := (a0 + 1)) hC cls_X3 h0.1 (by decide) rfl aw_308 rfl dX3_returns_2 ?_
  obtain ⟨r1, M2, q3, h⟩ := bnd_some h
  refine w_callVv hC [.ref (a0 + 1)] [] (ok_X6_copies h1 (kM_table h0) q3) mv_X6_copies aw_548 h1.1 rfl (Nat.le_of_ble_eq_true rfl) ⟨by decide, by decide⟩ ⟨by decide, by decide⟩ dX3_returns_5 ?_
  refine v_aload_n hC dX3_returns_8 rfl ?_
  refine v_aload_n hC dX3_returns_9 rfl ?_
  refine v_geta (k := 1) (b := (a0 + 10)) hC cls_X3 h0.1 (by decide) rfl aw_309 rfl dX3_returns_10 ?_
  obtain ⟨r4, M5, q6, h⟩ := bnd_some h
  refine w_callVv hC [.ref (a0 + 10)] [] (ok_X4_copies h2 (kM_log h0) q6) mv_X4_copies aw_549 h2.1 rfl (Nat.le_of_ble_eq_true rfl) ⟨by decide, by decide⟩ ⟨by decide, by decide⟩ dX3_returns_13 ?_
  cases h
  exact v_vret hC (by decide) (by decide) dX3_returns_16
def f_X4_adds (N : Nat) (a0 : Nat) (a1 : Nat) (v2 : Int32) (v3 : Int32) (v4 : Int32) (M : Mm) : Option (Int32 × Mm) :=
  (if (M a0 2) < (0 : Int32) then some (0, M) else (if (M a0 2) < (60 : Int32) then grd (inb (M a0 2) 60) (lt (wr M (a0 + 1) ((M a0 2)).toNatClampNeg ((((((M a1 5) <<< ((18 : Int32) &&& 31)) ||| ((M a1 4) <<< ((14 : Int32) &&& 31))) ||| (v2 <<< ((11 : Int32) &&& 31))) ||| (v3 <<< ((8 : Int32) &&& 31))) ||| v4)) (fun M4 => lt (wr M4 a0 2 (((M4 a0 2) + (1 : Int32)) - ((M4 a0 2) + (1 : Int32)) / (60 : Int32) * (60 : Int32))) (fun M5 => lt (wr M5 a0 1 (if ((M5 a0 1) + (1 : Int32)) < (60 : Int32) then ((M5 a0 1) + (1 : Int32)) else (60 : Int32))) (fun M6 => some (0, M6))))) else some (0, M)))
set_option maxRecDepth 20000 in
set_option maxHeartbeats 4000000 in
theorem ok_X4_adds {l : Launch} {N : Nat} {a0 a1 : Nat} {v2 v3 v4 : Int32} {M : Mm} {r : Int32} {M' : Mm} (h0 : kLog a0) (h1 : kTable a1) (h : f_X4_adds N a0 a1 v2 v3 v4 M = some (r, M')) : am_M l yX4_adds cX4_adds 5 none 1 0 0 LY M [.ref a0, .ref a1, .int v2, .int v3, .int v4] (.inl none) M' := by
  unfold f_X4_adds at h
  refine am_intro (by decide) (by simp [Value.category]) (Nat.le_of_ble_eq_true rfl) (fun X hC hnt => ?_)
  refine am_start (L := [some (.ref a0), some (.ref a1), some (.int v2), some (.int v3), some (.int v4)]) rfl ?_
  refine v_aload_n hC dX4_adds_0 rfl ?_
  refine v_geti (k := 2) hC cls_X4 h0.1 (by decide) rfl aw_224 rfl dX4_adds_1 ?_
  refine v_if_lt hC 16 dX4_adds_4 rfl (fun c1 => ?_) (fun c1 => ?_)
  · rw [if_pos c1] at h
    cases h
    exact v_vret hC (by decide) (by decide) dX4_adds_16
  · rw [if_neg c1] at h
    refine v_aload_n hC dX4_adds_7 rfl ?_
    refine v_geti (k := 2) hC cls_X4 h0.1 (by decide) rfl aw_224 rfl dX4_adds_8 ?_
    refine v_bipush (v := (60 : Int32)) hC dX4_adds_11 rfl ?_
    refine v_icmp_lt hC 17 dX4_adds_13 rfl (fun c2 => ?_) (fun c2 => ?_)
    · rw [if_pos c2] at h
      refine v_aload_n hC dX4_adds_17 rfl ?_
      refine v_geta (k := 0) (b := (a0 + 1)) hC cls_X4 h0.1 (by decide) rfl aw_221 rfl dX4_adds_18 ?_
      refine v_aload_n hC dX4_adds_21 rfl ?_
      refine v_geti (k := 2) hC cls_X4 h0.1 (by decide) rfl aw_224 rfl dX4_adds_22 ?_
      refine v_aload_n hC dX4_adds_25 rfl ?_
      refine v_geti (k := 5) hC cls_X6 h1.1 (by decide) rfl aw_103 rfl dX4_adds_26 ?_
      refine v_bipush (v := (18 : Int32)) hC dX4_adds_29 rfl ?_
      refine v_ishl hC dX4_adds_31 ?_
      refine v_aload_n hC dX4_adds_32 rfl ?_
      refine v_geti (k := 4) hC cls_X6 h1.1 (by decide) rfl aw_99 rfl dX4_adds_33 ?_
      refine v_bipush (v := (14 : Int32)) hC dX4_adds_36 rfl ?_
      refine v_ishl hC dX4_adds_38 ?_
      refine v_ior hC dX4_adds_39 ?_
      refine v_iload_n hC dX4_adds_40 rfl ?_
      refine v_bipush (v := (11 : Int32)) hC dX4_adds_41 rfl ?_
      refine v_ishl hC dX4_adds_43 ?_
      refine v_ior hC dX4_adds_44 ?_
      refine v_iload_n hC dX4_adds_45 rfl ?_
      refine v_bipush (v := (8 : Int32)) hC dX4_adds_46 rfl ?_
      refine v_ishl hC dX4_adds_48 ?_
      refine v_ior hC dX4_adds_49 ?_
      refine v_iload hC dX4_adds_50 rfl ?_
      refine v_ior hC dX4_adds_52 ?_
      obtain ⟨g3, h⟩ := grd_some h
      obtain ⟨M4, e_M4, h⟩ := lt_some h
      refine w_iast hC (kP_packed h0) (inb_in g3) dX4_adds_53 e_M4 ?_
      refine v_aload_n hC dX4_adds_54 rfl ?_
      refine v_aload_n hC dX4_adds_55 rfl ?_
      refine v_geti (k := 2) hC cls_X4 h0.1 (by decide) rfl aw_224 rfl dX4_adds_56 ?_
      refine v_iconst (v := (1 : Int32)) hC dX4_adds_59 rfl ?_
      refine v_iadd hC dX4_adds_60 ?_
      refine v_bipush (v := (60 : Int32)) hC dX4_adds_61 rfl ?_
      refine v_irem hC dX4_adds_63 (by decide) ?_
      obtain ⟨M5, e_M5, h⟩ := lt_some h
      refine w_puti (k := 2) hC cls_X4 h0.1 (by decide) rfl aw_224 rfl rfl ⟨rfl, rfl⟩ dX4_adds_64 e_M5 ?_
      refine v_aload_n hC dX4_adds_67 rfl ?_
      refine v_bipush (v := (60 : Int32)) hC dX4_adds_68 rfl ?_
      refine v_aload_n hC dX4_adds_70 rfl ?_
      refine v_geti (k := 1) hC cls_X4 h0.1 (by decide) rfl aw_222 rfl dX4_adds_71 ?_
      refine v_iconst (v := (1 : Int32)) hC dX4_adds_74 rfl ?_
      refine v_iadd hC dX4_adds_75 ?_
      refine v_mmin hC aw_471 wm_min (Nat.le_of_ble_eq_true rfl) (Nat.le_of_ble_eq_true rfl) (Nat.le_of_ble_eq_true rfl) (Nat.le_of_ble_eq_true rfl) dX4_adds_76 ?_
      obtain ⟨M6, e_M6, h⟩ := lt_some h
      refine w_puti (k := 1) hC cls_X4 h0.1 (by decide) rfl aw_222 rfl rfl ⟨rfl, rfl⟩ dX4_adds_79 e_M6 ?_
      cases h
      exact v_vret hC (by decide) (by decide) dX4_adds_82
    · rw [if_neg c2] at h
      cases h
      exact v_vret hC (by decide) (by decide) dX4_adds_16
def f_X4_tells (N : Nat) (a0 : Nat) (v1 : Int32) (v2 : Int32) (M : Mm) : Option (Int32 × Mm) :=
  (if v1 < (0 : Int32) then some ((-1 : Int32), M) else (if v1 < (M a0 1) then grd (inb (((((M a0 2) - (1 : Int32)) - v1) + (120 : Int32)) - ((((M a0 2) - (1 : Int32)) - v1) + (120 : Int32)) / (60 : Int32) * (60 : Int32)) 60) (lt (M (a0 + 1) ((((((M a0 2) - (1 : Int32)) - v1) + (120 : Int32)) - ((((M a0 2) - (1 : Int32)) - v1) + (120 : Int32)) / (60 : Int32) * (60 : Int32))).toNatClampNeg) (fun x4 => (if v2 = (0 : Int32) then some (((x4).toUInt32 >>> (((18 : Int32)).toUInt32 &&& Int32.toUInt32 31)).toInt32, M) else (if v2 = (1 : Int32) then some ((((x4).toUInt32 >>> (((14 : Int32)).toUInt32 &&& Int32.toUInt32 31)).toInt32 &&& (15 : Int32)), M) else (if v2 = (2 : Int32) then some ((((x4).toUInt32 >>> (((11 : Int32)).toUInt32 &&& Int32.toUInt32 31)).toInt32 &&& (7 : Int32)), M) else (if v2 = (3 : Int32) then some ((((x4).toUInt32 >>> (((8 : Int32)).toUInt32 &&& Int32.toUInt32 31)).toInt32 &&& (7 : Int32)), M) else some ((x4 &&& (255 : Int32)), M))))))) else some ((-1 : Int32), M)))
set_option maxRecDepth 20000 in
set_option maxHeartbeats 4000000 in
theorem ok_X4_tells {l : Launch} {N : Nat} {a0 : Nat} {v1 v2 : Int32} {M : Mm} {r : Int32} {M' : Mm} (h0 : kLog a0) (h : f_X4_tells N a0 v1 v2 M = some (r, M')) : am_M l yX4_tells cX4_tells 4 (some .int) 1 0 0 LY M [.ref a0, .int v1, .int v2] (.inl (some (.int r))) M' := by
  unfold f_X4_tells at h
  refine am_intro (by decide) (by simp [Value.category]) (Nat.le_of_ble_eq_true rfl) (fun X hC hnt => ?_)
  refine am_start (L := [some (.ref a0), some (.int v1), some (.int v2), none]) rfl ?_
  refine v_iload_n hC dX4_tells_0 rfl ?_
  refine v_if_lt hC 12 dX4_tells_1 rfl (fun c1 => ?_) (fun c1 => ?_)
  · rw [if_pos c1] at h
    refine v_iconst (v := (-1 : Int32)) hC dX4_tells_12 rfl ?_
    cases h
    exact v_iret hC (by decide) (by decide) dX4_tells_13
  · rw [if_neg c1] at h
    refine v_iload_n hC dX4_tells_4 rfl ?_
    refine v_aload_n hC dX4_tells_5 rfl ?_
    refine v_geti (k := 1) hC cls_X4 h0.1 (by decide) rfl aw_222 rfl dX4_tells_6 ?_
    refine v_icmp_lt hC 14 dX4_tells_9 rfl (fun c2 => ?_) (fun c2 => ?_)
    · rw [if_pos c2] at h
      refine v_aload_n hC dX4_tells_14 rfl ?_
      refine v_geta (k := 0) (b := (a0 + 1)) hC cls_X4 h0.1 (by decide) rfl aw_221 rfl dX4_tells_15 ?_
      refine v_aload_n hC dX4_tells_18 rfl ?_
      refine v_geti (k := 2) hC cls_X4 h0.1 (by decide) rfl aw_224 rfl dX4_tells_19 ?_
      refine v_iconst (v := (1 : Int32)) hC dX4_tells_22 rfl ?_
      refine v_isub hC dX4_tells_23 ?_
      refine v_iload_n hC dX4_tells_24 rfl ?_
      refine v_isub hC dX4_tells_25 ?_
      refine v_bipush (v := (120 : Int32)) hC dX4_tells_26 rfl ?_
      refine v_iadd hC dX4_tells_28 ?_
      refine v_bipush (v := (60 : Int32)) hC dX4_tells_29 rfl ?_
      refine v_irem hC dX4_tells_31 (by decide) ?_
      obtain ⟨g3, h⟩ := grd_some h
      refine v_iald hC (kP_packed h0) (inb_in g3) dX4_tells_32 ?_
      obtain ⟨x4, e_x4, h⟩ := lt_some h
      refine v_nam e_x4 ?_
      refine w_istore_n hC dX4_tells_33 (ltk rfl) [some (.ref a0), some (.int v1), some (.int v2), some (.int x4)] rfl ?_
      refine v_iload_n hC dX4_tells_34 rfl ?_
      by_cases c5 : v2 = (0 : Int32)
      · rw [if_pos c5] at h
        refine v_tableIn hC 64 dX4_tells_35 (by rw [c5]; decide) (by rw [c5]; decide) (by rw [c5]; first | done | rfl) rfl ?_
        refine v_iload_n hC dX4_tells_64 rfl ?_
        refine v_bipush (v := (18 : Int32)) hC dX4_tells_65 rfl ?_
        refine v_iushr hC dX4_tells_67 ?_
        cases h
        exact v_iret hC (by decide) (by decide) dX4_tells_68
      · rw [if_neg c5] at h
        by_cases c6 : v2 = (1 : Int32)
        · rw [if_pos c6] at h
          refine v_tableIn hC 69 dX4_tells_35 (by rw [c6]; decide) (by rw [c6]; decide) (by rw [c6]; first | done | rfl) rfl ?_
          refine v_iload_n hC dX4_tells_69 rfl ?_
          refine v_bipush (v := (14 : Int32)) hC dX4_tells_70 rfl ?_
          refine v_iushr hC dX4_tells_72 ?_
          refine v_bipush (v := (15 : Int32)) hC dX4_tells_73 rfl ?_
          refine v_iand hC dX4_tells_75 ?_
          cases h
          exact v_iret hC (by decide) (by decide) dX4_tells_76
        · rw [if_neg c6] at h
          by_cases c7 : v2 = (2 : Int32)
          · rw [if_pos c7] at h
            refine v_tableIn hC 77 dX4_tells_35 (by rw [c7]; decide) (by rw [c7]; decide) (by rw [c7]; first | done | rfl) rfl ?_
            refine v_iload_n hC dX4_tells_77 rfl ?_
            refine v_bipush (v := (11 : Int32)) hC dX4_tells_78 rfl ?_
            refine v_iushr hC dX4_tells_80 ?_
            refine v_bipush (v := (7 : Int32)) hC dX4_tells_81 rfl ?_
            refine v_iand hC dX4_tells_83 ?_
            cases h
            exact v_iret hC (by decide) (by decide) dX4_tells_84
          · rw [if_neg c7] at h
            by_cases c8 : v2 = (3 : Int32)
            · rw [if_pos c8] at h
              refine v_tableIn hC 85 dX4_tells_35 (by rw [c8]; decide) (by rw [c8]; decide) (by rw [c8]; first | done | rfl) rfl ?_
              refine v_iload_n hC dX4_tells_85 rfl ?_
              refine v_bipush (v := (8 : Int32)) hC dX4_tells_86 rfl ?_
              refine v_iushr hC dX4_tells_88 ?_
              refine v_bipush (v := (7 : Int32)) hC dX4_tells_89 rfl ?_
              refine v_iand hC dX4_tells_91 ?_
              cases h
              exact v_iret hC (by decide) (by decide) dX4_tells_92
            · rw [if_neg c8] at h
              refine v_tableOut hC 93 dX4_tells_35 (by have t_c5 := lv_neT (k := (0 : Int32)) (a := 0) c5 rfl; have t_c6 := lv_neT (k := (1 : Int32)) (a := 1) c6 rfl; have t_c7 := lv_neT (k := (2 : Int32)) (a := 2) c7 rfl; have t_c8 := lv_neT (k := (3 : Int32)) (a := 3) c8 rfl; omega) rfl ?_
              refine v_iload_n hC dX4_tells_93 rfl ?_
              refine v_sipush (v := (255 : Int32)) hC dX4_tells_94 rfl ?_
              refine v_iand hC dX4_tells_97 ?_
              cases h
              exact v_iret hC (by decide) (by decide) dX4_tells_98
    · rw [if_neg c2] at h
      refine v_iconst (v := (-1 : Int32)) hC dX4_tells_12 rfl ?_
      cases h
      exact v_iret hC (by decide) (by decide) dX4_tells_13
def f_X4_rowsOf_4 (N : Nat) (a0 : Nat) : Nat → Int32 → Int32 → Int32 → Mm → Option (Int32 × Mm)
  | 0, _, _, _, _ => none
  | n + 1, v1, v2, v3, M => (if (M a0 1) ≤ v3 then some (v2, M) else bnd (f_X4_tells N a0 v3 (3 : Int32) M) (fun r2 M3 => (if r2 = v1 then lt (v2 + (1 : Int32)) (fun x8 => f_X4_rowsOf_4 N a0 n v1 x8 (v3 + (1 : Int32)) M3) else lt (v2 + (0 : Int32)) (fun x6 => f_X4_rowsOf_4 N a0 n v1 x6 (v3 + (1 : Int32)) M3))))
def f_X4_rowsOf (N : Nat) (a0 : Nat) (v1 : Int32) (M : Mm) : Option (Int32 × Mm) :=
  f_X4_rowsOf_4 N a0 N v1 (0 : Int32) (0 : Int32) M
set_option maxRecDepth 20000 in
set_option maxHeartbeats 4000000 in
theorem ok_X4_rowsOf_4 {N : Nat} {X : am_X} {l : Launch} (hC : am_C X l (am_rm 2 0 0) cX4_rowsOf yX4_rowsOf.cls (some .int)) (hnt : am_NT X) {a0 : Nat} (h0 : kLog a0) : ∀ (n : Nat) (v1 v2 v3 : Int32) (M : Mm) (r : Int32) (M' : Mm), f_X4_rowsOf_4 N a0 n v1 v2 v3 M = some (r, M') → am_V X LY M 0 0 (am_Q X LY 0 0 (.inl (some (.int r))) M') 4 [some (.ref a0), some (.int v1), some (.int v2), some (.int v3)] [] := by
  intro n
  induction n with
  | zero => intro v1 v2 v3 M r M' h; cases h
  | succ n ih =>
    intro v1 v2 v3 M r M' h
    simp only [f_X4_rowsOf_4] at h
    refine v_iload_n hC dX4_rowsOf_4 rfl ?_
    refine v_aload_n hC dX4_rowsOf_5 rfl ?_
    refine v_geti (k := 1) hC cls_X4 h0.1 (by decide) rfl aw_222 rfl dX4_rowsOf_6 ?_
    refine v_icmp_ge hC 36 dX4_rowsOf_9 rfl (fun c1 => ?_) (fun c1 => ?_)
    · rw [if_pos c1] at h
      refine v_iload_n hC dX4_rowsOf_36 rfl ?_
      cases h
      exact v_iret hC (by decide) (by decide) dX4_rowsOf_37
    · rw [if_neg c1] at h
      refine v_iload_n hC dX4_rowsOf_12 rfl ?_
      refine v_aload_n hC dX4_rowsOf_13 rfl ?_
      refine v_iload_n hC dX4_rowsOf_14 rfl ?_
      refine v_iconst (v := (3 : Int32)) hC dX4_rowsOf_15 rfl ?_
      obtain ⟨r2, M3, q4, h⟩ := bnd_some h
      refine w_callVi hC [.int v3, .int (3 : Int32)] [.int v2] (ok_X4_tells h0 q4) mv_X4_tells aw_1205 h0.1 rfl (Nat.le_of_ble_eq_true rfl) ⟨by decide, by decide⟩ ⟨by decide, by decide⟩ dX4_rowsOf_16 ?_
      refine v_iload_n hC dX4_rowsOf_19 rfl ?_
      refine v_icmp_ne hC 27 dX4_rowsOf_20 rfl (fun c5 => ?_) (fun c5 => ?_)
      · rw [if_neg c5] at h
        refine v_iconst (v := (0 : Int32)) hC dX4_rowsOf_27 rfl ?_
        refine v_iadd hC dX4_rowsOf_28 ?_
        obtain ⟨x6, e_x6, h⟩ := lt_some h
        refine v_nam e_x6 ?_
        refine w_istore_n hC dX4_rowsOf_29 (ltk rfl) [some (.ref a0), some (.int v1), some (.int x6), some (.int v3)] rfl ?_
        refine w_iinc hC (v3 + (1 : Int32)) dX4_rowsOf_30 rfl rfl [some (.ref a0), some (.int v1), some (.int x6), some (.int (v3 + (1 : Int32)))] rfl ?_
        refine v_goto (tg := 4) hC dX4_rowsOf_33 rfl ?_
        exact ih _ _ _ _ _ _ h
      · rw [if_pos c5] at h
        refine v_iconst (v := (1 : Int32)) hC dX4_rowsOf_23 rfl ?_
        refine v_goto (tg := 28) hC dX4_rowsOf_24 rfl ?_
        refine v_iadd hC dX4_rowsOf_28 ?_
        obtain ⟨x8, e_x8, h⟩ := lt_some h
        refine v_nam e_x8 ?_
        refine w_istore_n hC dX4_rowsOf_29 (ltk rfl) [some (.ref a0), some (.int v1), some (.int x8), some (.int v3)] rfl ?_
        refine w_iinc hC (v3 + (1 : Int32)) dX4_rowsOf_30 rfl rfl [some (.ref a0), some (.int v1), some (.int x8), some (.int (v3 + (1 : Int32)))] rfl ?_
        refine v_goto (tg := 4) hC dX4_rowsOf_33 rfl ?_
        exact ih _ _ _ _ _ _ h
set_option maxRecDepth 20000 in
set_option maxHeartbeats 4000000 in
theorem ok_X4_rowsOf {l : Launch} {N : Nat} {a0 : Nat} {v1 : Int32} {M : Mm} {r : Int32} {M' : Mm} (h0 : kLog a0) (h : f_X4_rowsOf N a0 v1 M = some (r, M')) : am_M l yX4_rowsOf cX4_rowsOf 4 (some .int) 2 0 0 LY M [.ref a0, .int v1] (.inl (some (.int r))) M' := by
  unfold f_X4_rowsOf at h
  refine am_intro (by decide) (by simp [Value.category]) (Nat.le_of_ble_eq_true rfl) (fun X hC hnt => ?_)
  refine am_start (L := [some (.ref a0), some (.int v1), none, none]) rfl ?_
  refine v_iconst (v := (0 : Int32)) hC dX4_rowsOf_0 rfl ?_
  refine w_istore_n hC dX4_rowsOf_1 (ltk rfl) [some (.ref a0), some (.int v1), some (.int (0 : Int32)), none] rfl ?_
  refine v_iconst (v := (0 : Int32)) hC dX4_rowsOf_2 rfl ?_
  refine w_istore_n hC dX4_rowsOf_3 (ltk rfl) [some (.ref a0), some (.int v1), some (.int (0 : Int32)), some (.int (0 : Int32))] rfl ?_
  exact ok_X4_rowsOf_4 hC hnt h0 N _ _ _ _ _ _ h
def f_X4_latestDinnerOf_2 (N : Nat) (a0 : Nat) : Nat → Int32 → Int32 → Mm → Option (Int32 × Mm)
  | 0, _, _, _ => none
  | n + 1, v1, v2, M => (if (M a0 1) ≤ v2 then some ((-1 : Int32), M) else bnd (f_X4_tells N a0 v2 (3 : Int32) M) (fun r2 M3 => (if r2 = v1 then bnd (f_X4_tells N a0 v2 (0 : Int32) M3) (fun r7 M8 => some (r7, M8)) else f_X4_latestDinnerOf_2 N a0 n v1 (v2 + (1 : Int32)) M3)))
def f_X4_latestDinnerOf (N : Nat) (a0 : Nat) (v1 : Int32) (M : Mm) : Option (Int32 × Mm) :=
  f_X4_latestDinnerOf_2 N a0 N v1 (0 : Int32) M
set_option maxRecDepth 20000 in
set_option maxHeartbeats 4000000 in
theorem ok_X4_latestDinnerOf_2 {N : Nat} {X : am_X} {l : Launch} (hC : am_C X l (am_rm 2 0 0) cX4_latestDinnerOf yX4_latestDinnerOf.cls (some .int)) (hnt : am_NT X) {a0 : Nat} (h0 : kLog a0) : ∀ (n : Nat) (v1 v2 : Int32) (M : Mm) (r : Int32) (M' : Mm), f_X4_latestDinnerOf_2 N a0 n v1 v2 M = some (r, M') → am_V X LY M 0 0 (am_Q X LY 0 0 (.inl (some (.int r))) M') 2 [some (.ref a0), some (.int v1), some (.int v2)] [] := by
  intro n
  induction n with
  | zero => intro v1 v2 M r M' h; cases h
  | succ n ih =>
    intro v1 v2 M r M' h
    simp only [f_X4_latestDinnerOf_2] at h
    refine v_iload_n hC dX4_latestDinnerOf_2 rfl ?_
    refine v_aload_n hC dX4_latestDinnerOf_3 rfl ?_
    refine v_geti (k := 1) hC cls_X4 h0.1 (by decide) rfl aw_222 rfl dX4_latestDinnerOf_4 ?_
    refine v_icmp_ge hC 33 dX4_latestDinnerOf_7 rfl (fun c1 => ?_) (fun c1 => ?_)
    · rw [if_pos c1] at h
      refine v_iconst (v := (-1 : Int32)) hC dX4_latestDinnerOf_33 rfl ?_
      cases h
      exact v_iret hC (by decide) (by decide) dX4_latestDinnerOf_34
    · rw [if_neg c1] at h
      refine v_aload_n hC dX4_latestDinnerOf_10 rfl ?_
      refine v_iload_n hC dX4_latestDinnerOf_11 rfl ?_
      refine v_iconst (v := (3 : Int32)) hC dX4_latestDinnerOf_12 rfl ?_
      obtain ⟨r2, M3, q4, h⟩ := bnd_some h
      refine w_callVi hC [.int v2, .int (3 : Int32)] [] (ok_X4_tells h0 q4) mv_X4_tells aw_1205 h0.1 rfl (Nat.le_of_ble_eq_true rfl) ⟨by decide, by decide⟩ ⟨by decide, by decide⟩ dX4_latestDinnerOf_13 ?_
      refine v_iload_n hC dX4_latestDinnerOf_16 rfl ?_
      refine v_icmp_ne hC 27 dX4_latestDinnerOf_17 rfl (fun c5 => ?_) (fun c5 => ?_)
      · rw [if_neg c5] at h
        refine w_iinc hC (v2 + (1 : Int32)) dX4_latestDinnerOf_27 rfl rfl [some (.ref a0), some (.int v1), some (.int (v2 + (1 : Int32)))] rfl ?_
        refine v_goto (tg := 2) hC dX4_latestDinnerOf_30 rfl ?_
        exact ih _ _ _ _ _ h
      · rw [if_pos c5] at h
        refine v_aload_n hC dX4_latestDinnerOf_20 rfl ?_
        refine v_iload_n hC dX4_latestDinnerOf_21 rfl ?_
        refine v_iconst (v := (0 : Int32)) hC dX4_latestDinnerOf_22 rfl ?_
        obtain ⟨r7, M8, q9, h⟩ := bnd_some h
        refine w_callVi hC [.int v2, .int (0 : Int32)] [] (ok_X4_tells h0 q9) mv_X4_tells aw_1205 h0.1 rfl (Nat.le_of_ble_eq_true rfl) ⟨by decide, by decide⟩ ⟨by decide, by decide⟩ dX4_latestDinnerOf_23 ?_
        cases h
        exact v_iret hC (by decide) (by decide) dX4_latestDinnerOf_26
set_option maxRecDepth 20000 in
set_option maxHeartbeats 4000000 in
theorem ok_X4_latestDinnerOf {l : Launch} {N : Nat} {a0 : Nat} {v1 : Int32} {M : Mm} {r : Int32} {M' : Mm} (h0 : kLog a0) (h : f_X4_latestDinnerOf N a0 v1 M = some (r, M')) : am_M l yX4_latestDinnerOf cX4_latestDinnerOf 3 (some .int) 2 0 0 LY M [.ref a0, .int v1] (.inl (some (.int r))) M' := by
  unfold f_X4_latestDinnerOf at h
  refine am_intro (by decide) (by simp [Value.category]) (Nat.le_of_ble_eq_true rfl) (fun X hC hnt => ?_)
  refine am_start (L := [some (.ref a0), some (.int v1), none]) rfl ?_
  refine v_iconst (v := (0 : Int32)) hC dX4_latestDinnerOf_0 rfl ?_
  refine w_istore_n hC dX4_latestDinnerOf_1 (ltk rfl) [some (.ref a0), some (.int v1), some (.int (0 : Int32))] rfl ?_
  exact ok_X4_latestDinnerOf_2 hC hnt h0 N _ _ _ _ _ h
def f_J7_fill_53178_5 (N : Nat) (a0 : Nat) (n0 : Nat) : Nat → Int32 → Int32 → Int32 → Mm → Option (Int32 × Mm)
  | 0, _, _, _, _ => none
  | n + 1, v1, v2, v3, M => (if v3 ≤ v2 then some (0, M) else grd (inb v2 n0) (lt (wr M a0 (v2).toNatClampNeg v1) (fun M4 => f_J7_fill_53178_5 N a0 n0 n v1 (v2 + (1 : Int32)) v3 M4)))
def f_J7_fill_53178 (N : Nat) (a0 : Nat) (n0 : Nat) (v1 : Int32) (M : Mm) : Option (Int32 × Mm) :=
  lt (Int32.ofNat n0) (fun x1 => f_J7_fill_53178_5 N a0 n0 N v1 (0 : Int32) x1 M)
set_option maxRecDepth 20000 in
set_option maxHeartbeats 4000000 in
theorem ok_J7_fill_53178_5 {N : Nat} {X : am_X} {l : Launch} {ly : Ly} (hC : am_C X l (am_rm 1 0 0) cJ7_fill_53178 yJ7_fill_53178.cls none) (hnt : am_NT X) {a0 n0 : Nat} (h0 : ly[a0]? = some (0, n0, [])) : ∀ (n : Nat) (v1 v2 v3 : Int32) (M : Mm) (r : Int32) (M' : Mm), f_J7_fill_53178_5 N a0 n0 n v1 v2 v3 M = some (r, M') → am_V X ly M 0 0 (am_Q X ly 0 0 (.inl none) M') 5 [some (.ref a0), some (.int v1), some (.int v2), some (.int v3)] [] := by
  intro n
  induction n with
  | zero => intro v1 v2 v3 M r M' h; cases h
  | succ n ih =>
    intro v1 v2 v3 M r M' h
    simp only [f_J7_fill_53178_5] at h
    refine v_iload_n hC dJ7_fill_53178_5 rfl ?_
    refine v_iload_n hC dJ7_fill_53178_6 rfl ?_
    refine v_icmp_ge hC 20 dJ7_fill_53178_7 rfl (fun c2 => ?_) (fun c2 => ?_)
    · rw [if_pos c2] at h
      cases h
      exact v_vret hC (by decide) (by decide) dJ7_fill_53178_20
    · rw [if_neg c2] at h
      refine v_aload_n hC dJ7_fill_53178_10 rfl ?_
      refine v_iload_n hC dJ7_fill_53178_11 rfl ?_
      refine v_iload_n hC dJ7_fill_53178_12 rfl ?_
      obtain ⟨g3, h⟩ := grd_some h
      obtain ⟨M4, e_M4, h⟩ := lt_some h
      refine w_iast hC h0 (inb_in g3) dJ7_fill_53178_13 e_M4 ?_
      refine w_iinc hC (v2 + (1 : Int32)) dJ7_fill_53178_14 rfl rfl [some (.ref a0), some (.int v1), some (.int (v2 + (1 : Int32))), some (.int v3)] rfl ?_
      refine v_goto (tg := 5) hC dJ7_fill_53178_17 rfl ?_
      exact ih _ _ _ _ _ _ h
set_option maxRecDepth 20000 in
set_option maxHeartbeats 4000000 in
theorem ok_J7_fill_53178 {l : Launch} {ly : Ly} {N : Nat} {a0 n0 : Nat} {v1 : Int32} {M : Mm} {r : Int32} {M' : Mm} (h0 : ly[a0]? = some (0, n0, [])) (h : f_J7_fill_53178 N a0 n0 v1 M = some (r, M')) : am_M l yJ7_fill_53178 cJ7_fill_53178 4 none 1 0 0 ly M [.ref a0, .int v1] (.inl none) M' := by
  unfold f_J7_fill_53178 at h
  refine am_intro (by decide) (by simp [Value.category]) (Nat.le_of_ble_eq_true rfl) (fun X hC hnt => ?_)
  refine am_start (L := [some (.ref a0), some (.int v1), none, none]) rfl ?_
  refine v_iconst (v := (0 : Int32)) hC dJ7_fill_53178_0 rfl ?_
  refine w_istore_n hC dJ7_fill_53178_1 (ltk rfl) [some (.ref a0), some (.int v1), some (.int (0 : Int32)), none] rfl ?_
  refine v_aload_n hC dJ7_fill_53178_2 rfl ?_
  refine v_alen hC h0 dJ7_fill_53178_3 ?_
  obtain ⟨x1, e_x1, h⟩ := lt_some h
  refine v_nam e_x1 ?_
  refine w_istore_n hC dJ7_fill_53178_4 (ltk rfl) [some (.ref a0), some (.int v1), some (.int (0 : Int32)), some (.int x1)] rfl ?_
  exact ok_J7_fill_53178_5 hC hnt h0 N _ _ _ _ _ _ h
def f_X5_opens (N : Nat) (v1 : Int32) (M : Mm) : Option (Int32 × Mm) :=
  bnd (f_J7_fill_53178 N 41 8 (0 : Int32) M) (fun r1 M2 => lt (wr M2 39 2 v1) (fun M4 => some (0, M4)))
set_option maxRecDepth 20000 in
set_option maxHeartbeats 4000000 in
theorem ok_X5_opens {l : Launch} {N : Nat} {v1 : Int32} {M : Mm} {r : Int32} {M' : Mm} (h : f_X5_opens N v1 M = some (r, M')) : am_M l yX5_opens cX5_opens 2 none 2 0 0 LY M [.ref 39, .int v1] (.inl none) M' := by
  unfold f_X5_opens at h
  refine am_intro (by decide) (by simp [Value.category]) (Nat.le_of_ble_eq_true rfl) (fun X hC hnt => ?_)
  refine am_start (L := [some (.ref 39), some (.int v1)]) rfl ?_
  refine v_aload_n hC dX5_opens_0 rfl ?_
  refine v_geta (k := 1) (b := 41) hC cls_X5 ly_39 (by decide) rfl aw_287 rfl dX5_opens_1 ?_
  refine v_iconst (v := (0 : Int32)) hC dX5_opens_4 rfl ?_
  obtain ⟨r1, M2, q3, h⟩ := bnd_some h
  refine w_callSv hC [.ref 41, .int (0 : Int32)] [] (ok_J7_fill_53178 ly_41 q3) ms_J7_fill_53178 aw_408 rfl (Nat.le_of_ble_eq_true rfl) ⟨by decide, by decide⟩ ⟨by decide, by decide⟩ dX5_opens_5 ?_
  refine v_aload_n hC dX5_opens_8 rfl ?_
  refine v_iload_n hC dX5_opens_9 rfl ?_
  obtain ⟨M4, e_M4, h⟩ := lt_some h
  refine w_puti (k := 2) hC cls_X5 ly_39 (by decide) rfl aw_289 rfl rfl ⟨rfl, rfl⟩ dX5_opens_10 e_M4 ?_
  cases h
  exact v_vret hC (by decide) (by decide) dX5_opens_13
def f_X6_gains (N : Nat) (a0 : Nat) (v1 : Int32) (v2 : Int32) (v3 : Int32) (M : Mm) : Option (Int32 × Mm) :=
  lt ((v1 * (6 : Int32)) + v2) (fun x1 => (if x1 < (0 : Int32) then some (0, M) else (if (48 : Int32) ≤ x1 then some (0, M) else grd (inb x1 48) (grd (inb x1 48) (lt (wr M (a0 + 3) (x1).toNatClampNeg (if ((M (a0 + 3) (x1).toNatClampNeg) + v3) < (999 : Int32) then ((M (a0 + 3) (x1).toNatClampNeg) + v3) else (999 : Int32))) (fun M6 => some (0, M6)))))))
set_option maxRecDepth 20000 in
set_option maxHeartbeats 4000000 in
theorem ok_X6_gains {l : Launch} {N : Nat} {a0 : Nat} {v1 v2 v3 : Int32} {M : Mm} {r : Int32} {M' : Mm} (h0 : kTable a0) (h : f_X6_gains N a0 v1 v2 v3 M = some (r, M')) : am_M l yX6_gains cX6_gains 5 none 1 0 0 LY M [.ref a0, .int v1, .int v2, .int v3] (.inl none) M' := by
  unfold f_X6_gains at h
  refine am_intro (by decide) (by simp [Value.category]) (Nat.le_of_ble_eq_true rfl) (fun X hC hnt => ?_)
  refine am_start (L := [some (.ref a0), some (.int v1), some (.int v2), some (.int v3), none]) rfl ?_
  refine v_iload_n hC dX6_gains_0 rfl ?_
  refine v_bipush (v := (6 : Int32)) hC dX6_gains_1 rfl ?_
  refine v_imul hC dX6_gains_3 ?_
  refine v_iload_n hC dX6_gains_4 rfl ?_
  refine v_iadd hC dX6_gains_5 ?_
  obtain ⟨x1, e_x1, h⟩ := lt_some h
  refine v_nam e_x1 ?_
  refine w_istore hC dX6_gains_6 (ltk rfl) [some (.ref a0), some (.int v1), some (.int v2), some (.int v3), some (.int x1)] rfl ?_
  refine v_iload hC dX6_gains_8 rfl ?_
  refine v_if_lt hC 42 dX6_gains_10 rfl (fun c2 => ?_) (fun c2 => ?_)
  · rw [if_pos c2] at h
    cases h
    exact v_vret hC (by decide) (by decide) dX6_gains_42
  · rw [if_neg c2] at h
    refine v_iload hC dX6_gains_13 rfl ?_
    refine v_bipush (v := (48 : Int32)) hC dX6_gains_15 rfl ?_
    refine v_icmp_ge hC 42 dX6_gains_17 rfl (fun c3 => ?_) (fun c3 => ?_)
    · rw [if_pos c3] at h
      cases h
      exact v_vret hC (by decide) (by decide) dX6_gains_42
    · rw [if_neg c3] at h
      refine v_aload_n hC dX6_gains_20 rfl ?_
      refine v_geta (k := 13) (b := (a0 + 3)) hC cls_X6 h0.1 (by decide) rfl aw_124 rfl dX6_gains_21 ?_
      refine v_iload hC dX6_gains_24 rfl ?_
      refine v_sipush (v := (999 : Int32)) hC dX6_gains_26 rfl ?_
      refine v_aload_n hC dX6_gains_29 rfl ?_
      refine v_geta (k := 13) (b := (a0 + 3)) hC cls_X6 h0.1 (by decide) rfl aw_124 rfl dX6_gains_30 ?_
      refine v_iload hC dX6_gains_33 rfl ?_
      obtain ⟨g4, h⟩ := grd_some h
      refine v_iald hC (kT_has h0) (inb_in g4) dX6_gains_35 ?_
      refine v_iload_n hC dX6_gains_36 rfl ?_
      refine v_iadd hC dX6_gains_37 ?_
      refine v_mmin hC aw_466 wm_min (Nat.le_of_ble_eq_true rfl) (Nat.le_of_ble_eq_true rfl) (Nat.le_of_ble_eq_true rfl) (Nat.le_of_ble_eq_true rfl) dX6_gains_38 ?_
      obtain ⟨g5, h⟩ := grd_some h
      obtain ⟨M6, e_M6, h⟩ := lt_some h
      refine w_iast hC (kT_has h0) (inb_in g5) dX6_gains_41 e_M6 ?_
      cases h
      exact v_vret hC (by decide) (by decide) dX6_gains_42
def f_X5_pinchOf_42 (N : Nat) (a1 : Nat) (a2 : Nat) (v3 : Int32) (v4 : Int32) (v5 : Int32) (M : Mm) : Option (Int32 × Mm) :=
  grd (inb v3 5) (grd (inb v3 5) (lt (wr M (a1 + 6) (v3).toNatClampNeg ((M (a1 + 6) (v3).toNatClampNeg) - v5)) (fun M10 => grd (inb v3 5) (bnd (f_X6_gains N a1 v4 (M10 (a1 + 5) (v3).toNatClampNeg) v5 M10) (fun r12 M13 => grd (inb v4 8) (grd (inb v4 8) (lt (wr M13 41 (v4).toNatClampNeg ((M13 41 (v4).toNatClampNeg) + v5)) (fun M17 => some (v5, M17)))))))))
def f_X5_pinchOf (N : Nat) (a1 : Nat) (a2 : Nat) (v3 : Int32) (v4 : Int32) (M : Mm) : Option (Int32 × Mm) :=
  bnd (f_X0_tell N a1 v3 v4 M) (fun r1 M2 => bnd (f_X1_pinch N a2 M2) (fun r4 M5 => (if r4 ≤ (0 : Int32) then f_X5_pinchOf_42 N a1 a2 v3 v4 r4 M5 else (if (((M5 39 2) >>> (v4 &&& 31)) &&& (1 : Int32)) = (1 : Int32) then f_X5_pinchOf_42 N a1 a2 v3 v4 (r4 + (-1 : Int32)) M5 else f_X5_pinchOf_42 N a1 a2 v3 v4 r4 M5))))
set_option maxRecDepth 20000 in
set_option maxHeartbeats 4000000 in
theorem ok_X5_pinchOf_42 {N : Nat} {X : am_X} {l : Launch} (hC : am_C X l (am_rm 4 0 0) cX5_pinchOf yX5_pinchOf.cls (some .int)) (hnt : am_NT X) {a1 a2 : Nat} (h1 : kTable a1) (h2 : kLaw a2) {v3 v4 v5 : Int32} {M : Mm} {r : Int32} {M' : Mm} (h : f_X5_pinchOf_42 N a1 a2 v3 v4 v5 M = some (r, M')) : am_V X LY M 0 0 (am_Q X LY 0 0 (.inl (some (.int r))) M') 42 [some (.ref 39), some (.ref a1), none, some (.int v3), some (.int v4), some (.int v5)] [] := by
  unfold f_X5_pinchOf_42 at h
  refine v_aload_n hC dX5_pinchOf_42 rfl ?_
  refine v_geta (k := 16) (b := (a1 + 6)) hC cls_X6 h1.1 (by decide) rfl aw_134 rfl dX5_pinchOf_43 ?_
  refine v_iload_n hC dX5_pinchOf_46 rfl ?_
  refine v_dup2 hC dX5_pinchOf_47 rfl rfl ?_
  obtain ⟨g8, h⟩ := grd_some h
  refine v_iald hC (kT_grains h1) (inb_in g8) dX5_pinchOf_48 ?_
  refine v_iload hC dX5_pinchOf_49 rfl ?_
  refine v_isub hC dX5_pinchOf_51 ?_
  obtain ⟨g9, h⟩ := grd_some h
  obtain ⟨M10, e_M10, h⟩ := lt_some h
  refine w_iast hC (kT_grains h1) (inb_in g9) dX5_pinchOf_52 e_M10 ?_
  refine v_aload_n hC dX5_pinchOf_53 rfl ?_
  refine v_iload hC dX5_pinchOf_54 rfl ?_
  refine v_aload_n hC dX5_pinchOf_56 rfl ?_
  refine v_geta (k := 15) (b := (a1 + 5)) hC cls_X6 h1.1 (by decide) rfl aw_130 rfl dX5_pinchOf_57 ?_
  refine v_iload_n hC dX5_pinchOf_60 rfl ?_
  obtain ⟨g11, h⟩ := grd_some h
  refine v_iald hC (kT_trait h1) (inb_in g11) dX5_pinchOf_61 ?_
  refine v_iload hC dX5_pinchOf_62 rfl ?_
  obtain ⟨r12, M13, q14, h⟩ := bnd_some h
  refine w_callVv hC [.int v4, .int (M10 (a1 + 5) (v3).toNatClampNeg), .int v5] [] (ok_X6_gains h1 q14) mv_X6_gains aw_462 h1.1 rfl (Nat.le_of_ble_eq_true rfl) ⟨by decide, by decide⟩ ⟨by decide, by decide⟩ dX5_pinchOf_64 ?_
  refine v_aload_n hC dX5_pinchOf_67 rfl ?_
  refine v_geta (k := 1) (b := 41) hC cls_X5 ly_39 (by decide) rfl aw_287 rfl dX5_pinchOf_68 ?_
  refine v_iload hC dX5_pinchOf_71 rfl ?_
  refine v_dup2 hC dX5_pinchOf_73 rfl rfl ?_
  obtain ⟨g15, h⟩ := grd_some h
  refine v_iald hC ly_41 (inb_in g15) dX5_pinchOf_74 ?_
  refine v_iload hC dX5_pinchOf_75 rfl ?_
  refine v_iadd hC dX5_pinchOf_77 ?_
  obtain ⟨g16, h⟩ := grd_some h
  obtain ⟨M17, e_M17, h⟩ := lt_some h
  refine w_iast hC ly_41 (inb_in g16) dX5_pinchOf_78 e_M17 ?_
  refine v_iload hC dX5_pinchOf_79 rfl ?_
  cases h
  exact v_iret hC (by decide) (by decide) dX5_pinchOf_81
set_option maxRecDepth 20000 in
set_option maxHeartbeats 4000000 in
theorem ok_X5_pinchOf {l : Launch} {N : Nat} {a1 a2 : Nat} {v3 v4 : Int32} {M : Mm} {r : Int32} {M' : Mm} (h1 : kTable a1) (h2 : kLaw a2) (h : f_X5_pinchOf N a1 a2 v3 v4 M = some (r, M')) : am_M l yX5_pinchOf cX5_pinchOf 6 (some .int) 4 0 0 LY M [.ref 39, .ref a1, .ref a2, .int v3, .int v4] (.inl (some (.int r))) M' := by
  unfold f_X5_pinchOf at h
  refine am_intro (by decide) (by simp [Value.category]) (Nat.le_of_ble_eq_true rfl) (fun X hC hnt => ?_)
  refine am_start (L := [some (.ref 39), some (.ref a1), some (.ref a2), some (.int v3), some (.int v4), none]) rfl ?_
  refine v_aload_n hC dX5_pinchOf_0 rfl ?_
  refine v_geta (k := 0) (b := 40) hC cls_X5 ly_39 (by decide) rfl aw_285 rfl dX5_pinchOf_1 ?_
  refine v_aload_n hC dX5_pinchOf_4 rfl ?_
  refine v_iload_n hC dX5_pinchOf_5 rfl ?_
  refine v_iload hC dX5_pinchOf_6 rfl ?_
  obtain ⟨r1, M2, q3, h⟩ := bnd_some h
  refine w_callVv hC [.ref a1, .int v3, .int v4] [] (ok_X0_tell h1 q3) mv_X0_tell aw_433 ly_40 rfl (Nat.le_of_ble_eq_true rfl) ⟨by decide, by decide⟩ ⟨by decide, by decide⟩ dX5_pinchOf_8 ?_
  refine v_aload_n hC dX5_pinchOf_11 rfl ?_
  refine v_aload_n hC dX5_pinchOf_12 rfl ?_
  refine v_geta (k := 0) (b := 40) hC cls_X5 ly_39 (by decide) rfl aw_285 rfl dX5_pinchOf_13 ?_
  obtain ⟨r4, M5, q6, h⟩ := bnd_some h
  refine w_callVi hC [.ref 40] [] (ok_X1_pinch h2 q6) mv_X1_pinch aw_445 h2.1 rfl (Nat.le_of_ble_eq_true rfl) ⟨by decide, by decide⟩ ⟨by decide, by decide⟩ dX5_pinchOf_16 ?_
  refine w_istore hC dX5_pinchOf_19 (ltk rfl) [some (.ref 39), some (.ref a1), some (.ref a2), some (.int v3), some (.int v4), some (.int r4)] rfl ?_
  refine v_iload hC dX5_pinchOf_21 rfl ?_
  refine v_if_le hC 42 dX5_pinchOf_23 rfl (fun c7 => ?_) (fun c7 => ?_)
  · rw [if_pos c7] at h
    refine v_drop [true, true, false, true, true, true] [some (.ref 39), some (.ref a1), none, some (.int v3), some (.int v4), some (.int r4)] rfl ?_
    exact ok_X5_pinchOf_42 hC hnt h1 h2 h
  · rw [if_neg c7] at h
    refine v_aload_n hC dX5_pinchOf_26 rfl ?_
    refine v_geti (k := 2) hC cls_X5 ly_39 (by decide) rfl aw_289 rfl dX5_pinchOf_27 ?_
    refine v_iload hC dX5_pinchOf_30 rfl ?_
    refine v_ishr hC dX5_pinchOf_32 ?_
    refine v_iconst (v := (1 : Int32)) hC dX5_pinchOf_33 rfl ?_
    refine v_iand hC dX5_pinchOf_34 ?_
    refine v_iconst (v := (1 : Int32)) hC dX5_pinchOf_35 rfl ?_
    refine v_icmp_ne hC 42 dX5_pinchOf_36 rfl (fun c18 => ?_) (fun c18 => ?_)
    · rw [if_neg c18] at h
      refine v_drop [true, true, false, true, true, true] [some (.ref 39), some (.ref a1), none, some (.int v3), some (.int v4), some (.int r4)] rfl ?_
      exact ok_X5_pinchOf_42 hC hnt h1 h2 h
    · rw [if_pos c18] at h
      refine w_iinc hC (r4 + (-1 : Int32)) dX5_pinchOf_39 rfl rfl [some (.ref 39), some (.ref a1), some (.ref a2), some (.int v3), some (.int v4), some (.int (r4 + (-1 : Int32)))] rfl ?_
      refine v_drop [true, true, false, true, true, true] [some (.ref 39), some (.ref a1), none, some (.int v3), some (.int v4), some (.int (r4 + (-1 : Int32)))] rfl ?_
      exact ok_X5_pinchOf_42 hC hnt h1 h2 h
def f_X6_dinerAt_19 (N : Nat) (a0 : Nat) (M : Mm) : Option (Int32 × Mm) :=
  some ((-1 : Int32), M)
def f_X6_dinerAt (N : Nat) (a0 : Nat) (v1 : Int32) (M : Mm) : Option (Int32 × Mm) :=
  (if v1 < (0 : Int32) then f_X6_dinerAt_19 N a0 M else (if (10 : Int32) ≤ v1 then f_X6_dinerAt_19 N a0 M else grd (inb v1 10) (some ((M (a0 + 1) (v1).toNatClampNeg), M))))
set_option maxRecDepth 20000 in
set_option maxHeartbeats 4000000 in
theorem ok_X6_dinerAt_19 {N : Nat} {X : am_X} {l : Launch} (hC : am_C X l (am_rm 1 0 0) cX6_dinerAt yX6_dinerAt.cls (some .int)) (hnt : am_NT X) {a0 : Nat} (h0 : kTable a0) {M : Mm} {r : Int32} {M' : Mm} (h : f_X6_dinerAt_19 N a0 M = some (r, M')) : am_V X LY M 0 0 (am_Q X LY 0 0 (.inl (some (.int r))) M') 19 [none, none] [] := by
  unfold f_X6_dinerAt_19 at h
  refine v_iconst (v := (-1 : Int32)) hC dX6_dinerAt_19 rfl ?_
  cases h
  exact v_iret hC (by decide) (by decide) dX6_dinerAt_20
set_option maxRecDepth 20000 in
set_option maxHeartbeats 4000000 in
theorem ok_X6_dinerAt {l : Launch} {N : Nat} {a0 : Nat} {v1 : Int32} {M : Mm} {r : Int32} {M' : Mm} (h0 : kTable a0) (h : f_X6_dinerAt N a0 v1 M = some (r, M')) : am_M l yX6_dinerAt cX6_dinerAt 2 (some .int) 1 0 0 LY M [.ref a0, .int v1] (.inl (some (.int r))) M' := by
  unfold f_X6_dinerAt at h
  refine am_intro (by decide) (by simp [Value.category]) (Nat.le_of_ble_eq_true rfl) (fun X hC hnt => ?_)
  refine am_start (L := [some (.ref a0), some (.int v1)]) rfl ?_
  refine v_iload_n hC dX6_dinerAt_0 rfl ?_
  refine v_if_lt hC 19 dX6_dinerAt_1 rfl (fun c1 => ?_) (fun c1 => ?_)
  · rw [if_pos c1] at h
    refine v_drop [false, false] [none, none] rfl ?_
    exact ok_X6_dinerAt_19 hC hnt h0 h
  · rw [if_neg c1] at h
    refine v_iload_n hC dX6_dinerAt_4 rfl ?_
    refine v_bipush (v := (10 : Int32)) hC dX6_dinerAt_5 rfl ?_
    refine v_icmp_ge hC 19 dX6_dinerAt_7 rfl (fun c2 => ?_) (fun c2 => ?_)
    · rw [if_pos c2] at h
      refine v_drop [false, false] [none, none] rfl ?_
      exact ok_X6_dinerAt_19 hC hnt h0 h
    · rw [if_neg c2] at h
      refine v_aload_n hC dX6_dinerAt_10 rfl ?_
      refine v_geta (k := 11) (b := (a0 + 1)) hC cls_X6 h0.1 (by decide) rfl aw_120 rfl dX6_dinerAt_11 ?_
      refine v_iload_n hC dX6_dinerAt_14 rfl ?_
      obtain ⟨g3, h⟩ := grd_some h
      refine v_iald hC (kT_who h0) (inb_in g3) dX6_dinerAt_15 ?_
      refine v_goto (tg := 20) hC dX6_dinerAt_16 rfl ?_
      cases h
      exact v_iret hC (by decide) (by decide) dX6_dinerAt_20
def f_X5_allTake_n_6 (N : Nat) (a1 : Nat) (a2 : Nat) : Nat → Int32 → Int32 → Mm → Option (Int32 × Mm)
  | 0, _, _, _ => none
  | n + 1, v4, v5, M => (if (M a1 1) ≤ v5 then some (v4, M) else (if (5 : Int32) ≤ v5 then some (v4, M) else grd (inb v5 5) (bnd (f_X6_dinerAt N a1 (M (a1 + 4) (v5).toNatClampNeg) M) (fun r4 M5 => (if r4 < (0 : Int32) then f_X5_allTake_n_6 N a1 a2 n v4 (v5 + (1 : Int32)) M5 else (if (8 : Int32) ≤ r4 then f_X5_allTake_n_6 N a1 a2 n v4 (v5 + (1 : Int32)) M5 else grd (inb v5 5) ((if (M5 (a1 + 6) (v5).toNatClampNeg) ≤ (0 : Int32) then f_X5_allTake_n_6 N a1 a2 n v4 (v5 + (1 : Int32)) M5 else bnd (f_X5_pinchOf N a1 a2 v5 r4 M5) (fun r14 M15 => lt (v4 + r14) (fun x17 => f_X5_allTake_n_6 N a1 a2 n x17 (v5 + (1 : Int32)) M15))))))))))
def f_X5_allTake_n (N : Nat) (a1 : Nat) (a2 : Nat) (M : Mm) : Option (Int32 × Mm) :=
  f_X5_allTake_n_6 N a1 a2 N (0 : Int32) (0 : Int32) M
set_option maxRecDepth 20000 in
set_option maxHeartbeats 4000000 in
theorem ok_X5_allTake_n_6 {N : Nat} {X : am_X} {l : Launch} (hC : am_C X l (am_rm 5 0 0) cX5_allTake yX5_allTake.cls (some .int)) (hnt : am_NT X) {a1 a2 : Nat} (h1 : kTable a1) (h2 : kLaw a2) : ∀ (n : Nat) (v4 v5 : Int32) (M : Mm) (r : Int32) (M' : Mm), f_X5_allTake_n_6 N a1 a2 n v4 v5 M = some (r, M') → am_V X LY M 0 0 (am_Q X LY 0 0 (.inl (some (.int r))) M') 6 [some (.ref 39), some (.ref a1), some (.ref a2), some .null, some (.int v4), some (.int v5), none, none] [] := by
  intro n
  induction n with
  | zero => intro v4 v5 M r M' h; cases h
  | succ n ih =>
    intro v4 v5 M r M' h
    simp only [f_X5_allTake_n_6] at h
    refine v_iload hC dX5_allTake_6 rfl ?_
    refine v_aload_n hC dX5_allTake_8 rfl ?_
    refine v_geti (k := 1) hC cls_X6 h1.1 (by decide) rfl aw_90 rfl dX5_allTake_9 ?_
    refine v_icmp_ge hC 101 dX5_allTake_12 rfl (fun c1 => ?_) (fun c1 => ?_)
    · rw [if_pos c1] at h
      refine v_iload hC dX5_allTake_101 rfl ?_
      cases h
      exact v_iret hC (by decide) (by decide) dX5_allTake_103
    · rw [if_neg c1] at h
      refine v_iload hC dX5_allTake_15 rfl ?_
      refine v_iconst (v := (5 : Int32)) hC dX5_allTake_17 rfl ?_
      refine v_icmp_ge hC 101 dX5_allTake_18 rfl (fun c2 => ?_) (fun c2 => ?_)
      · rw [if_pos c2] at h
        refine v_iload hC dX5_allTake_101 rfl ?_
        cases h
        exact v_iret hC (by decide) (by decide) dX5_allTake_103
      · rw [if_neg c2] at h
        refine v_aload_n hC dX5_allTake_21 rfl ?_
        refine v_aload_n hC dX5_allTake_22 rfl ?_
        refine v_geta (k := 14) (b := (a1 + 4)) hC cls_X6 h1.1 (by decide) rfl aw_126 rfl dX5_allTake_23 ?_
        refine v_iload hC dX5_allTake_26 rfl ?_
        obtain ⟨g3, h⟩ := grd_some h
        refine v_iald hC (kT_place h1) (inb_in g3) dX5_allTake_28 ?_
        obtain ⟨r4, M5, q6, h⟩ := bnd_some h
        refine w_callVi hC [.int (M (a1 + 4) (v5).toNatClampNeg)] [] (ok_X6_dinerAt h1 q6) mv_X6_dinerAt aw_425 h1.1 rfl (Nat.le_of_ble_eq_true rfl) ⟨by decide, by decide⟩ ⟨by decide, by decide⟩ dX5_allTake_29 ?_
        refine w_istore hC dX5_allTake_32 (ltk rfl) [some (.ref 39), some (.ref a1), some (.ref a2), some .null, some (.int v4), some (.int v5), some (.int r4), none] rfl ?_
        refine v_iload hC dX5_allTake_34 rfl ?_
        refine v_if_lt hC 95 dX5_allTake_36 rfl (fun c7 => ?_) (fun c7 => ?_)
        · rw [if_pos c7] at h
          refine w_iinc hC (v5 + (1 : Int32)) dX5_allTake_95 rfl rfl [some (.ref 39), some (.ref a1), some (.ref a2), some .null, some (.int v4), some (.int (v5 + (1 : Int32))), some (.int r4), none] rfl ?_
          refine v_goto (tg := 6) hC dX5_allTake_98 rfl ?_
          refine v_drop [true, true, true, true, true, true, false, false] [some (.ref 39), some (.ref a1), some (.ref a2), some .null, some (.int v4), some (.int (v5 + (1 : Int32))), none, none] rfl ?_
          exact ih _ _ _ _ _ h
        · rw [if_neg c7] at h
          refine v_iload hC dX5_allTake_39 rfl ?_
          refine v_bipush (v := (8 : Int32)) hC dX5_allTake_41 rfl ?_
          refine v_icmp_ge hC 95 dX5_allTake_43 rfl (fun c9 => ?_) (fun c9 => ?_)
          · rw [if_pos c9] at h
            refine w_iinc hC (v5 + (1 : Int32)) dX5_allTake_95 rfl rfl [some (.ref 39), some (.ref a1), some (.ref a2), some .null, some (.int v4), some (.int (v5 + (1 : Int32))), some (.int r4), none] rfl ?_
            refine v_goto (tg := 6) hC dX5_allTake_98 rfl ?_
            refine v_drop [true, true, true, true, true, true, false, false] [some (.ref 39), some (.ref a1), some (.ref a2), some .null, some (.int v4), some (.int (v5 + (1 : Int32))), none, none] rfl ?_
            exact ih _ _ _ _ _ h
          · rw [if_neg c9] at h
            refine v_aload_n hC dX5_allTake_46 rfl ?_
            refine v_geta (k := 16) (b := (a1 + 6)) hC cls_X6 h1.1 (by decide) rfl aw_134 rfl dX5_allTake_47 ?_
            refine v_iload hC dX5_allTake_50 rfl ?_
            obtain ⟨g11, h⟩ := grd_some h
            refine v_iald hC (kT_grains h1) (inb_in g11) dX5_allTake_52 ?_
            refine v_if_le hC 95 dX5_allTake_53 rfl (fun c12 => ?_) (fun c12 => ?_)
            · rw [if_pos c12] at h
              refine w_iinc hC (v5 + (1 : Int32)) dX5_allTake_95 rfl rfl [some (.ref 39), some (.ref a1), some (.ref a2), some .null, some (.int v4), some (.int (v5 + (1 : Int32))), some (.int r4), none] rfl ?_
              refine v_goto (tg := 6) hC dX5_allTake_98 rfl ?_
              refine v_drop [true, true, true, true, true, true, false, false] [some (.ref 39), some (.ref a1), some (.ref a2), some .null, some (.int v4), some (.int (v5 + (1 : Int32))), none, none] rfl ?_
              exact ih _ _ _ _ _ h
            · rw [if_neg c12] at h
              refine v_aload_n hC dX5_allTake_56 rfl ?_
              refine v_aload_n hC dX5_allTake_57 rfl ?_
              refine v_aload_n hC dX5_allTake_58 rfl ?_
              refine v_iload hC dX5_allTake_59 rfl ?_
              refine v_iload hC dX5_allTake_61 rfl ?_
              obtain ⟨r14, M15, q16, h⟩ := bnd_some h
              refine w_callVi hC [.ref a1, .ref a2, .int v5, .int r4] [] (ok_X5_pinchOf h1 h2 q16) mv_X5_pinchOf aw_429 ly_39 rfl (Nat.le_of_ble_eq_true rfl) ⟨by decide, by decide⟩ ⟨by decide, by decide⟩ dX5_allTake_63 ?_
              refine w_istore hC dX5_allTake_66 (ltk rfl) [some (.ref 39), some (.ref a1), some (.ref a2), some .null, some (.int v4), some (.int v5), some (.int r4), some (.int r14)] rfl ?_
              refine v_iload hC dX5_allTake_68 rfl ?_
              refine v_iload hC dX5_allTake_70 rfl ?_
              refine v_iadd hC dX5_allTake_72 ?_
              obtain ⟨x17, e_x17, h⟩ := lt_some h
              refine v_nam e_x17 ?_
              refine w_istore hC dX5_allTake_73 (ltk rfl) [some (.ref 39), some (.ref a1), some (.ref a2), some .null, some (.int x17), some (.int v5), some (.int r4), some (.int r14)] rfl ?_
              refine v_aload_nN hC dX5_allTake_75 rfl ?_
              refine v_ifnullN hC 95 dX5_allTake_76 rfl ?_
              refine w_iinc hC (v5 + (1 : Int32)) dX5_allTake_95 rfl rfl [some (.ref 39), some (.ref a1), some (.ref a2), some .null, some (.int x17), some (.int (v5 + (1 : Int32))), some (.int r4), some (.int r14)] rfl ?_
              refine v_goto (tg := 6) hC dX5_allTake_98 rfl ?_
              refine v_drop [true, true, true, true, true, true, false, false] [some (.ref 39), some (.ref a1), some (.ref a2), some .null, some (.int x17), some (.int (v5 + (1 : Int32))), none, none] rfl ?_
              exact ih _ _ _ _ _ h
set_option maxRecDepth 20000 in
set_option maxHeartbeats 4000000 in
theorem ok_X5_allTake_n {l : Launch} {N : Nat} {a1 a2 : Nat} {M : Mm} {r : Int32} {M' : Mm} (h1 : kTable a1) (h2 : kLaw a2) (h : f_X5_allTake_n N a1 a2 M = some (r, M')) : am_M l yX5_allTake cX5_allTake 8 (some .int) 5 0 0 LY M [.ref 39, .ref a1, .ref a2, .null] (.inl (some (.int r))) M' := by
  unfold f_X5_allTake_n at h
  refine am_intro (by decide) (by simp [Value.category]) (Nat.le_of_ble_eq_true rfl) (fun X hC hnt => ?_)
  refine am_start (L := [some (.ref 39), some (.ref a1), some (.ref a2), some .null, none, none, none, none]) rfl ?_
  refine v_iconst (v := (0 : Int32)) hC dX5_allTake_0 rfl ?_
  refine w_istore hC dX5_allTake_1 (ltk rfl) [some (.ref 39), some (.ref a1), some (.ref a2), some .null, some (.int (0 : Int32)), none, none, none] rfl ?_
  refine v_iconst (v := (0 : Int32)) hC dX5_allTake_3 rfl ?_
  refine w_istore hC dX5_allTake_4 (ltk rfl) [some (.ref 39), some (.ref a1), some (.ref a2), some .null, some (.int (0 : Int32)), some (.int (0 : Int32)), none, none] rfl ?_
  exact ok_X5_allTake_n_6 hC hnt h1 h2 N _ _ _ _ _ h
def f_X5_allTake_l_6 (N : Nat) (a1 : Nat) (a2 : Nat) (a3 : Nat) : Nat → Int32 → Int32 → Mm → Option (Int32 × Mm)
  | 0, _, _, _ => none
  | n + 1, v4, v5, M => (if (M a1 1) ≤ v5 then some (v4, M) else (if (5 : Int32) ≤ v5 then some (v4, M) else grd (inb v5 5) (bnd (f_X6_dinerAt N a1 (M (a1 + 4) (v5).toNatClampNeg) M) (fun r4 M5 => (if r4 < (0 : Int32) then f_X5_allTake_l_6 N a1 a2 a3 n v4 (v5 + (1 : Int32)) M5 else (if (8 : Int32) ≤ r4 then f_X5_allTake_l_6 N a1 a2 a3 n v4 (v5 + (1 : Int32)) M5 else grd (inb v5 5) ((if (M5 (a1 + 6) (v5).toNatClampNeg) ≤ (0 : Int32) then f_X5_allTake_l_6 N a1 a2 a3 n v4 (v5 + (1 : Int32)) M5 else bnd (f_X5_pinchOf N a1 a2 v5 r4 M5) (fun r14 M15 => lt (v4 + r14) (fun x17 => (if r14 ≤ (0 : Int32) then f_X5_allTake_l_6 N a1 a2 a3 n x17 (v5 + (1 : Int32)) M15 else bnd (f_X4_adds N a3 a1 r4 v5 r14 M15) (fun r20 M21 => f_X5_allTake_l_6 N a1 a2 a3 n x17 (v5 + (1 : Int32)) M21))))))))))))
def f_X5_allTake_l (N : Nat) (a1 : Nat) (a2 : Nat) (a3 : Nat) (M : Mm) : Option (Int32 × Mm) :=
  f_X5_allTake_l_6 N a1 a2 a3 N (0 : Int32) (0 : Int32) M
set_option maxRecDepth 20000 in
set_option maxHeartbeats 4000000 in
theorem ok_X5_allTake_l_6 {N : Nat} {X : am_X} {l : Launch} (hC : am_C X l (am_rm 5 0 0) cX5_allTake yX5_allTake.cls (some .int)) (hnt : am_NT X) {a1 a2 a3 : Nat} (h1 : kTable a1) (h2 : kLaw a2) (h3 : kLog a3) : ∀ (n : Nat) (v4 v5 : Int32) (M : Mm) (r : Int32) (M' : Mm), f_X5_allTake_l_6 N a1 a2 a3 n v4 v5 M = some (r, M') → am_V X LY M 0 0 (am_Q X LY 0 0 (.inl (some (.int r))) M') 6 [some (.ref 39), some (.ref a1), some (.ref a2), some (.ref a3), some (.int v4), some (.int v5), none, none] [] := by
  intro n
  induction n with
  | zero => intro v4 v5 M r M' h; cases h
  | succ n ih =>
    intro v4 v5 M r M' h
    simp only [f_X5_allTake_l_6] at h
    refine v_iload hC dX5_allTake_6 rfl ?_
    refine v_aload_n hC dX5_allTake_8 rfl ?_
    refine v_geti (k := 1) hC cls_X6 h1.1 (by decide) rfl aw_90 rfl dX5_allTake_9 ?_
    refine v_icmp_ge hC 101 dX5_allTake_12 rfl (fun c1 => ?_) (fun c1 => ?_)
    · rw [if_pos c1] at h
      refine v_iload hC dX5_allTake_101 rfl ?_
      cases h
      exact v_iret hC (by decide) (by decide) dX5_allTake_103
    · rw [if_neg c1] at h
      refine v_iload hC dX5_allTake_15 rfl ?_
      refine v_iconst (v := (5 : Int32)) hC dX5_allTake_17 rfl ?_
      refine v_icmp_ge hC 101 dX5_allTake_18 rfl (fun c2 => ?_) (fun c2 => ?_)
      · rw [if_pos c2] at h
        refine v_iload hC dX5_allTake_101 rfl ?_
        cases h
        exact v_iret hC (by decide) (by decide) dX5_allTake_103
      · rw [if_neg c2] at h
        refine v_aload_n hC dX5_allTake_21 rfl ?_
        refine v_aload_n hC dX5_allTake_22 rfl ?_
        refine v_geta (k := 14) (b := (a1 + 4)) hC cls_X6 h1.1 (by decide) rfl aw_126 rfl dX5_allTake_23 ?_
        refine v_iload hC dX5_allTake_26 rfl ?_
        obtain ⟨g3, h⟩ := grd_some h
        refine v_iald hC (kT_place h1) (inb_in g3) dX5_allTake_28 ?_
        obtain ⟨r4, M5, q6, h⟩ := bnd_some h
        refine w_callVi hC [.int (M (a1 + 4) (v5).toNatClampNeg)] [] (ok_X6_dinerAt h1 q6) mv_X6_dinerAt aw_425 h1.1 rfl (Nat.le_of_ble_eq_true rfl) ⟨by decide, by decide⟩ ⟨by decide, by decide⟩ dX5_allTake_29 ?_
        refine w_istore hC dX5_allTake_32 (ltk rfl) [some (.ref 39), some (.ref a1), some (.ref a2), some (.ref a3), some (.int v4), some (.int v5), some (.int r4), none] rfl ?_
        refine v_iload hC dX5_allTake_34 rfl ?_
        refine v_if_lt hC 95 dX5_allTake_36 rfl (fun c7 => ?_) (fun c7 => ?_)
        · rw [if_pos c7] at h
          refine w_iinc hC (v5 + (1 : Int32)) dX5_allTake_95 rfl rfl [some (.ref 39), some (.ref a1), some (.ref a2), some (.ref a3), some (.int v4), some (.int (v5 + (1 : Int32))), some (.int r4), none] rfl ?_
          refine v_goto (tg := 6) hC dX5_allTake_98 rfl ?_
          refine v_drop [true, true, true, true, true, true, false, false] [some (.ref 39), some (.ref a1), some (.ref a2), some (.ref a3), some (.int v4), some (.int (v5 + (1 : Int32))), none, none] rfl ?_
          exact ih _ _ _ _ _ h
        · rw [if_neg c7] at h
          refine v_iload hC dX5_allTake_39 rfl ?_
          refine v_bipush (v := (8 : Int32)) hC dX5_allTake_41 rfl ?_
          refine v_icmp_ge hC 95 dX5_allTake_43 rfl (fun c9 => ?_) (fun c9 => ?_)
          · rw [if_pos c9] at h
            refine w_iinc hC (v5 + (1 : Int32)) dX5_allTake_95 rfl rfl [some (.ref 39), some (.ref a1), some (.ref a2), some (.ref a3), some (.int v4), some (.int (v5 + (1 : Int32))), some (.int r4), none] rfl ?_
            refine v_goto (tg := 6) hC dX5_allTake_98 rfl ?_
            refine v_drop [true, true, true, true, true, true, false, false] [some (.ref 39), some (.ref a1), some (.ref a2), some (.ref a3), some (.int v4), some (.int (v5 + (1 : Int32))), none, none] rfl ?_
            exact ih _ _ _ _ _ h
          · rw [if_neg c9] at h
            refine v_aload_n hC dX5_allTake_46 rfl ?_
            refine v_geta (k := 16) (b := (a1 + 6)) hC cls_X6 h1.1 (by decide) rfl aw_134 rfl dX5_allTake_47 ?_
            refine v_iload hC dX5_allTake_50 rfl ?_
            obtain ⟨g11, h⟩ := grd_some h
            refine v_iald hC (kT_grains h1) (inb_in g11) dX5_allTake_52 ?_
            refine v_if_le hC 95 dX5_allTake_53 rfl (fun c12 => ?_) (fun c12 => ?_)
            · rw [if_pos c12] at h
              refine w_iinc hC (v5 + (1 : Int32)) dX5_allTake_95 rfl rfl [some (.ref 39), some (.ref a1), some (.ref a2), some (.ref a3), some (.int v4), some (.int (v5 + (1 : Int32))), some (.int r4), none] rfl ?_
              refine v_goto (tg := 6) hC dX5_allTake_98 rfl ?_
              refine v_drop [true, true, true, true, true, true, false, false] [some (.ref 39), some (.ref a1), some (.ref a2), some (.ref a3), some (.int v4), some (.int (v5 + (1 : Int32))), none, none] rfl ?_
              exact ih _ _ _ _ _ h
            · rw [if_neg c12] at h
              refine v_aload_n hC dX5_allTake_56 rfl ?_
              refine v_aload_n hC dX5_allTake_57 rfl ?_
              refine v_aload_n hC dX5_allTake_58 rfl ?_
              refine v_iload hC dX5_allTake_59 rfl ?_
              refine v_iload hC dX5_allTake_61 rfl ?_
              obtain ⟨r14, M15, q16, h⟩ := bnd_some h
              refine w_callVi hC [.ref a1, .ref a2, .int v5, .int r4] [] (ok_X5_pinchOf h1 h2 q16) mv_X5_pinchOf aw_429 ly_39 rfl (Nat.le_of_ble_eq_true rfl) ⟨by decide, by decide⟩ ⟨by decide, by decide⟩ dX5_allTake_63 ?_
              refine w_istore hC dX5_allTake_66 (ltk rfl) [some (.ref 39), some (.ref a1), some (.ref a2), some (.ref a3), some (.int v4), some (.int v5), some (.int r4), some (.int r14)] rfl ?_
              refine v_iload hC dX5_allTake_68 rfl ?_
              refine v_iload hC dX5_allTake_70 rfl ?_
              refine v_iadd hC dX5_allTake_72 ?_
              obtain ⟨x17, e_x17, h⟩ := lt_some h
              refine v_nam e_x17 ?_
              refine w_istore hC dX5_allTake_73 (ltk rfl) [some (.ref 39), some (.ref a1), some (.ref a2), some (.ref a3), some (.int x17), some (.int v5), some (.int r4), some (.int r14)] rfl ?_
              refine v_aload_n hC dX5_allTake_75 rfl ?_
              refine v_ifnull hC dX5_allTake_76 ?_
              refine v_iload hC dX5_allTake_79 rfl ?_
              refine v_if_le hC 95 dX5_allTake_81 rfl (fun c18 => ?_) (fun c18 => ?_)
              · rw [if_pos c18] at h
                refine w_iinc hC (v5 + (1 : Int32)) dX5_allTake_95 rfl rfl [some (.ref 39), some (.ref a1), some (.ref a2), some (.ref a3), some (.int x17), some (.int (v5 + (1 : Int32))), some (.int r4), some (.int r14)] rfl ?_
                refine v_goto (tg := 6) hC dX5_allTake_98 rfl ?_
                refine v_drop [true, true, true, true, true, true, false, false] [some (.ref 39), some (.ref a1), some (.ref a2), some (.ref a3), some (.int x17), some (.int (v5 + (1 : Int32))), none, none] rfl ?_
                exact ih _ _ _ _ _ h
              · rw [if_neg c18] at h
                refine v_aload_n hC dX5_allTake_84 rfl ?_
                refine v_aload_n hC dX5_allTake_85 rfl ?_
                refine v_iload hC dX5_allTake_86 rfl ?_
                refine v_iload hC dX5_allTake_88 rfl ?_
                refine v_iload hC dX5_allTake_90 rfl ?_
                obtain ⟨r20, M21, q22, h⟩ := bnd_some h
                refine w_callVv hC [.ref a1, .int r4, .int v5, .int r14] [] (ok_X4_adds h3 h1 q22) mv_X4_adds aw_467 h3.1 rfl (Nat.le_of_ble_eq_true rfl) ⟨by decide, by decide⟩ ⟨by decide, by decide⟩ dX5_allTake_92 ?_
                refine w_iinc hC (v5 + (1 : Int32)) dX5_allTake_95 rfl rfl [some (.ref 39), some (.ref a1), some (.ref a2), some (.ref a3), some (.int x17), some (.int (v5 + (1 : Int32))), some (.int r4), some (.int r14)] rfl ?_
                refine v_goto (tg := 6) hC dX5_allTake_98 rfl ?_
                refine v_drop [true, true, true, true, true, true, false, false] [some (.ref 39), some (.ref a1), some (.ref a2), some (.ref a3), some (.int x17), some (.int (v5 + (1 : Int32))), none, none] rfl ?_
                exact ih _ _ _ _ _ h
set_option maxRecDepth 20000 in
set_option maxHeartbeats 4000000 in
theorem ok_X5_allTake_l {l : Launch} {N : Nat} {a1 a2 a3 : Nat} {M : Mm} {r : Int32} {M' : Mm} (h1 : kTable a1) (h2 : kLaw a2) (h3 : kLog a3) (h : f_X5_allTake_l N a1 a2 a3 M = some (r, M')) : am_M l yX5_allTake cX5_allTake 8 (some .int) 5 0 0 LY M [.ref 39, .ref a1, .ref a2, .ref a3] (.inl (some (.int r))) M' := by
  unfold f_X5_allTake_l at h
  refine am_intro (by decide) (by simp [Value.category]) (Nat.le_of_ble_eq_true rfl) (fun X hC hnt => ?_)
  refine am_start (L := [some (.ref 39), some (.ref a1), some (.ref a2), some (.ref a3), none, none, none, none]) rfl ?_
  refine v_iconst (v := (0 : Int32)) hC dX5_allTake_0 rfl ?_
  refine w_istore hC dX5_allTake_1 (ltk rfl) [some (.ref 39), some (.ref a1), some (.ref a2), some (.ref a3), some (.int (0 : Int32)), none, none, none] rfl ?_
  refine v_iconst (v := (0 : Int32)) hC dX5_allTake_3 rfl ?_
  refine w_istore hC dX5_allTake_4 (ltk rfl) [some (.ref 39), some (.ref a1), some (.ref a2), some (.ref a3), some (.int (0 : Int32)), some (.int (0 : Int32)), none, none] rfl ?_
  exact ok_X5_allTake_l_6 hC hnt h1 h2 h3 N _ _ _ _ _ h
def f_X6_passesOn_43 (N : Nat) (a0 : Nat) (M : Mm) : Option (Int32 × Mm) :=
  lt (wr M a0 4 ((M a0 4) + (1 : Int32))) (fun M2 => (if (M2 a0 4) < (12 : Int32) then some (0, M2) else lt (wr M2 a0 4 (0 : Int32)) (fun M4 => lt (wr M4 a0 5 (if ((M4 a0 5) + (1 : Int32)) < (9999 : Int32) then ((M4 a0 5) + (1 : Int32)) else (9999 : Int32))) (fun M5 => some (0, M5)))))
def f_X6_passesOn_2 (N : Nat) (a0 : Nat) : Nat → Int32 → Mm → Option (Int32 × Mm)
  | 0, _, _ => none
  | n + 1, v1, M => (if (M a0 1) ≤ v1 then f_X6_passesOn_43 N a0 M else (if (5 : Int32) ≤ v1 then f_X6_passesOn_43 N a0 M else grd (inb v1 5) (grd (inb v1 5) (grd (inb v1 5) (lt (wr M (a0 + 4) (v1).toNatClampNeg (((M (a0 + 4) (v1).toNatClampNeg) + (M (a0 + 8) (v1).toNatClampNeg)) - ((M (a0 + 4) (v1).toNatClampNeg) + (M (a0 + 8) (v1).toNatClampNeg)) / (10 : Int32) * (10 : Int32))) (fun M10 => f_X6_passesOn_2 N a0 n (v1 + (1 : Int32)) M10))))))
def f_X6_passesOn (N : Nat) (a0 : Nat) (M : Mm) : Option (Int32 × Mm) :=
  f_X6_passesOn_2 N a0 N (0 : Int32) M
set_option maxRecDepth 20000 in
set_option maxHeartbeats 4000000 in
theorem ok_X6_passesOn_43 {N : Nat} {X : am_X} {l : Launch} (hC : am_C X l (am_rm 1 0 0) cX6_passesOn yX6_passesOn.cls none) (hnt : am_NT X) {a0 : Nat} (h0 : kTable a0) {M : Mm} {r : Int32} {M' : Mm} (h : f_X6_passesOn_43 N a0 M = some (r, M')) : am_V X LY M 0 0 (am_Q X LY 0 0 (.inl none) M') 43 [some (.ref a0), none] [] := by
  unfold f_X6_passesOn_43 at h
  refine v_aload_n hC dX6_passesOn_43 rfl ?_
  refine v_dup hC dX6_passesOn_44 rfl ?_
  refine v_geti (k := 4) hC cls_X6 h0.1 (by decide) rfl aw_97 rfl dX6_passesOn_45 ?_
  refine v_iconst (v := (1 : Int32)) hC dX6_passesOn_48 rfl ?_
  refine v_iadd hC dX6_passesOn_49 ?_
  obtain ⟨M2, e_M2, h⟩ := lt_some h
  refine w_puti (k := 4) hC cls_X6 h0.1 (by decide) rfl aw_97 rfl rfl ⟨rfl, rfl⟩ dX6_passesOn_50 e_M2 ?_
  refine v_aload_n hC dX6_passesOn_53 rfl ?_
  refine v_geti (k := 4) hC cls_X6 h0.1 (by decide) rfl aw_97 rfl dX6_passesOn_54 ?_
  refine v_bipush (v := (12 : Int32)) hC dX6_passesOn_57 rfl ?_
  refine v_icmp_lt hC 83 dX6_passesOn_59 rfl (fun c3 => ?_) (fun c3 => ?_)
  · rw [if_pos c3] at h
    cases h
    exact v_vret hC (by decide) (by decide) dX6_passesOn_83
  · rw [if_neg c3] at h
    refine v_aload_n hC dX6_passesOn_62 rfl ?_
    refine v_iconst (v := (0 : Int32)) hC dX6_passesOn_63 rfl ?_
    obtain ⟨M4, e_M4, h⟩ := lt_some h
    refine w_puti (k := 4) hC cls_X6 h0.1 (by decide) rfl aw_97 rfl rfl ⟨rfl, rfl⟩ dX6_passesOn_64 e_M4 ?_
    refine v_aload_n hC dX6_passesOn_67 rfl ?_
    refine v_sipush (v := (9999 : Int32)) hC dX6_passesOn_68 rfl ?_
    refine v_aload_n hC dX6_passesOn_71 rfl ?_
    refine v_geti (k := 5) hC cls_X6 h0.1 (by decide) rfl aw_102 rfl dX6_passesOn_72 ?_
    refine v_iconst (v := (1 : Int32)) hC dX6_passesOn_75 rfl ?_
    refine v_iadd hC dX6_passesOn_76 ?_
    refine v_mmin hC aw_466 wm_min (Nat.le_of_ble_eq_true rfl) (Nat.le_of_ble_eq_true rfl) (Nat.le_of_ble_eq_true rfl) (Nat.le_of_ble_eq_true rfl) dX6_passesOn_77 ?_
    obtain ⟨M5, e_M5, h⟩ := lt_some h
    refine w_puti (k := 5) hC cls_X6 h0.1 (by decide) rfl aw_102 rfl rfl ⟨rfl, rfl⟩ dX6_passesOn_80 e_M5 ?_
    cases h
    exact v_vret hC (by decide) (by decide) dX6_passesOn_83
set_option maxRecDepth 20000 in
set_option maxHeartbeats 4000000 in
theorem ok_X6_passesOn_2 {N : Nat} {X : am_X} {l : Launch} (hC : am_C X l (am_rm 1 0 0) cX6_passesOn yX6_passesOn.cls none) (hnt : am_NT X) {a0 : Nat} (h0 : kTable a0) : ∀ (n : Nat) (v1 : Int32) (M : Mm) (r : Int32) (M' : Mm), f_X6_passesOn_2 N a0 n v1 M = some (r, M') → am_V X LY M 0 0 (am_Q X LY 0 0 (.inl none) M') 2 [some (.ref a0), some (.int v1)] [] := by
  intro n
  induction n with
  | zero => intro v1 M r M' h; cases h
  | succ n ih =>
    intro v1 M r M' h
    simp only [f_X6_passesOn_2] at h
    refine v_iload_n hC dX6_passesOn_2 rfl ?_
    refine v_aload_n hC dX6_passesOn_3 rfl ?_
    refine v_geti (k := 1) hC cls_X6 h0.1 (by decide) rfl aw_88 rfl dX6_passesOn_4 ?_
    refine v_icmp_ge hC 43 dX6_passesOn_7 rfl (fun c1 => ?_) (fun c1 => ?_)
    · rw [if_pos c1] at h
      refine v_drop [true, false] [some (.ref a0), none] rfl ?_
      exact ok_X6_passesOn_43 hC hnt h0 h
    · rw [if_neg c1] at h
      refine v_iload_n hC dX6_passesOn_10 rfl ?_
      refine v_iconst (v := (5 : Int32)) hC dX6_passesOn_11 rfl ?_
      refine v_icmp_ge hC 43 dX6_passesOn_12 rfl (fun c6 => ?_) (fun c6 => ?_)
      · rw [if_pos c6] at h
        refine v_drop [true, false] [some (.ref a0), none] rfl ?_
        exact ok_X6_passesOn_43 hC hnt h0 h
      · rw [if_neg c6] at h
        refine v_aload_n hC dX6_passesOn_15 rfl ?_
        refine v_geta (k := 14) (b := (a0 + 4)) hC cls_X6 h0.1 (by decide) rfl aw_125 rfl dX6_passesOn_16 ?_
        refine v_iload_n hC dX6_passesOn_19 rfl ?_
        refine v_aload_n hC dX6_passesOn_20 rfl ?_
        refine v_geta (k := 14) (b := (a0 + 4)) hC cls_X6 h0.1 (by decide) rfl aw_125 rfl dX6_passesOn_21 ?_
        refine v_iload_n hC dX6_passesOn_24 rfl ?_
        obtain ⟨g7, h⟩ := grd_some h
        refine v_iald hC (kT_place h0) (inb_in g7) dX6_passesOn_25 ?_
        refine v_aload_n hC dX6_passesOn_26 rfl ?_
        refine v_geta (k := 18) (b := (a0 + 8)) hC cls_X6 h0.1 (by decide) rfl aw_140 rfl dX6_passesOn_27 ?_
        refine v_iload_n hC dX6_passesOn_30 rfl ?_
        obtain ⟨g8, h⟩ := grd_some h
        refine v_iald hC (kT_step h0) (inb_in g8) dX6_passesOn_31 ?_
        refine v_iadd hC dX6_passesOn_32 ?_
        refine v_bipush (v := (10 : Int32)) hC dX6_passesOn_33 rfl ?_
        refine v_irem hC dX6_passesOn_35 (by decide) ?_
        obtain ⟨g9, h⟩ := grd_some h
        obtain ⟨M10, e_M10, h⟩ := lt_some h
        refine w_iast hC (kT_place h0) (inb_in g9) dX6_passesOn_36 e_M10 ?_
        refine w_iinc hC (v1 + (1 : Int32)) dX6_passesOn_37 rfl rfl [some (.ref a0), some (.int (v1 + (1 : Int32)))] rfl ?_
        refine v_goto (tg := 2) hC dX6_passesOn_40 rfl ?_
        exact ih _ _ _ _ h
set_option maxRecDepth 20000 in
set_option maxHeartbeats 4000000 in
theorem ok_X6_passesOn {l : Launch} {N : Nat} {a0 : Nat} {M : Mm} {r : Int32} {M' : Mm} (h0 : kTable a0) (h : f_X6_passesOn N a0 M = some (r, M')) : am_M l yX6_passesOn cX6_passesOn 2 none 1 0 0 LY M [.ref a0] (.inl none) M' := by
  unfold f_X6_passesOn at h
  refine am_intro (by decide) (by simp [Value.category]) (Nat.le_of_ble_eq_true rfl) (fun X hC hnt => ?_)
  refine am_start (L := [some (.ref a0), none]) rfl ?_
  refine v_iconst (v := (0 : Int32)) hC dX6_passesOn_0 rfl ?_
  refine w_istore_n hC dX6_passesOn_1 (ltk rfl) [some (.ref a0), some (.int (0 : Int32))] rfl ?_
  exact ok_X6_passesOn_2 hC hnt h0 N _ _ _ _ h
def f_X5_goesAhead (N : Nat) (a1 : Nat) (a2 : Nat) (M : Mm) : Option (Int32 × Mm) :=
  bnd (f_X5_allTake_n N a1 a2 M) (fun r1 M2 => bnd (f_X6_passesOn N a1 M2) (fun r4 M5 => some (r1, M5)))
set_option maxRecDepth 20000 in
set_option maxHeartbeats 4000000 in
theorem ok_X5_goesAhead {l : Launch} {N : Nat} {a1 a2 : Nat} {M : Mm} {r : Int32} {M' : Mm} (h1 : kTable a1) (h2 : kLaw a2) (h : f_X5_goesAhead N a1 a2 M = some (r, M')) : am_M l yX5_goesAhead cX5_goesAhead 4 (some .int) 6 0 0 LY M [.ref 39, .ref a1, .ref a2] (.inl (some (.int r))) M' := by
  unfold f_X5_goesAhead at h
  refine am_intro (by decide) (by simp [Value.category]) (Nat.le_of_ble_eq_true rfl) (fun X hC hnt => ?_)
  refine am_start (L := [some (.ref 39), some (.ref a1), some (.ref a2), none]) rfl ?_
  refine v_aload_n hC dX5_goesAhead_0 rfl ?_
  refine v_aload_n hC dX5_goesAhead_1 rfl ?_
  refine v_aload_n hC dX5_goesAhead_2 rfl ?_
  refine v_null hC dX5_goesAhead_3 ?_
  obtain ⟨r1, M2, q3, h⟩ := bnd_some h
  refine w_callVi hC [.ref a1, .ref a2, .null] [] (ok_X5_allTake_n h1 h2 q3) mv_X5_allTake aw_421 ly_39 rfl (Nat.le_of_ble_eq_true rfl) ⟨by decide, by decide⟩ ⟨by decide, by decide⟩ dX5_goesAhead_4 ?_
  refine w_istore_n hC dX5_goesAhead_7 (ltk rfl) [some (.ref 39), some (.ref a1), some (.ref a2), some (.int r1)] rfl ?_
  refine v_aload_n hC dX5_goesAhead_8 rfl ?_
  obtain ⟨r4, M5, q6, h⟩ := bnd_some h
  refine w_callVv hC [] [] (ok_X6_passesOn h1 q6) mv_X6_passesOn aw_472 h1.1 rfl (Nat.le_of_ble_eq_true rfl) ⟨by decide, by decide⟩ ⟨by decide, by decide⟩ dX5_goesAhead_9 ?_
  refine v_iload_n hC dX5_goesAhead_12 rfl ?_
  cases h
  exact v_iret hC (by decide) (by decide) dX5_goesAhead_13
def f_X6_draws (N : Nat) (a0 : Nat) (M : Mm) : Option (Int32 × Mm) :=
  lt (wr M a0 9 (((1103515245 : Int32) * (M a0 9)) + (12345 : Int32))) (fun M1 => some (((((M1 a0 9)).toUInt32 >>> (((16 : Int32)).toUInt32 &&& Int32.toUInt32 31)).toInt32 &&& (32767 : Int32)), M1))
set_option maxRecDepth 20000 in
set_option maxHeartbeats 4000000 in
theorem ok_X6_draws {l : Launch} {N : Nat} {a0 : Nat} {M : Mm} {r : Int32} {M' : Mm} (h0 : kTable a0) (h : f_X6_draws N a0 M = some (r, M')) : am_M l yX6_draws cX6_draws 1 (some .int) 1 0 0 LY M [.ref a0] (.inl (some (.int r))) M' := by
  unfold f_X6_draws at h
  refine am_intro (by decide) (by simp [Value.category]) (Nat.le_of_ble_eq_true rfl) (fun X hC hnt => ?_)
  refine am_start (L := [some (.ref a0)]) rfl ?_
  refine v_aload_n hC dX6_draws_0 rfl ?_
  refine v_ldc hC aw_1017 dX6_draws_1 ?_
  refine v_aload_n hC dX6_draws_3 rfl ?_
  refine v_geti (k := 9) hC cls_X6 h0.1 (by decide) rfl aw_116 rfl dX6_draws_4 ?_
  refine v_imul hC dX6_draws_7 ?_
  refine v_sipush (v := (12345 : Int32)) hC dX6_draws_8 rfl ?_
  refine v_iadd hC dX6_draws_11 ?_
  obtain ⟨M1, e_M1, h⟩ := lt_some h
  refine w_puti (k := 9) hC cls_X6 h0.1 (by decide) rfl aw_116 rfl rfl ⟨rfl, rfl⟩ dX6_draws_12 e_M1 ?_
  refine v_aload_n hC dX6_draws_15 rfl ?_
  refine v_geti (k := 9) hC cls_X6 h0.1 (by decide) rfl aw_116 rfl dX6_draws_16 ?_
  refine v_bipush (v := (16 : Int32)) hC dX6_draws_19 rfl ?_
  refine v_iushr hC dX6_draws_21 ?_
  refine v_sipush (v := (32767 : Int32)) hC dX6_draws_22 rfl ?_
  refine v_iand hC dX6_draws_25 ?_
  cases h
  exact v_iret hC (by decide) (by decide) dX6_draws_26
def f_X5_damps_81 (N : Nat) (a1 : Nat) (a2 : Nat) (k17 : Int32 → Mm → Option (Int32 × Mm)) (v3 : Int32) (v4 : Int32) (M : Mm) : Option (Int32 × Mm) :=
  grd (inb v3 5) (grd (inb v3 5) (lt (wr M (a1 + 7) (v3).toNatClampNeg (if ((M (a1 + 7) (v3).toNatClampNeg) + v4) < (9 : Int32) then ((M (a1 + 7) (v3).toNatClampNeg) + v4) else (9 : Int32))) (fun M17 => k17 (v3 + (1 : Int32)) M17)))
def f_X5_damps_17 (N : Nat) (a1 : Nat) (a2 : Nat) : Nat → Int32 → Mm → Option (Int32 × Mm)
  | 0, _, _ => none
  | n + 1, v3, M => (if (M a1 1) ≤ v3 then some (0, M) else (if (5 : Int32) ≤ v3 then some (0, M) else grd (inb v3 5) ((if (M (a1 + 6) (v3).toNatClampNeg) ≤ (0 : Int32) then f_X5_damps_17 N a1 a2 n (v3 + (1 : Int32)) M else grd (inb v3 5) (bnd (f_X6_dinerAt N a1 (M (a1 + 4) (v3).toNatClampNeg) M) (fun r11 M12 => (if r11 = (-1 : Int32) then f_X5_damps_81 N a1 a2 (fun v3 M => f_X5_damps_17 N a1 a2 n v3 M) v3 (1 : Int32) M12 else bnd (f_X0_tell N a1 v3 r11 M12) (fun r19 M20 => bnd (f_X1_setsBy N a2 M20) (fun r22 M23 => f_X5_damps_81 N a1 a2 (fun v3 M => f_X5_damps_17 N a1 a2 n v3 M) v3 r22 M23)))))))))
def f_X5_damps (N : Nat) (a1 : Nat) (a2 : Nat) (M : Mm) : Option (Int32 × Mm) :=
  bnd (f_X6_draws N a1 M) (fun r1 M2 => (if (r1 - r1 / (100 : Int32) * (100 : Int32)) < (M2 a1 7) then f_X5_damps_17 N a1 a2 N (0 : Int32) M2 else some (0, M2)))
set_option maxRecDepth 20000 in
set_option maxHeartbeats 4000000 in
theorem ok_X5_damps_81 {N : Nat} {X : am_X} {l : Launch} (hC : am_C X l (am_rm 4 0 0) cX5_damps yX5_damps.cls none) (hnt : am_NT X) {a1 a2 : Nat} (h1 : kTable a1) (h2 : kLaw a2) {k17 : Int32 → Mm → Option (Int32 × Mm)} (hk17 : ∀ (v3 : Int32) (M : Mm) (r : Int32) (M' : Mm), k17 v3 M = some (r, M') → am_V X LY M 0 0 (am_Q X LY 0 0 (.inl none) M') 17 [some (.ref 39), some (.ref a1), some (.ref a2), some (.int v3), none, none] []) {v3 v4 : Int32} {M : Mm} {r : Int32} {M' : Mm} (h : f_X5_damps_81 N a1 a2 k17 v3 v4 M = some (r, M')) : am_V X LY M 0 0 (am_Q X LY 0 0 (.inl none) M') 81 [some (.ref 39), some (.ref a1), some (.ref a2), some (.int v3), some (.int v4), none] [] := by
  unfold f_X5_damps_81 at h
  refine v_aload_n hC dX5_damps_81 rfl ?_
  refine v_geta (k := 17) (b := (a1 + 7)) hC cls_X6 h1.1 (by decide) rfl aw_138 rfl dX5_damps_82 ?_
  refine v_iload_n hC dX5_damps_85 rfl ?_
  refine v_bipush (v := (9 : Int32)) hC dX5_damps_86 rfl ?_
  refine v_aload_n hC dX5_damps_88 rfl ?_
  refine v_geta (k := 17) (b := (a1 + 7)) hC cls_X6 h1.1 (by decide) rfl aw_138 rfl dX5_damps_89 ?_
  refine v_iload_n hC dX5_damps_92 rfl ?_
  obtain ⟨g15, h⟩ := grd_some h
  refine v_iald hC (kT_set h1) (inb_in g15) dX5_damps_93 ?_
  refine v_iload hC dX5_damps_94 rfl ?_
  refine v_iadd hC dX5_damps_96 ?_
  refine v_mmin hC aw_1018 wm_min (Nat.le_of_ble_eq_true rfl) (Nat.le_of_ble_eq_true rfl) (Nat.le_of_ble_eq_true rfl) (Nat.le_of_ble_eq_true rfl) dX5_damps_97 ?_
  obtain ⟨g16, h⟩ := grd_some h
  obtain ⟨M17, e_M17, h⟩ := lt_some h
  refine w_iast hC (kT_set h1) (inb_in g16) dX5_damps_100 e_M17 ?_
  refine w_iinc hC (v3 + (1 : Int32)) dX5_damps_101 rfl rfl [some (.ref 39), some (.ref a1), some (.ref a2), some (.int (v3 + (1 : Int32))), some (.int v4), none] rfl ?_
  refine v_goto (tg := 17) hC dX5_damps_104 rfl ?_
  refine v_drop [true, true, true, true, false, false] [some (.ref 39), some (.ref a1), some (.ref a2), some (.int (v3 + (1 : Int32))), none, none] rfl ?_
  exact hk17 _ _ _ _ h
set_option maxRecDepth 20000 in
set_option maxHeartbeats 4000000 in
theorem ok_X5_damps_17 {N : Nat} {X : am_X} {l : Launch} (hC : am_C X l (am_rm 4 0 0) cX5_damps yX5_damps.cls none) (hnt : am_NT X) {a1 a2 : Nat} (h1 : kTable a1) (h2 : kLaw a2) : ∀ (n : Nat) (v3 : Int32) (M : Mm) (r : Int32) (M' : Mm), f_X5_damps_17 N a1 a2 n v3 M = some (r, M') → am_V X LY M 0 0 (am_Q X LY 0 0 (.inl none) M') 17 [some (.ref 39), some (.ref a1), some (.ref a2), some (.int v3), none, none] [] := by
  intro n
  induction n with
  | zero => intro v3 M r M' h; cases h
  | succ n ih =>
    intro v3 M r M' h
    simp only [f_X5_damps_17] at h
    refine v_iload_n hC dX5_damps_17 rfl ?_
    refine v_aload_n hC dX5_damps_18 rfl ?_
    refine v_geti (k := 1) hC cls_X6 h1.1 (by decide) rfl aw_90 rfl dX5_damps_19 ?_
    refine v_icmp_ge hC 107 dX5_damps_22 rfl (fun c5 => ?_) (fun c5 => ?_)
    · rw [if_pos c5] at h
      cases h
      exact v_vret hC (by decide) (by decide) dX5_damps_107
    · rw [if_neg c5] at h
      refine v_iload_n hC dX5_damps_25 rfl ?_
      refine v_iconst (v := (5 : Int32)) hC dX5_damps_26 rfl ?_
      refine v_icmp_ge hC 107 dX5_damps_27 rfl (fun c6 => ?_) (fun c6 => ?_)
      · rw [if_pos c6] at h
        cases h
        exact v_vret hC (by decide) (by decide) dX5_damps_107
      · rw [if_neg c6] at h
        refine v_aload_n hC dX5_damps_30 rfl ?_
        refine v_geta (k := 16) (b := (a1 + 6)) hC cls_X6 h1.1 (by decide) rfl aw_134 rfl dX5_damps_31 ?_
        refine v_iload_n hC dX5_damps_34 rfl ?_
        obtain ⟨g7, h⟩ := grd_some h
        refine v_iald hC (kT_grains h1) (inb_in g7) dX5_damps_35 ?_
        refine v_if_le hC 101 dX5_damps_36 rfl (fun c8 => ?_) (fun c8 => ?_)
        · rw [if_pos c8] at h
          refine w_iinc hC (v3 + (1 : Int32)) dX5_damps_101 rfl rfl [some (.ref 39), some (.ref a1), some (.ref a2), some (.int (v3 + (1 : Int32))), none, none] rfl ?_
          refine v_goto (tg := 17) hC dX5_damps_104 rfl ?_
          exact ih _ _ _ _ h
        · rw [if_neg c8] at h
          refine v_iconst (v := (1 : Int32)) hC dX5_damps_39 rfl ?_
          refine w_istore hC dX5_damps_40 (ltk rfl) [some (.ref 39), some (.ref a1), some (.ref a2), some (.int v3), some (.int (1 : Int32)), none] rfl ?_
          refine v_aload_n hC dX5_damps_42 rfl ?_
          refine v_aload_n hC dX5_damps_43 rfl ?_
          refine v_geta (k := 14) (b := (a1 + 4)) hC cls_X6 h1.1 (by decide) rfl aw_126 rfl dX5_damps_44 ?_
          refine v_iload_n hC dX5_damps_47 rfl ?_
          obtain ⟨g10, h⟩ := grd_some h
          refine v_iald hC (kT_place h1) (inb_in g10) dX5_damps_48 ?_
          obtain ⟨r11, M12, q13, h⟩ := bnd_some h
          refine w_callVi hC [.int (M (a1 + 4) (v3).toNatClampNeg)] [] (ok_X6_dinerAt h1 q13) mv_X6_dinerAt aw_425 h1.1 rfl (Nat.le_of_ble_eq_true rfl) ⟨by decide, by decide⟩ ⟨by decide, by decide⟩ dX5_damps_49 ?_
          refine w_istore hC dX5_damps_52 (ltk rfl) [some (.ref 39), some (.ref a1), some (.ref a2), some (.int v3), some (.int (1 : Int32)), some (.int r11)] rfl ?_
          refine v_iload hC dX5_damps_54 rfl ?_
          refine v_iconst (v := (-1 : Int32)) hC dX5_damps_56 rfl ?_
          refine v_icmp_eq hC 81 dX5_damps_57 rfl (fun c14 => ?_) (fun c14 => ?_)
          · rw [if_pos c14] at h
            refine v_drop [true, true, true, true, true, false] [some (.ref 39), some (.ref a1), some (.ref a2), some (.int v3), some (.int (1 : Int32)), none] rfl ?_
            exact ok_X5_damps_81 hC hnt h1 h2 (fun v3 M r M' h => ih v3 M r M' h) h
          · rw [if_neg c14] at h
            refine v_aload_n hC dX5_damps_60 rfl ?_
            refine v_geta (k := 0) (b := 40) hC cls_X5 ly_39 (by decide) rfl aw_285 rfl dX5_damps_61 ?_
            refine v_aload_n hC dX5_damps_64 rfl ?_
            refine v_iload_n hC dX5_damps_65 rfl ?_
            refine v_iload hC dX5_damps_66 rfl ?_
            obtain ⟨r19, M20, q21, h⟩ := bnd_some h
            refine w_callVv hC [.ref a1, .int v3, .int r11] [] (ok_X0_tell h1 q21) mv_X0_tell aw_433 ly_40 rfl (Nat.le_of_ble_eq_true rfl) ⟨by decide, by decide⟩ ⟨by decide, by decide⟩ dX5_damps_68 ?_
            refine v_aload_n hC dX5_damps_71 rfl ?_
            refine v_aload_n hC dX5_damps_72 rfl ?_
            refine v_geta (k := 0) (b := 40) hC cls_X5 ly_39 (by decide) rfl aw_285 rfl dX5_damps_73 ?_
            obtain ⟨r22, M23, q24, h⟩ := bnd_some h
            refine w_callVi hC [.ref 40] [] (ok_X1_setsBy h2 q24) mv_X1_setsBy aw_1023 h2.1 rfl (Nat.le_of_ble_eq_true rfl) ⟨by decide, by decide⟩ ⟨by decide, by decide⟩ dX5_damps_76 ?_
            refine w_istore hC dX5_damps_79 (ltk rfl) [some (.ref 39), some (.ref a1), some (.ref a2), some (.int v3), some (.int r22), some (.int r11)] rfl ?_
            refine v_drop [true, true, true, true, true, false] [some (.ref 39), some (.ref a1), some (.ref a2), some (.int v3), some (.int r22), none] rfl ?_
            exact ok_X5_damps_81 hC hnt h1 h2 (fun v3 M r M' h => ih v3 M r M' h) h
set_option maxRecDepth 20000 in
set_option maxHeartbeats 4000000 in
theorem ok_X5_damps {l : Launch} {N : Nat} {a1 a2 : Nat} {M : Mm} {r : Int32} {M' : Mm} (h1 : kTable a1) (h2 : kLaw a2) (h : f_X5_damps N a1 a2 M = some (r, M')) : am_M l yX5_damps cX5_damps 6 none 4 0 0 LY M [.ref 39, .ref a1, .ref a2] (.inl none) M' := by
  unfold f_X5_damps at h
  refine am_intro (by decide) (by simp [Value.category]) (Nat.le_of_ble_eq_true rfl) (fun X hC hnt => ?_)
  refine am_start (L := [some (.ref 39), some (.ref a1), some (.ref a2), none, none, none]) rfl ?_
  refine v_aload_n hC dX5_damps_0 rfl ?_
  obtain ⟨r1, M2, q3, h⟩ := bnd_some h
  refine w_callVi hC [] [] (ok_X6_draws h1 q3) mv_X6_draws aw_1013 h1.1 rfl (Nat.le_of_ble_eq_true rfl) ⟨by decide, by decide⟩ ⟨by decide, by decide⟩ dX5_damps_1 ?_
  refine v_bipush (v := (100 : Int32)) hC dX5_damps_4 rfl ?_
  refine v_irem hC dX5_damps_6 (by decide) ?_
  refine v_aload_n hC dX5_damps_7 rfl ?_
  refine v_geti (k := 7) hC cls_X6 h1.1 (by decide) rfl aw_111 rfl dX5_damps_8 ?_
  refine v_icmp_lt hC 15 dX5_damps_11 rfl (fun c4 => ?_) (fun c4 => ?_)
  · rw [if_pos c4] at h
    refine v_iconst (v := (0 : Int32)) hC dX5_damps_15 rfl ?_
    refine w_istore_n hC dX5_damps_16 (ltk rfl) [some (.ref 39), some (.ref a1), some (.ref a2), some (.int (0 : Int32)), none, none] rfl ?_
    exact ok_X5_damps_17 hC hnt h1 h2 N _ _ _ _ h
  · rw [if_neg c4] at h
    cases h
    exact v_vret hC (by decide) (by decide) dX5_damps_14
