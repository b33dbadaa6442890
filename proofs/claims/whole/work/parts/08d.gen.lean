def f_X8_adds_3 (N : Nat) : Nat → Int32 → Int32 → Mm → Option (Int32 × Mm)
  | 0, _, _, _ => none
  | n + 1, v1, v2, M => (if v2 < (0 : Int32) then some (0, M) else (if (400 : Int32) ≤ (M 1 1) then some (0, M) else grd (inb (M 1 1) 400) (lt (wr M 2 ((M 1 1)).toNatClampNeg (((v1).toUInt32 >>> ((v2).toUInt32 &&& Int32.toUInt32 31)).toInt32 &&& (255 : Int32))) (fun M4 => lt (wr M4 1 1 ((M4 1 1) + (1 : Int32))) (fun M5 => f_X8_adds_3 N n v1 (v2 + (-8 : Int32)) M5)))))
def f_X8_adds (N : Nat) (v1 : Int32) (M : Mm) : Option (Int32 × Mm) :=
  f_X8_adds_3 N N v1 (24 : Int32) M
set_option maxRecDepth 20000 in
set_option maxHeartbeats 4000000 in
theorem ok_X8_adds_3 {N : Nat} {X : am_X} {l : Launch} (hC : am_C X l (am_rm 1 0 0) cX8_adds yX8_adds.cls none) (hnt : am_NT X) : ∀ (n : Nat) (v1 v2 : Int32) (M : Mm) (r : Int32) (M' : Mm), f_X8_adds_3 N n v1 v2 M = some (r, M') → am_V X LY M 0 0 (am_Q X LY 0 0 (.inl none) M') 3 [some (.ref 1), some (.int v1), some (.int v2)] [] := by
  intro n
  induction n with
  | zero => intro v1 v2 M r M' h; cases h
  | succ n ih =>
    intro v1 v2 M r M' h
    simp only [f_X8_adds_3] at h
    refine v_iload_n hC dX8_adds_3 rfl ?_
    refine v_if_lt hC 49 dX8_adds_4 rfl (fun c1 => ?_) (fun c1 => ?_)
    · rw [if_pos c1] at h
      cases h
      exact v_vret hC (by decide) (by decide) dX8_adds_49
    · rw [if_neg c1] at h
      refine v_aload_n hC dX8_adds_7 rfl ?_
      refine v_geti (k := 1) hC cls_X8 ly_1 (by decide) rfl aw_44 rfl dX8_adds_8 ?_
      refine v_sipush (v := (400 : Int32)) hC dX8_adds_11 rfl ?_
      refine v_icmp_ge hC 49 dX8_adds_14 rfl (fun c2 => ?_) (fun c2 => ?_)
      · rw [if_pos c2] at h
        cases h
        exact v_vret hC (by decide) (by decide) dX8_adds_49
      · rw [if_neg c2] at h
        refine v_aload_n hC dX8_adds_17 rfl ?_
        refine v_geta (k := 0) (b := 2) hC cls_X8 ly_1 (by decide) rfl aw_42 rfl dX8_adds_18 ?_
        refine v_aload_n hC dX8_adds_21 rfl ?_
        refine v_geti (k := 1) hC cls_X8 ly_1 (by decide) rfl aw_44 rfl dX8_adds_22 ?_
        refine v_iload_n hC dX8_adds_25 rfl ?_
        refine v_iload_n hC dX8_adds_26 rfl ?_
        refine v_iushr hC dX8_adds_27 ?_
        refine v_sipush (v := (255 : Int32)) hC dX8_adds_28 rfl ?_
        refine v_iand hC dX8_adds_31 ?_
        obtain ⟨g3, h⟩ := grd_some h
        obtain ⟨M4, e_M4, h⟩ := lt_some h
        refine w_iast hC ly_2 (inb_in g3) dX8_adds_32 e_M4 ?_
        refine v_aload_n hC dX8_adds_33 rfl ?_
        refine v_dup hC dX8_adds_34 rfl ?_
        refine v_geti (k := 1) hC cls_X8 ly_1 (by decide) rfl aw_44 rfl dX8_adds_35 ?_
        refine v_iconst (v := (1 : Int32)) hC dX8_adds_38 rfl ?_
        refine v_iadd hC dX8_adds_39 ?_
        obtain ⟨M5, e_M5, h⟩ := lt_some h
        refine w_puti (k := 1) hC cls_X8 ly_1 (by decide) rfl aw_44 rfl rfl ⟨rfl, rfl⟩ dX8_adds_40 e_M5 ?_
        refine w_iinc hC (v2 + (-8 : Int32)) dX8_adds_43 rfl rfl [some (.ref 1), some (.int v1), some (.int (v2 + (-8 : Int32)))] rfl ?_
        refine v_goto (tg := 3) hC dX8_adds_46 rfl ?_
        exact ih _ _ _ _ _ h
set_option maxRecDepth 20000 in
set_option maxHeartbeats 4000000 in
theorem ok_X8_adds {l : Launch} {N : Nat} {v1 : Int32} {M : Mm} {r : Int32} {M' : Mm} (h : f_X8_adds N v1 M = some (r, M')) : am_M l yX8_adds cX8_adds 3 none 1 0 0 LY M [.ref 1, .int v1] (.inl none) M' := by
  unfold f_X8_adds at h
  refine am_intro (by decide) (by simp [Value.category]) (Nat.le_of_ble_eq_true rfl) (fun X hC hnt => ?_)
  refine am_start (L := [some (.ref 1), some (.int v1), none]) rfl ?_
  refine v_bipush (v := (24 : Int32)) hC dX8_adds_0 rfl ?_
  refine w_istore_n hC dX8_adds_2 (ltk rfl) [some (.ref 1), some (.int v1), some (.int (24 : Int32))] rfl ?_
  exact ok_X8_adds_3 hC hnt N _ _ _ _ _ h
def f_X8_byteAt_21 (N : Nat) (M : Mm) : Option (Int32 × Mm) :=
  some ((-1 : Int32), M)
def f_X8_byteAt (N : Nat) (v1 : Int32) (M : Mm) : Option (Int32 × Mm) :=
  (if v1 < (0 : Int32) then f_X8_byteAt_21 N M else (if (M 1 1) ≤ v1 then f_X8_byteAt_21 N M else grd (inb v1 400) (some ((M 2 (v1).toNatClampNeg), M))))
set_option maxRecDepth 20000 in
set_option maxHeartbeats 4000000 in
theorem ok_X8_byteAt_21 {N : Nat} {X : am_X} {l : Launch} (hC : am_C X l (am_rm 1 0 0) cX8_byteAt yX8_byteAt.cls (some .int)) (hnt : am_NT X) {M : Mm} {r : Int32} {M' : Mm} (h : f_X8_byteAt_21 N M = some (r, M')) : am_V X LY M 0 0 (am_Q X LY 0 0 (.inl (some (.int r))) M') 21 [none, none] [] := by
  unfold f_X8_byteAt_21 at h
  refine v_iconst (v := (-1 : Int32)) hC dX8_byteAt_21 rfl ?_
  cases h
  exact v_iret hC (by decide) (by decide) dX8_byteAt_22
set_option maxRecDepth 20000 in
set_option maxHeartbeats 4000000 in
theorem ok_X8_byteAt {l : Launch} {N : Nat} {v1 : Int32} {M : Mm} {r : Int32} {M' : Mm} (h : f_X8_byteAt N v1 M = some (r, M')) : am_M l yX8_byteAt cX8_byteAt 2 (some .int) 1 0 0 LY M [.ref 1, .int v1] (.inl (some (.int r))) M' := by
  unfold f_X8_byteAt at h
  refine am_intro (by decide) (by simp [Value.category]) (Nat.le_of_ble_eq_true rfl) (fun X hC hnt => ?_)
  refine am_start (L := [some (.ref 1), some (.int v1)]) rfl ?_
  refine v_iload_n hC dX8_byteAt_0 rfl ?_
  refine v_if_lt hC 21 dX8_byteAt_1 rfl (fun c1 => ?_) (fun c1 => ?_)
  · rw [if_pos c1] at h
    refine v_drop [false, false] [none, none] rfl ?_
    exact ok_X8_byteAt_21 hC hnt h
  · rw [if_neg c1] at h
    refine v_iload_n hC dX8_byteAt_4 rfl ?_
    refine v_aload_n hC dX8_byteAt_5 rfl ?_
    refine v_geti (k := 1) hC cls_X8 ly_1 (by decide) rfl aw_44 rfl dX8_byteAt_6 ?_
    refine v_icmp_ge hC 21 dX8_byteAt_9 rfl (fun c2 => ?_) (fun c2 => ?_)
    · rw [if_pos c2] at h
      refine v_drop [false, false] [none, none] rfl ?_
      exact ok_X8_byteAt_21 hC hnt h
    · rw [if_neg c2] at h
      refine v_aload_n hC dX8_byteAt_12 rfl ?_
      refine v_geta (k := 0) (b := 2) hC cls_X8 ly_1 (by decide) rfl aw_42 rfl dX8_byteAt_13 ?_
      refine v_iload_n hC dX8_byteAt_16 rfl ?_
      obtain ⟨g3, h⟩ := grd_some h
      refine v_iald hC ly_2 (inb_in g3) dX8_byteAt_17 ?_
      refine v_goto (tg := 22) hC dX8_byteAt_18 rfl ?_
      cases h
      exact v_iret hC (by decide) (by decide) dX8_byteAt_22
def f_X9_adds (N : Nat) (v1 : Int32) (v2 : Int32) (v3 : Int32) (M : Mm) : Option (Int32 × Mm) :=
  (if (400 : Int32) < (M 3 3) then some (0, M) else grd (inb (M 3 3) 401) (lt (wr M 4 ((M 3 3)).toNatClampNeg v1) (fun M3 => grd (inb (M3 3 3) 401) (lt (wr M3 5 ((M3 3 3)).toNatClampNeg v2) (fun M5 => grd (inb (M5 3 3) 401) (lt (wr M5 6 ((M5 3 3)).toNatClampNeg v3) (fun M7 => lt (wr M7 3 3 ((M7 3 3) + (1 : Int32))) (fun M8 => some (0, M8)))))))))
set_option maxRecDepth 20000 in
set_option maxHeartbeats 4000000 in
theorem ok_X9_adds {l : Launch} {N : Nat} {v1 v2 v3 : Int32} {M : Mm} {r : Int32} {M' : Mm} (h : f_X9_adds N v1 v2 v3 M = some (r, M')) : am_M l yX9_adds cX9_adds 4 none 1 0 0 LY M [.ref 3, .int v1, .int v2, .int v3] (.inl none) M' := by
  unfold f_X9_adds at h
  refine am_intro (by decide) (by simp [Value.category]) (Nat.le_of_ble_eq_true rfl) (fun X hC hnt => ?_)
  refine am_start (L := [some (.ref 3), some (.int v1), some (.int v2), some (.int v3)]) rfl ?_
  refine v_aload_n hC dX9_adds_0 rfl ?_
  refine v_geti (k := 3) hC cls_X9 ly_3 (by decide) rfl aw_62 rfl dX9_adds_1 ?_
  refine v_sipush (v := (400 : Int32)) hC dX9_adds_4 rfl ?_
  refine v_icmp_gt hC 50 dX9_adds_7 rfl (fun c1 => ?_) (fun c1 => ?_)
  · rw [if_pos c1] at h
    cases h
    exact v_vret hC (by decide) (by decide) dX9_adds_50
  · rw [if_neg c1] at h
    refine v_aload_n hC dX9_adds_10 rfl ?_
    refine v_geta (k := 0) (b := 4) hC cls_X9 ly_3 (by decide) rfl aw_59 rfl dX9_adds_11 ?_
    refine v_aload_n hC dX9_adds_14 rfl ?_
    refine v_geti (k := 3) hC cls_X9 ly_3 (by decide) rfl aw_62 rfl dX9_adds_15 ?_
    refine v_iload_n hC dX9_adds_18 rfl ?_
    obtain ⟨g2, h⟩ := grd_some h
    obtain ⟨M3, e_M3, h⟩ := lt_some h
    refine w_iast hC ly_4 (inb_in g2) dX9_adds_19 e_M3 ?_
    refine v_aload_n hC dX9_adds_20 rfl ?_
    refine v_geta (k := 1) (b := 5) hC cls_X9 ly_3 (by decide) rfl aw_60 rfl dX9_adds_21 ?_
    refine v_aload_n hC dX9_adds_24 rfl ?_
    refine v_geti (k := 3) hC cls_X9 ly_3 (by decide) rfl aw_62 rfl dX9_adds_25 ?_
    refine v_iload_n hC dX9_adds_28 rfl ?_
    obtain ⟨g4, h⟩ := grd_some h
    obtain ⟨M5, e_M5, h⟩ := lt_some h
    refine w_iast hC ly_5 (inb_in g4) dX9_adds_29 e_M5 ?_
    refine v_aload_n hC dX9_adds_30 rfl ?_
    refine v_geta (k := 2) (b := 6) hC cls_X9 ly_3 (by decide) rfl aw_61 rfl dX9_adds_31 ?_
    refine v_aload_n hC dX9_adds_34 rfl ?_
    refine v_geti (k := 3) hC cls_X9 ly_3 (by decide) rfl aw_62 rfl dX9_adds_35 ?_
    refine v_iload_n hC dX9_adds_38 rfl ?_
    obtain ⟨g6, h⟩ := grd_some h
    obtain ⟨M7, e_M7, h⟩ := lt_some h
    refine w_iast hC ly_6 (inb_in g6) dX9_adds_39 e_M7 ?_
    refine v_aload_n hC dX9_adds_40 rfl ?_
    refine v_dup hC dX9_adds_41 rfl ?_
    refine v_geti (k := 3) hC cls_X9 ly_3 (by decide) rfl aw_62 rfl dX9_adds_42 ?_
    refine v_iconst (v := (1 : Int32)) hC dX9_adds_45 rfl ?_
    refine v_iadd hC dX9_adds_46 ?_
    obtain ⟨M8, e_M8, h⟩ := lt_some h
    refine w_puti (k := 3) hC cls_X9 ly_3 (by decide) rfl aw_62 rfl rfl ⟨rfl, rfl⟩ dX9_adds_47 e_M8 ?_
    cases h
    exact v_vret hC (by decide) (by decide) dX9_adds_50
def f_X9_cutsNumber_79 (N : Nat) (v2 : Int32) (v3 : Int32) (v4 : Int32) (s1 : Int32) (M : Mm) : Option (Int32 × Mm) :=
  bnd (f_X9_adds N s1 v2 v4 M) (fun r3 M4 => some (v3, M4))
def f_X9_cutsNumber_62 (N : Nat) (v2 : Int32) (v3 : Int32) (v4 : Int32) (M : Mm) : Option (Int32 × Mm) :=
  (if v3 ≤ (v2 + (3 : Int32)) then f_X9_cutsNumber_79 N v2 v3 v4 (301 : Int32) M else f_X9_cutsNumber_79 N v2 v3 v4 (302 : Int32) M)
def f_X9_cutsNumber_5 (N : Nat) : Nat → Int32 → Int32 → Int32 → Mm → Option (Int32 × Mm)
  | 0, _, _, _, _ => none
  | n + 1, v2, v3, v4, M => (if (M 1 1) ≤ v3 then f_X9_cutsNumber_62 N v2 v3 v4 M else bnd (f_X8_byteAt N v3 M) (fun r6 M7 => (if r6 < (48 : Int32) then f_X9_cutsNumber_62 N v2 v3 v4 M7 else bnd (f_X8_byteAt N v3 M7) (fun r10 M11 => (if (57 : Int32) < r10 then f_X9_cutsNumber_62 N v2 v3 v4 M11 else (if (v2 + (3 : Int32)) ≤ v3 then f_X9_cutsNumber_5 N n v2 (v3 + (1 : Int32)) v4 M11 else bnd (f_X8_byteAt N v3 M11) (fun r16 M17 => lt ((((10 : Int32) * v4) + r16) - (48 : Int32)) (fun x19 => f_X9_cutsNumber_5 N n v2 (v3 + (1 : Int32)) x19 M17))))))))
def f_X9_cutsNumber (N : Nat) (v2 : Int32) (M : Mm) : Option (Int32 × Mm) :=
  f_X9_cutsNumber_5 N N v2 v2 (0 : Int32) M
set_option maxRecDepth 20000 in
set_option maxHeartbeats 4000000 in
theorem ok_X9_cutsNumber_79 {N : Nat} {X : am_X} {l : Launch} (hC : am_C X l (am_rm 2 0 0) cX9_cutsNumber yX9_cutsNumber.cls (some .int)) (hnt : am_NT X) {v2 v3 v4 s1 : Int32} {M : Mm} {r : Int32} {M' : Mm} (h : f_X9_cutsNumber_79 N v2 v3 v4 s1 M = some (r, M')) : am_V X LY M 0 0 (am_Q X LY 0 0 (.inl (some (.int r))) M') 79 [none, none, some (.int v2), some (.int v3), some (.int v4)] [.int s1, .ref 3] := by
  unfold f_X9_cutsNumber_79 at h
  refine v_iload_n hC dX9_cutsNumber_79 rfl ?_
  refine v_iload hC dX9_cutsNumber_80 rfl ?_
  obtain ⟨r3, M4, q5, h⟩ := bnd_some h
  refine w_callVv hC [.int s1, .int v2, .int v4] [] (ok_X9_adds q5) mv_X9_adds aw_600 ly_3 rfl (Nat.le_of_ble_eq_true rfl) ⟨by decide, by decide⟩ ⟨by decide, by decide⟩ dX9_cutsNumber_82 ?_
  refine v_iload_n hC dX9_cutsNumber_85 rfl ?_
  cases h
  exact v_iret hC (by decide) (by decide) dX9_cutsNumber_86
set_option maxRecDepth 20000 in
set_option maxHeartbeats 4000000 in
theorem ok_X9_cutsNumber_62 {N : Nat} {X : am_X} {l : Launch} (hC : am_C X l (am_rm 2 0 0) cX9_cutsNumber yX9_cutsNumber.cls (some .int)) (hnt : am_NT X) {v2 v3 v4 : Int32} {M : Mm} {r : Int32} {M' : Mm} (h : f_X9_cutsNumber_62 N v2 v3 v4 M = some (r, M')) : am_V X LY M 0 0 (am_Q X LY 0 0 (.inl (some (.int r))) M') 62 [some (.ref 3), none, some (.int v2), some (.int v3), some (.int v4)] [] := by
  unfold f_X9_cutsNumber_62 at h
  refine v_aload_n hC dX9_cutsNumber_62 rfl ?_
  refine v_iload_n hC dX9_cutsNumber_63 rfl ?_
  refine v_iload_n hC dX9_cutsNumber_64 rfl ?_
  refine v_iconst (v := (3 : Int32)) hC dX9_cutsNumber_65 rfl ?_
  refine v_iadd hC dX9_cutsNumber_66 ?_
  refine v_icmp_le hC 76 dX9_cutsNumber_67 rfl (fun c2 => ?_) (fun c2 => ?_)
  · rw [if_pos c2] at h
    refine v_sipush (v := (301 : Int32)) hC dX9_cutsNumber_76 rfl ?_
    refine v_drop [false, false, true, true, true] [none, none, some (.int v2), some (.int v3), some (.int v4)] rfl ?_
    exact ok_X9_cutsNumber_79 hC hnt h
  · rw [if_neg c2] at h
    refine v_sipush (v := (302 : Int32)) hC dX9_cutsNumber_70 rfl ?_
    refine v_goto (tg := 79) hC dX9_cutsNumber_73 rfl ?_
    refine v_drop [false, false, true, true, true] [none, none, some (.int v2), some (.int v3), some (.int v4)] rfl ?_
    exact ok_X9_cutsNumber_79 hC hnt h
set_option maxRecDepth 20000 in
set_option maxHeartbeats 4000000 in
theorem ok_X9_cutsNumber_5 {N : Nat} {X : am_X} {l : Launch} (hC : am_C X l (am_rm 2 0 0) cX9_cutsNumber yX9_cutsNumber.cls (some .int)) (hnt : am_NT X) : ∀ (n : Nat) (v2 v3 v4 : Int32) (M : Mm) (r : Int32) (M' : Mm), f_X9_cutsNumber_5 N n v2 v3 v4 M = some (r, M') → am_V X LY M 0 0 (am_Q X LY 0 0 (.inl (some (.int r))) M') 5 [some (.ref 3), some (.ref 1), some (.int v2), some (.int v3), some (.int v4)] [] := by
  intro n
  induction n with
  | zero => intro v2 v3 v4 M r M' h; cases h
  | succ n ih =>
    intro v2 v3 v4 M r M' h
    simp only [f_X9_cutsNumber_5] at h
    refine v_iload_n hC dX9_cutsNumber_5 rfl ?_
    refine v_aload_n hC dX9_cutsNumber_6 rfl ?_
    refine v_geti (k := 1) hC cls_X8 ly_1 (by decide) rfl aw_46 rfl dX9_cutsNumber_7 ?_
    refine v_icmp_ge hC 62 dX9_cutsNumber_10 rfl (fun c1 => ?_) (fun c1 => ?_)
    · rw [if_pos c1] at h
      refine v_drop [true, false, true, true, true] [some (.ref 3), none, some (.int v2), some (.int v3), some (.int v4)] rfl ?_
      exact ok_X9_cutsNumber_62 hC hnt h
    · rw [if_neg c1] at h
      refine v_aload_n hC dX9_cutsNumber_13 rfl ?_
      refine v_iload_n hC dX9_cutsNumber_14 rfl ?_
      obtain ⟨r6, M7, q8, h⟩ := bnd_some h
      refine w_callVi hC [.int v3] [] (ok_X8_byteAt q8) mv_X8_byteAt aw_592 ly_1 rfl (Nat.le_of_ble_eq_true rfl) ⟨by decide, by decide⟩ ⟨by decide, by decide⟩ dX9_cutsNumber_15 ?_
      refine v_bipush (v := (48 : Int32)) hC dX9_cutsNumber_18 rfl ?_
      refine v_icmp_lt hC 62 dX9_cutsNumber_20 rfl (fun c9 => ?_) (fun c9 => ?_)
      · rw [if_pos c9] at h
        refine v_drop [true, false, true, true, true] [some (.ref 3), none, some (.int v2), some (.int v3), some (.int v4)] rfl ?_
        exact ok_X9_cutsNumber_62 hC hnt h
      · rw [if_neg c9] at h
        refine v_aload_n hC dX9_cutsNumber_23 rfl ?_
        refine v_iload_n hC dX9_cutsNumber_24 rfl ?_
        obtain ⟨r10, M11, q12, h⟩ := bnd_some h
        refine w_callVi hC [.int v3] [] (ok_X8_byteAt q12) mv_X8_byteAt aw_592 ly_1 rfl (Nat.le_of_ble_eq_true rfl) ⟨by decide, by decide⟩ ⟨by decide, by decide⟩ dX9_cutsNumber_25 ?_
        refine v_bipush (v := (57 : Int32)) hC dX9_cutsNumber_28 rfl ?_
        refine v_icmp_gt hC 62 dX9_cutsNumber_30 rfl (fun c13 => ?_) (fun c13 => ?_)
        · rw [if_pos c13] at h
          refine v_drop [true, false, true, true, true] [some (.ref 3), none, some (.int v2), some (.int v3), some (.int v4)] rfl ?_
          exact ok_X9_cutsNumber_62 hC hnt h
        · rw [if_neg c13] at h
          refine v_iload_n hC dX9_cutsNumber_33 rfl ?_
          refine v_iload_n hC dX9_cutsNumber_34 rfl ?_
          refine v_iconst (v := (3 : Int32)) hC dX9_cutsNumber_35 rfl ?_
          refine v_iadd hC dX9_cutsNumber_36 ?_
          refine v_icmp_ge hC 56 dX9_cutsNumber_37 rfl (fun c14 => ?_) (fun c14 => ?_)
          · rw [if_pos c14] at h
            refine w_iinc hC (v3 + (1 : Int32)) dX9_cutsNumber_56 rfl rfl [some (.ref 3), some (.ref 1), some (.int v2), some (.int (v3 + (1 : Int32))), some (.int v4)] rfl ?_
            refine v_goto (tg := 5) hC dX9_cutsNumber_59 rfl ?_
            exact ih _ _ _ _ _ _ h
          · rw [if_neg c14] at h
            refine v_bipush (v := (10 : Int32)) hC dX9_cutsNumber_40 rfl ?_
            refine v_iload hC dX9_cutsNumber_42 rfl ?_
            refine v_imul hC dX9_cutsNumber_44 ?_
            refine v_aload_n hC dX9_cutsNumber_45 rfl ?_
            refine v_iload_n hC dX9_cutsNumber_46 rfl ?_
            obtain ⟨r16, M17, q18, h⟩ := bnd_some h
            refine w_callVi hC [.int v3] [.int ((10 : Int32) * v4)] (ok_X8_byteAt q18) mv_X8_byteAt aw_592 ly_1 rfl (Nat.le_of_ble_eq_true rfl) ⟨by decide, by decide⟩ ⟨by decide, by decide⟩ dX9_cutsNumber_47 ?_
            refine v_iadd hC dX9_cutsNumber_50 ?_
            refine v_bipush (v := (48 : Int32)) hC dX9_cutsNumber_51 rfl ?_
            refine v_isub hC dX9_cutsNumber_53 ?_
            obtain ⟨x19, e_x19, h⟩ := lt_some h
            refine v_nam e_x19 ?_
            refine w_istore hC dX9_cutsNumber_54 (ltk rfl) [some (.ref 3), some (.ref 1), some (.int v2), some (.int v3), some (.int x19)] rfl ?_
            refine w_iinc hC (v3 + (1 : Int32)) dX9_cutsNumber_56 rfl rfl [some (.ref 3), some (.ref 1), some (.int v2), some (.int (v3 + (1 : Int32))), some (.int x19)] rfl ?_
            refine v_goto (tg := 5) hC dX9_cutsNumber_59 rfl ?_
            exact ih _ _ _ _ _ _ h
set_option maxRecDepth 20000 in
set_option maxHeartbeats 4000000 in
theorem ok_X9_cutsNumber {l : Launch} {N : Nat} {v2 : Int32} {M : Mm} {r : Int32} {M' : Mm} (h : f_X9_cutsNumber N v2 M = some (r, M')) : am_M l yX9_cutsNumber cX9_cutsNumber 5 (some .int) 2 0 0 LY M [.ref 3, .ref 1, .int v2] (.inl (some (.int r))) M' := by
  unfold f_X9_cutsNumber at h
  refine am_intro (by decide) (by simp [Value.category]) (Nat.le_of_ble_eq_true rfl) (fun X hC hnt => ?_)
  refine am_start (L := [some (.ref 3), some (.ref 1), some (.int v2), none, none]) rfl ?_
  refine v_iload_n hC dX9_cutsNumber_0 rfl ?_
  refine w_istore_n hC dX9_cutsNumber_1 (ltk rfl) [some (.ref 3), some (.ref 1), some (.int v2), some (.int v2), none] rfl ?_
  refine v_iconst (v := (0 : Int32)) hC dX9_cutsNumber_2 rfl ?_
  refine w_istore hC dX9_cutsNumber_3 (ltk rfl) [some (.ref 3), some (.ref 1), some (.int v2), some (.int v2), some (.int (0 : Int32))] rfl ?_
  exact ok_X9_cutsNumber_5 hC hnt N _ _ _ _ _ _ h
def f_X9_wordOf_82 (N : Nat) (k11 : Int32 → Int32 → Int32 → Int32 → Int32 → Mm → Option (Int32 × Mm)) (v2 : Int32) (v3 : Int32) (v4 : Int32) (v6 : Int32) (s0 : Int32) (M : Mm) : Option (Int32 × Mm) :=
  k11 v2 v3 v4 s0 (v6 + (1 : Int32)) M
def f_X9_wordOf_79 (N : Nat) (k11 : Int32 → Int32 → Int32 → Int32 → Int32 → Mm → Option (Int32 × Mm)) (v2 : Int32) (v3 : Int32) (v4 : Int32) (v6 : Int32) (M : Mm) : Option (Int32 × Mm) :=
  f_X9_wordOf_82 N k11 v2 v3 v4 v6 (401 : Int32) M
def f_X9_wordOf_11 (N : Nat) : Nat → Int32 → Int32 → Int32 → Int32 → Int32 → Mm → Option (Int32 × Mm)
  | 0, _, _, _, _, _, _ => none
  | n + 1, v2, v3, v4, v5, v6, M => bnd (f_slen 1000000 M) (fun r1 M2 => (if r1 ≤ v6 then some ((302 : Int32), M2) else bnd (f_schr 1000000 v6 M2) (fun r5 M6 => (if r5 = (32 : Int32) then (if v5 = v3 then some (v4, M6) else f_X9_wordOf_11 N n v2 v3 (v4 + (1 : Int32)) v2 (v6 + (1 : Int32)) M6) else (if v3 ≤ v5 then f_X9_wordOf_79 N (fun v2 v3 v4 v5 v6 M => f_X9_wordOf_11 N n v2 v3 v4 v5 v6 M) v2 v3 v4 v6 M6 else bnd (f_X8_byteAt N v5 M6) (fun r11 M12 => (if r11 = r5 then f_X9_wordOf_82 N (fun v2 v3 v4 v5 v6 M => f_X9_wordOf_11 N n v2 v3 v4 v5 v6 M) v2 v3 v4 v6 (v5 + (1 : Int32)) M12 else f_X9_wordOf_79 N (fun v2 v3 v4 v5 v6 M => f_X9_wordOf_11 N n v2 v3 v4 v5 v6 M) v2 v3 v4 v6 M12)))))))
def f_X9_wordOf (N : Nat) (v2 : Int32) (v3 : Int32) (M : Mm) : Option (Int32 × Mm) :=
  f_X9_wordOf_11 N N v2 v3 (256 : Int32) v2 (0 : Int32) M
set_option maxRecDepth 20000 in
set_option maxHeartbeats 4000000 in
theorem ok_X9_wordOf_82 {N : Nat} {X : am_X} {l : Launch} (hC : am_C X l (am_rm 5 0 0) cX9_wordOf yX9_wordOf.cls (some .int)) (hnt : am_NT X) {k11 : Int32 → Int32 → Int32 → Int32 → Int32 → Mm → Option (Int32 × Mm)} (hk11 : ∀ (v2 v3 v4 v5 v6 : Int32) (M : Mm) (r : Int32) (M' : Mm), k11 v2 v3 v4 v5 v6 M = some (r, M') → am_V X LY M 0 0 (am_Q X LY 0 0 (.inl (some (.int r))) M') 11 [none, some (.ref 1), some (.int v2), some (.int v3), some (.int v4), some (.int v5), some (.int v6), none] []) {v2 v3 v4 v6 s0 : Int32} {M : Mm} {r : Int32} {M' : Mm} (h : f_X9_wordOf_82 N k11 v2 v3 v4 v6 s0 M = some (r, M')) : am_V X LY M 0 0 (am_Q X LY 0 0 (.inl (some (.int r))) M') 82 [none, some (.ref 1), some (.int v2), some (.int v3), some (.int v4), none, some (.int v6), none] [.int s0] := by
  unfold f_X9_wordOf_82 at h
  refine w_istore hC dX9_wordOf_82 (ltk rfl) [none, some (.ref 1), some (.int v2), some (.int v3), some (.int v4), some (.int s0), some (.int v6), none] rfl ?_
  refine w_iinc hC (v6 + (1 : Int32)) dX9_wordOf_84 rfl rfl [none, some (.ref 1), some (.int v2), some (.int v3), some (.int v4), some (.int s0), some (.int (v6 + (1 : Int32))), none] rfl ?_
  refine v_goto (tg := 11) hC dX9_wordOf_87 rfl ?_
  exact hk11 _ _ _ _ _ _ _ _ h
set_option maxRecDepth 20000 in
set_option maxHeartbeats 4000000 in
theorem ok_X9_wordOf_79 {N : Nat} {X : am_X} {l : Launch} (hC : am_C X l (am_rm 5 0 0) cX9_wordOf yX9_wordOf.cls (some .int)) (hnt : am_NT X) {k11 : Int32 → Int32 → Int32 → Int32 → Int32 → Mm → Option (Int32 × Mm)} (hk11 : ∀ (v2 v3 v4 v5 v6 : Int32) (M : Mm) (r : Int32) (M' : Mm), k11 v2 v3 v4 v5 v6 M = some (r, M') → am_V X LY M 0 0 (am_Q X LY 0 0 (.inl (some (.int r))) M') 11 [none, some (.ref 1), some (.int v2), some (.int v3), some (.int v4), some (.int v5), some (.int v6), none] []) {v2 v3 v4 v6 : Int32} {M : Mm} {r : Int32} {M' : Mm} (h : f_X9_wordOf_79 N k11 v2 v3 v4 v6 M = some (r, M')) : am_V X LY M 0 0 (am_Q X LY 0 0 (.inl (some (.int r))) M') 79 [none, some (.ref 1), some (.int v2), some (.int v3), some (.int v4), none, some (.int v6), none] [] := by
  unfold f_X9_wordOf_79 at h
  refine v_sipush (v := (401 : Int32)) hC dX9_wordOf_79 rfl ?_
  exact ok_X9_wordOf_82 hC hnt hk11 h
set_option maxRecDepth 20000 in
set_option maxHeartbeats 4000000 in
theorem ok_X9_wordOf_11 {N : Nat} {X : am_X} {l : Launch} (hC : am_C X l (am_rm 5 0 0) cX9_wordOf yX9_wordOf.cls (some .int)) (hnt : am_NT X) : ∀ (n : Nat) (v2 v3 v4 v5 v6 : Int32) (M : Mm) (r : Int32) (M' : Mm), f_X9_wordOf_11 N n v2 v3 v4 v5 v6 M = some (r, M') → am_V X LY M 0 0 (am_Q X LY 0 0 (.inl (some (.int r))) M') 11 [none, some (.ref 1), some (.int v2), some (.int v3), some (.int v4), some (.int v5), some (.int v6), none] [] := by
  intro n
  induction n with
  | zero => intro v2 v3 v4 v5 v6 M r M' h; cases h
  | succ n ih =>
    intro v2 v3 v4 v5 v6 M r M' h
    simp only [f_X9_wordOf_11] at h
    refine v_iload hC dX9_wordOf_11 rfl ?_
    refine w_ldcS (tx := "diner taste at diet cellar grains set step sweet salty spill damp course take spare if or and not last has ") (i9 := 0) hC st_0 dX9_wordOf_13 ?_
    obtain ⟨r1, M2, q3, h⟩ := bnd_some h
    refine w_slen hC [.int v6] q3 aw_609 (Nat.le_of_ble_eq_true rfl) ⟨by decide, by decide⟩ ⟨by decide, by decide⟩ dX9_wordOf_15 ?_
    refine v_icmp_ge hC 90 dX9_wordOf_18 rfl (fun c4 => ?_) (fun c4 => ?_)
    · rw [if_pos c4] at h
      refine v_sipush (v := (302 : Int32)) hC dX9_wordOf_90 rfl ?_
      cases h
      exact v_iret hC (by decide) (by decide) dX9_wordOf_93
    · rw [if_neg c4] at h
      refine w_ldcS (tx := "diner taste at diet cellar grains set step sweet salty spill damp course take spare if or and not last has ") (i9 := 0) hC st_0 dX9_wordOf_21 ?_
      refine v_iload hC dX9_wordOf_23 rfl ?_
      obtain ⟨r5, M6, q7, h⟩ := bnd_some h
      refine w_schr hC [] q7 aw_619 (Nat.le_of_ble_eq_true rfl) ⟨by decide, by decide⟩ ⟨by decide, by decide⟩ dX9_wordOf_25 ?_
      refine w_istore hC dX9_wordOf_28 (ltk rfl) [none, some (.ref 1), some (.int v2), some (.int v3), some (.int v4), some (.int v5), some (.int v6), some (.int r5)] rfl ?_
      refine v_iload hC dX9_wordOf_30 rfl ?_
      refine v_bipush (v := (32 : Int32)) hC dX9_wordOf_32 rfl ?_
      refine v_icmp_ne hC 55 dX9_wordOf_34 rfl (fun c8 => ?_) (fun c8 => ?_)
      · rw [if_neg c8] at h
        refine v_iload hC dX9_wordOf_55 rfl ?_
        refine v_iload_n hC dX9_wordOf_57 rfl ?_
        refine v_icmp_ge hC 79 dX9_wordOf_58 rfl (fun c9 => ?_) (fun c9 => ?_)
        · rw [if_pos c9] at h
          refine v_drop [false, true, true, true, true, false, true, false] [none, some (.ref 1), some (.int v2), some (.int v3), some (.int v4), none, some (.int v6), none] rfl ?_
          exact ok_X9_wordOf_79 hC hnt (fun v2 v3 v4 v5 v6 M r M' h => ih v2 v3 v4 v5 v6 M r M' h) h
        · rw [if_neg c9] at h
          refine v_aload_n hC dX9_wordOf_61 rfl ?_
          refine v_iload hC dX9_wordOf_62 rfl ?_
          obtain ⟨r11, M12, q13, h⟩ := bnd_some h
          refine w_callVi hC [.int v5] [] (ok_X8_byteAt q13) mv_X8_byteAt aw_592 ly_1 rfl (Nat.le_of_ble_eq_true rfl) ⟨by decide, by decide⟩ ⟨by decide, by decide⟩ dX9_wordOf_64 ?_
          refine v_iload hC dX9_wordOf_67 rfl ?_
          refine v_icmp_ne hC 79 dX9_wordOf_69 rfl (fun c14 => ?_) (fun c14 => ?_)
          · rw [if_neg c14] at h
            refine v_drop [false, true, true, true, true, false, true, false] [none, some (.ref 1), some (.int v2), some (.int v3), some (.int v4), none, some (.int v6), none] rfl ?_
            exact ok_X9_wordOf_79 hC hnt (fun v2 v3 v4 v5 v6 M r M' h => ih v2 v3 v4 v5 v6 M r M' h) h
          · rw [if_pos c14] at h
            refine v_iload hC dX9_wordOf_72 rfl ?_
            refine v_iconst (v := (1 : Int32)) hC dX9_wordOf_74 rfl ?_
            refine v_iadd hC dX9_wordOf_75 ?_
            refine v_goto (tg := 82) hC dX9_wordOf_76 rfl ?_
            refine v_drop [false, true, true, true, true, false, true, false] [none, some (.ref 1), some (.int v2), some (.int v3), some (.int v4), none, some (.int v6), none] rfl ?_
            exact ok_X9_wordOf_82 hC hnt (fun v2 v3 v4 v5 v6 M r M' h => ih v2 v3 v4 v5 v6 M r M' h) h
      · rw [if_pos c8] at h
        refine v_iload hC dX9_wordOf_37 rfl ?_
        refine v_iload_n hC dX9_wordOf_39 rfl ?_
        refine v_icmp_ne hC 46 dX9_wordOf_40 rfl (fun c15 => ?_) (fun c15 => ?_)
        · rw [if_neg c15] at h
          refine w_iinc hC (v4 + (1 : Int32)) dX9_wordOf_46 rfl rfl [none, some (.ref 1), some (.int v2), some (.int v3), some (.int (v4 + (1 : Int32))), some (.int v5), some (.int v6), some (.int r5)] rfl ?_
          refine v_iload_n hC dX9_wordOf_49 rfl ?_
          refine w_istore hC dX9_wordOf_50 (ltk rfl) [none, some (.ref 1), some (.int v2), some (.int v3), some (.int (v4 + (1 : Int32))), some (.int v2), some (.int v6), some (.int r5)] rfl ?_
          refine v_goto (tg := 84) hC dX9_wordOf_52 rfl ?_
          refine w_iinc hC (v6 + (1 : Int32)) dX9_wordOf_84 rfl rfl [none, some (.ref 1), some (.int v2), some (.int v3), some (.int (v4 + (1 : Int32))), some (.int v2), some (.int (v6 + (1 : Int32))), some (.int r5)] rfl ?_
          refine v_goto (tg := 11) hC dX9_wordOf_87 rfl ?_
          refine v_drop [false, true, true, true, true, true, true, false] [none, some (.ref 1), some (.int v2), some (.int v3), some (.int (v4 + (1 : Int32))), some (.int v2), some (.int (v6 + (1 : Int32))), none] rfl ?_
          exact ih _ _ _ _ _ _ _ _ h
        · rw [if_pos c15] at h
          refine v_iload hC dX9_wordOf_43 rfl ?_
          cases h
          exact v_iret hC (by decide) (by decide) dX9_wordOf_45
set_option maxRecDepth 20000 in
set_option maxHeartbeats 4000000 in
theorem ok_X9_wordOf {l : Launch} {N : Nat} {v2 v3 : Int32} {M : Mm} {r : Int32} {M' : Mm} (h : f_X9_wordOf N v2 v3 M = some (r, M')) : am_M l yX9_wordOf cX9_wordOf 8 (some .int) 5 0 0 LY M [.ref 3, .ref 1, .int v2, .int v3] (.inl (some (.int r))) M' := by
  unfold f_X9_wordOf at h
  refine am_intro (by decide) (by simp [Value.category]) (Nat.le_of_ble_eq_true rfl) (fun X hC hnt => ?_)
  refine am_start (L := [some (.ref 3), some (.ref 1), some (.int v2), some (.int v3), none, none, none, none]) rfl ?_
  refine v_sipush (v := (256 : Int32)) hC dX9_wordOf_0 rfl ?_
  refine w_istore hC dX9_wordOf_3 (ltk rfl) [some (.ref 3), some (.ref 1), some (.int v2), some (.int v3), some (.int (256 : Int32)), none, none, none] rfl ?_
  refine v_iload_n hC dX9_wordOf_5 rfl ?_
  refine w_istore hC dX9_wordOf_6 (ltk rfl) [some (.ref 3), some (.ref 1), some (.int v2), some (.int v3), some (.int (256 : Int32)), some (.int v2), none, none] rfl ?_
  refine v_iconst (v := (0 : Int32)) hC dX9_wordOf_8 rfl ?_
  refine w_istore hC dX9_wordOf_9 (ltk rfl) [some (.ref 3), some (.ref 1), some (.int v2), some (.int v3), some (.int (256 : Int32)), some (.int v2), some (.int (0 : Int32)), none] rfl ?_
  refine v_drop [false, true, true, true, true, true, true, false] [none, some (.ref 1), some (.int v2), some (.int v3), some (.int (256 : Int32)), some (.int v2), some (.int (0 : Int32)), none] rfl ?_
  exact ok_X9_wordOf_11 hC hnt N _ _ _ _ _ _ _ _ h
def f_X9_cutsWord_73 (N : Nat) (v2 : Int32) (v3 : Int32) (M : Mm) : Option (Int32 × Mm) :=
  bnd (f_X9_wordOf N v2 v3 M) (fun r7 M8 => bnd (f_X9_adds N r7 v2 (0 : Int32) M8) (fun r10 M11 => some (v3, M11)))
def f_X9_cutsWord_36 (N : Nat) (v2 : Int32) (v3 : Int32) (M : Mm) : Option (Int32 × Mm) :=
  bnd (f_X8_byteAt N v2 M) (fun r2 M3 => lt (r2 - (97 : Int32)) (fun x5 => (if v3 = (v2 + (1 : Int32)) then (if (6 : Int32) ≤ x5 then f_X9_cutsWord_73 N v2 v3 M3 else bnd (f_X9_adds N (300 : Int32) v2 x5 M3) (fun r14 M15 => some (v3, M15))) else f_X9_cutsWord_73 N v2 v3 M3)))
def f_X9_cutsWord_2 (N : Nat) : Nat → Int32 → Int32 → Mm → Option (Int32 × Mm)
  | 0, _, _, _ => none
  | n + 1, v2, v3, M => (if (M 1 1) ≤ v3 then f_X9_cutsWord_36 N v2 v3 M else bnd (f_X8_byteAt N v3 M) (fun r17 M18 => (if r17 < (97 : Int32) then f_X9_cutsWord_36 N v2 v3 M18 else bnd (f_X8_byteAt N v3 M18) (fun r21 M22 => (if (122 : Int32) < r21 then f_X9_cutsWord_36 N v2 v3 M22 else f_X9_cutsWord_2 N n v2 (v3 + (1 : Int32)) M22)))))
def f_X9_cutsWord (N : Nat) (v2 : Int32) (M : Mm) : Option (Int32 × Mm) :=
  f_X9_cutsWord_2 N N v2 v2 M
set_option maxRecDepth 20000 in
set_option maxHeartbeats 4000000 in
theorem ok_X9_cutsWord_73 {N : Nat} {X : am_X} {l : Launch} (hC : am_C X l (am_rm 6 0 0) cX9_cutsWord yX9_cutsWord.cls (some .int)) (hnt : am_NT X) {v2 v3 : Int32} {M : Mm} {r : Int32} {M' : Mm} (h : f_X9_cutsWord_73 N v2 v3 M = some (r, M')) : am_V X LY M 0 0 (am_Q X LY 0 0 (.inl (some (.int r))) M') 73 [some (.ref 3), some (.ref 1), some (.int v2), some (.int v3), none] [] := by
  unfold f_X9_cutsWord_73 at h
  refine v_aload_n hC dX9_cutsWord_73 rfl ?_
  refine v_aload_n hC dX9_cutsWord_74 rfl ?_
  refine v_aload_n hC dX9_cutsWord_75 rfl ?_
  refine v_iload_n hC dX9_cutsWord_76 rfl ?_
  refine v_iload_n hC dX9_cutsWord_77 rfl ?_
  obtain ⟨r7, M8, q9, h⟩ := bnd_some h
  refine w_callVi hC [.ref 1, .int v2, .int v3] [.ref 3] (ok_X9_wordOf q9) mv_X9_wordOf aw_604 ly_3 rfl (Nat.le_of_ble_eq_true rfl) ⟨by decide, by decide⟩ ⟨by decide, by decide⟩ dX9_cutsWord_78 ?_
  refine v_iload_n hC dX9_cutsWord_81 rfl ?_
  refine v_iconst (v := (0 : Int32)) hC dX9_cutsWord_82 rfl ?_
  obtain ⟨r10, M11, q12, h⟩ := bnd_some h
  refine w_callVv hC [.int r7, .int v2, .int (0 : Int32)] [] (ok_X9_adds q12) mv_X9_adds aw_600 ly_3 rfl (Nat.le_of_ble_eq_true rfl) ⟨by decide, by decide⟩ ⟨by decide, by decide⟩ dX9_cutsWord_83 ?_
  refine v_iload_n hC dX9_cutsWord_86 rfl ?_
  cases h
  exact v_iret hC (by decide) (by decide) dX9_cutsWord_87
set_option maxRecDepth 20000 in
set_option maxHeartbeats 4000000 in
theorem ok_X9_cutsWord_36 {N : Nat} {X : am_X} {l : Launch} (hC : am_C X l (am_rm 6 0 0) cX9_cutsWord yX9_cutsWord.cls (some .int)) (hnt : am_NT X) {v2 v3 : Int32} {M : Mm} {r : Int32} {M' : Mm} (h : f_X9_cutsWord_36 N v2 v3 M = some (r, M')) : am_V X LY M 0 0 (am_Q X LY 0 0 (.inl (some (.int r))) M') 36 [some (.ref 3), some (.ref 1), some (.int v2), some (.int v3), none] [] := by
  unfold f_X9_cutsWord_36 at h
  refine v_aload_n hC dX9_cutsWord_36 rfl ?_
  refine v_iload_n hC dX9_cutsWord_37 rfl ?_
  obtain ⟨r2, M3, q4, h⟩ := bnd_some h
  refine w_callVi hC [.int v2] [] (ok_X8_byteAt q4) mv_X8_byteAt aw_592 ly_1 rfl (Nat.le_of_ble_eq_true rfl) ⟨by decide, by decide⟩ ⟨by decide, by decide⟩ dX9_cutsWord_38 ?_
  refine v_bipush (v := (97 : Int32)) hC dX9_cutsWord_41 rfl ?_
  refine v_isub hC dX9_cutsWord_43 ?_
  obtain ⟨x5, e_x5, h⟩ := lt_some h
  refine v_nam e_x5 ?_
  refine w_istore hC dX9_cutsWord_44 (ltk rfl) [some (.ref 3), some (.ref 1), some (.int v2), some (.int v3), some (.int x5)] rfl ?_
  refine v_iload_n hC dX9_cutsWord_46 rfl ?_
  refine v_iload_n hC dX9_cutsWord_47 rfl ?_
  refine v_iconst (v := (1 : Int32)) hC dX9_cutsWord_48 rfl ?_
  refine v_iadd hC dX9_cutsWord_49 ?_
  refine v_icmp_ne hC 73 dX9_cutsWord_50 rfl (fun c6 => ?_) (fun c6 => ?_)
  · rw [if_neg c6] at h
    refine v_drop [true, true, true, true, false] [some (.ref 3), some (.ref 1), some (.int v2), some (.int v3), none] rfl ?_
    exact ok_X9_cutsWord_73 hC hnt h
  · rw [if_pos c6] at h
    refine v_iload hC dX9_cutsWord_53 rfl ?_
    refine v_bipush (v := (6 : Int32)) hC dX9_cutsWord_55 rfl ?_
    refine v_icmp_ge hC 73 dX9_cutsWord_57 rfl (fun c13 => ?_) (fun c13 => ?_)
    · rw [if_pos c13] at h
      refine v_drop [true, true, true, true, false] [some (.ref 3), some (.ref 1), some (.int v2), some (.int v3), none] rfl ?_
      exact ok_X9_cutsWord_73 hC hnt h
    · rw [if_neg c13] at h
      refine v_aload_n hC dX9_cutsWord_60 rfl ?_
      refine v_sipush (v := (300 : Int32)) hC dX9_cutsWord_61 rfl ?_
      refine v_iload_n hC dX9_cutsWord_64 rfl ?_
      refine v_iload hC dX9_cutsWord_65 rfl ?_
      obtain ⟨r14, M15, q16, h⟩ := bnd_some h
      refine w_callVv hC [.int (300 : Int32), .int v2, .int x5] [] (ok_X9_adds q16) mv_X9_adds aw_600 ly_3 rfl (Nat.le_of_ble_eq_true rfl) ⟨by decide, by decide⟩ ⟨by decide, by decide⟩ dX9_cutsWord_67 ?_
      refine v_goto (tg := 86) hC dX9_cutsWord_70 rfl ?_
      refine v_iload_n hC dX9_cutsWord_86 rfl ?_
      cases h
      exact v_iret hC (by decide) (by decide) dX9_cutsWord_87
set_option maxRecDepth 20000 in
set_option maxHeartbeats 4000000 in
theorem ok_X9_cutsWord_2 {N : Nat} {X : am_X} {l : Launch} (hC : am_C X l (am_rm 6 0 0) cX9_cutsWord yX9_cutsWord.cls (some .int)) (hnt : am_NT X) : ∀ (n : Nat) (v2 v3 : Int32) (M : Mm) (r : Int32) (M' : Mm), f_X9_cutsWord_2 N n v2 v3 M = some (r, M') → am_V X LY M 0 0 (am_Q X LY 0 0 (.inl (some (.int r))) M') 2 [some (.ref 3), some (.ref 1), some (.int v2), some (.int v3), none] [] := by
  intro n
  induction n with
  | zero => intro v2 v3 M r M' h; cases h
  | succ n ih =>
    intro v2 v3 M r M' h
    simp only [f_X9_cutsWord_2] at h
    refine v_iload_n hC dX9_cutsWord_2 rfl ?_
    refine v_aload_n hC dX9_cutsWord_3 rfl ?_
    refine v_geti (k := 1) hC cls_X8 ly_1 (by decide) rfl aw_46 rfl dX9_cutsWord_4 ?_
    refine v_icmp_ge hC 36 dX9_cutsWord_7 rfl (fun c1 => ?_) (fun c1 => ?_)
    · rw [if_pos c1] at h
      exact ok_X9_cutsWord_36 hC hnt h
    · rw [if_neg c1] at h
      refine v_aload_n hC dX9_cutsWord_10 rfl ?_
      refine v_iload_n hC dX9_cutsWord_11 rfl ?_
      obtain ⟨r17, M18, q19, h⟩ := bnd_some h
      refine w_callVi hC [.int v3] [] (ok_X8_byteAt q19) mv_X8_byteAt aw_592 ly_1 rfl (Nat.le_of_ble_eq_true rfl) ⟨by decide, by decide⟩ ⟨by decide, by decide⟩ dX9_cutsWord_12 ?_
      refine v_bipush (v := (97 : Int32)) hC dX9_cutsWord_15 rfl ?_
      refine v_icmp_lt hC 36 dX9_cutsWord_17 rfl (fun c20 => ?_) (fun c20 => ?_)
      · rw [if_pos c20] at h
        exact ok_X9_cutsWord_36 hC hnt h
      · rw [if_neg c20] at h
        refine v_aload_n hC dX9_cutsWord_20 rfl ?_
        refine v_iload_n hC dX9_cutsWord_21 rfl ?_
        obtain ⟨r21, M22, q23, h⟩ := bnd_some h
        refine w_callVi hC [.int v3] [] (ok_X8_byteAt q23) mv_X8_byteAt aw_592 ly_1 rfl (Nat.le_of_ble_eq_true rfl) ⟨by decide, by decide⟩ ⟨by decide, by decide⟩ dX9_cutsWord_22 ?_
        refine v_bipush (v := (122 : Int32)) hC dX9_cutsWord_25 rfl ?_
        refine v_icmp_gt hC 36 dX9_cutsWord_27 rfl (fun c24 => ?_) (fun c24 => ?_)
        · rw [if_pos c24] at h
          exact ok_X9_cutsWord_36 hC hnt h
        · rw [if_neg c24] at h
          refine w_iinc hC (v3 + (1 : Int32)) dX9_cutsWord_30 rfl rfl [some (.ref 3), some (.ref 1), some (.int v2), some (.int (v3 + (1 : Int32))), none] rfl ?_
          refine v_goto (tg := 2) hC dX9_cutsWord_33 rfl ?_
          exact ih _ _ _ _ _ h
set_option maxRecDepth 20000 in
set_option maxHeartbeats 4000000 in
theorem ok_X9_cutsWord {l : Launch} {N : Nat} {v2 : Int32} {M : Mm} {r : Int32} {M' : Mm} (h : f_X9_cutsWord N v2 M = some (r, M')) : am_M l yX9_cutsWord cX9_cutsWord 5 (some .int) 6 0 0 LY M [.ref 3, .ref 1, .int v2] (.inl (some (.int r))) M' := by
  unfold f_X9_cutsWord at h
  refine am_intro (by decide) (by simp [Value.category]) (Nat.le_of_ble_eq_true rfl) (fun X hC hnt => ?_)
  refine am_start (L := [some (.ref 3), some (.ref 1), some (.int v2), none, none]) rfl ?_
  refine v_iload_n hC dX9_cutsWord_0 rfl ?_
  refine w_istore_n hC dX9_cutsWord_1 (ltk rfl) [some (.ref 3), some (.ref 1), some (.int v2), some (.int v2), none] rfl ?_
  exact ok_X9_cutsWord_2 hC hnt N _ _ _ _ _ h
def f_X9_cutsOne_44 (N : Nat) (v2 : Int32) (v3 : Int32) (M : Mm) : Option (Int32 × Mm) :=
  (if v3 = (32 : Int32) then some ((v2 + (1 : Int32)), M) else bnd (f_X9_adds N v3 v2 (0 : Int32) M) (fun r7 M8 => some ((v2 + (1 : Int32)), M8)))
def f_X9_cutsOne_25 (N : Nat) (v2 : Int32) (v3 : Int32) (M : Mm) : Option (Int32 × Mm) :=
  (if v3 < (48 : Int32) then f_X9_cutsOne_44 N v2 v3 M else (if (57 : Int32) < v3 then f_X9_cutsOne_44 N v2 v3 M else bnd (f_X9_cutsNumber N v2 M) (fun r11 M12 => some (r11, M12))))
def f_X9_cutsOne (N : Nat) (v2 : Int32) (M : Mm) : Option (Int32 × Mm) :=
  bnd (f_X8_byteAt N v2 M) (fun r1 M2 => (if r1 < (97 : Int32) then f_X9_cutsOne_25 N v2 r1 M2 else (if (122 : Int32) < r1 then f_X9_cutsOne_25 N v2 r1 M2 else bnd (f_X9_cutsWord N v2 M2) (fun r15 M16 => some (r15, M16)))))
set_option maxRecDepth 20000 in
set_option maxHeartbeats 4000000 in
theorem ok_X9_cutsOne_44 {N : Nat} {X : am_X} {l : Launch} (hC : am_C X l (am_rm 7 0 0) cX9_cutsOne yX9_cutsOne.cls (some .int)) (hnt : am_NT X) {v2 v3 : Int32} {M : Mm} {r : Int32} {M' : Mm} (h : f_X9_cutsOne_44 N v2 v3 M = some (r, M')) : am_V X LY M 0 0 (am_Q X LY 0 0 (.inl (some (.int r))) M') 44 [some (.ref 3), none, some (.int v2), some (.int v3)] [] := by
  unfold f_X9_cutsOne_44 at h
  refine v_iload_n hC dX9_cutsOne_44 rfl ?_
  refine v_bipush (v := (32 : Int32)) hC dX9_cutsOne_45 rfl ?_
  refine v_icmp_eq hC 57 dX9_cutsOne_47 rfl (fun c6 => ?_) (fun c6 => ?_)
  · rw [if_pos c6] at h
    refine v_iload_n hC dX9_cutsOne_57 rfl ?_
    refine v_iconst (v := (1 : Int32)) hC dX9_cutsOne_58 rfl ?_
    refine v_iadd hC dX9_cutsOne_59 ?_
    cases h
    exact v_iret hC (by decide) (by decide) dX9_cutsOne_60
  · rw [if_neg c6] at h
    refine v_aload_n hC dX9_cutsOne_50 rfl ?_
    refine v_iload_n hC dX9_cutsOne_51 rfl ?_
    refine v_iload_n hC dX9_cutsOne_52 rfl ?_
    refine v_iconst (v := (0 : Int32)) hC dX9_cutsOne_53 rfl ?_
    obtain ⟨r7, M8, q9, h⟩ := bnd_some h
    refine w_callVv hC [.int v3, .int v2, .int (0 : Int32)] [] (ok_X9_adds q9) mv_X9_adds aw_600 ly_3 rfl (Nat.le_of_ble_eq_true rfl) ⟨by decide, by decide⟩ ⟨by decide, by decide⟩ dX9_cutsOne_54 ?_
    refine v_iload_n hC dX9_cutsOne_57 rfl ?_
    refine v_iconst (v := (1 : Int32)) hC dX9_cutsOne_58 rfl ?_
    refine v_iadd hC dX9_cutsOne_59 ?_
    cases h
    exact v_iret hC (by decide) (by decide) dX9_cutsOne_60
set_option maxRecDepth 20000 in
set_option maxHeartbeats 4000000 in
theorem ok_X9_cutsOne_25 {N : Nat} {X : am_X} {l : Launch} (hC : am_C X l (am_rm 7 0 0) cX9_cutsOne yX9_cutsOne.cls (some .int)) (hnt : am_NT X) {v2 v3 : Int32} {M : Mm} {r : Int32} {M' : Mm} (h : f_X9_cutsOne_25 N v2 v3 M = some (r, M')) : am_V X LY M 0 0 (am_Q X LY 0 0 (.inl (some (.int r))) M') 25 [some (.ref 3), some (.ref 1), some (.int v2), some (.int v3)] [] := by
  unfold f_X9_cutsOne_25 at h
  refine v_iload_n hC dX9_cutsOne_25 rfl ?_
  refine v_bipush (v := (48 : Int32)) hC dX9_cutsOne_26 rfl ?_
  refine v_icmp_lt hC 44 dX9_cutsOne_28 rfl (fun c5 => ?_) (fun c5 => ?_)
  · rw [if_pos c5] at h
    refine v_drop [true, false, true, true] [some (.ref 3), none, some (.int v2), some (.int v3)] rfl ?_
    exact ok_X9_cutsOne_44 hC hnt h
  · rw [if_neg c5] at h
    refine v_iload_n hC dX9_cutsOne_31 rfl ?_
    refine v_bipush (v := (57 : Int32)) hC dX9_cutsOne_32 rfl ?_
    refine v_icmp_gt hC 44 dX9_cutsOne_34 rfl (fun c10 => ?_) (fun c10 => ?_)
    · rw [if_pos c10] at h
      refine v_drop [true, false, true, true] [some (.ref 3), none, some (.int v2), some (.int v3)] rfl ?_
      exact ok_X9_cutsOne_44 hC hnt h
    · rw [if_neg c10] at h
      refine v_aload_n hC dX9_cutsOne_37 rfl ?_
      refine v_aload_n hC dX9_cutsOne_38 rfl ?_
      refine v_iload_n hC dX9_cutsOne_39 rfl ?_
      obtain ⟨r11, M12, q13, h⟩ := bnd_some h
      refine w_callVi hC [.ref 1, .int v2] [] (ok_X9_cutsNumber q13) mv_X9_cutsNumber aw_657 ly_3 rfl (Nat.le_of_ble_eq_true rfl) ⟨by decide, by decide⟩ ⟨by decide, by decide⟩ dX9_cutsOne_40 ?_
      cases h
      exact v_iret hC (by decide) (by decide) dX9_cutsOne_43
set_option maxRecDepth 20000 in
set_option maxHeartbeats 4000000 in
theorem ok_X9_cutsOne {l : Launch} {N : Nat} {v2 : Int32} {M : Mm} {r : Int32} {M' : Mm} (h : f_X9_cutsOne N v2 M = some (r, M')) : am_M l yX9_cutsOne cX9_cutsOne 4 (some .int) 7 0 0 LY M [.ref 3, .ref 1, .int v2] (.inl (some (.int r))) M' := by
  unfold f_X9_cutsOne at h
  refine am_intro (by decide) (by simp [Value.category]) (Nat.le_of_ble_eq_true rfl) (fun X hC hnt => ?_)
  refine am_start (L := [some (.ref 3), some (.ref 1), some (.int v2), none]) rfl ?_
  refine v_aload_n hC dX9_cutsOne_0 rfl ?_
  refine v_iload_n hC dX9_cutsOne_1 rfl ?_
  obtain ⟨r1, M2, q3, h⟩ := bnd_some h
  refine w_callVi hC [.int v2] [] (ok_X8_byteAt q3) mv_X8_byteAt aw_592 ly_1 rfl (Nat.le_of_ble_eq_true rfl) ⟨by decide, by decide⟩ ⟨by decide, by decide⟩ dX9_cutsOne_2 ?_
  refine w_istore_n hC dX9_cutsOne_5 (ltk rfl) [some (.ref 3), some (.ref 1), some (.int v2), some (.int r1)] rfl ?_
  refine v_iload_n hC dX9_cutsOne_6 rfl ?_
  refine v_bipush (v := (97 : Int32)) hC dX9_cutsOne_7 rfl ?_
  refine v_icmp_lt hC 25 dX9_cutsOne_9 rfl (fun c4 => ?_) (fun c4 => ?_)
  · rw [if_pos c4] at h
    exact ok_X9_cutsOne_25 hC hnt h
  · rw [if_neg c4] at h
    refine v_iload_n hC dX9_cutsOne_12 rfl ?_
    refine v_bipush (v := (122 : Int32)) hC dX9_cutsOne_13 rfl ?_
    refine v_icmp_gt hC 25 dX9_cutsOne_15 rfl (fun c14 => ?_) (fun c14 => ?_)
    · rw [if_pos c14] at h
      exact ok_X9_cutsOne_25 hC hnt h
    · rw [if_neg c14] at h
      refine v_aload_n hC dX9_cutsOne_18 rfl ?_
      refine v_aload_n hC dX9_cutsOne_19 rfl ?_
      refine v_iload_n hC dX9_cutsOne_20 rfl ?_
      obtain ⟨r15, M16, q17, h⟩ := bnd_some h
      refine w_callVi hC [.ref 1, .int v2] [] (ok_X9_cutsWord q17) mv_X9_cutsWord aw_596 ly_3 rfl (Nat.le_of_ble_eq_true rfl) ⟨by decide, by decide⟩ ⟨by decide, by decide⟩ dX9_cutsOne_21 ?_
      cases h
      exact v_iret hC (by decide) (by decide) dX9_cutsOne_24
def f_X9_cuts_42 (N : Nat) (M : Mm) : Option (Int32 × Mm) :=
  bnd (f_X9_adds N (303 : Int32) (M 1 1) (0 : Int32) M) (fun r4 M5 => some (0, M5))
def f_X9_cuts_14 (N : Nat) : Nat → Int32 → Int32 → Mm → Option (Int32 × Mm)
  | 0, _, _, _ => none
  | n + 1, v2, v3, M => (if (400 : Int32) ≤ v3 then f_X9_cuts_42 N M else (if (M 1 1) ≤ v2 then f_X9_cuts_42 N M else bnd (f_X9_cutsOne N v2 M) (fun r8 M9 => f_X9_cuts_14 N n r8 (v3 + (1 : Int32)) M9)))
def f_X9_cuts (N : Nat) (M : Mm) : Option (Int32 × Mm) :=
  lt (wr M 3 3 (0 : Int32)) (fun M1 => lt (wr M1 3 4 (0 : Int32)) (fun M2 => f_X9_cuts_14 N N (0 : Int32) (0 : Int32) M2))
set_option maxRecDepth 20000 in
set_option maxHeartbeats 4000000 in
theorem ok_X9_cuts_42 {N : Nat} {X : am_X} {l : Launch} (hC : am_C X l (am_rm 8 0 0) cX9_cuts yX9_cuts.cls none) (hnt : am_NT X) {M : Mm} {r : Int32} {M' : Mm} (h : f_X9_cuts_42 N M = some (r, M')) : am_V X LY M 0 0 (am_Q X LY 0 0 (.inl none) M') 42 [some (.ref 3), some (.ref 1), none, none] [] := by
  unfold f_X9_cuts_42 at h
  refine v_aload_n hC dX9_cuts_42 rfl ?_
  refine v_sipush (v := (303 : Int32)) hC dX9_cuts_43 rfl ?_
  refine v_aload_n hC dX9_cuts_46 rfl ?_
  refine v_geti (k := 1) hC cls_X8 ly_1 (by decide) rfl aw_46 rfl dX9_cuts_47 ?_
  refine v_iconst (v := (0 : Int32)) hC dX9_cuts_50 rfl ?_
  obtain ⟨r4, M5, q6, h⟩ := bnd_some h
  refine w_callVv hC [.int (303 : Int32), .int (M 1 1), .int (0 : Int32)] [] (ok_X9_adds q6) mv_X9_adds aw_600 ly_3 rfl (Nat.le_of_ble_eq_true rfl) ⟨by decide, by decide⟩ ⟨by decide, by decide⟩ dX9_cuts_51 ?_
  cases h
  exact v_vret hC (by decide) (by decide) dX9_cuts_54
set_option maxRecDepth 20000 in
set_option maxHeartbeats 4000000 in
theorem ok_X9_cuts_14 {N : Nat} {X : am_X} {l : Launch} (hC : am_C X l (am_rm 8 0 0) cX9_cuts yX9_cuts.cls none) (hnt : am_NT X) : ∀ (n : Nat) (v2 v3 : Int32) (M : Mm) (r : Int32) (M' : Mm), f_X9_cuts_14 N n v2 v3 M = some (r, M') → am_V X LY M 0 0 (am_Q X LY 0 0 (.inl none) M') 14 [some (.ref 3), some (.ref 1), some (.int v2), some (.int v3)] [] := by
  intro n
  induction n with
  | zero => intro v2 v3 M r M' h; cases h
  | succ n ih =>
    intro v2 v3 M r M' h
    simp only [f_X9_cuts_14] at h
    refine v_iload_n hC dX9_cuts_14 rfl ?_
    refine v_sipush (v := (400 : Int32)) hC dX9_cuts_15 rfl ?_
    refine v_icmp_ge hC 42 dX9_cuts_18 rfl (fun c3 => ?_) (fun c3 => ?_)
    · rw [if_pos c3] at h
      refine v_drop [true, true, false, false] [some (.ref 3), some (.ref 1), none, none] rfl ?_
      exact ok_X9_cuts_42 hC hnt h
    · rw [if_neg c3] at h
      refine v_iload_n hC dX9_cuts_21 rfl ?_
      refine v_aload_n hC dX9_cuts_22 rfl ?_
      refine v_geti (k := 1) hC cls_X8 ly_1 (by decide) rfl aw_46 rfl dX9_cuts_23 ?_
      refine v_icmp_ge hC 42 dX9_cuts_26 rfl (fun c7 => ?_) (fun c7 => ?_)
      · rw [if_pos c7] at h
        refine v_drop [true, true, false, false] [some (.ref 3), some (.ref 1), none, none] rfl ?_
        exact ok_X9_cuts_42 hC hnt h
      · rw [if_neg c7] at h
        refine v_aload_n hC dX9_cuts_29 rfl ?_
        refine v_aload_n hC dX9_cuts_30 rfl ?_
        refine v_iload_n hC dX9_cuts_31 rfl ?_
        obtain ⟨r8, M9, q10, h⟩ := bnd_some h
        refine w_callVi hC [.ref 1, .int v2] [] (ok_X9_cutsOne q10) mv_X9_cutsOne aw_588 ly_3 rfl (Nat.le_of_ble_eq_true rfl) ⟨by decide, by decide⟩ ⟨by decide, by decide⟩ dX9_cuts_32 ?_
        refine w_istore_n hC dX9_cuts_35 (ltk rfl) [some (.ref 3), some (.ref 1), some (.int r8), some (.int v3)] rfl ?_
        refine w_iinc hC (v3 + (1 : Int32)) dX9_cuts_36 rfl rfl [some (.ref 3), some (.ref 1), some (.int r8), some (.int (v3 + (1 : Int32)))] rfl ?_
        refine v_goto (tg := 14) hC dX9_cuts_39 rfl ?_
        exact ih _ _ _ _ _ h
set_option maxRecDepth 20000 in
set_option maxHeartbeats 4000000 in
theorem ok_X9_cuts {l : Launch} {N : Nat} {M : Mm} {r : Int32} {M' : Mm} (h : f_X9_cuts N M = some (r, M')) : am_M l yX9_cuts cX9_cuts 4 none 8 0 0 LY M [.ref 3, .ref 1] (.inl none) M' := by
  unfold f_X9_cuts at h
  refine am_intro (by decide) (by simp [Value.category]) (Nat.le_of_ble_eq_true rfl) (fun X hC hnt => ?_)
  refine am_start (L := [some (.ref 3), some (.ref 1), none, none]) rfl ?_
  refine v_aload_n hC dX9_cuts_0 rfl ?_
  refine v_iconst (v := (0 : Int32)) hC dX9_cuts_1 rfl ?_
  obtain ⟨M1, e_M1, h⟩ := lt_some h
  refine w_puti (k := 3) hC cls_X9 ly_3 (by decide) rfl aw_62 rfl rfl ⟨rfl, rfl⟩ dX9_cuts_2 e_M1 ?_
  refine v_aload_n hC dX9_cuts_5 rfl ?_
  refine v_iconst (v := (0 : Int32)) hC dX9_cuts_6 rfl ?_
  obtain ⟨M2, e_M2, h⟩ := lt_some h
  refine w_puti (k := 4) hC cls_X9 ly_3 (by decide) rfl aw_63 rfl rfl ⟨rfl, rfl⟩ dX9_cuts_7 e_M2 ?_
  refine v_iconst (v := (0 : Int32)) hC dX9_cuts_10 rfl ?_
  refine w_istore_n hC dX9_cuts_11 (ltk rfl) [some (.ref 3), some (.ref 1), some (.int (0 : Int32)), none] rfl ?_
  refine v_iconst (v := (0 : Int32)) hC dX9_cuts_12 rfl ?_
  refine w_istore_n hC dX9_cuts_13 (ltk rfl) [some (.ref 3), some (.ref 1), some (.int (0 : Int32)), some (.int (0 : Int32))] rfl ?_
  exact ok_X9_cuts_14 hC hnt N _ _ _ _ _ h
def f_X9_begin_29 (N : Nat) (M : Mm) : Option (Int32 × Mm) :=
  some ((-1 : Int32), M)
def f_X9_begin (N : Nat) (M : Mm) : Option (Int32 × Mm) :=
  (if (M 3 4) < (0 : Int32) then f_X9_begin_29 N M else (if (400 : Int32) < (M 3 4) then f_X9_begin_29 N M else grd (inb (M 3 4) 401) (some ((M 5 ((M 3 4)).toNatClampNeg), M))))
set_option maxRecDepth 20000 in
set_option maxHeartbeats 4000000 in
theorem ok_X9_begin_29 {N : Nat} {X : am_X} {l : Launch} (hC : am_C X l (am_rm 1 0 0) cX9_begin yX9_begin.cls (some .int)) (hnt : am_NT X) {M : Mm} {r : Int32} {M' : Mm} (h : f_X9_begin_29 N M = some (r, M')) : am_V X LY M 0 0 (am_Q X LY 0 0 (.inl (some (.int r))) M') 29 [none] [] := by
  unfold f_X9_begin_29 at h
  refine v_iconst (v := (-1 : Int32)) hC dX9_begin_29 rfl ?_
  cases h
  exact v_iret hC (by decide) (by decide) dX9_begin_30
set_option maxRecDepth 20000 in
set_option maxHeartbeats 4000000 in
theorem ok_X9_begin {l : Launch} {N : Nat} {M : Mm} {r : Int32} {M' : Mm} (h : f_X9_begin N M = some (r, M')) : am_M l yX9_begin cX9_begin 1 (some .int) 1 0 0 LY M [.ref 3] (.inl (some (.int r))) M' := by
  unfold f_X9_begin at h
  refine am_intro (by decide) (by simp [Value.category]) (Nat.le_of_ble_eq_true rfl) (fun X hC hnt => ?_)
  refine am_start (L := [some (.ref 3)]) rfl ?_
  refine v_aload_n hC dX9_begin_0 rfl ?_
  refine v_geti (k := 4) hC cls_X9 ly_3 (by decide) rfl aw_63 rfl dX9_begin_1 ?_
  refine v_if_lt hC 29 dX9_begin_4 rfl (fun c1 => ?_) (fun c1 => ?_)
  · rw [if_pos c1] at h
    refine v_drop [false] [none] rfl ?_
    exact ok_X9_begin_29 hC hnt h
  · rw [if_neg c1] at h
    refine v_aload_n hC dX9_begin_7 rfl ?_
    refine v_geti (k := 4) hC cls_X9 ly_3 (by decide) rfl aw_63 rfl dX9_begin_8 ?_
    refine v_sipush (v := (400 : Int32)) hC dX9_begin_11 rfl ?_
    refine v_icmp_gt hC 29 dX9_begin_14 rfl (fun c2 => ?_) (fun c2 => ?_)
    · rw [if_pos c2] at h
      refine v_drop [false] [none] rfl ?_
      exact ok_X9_begin_29 hC hnt h
    · rw [if_neg c2] at h
      refine v_aload_n hC dX9_begin_17 rfl ?_
      refine v_geta (k := 1) (b := 5) hC cls_X9 ly_3 (by decide) rfl aw_60 rfl dX9_begin_18 ?_
      refine v_aload_n hC dX9_begin_21 rfl ?_
      refine v_geti (k := 4) hC cls_X9 ly_3 (by decide) rfl aw_63 rfl dX9_begin_22 ?_
      obtain ⟨g3, h⟩ := grd_some h
      refine v_iald hC ly_5 (inb_in g3) dX9_begin_25 ?_
      refine v_goto (tg := 30) hC dX9_begin_26 rfl ?_
      cases h
      exact v_iret hC (by decide) (by decide) dX9_begin_30
def f_X10_feed (N : Nat) (v1 : Int32) (v2 : Int32) (v3 : Int32) (v4 : Int32) (v5 : Int32) (M : Mm) : Option (Int32 × Mm) :=
  (if ((M 1 1) + (20 : Int32)) ≤ (400 : Int32) then bnd (f_X8_adds N v1 M) (fun r2 M3 => bnd (f_X8_adds N v2 M3) (fun r5 M6 => bnd (f_X8_adds N v3 M6) (fun r8 M9 => bnd (f_X8_adds N v4 M9) (fun r11 M12 => bnd (f_X8_adds N v5 M12) (fun r14 M15 => some ((M15 1 1), M15)))))) else some ((-1 : Int32), M))
set_option maxRecDepth 20000 in
set_option maxHeartbeats 4000000 in
theorem ok_X10_feed {l : Launch} {N : Nat} {v1 v2 v3 v4 v5 : Int32} {M : Mm} {r : Int32} {M' : Mm} (h : f_X10_feed N v1 v2 v3 v4 v5 M = some (r, M')) : am_M l yX10_feed cX10_feed 6 (some .int) 2 0 0 LY M [.ref 0, .int v1, .int v2, .int v3, .int v4, .int v5] (.inl (some (.int r))) M' := by
  unfold f_X10_feed at h
  refine am_intro (by decide) (by simp [Value.category]) (Nat.le_of_ble_eq_true rfl) (fun X hC hnt => ?_)
  refine am_start (L := [some (.ref 0), some (.int v1), some (.int v2), some (.int v3), some (.int v4), some (.int v5)]) rfl ?_
  refine v_aload_n hC dX10_feed_0 rfl ?_
  refine v_geta (k := 0) (b := 1) hC cls_X10 ly_0 (by decide) rfl aw_315 rfl dX10_feed_1 ?_
  refine v_geti (k := 1) hC cls_X8 ly_1 (by decide) rfl aw_45 rfl dX10_feed_4 ?_
  refine v_bipush (v := (20 : Int32)) hC dX10_feed_7 rfl ?_
  refine v_iadd hC dX10_feed_9 ?_
  refine v_sipush (v := (400 : Int32)) hC dX10_feed_10 rfl ?_
  refine v_icmp_le hC 18 dX10_feed_13 rfl (fun c1 => ?_) (fun c1 => ?_)
  · rw [if_pos c1] at h
    refine v_aload_n hC dX10_feed_18 rfl ?_
    refine v_geta (k := 0) (b := 1) hC cls_X10 ly_0 (by decide) rfl aw_315 rfl dX10_feed_19 ?_
    refine v_iload_n hC dX10_feed_22 rfl ?_
    obtain ⟨r2, M3, q4, h⟩ := bnd_some h
    refine w_callVv hC [.int v1] [] (ok_X8_adds q4) mv_X8_adds aw_377 ly_1 rfl (Nat.le_of_ble_eq_true rfl) ⟨by decide, by decide⟩ ⟨by decide, by decide⟩ dX10_feed_23 ?_
    refine v_aload_n hC dX10_feed_26 rfl ?_
    refine v_geta (k := 0) (b := 1) hC cls_X10 ly_0 (by decide) rfl aw_315 rfl dX10_feed_27 ?_
    refine v_iload_n hC dX10_feed_30 rfl ?_
    obtain ⟨r5, M6, q7, h⟩ := bnd_some h
    refine w_callVv hC [.int v2] [] (ok_X8_adds q7) mv_X8_adds aw_377 ly_1 rfl (Nat.le_of_ble_eq_true rfl) ⟨by decide, by decide⟩ ⟨by decide, by decide⟩ dX10_feed_31 ?_
    refine v_aload_n hC dX10_feed_34 rfl ?_
    refine v_geta (k := 0) (b := 1) hC cls_X10 ly_0 (by decide) rfl aw_315 rfl dX10_feed_35 ?_
    refine v_iload_n hC dX10_feed_38 rfl ?_
    obtain ⟨r8, M9, q10, h⟩ := bnd_some h
    refine w_callVv hC [.int v3] [] (ok_X8_adds q10) mv_X8_adds aw_377 ly_1 rfl (Nat.le_of_ble_eq_true rfl) ⟨by decide, by decide⟩ ⟨by decide, by decide⟩ dX10_feed_39 ?_
    refine v_aload_n hC dX10_feed_42 rfl ?_
    refine v_geta (k := 0) (b := 1) hC cls_X10 ly_0 (by decide) rfl aw_315 rfl dX10_feed_43 ?_
    refine v_iload hC dX10_feed_46 rfl ?_
    obtain ⟨r11, M12, q13, h⟩ := bnd_some h
    refine w_callVv hC [.int v4] [] (ok_X8_adds q13) mv_X8_adds aw_377 ly_1 rfl (Nat.le_of_ble_eq_true rfl) ⟨by decide, by decide⟩ ⟨by decide, by decide⟩ dX10_feed_48 ?_
    refine v_aload_n hC dX10_feed_51 rfl ?_
    refine v_geta (k := 0) (b := 1) hC cls_X10 ly_0 (by decide) rfl aw_315 rfl dX10_feed_52 ?_
    refine v_iload hC dX10_feed_55 rfl ?_
    obtain ⟨r14, M15, q16, h⟩ := bnd_some h
    refine w_callVv hC [.int v5] [] (ok_X8_adds q16) mv_X8_adds aw_377 ly_1 rfl (Nat.le_of_ble_eq_true rfl) ⟨by decide, by decide⟩ ⟨by decide, by decide⟩ dX10_feed_57 ?_
    refine v_aload_n hC dX10_feed_60 rfl ?_
    refine v_geta (k := 0) (b := 1) hC cls_X10 ly_0 (by decide) rfl aw_315 rfl dX10_feed_61 ?_
    refine v_geti (k := 1) hC cls_X8 ly_1 (by decide) rfl aw_45 rfl dX10_feed_64 ?_
    cases h
    exact v_iret hC (by decide) (by decide) dX10_feed_67
  · rw [if_neg c1] at h
    refine v_iconst (v := (-1 : Int32)) hC dX10_feed_16 rfl ?_
    cases h
    exact v_iret hC (by decide) (by decide) dX10_feed_17
def f_X10_end (N : Nat) (v1 : Int32) (M : Mm) : Option (Int32 × Mm) :=
  (if v1 < (0 : Int32) then some ((0 : Int32), M) else (if v1 ≤ (M 1 1) then lt (wr M 1 1 v1) (fun M3 => some ((1 : Int32), M3)) else some ((0 : Int32), M)))
set_option maxRecDepth 20000 in
set_option maxHeartbeats 4000000 in
theorem ok_X10_end {l : Launch} {N : Nat} {v1 : Int32} {M : Mm} {r : Int32} {M' : Mm} (h : f_X10_end N v1 M = some (r, M')) : am_M l yX10_end cX10_end 2 (some .boolean) 1 0 0 LY M [.ref 0, .int v1] (.inl (some (.int r))) M' := by
  unfold f_X10_end at h
  refine am_intro (by decide) (by simp [Value.category]) (Nat.le_of_ble_eq_true rfl) (fun X hC hnt => ?_)
  refine am_start (L := [some (.ref 0), some (.int v1)]) rfl ?_
  refine v_iload_n hC dX10_end_0 rfl ?_
  refine v_if_lt hC 15 dX10_end_1 rfl (fun c1 => ?_) (fun c1 => ?_)
  · rw [if_pos c1] at h
    refine v_iconst (v := (0 : Int32)) hC dX10_end_15 rfl ?_
    cases h
    exact v_zret hC (by decide) (by decide) (by decide) dX10_end_16
  · rw [if_neg c1] at h
    refine v_iload_n hC dX10_end_4 rfl ?_
    refine v_aload_n hC dX10_end_5 rfl ?_
    refine v_geta (k := 0) (b := 1) hC cls_X10 ly_0 (by decide) rfl aw_315 rfl dX10_end_6 ?_
    refine v_geti (k := 1) hC cls_X8 ly_1 (by decide) rfl aw_45 rfl dX10_end_9 ?_
    refine v_icmp_le hC 17 dX10_end_12 rfl (fun c2 => ?_) (fun c2 => ?_)
    · rw [if_pos c2] at h
      refine v_aload_n hC dX10_end_17 rfl ?_
      refine v_geta (k := 0) (b := 1) hC cls_X10 ly_0 (by decide) rfl aw_315 rfl dX10_end_18 ?_
      refine v_iload_n hC dX10_end_21 rfl ?_
      obtain ⟨M3, e_M3, h⟩ := lt_some h
      refine w_puti (k := 1) hC cls_X8 ly_1 (by decide) rfl aw_45 rfl rfl ⟨rfl, rfl⟩ dX10_end_22 e_M3 ?_
      refine v_iconst (v := (1 : Int32)) hC dX10_end_25 rfl ?_
      cases h
      exact v_zret hC (by decide) (by decide) (by decide) dX10_end_26
    · rw [if_neg c2] at h
      refine v_iconst (v := (0 : Int32)) hC dX10_end_15 rfl ?_
      cases h
      exact v_zret hC (by decide) (by decide) (by decide) dX10_end_16
def f_X10_table_58 (N : Nat) (v1 : Int32) (s1 : Int32) (M : Mm) : Option ((Int32 ⊕ String) × Mm) :=
  lt (wr M 0 14 s1) (fun M15 => (if v1 = (0 : Int32) then some (.inr "java/lang/IllegalArgumentException", M15) else (if (M15 7 10) < (12 : Int32) then lt (wr M15 16 10 ((M15 16 10) + (1 : Int32))) (fun M18 => bnd (f_X6_copies N 7 16 M18) (fun r19 M20 => lt (wr M20 0 10 (0 : Int32)) (fun M22 => some (.inl (M22 7 10), M22)))) else some (.inr "java/lang/UnsupportedOperationException", M15))))
def f_X10_table (N : Nat) (M : Mm) : Option ((Int32 ⊕ String) × Mm) :=
  bnd (f_X6_copies N 16 7 M) (fun r1 M2 => bnd (f_X9_cuts N M2) (fun r4 M5 => lt (wr M5 1 1 (0 : Int32)) (fun M7 => bnd (f_X7_reads N 16 M7) (fun r8 M9 => (if r8 = (0 : Int32) then bnd (f_X9_begin N M9) (fun r12 M13 => f_X10_table_58 N r8 r12 M13) else f_X10_table_58 N r8 (-1 : Int32) M9)))))
set_option maxRecDepth 20000 in
set_option maxHeartbeats 4000000 in
theorem ok_X10_table_58 {N : Nat} {X : am_X} {l : Launch} (hl : l.stackTraces = false) (hC : am_C X l (am_rm 9 1 6) cX10_table yX10_table.cls (some .int)) (hnt : am_NT X) {v1 s1 : Int32} {M : Mm} {r : (Int32 ⊕ String)} {M' : Mm} (h : f_X10_table_58 N v1 s1 M = some (r, M')) : am_V X LY M 0 0 (am_Q X LY 1 6 (am_oi r) M') 58 [some (.ref 0), some (.int v1)] [.int s1, .ref 0] := by
  unfold f_X10_table_58 at h
  obtain ⟨M15, e_M15, h⟩ := lt_some h
  refine w_puti (k := 14) hC cls_X10 ly_0 (by decide) rfl aw_329 rfl rfl ⟨rfl, rfl⟩ dX10_table_58 e_M15 ?_
  refine v_iload_n hC dX10_table_61 rfl ?_
  refine v_if_ne hC 75 dX10_table_62 rfl (fun c16 => ?_) (fun c16 => ?_)
  · rw [if_neg c16] at h
    refine v_aload_n hC dX10_table_75 rfl ?_
    refine v_geta (k := 2) (b := 7) hC cls_X10 ly_0 (by decide) rfl aw_317 rfl dX10_table_76 ?_
    refine v_geti (k := 10) hC cls_X6 ly_7 (by decide) rfl aw_119 rfl dX10_table_79 ?_
    refine v_bipush (v := (12 : Int32)) hC dX10_table_82 rfl ?_
    refine v_icmp_lt hC 97 dX10_table_84 rfl (fun c17 => ?_) (fun c17 => ?_)
    · rw [if_pos c17] at h
      refine v_aload_n hC dX10_table_97 rfl ?_
      refine v_geta (k := 3) (b := 16) hC cls_X10 ly_0 (by decide) rfl aw_318 rfl dX10_table_98 ?_
      refine v_dup hC dX10_table_101 rfl ?_
      refine v_geti (k := 10) hC cls_X6 ly_16 (by decide) rfl aw_119 rfl dX10_table_102 ?_
      refine v_iconst (v := (1 : Int32)) hC dX10_table_105 rfl ?_
      refine v_iadd hC dX10_table_106 ?_
      obtain ⟨M18, e_M18, h⟩ := lt_some h
      refine w_puti (k := 10) hC cls_X6 ly_16 (by decide) rfl aw_119 rfl rfl ⟨rfl, rfl⟩ dX10_table_107 e_M18 ?_
      refine v_aload_n hC dX10_table_110 rfl ?_
      refine v_geta (k := 2) (b := 7) hC cls_X10 ly_0 (by decide) rfl aw_317 rfl dX10_table_111 ?_
      refine v_aload_n hC dX10_table_114 rfl ?_
      refine v_geta (k := 3) (b := 16) hC cls_X10 ly_0 (by decide) rfl aw_318 rfl dX10_table_115 ?_
      obtain ⟨r19, M20, q21, h⟩ := bnd_some h
      refine w_callVv hC [.ref 16] [] (ok_X6_copies kTable_7 kTable_16 q21) mv_X6_copies aw_397 ly_7 rfl (Nat.le_of_ble_eq_true rfl) ⟨by decide, by decide⟩ ⟨by decide, by decide⟩ dX10_table_118 ?_
      refine v_aload_n hC dX10_table_121 rfl ?_
      refine v_iconst (v := (0 : Int32)) hC dX10_table_122 rfl ?_
      obtain ⟨M22, e_M22, h⟩ := lt_some h
      refine w_puti (k := 10) hC cls_X10 ly_0 (by decide) rfl aw_325 rfl rfl ⟨rfl, rfl⟩ dX10_table_123 e_M22 ?_
      refine v_aload_n hC dX10_table_126 rfl ?_
      refine v_geta (k := 2) (b := 7) hC cls_X10 ly_0 (by decide) rfl aw_317 rfl dX10_table_127 ?_
      refine v_geti (k := 10) hC cls_X6 ly_7 (by decide) rfl aw_119 rfl dX10_table_130 ?_
      cases h
      exact v_iret hC (by decide) (by decide) dX10_table_133
    · rw [if_neg c17] at h
      cases h
      exact w_throw hC hnt hl (cls := "java/lang/UnsupportedOperationException") (text := "there are 12 texts") (i9 := 2) ["java/lang/RuntimeException", "java/lang/Exception"] (by decide +kernel) (by decide +kernel) aw_778 aw_22 st_2 th1_UnsupportedOperationException_137 th2_UnsupportedOperationException_137 (by decide +kernel) (th3_UnsupportedOperationException_137 _ rfl rfl) dX10_table_87 dX10_table_90 dX10_table_91 dX10_table_93 dX10_table_96 (by decide) (Nat.le_of_ble_eq_true rfl) (by decide) (by decide) (by decide) (by decide)
  · rw [if_pos c16] at h
    cases h
    exact w_throw hC hnt hl (cls := "java/lang/IllegalArgumentException") (text := "the text is wrong") (i9 := 1) ["java/lang/RuntimeException", "java/lang/Exception"] (by decide +kernel) (by decide +kernel) aw_709 aw_21 st_1 th1_IllegalArgumentException_127 th2_IllegalArgumentException_127 (by decide +kernel) (th3_IllegalArgumentException_127 _ rfl rfl) dX10_table_65 dX10_table_68 dX10_table_69 dX10_table_71 dX10_table_74 (by decide) (Nat.le_of_ble_eq_true rfl) (by decide) (by decide) (by decide) (by decide)
set_option maxRecDepth 20000 in
set_option maxHeartbeats 4000000 in
theorem ok_X10_table {l : Launch} {N : Nat} (hl : l.stackTraces = false) {M : Mm} {r : (Int32 ⊕ String)} {M' : Mm} (h : f_X10_table N M = some (r, M')) : am_M l yX10_table cX10_table 2 (some .int) 9 1 6 LY M [.ref 0] (am_oi r) M' := by
  unfold f_X10_table at h
  refine am_intro (by decide) (by simp [Value.category]) (Nat.le_of_ble_eq_true rfl) (fun X hC hnt => ?_)
  refine am_start (L := [some (.ref 0), none]) rfl ?_
  refine v_aload_n hC dX10_table_0 rfl ?_
  refine v_geta (k := 3) (b := 16) hC cls_X10 ly_0 (by decide) rfl aw_318 rfl dX10_table_1 ?_
  refine v_aload_n hC dX10_table_4 rfl ?_
  refine v_geta (k := 2) (b := 7) hC cls_X10 ly_0 (by decide) rfl aw_317 rfl dX10_table_5 ?_
  obtain ⟨r1, M2, q3, h⟩ := bnd_some h
  refine w_callVv hC [.ref 7] [] (ok_X6_copies kTable_16 kTable_7 q3) mv_X6_copies aw_397 ly_16 rfl (Nat.le_of_ble_eq_true rfl) ⟨by decide, by decide⟩ ⟨by decide, by decide⟩ dX10_table_8 ?_
  refine v_aload_n hC dX10_table_11 rfl ?_
  refine v_geta (k := 1) (b := 3) hC cls_X10 ly_0 (by decide) rfl aw_316 rfl dX10_table_12 ?_
  refine v_aload_n hC dX10_table_15 rfl ?_
  refine v_geta (k := 0) (b := 1) hC cls_X10 ly_0 (by decide) rfl aw_315 rfl dX10_table_16 ?_
  obtain ⟨r4, M5, q6, h⟩ := bnd_some h
  refine w_callVv hC [.ref 1] [] (ok_X9_cuts q6) mv_X9_cuts aw_584 ly_3 rfl (Nat.le_of_ble_eq_true rfl) ⟨by decide, by decide⟩ ⟨by decide, by decide⟩ dX10_table_19 ?_
  refine v_aload_n hC dX10_table_22 rfl ?_
  refine v_geta (k := 0) (b := 1) hC cls_X10 ly_0 (by decide) rfl aw_315 rfl dX10_table_23 ?_
  refine v_iconst (v := (0 : Int32)) hC dX10_table_26 rfl ?_
  obtain ⟨M7, e_M7, h⟩ := lt_some h
  refine w_puti (k := 1) hC cls_X8 ly_1 (by decide) rfl aw_45 rfl rfl ⟨rfl, rfl⟩ dX10_table_27 e_M7 ?_
  refine v_aload_n hC dX10_table_30 rfl ?_
  refine v_geta (k := 1) (b := 3) hC cls_X10 ly_0 (by decide) rfl aw_316 rfl dX10_table_31 ?_
  refine v_aload_n hC dX10_table_34 rfl ?_
  refine v_geta (k := 3) (b := 16) hC cls_X10 ly_0 (by decide) rfl aw_318 rfl dX10_table_35 ?_
  obtain ⟨r8, M9, q10, h⟩ := bnd_some h
  refine w_callSi hC [.ref 3, .ref 16] [] (ok_X7_reads kTable_16 q10) ms_X7_reads aw_661 rfl (Nat.le_of_ble_eq_true rfl) ⟨by decide, by decide⟩ ⟨by decide, by decide⟩ dX10_table_38 ?_
  refine w_istore_n hC dX10_table_41 (ltk rfl) [some (.ref 0), some (.int r8)] rfl ?_
  refine v_aload_n hC dX10_table_42 rfl ?_
  refine v_iload_n hC dX10_table_43 rfl ?_
  refine v_if_eq hC 51 dX10_table_44 rfl (fun c11 => ?_) (fun c11 => ?_)
  · rw [if_pos c11] at h
    refine v_aload_n hC dX10_table_51 rfl ?_
    refine v_geta (k := 1) (b := 3) hC cls_X10 ly_0 (by decide) rfl aw_316 rfl dX10_table_52 ?_
    obtain ⟨r12, M13, q14, h⟩ := bnd_some h
    refine w_callVi hC [] [.ref 0] (ok_X9_begin q14) mv_X9_begin aw_705 ly_3 rfl (Nat.le_of_ble_eq_true rfl) ⟨by decide, by decide⟩ ⟨by decide, by decide⟩ dX10_table_55 ?_
    exact ok_X10_table_58 hl hC hnt h
  · rw [if_neg c11] at h
    refine v_iconst (v := (-1 : Int32)) hC dX10_table_47 rfl ?_
    refine v_goto (tg := 58) hC dX10_table_48 rfl ?_
    exact ok_X10_table_58 hl hC hnt h
def f_X10_law_47 (N : Nat) (v1 : Int32) (s1 : Int32) (M : Mm) : Option ((Int32 ⊕ String) × Mm) :=
  lt (wr M 0 14 s1) (fun M12 => (if v1 = (0 : Int32) then some (.inr "java/lang/IllegalArgumentException", M12) else bnd (f_X1_copies N 25 31 M12) (fun r14 M15 => lt (wr M15 0 10 (0 : Int32)) (fun M17 => some (.inl (M17 25 1), M17)))))
def f_X10_law (N : Nat) (M : Mm) : Option ((Int32 ⊕ String) × Mm) :=
  bnd (f_X9_cuts N M) (fun r1 M2 => lt (wr M2 1 1 (0 : Int32)) (fun M4 => bnd (f_X2_reads N 31 M4) (fun r5 M6 => (if r5 = (0 : Int32) then bnd (f_X9_begin N M6) (fun r9 M10 => f_X10_law_47 N r5 r9 M10) else f_X10_law_47 N r5 (-1 : Int32) M6))))
set_option maxRecDepth 20000 in
set_option maxHeartbeats 4000000 in
theorem ok_X10_law_47 {N : Nat} {X : am_X} {l : Launch} (hl : l.stackTraces = false) (hC : am_C X l (am_rm 73 1 6) cX10_law yX10_law.cls (some .int)) (hnt : am_NT X) {v1 s1 : Int32} {M : Mm} {r : (Int32 ⊕ String)} {M' : Mm} (h : f_X10_law_47 N v1 s1 M = some (r, M')) : am_V X LY M 0 0 (am_Q X LY 1 6 (am_oi r) M') 47 [some (.ref 0), some (.int v1)] [.int s1, .ref 0] := by
  unfold f_X10_law_47 at h
  obtain ⟨M12, e_M12, h⟩ := lt_some h
  refine w_puti (k := 14) hC cls_X10 ly_0 (by decide) rfl aw_329 rfl rfl ⟨rfl, rfl⟩ dX10_law_47 e_M12 ?_
  refine v_iload_n hC dX10_law_50 rfl ?_
  refine v_if_ne hC 64 dX10_law_51 rfl (fun c13 => ?_) (fun c13 => ?_)
  · rw [if_neg c13] at h
    refine v_aload_n hC dX10_law_64 rfl ?_
    refine v_geta (k := 4) (b := 25) hC cls_X10 ly_0 (by decide) rfl aw_319 rfl dX10_law_65 ?_
    refine v_aload_n hC dX10_law_68 rfl ?_
    refine v_geta (k := 5) (b := 31) hC cls_X10 ly_0 (by decide) rfl aw_320 rfl dX10_law_69 ?_
    obtain ⟨r14, M15, q16, h⟩ := bnd_some h
    refine w_callVv hC [.ref 31] [] (ok_X1_copies kLaw_25 kLaw_31 q16) mv_X1_copies aw_562 ly_25 rfl (Nat.le_of_ble_eq_true rfl) ⟨by decide, by decide⟩ ⟨by decide, by decide⟩ dX10_law_72 ?_
    refine v_aload_n hC dX10_law_75 rfl ?_
    refine v_iconst (v := (0 : Int32)) hC dX10_law_76 rfl ?_
    obtain ⟨M17, e_M17, h⟩ := lt_some h
    refine w_puti (k := 10) hC cls_X10 ly_0 (by decide) rfl aw_325 rfl rfl ⟨rfl, rfl⟩ dX10_law_77 e_M17 ?_
    refine v_aload_n hC dX10_law_80 rfl ?_
    refine v_geta (k := 4) (b := 25) hC cls_X10 ly_0 (by decide) rfl aw_319 rfl dX10_law_81 ?_
    refine v_geti (k := 1) hC cls_X1 ly_25 (by decide) rfl aw_190 rfl dX10_law_84 ?_
    cases h
    exact v_iret hC (by decide) (by decide) dX10_law_87
  · rw [if_pos c13] at h
    cases h
    exact w_throw hC hnt hl (cls := "java/lang/IllegalArgumentException") (text := "the text is wrong") (i9 := 1) ["java/lang/RuntimeException", "java/lang/Exception"] (by decide +kernel) (by decide +kernel) aw_709 aw_21 st_1 th1_IllegalArgumentException_127 th2_IllegalArgumentException_127 (by decide +kernel) (th3_IllegalArgumentException_127 _ rfl rfl) dX10_law_54 dX10_law_57 dX10_law_58 dX10_law_60 dX10_law_63 (by decide) (Nat.le_of_ble_eq_true rfl) (by decide) (by decide) (by decide) (by decide)
set_option maxRecDepth 20000 in
set_option maxHeartbeats 4000000 in
theorem ok_X10_law {l : Launch} {N : Nat} (hl : l.stackTraces = false) {M : Mm} {r : (Int32 ⊕ String)} {M' : Mm} (h : f_X10_law N M = some (r, M')) : am_M l yX10_law cX10_law 2 (some .int) 73 1 6 LY M [.ref 0] (am_oi r) M' := by
  unfold f_X10_law at h
  refine am_intro (by decide) (by simp [Value.category]) (Nat.le_of_ble_eq_true rfl) (fun X hC hnt => ?_)
  refine am_start (L := [some (.ref 0), none]) rfl ?_
  refine v_aload_n hC dX10_law_0 rfl ?_
  refine v_geta (k := 1) (b := 3) hC cls_X10 ly_0 (by decide) rfl aw_316 rfl dX10_law_1 ?_
  refine v_aload_n hC dX10_law_4 rfl ?_
  refine v_geta (k := 0) (b := 1) hC cls_X10 ly_0 (by decide) rfl aw_315 rfl dX10_law_5 ?_
  obtain ⟨r1, M2, q3, h⟩ := bnd_some h
  refine w_callVv hC [.ref 1] [] (ok_X9_cuts q3) mv_X9_cuts aw_584 ly_3 rfl (Nat.le_of_ble_eq_true rfl) ⟨by decide, by decide⟩ ⟨by decide, by decide⟩ dX10_law_8 ?_
  refine v_aload_n hC dX10_law_11 rfl ?_
  refine v_geta (k := 0) (b := 1) hC cls_X10 ly_0 (by decide) rfl aw_315 rfl dX10_law_12 ?_
  refine v_iconst (v := (0 : Int32)) hC dX10_law_15 rfl ?_
  obtain ⟨M4, e_M4, h⟩ := lt_some h
  refine w_puti (k := 1) hC cls_X8 ly_1 (by decide) rfl aw_45 rfl rfl ⟨rfl, rfl⟩ dX10_law_16 e_M4 ?_
  refine v_aload_n hC dX10_law_19 rfl ?_
  refine v_geta (k := 1) (b := 3) hC cls_X10 ly_0 (by decide) rfl aw_316 rfl dX10_law_20 ?_
  refine v_aload_n hC dX10_law_23 rfl ?_
  refine v_geta (k := 5) (b := 31) hC cls_X10 ly_0 (by decide) rfl aw_320 rfl dX10_law_24 ?_
  obtain ⟨r5, M6, q7, h⟩ := bnd_some h
  refine w_callSi hC [.ref 3, .ref 31] [] (ok_X2_reads kLaw_31 q7) ms_X2_reads aw_801 rfl (Nat.le_of_ble_eq_true rfl) ⟨by decide, by decide⟩ ⟨by decide, by decide⟩ dX10_law_27 ?_
  refine w_istore_n hC dX10_law_30 (ltk rfl) [some (.ref 0), some (.int r5)] rfl ?_
  refine v_aload_n hC dX10_law_31 rfl ?_
  refine v_iload_n hC dX10_law_32 rfl ?_
  refine v_if_eq hC 40 dX10_law_33 rfl (fun c8 => ?_) (fun c8 => ?_)
  · rw [if_pos c8] at h
    refine v_aload_n hC dX10_law_40 rfl ?_
    refine v_geta (k := 1) (b := 3) hC cls_X10 ly_0 (by decide) rfl aw_316 rfl dX10_law_41 ?_
    obtain ⟨r9, M10, q11, h⟩ := bnd_some h
    refine w_callVi hC [] [.ref 0] (ok_X9_begin q11) mv_X9_begin aw_705 ly_3 rfl (Nat.le_of_ble_eq_true rfl) ⟨by decide, by decide⟩ ⟨by decide, by decide⟩ dX10_law_44 ?_
    exact ok_X10_law_47 hl hC hnt h
  · rw [if_neg c8] at h
    refine v_iconst (v := (-1 : Int32)) hC dX10_law_36 rfl ?_
    refine v_goto (tg := 47) hC dX10_law_37 rfl ?_
    exact ok_X10_law_47 hl hC hnt h
def f_X10_fault (N : Nat) (M : Mm) : Option (Int32 × Mm) :=
  some ((M 0 14), M)
set_option maxRecDepth 20000 in
set_option maxHeartbeats 4000000 in
theorem ok_X10_fault {l : Launch} {N : Nat} {M : Mm} {r : Int32} {M' : Mm} (h : f_X10_fault N M = some (r, M')) : am_M l yX10_fault cX10_fault 1 (some .int) 1 0 0 LY M [.ref 0] (.inl (some (.int r))) M' := by
  unfold f_X10_fault at h
  refine am_intro (by decide) (by simp [Value.category]) (Nat.le_of_ble_eq_true rfl) (fun X hC hnt => ?_)
  refine am_start (L := [some (.ref 0)]) rfl ?_
  refine v_aload_n hC dX10_fault_0 rfl ?_
  refine v_geti (k := 14) hC cls_X10 ly_0 (by decide) rfl aw_329 rfl dX10_fault_1 ?_
  cases h
  exact v_iret hC (by decide) (by decide) dX10_fault_4
def f_X10_needsDiner_15 (N : Nat) (M : Mm) : Option ((Int32 ⊕ String) × Mm) :=
  some (.inr "java/lang/IndexOutOfBoundsException", M)
def f_X10_needsDiner (N : Nat) (v1 : Int32) (M : Mm) : Option ((Int32 ⊕ String) × Mm) :=
  (if v1 < (0 : Int32) then f_X10_needsDiner_15 N M else (if v1 < (M 7 0) then some (.inl 0, M) else f_X10_needsDiner_15 N M))
set_option maxRecDepth 20000 in
set_option maxHeartbeats 4000000 in
theorem ok_X10_needsDiner_15 {N : Nat} {X : am_X} {l : Launch} (hl : l.stackTraces = false) (hC : am_C X l (am_rm 6 1 6) cX10_needsDiner yX10_needsDiner.cls none) (hnt : am_NT X) {M : Mm} {r : (Int32 ⊕ String)} {M' : Mm} (h : f_X10_needsDiner_15 N M = some (r, M')) : am_V X LY M 0 0 (am_Q X LY 1 6 (am_ov r) M') 15 [none, none] [] := by
  unfold f_X10_needsDiner_15 at h
  cases h
  exact w_throwW hC hnt hl (cls := "java/lang/IndexOutOfBoundsException") (text := "there is no such diner") (i9 := 3) ["java/lang/RuntimeException", "java/lang/Exception"] (by decide +kernel) (by decide +kernel) aw_847 aw_24 st_3 th1_IndexOutOfBoundsException_251 th2_IndexOutOfBoundsException_251 (by decide +kernel) (th3_IndexOutOfBoundsException_251 _ rfl rfl) dX10_needsDiner_15 dX10_needsDiner_18 dX10_needsDiner_19 dX10_needsDiner_22 dX10_needsDiner_25 (by decide) (Nat.le_of_ble_eq_true rfl) (by decide) (by decide) (by decide) (by decide)
set_option maxRecDepth 20000 in
set_option maxHeartbeats 4000000 in
theorem ok_X10_needsDiner {l : Launch} {N : Nat} {v1 : Int32} (hl : l.stackTraces = false) {M : Mm} {r : (Int32 ⊕ String)} {M' : Mm} (h : f_X10_needsDiner N v1 M = some (r, M')) : am_M l yX10_needsDiner cX10_needsDiner 2 none 6 1 6 LY M [.ref 0, .int v1] (am_ov r) M' := by
  unfold f_X10_needsDiner at h
  refine am_intro (by decide) (by simp [Value.category]) (Nat.le_of_ble_eq_true rfl) (fun X hC hnt => ?_)
  refine am_start (L := [some (.ref 0), some (.int v1)]) rfl ?_
  refine v_iload_n hC dX10_needsDiner_0 rfl ?_
  refine v_if_lt hC 15 dX10_needsDiner_1 rfl (fun c1 => ?_) (fun c1 => ?_)
  · rw [if_pos c1] at h
    refine v_drop [false, false] [none, none] rfl ?_
    exact ok_X10_needsDiner_15 hl hC hnt h
  · rw [if_neg c1] at h
    refine v_iload_n hC dX10_needsDiner_4 rfl ?_
    refine v_aload_n hC dX10_needsDiner_5 rfl ?_
    refine v_geta (k := 2) (b := 7) hC cls_X10 ly_0 (by decide) rfl aw_317 rfl dX10_needsDiner_6 ?_
    refine v_geti (k := 0) hC cls_X6 ly_7 (by decide) rfl aw_87 rfl dX10_needsDiner_9 ?_
    refine v_icmp_lt hC 26 dX10_needsDiner_12 rfl (fun c2 => ?_) (fun c2 => ?_)
    · rw [if_pos c2] at h
      cases h
      exact v_vret hC (by decide) (by decide) dX10_needsDiner_26
    · rw [if_neg c2] at h
      refine v_drop [false, false] [none, none] rfl ?_
      exact ok_X10_needsDiner_15 hl hC hnt h
def f_X10_needsWhat_9 (N : Nat) (M : Mm) : Option ((Int32 ⊕ String) × Mm) :=
  some (.inr "java/util/NoSuchElementException", M)
def f_X10_needsWhat (N : Nat) (v1 : Int32) (v2 : Int32) (M : Mm) : Option ((Int32 ⊕ String) × Mm) :=
  (if v1 < (0 : Int32) then f_X10_needsWhat_9 N M else (if v1 ≤ v2 then some (.inl 0, M) else f_X10_needsWhat_9 N M))
set_option maxRecDepth 20000 in
set_option maxHeartbeats 4000000 in
theorem ok_X10_needsWhat_9 {N : Nat} {X : am_X} {l : Launch} (hl : l.stackTraces = false) (hC : am_C X l (am_rm 6 1 6) cX10_needsWhat yX10_needsWhat.cls none) (hnt : am_NT X) {M : Mm} {r : (Int32 ⊕ String)} {M' : Mm} (h : f_X10_needsWhat_9 N M = some (r, M')) : am_V X LY M 0 0 (am_Q X LY 1 6 (am_ov r) M') 9 [none, none, none] [] := by
  unfold f_X10_needsWhat_9 at h
  cases h
  exact w_throwN hC hnt hl dX10_needsWhat_9 dX10_needsWhat_12 dX10_needsWhat_13 dX10_needsWhat_16 dX10_needsWhat_19 (by decide) (Nat.le_of_ble_eq_true rfl) (by decide) (by decide) (by decide) (by decide)
set_option maxRecDepth 20000 in
set_option maxHeartbeats 4000000 in
theorem ok_X10_needsWhat {l : Launch} {N : Nat} {v1 v2 : Int32} (hl : l.stackTraces = false) {M : Mm} {r : (Int32 ⊕ String)} {M' : Mm} (h : f_X10_needsWhat N v1 v2 M = some (r, M')) : am_M l yX10_needsWhat cX10_needsWhat 3 none 6 1 6 LY M [.ref 0, .int v1, .int v2] (am_ov r) M' := by
  unfold f_X10_needsWhat at h
  refine am_intro (by decide) (by simp [Value.category]) (Nat.le_of_ble_eq_true rfl) (fun X hC hnt => ?_)
  refine am_start (L := [some (.ref 0), some (.int v1), some (.int v2)]) rfl ?_
  refine v_iload_n hC dX10_needsWhat_0 rfl ?_
  refine v_if_lt hC 9 dX10_needsWhat_1 rfl (fun c1 => ?_) (fun c1 => ?_)
  · rw [if_pos c1] at h
    refine v_drop [false, false, false] [none, none, none] rfl ?_
    exact ok_X10_needsWhat_9 hl hC hnt h
  · rw [if_neg c1] at h
    refine v_iload_n hC dX10_needsWhat_4 rfl ?_
    refine v_iload_n hC dX10_needsWhat_5 rfl ?_
    refine v_icmp_le hC 20 dX10_needsWhat_6 rfl (fun c2 => ?_) (fun c2 => ?_)
    · rw [if_pos c2] at h
      cases h
      exact v_vret hC (by decide) (by decide) dX10_needsWhat_20
    · rw [if_neg c2] at h
      refine v_drop [false, false, false] [none, none, none] rfl ?_
      exact ok_X10_needsWhat_9 hl hC hnt h
def f_X10_diner (N : Nat) (v1 : Int32) (v2 : Int32) (M : Mm) : Option ((Int32 ⊕ String) × Mm) :=
  bnx (f_X10_needsDiner N v1 M) (fun r1 M2 => bnx (f_X10_needsWhat N v2 (4 : Int32) M2) (fun r4 M5 => (if v2 = (0 : Int32) then bnd (f_X6_seatOf N 7 v1 M5) (fun r8 M9 => some (.inl r8, M9)) else (if v2 = (1 : Int32) then grd (inb v1 8) (some (.inl (M5 9 (v1).toNatClampNeg), M5)) else (if v2 = (2 : Int32) then bnd (f_X6_isOnDiet N 7 v1 M5) (fun r14 M15 => (if r14 = (0 : Int32) then some (.inl (0 : Int32), M15) else some (.inl (1 : Int32), M15))) else (if v2 = (3 : Int32) then bnd (f_X6_mixed N 7 v1 M5) (fun r19 M20 => some (.inl r19, M20)) else bnd (f_X6_hasInAll N 7 v1 M5) (fun r22 M23 => some (.inl r22, M23))))))) (fun r4 M5 => some (.inr r4, M5))) (fun r1 M2 => some (.inr r1, M2))
set_option maxRecDepth 20000 in
set_option maxHeartbeats 4000000 in
theorem ok_X10_diner {l : Launch} {N : Nat} {v1 v2 : Int32} (hl : l.stackTraces = false) {M : Mm} {r : (Int32 ⊕ String)} {M' : Mm} (h : f_X10_diner N v1 v2 M = some (r, M')) : am_M l yX10_diner cX10_diner 3 (some .int) 7 2 12 LY M [.ref 0, .int v1, .int v2] (am_oi r) M' := by
  unfold f_X10_diner at h
  refine am_intro (by decide) (by simp [Value.category]) (Nat.le_of_ble_eq_true rfl) (fun X hC hnt => ?_)
  refine am_start (L := [some (.ref 0), some (.int v1), some (.int v2)]) rfl ?_
  refine v_aload_n hC dX10_diner_0 rfl ?_
  refine v_iload_n hC dX10_diner_1 rfl ?_
  rcases bnx_some h with ⟨r1, M2, q3, h⟩ | ⟨r1, M2, q3, h⟩
  · refine w_callVv hC [.int v1] [] (ok_X10_needsDiner hl q3) mv_X10_needsDiner aw_843 ly_0 rfl (Nat.le_of_ble_eq_true rfl) ⟨by decide, by decide⟩ ⟨by decide, by decide⟩ dX10_diner_2 ?_
    refine v_aload_n hC dX10_diner_5 rfl ?_
    refine v_iload_n hC dX10_diner_6 rfl ?_
    refine v_iconst (v := (4 : Int32)) hC dX10_diner_7 rfl ?_
    rcases bnx_some h with ⟨r4, M5, q6, h⟩ | ⟨r4, M5, q6, h⟩
    · refine w_callVv hC [.int v2, .int (4 : Int32)] [] (ok_X10_needsWhat hl q6) mv_X10_needsWhat aw_863 ly_0 rfl (Nat.le_of_ble_eq_true rfl) ⟨by decide, by decide⟩ ⟨by decide, by decide⟩ dX10_diner_8 ?_
      refine v_iload_n hC dX10_diner_11 rfl ?_
      by_cases c7 : v2 = (0 : Int32)
      · rw [if_pos c7] at h
        refine v_tableIn hC 44 dX10_diner_12 (by rw [c7]; decide) (by rw [c7]; decide) (by rw [c7]; first | done | rfl) rfl ?_
        refine v_aload_n hC dX10_diner_44 rfl ?_
        refine v_geta (k := 2) (b := 7) hC cls_X10 ly_0 (by decide) rfl aw_317 rfl dX10_diner_45 ?_
        refine v_iload_n hC dX10_diner_48 rfl ?_
        obtain ⟨r8, M9, q10, h⟩ := bnd_some h
        refine w_callVi hC [.int v1] [] (ok_X6_seatOf kTable_7 q10) mv_X6_seatOf aw_883 ly_7 rfl (Nat.le_of_ble_eq_true rfl) ⟨by decide, by decide⟩ ⟨by decide, by decide⟩ dX10_diner_49 ?_
        cases h
        exact v_iret hC (by decide) (by decide) dX10_diner_52
      · rw [if_neg c7] at h
        by_cases c11 : v2 = (1 : Int32)
        · rw [if_pos c11] at h
          refine v_tableIn hC 53 dX10_diner_12 (by rw [c11]; decide) (by rw [c11]; decide) (by rw [c11]; first | done | rfl) rfl ?_
          refine v_aload_n hC dX10_diner_53 rfl ?_
          refine v_geta (k := 2) (b := 7) hC cls_X10 ly_0 (by decide) rfl aw_317 rfl dX10_diner_54 ?_
          refine v_geta (k := 12) (b := 9) hC cls_X6 ly_7 (by decide) rfl aw_123 rfl dX10_diner_57 ?_
          refine v_iload_n hC dX10_diner_60 rfl ?_
          obtain ⟨g12, h⟩ := grd_some h
          refine v_iald hC ly_9 (inb_in g12) dX10_diner_61 ?_
          cases h
          exact v_iret hC (by decide) (by decide) dX10_diner_62
        · rw [if_neg c11] at h
          by_cases c13 : v2 = (2 : Int32)
          · rw [if_pos c13] at h
            refine v_tableIn hC 63 dX10_diner_12 (by rw [c13]; decide) (by rw [c13]; decide) (by rw [c13]; first | done | rfl) rfl ?_
            refine v_aload_n hC dX10_diner_63 rfl ?_
            refine v_geta (k := 2) (b := 7) hC cls_X10 ly_0 (by decide) rfl aw_317 rfl dX10_diner_64 ?_
            refine v_iload_n hC dX10_diner_67 rfl ?_
            obtain ⟨r14, M15, q16, h⟩ := bnd_some h
            refine w_callVi hC [.int v1] [] (ok_X6_isOnDiet kTable_7 q16) mv_X6_isOnDiet aw_887 ly_7 rfl (Nat.le_of_ble_eq_true rfl) ⟨by decide, by decide⟩ ⟨by decide, by decide⟩ dX10_diner_68 ?_
            refine v_if_eq hC 78 dX10_diner_71 rfl (fun c17 => ?_) (fun c17 => ?_)
            · rw [if_pos c17] at h
              refine v_iconst (v := (0 : Int32)) hC dX10_diner_78 rfl ?_
              cases h
              exact v_iret hC (by decide) (by decide) dX10_diner_79
            · rw [if_neg c17] at h
              refine v_iconst (v := (1 : Int32)) hC dX10_diner_74 rfl ?_
              refine v_goto (tg := 79) hC dX10_diner_75 rfl ?_
              cases h
              exact v_iret hC (by decide) (by decide) dX10_diner_79
          · rw [if_neg c13] at h
            by_cases c18 : v2 = (3 : Int32)
            · rw [if_pos c18] at h
              refine v_tableIn hC 80 dX10_diner_12 (by rw [c18]; decide) (by rw [c18]; decide) (by rw [c18]; first | done | rfl) rfl ?_
              refine v_aload_n hC dX10_diner_80 rfl ?_
              refine v_geta (k := 2) (b := 7) hC cls_X10 ly_0 (by decide) rfl aw_317 rfl dX10_diner_81 ?_
              refine v_iload_n hC dX10_diner_84 rfl ?_
              obtain ⟨r19, M20, q21, h⟩ := bnd_some h
              refine w_callVi hC [.int v1] [] (ok_X6_mixed kTable_7 q21) mv_X6_mixed aw_888 ly_7 rfl (Nat.le_of_ble_eq_true rfl) ⟨by decide, by decide⟩ ⟨by decide, by decide⟩ dX10_diner_85 ?_
              cases h
              exact v_iret hC (by decide) (by decide) dX10_diner_88
            · rw [if_neg c18] at h
              refine v_tableOut hC 89 dX10_diner_12 (by have t_c7 := lv_neT (k := (0 : Int32)) (a := 0) c7 rfl; have t_c11 := lv_neT (k := (1 : Int32)) (a := 1) c11 rfl; have t_c13 := lv_neT (k := (2 : Int32)) (a := 2) c13 rfl; have t_c18 := lv_neT (k := (3 : Int32)) (a := 3) c18 rfl; omega) rfl ?_
              refine v_aload_n hC dX10_diner_89 rfl ?_
              refine v_geta (k := 2) (b := 7) hC cls_X10 ly_0 (by decide) rfl aw_317 rfl dX10_diner_90 ?_
              refine v_iload_n hC dX10_diner_93 rfl ?_
              obtain ⟨r22, M23, q24, h⟩ := bnd_some h
              refine w_callVi hC [.int v1] [] (ok_X6_hasInAll kTable_7 q24) mv_X6_hasInAll aw_506 ly_7 rfl (Nat.le_of_ble_eq_true rfl) ⟨by decide, by decide⟩ ⟨by decide, by decide⟩ dX10_diner_94 ?_
              cases h
              exact v_iret hC (by decide) (by decide) dX10_diner_97
    · cases h
      exact w_callVx hC hnt [.int v2, .int (4 : Int32)] [] (ok_X10_needsWhat hl q6) mv_X10_needsWhat aw_863 ly_0 rfl (Nat.le_of_ble_eq_true rfl) ⟨by decide, by decide⟩ ⟨by decide, by decide⟩ dX10_diner_8 (by decide) (by decide)
  · cases h
    exact w_callVx hC hnt [.int v1] [] (ok_X10_needsDiner hl q3) mv_X10_needsDiner aw_843 ly_0 rfl (Nat.le_of_ble_eq_true rfl) ⟨by decide, by decide⟩ ⟨by decide, by decide⟩ dX10_diner_2 (by decide) (by decide)
def f_X10_needsTrait_10 (N : Nat) (M : Mm) : Option ((Int32 ⊕ String) × Mm) :=
  some (.inr "java/lang/IndexOutOfBoundsException", M)
def f_X10_needsTrait (N : Nat) (v1 : Int32) (M : Mm) : Option ((Int32 ⊕ String) × Mm) :=
  (if v1 < (0 : Int32) then f_X10_needsTrait_10 N M else (if v1 < (6 : Int32) then some (.inl 0, M) else f_X10_needsTrait_10 N M))
set_option maxRecDepth 20000 in
set_option maxHeartbeats 4000000 in
theorem ok_X10_needsTrait_10 {N : Nat} {X : am_X} {l : Launch} (hl : l.stackTraces = false) (hC : am_C X l (am_rm 6 1 6) cX10_needsTrait yX10_needsTrait.cls none) (hnt : am_NT X) {M : Mm} {r : (Int32 ⊕ String)} {M' : Mm} (h : f_X10_needsTrait_10 N M = some (r, M')) : am_V X LY M 0 0 (am_Q X LY 1 6 (am_ov r) M') 10 [none, none] [] := by
  unfold f_X10_needsTrait_10 at h
  cases h
  exact w_throwW hC hnt hl (cls := "java/lang/IndexOutOfBoundsException") (text := "there is no such trait") (i9 := 5) ["java/lang/RuntimeException", "java/lang/Exception"] (by decide +kernel) (by decide +kernel) aw_847 aw_24 st_5 th1_IndexOutOfBoundsException_251 th2_IndexOutOfBoundsException_251 (by decide +kernel) (th3_IndexOutOfBoundsException_251 _ rfl rfl) dX10_needsTrait_10 dX10_needsTrait_13 dX10_needsTrait_14 dX10_needsTrait_17 dX10_needsTrait_20 (by decide) (Nat.le_of_ble_eq_true rfl) (by decide) (by decide) (by decide) (by decide)
set_option maxRecDepth 20000 in
set_option maxHeartbeats 4000000 in
theorem ok_X10_needsTrait {l : Launch} {N : Nat} {v1 : Int32} (hl : l.stackTraces = false) {M : Mm} {r : (Int32 ⊕ String)} {M' : Mm} (h : f_X10_needsTrait N v1 M = some (r, M')) : am_M l yX10_needsTrait cX10_needsTrait 2 none 6 1 6 LY M [.ref 0, .int v1] (am_ov r) M' := by
  unfold f_X10_needsTrait at h
  refine am_intro (by decide) (by simp [Value.category]) (Nat.le_of_ble_eq_true rfl) (fun X hC hnt => ?_)
  refine am_start (L := [some (.ref 0), some (.int v1)]) rfl ?_
  refine v_iload_n hC dX10_needsTrait_0 rfl ?_
  refine v_if_lt hC 10 dX10_needsTrait_1 rfl (fun c1 => ?_) (fun c1 => ?_)
  · rw [if_pos c1] at h
    refine v_drop [false, false] [none, none] rfl ?_
    exact ok_X10_needsTrait_10 hl hC hnt h
  · rw [if_neg c1] at h
    refine v_iload_n hC dX10_needsTrait_4 rfl ?_
    refine v_bipush (v := (6 : Int32)) hC dX10_needsTrait_5 rfl ?_
    refine v_icmp_lt hC 21 dX10_needsTrait_7 rfl (fun c2 => ?_) (fun c2 => ?_)
    · rw [if_pos c2] at h
      cases h
      exact v_vret hC (by decide) (by decide) dX10_needsTrait_21
    · rw [if_neg c2] at h
      refine v_drop [false, false] [none, none] rfl ?_
      exact ok_X10_needsTrait_10 hl hC hnt h
def f_X10_has (N : Nat) (v1 : Int32) (v2 : Int32) (M : Mm) : Option ((Int32 ⊕ String) × Mm) :=
  bnx (f_X10_needsDiner N v1 M) (fun r1 M2 => bnx (f_X10_needsTrait N v2 M2) (fun r4 M5 => bnd (f_X6_hasOf N 7 v1 v2 M5) (fun r7 M8 => some (.inl r7, M8))) (fun r4 M5 => some (.inr r4, M5))) (fun r1 M2 => some (.inr r1, M2))
set_option maxRecDepth 20000 in
set_option maxHeartbeats 4000000 in
theorem ok_X10_has {l : Launch} {N : Nat} {v1 v2 : Int32} (hl : l.stackTraces = false) {M : Mm} {r : (Int32 ⊕ String)} {M' : Mm} (h : f_X10_has N v1 v2 M = some (r, M')) : am_M l yX10_has cX10_has 3 (some .int) 7 2 12 LY M [.ref 0, .int v1, .int v2] (am_oi r) M' := by
  unfold f_X10_has at h
  refine am_intro (by decide) (by simp [Value.category]) (Nat.le_of_ble_eq_true rfl) (fun X hC hnt => ?_)
  refine am_start (L := [some (.ref 0), some (.int v1), some (.int v2)]) rfl ?_
  refine v_aload_n hC dX10_has_0 rfl ?_
  refine v_iload_n hC dX10_has_1 rfl ?_
  rcases bnx_some h with ⟨r1, M2, q3, h⟩ | ⟨r1, M2, q3, h⟩
  · refine w_callVv hC [.int v1] [] (ok_X10_needsDiner hl q3) mv_X10_needsDiner aw_843 ly_0 rfl (Nat.le_of_ble_eq_true rfl) ⟨by decide, by decide⟩ ⟨by decide, by decide⟩ dX10_has_2 ?_
    refine v_aload_n hC dX10_has_5 rfl ?_
    refine v_iload_n hC dX10_has_6 rfl ?_
    rcases bnx_some h with ⟨r4, M5, q6, h⟩ | ⟨r4, M5, q6, h⟩
    · refine w_callVv hC [.int v2] [] (ok_X10_needsTrait hl q6) mv_X10_needsTrait aw_899 ly_0 rfl (Nat.le_of_ble_eq_true rfl) ⟨by decide, by decide⟩ ⟨by decide, by decide⟩ dX10_has_7 ?_
      refine v_aload_n hC dX10_has_10 rfl ?_
      refine v_geta (k := 2) (b := 7) hC cls_X10 ly_0 (by decide) rfl aw_317 rfl dX10_has_11 ?_
      refine v_iload_n hC dX10_has_14 rfl ?_
      refine v_iload_n hC dX10_has_15 rfl ?_
      obtain ⟨r7, M8, q9, h⟩ := bnd_some h
      refine w_callVi hC [.int v1, .int v2] [] (ok_X6_hasOf kTable_7 q9) mv_X6_hasOf aw_904 ly_7 rfl (Nat.le_of_ble_eq_true rfl) ⟨by decide, by decide⟩ ⟨by decide, by decide⟩ dX10_has_16 ?_
      cases h
      exact v_iret hC (by decide) (by decide) dX10_has_19
    · cases h
      exact w_callVx hC hnt [.int v2] [] (ok_X10_needsTrait hl q6) mv_X10_needsTrait aw_899 ly_0 rfl (Nat.le_of_ble_eq_true rfl) ⟨by decide, by decide⟩ ⟨by decide, by decide⟩ dX10_has_7 (by decide) (by decide)
  · cases h
    exact w_callVx hC hnt [.int v1] [] (ok_X10_needsDiner hl q3) mv_X10_needsDiner aw_843 ly_0 rfl (Nat.le_of_ble_eq_true rfl) ⟨by decide, by decide⟩ ⟨by decide, by decide⟩ dX10_has_2 (by decide) (by decide)
def f_X10_needsCellar_15 (N : Nat) (M : Mm) : Option ((Int32 ⊕ String) × Mm) :=
  some (.inr "java/lang/IndexOutOfBoundsException", M)
def f_X10_needsCellar (N : Nat) (v1 : Int32) (M : Mm) : Option ((Int32 ⊕ String) × Mm) :=
  (if v1 < (0 : Int32) then f_X10_needsCellar_15 N M else (if v1 < (M 7 1) then some (.inl 0, M) else f_X10_needsCellar_15 N M))
set_option maxRecDepth 20000 in
set_option maxHeartbeats 4000000 in
theorem ok_X10_needsCellar_15 {N : Nat} {X : am_X} {l : Launch} (hl : l.stackTraces = false) (hC : am_C X l (am_rm 6 1 6) cX10_needsCellar yX10_needsCellar.cls none) (hnt : am_NT X) {M : Mm} {r : (Int32 ⊕ String)} {M' : Mm} (h : f_X10_needsCellar_15 N M = some (r, M')) : am_V X LY M 0 0 (am_Q X LY 1 6 (am_ov r) M') 15 [none, none] [] := by
  unfold f_X10_needsCellar_15 at h
  cases h
  exact w_throwW hC hnt hl (cls := "java/lang/IndexOutOfBoundsException") (text := "there is no such cellar") (i9 := 6) ["java/lang/RuntimeException", "java/lang/Exception"] (by decide +kernel) (by decide +kernel) aw_847 aw_24 st_6 th1_IndexOutOfBoundsException_251 th2_IndexOutOfBoundsException_251 (by decide +kernel) (th3_IndexOutOfBoundsException_251 _ rfl rfl) dX10_needsCellar_15 dX10_needsCellar_18 dX10_needsCellar_19 dX10_needsCellar_22 dX10_needsCellar_25 (by decide) (Nat.le_of_ble_eq_true rfl) (by decide) (by decide) (by decide) (by decide)
set_option maxRecDepth 20000 in
set_option maxHeartbeats 4000000 in
theorem ok_X10_needsCellar {l : Launch} {N : Nat} {v1 : Int32} (hl : l.stackTraces = false) {M : Mm} {r : (Int32 ⊕ String)} {M' : Mm} (h : f_X10_needsCellar N v1 M = some (r, M')) : am_M l yX10_needsCellar cX10_needsCellar 2 none 6 1 6 LY M [.ref 0, .int v1] (am_ov r) M' := by
  unfold f_X10_needsCellar at h
  refine am_intro (by decide) (by simp [Value.category]) (Nat.le_of_ble_eq_true rfl) (fun X hC hnt => ?_)
  refine am_start (L := [some (.ref 0), some (.int v1)]) rfl ?_
  refine v_iload_n hC dX10_needsCellar_0 rfl ?_
  refine v_if_lt hC 15 dX10_needsCellar_1 rfl (fun c1 => ?_) (fun c1 => ?_)
  · rw [if_pos c1] at h
    refine v_drop [false, false] [none, none] rfl ?_
    exact ok_X10_needsCellar_15 hl hC hnt h
  · rw [if_neg c1] at h
    refine v_iload_n hC dX10_needsCellar_4 rfl ?_
    refine v_aload_n hC dX10_needsCellar_5 rfl ?_
    refine v_geta (k := 2) (b := 7) hC cls_X10 ly_0 (by decide) rfl aw_317 rfl dX10_needsCellar_6 ?_
    refine v_geti (k := 1) hC cls_X6 ly_7 (by decide) rfl aw_91 rfl dX10_needsCellar_9 ?_
    refine v_icmp_lt hC 26 dX10_needsCellar_12 rfl (fun c2 => ?_) (fun c2 => ?_)
    · rw [if_pos c2] at h
      cases h
      exact v_vret hC (by decide) (by decide) dX10_needsCellar_26
    · rw [if_neg c2] at h
      refine v_drop [false, false] [none, none] rfl ?_
      exact ok_X10_needsCellar_15 hl hC hnt h
def f_X10_pinchNow (N : Nat) (v1 : Int32) (M : Mm) : Option (Int32 × Mm) :=
  grd (inb v1 5) (bnd (f_X6_dinerAt N 7 (M 11 (v1).toNatClampNeg) M) (fun r2 M3 => (if r2 = (-1 : Int32) then some ((0 : Int32), M3) else bnd (f_X0_tell N 7 v1 r2 M3) (fun r6 M7 => bnd (f_X1_pinch N 25 M7) (fun r9 M10 => some (r9, M10))))))
set_option maxRecDepth 20000 in
set_option maxHeartbeats 4000000 in
theorem ok_X10_pinchNow {l : Launch} {N : Nat} {v1 : Int32} {M : Mm} {r : Int32} {M' : Mm} (h : f_X10_pinchNow N v1 M = some (r, M')) : am_M l yX10_pinchNow cX10_pinchNow 3 (some .int) 4 0 0 LY M [.ref 0, .int v1] (.inl (some (.int r))) M' := by
  unfold f_X10_pinchNow at h
  refine am_intro (by decide) (by simp [Value.category]) (Nat.le_of_ble_eq_true rfl) (fun X hC hnt => ?_)
  refine am_start (L := [some (.ref 0), some (.int v1), none]) rfl ?_
  refine v_aload_n hC dX10_pinchNow_0 rfl ?_
  refine v_geta (k := 2) (b := 7) hC cls_X10 ly_0 (by decide) rfl aw_317 rfl dX10_pinchNow_1 ?_
  refine v_aload_n hC dX10_pinchNow_4 rfl ?_
  refine v_geta (k := 2) (b := 7) hC cls_X10 ly_0 (by decide) rfl aw_317 rfl dX10_pinchNow_5 ?_
  refine v_geta (k := 14) (b := 11) hC cls_X6 ly_7 (by decide) rfl aw_127 rfl dX10_pinchNow_8 ?_
  refine v_iload_n hC dX10_pinchNow_11 rfl ?_
  obtain ⟨g1, h⟩ := grd_some h
  refine v_iald hC ly_11 (inb_in g1) dX10_pinchNow_12 ?_
  obtain ⟨r2, M3, q4, h⟩ := bnd_some h
  refine w_callVi hC [.int (M 11 (v1).toNatClampNeg)] [] (ok_X6_dinerAt kTable_7 q4) mv_X6_dinerAt aw_484 ly_7 rfl (Nat.le_of_ble_eq_true rfl) ⟨by decide, by decide⟩ ⟨by decide, by decide⟩ dX10_pinchNow_13 ?_
  refine w_istore_n hC dX10_pinchNow_16 (ltk rfl) [some (.ref 0), some (.int v1), some (.int r2)] rfl ?_
  refine v_iload_n hC dX10_pinchNow_17 rfl ?_
  refine v_iconst (v := (-1 : Int32)) hC dX10_pinchNow_18 rfl ?_
  refine v_icmp_ne hC 24 dX10_pinchNow_19 rfl (fun c5 => ?_) (fun c5 => ?_)
  · rw [if_neg c5] at h
    refine v_aload_n hC dX10_pinchNow_24 rfl ?_
    refine v_geta (k := 7) (b := 39) hC cls_X10 ly_0 (by decide) rfl aw_322 rfl dX10_pinchNow_25 ?_
    refine v_geta (k := 0) (b := 40) hC cls_X5 ly_39 (by decide) rfl aw_286 rfl dX10_pinchNow_28 ?_
    refine v_aload_n hC dX10_pinchNow_31 rfl ?_
    refine v_geta (k := 2) (b := 7) hC cls_X10 ly_0 (by decide) rfl aw_317 rfl dX10_pinchNow_32 ?_
    refine v_iload_n hC dX10_pinchNow_35 rfl ?_
    refine v_iload_n hC dX10_pinchNow_36 rfl ?_
    obtain ⟨r6, M7, q8, h⟩ := bnd_some h
    refine w_callVv hC [.ref 7, .int v1, .int r2] [] (ok_X0_tell kTable_7 q8) mv_X0_tell aw_921 ly_40 rfl (Nat.le_of_ble_eq_true rfl) ⟨by decide, by decide⟩ ⟨by decide, by decide⟩ dX10_pinchNow_37 ?_
    refine v_aload_n hC dX10_pinchNow_40 rfl ?_
    refine v_geta (k := 4) (b := 25) hC cls_X10 ly_0 (by decide) rfl aw_319 rfl dX10_pinchNow_41 ?_
    refine v_aload_n hC dX10_pinchNow_44 rfl ?_
    refine v_geta (k := 7) (b := 39) hC cls_X10 ly_0 (by decide) rfl aw_322 rfl dX10_pinchNow_45 ?_
    refine v_geta (k := 0) (b := 40) hC cls_X5 ly_39 (by decide) rfl aw_286 rfl dX10_pinchNow_48 ?_
    obtain ⟨r9, M10, q11, h⟩ := bnd_some h
    refine w_callVi hC [.ref 40] [] (ok_X1_pinch kLaw_25 q11) mv_X1_pinch aw_922 ly_25 rfl (Nat.le_of_ble_eq_true rfl) ⟨by decide, by decide⟩ ⟨by decide, by decide⟩ dX10_pinchNow_51 ?_
    cases h
    exact v_iret hC (by decide) (by decide) dX10_pinchNow_54
  · rw [if_pos c5] at h
    refine v_iconst (v := (0 : Int32)) hC dX10_pinchNow_22 rfl ?_
    cases h
    exact v_iret hC (by decide) (by decide) dX10_pinchNow_23
def f_X10_setsByNow (N : Nat) (v1 : Int32) (M : Mm) : Option (Int32 × Mm) :=
  grd (inb v1 5) (bnd (f_X6_dinerAt N 7 (M 11 (v1).toNatClampNeg) M) (fun r2 M3 => (if r2 = (-1 : Int32) then some ((0 : Int32), M3) else bnd (f_X0_tell N 7 v1 r2 M3) (fun r6 M7 => bnd (f_X1_setsBy N 25 M7) (fun r9 M10 => some (r9, M10))))))
set_option maxRecDepth 20000 in
set_option maxHeartbeats 4000000 in
theorem ok_X10_setsByNow {l : Launch} {N : Nat} {v1 : Int32} {M : Mm} {r : Int32} {M' : Mm} (h : f_X10_setsByNow N v1 M = some (r, M')) : am_M l yX10_setsByNow cX10_setsByNow 3 (some .int) 4 0 0 LY M [.ref 0, .int v1] (.inl (some (.int r))) M' := by
  unfold f_X10_setsByNow at h
  refine am_intro (by decide) (by simp [Value.category]) (Nat.le_of_ble_eq_true rfl) (fun X hC hnt => ?_)
  refine am_start (L := [some (.ref 0), some (.int v1), none]) rfl ?_
  refine v_aload_n hC dX10_setsByNow_0 rfl ?_
  refine v_geta (k := 2) (b := 7) hC cls_X10 ly_0 (by decide) rfl aw_317 rfl dX10_setsByNow_1 ?_
  refine v_aload_n hC dX10_setsByNow_4 rfl ?_
  refine v_geta (k := 2) (b := 7) hC cls_X10 ly_0 (by decide) rfl aw_317 rfl dX10_setsByNow_5 ?_
  refine v_geta (k := 14) (b := 11) hC cls_X6 ly_7 (by decide) rfl aw_127 rfl dX10_setsByNow_8 ?_
  refine v_iload_n hC dX10_setsByNow_11 rfl ?_
  obtain ⟨g1, h⟩ := grd_some h
  refine v_iald hC ly_11 (inb_in g1) dX10_setsByNow_12 ?_
  obtain ⟨r2, M3, q4, h⟩ := bnd_some h
  refine w_callVi hC [.int (M 11 (v1).toNatClampNeg)] [] (ok_X6_dinerAt kTable_7 q4) mv_X6_dinerAt aw_484 ly_7 rfl (Nat.le_of_ble_eq_true rfl) ⟨by decide, by decide⟩ ⟨by decide, by decide⟩ dX10_setsByNow_13 ?_
  refine w_istore_n hC dX10_setsByNow_16 (ltk rfl) [some (.ref 0), some (.int v1), some (.int r2)] rfl ?_
  refine v_iload_n hC dX10_setsByNow_17 rfl ?_
  refine v_iconst (v := (-1 : Int32)) hC dX10_setsByNow_18 rfl ?_
  refine v_icmp_ne hC 24 dX10_setsByNow_19 rfl (fun c5 => ?_) (fun c5 => ?_)
  · rw [if_neg c5] at h
    refine v_aload_n hC dX10_setsByNow_24 rfl ?_
    refine v_geta (k := 7) (b := 39) hC cls_X10 ly_0 (by decide) rfl aw_322 rfl dX10_setsByNow_25 ?_
    refine v_geta (k := 0) (b := 40) hC cls_X5 ly_39 (by decide) rfl aw_286 rfl dX10_setsByNow_28 ?_
    refine v_aload_n hC dX10_setsByNow_31 rfl ?_
    refine v_geta (k := 2) (b := 7) hC cls_X10 ly_0 (by decide) rfl aw_317 rfl dX10_setsByNow_32 ?_
    refine v_iload_n hC dX10_setsByNow_35 rfl ?_
    refine v_iload_n hC dX10_setsByNow_36 rfl ?_
    obtain ⟨r6, M7, q8, h⟩ := bnd_some h
    refine w_callVv hC [.ref 7, .int v1, .int r2] [] (ok_X0_tell kTable_7 q8) mv_X0_tell aw_921 ly_40 rfl (Nat.le_of_ble_eq_true rfl) ⟨by decide, by decide⟩ ⟨by decide, by decide⟩ dX10_setsByNow_37 ?_
    refine v_aload_n hC dX10_setsByNow_40 rfl ?_
    refine v_geta (k := 4) (b := 25) hC cls_X10 ly_0 (by decide) rfl aw_319 rfl dX10_setsByNow_41 ?_
    refine v_aload_n hC dX10_setsByNow_44 rfl ?_
    refine v_geta (k := 7) (b := 39) hC cls_X10 ly_0 (by decide) rfl aw_322 rfl dX10_setsByNow_45 ?_
    refine v_geta (k := 0) (b := 40) hC cls_X5 ly_39 (by decide) rfl aw_286 rfl dX10_setsByNow_48 ?_
    obtain ⟨r9, M10, q11, h⟩ := bnd_some h
    refine w_callVi hC [.ref 40] [] (ok_X1_setsBy kLaw_25 q11) mv_X1_setsBy aw_927 ly_25 rfl (Nat.le_of_ble_eq_true rfl) ⟨by decide, by decide⟩ ⟨by decide, by decide⟩ dX10_setsByNow_51 ?_
    cases h
    exact v_iret hC (by decide) (by decide) dX10_setsByNow_54
  · rw [if_pos c5] at h
    refine v_iconst (v := (0 : Int32)) hC dX10_setsByNow_22 rfl ?_
    cases h
    exact v_iret hC (by decide) (by decide) dX10_setsByNow_23
def f_X10_cellar (N : Nat) (v1 : Int32) (v2 : Int32) (M : Mm) : Option ((Int32 ⊕ String) × Mm) :=
  bnx (f_X10_needsCellar N v1 M) (fun r1 M2 => bnx (f_X10_needsWhat N v2 (7 : Int32) M2) (fun r4 M5 => (if v2 = (0 : Int32) then grd (inb v1 5) (some (.inl (M5 11 (v1).toNatClampNeg), M5)) else (if v2 = (1 : Int32) then grd (inb v1 5) (some (.inl (M5 12 (v1).toNatClampNeg), M5)) else (if v2 = (2 : Int32) then grd (inb v1 5) (some (.inl (M5 13 (v1).toNatClampNeg), M5)) else (if v2 = (3 : Int32) then grd (inb v1 5) (some (.inl (M5 14 (v1).toNatClampNeg), M5)) else (if v2 = (4 : Int32) then grd (inb v1 5) (some (.inl (M5 15 (v1).toNatClampNeg), M5)) else (if v2 = (5 : Int32) then grd (inb v1 5) (bnd (f_X6_dinerAt N 7 (M5 11 (v1).toNatClampNeg) M5) (fun r19 M20 => some (.inl r19, M20))) else (if v2 = (6 : Int32) then bnd (f_X10_pinchNow N v1 M5) (fun r23 M24 => some (.inl r23, M24)) else bnd (f_X10_setsByNow N v1 M5) (fun r26 M27 => some (.inl r26, M27)))))))))) (fun r4 M5 => some (.inr r4, M5))) (fun r1 M2 => some (.inr r1, M2))
set_option maxRecDepth 20000 in
set_option maxHeartbeats 4000000 in
theorem ok_X10_cellar {l : Launch} {N : Nat} {v1 v2 : Int32} (hl : l.stackTraces = false) {M : Mm} {r : (Int32 ⊕ String)} {M' : Mm} (h : f_X10_cellar N v1 v2 M = some (r, M')) : am_M l yX10_cellar cX10_cellar 3 (some .int) 7 2 12 LY M [.ref 0, .int v1, .int v2] (am_oi r) M' := by
  unfold f_X10_cellar at h
  refine am_intro (by decide) (by simp [Value.category]) (Nat.le_of_ble_eq_true rfl) (fun X hC hnt => ?_)
  refine am_start (L := [some (.ref 0), some (.int v1), some (.int v2)]) rfl ?_
  refine v_aload_n hC dX10_cellar_0 rfl ?_
  refine v_iload_n hC dX10_cellar_1 rfl ?_
  rcases bnx_some h with ⟨r1, M2, q3, h⟩ | ⟨r1, M2, q3, h⟩
  · refine w_callVv hC [.int v1] [] (ok_X10_needsCellar hl q3) mv_X10_needsCellar aw_912 ly_0 rfl (Nat.le_of_ble_eq_true rfl) ⟨by decide, by decide⟩ ⟨by decide, by decide⟩ dX10_cellar_2 ?_
    refine v_aload_n hC dX10_cellar_5 rfl ?_
    refine v_iload_n hC dX10_cellar_6 rfl ?_
    refine v_bipush (v := (7 : Int32)) hC dX10_cellar_7 rfl ?_
    rcases bnx_some h with ⟨r4, M5, q6, h⟩ | ⟨r4, M5, q6, h⟩
    · refine w_callVv hC [.int v2, .int (7 : Int32)] [] (ok_X10_needsWhat hl q6) mv_X10_needsWhat aw_863 ly_0 rfl (Nat.le_of_ble_eq_true rfl) ⟨by decide, by decide⟩ ⟨by decide, by decide⟩ dX10_cellar_9 ?_
      refine v_iload_n hC dX10_cellar_12 rfl ?_
      by_cases c7 : v2 = (0 : Int32)
      · rw [if_pos c7] at h
        refine v_tableIn hC 56 dX10_cellar_13 (by rw [c7]; decide) (by rw [c7]; decide) (by rw [c7]; first | done | rfl) rfl ?_
        refine v_aload_n hC dX10_cellar_56 rfl ?_
        refine v_geta (k := 2) (b := 7) hC cls_X10 ly_0 (by decide) rfl aw_317 rfl dX10_cellar_57 ?_
        refine v_geta (k := 14) (b := 11) hC cls_X6 ly_7 (by decide) rfl aw_127 rfl dX10_cellar_60 ?_
        refine v_iload_n hC dX10_cellar_63 rfl ?_
        obtain ⟨g8, h⟩ := grd_some h
        refine v_iald hC ly_11 (inb_in g8) dX10_cellar_64 ?_
        cases h
        exact v_iret hC (by decide) (by decide) dX10_cellar_65
      · rw [if_neg c7] at h
        by_cases c9 : v2 = (1 : Int32)
        · rw [if_pos c9] at h
          refine v_tableIn hC 66 dX10_cellar_13 (by rw [c9]; decide) (by rw [c9]; decide) (by rw [c9]; first | done | rfl) rfl ?_
          refine v_aload_n hC dX10_cellar_66 rfl ?_
          refine v_geta (k := 2) (b := 7) hC cls_X10 ly_0 (by decide) rfl aw_317 rfl dX10_cellar_67 ?_
          refine v_geta (k := 15) (b := 12) hC cls_X6 ly_7 (by decide) rfl aw_131 rfl dX10_cellar_70 ?_
          refine v_iload_n hC dX10_cellar_73 rfl ?_
          obtain ⟨g10, h⟩ := grd_some h
          refine v_iald hC ly_12 (inb_in g10) dX10_cellar_74 ?_
          cases h
          exact v_iret hC (by decide) (by decide) dX10_cellar_75
        · rw [if_neg c9] at h
          by_cases c11 : v2 = (2 : Int32)
          · rw [if_pos c11] at h
            refine v_tableIn hC 76 dX10_cellar_13 (by rw [c11]; decide) (by rw [c11]; decide) (by rw [c11]; first | done | rfl) rfl ?_
            refine v_aload_n hC dX10_cellar_76 rfl ?_
            refine v_geta (k := 2) (b := 7) hC cls_X10 ly_0 (by decide) rfl aw_317 rfl dX10_cellar_77 ?_
            refine v_geta (k := 16) (b := 13) hC cls_X6 ly_7 (by decide) rfl aw_135 rfl dX10_cellar_80 ?_
            refine v_iload_n hC dX10_cellar_83 rfl ?_
            obtain ⟨g12, h⟩ := grd_some h
            refine v_iald hC ly_13 (inb_in g12) dX10_cellar_84 ?_
            cases h
            exact v_iret hC (by decide) (by decide) dX10_cellar_85
          · rw [if_neg c11] at h
            by_cases c13 : v2 = (3 : Int32)
            · rw [if_pos c13] at h
              refine v_tableIn hC 86 dX10_cellar_13 (by rw [c13]; decide) (by rw [c13]; decide) (by rw [c13]; first | done | rfl) rfl ?_
              refine v_aload_n hC dX10_cellar_86 rfl ?_
              refine v_geta (k := 2) (b := 7) hC cls_X10 ly_0 (by decide) rfl aw_317 rfl dX10_cellar_87 ?_
              refine v_geta (k := 17) (b := 14) hC cls_X6 ly_7 (by decide) rfl aw_139 rfl dX10_cellar_90 ?_
              refine v_iload_n hC dX10_cellar_93 rfl ?_
              obtain ⟨g14, h⟩ := grd_some h
              refine v_iald hC ly_14 (inb_in g14) dX10_cellar_94 ?_
              cases h
              exact v_iret hC (by decide) (by decide) dX10_cellar_95
            · rw [if_neg c13] at h
              by_cases c15 : v2 = (4 : Int32)
              · rw [if_pos c15] at h
                refine v_tableIn hC 96 dX10_cellar_13 (by rw [c15]; decide) (by rw [c15]; decide) (by rw [c15]; first | done | rfl) rfl ?_
                refine v_aload_n hC dX10_cellar_96 rfl ?_
                refine v_geta (k := 2) (b := 7) hC cls_X10 ly_0 (by decide) rfl aw_317 rfl dX10_cellar_97 ?_
                refine v_geta (k := 18) (b := 15) hC cls_X6 ly_7 (by decide) rfl aw_141 rfl dX10_cellar_100 ?_
                refine v_iload_n hC dX10_cellar_103 rfl ?_
                obtain ⟨g16, h⟩ := grd_some h
                refine v_iald hC ly_15 (inb_in g16) dX10_cellar_104 ?_
                cases h
                exact v_iret hC (by decide) (by decide) dX10_cellar_105
              · rw [if_neg c15] at h
                by_cases c17 : v2 = (5 : Int32)
                · rw [if_pos c17] at h
                  refine v_tableIn hC 106 dX10_cellar_13 (by rw [c17]; decide) (by rw [c17]; decide) (by rw [c17]; first | done | rfl) rfl ?_
                  refine v_aload_n hC dX10_cellar_106 rfl ?_
                  refine v_geta (k := 2) (b := 7) hC cls_X10 ly_0 (by decide) rfl aw_317 rfl dX10_cellar_107 ?_
                  refine v_aload_n hC dX10_cellar_110 rfl ?_
                  refine v_geta (k := 2) (b := 7) hC cls_X10 ly_0 (by decide) rfl aw_317 rfl dX10_cellar_111 ?_
                  refine v_geta (k := 14) (b := 11) hC cls_X6 ly_7 (by decide) rfl aw_127 rfl dX10_cellar_114 ?_
                  refine v_iload_n hC dX10_cellar_117 rfl ?_
                  obtain ⟨g18, h⟩ := grd_some h
                  refine v_iald hC ly_11 (inb_in g18) dX10_cellar_118 ?_
                  obtain ⟨r19, M20, q21, h⟩ := bnd_some h
                  refine w_callVi hC [.int (M5 11 (v1).toNatClampNeg)] [] (ok_X6_dinerAt kTable_7 q21) mv_X6_dinerAt aw_484 ly_7 rfl (Nat.le_of_ble_eq_true rfl) ⟨by decide, by decide⟩ ⟨by decide, by decide⟩ dX10_cellar_119 ?_
                  cases h
                  exact v_iret hC (by decide) (by decide) dX10_cellar_122
                · rw [if_neg c17] at h
                  by_cases c22 : v2 = (6 : Int32)
                  · rw [if_pos c22] at h
                    refine v_tableIn hC 123 dX10_cellar_13 (by rw [c22]; decide) (by rw [c22]; decide) (by rw [c22]; first | done | rfl) rfl ?_
                    refine v_aload_n hC dX10_cellar_123 rfl ?_
                    refine v_iload_n hC dX10_cellar_124 rfl ?_
                    obtain ⟨r23, M24, q25, h⟩ := bnd_some h
                    refine w_callVi hC [.int v1] [] (ok_X10_pinchNow q25) mv_X10_pinchNow aw_917 ly_0 rfl (Nat.le_of_ble_eq_true rfl) ⟨by decide, by decide⟩ ⟨by decide, by decide⟩ dX10_cellar_125 ?_
                    cases h
                    exact v_iret hC (by decide) (by decide) dX10_cellar_128
                  · rw [if_neg c22] at h
                    refine v_tableOut hC 129 dX10_cellar_13 (by have t_c7 := lv_neT (k := (0 : Int32)) (a := 0) c7 rfl; have t_c9 := lv_neT (k := (1 : Int32)) (a := 1) c9 rfl; have t_c11 := lv_neT (k := (2 : Int32)) (a := 2) c11 rfl; have t_c13 := lv_neT (k := (3 : Int32)) (a := 3) c13 rfl; have t_c15 := lv_neT (k := (4 : Int32)) (a := 4) c15 rfl; have t_c17 := lv_neT (k := (5 : Int32)) (a := 5) c17 rfl; have t_c22 := lv_neT (k := (6 : Int32)) (a := 6) c22 rfl; omega) rfl ?_
                    refine v_aload_n hC dX10_cellar_129 rfl ?_
                    refine v_iload_n hC dX10_cellar_130 rfl ?_
                    obtain ⟨r26, M27, q28, h⟩ := bnd_some h
                    refine w_callVi hC [.int v1] [] (ok_X10_setsByNow q28) mv_X10_setsByNow aw_923 ly_0 rfl (Nat.le_of_ble_eq_true rfl) ⟨by decide, by decide⟩ ⟨by decide, by decide⟩ dX10_cellar_131 ?_
                    cases h
                    exact v_iret hC (by decide) (by decide) dX10_cellar_134
    · cases h
      exact w_callVx hC hnt [.int v2, .int (7 : Int32)] [] (ok_X10_needsWhat hl q6) mv_X10_needsWhat aw_863 ly_0 rfl (Nat.le_of_ble_eq_true rfl) ⟨by decide, by decide⟩ ⟨by decide, by decide⟩ dX10_cellar_9 (by decide) (by decide)
  · cases h
    exact w_callVx hC hnt [.int v1] [] (ok_X10_needsCellar hl q3) mv_X10_needsCellar aw_912 ly_0 rfl (Nat.le_of_ble_eq_true rfl) ⟨by decide, by decide⟩ ⟨by decide, by decide⟩ dX10_cellar_2 (by decide) (by decide)
def f_X10_needsSeat_10 (N : Nat) (M : Mm) : Option ((Int32 ⊕ String) × Mm) :=
  some (.inr "java/lang/IndexOutOfBoundsException", M)
def f_X10_needsSeat (N : Nat) (v1 : Int32) (M : Mm) : Option ((Int32 ⊕ String) × Mm) :=
  (if v1 < (0 : Int32) then f_X10_needsSeat_10 N M else (if v1 < (10 : Int32) then some (.inl 0, M) else f_X10_needsSeat_10 N M))
set_option maxRecDepth 20000 in
set_option maxHeartbeats 4000000 in
theorem ok_X10_needsSeat_10 {N : Nat} {X : am_X} {l : Launch} (hl : l.stackTraces = false) (hC : am_C X l (am_rm 6 1 6) cX10_needsSeat yX10_needsSeat.cls none) (hnt : am_NT X) {M : Mm} {r : (Int32 ⊕ String)} {M' : Mm} (h : f_X10_needsSeat_10 N M = some (r, M')) : am_V X LY M 0 0 (am_Q X LY 1 6 (am_ov r) M') 10 [none, none] [] := by
  unfold f_X10_needsSeat_10 at h
  cases h
  exact w_throwW hC hnt hl (cls := "java/lang/IndexOutOfBoundsException") (text := "there is no such seat") (i9 := 7) ["java/lang/RuntimeException", "java/lang/Exception"] (by decide +kernel) (by decide +kernel) aw_847 aw_24 st_7 th1_IndexOutOfBoundsException_251 th2_IndexOutOfBoundsException_251 (by decide +kernel) (th3_IndexOutOfBoundsException_251 _ rfl rfl) dX10_needsSeat_10 dX10_needsSeat_13 dX10_needsSeat_14 dX10_needsSeat_17 dX10_needsSeat_20 (by decide) (Nat.le_of_ble_eq_true rfl) (by decide) (by decide) (by decide) (by decide)
set_option maxRecDepth 20000 in
set_option maxHeartbeats 4000000 in
theorem ok_X10_needsSeat {l : Launch} {N : Nat} {v1 : Int32} (hl : l.stackTraces = false) {M : Mm} {r : (Int32 ⊕ String)} {M' : Mm} (h : f_X10_needsSeat N v1 M = some (r, M')) : am_M l yX10_needsSeat cX10_needsSeat 2 none 6 1 6 LY M [.ref 0, .int v1] (am_ov r) M' := by
  unfold f_X10_needsSeat at h
  refine am_intro (by decide) (by simp [Value.category]) (Nat.le_of_ble_eq_true rfl) (fun X hC hnt => ?_)
  refine am_start (L := [some (.ref 0), some (.int v1)]) rfl ?_
  refine v_iload_n hC dX10_needsSeat_0 rfl ?_
  refine v_if_lt hC 10 dX10_needsSeat_1 rfl (fun c1 => ?_) (fun c1 => ?_)
  · rw [if_pos c1] at h
    refine v_drop [false, false] [none, none] rfl ?_
    exact ok_X10_needsSeat_10 hl hC hnt h
  · rw [if_neg c1] at h
    refine v_iload_n hC dX10_needsSeat_4 rfl ?_
    refine v_bipush (v := (10 : Int32)) hC dX10_needsSeat_5 rfl ?_
    refine v_icmp_lt hC 21 dX10_needsSeat_7 rfl (fun c2 => ?_) (fun c2 => ?_)
    · rw [if_pos c2] at h
      cases h
      exact v_vret hC (by decide) (by decide) dX10_needsSeat_21
    · rw [if_neg c2] at h
      refine v_drop [false, false] [none, none] rfl ?_
      exact ok_X10_needsSeat_10 hl hC hnt h
def f_X10_seat (N : Nat) (v1 : Int32) (M : Mm) : Option ((Int32 ⊕ String) × Mm) :=
  bnx (f_X10_needsSeat N v1 M) (fun r1 M2 => bnd (f_X6_dinerAt N 7 v1 M2) (fun r4 M5 => some (.inl r4, M5))) (fun r1 M2 => some (.inr r1, M2))
set_option maxRecDepth 20000 in
set_option maxHeartbeats 4000000 in
theorem ok_X10_seat {l : Launch} {N : Nat} {v1 : Int32} (hl : l.stackTraces = false) {M : Mm} {r : (Int32 ⊕ String)} {M' : Mm} (h : f_X10_seat N v1 M = some (r, M')) : am_M l yX10_seat cX10_seat 2 (some .int) 7 1 6 LY M [.ref 0, .int v1] (am_oi r) M' := by
  unfold f_X10_seat at h
  refine am_intro (by decide) (by simp [Value.category]) (Nat.le_of_ble_eq_true rfl) (fun X hC hnt => ?_)
  refine am_start (L := [some (.ref 0), some (.int v1)]) rfl ?_
  refine v_aload_n hC dX10_seat_0 rfl ?_
  refine v_iload_n hC dX10_seat_1 rfl ?_
  rcases bnx_some h with ⟨r1, M2, q3, h⟩ | ⟨r1, M2, q3, h⟩
  · refine w_callVv hC [.int v1] [] (ok_X10_needsSeat hl q3) mv_X10_needsSeat aw_938 ly_0 rfl (Nat.le_of_ble_eq_true rfl) ⟨by decide, by decide⟩ ⟨by decide, by decide⟩ dX10_seat_2 ?_
    refine v_aload_n hC dX10_seat_5 rfl ?_
    refine v_geta (k := 2) (b := 7) hC cls_X10 ly_0 (by decide) rfl aw_317 rfl dX10_seat_6 ?_
    refine v_iload_n hC dX10_seat_9 rfl ?_
    obtain ⟨r4, M5, q6, h⟩ := bnd_some h
    refine w_callVi hC [.int v1] [] (ok_X6_dinerAt kTable_7 q6) mv_X6_dinerAt aw_484 ly_7 rfl (Nat.le_of_ble_eq_true rfl) ⟨by decide, by decide⟩ ⟨by decide, by decide⟩ dX10_seat_10 ?_
    cases h
    exact v_iret hC (by decide) (by decide) dX10_seat_13
  · cases h
    exact w_callVx hC hnt [.int v1] [] (ok_X10_needsSeat hl q3) mv_X10_needsSeat aw_938 ly_0 rfl (Nat.le_of_ble_eq_true rfl) ⟨by decide, by decide⟩ ⟨by decide, by decide⟩ dX10_seat_2 (by decide) (by decide)
def f_X10_remember (N : Nat) (M : Mm) : Option (Int32 × Mm) :=
  (if (M 0 9) < (0 : Int32) then some (0, M) else (if (12 : Int32) ≤ (M 0 9) then some (0, M) else grd (inb (M 0 9) 12) (grd (inb (M 0 9) 12) (bnd (f_X3_keeps N ((12 * ((M 0 9)).toNatClampNeg) + 64) 7 37 M) (fun r5 M6 => lt (wr M6 0 9 (((M6 0 9) + (1 : Int32)) - ((M6 0 9) + (1 : Int32)) / (12 : Int32) * (12 : Int32))) (fun M8 => lt (wr M8 0 10 (if ((M8 0 10) + (1 : Int32)) < (12 : Int32) then ((M8 0 10) + (1 : Int32)) else (12 : Int32))) (fun M9 => some (0, M9))))))))
set_option maxRecDepth 20000 in
set_option maxHeartbeats 4000000 in
theorem ok_X10_remember {l : Launch} {N : Nat} {M : Mm} {r : Int32} {M' : Mm} (h : f_X10_remember N M = some (r, M')) : am_M l yX10_remember cX10_remember 1 none 3 0 0 LY M [.ref 0] (.inl none) M' := by
  unfold f_X10_remember at h
  refine am_intro (by decide) (by simp [Value.category]) (Nat.le_of_ble_eq_true rfl) (fun X hC hnt => ?_)
  refine am_start (L := [some (.ref 0)]) rfl ?_
  refine v_aload_n hC dX10_remember_0 rfl ?_
  refine v_geti (k := 9) hC cls_X10 ly_0 (by decide) rfl aw_324 rfl dX10_remember_1 ?_
  refine v_if_lt hC 28 dX10_remember_4 rfl (fun c1 => ?_) (fun c1 => ?_)
  · rw [if_pos c1] at h
    cases h
    exact v_vret hC (by decide) (by decide) dX10_remember_28
  · rw [if_neg c1] at h
    refine v_aload_n hC dX10_remember_7 rfl ?_
    refine v_geti (k := 9) hC cls_X10 ly_0 (by decide) rfl aw_324 rfl dX10_remember_8 ?_
    refine v_bipush (v := (12 : Int32)) hC dX10_remember_11 rfl ?_
    refine v_icmp_ge hC 28 dX10_remember_13 rfl (fun c2 => ?_) (fun c2 => ?_)
    · rw [if_pos c2] at h
      cases h
      exact v_vret hC (by decide) (by decide) dX10_remember_28
    · rw [if_neg c2] at h
      refine v_aload_n hC dX10_remember_16 rfl ?_
      refine v_geta (k := 8) (b := 42) hC cls_X10 ly_0 (by decide) rfl aw_323 rfl dX10_remember_17 ?_
      refine v_aload_n hC dX10_remember_20 rfl ?_
      refine v_geti (k := 9) hC cls_X10 ly_0 (by decide) rfl aw_324 rfl dX10_remember_21 ?_
      obtain ⟨g3, h⟩ := grd_some h
      refine v_aald (b := ((12 * ((M 0 9)).toNatClampNeg) + 64)) hC ly_42 (inb_in g3) (rf_mom g3) dX10_remember_24 ?_
      refine v_ifnonnull hC 29 dX10_remember_25 rfl ?_
      refine v_aload_n hC dX10_remember_29 rfl ?_
      refine v_geta (k := 8) (b := 42) hC cls_X10 ly_0 (by decide) rfl aw_323 rfl dX10_remember_30 ?_
      refine v_aload_n hC dX10_remember_33 rfl ?_
      refine v_geti (k := 9) hC cls_X10 ly_0 (by decide) rfl aw_324 rfl dX10_remember_34 ?_
      obtain ⟨g4, h⟩ := grd_some h
      refine v_aald (b := ((12 * ((M 0 9)).toNatClampNeg) + 64)) hC ly_42 (inb_in g4) (rf_mom g4) dX10_remember_37 ?_
      refine v_aload_n hC dX10_remember_38 rfl ?_
      refine v_geta (k := 2) (b := 7) hC cls_X10 ly_0 (by decide) rfl aw_317 rfl dX10_remember_39 ?_
      refine v_aload_n hC dX10_remember_42 rfl ?_
      refine v_geta (k := 6) (b := 37) hC cls_X10 ly_0 (by decide) rfl aw_321 rfl dX10_remember_43 ?_
      obtain ⟨r5, M6, q7, h⟩ := bnd_some h
      refine w_callVv hC [.ref 7, .ref 37] [] (ok_X3_keeps (kM_at g4) kTable_7 kLog_37 q7) mv_X3_keeps aw_558 (kM_at g4).1 rfl (Nat.le_of_ble_eq_true rfl) ⟨by decide, by decide⟩ ⟨by decide, by decide⟩ dX10_remember_46 ?_
      refine v_aload_n hC dX10_remember_49 rfl ?_
      refine v_aload_n hC dX10_remember_50 rfl ?_
      refine v_geti (k := 9) hC cls_X10 ly_0 (by decide) rfl aw_324 rfl dX10_remember_51 ?_
      refine v_iconst (v := (1 : Int32)) hC dX10_remember_54 rfl ?_
      refine v_iadd hC dX10_remember_55 ?_
      refine v_bipush (v := (12 : Int32)) hC dX10_remember_56 rfl ?_
      refine v_irem hC dX10_remember_58 (by decide) ?_
      obtain ⟨M8, e_M8, h⟩ := lt_some h
      refine w_puti (k := 9) hC cls_X10 ly_0 (by decide) rfl aw_324 rfl rfl ⟨rfl, rfl⟩ dX10_remember_59 e_M8 ?_
      refine v_aload_n hC dX10_remember_62 rfl ?_
      refine v_bipush (v := (12 : Int32)) hC dX10_remember_63 rfl ?_
      refine v_aload_n hC dX10_remember_65 rfl ?_
      refine v_geti (k := 10) hC cls_X10 ly_0 (by decide) rfl aw_325 rfl dX10_remember_66 ?_
      refine v_iconst (v := (1 : Int32)) hC dX10_remember_69 rfl ?_
      refine v_iadd hC dX10_remember_70 ?_
      refine v_mmin hC aw_954 wm_min (Nat.le_of_ble_eq_true rfl) (Nat.le_of_ble_eq_true rfl) (Nat.le_of_ble_eq_true rfl) (Nat.le_of_ble_eq_true rfl) dX10_remember_71 ?_
      obtain ⟨M9, e_M9, h⟩ := lt_some h
      refine w_puti (k := 10) hC cls_X10 ly_0 (by decide) rfl aw_325 rfl rfl ⟨rfl, rfl⟩ dX10_remember_74 e_M9 ?_
      cases h
      exact v_vret hC (by decide) (by decide) dX10_remember_77
