def f_X11_end (N : Nat) (v1 : Int32) (M : Mm) : Option (Int32 × Mm) :=
  lt (wr M 208 0 (0 : Int32)) (fun M1 => (if v1 < (0 : Int32) then some ((0 : Int32), M1) else (if v1 ≤ (M1 208 9) then lt (wr M1 208 9 v1) (fun M4 => some ((1 : Int32), M4)) else some ((0 : Int32), M1))))
set_option maxRecDepth 20000 in
set_option maxHeartbeats 4000000 in
theorem ok_X11_end {l : Launch} {N : Nat} {v1 : Int32} {M : Mm} {r : Int32} {M' : Mm} (h : f_X11_end N v1 M = some (r, M')) : am_M l yX11_end cX11_end 2 (some .boolean) 1 0 0 LY M [.ref 208, .int v1] (.inl (some (.int r))) M' := by
  unfold f_X11_end at h
  refine am_intro (by decide) (by simp [Value.category]) (Nat.le_of_ble_eq_true rfl) (fun X hC hnt => ?_)
  refine am_start (L := [some (.ref 208), some (.int v1)]) rfl ?_
  refine v_aload_n hC dX11_end_0 rfl ?_
  refine v_iconst (v := (0 : Int32)) hC dX11_end_1 rfl ?_
  obtain ⟨M1, e_M1, h⟩ := lt_some h
  refine w_puti (k := 0) hC cls_X11 ly_208 (by decide) rfl aw_1231 rfl rfl ⟨rfl, rfl⟩ dX11_end_2 e_M1 ?_
  refine v_iload_n hC dX11_end_5 rfl ?_
  refine v_if_lt hC 17 dX11_end_6 rfl (fun c2 => ?_) (fun c2 => ?_)
  · rw [if_pos c2] at h
    refine v_iconst (v := (0 : Int32)) hC dX11_end_17 rfl ?_
    cases h
    exact v_zret hC (by decide) (by decide) (by decide) dX11_end_18
  · rw [if_neg c2] at h
    refine v_iload_n hC dX11_end_9 rfl ?_
    refine v_aload_n hC dX11_end_10 rfl ?_
    refine v_geti (k := 9) hC cls_X11 ly_208 (by decide) rfl aw_1240 rfl dX11_end_11 ?_
    refine v_icmp_le hC 19 dX11_end_14 rfl (fun c3 => ?_) (fun c3 => ?_)
    · rw [if_pos c3] at h
      refine v_aload_n hC dX11_end_19 rfl ?_
      refine v_iload_n hC dX11_end_20 rfl ?_
      obtain ⟨M4, e_M4, h⟩ := lt_some h
      refine w_puti (k := 9) hC cls_X11 ly_208 (by decide) rfl aw_1240 rfl rfl ⟨rfl, rfl⟩ dX11_end_21 e_M4 ?_
      refine v_iconst (v := (1 : Int32)) hC dX11_end_24 rfl ?_
      cases h
      exact v_zret hC (by decide) (by decide) (by decide) dX11_end_25
    · rw [if_neg c3] at h
      refine v_iconst (v := (0 : Int32)) hC dX11_end_17 rfl ?_
      cases h
      exact v_zret hC (by decide) (by decide) (by decide) dX11_end_18
def f_X11_isAt_41 (N : Nat) (M : Mm) : Option (Int32 × Mm) :=
  some ((0 : Int32), M)
def f_X11_isAt (N : Nat) (v1 : Int32) (v2 : Int32) (M : Mm) : Option (Int32 × Mm) :=
  (if (M 208 11) ≤ (M 208 10) then f_X11_isAt_41 N M else grd (inb (M 208 10) 400) ((if (M 214 ((M 208 10)).toNatClampNeg) < v1 then f_X11_isAt_41 N M else grd (inb (M 208 10) 400) ((if v2 < (M 214 ((M 208 10)).toNatClampNeg) then f_X11_isAt_41 N M else some ((1 : Int32), M))))))
set_option maxRecDepth 20000 in
set_option maxHeartbeats 4000000 in
theorem ok_X11_isAt_41 {N : Nat} {X : am_X} {l : Launch} (hC : am_C X l (am_rm 1 0 0) cX11_isAt yX11_isAt.cls (some .boolean)) (hnt : am_NT X) {M : Mm} {r : Int32} {M' : Mm} (h : f_X11_isAt_41 N M = some (r, M')) : am_V X LY M 0 0 (am_Q X LY 0 0 (.inl (some (.int r))) M') 41 [none, none, none] [] := by
  unfold f_X11_isAt_41 at h
  refine v_iconst (v := (0 : Int32)) hC dX11_isAt_41 rfl ?_
  cases h
  exact v_zret hC (by decide) (by decide) (by decide) dX11_isAt_42
set_option maxRecDepth 20000 in
set_option maxHeartbeats 4000000 in
theorem ok_X11_isAt {l : Launch} {N : Nat} {v1 v2 : Int32} {M : Mm} {r : Int32} {M' : Mm} (h : f_X11_isAt N v1 v2 M = some (r, M')) : am_M l yX11_isAt cX11_isAt 3 (some .boolean) 1 0 0 LY M [.ref 208, .int v1, .int v2] (.inl (some (.int r))) M' := by
  unfold f_X11_isAt at h
  refine am_intro (by decide) (by simp [Value.category]) (Nat.le_of_ble_eq_true rfl) (fun X hC hnt => ?_)
  refine am_start (L := [some (.ref 208), some (.int v1), some (.int v2)]) rfl ?_
  refine v_aload_n hC dX11_isAt_0 rfl ?_
  refine v_geti (k := 10) hC cls_X11 ly_208 (by decide) rfl aw_1241 rfl dX11_isAt_1 ?_
  refine v_aload_n hC dX11_isAt_4 rfl ?_
  refine v_geti (k := 11) hC cls_X11 ly_208 (by decide) rfl aw_1242 rfl dX11_isAt_5 ?_
  refine v_icmp_ge hC 41 dX11_isAt_8 rfl (fun c1 => ?_) (fun c1 => ?_)
  · rw [if_pos c1] at h
    refine v_drop [false, false, false] [none, none, none] rfl ?_
    exact ok_X11_isAt_41 hC hnt h
  · rw [if_neg c1] at h
    refine v_aload_n hC dX11_isAt_11 rfl ?_
    refine v_geta (k := 8) (b := 214) hC cls_X11 ly_208 (by decide) rfl aw_1239 rfl dX11_isAt_12 ?_
    refine v_aload_n hC dX11_isAt_15 rfl ?_
    refine v_geti (k := 10) hC cls_X11 ly_208 (by decide) rfl aw_1241 rfl dX11_isAt_16 ?_
    obtain ⟨g2, h⟩ := grd_some h
    refine v_bald hC ly_214 (inb_in g2) dX11_isAt_19 ?_
    refine v_iload_n hC dX11_isAt_20 rfl ?_
    refine v_icmp_lt hC 41 dX11_isAt_21 rfl (fun c3 => ?_) (fun c3 => ?_)
    · rw [if_pos c3] at h
      refine v_drop [false, false, false] [none, none, none] rfl ?_
      exact ok_X11_isAt_41 hC hnt h
    · rw [if_neg c3] at h
      refine v_aload_n hC dX11_isAt_24 rfl ?_
      refine v_geta (k := 8) (b := 214) hC cls_X11 ly_208 (by decide) rfl aw_1239 rfl dX11_isAt_25 ?_
      refine v_aload_n hC dX11_isAt_28 rfl ?_
      refine v_geti (k := 10) hC cls_X11 ly_208 (by decide) rfl aw_1241 rfl dX11_isAt_29 ?_
      obtain ⟨g4, h⟩ := grd_some h
      refine v_bald hC ly_214 (inb_in g4) dX11_isAt_32 ?_
      refine v_iload_n hC dX11_isAt_33 rfl ?_
      refine v_icmp_gt hC 41 dX11_isAt_34 rfl (fun c5 => ?_) (fun c5 => ?_)
      · rw [if_pos c5] at h
        refine v_drop [false, false, false] [none, none, none] rfl ?_
        exact ok_X11_isAt_41 hC hnt h
      · rw [if_neg c5] at h
        refine v_iconst (v := (1 : Int32)) hC dX11_isAt_37 rfl ?_
        refine v_goto (tg := 42) hC dX11_isAt_38 rfl ?_
        cases h
        exact v_zret hC (by decide) (by decide) (by decide) dX11_isAt_42
def f_X11_blanks_0 (N : Nat) : Nat → Mm → Option (Int32 × Mm)
  | 0, _ => none
  | n + 1, M => bnd (f_X11_isAt N (32 : Int32) (32 : Int32) M) (fun r1 M2 => (if r1 = (0 : Int32) then lt (wr M2 208 12 (M2 208 10)) (fun M5 => some (0, M5)) else lt (wr M2 208 10 ((M2 208 10) + (1 : Int32))) (fun M6 => f_X11_blanks_0 N n M6)))
def f_X11_blanks (N : Nat) (M : Mm) : Option (Int32 × Mm) :=
  f_X11_blanks_0 N N M
set_option maxRecDepth 20000 in
set_option maxHeartbeats 4000000 in
theorem ok_X11_blanks_0 {N : Nat} {X : am_X} {l : Launch} (hC : am_C X l (am_rm 2 0 0) cX11_blanks yX11_blanks.cls none) (hnt : am_NT X) : ∀ (n : Nat) (M : Mm) (r : Int32) (M' : Mm), f_X11_blanks_0 N n  M = some (r, M') → am_V X LY M 0 0 (am_Q X LY 0 0 (.inl none) M') 0 [some (.ref 208)] [] := by
  intro n
  induction n with
  | zero => intro  M r M' h; cases h
  | succ n ih =>
    intro  M r M' h
    simp only [f_X11_blanks_0] at h
    refine v_aload_n hC dX11_blanks_0 rfl ?_
    refine v_bipush (v := (32 : Int32)) hC dX11_blanks_1 rfl ?_
    refine v_bipush (v := (32 : Int32)) hC dX11_blanks_3 rfl ?_
    obtain ⟨r1, M2, q3, h⟩ := bnd_some h
    refine w_callVi hC [.int (32 : Int32), .int (32 : Int32)] [] (ok_X11_isAt q3) mv_X11_isAt aw_1335 ly_208 rfl (Nat.le_of_ble_eq_true rfl) ⟨by decide, by decide⟩ ⟨by decide, by decide⟩ dX11_blanks_5 ?_
    refine v_if_eq hC 24 dX11_blanks_8 rfl (fun c4 => ?_) (fun c4 => ?_)
    · rw [if_pos c4] at h
      refine v_aload_n hC dX11_blanks_24 rfl ?_
      refine v_aload_n hC dX11_blanks_25 rfl ?_
      refine v_geti (k := 10) hC cls_X11 ly_208 (by decide) rfl aw_1241 rfl dX11_blanks_26 ?_
      obtain ⟨M5, e_M5, h⟩ := lt_some h
      refine w_puti (k := 12) hC cls_X11 ly_208 (by decide) rfl aw_1243 rfl rfl ⟨rfl, rfl⟩ dX11_blanks_29 e_M5 ?_
      cases h
      exact v_vret hC (by decide) (by decide) dX11_blanks_32
    · rw [if_neg c4] at h
      refine v_aload_n hC dX11_blanks_11 rfl ?_
      refine v_dup hC dX11_blanks_12 rfl ?_
      refine v_geti (k := 10) hC cls_X11 ly_208 (by decide) rfl aw_1241 rfl dX11_blanks_13 ?_
      refine v_iconst (v := (1 : Int32)) hC dX11_blanks_16 rfl ?_
      refine v_iadd hC dX11_blanks_17 ?_
      obtain ⟨M6, e_M6, h⟩ := lt_some h
      refine w_puti (k := 10) hC cls_X11 ly_208 (by decide) rfl aw_1241 rfl rfl ⟨rfl, rfl⟩ dX11_blanks_18 e_M6 ?_
      refine v_goto (tg := 0) hC dX11_blanks_21 rfl ?_
      exact ih _ _ _ h
set_option maxRecDepth 20000 in
set_option maxHeartbeats 4000000 in
theorem ok_X11_blanks {l : Launch} {N : Nat} {M : Mm} {r : Int32} {M' : Mm} (h : f_X11_blanks N M = some (r, M')) : am_M l yX11_blanks cX11_blanks 1 none 2 0 0 LY M [.ref 208] (.inl none) M' := by
  unfold f_X11_blanks at h
  refine am_intro (by decide) (by simp [Value.category]) (Nat.le_of_ble_eq_true rfl) (fun X hC hnt => ?_)
  refine am_start (L := [some (.ref 208)]) rfl ?_
  exact ok_X11_blanks_0 hC hnt N _ _ _ h
def f_X11_letters_4 (N : Nat) : Nat → Mm → Option (Int32 × Mm)
  | 0, _ => none
  | n + 1, M => bnd (f_X11_isAt N (97 : Int32) (122 : Int32) M) (fun r4 M5 => (if r4 = (0 : Int32) then some (0, M5) else lt (wr M5 208 10 ((M5 208 10) + (1 : Int32))) (fun M8 => f_X11_letters_4 N n M8)))
def f_X11_letters (N : Nat) (M : Mm) : Option (Int32 × Mm) :=
  bnd (f_X11_blanks N M) (fun r1 M2 => f_X11_letters_4 N N M2)
set_option maxRecDepth 20000 in
set_option maxHeartbeats 4000000 in
theorem ok_X11_letters_4 {N : Nat} {X : am_X} {l : Launch} (hC : am_C X l (am_rm 3 0 0) cX11_letters yX11_letters.cls none) (hnt : am_NT X) : ∀ (n : Nat) (M : Mm) (r : Int32) (M' : Mm), f_X11_letters_4 N n  M = some (r, M') → am_V X LY M 0 0 (am_Q X LY 0 0 (.inl none) M') 4 [some (.ref 208)] [] := by
  intro n
  induction n with
  | zero => intro  M r M' h; cases h
  | succ n ih =>
    intro  M r M' h
    simp only [f_X11_letters_4] at h
    refine v_aload_n hC dX11_letters_4 rfl ?_
    refine v_bipush (v := (97 : Int32)) hC dX11_letters_5 rfl ?_
    refine v_bipush (v := (122 : Int32)) hC dX11_letters_7 rfl ?_
    obtain ⟨r4, M5, q6, h⟩ := bnd_some h
    refine w_callVi hC [.int (97 : Int32), .int (122 : Int32)] [] (ok_X11_isAt q6) mv_X11_isAt aw_1335 ly_208 rfl (Nat.le_of_ble_eq_true rfl) ⟨by decide, by decide⟩ ⟨by decide, by decide⟩ dX11_letters_9 ?_
    refine v_if_eq hC 28 dX11_letters_12 rfl (fun c7 => ?_) (fun c7 => ?_)
    · rw [if_pos c7] at h
      cases h
      exact v_vret hC (by decide) (by decide) dX11_letters_28
    · rw [if_neg c7] at h
      refine v_aload_n hC dX11_letters_15 rfl ?_
      refine v_dup hC dX11_letters_16 rfl ?_
      refine v_geti (k := 10) hC cls_X11 ly_208 (by decide) rfl aw_1241 rfl dX11_letters_17 ?_
      refine v_iconst (v := (1 : Int32)) hC dX11_letters_20 rfl ?_
      refine v_iadd hC dX11_letters_21 ?_
      obtain ⟨M8, e_M8, h⟩ := lt_some h
      refine w_puti (k := 10) hC cls_X11 ly_208 (by decide) rfl aw_1241 rfl rfl ⟨rfl, rfl⟩ dX11_letters_22 e_M8 ?_
      refine v_goto (tg := 4) hC dX11_letters_25 rfl ?_
      exact ih _ _ _ h
set_option maxRecDepth 20000 in
set_option maxHeartbeats 4000000 in
theorem ok_X11_letters {l : Launch} {N : Nat} {M : Mm} {r : Int32} {M' : Mm} (h : f_X11_letters N M = some (r, M')) : am_M l yX11_letters cX11_letters 1 none 3 0 0 LY M [.ref 208] (.inl none) M' := by
  unfold f_X11_letters at h
  refine am_intro (by decide) (by simp [Value.category]) (Nat.le_of_ble_eq_true rfl) (fun X hC hnt => ?_)
  refine am_start (L := [some (.ref 208)]) rfl ?_
  refine v_aload_n hC dX11_letters_0 rfl ?_
  obtain ⟨r1, M2, q3, h⟩ := bnd_some h
  refine w_callVv hC [] [] (ok_X11_blanks q3) mv_X11_blanks aw_1331 ly_208 rfl (Nat.le_of_ble_eq_true rfl) ⟨by decide, by decide⟩ ⟨by decide, by decide⟩ dX11_letters_1 ?_
  exact ok_X11_letters_4 hC hnt N _ _ _ h
def f_X11_isWord_24 (N : Nat) (a1 : Nat) : Nat → Int32 → Int32 → Mm → Option (Int32 × Mm)
  | 0, _, _, _ => none
  | n + 1, v2, v3, M => (if v2 = (0 : Int32) then grd (isb v2) (some (v2, M)) else bnd (f_slen a1 M) (fun r7 M8 => (if r7 ≤ v3 then grd (isb v2) (some (v2, M8)) else grd (inb ((M8 208 12) + v3) 400) (bnd (f_schr a1 v3 M8) (fun r13 M14 => (if (M8 214 (((M8 208 12) + v3)).toNatClampNeg) = r13 then f_X11_isWord_24 N a1 n (1 : Int32) (v3 + (1 : Int32)) M14 else f_X11_isWord_24 N a1 n (0 : Int32) (v3 + (1 : Int32)) M14))))))
def f_X11_isWord (N : Nat) (a1 : Nat) (M : Mm) : Option (Int32 × Mm) :=
  bnd (f_slen a1 M) (fun r1 M2 => (if ((M 208 10) - (M 208 12)) = r1 then f_X11_isWord_24 N a1 N (1 : Int32) (0 : Int32) M2 else f_X11_isWord_24 N a1 N (0 : Int32) (0 : Int32) M2))
set_option maxRecDepth 20000 in
set_option maxHeartbeats 4000000 in
theorem ok_X11_isWord_24 {N : Nat} {X : am_X} {l : Launch} (hC : am_C X l (am_rm 5 0 0) cX11_isWord yX11_isWord.cls (some .boolean)) (hnt : am_NT X) {a1 : Nat} : ∀ (n : Nat) (v2 v3 : Int32) (M : Mm) (r : Int32) (M' : Mm), f_X11_isWord_24 N a1 n v2 v3 M = some (r, M') → am_V X LY M 0 0 (am_Q X LY 0 0 (.inl (some (.int r))) M') 24 [some (.ref 208), some (.ref a1), some (.int v2), some (.int v3)] [] := by
  intro n
  induction n with
  | zero => intro v2 v3 M r M' h; cases h
  | succ n ih =>
    intro v2 v3 M r M' h
    simp only [f_X11_isWord_24] at h
    refine v_iload_n hC dX11_isWord_24 rfl ?_
    refine v_if_eq hC 67 dX11_isWord_25 rfl (fun c5 => ?_) (fun c5 => ?_)
    · rw [if_pos c5] at h
      refine v_iload_n hC dX11_isWord_67 rfl ?_
      obtain ⟨g6, h⟩ := grd_some h
      cases h
      exact v_zret hC (isb_nar g6).1 (by decide) (by decide) dX11_isWord_68
    · rw [if_neg c5] at h
      refine v_iload_n hC dX11_isWord_28 rfl ?_
      refine v_aload_n hC dX11_isWord_29 rfl ?_
      obtain ⟨r7, M8, q9, h⟩ := bnd_some h
      refine w_slen hC [.int v3] q9 aw_1356 (Nat.le_of_ble_eq_true rfl) ⟨by decide, by decide⟩ ⟨by decide, by decide⟩ dX11_isWord_30 ?_
      refine v_icmp_ge hC 67 dX11_isWord_33 rfl (fun c10 => ?_) (fun c10 => ?_)
      · rw [if_pos c10] at h
        refine v_iload_n hC dX11_isWord_67 rfl ?_
        obtain ⟨g11, h⟩ := grd_some h
        cases h
        exact v_zret hC (isb_nar g11).1 (by decide) (by decide) dX11_isWord_68
      · rw [if_neg c10] at h
        refine v_aload_n hC dX11_isWord_36 rfl ?_
        refine v_geta (k := 8) (b := 214) hC cls_X11 ly_208 (by decide) rfl aw_1239 rfl dX11_isWord_37 ?_
        refine v_aload_n hC dX11_isWord_40 rfl ?_
        refine v_geti (k := 12) hC cls_X11 ly_208 (by decide) rfl aw_1243 rfl dX11_isWord_41 ?_
        refine v_iload_n hC dX11_isWord_44 rfl ?_
        refine v_iadd hC dX11_isWord_45 ?_
        obtain ⟨g12, h⟩ := grd_some h
        refine v_bald hC ly_214 (inb_in g12) dX11_isWord_46 ?_
        refine v_aload_n hC dX11_isWord_47 rfl ?_
        refine v_iload_n hC dX11_isWord_48 rfl ?_
        obtain ⟨r13, M14, q15, h⟩ := bnd_some h
        refine w_schr hC [.int (M8 214 (((M8 208 12) + v3)).toNatClampNeg)] q15 aw_1357 (Nat.le_of_ble_eq_true rfl) ⟨by decide, by decide⟩ ⟨by decide, by decide⟩ dX11_isWord_49 ?_
        refine v_icmp_ne hC 59 dX11_isWord_52 rfl (fun c16 => ?_) (fun c16 => ?_)
        · rw [if_neg c16] at h
          refine v_iconst (v := (0 : Int32)) hC dX11_isWord_59 rfl ?_
          refine w_istore_n hC dX11_isWord_60 (ltk rfl) [some (.ref 208), some (.ref a1), some (.int (0 : Int32)), some (.int v3)] rfl ?_
          refine w_iinc hC (v3 + (1 : Int32)) dX11_isWord_61 rfl rfl [some (.ref 208), some (.ref a1), some (.int (0 : Int32)), some (.int (v3 + (1 : Int32)))] rfl ?_
          refine v_goto (tg := 24) hC dX11_isWord_64 rfl ?_
          exact ih _ _ _ _ _ h
        · rw [if_pos c16] at h
          refine v_iconst (v := (1 : Int32)) hC dX11_isWord_55 rfl ?_
          refine v_goto (tg := 60) hC dX11_isWord_56 rfl ?_
          refine w_istore_n hC dX11_isWord_60 (ltk rfl) [some (.ref 208), some (.ref a1), some (.int (1 : Int32)), some (.int v3)] rfl ?_
          refine w_iinc hC (v3 + (1 : Int32)) dX11_isWord_61 rfl rfl [some (.ref 208), some (.ref a1), some (.int (1 : Int32)), some (.int (v3 + (1 : Int32)))] rfl ?_
          refine v_goto (tg := 24) hC dX11_isWord_64 rfl ?_
          exact ih _ _ _ _ _ h
set_option maxRecDepth 20000 in
set_option maxHeartbeats 4000000 in
theorem ok_X11_isWord {l : Launch} {N : Nat} {a1 : Nat} {M : Mm} {r : Int32} {M' : Mm} (h : f_X11_isWord N a1 M = some (r, M')) : am_M l yX11_isWord cX11_isWord 4 (some .boolean) 5 0 0 LY M [.ref 208, .ref a1] (.inl (some (.int r))) M' := by
  unfold f_X11_isWord at h
  refine am_intro (by decide) (by simp [Value.category]) (Nat.le_of_ble_eq_true rfl) (fun X hC hnt => ?_)
  refine am_start (L := [some (.ref 208), some (.ref a1), none, none]) rfl ?_
  refine v_aload_n hC dX11_isWord_0 rfl ?_
  refine v_geti (k := 10) hC cls_X11 ly_208 (by decide) rfl aw_1241 rfl dX11_isWord_1 ?_
  refine v_aload_n hC dX11_isWord_4 rfl ?_
  refine v_geti (k := 12) hC cls_X11 ly_208 (by decide) rfl aw_1243 rfl dX11_isWord_5 ?_
  refine v_isub hC dX11_isWord_8 ?_
  refine v_aload_n hC dX11_isWord_9 rfl ?_
  obtain ⟨r1, M2, q3, h⟩ := bnd_some h
  refine w_slen hC [.int ((M 208 10) - (M 208 12))] q3 aw_1356 (Nat.le_of_ble_eq_true rfl) ⟨by decide, by decide⟩ ⟨by decide, by decide⟩ dX11_isWord_10 ?_
  refine v_icmp_ne hC 20 dX11_isWord_13 rfl (fun c4 => ?_) (fun c4 => ?_)
  · rw [if_neg c4] at h
    refine v_iconst (v := (0 : Int32)) hC dX11_isWord_20 rfl ?_
    refine w_istore_n hC dX11_isWord_21 (ltk rfl) [some (.ref 208), some (.ref a1), some (.int (0 : Int32)), none] rfl ?_
    refine v_iconst (v := (0 : Int32)) hC dX11_isWord_22 rfl ?_
    refine w_istore_n hC dX11_isWord_23 (ltk rfl) [some (.ref 208), some (.ref a1), some (.int (0 : Int32)), some (.int (0 : Int32))] rfl ?_
    exact ok_X11_isWord_24 hC hnt N _ _ _ _ _ h
  · rw [if_pos c4] at h
    refine v_iconst (v := (1 : Int32)) hC dX11_isWord_16 rfl ?_
    refine v_goto (tg := 21) hC dX11_isWord_17 rfl ?_
    refine w_istore_n hC dX11_isWord_21 (ltk rfl) [some (.ref 208), some (.ref a1), some (.int (1 : Int32)), none] rfl ?_
    refine v_iconst (v := (0 : Int32)) hC dX11_isWord_22 rfl ?_
    refine w_istore_n hC dX11_isWord_23 (ltk rfl) [some (.ref 208), some (.ref a1), some (.int (1 : Int32)), some (.int (0 : Int32))] rfl ?_
    exact ok_X11_isWord_24 hC hnt N _ _ _ _ _ h
def f_X11_passes (N : Nat) (a1 : Nat) (M : Mm) : Option (Int32 × Mm) :=
  bnd (f_X11_letters N M) (fun r1 M2 => bnd (f_X11_isWord N a1 M2) (fun r4 M5 => (if r4 = (0 : Int32) then lt (wr M5 208 10 (M5 208 12)) (fun M8 => some ((0 : Int32), M8)) else some ((1 : Int32), M5))))
set_option maxRecDepth 20000 in
set_option maxHeartbeats 4000000 in
theorem ok_X11_passes {l : Launch} {N : Nat} {a1 : Nat} {M : Mm} {r : Int32} {M' : Mm} (h : f_X11_passes N a1 M = some (r, M')) : am_M l yX11_passes cX11_passes 2 (some .boolean) 6 0 0 LY M [.ref 208, .ref a1] (.inl (some (.int r))) M' := by
  unfold f_X11_passes at h
  refine am_intro (by decide) (by simp [Value.category]) (Nat.le_of_ble_eq_true rfl) (fun X hC hnt => ?_)
  refine am_start (L := [some (.ref 208), some (.ref a1)]) rfl ?_
  refine v_aload_n hC dX11_passes_0 rfl ?_
  obtain ⟨r1, M2, q3, h⟩ := bnd_some h
  refine w_callVv hC [] [] (ok_X11_letters q3) mv_X11_letters aw_1343 ly_208 rfl (Nat.le_of_ble_eq_true rfl) ⟨by decide, by decide⟩ ⟨by decide, by decide⟩ dX11_passes_1 ?_
  refine v_aload_n hC dX11_passes_4 rfl ?_
  refine v_aload_n hC dX11_passes_5 rfl ?_
  obtain ⟨r4, M5, q6, h⟩ := bnd_some h
  refine w_callVi hC [.ref a1] [] (ok_X11_isWord q6) mv_X11_isWord aw_1352 ly_208 rfl (Nat.le_of_ble_eq_true rfl) ⟨by decide, by decide⟩ ⟨by decide, by decide⟩ dX11_passes_6 ?_
  refine v_if_eq hC 14 dX11_passes_9 rfl (fun c7 => ?_) (fun c7 => ?_)
  · rw [if_pos c7] at h
    refine v_aload_n hC dX11_passes_14 rfl ?_
    refine v_aload_n hC dX11_passes_15 rfl ?_
    refine v_geti (k := 12) hC cls_X11 ly_208 (by decide) rfl aw_1243 rfl dX11_passes_16 ?_
    obtain ⟨M8, e_M8, h⟩ := lt_some h
    refine w_puti (k := 10) hC cls_X11 ly_208 (by decide) rfl aw_1241 rfl rfl ⟨rfl, rfl⟩ dX11_passes_19 e_M8 ?_
    refine v_iconst (v := (0 : Int32)) hC dX11_passes_22 rfl ?_
    cases h
    exact v_zret hC (by decide) (by decide) (by decide) dX11_passes_23
  · rw [if_neg c7] at h
    refine v_iconst (v := (1 : Int32)) hC dX11_passes_12 rfl ?_
    cases h
    exact v_zret hC (by decide) (by decide) (by decide) dX11_passes_13
def f_X11_sign (N : Nat) (v1 : Int32) (M : Mm) : Option (Int32 × Mm) :=
  bnd (f_X11_blanks N M) (fun r1 M2 => bnd (f_X11_isAt N v1 v1 M2) (fun r4 M5 => (if r4 = (0 : Int32) then some ((0 : Int32), M5) else lt (wr M5 208 10 ((M5 208 10) + (1 : Int32))) (fun M8 => some ((1 : Int32), M8)))))
set_option maxRecDepth 20000 in
set_option maxHeartbeats 4000000 in
theorem ok_X11_sign {l : Launch} {N : Nat} {v1 : Int32} {M : Mm} {r : Int32} {M' : Mm} (h : f_X11_sign N v1 M = some (r, M')) : am_M l yX11_sign cX11_sign 2 (some .boolean) 3 0 0 LY M [.ref 208, .int v1] (.inl (some (.int r))) M' := by
  unfold f_X11_sign at h
  refine am_intro (by decide) (by simp [Value.category]) (Nat.le_of_ble_eq_true rfl) (fun X hC hnt => ?_)
  refine am_start (L := [some (.ref 208), some (.int v1)]) rfl ?_
  refine v_aload_n hC dX11_sign_0 rfl ?_
  obtain ⟨r1, M2, q3, h⟩ := bnd_some h
  refine w_callVv hC [] [] (ok_X11_blanks q3) mv_X11_blanks aw_1331 ly_208 rfl (Nat.le_of_ble_eq_true rfl) ⟨by decide, by decide⟩ ⟨by decide, by decide⟩ dX11_sign_1 ?_
  refine v_aload_n hC dX11_sign_4 rfl ?_
  refine v_iload_n hC dX11_sign_5 rfl ?_
  refine v_iload_n hC dX11_sign_6 rfl ?_
  obtain ⟨r4, M5, q6, h⟩ := bnd_some h
  refine w_callVi hC [.int v1, .int v1] [] (ok_X11_isAt q6) mv_X11_isAt aw_1335 ly_208 rfl (Nat.le_of_ble_eq_true rfl) ⟨by decide, by decide⟩ ⟨by decide, by decide⟩ dX11_sign_7 ?_
  refine v_if_ne hC 15 dX11_sign_10 rfl (fun c7 => ?_) (fun c7 => ?_)
  · rw [if_neg c7] at h
    refine v_aload_n hC dX11_sign_15 rfl ?_
    refine v_dup hC dX11_sign_16 rfl ?_
    refine v_geti (k := 10) hC cls_X11 ly_208 (by decide) rfl aw_1241 rfl dX11_sign_17 ?_
    refine v_iconst (v := (1 : Int32)) hC dX11_sign_20 rfl ?_
    refine v_iadd hC dX11_sign_21 ?_
    obtain ⟨M8, e_M8, h⟩ := lt_some h
    refine w_puti (k := 10) hC cls_X11 ly_208 (by decide) rfl aw_1241 rfl rfl ⟨rfl, rfl⟩ dX11_sign_22 e_M8 ?_
    refine v_iconst (v := (1 : Int32)) hC dX11_sign_25 rfl ?_
    cases h
    exact v_zret hC (by decide) (by decide) (by decide) dX11_sign_26
  · rw [if_pos c7] at h
    refine v_iconst (v := (0 : Int32)) hC dX11_sign_13 rfl ?_
    cases h
    exact v_zret hC (by decide) (by decide) (by decide) dX11_sign_14
def f_X11_number_99 (N : Nat) (M : Mm) : Option (Int32 × Mm) :=
  some ((-1 : Int32), M)
def f_X11_number_51 (N : Nat) (k6 : Int32 → Int32 → Int32 → Mm → Option (Int32 × Mm)) (v1 : Int32) (v2 : Int32) (s0 : Int32) (M : Mm) : Option (Int32 × Mm) :=
  lt (wr M 208 10 ((M 208 10) + (1 : Int32))) (fun M13 => k6 v1 v2 s0 M13)
def f_X11_number_6 (N : Nat) : Nat → Int32 → Int32 → Int32 → Mm → Option (Int32 × Mm)
  | 0, _, _, _, _ => none
  | n + 1, v1, v2, v3, M => bnd (f_X11_isAt N (48 : Int32) (57 : Int32) M) (fun r4 M5 => (if r4 = (0 : Int32) then (if (M5 208 10) = (M5 208 12) then f_X11_number_99 N M5 else (if (3 : Int32) < ((M5 208 10) - (M5 208 12)) then f_X11_number_99 N M5 else (if v3 < v1 then f_X11_number_99 N M5 else (if v3 ≤ v2 then some (v3, M5) else f_X11_number_99 N M5)))) else (if (3 : Int32) ≤ ((M5 208 10) - (M5 208 12)) then f_X11_number_51 N (fun v1 v2 v3 M => f_X11_number_6 N n v1 v2 v3 M) v1 v2 v3 M5 else grd (inb (M5 208 10) 400) (f_X11_number_51 N (fun v1 v2 v3 M => f_X11_number_6 N n v1 v2 v3 M) v1 v2 ((((10 : Int32) * v3) + (M5 214 ((M5 208 10)).toNatClampNeg)) - (48 : Int32)) M5))))
def f_X11_number (N : Nat) (v1 : Int32) (v2 : Int32) (M : Mm) : Option (Int32 × Mm) :=
  bnd (f_X11_blanks N M) (fun r1 M2 => f_X11_number_6 N N v1 v2 (0 : Int32) M2)
set_option maxRecDepth 20000 in
set_option maxHeartbeats 4000000 in
theorem ok_X11_number_99 {N : Nat} {X : am_X} {l : Launch} (hC : am_C X l (am_rm 3 0 0) cX11_number yX11_number.cls (some .int)) (hnt : am_NT X) {M : Mm} {r : Int32} {M' : Mm} (h : f_X11_number_99 N M = some (r, M')) : am_V X LY M 0 0 (am_Q X LY 0 0 (.inl (some (.int r))) M') 99 [none, none, none, none] [] := by
  unfold f_X11_number_99 at h
  refine v_iconst (v := (-1 : Int32)) hC dX11_number_99 rfl ?_
  refine v_goto (tg := 104) hC dX11_number_100 rfl ?_
  cases h
  exact v_iret hC (by decide) (by decide) dX11_number_104
set_option maxRecDepth 20000 in
set_option maxHeartbeats 4000000 in
theorem ok_X11_number_51 {N : Nat} {X : am_X} {l : Launch} (hC : am_C X l (am_rm 3 0 0) cX11_number yX11_number.cls (some .int)) (hnt : am_NT X) {k6 : Int32 → Int32 → Int32 → Mm → Option (Int32 × Mm)} (hk6 : ∀ (v1 v2 v3 : Int32) (M : Mm) (r : Int32) (M' : Mm), k6 v1 v2 v3 M = some (r, M') → am_V X LY M 0 0 (am_Q X LY 0 0 (.inl (some (.int r))) M') 6 [some (.ref 208), some (.int v1), some (.int v2), some (.int v3)] []) {v1 v2 s0 : Int32} {M : Mm} {r : Int32} {M' : Mm} (h : f_X11_number_51 N k6 v1 v2 s0 M = some (r, M')) : am_V X LY M 0 0 (am_Q X LY 0 0 (.inl (some (.int r))) M') 51 [some (.ref 208), some (.int v1), some (.int v2), none] [.int s0] := by
  unfold f_X11_number_51 at h
  refine w_istore_n hC dX11_number_51 (ltk rfl) [some (.ref 208), some (.int v1), some (.int v2), some (.int s0)] rfl ?_
  refine v_aload_n hC dX11_number_52 rfl ?_
  refine v_dup hC dX11_number_53 rfl ?_
  refine v_geti (k := 10) hC cls_X11 ly_208 (by decide) rfl aw_1241 rfl dX11_number_54 ?_
  refine v_iconst (v := (1 : Int32)) hC dX11_number_57 rfl ?_
  refine v_iadd hC dX11_number_58 ?_
  obtain ⟨M13, e_M13, h⟩ := lt_some h
  refine w_puti (k := 10) hC cls_X11 ly_208 (by decide) rfl aw_1241 rfl rfl ⟨rfl, rfl⟩ dX11_number_59 e_M13 ?_
  refine v_goto (tg := 6) hC dX11_number_62 rfl ?_
  exact hk6 _ _ _ _ _ _ h
set_option maxRecDepth 20000 in
set_option maxHeartbeats 4000000 in
theorem ok_X11_number_6 {N : Nat} {X : am_X} {l : Launch} (hC : am_C X l (am_rm 3 0 0) cX11_number yX11_number.cls (some .int)) (hnt : am_NT X) : ∀ (n : Nat) (v1 v2 v3 : Int32) (M : Mm) (r : Int32) (M' : Mm), f_X11_number_6 N n v1 v2 v3 M = some (r, M') → am_V X LY M 0 0 (am_Q X LY 0 0 (.inl (some (.int r))) M') 6 [some (.ref 208), some (.int v1), some (.int v2), some (.int v3)] [] := by
  intro n
  induction n with
  | zero => intro v1 v2 v3 M r M' h; cases h
  | succ n ih =>
    intro v1 v2 v3 M r M' h
    simp only [f_X11_number_6] at h
    refine v_aload_n hC dX11_number_6 rfl ?_
    refine v_bipush (v := (48 : Int32)) hC dX11_number_7 rfl ?_
    refine v_bipush (v := (57 : Int32)) hC dX11_number_9 rfl ?_
    obtain ⟨r4, M5, q6, h⟩ := bnd_some h
    refine w_callVi hC [.int (48 : Int32), .int (57 : Int32)] [] (ok_X11_isAt q6) mv_X11_isAt aw_1335 ly_208 rfl (Nat.le_of_ble_eq_true rfl) ⟨by decide, by decide⟩ ⟨by decide, by decide⟩ dX11_number_11 ?_
    refine v_if_eq hC 65 dX11_number_14 rfl (fun c7 => ?_) (fun c7 => ?_)
    · rw [if_pos c7] at h
      refine v_aload_n hC dX11_number_65 rfl ?_
      refine v_geti (k := 10) hC cls_X11 ly_208 (by decide) rfl aw_1241 rfl dX11_number_66 ?_
      refine v_aload_n hC dX11_number_69 rfl ?_
      refine v_geti (k := 12) hC cls_X11 ly_208 (by decide) rfl aw_1243 rfl dX11_number_70 ?_
      refine v_icmp_eq hC 99 dX11_number_73 rfl (fun c8 => ?_) (fun c8 => ?_)
      · rw [if_pos c8] at h
        refine v_drop [false, false, false, false] [none, none, none, none] rfl ?_
        exact ok_X11_number_99 hC hnt h
      · rw [if_neg c8] at h
        refine v_aload_n hC dX11_number_76 rfl ?_
        refine v_geti (k := 10) hC cls_X11 ly_208 (by decide) rfl aw_1241 rfl dX11_number_77 ?_
        refine v_aload_n hC dX11_number_80 rfl ?_
        refine v_geti (k := 12) hC cls_X11 ly_208 (by decide) rfl aw_1243 rfl dX11_number_81 ?_
        refine v_isub hC dX11_number_84 ?_
        refine v_iconst (v := (3 : Int32)) hC dX11_number_85 rfl ?_
        refine v_icmp_gt hC 99 dX11_number_86 rfl (fun c9 => ?_) (fun c9 => ?_)
        · rw [if_pos c9] at h
          refine v_drop [false, false, false, false] [none, none, none, none] rfl ?_
          exact ok_X11_number_99 hC hnt h
        · rw [if_neg c9] at h
          refine v_iload_n hC dX11_number_89 rfl ?_
          refine v_iload_n hC dX11_number_90 rfl ?_
          refine v_icmp_lt hC 99 dX11_number_91 rfl (fun c10 => ?_) (fun c10 => ?_)
          · rw [if_pos c10] at h
            refine v_drop [false, false, false, false] [none, none, none, none] rfl ?_
            exact ok_X11_number_99 hC hnt h
          · rw [if_neg c10] at h
            refine v_iload_n hC dX11_number_94 rfl ?_
            refine v_iload_n hC dX11_number_95 rfl ?_
            refine v_icmp_le hC 103 dX11_number_96 rfl (fun c11 => ?_) (fun c11 => ?_)
            · rw [if_pos c11] at h
              refine v_iload_n hC dX11_number_103 rfl ?_
              cases h
              exact v_iret hC (by decide) (by decide) dX11_number_104
            · rw [if_neg c11] at h
              refine v_drop [false, false, false, false] [none, none, none, none] rfl ?_
              exact ok_X11_number_99 hC hnt h
    · rw [if_neg c7] at h
      refine v_aload_n hC dX11_number_17 rfl ?_
      refine v_geti (k := 10) hC cls_X11 ly_208 (by decide) rfl aw_1241 rfl dX11_number_18 ?_
      refine v_aload_n hC dX11_number_21 rfl ?_
      refine v_geti (k := 12) hC cls_X11 ly_208 (by decide) rfl aw_1243 rfl dX11_number_22 ?_
      refine v_isub hC dX11_number_25 ?_
      refine v_iconst (v := (3 : Int32)) hC dX11_number_26 rfl ?_
      refine v_icmp_ge hC 50 dX11_number_27 rfl (fun c12 => ?_) (fun c12 => ?_)
      · rw [if_pos c12] at h
        refine v_iload_n hC dX11_number_50 rfl ?_
        refine v_drop [true, true, true, false] [some (.ref 208), some (.int v1), some (.int v2), none] rfl ?_
        exact ok_X11_number_51 hC hnt (fun v1 v2 v3 M r M' h => ih v1 v2 v3 M r M' h) h
      · rw [if_neg c12] at h
        refine v_bipush (v := (10 : Int32)) hC dX11_number_30 rfl ?_
        refine v_iload_n hC dX11_number_32 rfl ?_
        refine v_imul hC dX11_number_33 ?_
        refine v_aload_n hC dX11_number_34 rfl ?_
        refine v_geta (k := 8) (b := 214) hC cls_X11 ly_208 (by decide) rfl aw_1239 rfl dX11_number_35 ?_
        refine v_aload_n hC dX11_number_38 rfl ?_
        refine v_geti (k := 10) hC cls_X11 ly_208 (by decide) rfl aw_1241 rfl dX11_number_39 ?_
        obtain ⟨g14, h⟩ := grd_some h
        refine v_bald hC ly_214 (inb_in g14) dX11_number_42 ?_
        refine v_iadd hC dX11_number_43 ?_
        refine v_bipush (v := (48 : Int32)) hC dX11_number_44 rfl ?_
        refine v_isub hC dX11_number_46 ?_
        refine v_goto (tg := 51) hC dX11_number_47 rfl ?_
        refine v_drop [true, true, true, false] [some (.ref 208), some (.int v1), some (.int v2), none] rfl ?_
        exact ok_X11_number_51 hC hnt (fun v1 v2 v3 M r M' h => ih v1 v2 v3 M r M' h) h
set_option maxRecDepth 20000 in
set_option maxHeartbeats 4000000 in
theorem ok_X11_number {l : Launch} {N : Nat} {v1 v2 : Int32} {M : Mm} {r : Int32} {M' : Mm} (h : f_X11_number N v1 v2 M = some (r, M')) : am_M l yX11_number cX11_number 4 (some .int) 3 0 0 LY M [.ref 208, .int v1, .int v2] (.inl (some (.int r))) M' := by
  unfold f_X11_number at h
  refine am_intro (by decide) (by simp [Value.category]) (Nat.le_of_ble_eq_true rfl) (fun X hC hnt => ?_)
  refine am_start (L := [some (.ref 208), some (.int v1), some (.int v2), none]) rfl ?_
  refine v_aload_n hC dX11_number_0 rfl ?_
  obtain ⟨r1, M2, q3, h⟩ := bnd_some h
  refine w_callVv hC [] [] (ok_X11_blanks q3) mv_X11_blanks aw_1331 ly_208 rfl (Nat.le_of_ble_eq_true rfl) ⟨by decide, by decide⟩ ⟨by decide, by decide⟩ dX11_number_1 ?_
  refine v_iconst (v := (0 : Int32)) hC dX11_number_4 rfl ?_
  refine w_istore_n hC dX11_number_5 (ltk rfl) [some (.ref 208), some (.int v1), some (.int v2), some (.int (0 : Int32))] rfl ?_
  exact ok_X11_number_6 hC hnt N _ _ _ _ _ _ h
def f_X11_after (N : Nat) (a1 : Nat) (v2 : Int32) (v3 : Int32) (M : Mm) : Option (Int32 × Mm) :=
  bnd (f_X11_letters N M) (fun r1 M2 => bnd (f_X11_isWord N a1 M2) (fun r4 M5 => (if r4 = (0 : Int32) then some ((-1 : Int32), M5) else bnd (f_X11_number N v2 v3 M5) (fun r8 M9 => some (r8, M9)))))
set_option maxRecDepth 20000 in
set_option maxHeartbeats 4000000 in
theorem ok_X11_after {l : Launch} {N : Nat} {a1 : Nat} {v2 v3 : Int32} {M : Mm} {r : Int32} {M' : Mm} (h : f_X11_after N a1 v2 v3 M = some (r, M')) : am_M l yX11_after cX11_after 4 (some .int) 6 0 0 LY M [.ref 208, .ref a1, .int v2, .int v3] (.inl (some (.int r))) M' := by
  unfold f_X11_after at h
  refine am_intro (by decide) (by simp [Value.category]) (Nat.le_of_ble_eq_true rfl) (fun X hC hnt => ?_)
  refine am_start (L := [some (.ref 208), some (.ref a1), some (.int v2), some (.int v3)]) rfl ?_
  refine v_aload_n hC dX11_after_0 rfl ?_
  obtain ⟨r1, M2, q3, h⟩ := bnd_some h
  refine w_callVv hC [] [] (ok_X11_letters q3) mv_X11_letters aw_1343 ly_208 rfl (Nat.le_of_ble_eq_true rfl) ⟨by decide, by decide⟩ ⟨by decide, by decide⟩ dX11_after_1 ?_
  refine v_aload_n hC dX11_after_4 rfl ?_
  refine v_aload_n hC dX11_after_5 rfl ?_
  obtain ⟨r4, M5, q6, h⟩ := bnd_some h
  refine w_callVi hC [.ref a1] [] (ok_X11_isWord q6) mv_X11_isWord aw_1352 ly_208 rfl (Nat.le_of_ble_eq_true rfl) ⟨by decide, by decide⟩ ⟨by decide, by decide⟩ dX11_after_6 ?_
  refine v_if_eq hC 21 dX11_after_9 rfl (fun c7 => ?_) (fun c7 => ?_)
  · rw [if_pos c7] at h
    refine v_iconst (v := (-1 : Int32)) hC dX11_after_21 rfl ?_
    cases h
    exact v_iret hC (by decide) (by decide) dX11_after_22
  · rw [if_neg c7] at h
    refine v_aload_n hC dX11_after_12 rfl ?_
    refine v_iload_n hC dX11_after_13 rfl ?_
    refine v_iload_n hC dX11_after_14 rfl ?_
    obtain ⟨r8, M9, q10, h⟩ := bnd_some h
    refine w_callVi hC [.int v2, .int v3] [] (ok_X11_number q10) mv_X11_number aw_1371 ly_208 rfl (Nat.le_of_ble_eq_true rfl) ⟨by decide, by decide⟩ ⟨by decide, by decide⟩ dX11_after_15 ?_
    refine v_goto (tg := 22) hC dX11_after_18 rfl ?_
    cases h
    exact v_iret hC (by decide) (by decide) dX11_after_22
def f_X11_fault (N : Nat) (M : Mm) : Option (Int32 × Mm) :=
  lt (wr M 208 0 (0 : Int32)) (fun M1 => some ((M1 208 14), M1))
set_option maxRecDepth 20000 in
set_option maxHeartbeats 4000000 in
theorem ok_X11_fault {l : Launch} {N : Nat} {M : Mm} {r : Int32} {M' : Mm} (h : f_X11_fault N M = some (r, M')) : am_M l yX11_fault cX11_fault 1 (some .int) 1 0 0 LY M [.ref 208] (.inl (some (.int r))) M' := by
  unfold f_X11_fault at h
  refine am_intro (by decide) (by simp [Value.category]) (Nat.le_of_ble_eq_true rfl) (fun X hC hnt => ?_)
  refine am_start (L := [some (.ref 208)]) rfl ?_
  refine v_aload_n hC dX11_fault_0 rfl ?_
  refine v_iconst (v := (0 : Int32)) hC dX11_fault_1 rfl ?_
  obtain ⟨M1, e_M1, h⟩ := lt_some h
  refine w_puti (k := 0) hC cls_X11 ly_208 (by decide) rfl aw_1231 rfl rfl ⟨rfl, rfl⟩ dX11_fault_2 e_M1 ?_
  refine v_aload_n hC dX11_fault_5 rfl ?_
  refine v_geti (k := 14) hC cls_X11 ly_208 (by decide) rfl aw_1245 rfl dX11_fault_6 ?_
  cases h
  exact v_iret hC (by decide) (by decide) dX11_fault_9
def f_X11_uses (N : Nat) (M : Mm) : Option (Int32 × Mm) :=
  lt (wr M 208 0 (0 : Int32)) (fun M1 => lt (wr M1 208 11 (M1 208 9)) (fun M2 => lt (wr M2 208 9 (0 : Int32)) (fun M3 => lt (wr M3 208 10 (0 : Int32)) (fun M4 => some (0, M4)))))
set_option maxRecDepth 20000 in
set_option maxHeartbeats 4000000 in
theorem ok_X11_uses {l : Launch} {N : Nat} {M : Mm} {r : Int32} {M' : Mm} (h : f_X11_uses N M = some (r, M')) : am_M l yX11_uses cX11_uses 1 none 1 0 0 LY M [.ref 208] (.inl none) M' := by
  unfold f_X11_uses at h
  refine am_intro (by decide) (by simp [Value.category]) (Nat.le_of_ble_eq_true rfl) (fun X hC hnt => ?_)
  refine am_start (L := [some (.ref 208)]) rfl ?_
  refine v_aload_n hC dX11_uses_0 rfl ?_
  refine v_iconst (v := (0 : Int32)) hC dX11_uses_1 rfl ?_
  obtain ⟨M1, e_M1, h⟩ := lt_some h
  refine w_puti (k := 0) hC cls_X11 ly_208 (by decide) rfl aw_1231 rfl rfl ⟨rfl, rfl⟩ dX11_uses_2 e_M1 ?_
  refine v_aload_n hC dX11_uses_5 rfl ?_
  refine v_aload_n hC dX11_uses_6 rfl ?_
  refine v_geti (k := 9) hC cls_X11 ly_208 (by decide) rfl aw_1240 rfl dX11_uses_7 ?_
  obtain ⟨M2, e_M2, h⟩ := lt_some h
  refine w_puti (k := 11) hC cls_X11 ly_208 (by decide) rfl aw_1242 rfl rfl ⟨rfl, rfl⟩ dX11_uses_10 e_M2 ?_
  refine v_aload_n hC dX11_uses_13 rfl ?_
  refine v_iconst (v := (0 : Int32)) hC dX11_uses_14 rfl ?_
  obtain ⟨M3, e_M3, h⟩ := lt_some h
  refine w_puti (k := 9) hC cls_X11 ly_208 (by decide) rfl aw_1240 rfl rfl ⟨rfl, rfl⟩ dX11_uses_15 e_M3 ?_
  refine v_aload_n hC dX11_uses_18 rfl ?_
  refine v_iconst (v := (0 : Int32)) hC dX11_uses_19 rfl ?_
  obtain ⟨M4, e_M4, h⟩ := lt_some h
  refine w_puti (k := 10) hC cls_X11 ly_208 (by decide) rfl aw_1241 rfl rfl ⟨rfl, rfl⟩ dX11_uses_20 e_M4 ?_
  cases h
  exact v_vret hC (by decide) (by decide) dX11_uses_23
def f_X11_readNumber_29 (N : Nat) (v4 : Int32) (s1 : Int32) (s2 : Int32) (M : Mm) : Option (Int32 × Mm) :=
  grd (inb s1 2107) (lt (wr M 209 (s1).toNatClampNeg s2) (fun M6 => (if v4 < (0 : Int32) then some ((0 : Int32), M6) else some ((1 : Int32), M6))))
def f_X11_readNumber (N : Nat) (v1 : Int32) (v2 : Int32) (v3 : Int32) (M : Mm) : Option (Int32 × Mm) :=
  bnd (f_X11_number N v2 v3 M) (fun r1 M2 => (if (0 : Int32) ≤ r1 then f_X11_readNumber_29 N r1 v1 r1 M2 else grd (inb v1 2107) (f_X11_readNumber_29 N r1 v1 (M2 209 (v1).toNatClampNeg) M2)))
set_option maxRecDepth 20000 in
set_option maxHeartbeats 4000000 in
theorem ok_X11_readNumber_29 {N : Nat} {X : am_X} {l : Launch} (hC : am_C X l (am_rm 4 0 0) cX11_readNumber yX11_readNumber.cls (some .boolean)) (hnt : am_NT X) {v4 s1 s2 : Int32} {M : Mm} {r : Int32} {M' : Mm} (h : f_X11_readNumber_29 N v4 s1 s2 M = some (r, M')) : am_V X LY M 0 0 (am_Q X LY 0 0 (.inl (some (.int r))) M') 29 [none, none, none, none, some (.int v4)] [.int s2, .int s1, .ref 209] := by
  unfold f_X11_readNumber_29 at h
  obtain ⟨g5, h⟩ := grd_some h
  obtain ⟨M6, e_M6, h⟩ := lt_some h
  refine w_iast hC ly_209 (inb_in g5) dX11_readNumber_29 e_M6 ?_
  refine v_iload hC dX11_readNumber_30 rfl ?_
  refine v_if_lt hC 39 dX11_readNumber_32 rfl (fun c7 => ?_) (fun c7 => ?_)
  · rw [if_pos c7] at h
    refine v_iconst (v := (0 : Int32)) hC dX11_readNumber_39 rfl ?_
    cases h
    exact v_zret hC (by decide) (by decide) (by decide) dX11_readNumber_40
  · rw [if_neg c7] at h
    refine v_iconst (v := (1 : Int32)) hC dX11_readNumber_35 rfl ?_
    refine v_goto (tg := 40) hC dX11_readNumber_36 rfl ?_
    cases h
    exact v_zret hC (by decide) (by decide) (by decide) dX11_readNumber_40
set_option maxRecDepth 20000 in
set_option maxHeartbeats 4000000 in
theorem ok_X11_readNumber {l : Launch} {N : Nat} {v1 v2 v3 : Int32} {M : Mm} {r : Int32} {M' : Mm} (h : f_X11_readNumber N v1 v2 v3 M = some (r, M')) : am_M l yX11_readNumber cX11_readNumber 5 (some .boolean) 4 0 0 LY M [.ref 208, .int v1, .int v2, .int v3] (.inl (some (.int r))) M' := by
  unfold f_X11_readNumber at h
  refine am_intro (by decide) (by simp [Value.category]) (Nat.le_of_ble_eq_true rfl) (fun X hC hnt => ?_)
  refine am_start (L := [some (.ref 208), some (.int v1), some (.int v2), some (.int v3), none]) rfl ?_
  refine v_aload_n hC dX11_readNumber_0 rfl ?_
  refine v_iload_n hC dX11_readNumber_1 rfl ?_
  refine v_iload_n hC dX11_readNumber_2 rfl ?_
  obtain ⟨r1, M2, q3, h⟩ := bnd_some h
  refine w_callVi hC [.int v2, .int v3] [] (ok_X11_number q3) mv_X11_number aw_1371 ly_208 rfl (Nat.le_of_ble_eq_true rfl) ⟨by decide, by decide⟩ ⟨by decide, by decide⟩ dX11_readNumber_3 ?_
  refine w_istore hC dX11_readNumber_6 (ltk rfl) [some (.ref 208), some (.int v1), some (.int v2), some (.int v3), some (.int r1)] rfl ?_
  refine v_aload_n hC dX11_readNumber_8 rfl ?_
  refine v_geta (k := 1) (b := 209) hC cls_X11 ly_208 (by decide) rfl aw_1232 rfl dX11_readNumber_9 ?_
  refine v_iload_n hC dX11_readNumber_12 rfl ?_
  refine v_iload hC dX11_readNumber_13 rfl ?_
  refine v_if_ge hC 27 dX11_readNumber_15 rfl (fun c4 => ?_) (fun c4 => ?_)
  · rw [if_pos c4] at h
    refine v_iload hC dX11_readNumber_27 rfl ?_
    refine v_drop [false, false, false, false, true] [none, none, none, none, some (.int r1)] rfl ?_
    exact ok_X11_readNumber_29 hC hnt h
  · rw [if_neg c4] at h
    refine v_aload_n hC dX11_readNumber_18 rfl ?_
    refine v_geta (k := 1) (b := 209) hC cls_X11 ly_208 (by decide) rfl aw_1232 rfl dX11_readNumber_19 ?_
    refine v_iload_n hC dX11_readNumber_22 rfl ?_
    obtain ⟨g8, h⟩ := grd_some h
    refine v_iald hC ly_209 (inb_in g8) dX11_readNumber_23 ?_
    refine v_goto (tg := 29) hC dX11_readNumber_24 rfl ?_
    refine v_drop [false, false, false, false, true] [none, none, none, none, some (.int r1)] rfl ?_
    exact ok_X11_readNumber_29 hC hnt h
def f_X11_readDiner_105 (N : Nat) : Nat → Int32 → Int32 → Mm → Option (Int32 × Mm)
  | 0, _, _, _ => none
  | n + 1, v1, v4, M => (if (6 : Int32) ≤ v4 then grd (inb (0 : Int32) 2107) (grd (inb (0 : Int32) 2107) (lt (wr M 209 ((0 : Int32)).toNatClampNeg ((M 209 ((0 : Int32)).toNatClampNeg) + (1 : Int32))) (fun M39 => some ((1 : Int32), M39)))) else bnd (f_X11_dinerAt N v1 ((3 : Int32) + v4) M) (fun r40 M41 => grd (inb r40 2107) (lt (wr M41 209 (r40).toNatClampNeg (0 : Int32)) (fun M44 => f_X11_readDiner_105 N n v1 (v4 + (1 : Int32)) M44))))
def f_X11_readDiner_40 (N : Nat) (v1 : Int32) (v2 : Int32) (s0 : Int32) (M : Mm) : Option (Int32 × Mm) :=
  (if s0 < (0 : Int32) then some ((0 : Int32), M) else bnd (f_X11_dinerIn N s0 M) (fun r13 M14 => (if r13 = (-1 : Int32) then bnd (f_X11_dinerAt N v1 (0 : Int32) M14) (fun r17 M18 => grd (inb r17 2107) (lt (wr M18 209 (r17).toNatClampNeg s0) (fun M21 => bnd (f_X11_dinerAt N v1 (1 : Int32) M21) (fun r22 M23 => grd (inb r22 2107) (lt (wr M23 209 (r22).toNatClampNeg v2) (fun M26 => bnd (f_X11_dinerAt N v1 (2 : Int32) M26) (fun r27 M28 => bnd (f_X11_passes N 1000015 M28) (fun r30 M31 => (if r30 = (0 : Int32) then grd (inb r27 2107) (lt (wr M31 209 (r27).toNatClampNeg (0 : Int32)) (fun M35 => f_X11_readDiner_105 N N v1 (0 : Int32) M35)) else grd (inb r27 2107) (lt (wr M31 209 (r27).toNatClampNeg (1 : Int32)) (fun M47 => f_X11_readDiner_105 N N v1 (0 : Int32) M47))))))))))) else some ((0 : Int32), M14))))
def f_X11_readDiner (N : Nat) (M : Mm) : Option (Int32 × Mm) :=
  bnd (f_X11_diners N M) (fun r1 M2 => (if r1 = (8 : Int32) then some ((0 : Int32), M2) else bnd (f_X11_after N 1000013 (0 : Int32) (9 : Int32) M2) (fun r5 M6 => (if (0 : Int32) ≤ r5 then bnd (f_X11_after N 1000014 (0 : Int32) (9 : Int32) M6) (fun r9 M10 => f_X11_readDiner_40 N r1 r5 r9 M10) else f_X11_readDiner_40 N r1 r5 (-1 : Int32) M6))))
set_option maxRecDepth 20000 in
set_option maxHeartbeats 4000000 in
theorem ok_X11_readDiner_105 {N : Nat} {X : am_X} {l : Launch} (hC : am_C X l (am_rm 7 0 0) cX11_readDiner yX11_readDiner.cls (some .boolean)) (hnt : am_NT X) : ∀ (n : Nat) (v1 v4 : Int32) (M : Mm) (r : Int32) (M' : Mm), f_X11_readDiner_105 N n v1 v4 M = some (r, M') → am_V X LY M 0 0 (am_Q X LY 0 0 (.inl (some (.int r))) M') 105 [some (.ref 208), some (.int v1), none, none, some (.int v4)] [] := by
  intro n
  induction n with
  | zero => intro v1 v4 M r M' h; cases h
  | succ n ih =>
    intro v1 v4 M r M' h
    simp only [f_X11_readDiner_105] at h
    refine v_iload hC dX11_readDiner_105 rfl ?_
    refine v_bipush (v := (6 : Int32)) hC dX11_readDiner_107 rfl ?_
    refine v_icmp_ge hC 132 dX11_readDiner_109 rfl (fun c36 => ?_) (fun c36 => ?_)
    · rw [if_pos c36] at h
      refine v_aload_n hC dX11_readDiner_132 rfl ?_
      refine v_geta (k := 1) (b := 209) hC cls_X11 ly_208 (by decide) rfl aw_1232 rfl dX11_readDiner_133 ?_
      refine v_iconst (v := (0 : Int32)) hC dX11_readDiner_136 rfl ?_
      refine v_dup2 hC dX11_readDiner_137 rfl rfl ?_
      obtain ⟨g37, h⟩ := grd_some h
      refine v_iald hC ly_209 (inb_in g37) dX11_readDiner_138 ?_
      refine v_iconst (v := (1 : Int32)) hC dX11_readDiner_139 rfl ?_
      refine v_iadd hC dX11_readDiner_140 ?_
      obtain ⟨g38, h⟩ := grd_some h
      obtain ⟨M39, e_M39, h⟩ := lt_some h
      refine w_iast hC ly_209 (inb_in g38) dX11_readDiner_141 e_M39 ?_
      refine v_iconst (v := (1 : Int32)) hC dX11_readDiner_142 rfl ?_
      cases h
      exact v_zret hC (by decide) (by decide) (by decide) dX11_readDiner_143
    · rw [if_neg c36] at h
      refine v_aload_n hC dX11_readDiner_112 rfl ?_
      refine v_geta (k := 1) (b := 209) hC cls_X11 ly_208 (by decide) rfl aw_1232 rfl dX11_readDiner_113 ?_
      refine v_iload_n hC dX11_readDiner_116 rfl ?_
      refine v_iconst (v := (3 : Int32)) hC dX11_readDiner_117 rfl ?_
      refine v_iload hC dX11_readDiner_118 rfl ?_
      refine v_iadd hC dX11_readDiner_120 ?_
      obtain ⟨r40, M41, q42, h⟩ := bnd_some h
      refine w_callSi hC [.int v1, .int ((3 : Int32) + v4)] [.ref 209] (ok_X11_dinerAt q42) ms_X11_dinerAt aw_1384 rfl (Nat.le_of_ble_eq_true rfl) ⟨by decide, by decide⟩ ⟨by decide, by decide⟩ dX11_readDiner_121 ?_
      refine v_iconst (v := (0 : Int32)) hC dX11_readDiner_124 rfl ?_
      obtain ⟨g43, h⟩ := grd_some h
      obtain ⟨M44, e_M44, h⟩ := lt_some h
      refine w_iast hC ly_209 (inb_in g43) dX11_readDiner_125 e_M44 ?_
      refine w_iinc hC (v4 + (1 : Int32)) dX11_readDiner_126 rfl rfl [some (.ref 208), some (.int v1), none, none, some (.int (v4 + (1 : Int32)))] rfl ?_
      refine v_goto (tg := 105) hC dX11_readDiner_129 rfl ?_
      exact ih _ _ _ _ _ h
set_option maxRecDepth 20000 in
set_option maxHeartbeats 4000000 in
theorem ok_X11_readDiner_40 {N : Nat} {X : am_X} {l : Launch} (hC : am_C X l (am_rm 7 0 0) cX11_readDiner yX11_readDiner.cls (some .boolean)) (hnt : am_NT X) {v1 v2 s0 : Int32} {M : Mm} {r : Int32} {M' : Mm} (h : f_X11_readDiner_40 N v1 v2 s0 M = some (r, M')) : am_V X LY M 0 0 (am_Q X LY 0 0 (.inl (some (.int r))) M') 40 [some (.ref 208), some (.int v1), some (.int v2), none, none] [.int s0] := by
  unfold f_X11_readDiner_40 at h
  refine w_istore_n hC dX11_readDiner_40 (ltk rfl) [some (.ref 208), some (.int v1), some (.int v2), some (.int s0), none] rfl ?_
  refine v_iload_n hC dX11_readDiner_41 rfl ?_
  refine v_if_lt hC 54 dX11_readDiner_42 rfl (fun c12 => ?_) (fun c12 => ?_)
  · rw [if_pos c12] at h
    refine v_iconst (v := (0 : Int32)) hC dX11_readDiner_54 rfl ?_
    cases h
    exact v_zret hC (by decide) (by decide) (by decide) dX11_readDiner_55
  · rw [if_neg c12] at h
    refine v_aload_n hC dX11_readDiner_45 rfl ?_
    refine v_iload_n hC dX11_readDiner_46 rfl ?_
    obtain ⟨r13, M14, q15, h⟩ := bnd_some h
    refine w_callVi hC [.int s0] [] (ok_X11_dinerIn q15) mv_X11_dinerIn aw_1376 ly_208 rfl (Nat.le_of_ble_eq_true rfl) ⟨by decide, by decide⟩ ⟨by decide, by decide⟩ dX11_readDiner_47 ?_
    refine v_iconst (v := (-1 : Int32)) hC dX11_readDiner_50 rfl ?_
    refine v_icmp_eq hC 56 dX11_readDiner_51 rfl (fun c16 => ?_) (fun c16 => ?_)
    · rw [if_pos c16] at h
      refine v_aload_n hC dX11_readDiner_56 rfl ?_
      refine v_geta (k := 1) (b := 209) hC cls_X11 ly_208 (by decide) rfl aw_1232 rfl dX11_readDiner_57 ?_
      refine v_iload_n hC dX11_readDiner_60 rfl ?_
      refine v_iconst (v := (0 : Int32)) hC dX11_readDiner_61 rfl ?_
      obtain ⟨r17, M18, q19, h⟩ := bnd_some h
      refine w_callSi hC [.int v1, .int (0 : Int32)] [.ref 209] (ok_X11_dinerAt q19) ms_X11_dinerAt aw_1384 rfl (Nat.le_of_ble_eq_true rfl) ⟨by decide, by decide⟩ ⟨by decide, by decide⟩ dX11_readDiner_62 ?_
      refine v_iload_n hC dX11_readDiner_65 rfl ?_
      obtain ⟨g20, h⟩ := grd_some h
      obtain ⟨M21, e_M21, h⟩ := lt_some h
      refine w_iast hC ly_209 (inb_in g20) dX11_readDiner_66 e_M21 ?_
      refine v_aload_n hC dX11_readDiner_67 rfl ?_
      refine v_geta (k := 1) (b := 209) hC cls_X11 ly_208 (by decide) rfl aw_1232 rfl dX11_readDiner_68 ?_
      refine v_iload_n hC dX11_readDiner_71 rfl ?_
      refine v_iconst (v := (1 : Int32)) hC dX11_readDiner_72 rfl ?_
      obtain ⟨r22, M23, q24, h⟩ := bnd_some h
      refine w_callSi hC [.int v1, .int (1 : Int32)] [.ref 209] (ok_X11_dinerAt q24) ms_X11_dinerAt aw_1384 rfl (Nat.le_of_ble_eq_true rfl) ⟨by decide, by decide⟩ ⟨by decide, by decide⟩ dX11_readDiner_73 ?_
      refine v_iload_n hC dX11_readDiner_76 rfl ?_
      obtain ⟨g25, h⟩ := grd_some h
      obtain ⟨M26, e_M26, h⟩ := lt_some h
      refine w_iast hC ly_209 (inb_in g25) dX11_readDiner_77 e_M26 ?_
      refine v_aload_n hC dX11_readDiner_78 rfl ?_
      refine v_geta (k := 1) (b := 209) hC cls_X11 ly_208 (by decide) rfl aw_1232 rfl dX11_readDiner_79 ?_
      refine v_iload_n hC dX11_readDiner_82 rfl ?_
      refine v_iconst (v := (2 : Int32)) hC dX11_readDiner_83 rfl ?_
      obtain ⟨r27, M28, q29, h⟩ := bnd_some h
      refine w_callSi hC [.int v1, .int (2 : Int32)] [.ref 209] (ok_X11_dinerAt q29) ms_X11_dinerAt aw_1384 rfl (Nat.le_of_ble_eq_true rfl) ⟨by decide, by decide⟩ ⟨by decide, by decide⟩ dX11_readDiner_84 ?_
      refine v_aload_n hC dX11_readDiner_87 rfl ?_
      refine w_ldcS (tx := "diet") (i9 := 15) hC st_15 dX11_readDiner_88 ?_
      obtain ⟨r30, M31, q32, h⟩ := bnd_some h
      refine w_callVi hC [.ref 1000015] [.int r27, .ref 209] (ok_X11_passes q32) mv_X11_passes aw_1388 ly_208 rfl (Nat.le_of_ble_eq_true rfl) ⟨by decide, by decide⟩ ⟨by decide, by decide⟩ dX11_readDiner_90 ?_
      refine v_if_eq hC 100 dX11_readDiner_93 rfl (fun c33 => ?_) (fun c33 => ?_)
      · rw [if_pos c33] at h
        refine v_iconst (v := (0 : Int32)) hC dX11_readDiner_100 rfl ?_
        obtain ⟨g34, h⟩ := grd_some h
        obtain ⟨M35, e_M35, h⟩ := lt_some h
        refine w_iast hC ly_209 (inb_in g34) dX11_readDiner_101 e_M35 ?_
        refine v_iconst (v := (0 : Int32)) hC dX11_readDiner_102 rfl ?_
        refine w_istore hC dX11_readDiner_103 (ltk rfl) [some (.ref 208), some (.int v1), some (.int v2), some (.int s0), some (.int (0 : Int32))] rfl ?_
        refine v_drop [true, true, false, false, true] [some (.ref 208), some (.int v1), none, none, some (.int (0 : Int32))] rfl ?_
        exact ok_X11_readDiner_105 hC hnt N _ _ _ _ _ h
      · rw [if_neg c33] at h
        refine v_iconst (v := (1 : Int32)) hC dX11_readDiner_96 rfl ?_
        refine v_goto (tg := 101) hC dX11_readDiner_97 rfl ?_
        obtain ⟨g46, h⟩ := grd_some h
        obtain ⟨M47, e_M47, h⟩ := lt_some h
        refine w_iast hC ly_209 (inb_in g46) dX11_readDiner_101 e_M47 ?_
        refine v_iconst (v := (0 : Int32)) hC dX11_readDiner_102 rfl ?_
        refine w_istore hC dX11_readDiner_103 (ltk rfl) [some (.ref 208), some (.int v1), some (.int v2), some (.int s0), some (.int (0 : Int32))] rfl ?_
        refine v_drop [true, true, false, false, true] [some (.ref 208), some (.int v1), none, none, some (.int (0 : Int32))] rfl ?_
        exact ok_X11_readDiner_105 hC hnt N _ _ _ _ _ h
    · rw [if_neg c16] at h
      refine v_iconst (v := (0 : Int32)) hC dX11_readDiner_54 rfl ?_
      cases h
      exact v_zret hC (by decide) (by decide) (by decide) dX11_readDiner_55
set_option maxRecDepth 20000 in
set_option maxHeartbeats 4000000 in
theorem ok_X11_readDiner {l : Launch} {N : Nat} {M : Mm} {r : Int32} {M' : Mm} (h : f_X11_readDiner N M = some (r, M')) : am_M l yX11_readDiner cX11_readDiner 5 (some .boolean) 7 0 0 LY M [.ref 208] (.inl (some (.int r))) M' := by
  unfold f_X11_readDiner at h
  refine am_intro (by decide) (by simp [Value.category]) (Nat.le_of_ble_eq_true rfl) (fun X hC hnt => ?_)
  refine am_start (L := [some (.ref 208), none, none, none, none]) rfl ?_
  refine v_aload_n hC dX11_readDiner_0 rfl ?_
  obtain ⟨r1, M2, q3, h⟩ := bnd_some h
  refine w_callVi hC [] [] (ok_X11_diners q3) mv_X11_diners aw_1362 ly_208 rfl (Nat.le_of_ble_eq_true rfl) ⟨by decide, by decide⟩ ⟨by decide, by decide⟩ dX11_readDiner_1 ?_
  refine w_istore_n hC dX11_readDiner_4 (ltk rfl) [some (.ref 208), some (.int r1), none, none, none] rfl ?_
  refine v_iload_n hC dX11_readDiner_5 rfl ?_
  refine v_bipush (v := (8 : Int32)) hC dX11_readDiner_6 rfl ?_
  refine v_icmp_ne hC 13 dX11_readDiner_8 rfl (fun c4 => ?_) (fun c4 => ?_)
  · rw [if_neg c4] at h
    refine v_aload_n hC dX11_readDiner_13 rfl ?_
    refine w_ldcS (tx := "taste") (i9 := 13) hC st_13 dX11_readDiner_14 ?_
    refine v_iconst (v := (0 : Int32)) hC dX11_readDiner_16 rfl ?_
    refine v_bipush (v := (9 : Int32)) hC dX11_readDiner_17 rfl ?_
    obtain ⟨r5, M6, q7, h⟩ := bnd_some h
    refine w_callVi hC [.ref 1000013, .int (0 : Int32), .int (9 : Int32)] [] (ok_X11_after q7) mv_X11_after aw_1367 ly_208 rfl (Nat.le_of_ble_eq_true rfl) ⟨by decide, by decide⟩ ⟨by decide, by decide⟩ dX11_readDiner_19 ?_
    refine w_istore_n hC dX11_readDiner_22 (ltk rfl) [some (.ref 208), some (.int r1), some (.int r5), none, none] rfl ?_
    refine v_iload_n hC dX11_readDiner_23 rfl ?_
    refine v_if_ge hC 31 dX11_readDiner_24 rfl (fun c8 => ?_) (fun c8 => ?_)
    · rw [if_pos c8] at h
      refine v_aload_n hC dX11_readDiner_31 rfl ?_
      refine w_ldcS (tx := "at") (i9 := 14) hC st_14 dX11_readDiner_32 ?_
      refine v_iconst (v := (0 : Int32)) hC dX11_readDiner_34 rfl ?_
      refine v_bipush (v := (9 : Int32)) hC dX11_readDiner_35 rfl ?_
      obtain ⟨r9, M10, q11, h⟩ := bnd_some h
      refine w_callVi hC [.ref 1000014, .int (0 : Int32), .int (9 : Int32)] [] (ok_X11_after q11) mv_X11_after aw_1367 ly_208 rfl (Nat.le_of_ble_eq_true rfl) ⟨by decide, by decide⟩ ⟨by decide, by decide⟩ dX11_readDiner_37 ?_
      exact ok_X11_readDiner_40 hC hnt h
    · rw [if_neg c8] at h
      refine v_iconst (v := (-1 : Int32)) hC dX11_readDiner_27 rfl ?_
      refine v_goto (tg := 40) hC dX11_readDiner_28 rfl ?_
      exact ok_X11_readDiner_40 hC hnt h
  · rw [if_pos c4] at h
    refine v_iconst (v := (0 : Int32)) hC dX11_readDiner_11 rfl ?_
    cases h
    exact v_zret hC (by decide) (by decide) (by decide) dX11_readDiner_12
def f_X11_readCellar_141 (N : Nat) (v1 : Int32) (v2 : Int32) (v3 : Int32) (v4 : Int32) (v5 : Int32) (s0 : Int32) (M : Mm) : Option (Int32 × Mm) :=
  (if (0 : Int32) ≤ s0 then bnd (f_X11_cellarAt N v1 (0 : Int32) M) (fun r31 M32 => grd (inb r31 2107) (lt (wr M32 209 (r31).toNatClampNeg v4) (fun M35 => bnd (f_X11_cellarAt N v1 (1 : Int32) M35) (fun r36 M37 => grd (inb r36 2107) (lt (wr M37 209 (r36).toNatClampNeg v2) (fun M40 => bnd (f_X11_cellarAt N v1 (2 : Int32) M40) (fun r41 M42 => grd (inb r41 2107) (lt (wr M42 209 (r41).toNatClampNeg v3) (fun M45 => bnd (f_X11_cellarAt N v1 (3 : Int32) M45) (fun r46 M47 => grd (inb r46 2107) (lt (wr M47 209 (r46).toNatClampNeg v5) (fun M50 => bnd (f_X11_cellarAt N v1 (4 : Int32) M50) (fun r51 M52 => grd (inb r51 2107) (lt (wr M52 209 (r51).toNatClampNeg s0) (fun M55 => grd (inb (1 : Int32) 2107) (grd (inb (1 : Int32) 2107) (lt (wr M55 209 ((1 : Int32)).toNatClampNeg ((M55 209 ((1 : Int32)).toNatClampNeg) + (1 : Int32))) (fun M58 => some ((1 : Int32), M58))))))))))))))))))) else some ((0 : Int32), M))
def f_X11_readCellar_112 (N : Nat) (v1 : Int32) (v2 : Int32) (v3 : Int32) (v4 : Int32) (s0 : Int32) (M : Mm) : Option (Int32 × Mm) :=
  (if (0 : Int32) ≤ s0 then bnd (f_X11_passes N 1000019 M) (fun r26 M27 => (if r26 = (0 : Int32) then f_X11_readCellar_141 N v1 v2 v3 v4 s0 (1 : Int32) M27 else bnd (f_X11_number N (1 : Int32) (9 : Int32) M27) (fun r59 M60 => f_X11_readCellar_141 N v1 v2 v3 v4 s0 r59 M60))) else some ((0 : Int32), M))
def f_X11_readCellar_83 (N : Nat) (v1 : Int32) (v2 : Int32) (v3 : Int32) (s0 : Int32) (M : Mm) : Option (Int32 × Mm) :=
  (if (0 : Int32) ≤ s0 then bnd (f_X11_passes N 1000018 M) (fun r21 M22 => (if r21 = (0 : Int32) then f_X11_readCellar_112 N v1 v2 v3 s0 (0 : Int32) M22 else bnd (f_X11_number N (0 : Int32) (9 : Int32) M22) (fun r62 M63 => f_X11_readCellar_112 N v1 v2 v3 s0 r62 M63))) else some ((0 : Int32), M))
def f_X11_readCellar_45 (N : Nat) (v1 : Int32) (s0 : Int32) (M : Mm) : Option (Int32 × Mm) :=
  bnd (f_X11_noTrait N s0 M) (fun r9 M10 => (if r9 = (0 : Int32) then bnd (f_X11_after N 1000017 (1 : Int32) (200 : Int32) M10) (fun r13 M14 => (if (0 : Int32) ≤ r13 then bnd (f_X11_after N 1000014 (0 : Int32) (9 : Int32) M14) (fun r17 M18 => f_X11_readCellar_83 N v1 s0 r13 r17 M18) else f_X11_readCellar_83 N v1 s0 r13 (-1 : Int32) M14)) else some ((0 : Int32), M10)))
def f_X11_readCellar (N : Nat) (M : Mm) : Option (Int32 × Mm) :=
  bnd (f_X11_cellars N M) (fun r1 M2 => (if r1 = (5 : Int32) then some ((0 : Int32), M2) else bnd (f_X11_letters N M2) (fun r5 M6 => (if ((M6 208 10) - (M6 208 12)) = (1 : Int32) then grd (inb (M6 208 12) 400) (f_X11_readCellar_45 N r1 ((M6 214 ((M6 208 12)).toNatClampNeg) - (97 : Int32)) M6) else f_X11_readCellar_45 N r1 (-1 : Int32) M6))))
set_option maxRecDepth 20000 in
set_option maxHeartbeats 4000000 in
theorem ok_X11_readCellar_141 {N : Nat} {X : am_X} {l : Launch} (hC : am_C X l (am_rm 7 0 0) cX11_readCellar yX11_readCellar.cls (some .boolean)) (hnt : am_NT X) {v1 v2 v3 v4 v5 s0 : Int32} {M : Mm} {r : Int32} {M' : Mm} (h : f_X11_readCellar_141 N v1 v2 v3 v4 v5 s0 M = some (r, M')) : am_V X LY M 0 0 (am_Q X LY 0 0 (.inl (some (.int r))) M') 141 [some (.ref 208), some (.int v1), some (.int v2), some (.int v3), some (.int v4), some (.int v5), none] [.int s0] := by
  unfold f_X11_readCellar_141 at h
  refine w_istore hC dX11_readCellar_141 (ltk rfl) [some (.ref 208), some (.int v1), some (.int v2), some (.int v3), some (.int v4), some (.int v5), some (.int s0)] rfl ?_
  refine v_iload hC dX11_readCellar_143 rfl ?_
  refine v_if_ge hC 150 dX11_readCellar_145 rfl (fun c30 => ?_) (fun c30 => ?_)
  · rw [if_pos c30] at h
    refine v_aload_n hC dX11_readCellar_150 rfl ?_
    refine v_geta (k := 1) (b := 209) hC cls_X11 ly_208 (by decide) rfl aw_1232 rfl dX11_readCellar_151 ?_
    refine v_iload_n hC dX11_readCellar_154 rfl ?_
    refine v_iconst (v := (0 : Int32)) hC dX11_readCellar_155 rfl ?_
    obtain ⟨r31, M32, q33, h⟩ := bnd_some h
    refine w_callSi hC [.int v1, .int (0 : Int32)] [.ref 209] (ok_X11_cellarAt q33) ms_X11_cellarAt aw_1410 rfl (Nat.le_of_ble_eq_true rfl) ⟨by decide, by decide⟩ ⟨by decide, by decide⟩ dX11_readCellar_156 ?_
    refine v_iload hC dX11_readCellar_159 rfl ?_
    obtain ⟨g34, h⟩ := grd_some h
    obtain ⟨M35, e_M35, h⟩ := lt_some h
    refine w_iast hC ly_209 (inb_in g34) dX11_readCellar_161 e_M35 ?_
    refine v_aload_n hC dX11_readCellar_162 rfl ?_
    refine v_geta (k := 1) (b := 209) hC cls_X11 ly_208 (by decide) rfl aw_1232 rfl dX11_readCellar_163 ?_
    refine v_iload_n hC dX11_readCellar_166 rfl ?_
    refine v_iconst (v := (1 : Int32)) hC dX11_readCellar_167 rfl ?_
    obtain ⟨r36, M37, q38, h⟩ := bnd_some h
    refine w_callSi hC [.int v1, .int (1 : Int32)] [.ref 209] (ok_X11_cellarAt q38) ms_X11_cellarAt aw_1410 rfl (Nat.le_of_ble_eq_true rfl) ⟨by decide, by decide⟩ ⟨by decide, by decide⟩ dX11_readCellar_168 ?_
    refine v_iload_n hC dX11_readCellar_171 rfl ?_
    obtain ⟨g39, h⟩ := grd_some h
    obtain ⟨M40, e_M40, h⟩ := lt_some h
    refine w_iast hC ly_209 (inb_in g39) dX11_readCellar_172 e_M40 ?_
    refine v_aload_n hC dX11_readCellar_173 rfl ?_
    refine v_geta (k := 1) (b := 209) hC cls_X11 ly_208 (by decide) rfl aw_1232 rfl dX11_readCellar_174 ?_
    refine v_iload_n hC dX11_readCellar_177 rfl ?_
    refine v_iconst (v := (2 : Int32)) hC dX11_readCellar_178 rfl ?_
    obtain ⟨r41, M42, q43, h⟩ := bnd_some h
    refine w_callSi hC [.int v1, .int (2 : Int32)] [.ref 209] (ok_X11_cellarAt q43) ms_X11_cellarAt aw_1410 rfl (Nat.le_of_ble_eq_true rfl) ⟨by decide, by decide⟩ ⟨by decide, by decide⟩ dX11_readCellar_179 ?_
    refine v_iload_n hC dX11_readCellar_182 rfl ?_
    obtain ⟨g44, h⟩ := grd_some h
    obtain ⟨M45, e_M45, h⟩ := lt_some h
    refine w_iast hC ly_209 (inb_in g44) dX11_readCellar_183 e_M45 ?_
    refine v_aload_n hC dX11_readCellar_184 rfl ?_
    refine v_geta (k := 1) (b := 209) hC cls_X11 ly_208 (by decide) rfl aw_1232 rfl dX11_readCellar_185 ?_
    refine v_iload_n hC dX11_readCellar_188 rfl ?_
    refine v_iconst (v := (3 : Int32)) hC dX11_readCellar_189 rfl ?_
    obtain ⟨r46, M47, q48, h⟩ := bnd_some h
    refine w_callSi hC [.int v1, .int (3 : Int32)] [.ref 209] (ok_X11_cellarAt q48) ms_X11_cellarAt aw_1410 rfl (Nat.le_of_ble_eq_true rfl) ⟨by decide, by decide⟩ ⟨by decide, by decide⟩ dX11_readCellar_190 ?_
    refine v_iload hC dX11_readCellar_193 rfl ?_
    obtain ⟨g49, h⟩ := grd_some h
    obtain ⟨M50, e_M50, h⟩ := lt_some h
    refine w_iast hC ly_209 (inb_in g49) dX11_readCellar_195 e_M50 ?_
    refine v_aload_n hC dX11_readCellar_196 rfl ?_
    refine v_geta (k := 1) (b := 209) hC cls_X11 ly_208 (by decide) rfl aw_1232 rfl dX11_readCellar_197 ?_
    refine v_iload_n hC dX11_readCellar_200 rfl ?_
    refine v_iconst (v := (4 : Int32)) hC dX11_readCellar_201 rfl ?_
    obtain ⟨r51, M52, q53, h⟩ := bnd_some h
    refine w_callSi hC [.int v1, .int (4 : Int32)] [.ref 209] (ok_X11_cellarAt q53) ms_X11_cellarAt aw_1410 rfl (Nat.le_of_ble_eq_true rfl) ⟨by decide, by decide⟩ ⟨by decide, by decide⟩ dX11_readCellar_202 ?_
    refine v_iload hC dX11_readCellar_205 rfl ?_
    obtain ⟨g54, h⟩ := grd_some h
    obtain ⟨M55, e_M55, h⟩ := lt_some h
    refine w_iast hC ly_209 (inb_in g54) dX11_readCellar_207 e_M55 ?_
    refine v_aload_n hC dX11_readCellar_208 rfl ?_
    refine v_geta (k := 1) (b := 209) hC cls_X11 ly_208 (by decide) rfl aw_1232 rfl dX11_readCellar_209 ?_
    refine v_iconst (v := (1 : Int32)) hC dX11_readCellar_212 rfl ?_
    refine v_dup2 hC dX11_readCellar_213 rfl rfl ?_
    obtain ⟨g56, h⟩ := grd_some h
    refine v_iald hC ly_209 (inb_in g56) dX11_readCellar_214 ?_
    refine v_iconst (v := (1 : Int32)) hC dX11_readCellar_215 rfl ?_
    refine v_iadd hC dX11_readCellar_216 ?_
    obtain ⟨g57, h⟩ := grd_some h
    obtain ⟨M58, e_M58, h⟩ := lt_some h
    refine w_iast hC ly_209 (inb_in g57) dX11_readCellar_217 e_M58 ?_
    refine v_iconst (v := (1 : Int32)) hC dX11_readCellar_218 rfl ?_
    cases h
    exact v_zret hC (by decide) (by decide) (by decide) dX11_readCellar_219
  · rw [if_neg c30] at h
    refine v_iconst (v := (0 : Int32)) hC dX11_readCellar_148 rfl ?_
    cases h
    exact v_zret hC (by decide) (by decide) (by decide) dX11_readCellar_149
set_option maxRecDepth 20000 in
set_option maxHeartbeats 4000000 in
theorem ok_X11_readCellar_112 {N : Nat} {X : am_X} {l : Launch} (hC : am_C X l (am_rm 7 0 0) cX11_readCellar yX11_readCellar.cls (some .boolean)) (hnt : am_NT X) {v1 v2 v3 v4 s0 : Int32} {M : Mm} {r : Int32} {M' : Mm} (h : f_X11_readCellar_112 N v1 v2 v3 v4 s0 M = some (r, M')) : am_V X LY M 0 0 (am_Q X LY 0 0 (.inl (some (.int r))) M') 112 [some (.ref 208), some (.int v1), some (.int v2), some (.int v3), some (.int v4), none, none] [.int s0] := by
  unfold f_X11_readCellar_112 at h
  refine w_istore hC dX11_readCellar_112 (ltk rfl) [some (.ref 208), some (.int v1), some (.int v2), some (.int v3), some (.int v4), some (.int s0), none] rfl ?_
  refine v_iload hC dX11_readCellar_114 rfl ?_
  refine v_if_ge hC 121 dX11_readCellar_116 rfl (fun c25 => ?_) (fun c25 => ?_)
  · rw [if_pos c25] at h
    refine v_aload_n hC dX11_readCellar_121 rfl ?_
    refine w_ldcS (tx := "step") (i9 := 19) hC st_19 dX11_readCellar_122 ?_
    obtain ⟨r26, M27, q28, h⟩ := bnd_some h
    refine w_callVi hC [.ref 1000019] [] (ok_X11_passes q28) mv_X11_passes aw_1388 ly_208 rfl (Nat.le_of_ble_eq_true rfl) ⟨by decide, by decide⟩ ⟨by decide, by decide⟩ dX11_readCellar_124 ?_
    refine v_if_eq hC 140 dX11_readCellar_127 rfl (fun c29 => ?_) (fun c29 => ?_)
    · rw [if_pos c29] at h
      refine v_iconst (v := (1 : Int32)) hC dX11_readCellar_140 rfl ?_
      exact ok_X11_readCellar_141 hC hnt h
    · rw [if_neg c29] at h
      refine v_aload_n hC dX11_readCellar_130 rfl ?_
      refine v_iconst (v := (1 : Int32)) hC dX11_readCellar_131 rfl ?_
      refine v_bipush (v := (9 : Int32)) hC dX11_readCellar_132 rfl ?_
      obtain ⟨r59, M60, q61, h⟩ := bnd_some h
      refine w_callVi hC [.int (1 : Int32), .int (9 : Int32)] [] (ok_X11_number q61) mv_X11_number aw_1371 ly_208 rfl (Nat.le_of_ble_eq_true rfl) ⟨by decide, by decide⟩ ⟨by decide, by decide⟩ dX11_readCellar_134 ?_
      refine v_goto (tg := 141) hC dX11_readCellar_137 rfl ?_
      exact ok_X11_readCellar_141 hC hnt h
  · rw [if_neg c25] at h
    refine v_iconst (v := (0 : Int32)) hC dX11_readCellar_119 rfl ?_
    cases h
    exact v_zret hC (by decide) (by decide) (by decide) dX11_readCellar_120
set_option maxRecDepth 20000 in
set_option maxHeartbeats 4000000 in
theorem ok_X11_readCellar_83 {N : Nat} {X : am_X} {l : Launch} (hC : am_C X l (am_rm 7 0 0) cX11_readCellar yX11_readCellar.cls (some .boolean)) (hnt : am_NT X) {v1 v2 v3 s0 : Int32} {M : Mm} {r : Int32} {M' : Mm} (h : f_X11_readCellar_83 N v1 v2 v3 s0 M = some (r, M')) : am_V X LY M 0 0 (am_Q X LY 0 0 (.inl (some (.int r))) M') 83 [some (.ref 208), some (.int v1), some (.int v2), some (.int v3), none, none, none] [.int s0] := by
  unfold f_X11_readCellar_83 at h
  refine w_istore hC dX11_readCellar_83 (ltk rfl) [some (.ref 208), some (.int v1), some (.int v2), some (.int v3), some (.int s0), none, none] rfl ?_
  refine v_iload hC dX11_readCellar_85 rfl ?_
  refine v_if_ge hC 92 dX11_readCellar_87 rfl (fun c20 => ?_) (fun c20 => ?_)
  · rw [if_pos c20] at h
    refine v_aload_n hC dX11_readCellar_92 rfl ?_
    refine w_ldcS (tx := "set") (i9 := 18) hC st_18 dX11_readCellar_93 ?_
    obtain ⟨r21, M22, q23, h⟩ := bnd_some h
    refine w_callVi hC [.ref 1000018] [] (ok_X11_passes q23) mv_X11_passes aw_1388 ly_208 rfl (Nat.le_of_ble_eq_true rfl) ⟨by decide, by decide⟩ ⟨by decide, by decide⟩ dX11_readCellar_95 ?_
    refine v_if_eq hC 111 dX11_readCellar_98 rfl (fun c24 => ?_) (fun c24 => ?_)
    · rw [if_pos c24] at h
      refine v_iconst (v := (0 : Int32)) hC dX11_readCellar_111 rfl ?_
      exact ok_X11_readCellar_112 hC hnt h
    · rw [if_neg c24] at h
      refine v_aload_n hC dX11_readCellar_101 rfl ?_
      refine v_iconst (v := (0 : Int32)) hC dX11_readCellar_102 rfl ?_
      refine v_bipush (v := (9 : Int32)) hC dX11_readCellar_103 rfl ?_
      obtain ⟨r62, M63, q64, h⟩ := bnd_some h
      refine w_callVi hC [.int (0 : Int32), .int (9 : Int32)] [] (ok_X11_number q64) mv_X11_number aw_1371 ly_208 rfl (Nat.le_of_ble_eq_true rfl) ⟨by decide, by decide⟩ ⟨by decide, by decide⟩ dX11_readCellar_105 ?_
      refine v_goto (tg := 112) hC dX11_readCellar_108 rfl ?_
      exact ok_X11_readCellar_112 hC hnt h
  · rw [if_neg c20] at h
    refine v_iconst (v := (0 : Int32)) hC dX11_readCellar_90 rfl ?_
    cases h
    exact v_zret hC (by decide) (by decide) (by decide) dX11_readCellar_91
set_option maxRecDepth 20000 in
set_option maxHeartbeats 4000000 in
theorem ok_X11_readCellar_45 {N : Nat} {X : am_X} {l : Launch} (hC : am_C X l (am_rm 7 0 0) cX11_readCellar yX11_readCellar.cls (some .boolean)) (hnt : am_NT X) {v1 s0 : Int32} {M : Mm} {r : Int32} {M' : Mm} (h : f_X11_readCellar_45 N v1 s0 M = some (r, M')) : am_V X LY M 0 0 (am_Q X LY 0 0 (.inl (some (.int r))) M') 45 [some (.ref 208), some (.int v1), none, none, none, none, none] [.int s0] := by
  unfold f_X11_readCellar_45 at h
  refine w_istore_n hC dX11_readCellar_45 (ltk rfl) [some (.ref 208), some (.int v1), some (.int s0), none, none, none, none] rfl ?_
  refine v_iload_n hC dX11_readCellar_46 rfl ?_
  obtain ⟨r9, M10, q11, h⟩ := bnd_some h
  refine w_callSi hC [.int s0] [] (ok_X11_noTrait q11) ms_X11_noTrait aw_1401 rfl (Nat.le_of_ble_eq_true rfl) ⟨by decide, by decide⟩ ⟨by decide, by decide⟩ dX11_readCellar_47 ?_
  refine v_if_eq hC 55 dX11_readCellar_50 rfl (fun c12 => ?_) (fun c12 => ?_)
  · rw [if_pos c12] at h
    refine v_aload_n hC dX11_readCellar_55 rfl ?_
    refine w_ldcS (tx := "grains") (i9 := 17) hC st_17 dX11_readCellar_56 ?_
    refine v_iconst (v := (1 : Int32)) hC dX11_readCellar_58 rfl ?_
    refine v_sipush (v := (200 : Int32)) hC dX11_readCellar_59 rfl ?_
    obtain ⟨r13, M14, q15, h⟩ := bnd_some h
    refine w_callVi hC [.ref 1000017, .int (1 : Int32), .int (200 : Int32)] [] (ok_X11_after q15) mv_X11_after aw_1367 ly_208 rfl (Nat.le_of_ble_eq_true rfl) ⟨by decide, by decide⟩ ⟨by decide, by decide⟩ dX11_readCellar_62 ?_
    refine w_istore_n hC dX11_readCellar_65 (ltk rfl) [some (.ref 208), some (.int v1), some (.int s0), some (.int r13), none, none, none] rfl ?_
    refine v_iload_n hC dX11_readCellar_66 rfl ?_
    refine v_if_ge hC 74 dX11_readCellar_67 rfl (fun c16 => ?_) (fun c16 => ?_)
    · rw [if_pos c16] at h
      refine v_aload_n hC dX11_readCellar_74 rfl ?_
      refine w_ldcS (tx := "at") (i9 := 14) hC st_14 dX11_readCellar_75 ?_
      refine v_iconst (v := (0 : Int32)) hC dX11_readCellar_77 rfl ?_
      refine v_bipush (v := (9 : Int32)) hC dX11_readCellar_78 rfl ?_
      obtain ⟨r17, M18, q19, h⟩ := bnd_some h
      refine w_callVi hC [.ref 1000014, .int (0 : Int32), .int (9 : Int32)] [] (ok_X11_after q19) mv_X11_after aw_1367 ly_208 rfl (Nat.le_of_ble_eq_true rfl) ⟨by decide, by decide⟩ ⟨by decide, by decide⟩ dX11_readCellar_80 ?_
      exact ok_X11_readCellar_83 hC hnt h
    · rw [if_neg c16] at h
      refine v_iconst (v := (-1 : Int32)) hC dX11_readCellar_70 rfl ?_
      refine v_goto (tg := 83) hC dX11_readCellar_71 rfl ?_
      exact ok_X11_readCellar_83 hC hnt h
  · rw [if_neg c12] at h
    refine v_iconst (v := (0 : Int32)) hC dX11_readCellar_53 rfl ?_
    cases h
    exact v_zret hC (by decide) (by decide) (by decide) dX11_readCellar_54
set_option maxRecDepth 20000 in
set_option maxHeartbeats 4000000 in
theorem ok_X11_readCellar {l : Launch} {N : Nat} {M : Mm} {r : Int32} {M' : Mm} (h : f_X11_readCellar N M = some (r, M')) : am_M l yX11_readCellar cX11_readCellar 7 (some .boolean) 7 0 0 LY M [.ref 208] (.inl (some (.int r))) M' := by
  unfold f_X11_readCellar at h
  refine am_intro (by decide) (by simp [Value.category]) (Nat.le_of_ble_eq_true rfl) (fun X hC hnt => ?_)
  refine am_start (L := [some (.ref 208), none, none, none, none, none, none]) rfl ?_
  refine v_aload_n hC dX11_readCellar_0 rfl ?_
  obtain ⟨r1, M2, q3, h⟩ := bnd_some h
  refine w_callVi hC [] [] (ok_X11_cellars q3) mv_X11_cellars aw_1397 ly_208 rfl (Nat.le_of_ble_eq_true rfl) ⟨by decide, by decide⟩ ⟨by decide, by decide⟩ dX11_readCellar_1 ?_
  refine w_istore_n hC dX11_readCellar_4 (ltk rfl) [some (.ref 208), some (.int r1), none, none, none, none, none] rfl ?_
  refine v_iload_n hC dX11_readCellar_5 rfl ?_
  refine v_iconst (v := (5 : Int32)) hC dX11_readCellar_6 rfl ?_
  refine v_icmp_ne hC 12 dX11_readCellar_7 rfl (fun c4 => ?_) (fun c4 => ?_)
  · rw [if_neg c4] at h
    refine v_aload_n hC dX11_readCellar_12 rfl ?_
    obtain ⟨r5, M6, q7, h⟩ := bnd_some h
    refine w_callVv hC [] [] (ok_X11_letters q7) mv_X11_letters aw_1343 ly_208 rfl (Nat.le_of_ble_eq_true rfl) ⟨by decide, by decide⟩ ⟨by decide, by decide⟩ dX11_readCellar_13 ?_
    refine v_aload_n hC dX11_readCellar_16 rfl ?_
    refine v_geti (k := 10) hC cls_X11 ly_208 (by decide) rfl aw_1241 rfl dX11_readCellar_17 ?_
    refine v_aload_n hC dX11_readCellar_20 rfl ?_
    refine v_geti (k := 12) hC cls_X11 ly_208 (by decide) rfl aw_1243 rfl dX11_readCellar_21 ?_
    refine v_isub hC dX11_readCellar_24 ?_
    refine v_iconst (v := (1 : Int32)) hC dX11_readCellar_25 rfl ?_
    refine v_icmp_ne hC 44 dX11_readCellar_26 rfl (fun c8 => ?_) (fun c8 => ?_)
    · rw [if_neg c8] at h
      refine v_iconst (v := (-1 : Int32)) hC dX11_readCellar_44 rfl ?_
      exact ok_X11_readCellar_45 hC hnt h
    · rw [if_pos c8] at h
      refine v_aload_n hC dX11_readCellar_29 rfl ?_
      refine v_geta (k := 8) (b := 214) hC cls_X11 ly_208 (by decide) rfl aw_1239 rfl dX11_readCellar_30 ?_
      refine v_aload_n hC dX11_readCellar_33 rfl ?_
      refine v_geti (k := 12) hC cls_X11 ly_208 (by decide) rfl aw_1243 rfl dX11_readCellar_34 ?_
      obtain ⟨g65, h⟩ := grd_some h
      refine v_bald hC ly_214 (inb_in g65) dX11_readCellar_37 ?_
      refine v_bipush (v := (97 : Int32)) hC dX11_readCellar_38 rfl ?_
      refine v_isub hC dX11_readCellar_40 ?_
      refine v_goto (tg := 45) hC dX11_readCellar_41 rfl ?_
      exact ok_X11_readCellar_45 hC hnt h
  · rw [if_pos c4] at h
    refine v_iconst (v := (0 : Int32)) hC dX11_readCellar_10 rfl ?_
    cases h
    exact v_zret hC (by decide) (by decide) (by decide) dX11_readCellar_11
def f_X11_readMenu (N : Nat) (v1 : Int32) (M : Mm) : Option (Int32 × Mm) :=
  bnd (f_X11_number N (0 : Int32) (11 : Int32) M) (fun r1 M2 => (if (0 : Int32) ≤ r1 then (if v1 = (0 : Int32) then grd (inb (6 : Int32) 2107) (grd (inb (6 : Int32) 2107) (lt (wr M2 209 ((6 : Int32)).toNatClampNeg ((M2 209 ((6 : Int32)).toNatClampNeg) &&& (((1 : Int32) <<< (r1 &&& 31)) ^^^ (-1 : Int32)))) (fun M8 => some ((1 : Int32), M8)))) else grd (inb (6 : Int32) 2107) (grd (inb (6 : Int32) 2107) (lt (wr M2 209 ((6 : Int32)).toNatClampNeg ((M2 209 ((6 : Int32)).toNatClampNeg) ||| ((1 : Int32) <<< (r1 &&& 31)))) (fun M11 => some ((1 : Int32), M11))))) else some ((0 : Int32), M2)))
set_option maxRecDepth 20000 in
set_option maxHeartbeats 4000000 in
theorem ok_X11_readMenu {l : Launch} {N : Nat} {v1 : Int32} {M : Mm} {r : Int32} {M' : Mm} (h : f_X11_readMenu N v1 M = some (r, M')) : am_M l yX11_readMenu cX11_readMenu 3 (some .boolean) 4 0 0 LY M [.ref 208, .int v1] (.inl (some (.int r))) M' := by
  unfold f_X11_readMenu at h
  refine am_intro (by decide) (by simp [Value.category]) (Nat.le_of_ble_eq_true rfl) (fun X hC hnt => ?_)
  refine am_start (L := [some (.ref 208), some (.int v1), none]) rfl ?_
  refine v_aload_n hC dX11_readMenu_0 rfl ?_
  refine v_iconst (v := (0 : Int32)) hC dX11_readMenu_1 rfl ?_
  refine v_bipush (v := (11 : Int32)) hC dX11_readMenu_2 rfl ?_
  obtain ⟨r1, M2, q3, h⟩ := bnd_some h
  refine w_callVi hC [.int (0 : Int32), .int (11 : Int32)] [] (ok_X11_number q3) mv_X11_number aw_1371 ly_208 rfl (Nat.le_of_ble_eq_true rfl) ⟨by decide, by decide⟩ ⟨by decide, by decide⟩ dX11_readMenu_4 ?_
  refine w_istore_n hC dX11_readMenu_7 (ltk rfl) [some (.ref 208), some (.int v1), some (.int r1)] rfl ?_
  refine v_iload_n hC dX11_readMenu_8 rfl ?_
  refine v_if_ge hC 14 dX11_readMenu_9 rfl (fun c4 => ?_) (fun c4 => ?_)
  · rw [if_pos c4] at h
    refine v_aload_n hC dX11_readMenu_14 rfl ?_
    refine v_geta (k := 1) (b := 209) hC cls_X11 ly_208 (by decide) rfl aw_1232 rfl dX11_readMenu_15 ?_
    refine v_bipush (v := (6 : Int32)) hC dX11_readMenu_18 rfl ?_
    refine v_iload_n hC dX11_readMenu_20 rfl ?_
    refine v_if_eq hC 38 dX11_readMenu_21 rfl (fun c5 => ?_) (fun c5 => ?_)
    · rw [if_pos c5] at h
      refine v_aload_n hC dX11_readMenu_38 rfl ?_
      refine v_geta (k := 1) (b := 209) hC cls_X11 ly_208 (by decide) rfl aw_1232 rfl dX11_readMenu_39 ?_
      refine v_bipush (v := (6 : Int32)) hC dX11_readMenu_42 rfl ?_
      obtain ⟨g6, h⟩ := grd_some h
      refine v_iald hC ly_209 (inb_in g6) dX11_readMenu_44 ?_
      refine v_iconst (v := (1 : Int32)) hC dX11_readMenu_45 rfl ?_
      refine v_iload_n hC dX11_readMenu_46 rfl ?_
      refine v_ishl hC dX11_readMenu_47 ?_
      refine v_iconst (v := (-1 : Int32)) hC dX11_readMenu_48 rfl ?_
      refine v_ixor hC dX11_readMenu_49 ?_
      refine v_iand hC dX11_readMenu_50 ?_
      obtain ⟨g7, h⟩ := grd_some h
      obtain ⟨M8, e_M8, h⟩ := lt_some h
      refine w_iast hC ly_209 (inb_in g7) dX11_readMenu_51 e_M8 ?_
      refine v_iconst (v := (1 : Int32)) hC dX11_readMenu_52 rfl ?_
      cases h
      exact v_zret hC (by decide) (by decide) (by decide) dX11_readMenu_53
    · rw [if_neg c5] at h
      refine v_aload_n hC dX11_readMenu_24 rfl ?_
      refine v_geta (k := 1) (b := 209) hC cls_X11 ly_208 (by decide) rfl aw_1232 rfl dX11_readMenu_25 ?_
      refine v_bipush (v := (6 : Int32)) hC dX11_readMenu_28 rfl ?_
      obtain ⟨g9, h⟩ := grd_some h
      refine v_iald hC ly_209 (inb_in g9) dX11_readMenu_30 ?_
      refine v_iconst (v := (1 : Int32)) hC dX11_readMenu_31 rfl ?_
      refine v_iload_n hC dX11_readMenu_32 rfl ?_
      refine v_ishl hC dX11_readMenu_33 ?_
      refine v_ior hC dX11_readMenu_34 ?_
      refine v_goto (tg := 51) hC dX11_readMenu_35 rfl ?_
      obtain ⟨g10, h⟩ := grd_some h
      obtain ⟨M11, e_M11, h⟩ := lt_some h
      refine w_iast hC ly_209 (inb_in g10) dX11_readMenu_51 e_M11 ?_
      refine v_iconst (v := (1 : Int32)) hC dX11_readMenu_52 rfl ?_
      cases h
      exact v_zret hC (by decide) (by decide) (by decide) dX11_readMenu_53
  · rw [if_neg c4] at h
    refine v_iconst (v := (0 : Int32)) hC dX11_readMenu_12 rfl ?_
    cases h
    exact v_zret hC (by decide) (by decide) (by decide) dX11_readMenu_13
def f_X11_readTableLine_120 (N : Nat) (M : Mm) : Option (Int32 × Mm) :=
  some ((0 : Int32), M)
def f_X11_readTableLine (N : Nat) (M : Mm) : Option (Int32 × Mm) :=
  bnd (f_X11_isWord N 1000012 M) (fun r1 M2 => (if r1 = (0 : Int32) then bnd (f_X11_isWord N 1000016 M2) (fun r5 M6 => (if r5 = (0 : Int32) then bnd (f_X11_isWord N 1000020 M6) (fun r9 M10 => (if r9 = (0 : Int32) then bnd (f_X11_isWord N 1000021 M10) (fun r13 M14 => (if r13 = (0 : Int32) then bnd (f_X11_isWord N 1000022 M14) (fun r17 M18 => (if r17 = (0 : Int32) then bnd (f_X11_isWord N 1000023 M18) (fun r21 M22 => (if r21 = (0 : Int32) then bnd (f_X11_isWord N 1000024 M22) (fun r25 M26 => (if r25 = (0 : Int32) then f_X11_readTableLine_120 N M26 else bnd (f_X11_readNumber N (4 : Int32) (0 : Int32) (11 : Int32) M26) (fun r29 M30 => (if r29 = (0 : Int32) then f_X11_readTableLine_120 N M30 else some ((1 : Int32), M30))))) else bnd (f_X11_readNumber N (8 : Int32) (0 : Int32) (100 : Int32) M22) (fun r33 M34 => grd (isb r33) (some (r33, M34))))) else bnd (f_X11_readNumber N (7 : Int32) (0 : Int32) (100 : Int32) M18) (fun r37 M38 => grd (isb r37) (some (r37, M38))))) else bnd (f_X11_readMenu N (0 : Int32) M14) (fun r41 M42 => grd (isb r41) (some (r41, M42))))) else bnd (f_X11_readMenu N (1 : Int32) M10) (fun r45 M46 => grd (isb r45) (some (r45, M46))))) else bnd (f_X11_readCellar N M6) (fun r49 M50 => grd (isb r49) (some (r49, M50))))) else bnd (f_X11_readDiner N M2) (fun r53 M54 => grd (isb r53) (some (r53, M54)))))
set_option maxRecDepth 20000 in
set_option maxHeartbeats 4000000 in
theorem ok_X11_readTableLine_120 {N : Nat} {X : am_X} {l : Launch} (hC : am_C X l (am_rm 8 0 0) cX11_readTableLine yX11_readTableLine.cls (some .boolean)) (hnt : am_NT X) {M : Mm} {r : Int32} {M' : Mm} (h : f_X11_readTableLine_120 N M = some (r, M')) : am_V X LY M 0 0 (am_Q X LY 0 0 (.inl (some (.int r))) M') 120 [none] [] := by
  unfold f_X11_readTableLine_120 at h
  refine v_iconst (v := (0 : Int32)) hC dX11_readTableLine_120 rfl ?_
  cases h
  exact v_zret hC (by decide) (by decide) (by decide) dX11_readTableLine_121
set_option maxRecDepth 20000 in
set_option maxHeartbeats 4000000 in
theorem ok_X11_readTableLine {l : Launch} {N : Nat} {M : Mm} {r : Int32} {M' : Mm} (h : f_X11_readTableLine N M = some (r, M')) : am_M l yX11_readTableLine cX11_readTableLine 1 (some .boolean) 8 0 0 LY M [.ref 208] (.inl (some (.int r))) M' := by
  unfold f_X11_readTableLine at h
  refine am_intro (by decide) (by simp [Value.category]) (Nat.le_of_ble_eq_true rfl) (fun X hC hnt => ?_)
  refine am_start (L := [some (.ref 208)]) rfl ?_
  refine v_aload_n hC dX11_readTableLine_0 rfl ?_
  refine w_ldcS (tx := "diner") (i9 := 12) hC st_12 dX11_readTableLine_1 ?_
  obtain ⟨r1, M2, q3, h⟩ := bnd_some h
  refine w_callVi hC [.ref 1000012] [] (ok_X11_isWord q3) mv_X11_isWord aw_1352 ly_208 rfl (Nat.le_of_ble_eq_true rfl) ⟨by decide, by decide⟩ ⟨by decide, by decide⟩ dX11_readTableLine_3 ?_
  refine v_if_eq hC 14 dX11_readTableLine_6 rfl (fun c4 => ?_) (fun c4 => ?_)
  · rw [if_pos c4] at h
    refine v_aload_n hC dX11_readTableLine_14 rfl ?_
    refine w_ldcS (tx := "cellar") (i9 := 16) hC st_16 dX11_readTableLine_15 ?_
    obtain ⟨r5, M6, q7, h⟩ := bnd_some h
    refine w_callVi hC [.ref 1000016] [] (ok_X11_isWord q7) mv_X11_isWord aw_1352 ly_208 rfl (Nat.le_of_ble_eq_true rfl) ⟨by decide, by decide⟩ ⟨by decide, by decide⟩ dX11_readTableLine_17 ?_
    refine v_if_eq hC 28 dX11_readTableLine_20 rfl (fun c8 => ?_) (fun c8 => ?_)
    · rw [if_pos c8] at h
      refine v_aload_n hC dX11_readTableLine_28 rfl ?_
      refine w_ldcS (tx := "sweet") (i9 := 20) hC st_20 dX11_readTableLine_29 ?_
      obtain ⟨r9, M10, q11, h⟩ := bnd_some h
      refine w_callVi hC [.ref 1000020] [] (ok_X11_isWord q11) mv_X11_isWord aw_1352 ly_208 rfl (Nat.le_of_ble_eq_true rfl) ⟨by decide, by decide⟩ ⟨by decide, by decide⟩ dX11_readTableLine_31 ?_
      refine v_if_eq hC 43 dX11_readTableLine_34 rfl (fun c12 => ?_) (fun c12 => ?_)
      · rw [if_pos c12] at h
        refine v_aload_n hC dX11_readTableLine_43 rfl ?_
        refine w_ldcS (tx := "salty") (i9 := 21) hC st_21 dX11_readTableLine_44 ?_
        obtain ⟨r13, M14, q15, h⟩ := bnd_some h
        refine w_callVi hC [.ref 1000021] [] (ok_X11_isWord q15) mv_X11_isWord aw_1352 ly_208 rfl (Nat.le_of_ble_eq_true rfl) ⟨by decide, by decide⟩ ⟨by decide, by decide⟩ dX11_readTableLine_46 ?_
        refine v_if_eq hC 58 dX11_readTableLine_49 rfl (fun c16 => ?_) (fun c16 => ?_)
        · rw [if_pos c16] at h
          refine v_aload_n hC dX11_readTableLine_58 rfl ?_
          refine w_ldcS (tx := "spill") (i9 := 22) hC st_22 dX11_readTableLine_59 ?_
          obtain ⟨r17, M18, q19, h⟩ := bnd_some h
          refine w_callVi hC [.ref 1000022] [] (ok_X11_isWord q19) mv_X11_isWord aw_1352 ly_208 rfl (Nat.le_of_ble_eq_true rfl) ⟨by decide, by decide⟩ ⟨by decide, by decide⟩ dX11_readTableLine_61 ?_
          refine v_if_eq hC 77 dX11_readTableLine_64 rfl (fun c20 => ?_) (fun c20 => ?_)
          · rw [if_pos c20] at h
            refine v_aload_n hC dX11_readTableLine_77 rfl ?_
            refine w_ldcS (tx := "damp") (i9 := 23) hC st_23 dX11_readTableLine_78 ?_
            obtain ⟨r21, M22, q23, h⟩ := bnd_some h
            refine w_callVi hC [.ref 1000023] [] (ok_X11_isWord q23) mv_X11_isWord aw_1352 ly_208 rfl (Nat.le_of_ble_eq_true rfl) ⟨by decide, by decide⟩ ⟨by decide, by decide⟩ dX11_readTableLine_80 ?_
            refine v_if_eq hC 96 dX11_readTableLine_83 rfl (fun c24 => ?_) (fun c24 => ?_)
            · rw [if_pos c24] at h
              refine v_aload_n hC dX11_readTableLine_96 rfl ?_
              refine w_ldcS (tx := "course") (i9 := 24) hC st_24 dX11_readTableLine_97 ?_
              obtain ⟨r25, M26, q27, h⟩ := bnd_some h
              refine w_callVi hC [.ref 1000024] [] (ok_X11_isWord q27) mv_X11_isWord aw_1352 ly_208 rfl (Nat.le_of_ble_eq_true rfl) ⟨by decide, by decide⟩ ⟨by decide, by decide⟩ dX11_readTableLine_99 ?_
              refine v_if_eq hC 120 dX11_readTableLine_102 rfl (fun c28 => ?_) (fun c28 => ?_)
              · rw [if_pos c28] at h
                refine v_drop [false] [none] rfl ?_
                exact ok_X11_readTableLine_120 hC hnt h
              · rw [if_neg c28] at h
                refine v_aload_n hC dX11_readTableLine_105 rfl ?_
                refine v_iconst (v := (4 : Int32)) hC dX11_readTableLine_106 rfl ?_
                refine v_iconst (v := (0 : Int32)) hC dX11_readTableLine_107 rfl ?_
                refine v_bipush (v := (11 : Int32)) hC dX11_readTableLine_108 rfl ?_
                obtain ⟨r29, M30, q31, h⟩ := bnd_some h
                refine w_callVi hC [.int (4 : Int32), .int (0 : Int32), .int (11 : Int32)] [] (ok_X11_readNumber q31) mv_X11_readNumber aw_1420 ly_208 rfl (Nat.le_of_ble_eq_true rfl) ⟨by decide, by decide⟩ ⟨by decide, by decide⟩ dX11_readTableLine_110 ?_
                refine v_if_eq hC 120 dX11_readTableLine_113 rfl (fun c32 => ?_) (fun c32 => ?_)
                · rw [if_pos c32] at h
                  refine v_drop [false] [none] rfl ?_
                  exact ok_X11_readTableLine_120 hC hnt h
                · rw [if_neg c32] at h
                  refine v_iconst (v := (1 : Int32)) hC dX11_readTableLine_116 rfl ?_
                  refine v_goto (tg := 121) hC dX11_readTableLine_117 rfl ?_
                  cases h
                  exact v_zret hC (by decide) (by decide) (by decide) dX11_readTableLine_121
            · rw [if_neg c24] at h
              refine v_aload_n hC dX11_readTableLine_86 rfl ?_
              refine v_bipush (v := (8 : Int32)) hC dX11_readTableLine_87 rfl ?_
              refine v_iconst (v := (0 : Int32)) hC dX11_readTableLine_89 rfl ?_
              refine v_bipush (v := (100 : Int32)) hC dX11_readTableLine_90 rfl ?_
              obtain ⟨r33, M34, q35, h⟩ := bnd_some h
              refine w_callVi hC [.int (8 : Int32), .int (0 : Int32), .int (100 : Int32)] [] (ok_X11_readNumber q35) mv_X11_readNumber aw_1420 ly_208 rfl (Nat.le_of_ble_eq_true rfl) ⟨by decide, by decide⟩ ⟨by decide, by decide⟩ dX11_readTableLine_92 ?_
              obtain ⟨g36, h⟩ := grd_some h
              cases h
              exact v_zret hC (isb_nar g36).1 (by decide) (by decide) dX11_readTableLine_95
          · rw [if_neg c20] at h
            refine v_aload_n hC dX11_readTableLine_67 rfl ?_
            refine v_bipush (v := (7 : Int32)) hC dX11_readTableLine_68 rfl ?_
            refine v_iconst (v := (0 : Int32)) hC dX11_readTableLine_70 rfl ?_
            refine v_bipush (v := (100 : Int32)) hC dX11_readTableLine_71 rfl ?_
            obtain ⟨r37, M38, q39, h⟩ := bnd_some h
            refine w_callVi hC [.int (7 : Int32), .int (0 : Int32), .int (100 : Int32)] [] (ok_X11_readNumber q39) mv_X11_readNumber aw_1420 ly_208 rfl (Nat.le_of_ble_eq_true rfl) ⟨by decide, by decide⟩ ⟨by decide, by decide⟩ dX11_readTableLine_73 ?_
            obtain ⟨g40, h⟩ := grd_some h
            cases h
            exact v_zret hC (isb_nar g40).1 (by decide) (by decide) dX11_readTableLine_76
        · rw [if_neg c16] at h
          refine v_aload_n hC dX11_readTableLine_52 rfl ?_
          refine v_iconst (v := (0 : Int32)) hC dX11_readTableLine_53 rfl ?_
          obtain ⟨r41, M42, q43, h⟩ := bnd_some h
          refine w_callVi hC [.int (0 : Int32)] [] (ok_X11_readMenu q43) mv_X11_readMenu aw_1414 ly_208 rfl (Nat.le_of_ble_eq_true rfl) ⟨by decide, by decide⟩ ⟨by decide, by decide⟩ dX11_readTableLine_54 ?_
          obtain ⟨g44, h⟩ := grd_some h
          cases h
          exact v_zret hC (isb_nar g44).1 (by decide) (by decide) dX11_readTableLine_57
      · rw [if_neg c12] at h
        refine v_aload_n hC dX11_readTableLine_37 rfl ?_
        refine v_iconst (v := (1 : Int32)) hC dX11_readTableLine_38 rfl ?_
        obtain ⟨r45, M46, q47, h⟩ := bnd_some h
        refine w_callVi hC [.int (1 : Int32)] [] (ok_X11_readMenu q47) mv_X11_readMenu aw_1414 ly_208 rfl (Nat.le_of_ble_eq_true rfl) ⟨by decide, by decide⟩ ⟨by decide, by decide⟩ dX11_readTableLine_39 ?_
        obtain ⟨g48, h⟩ := grd_some h
        cases h
        exact v_zret hC (isb_nar g48).1 (by decide) (by decide) dX11_readTableLine_42
    · rw [if_neg c8] at h
      refine v_aload_n hC dX11_readTableLine_23 rfl ?_
      obtain ⟨r49, M50, q51, h⟩ := bnd_some h
      refine w_callVi hC [] [] (ok_X11_readCellar q51) mv_X11_readCellar aw_1393 ly_208 rfl (Nat.le_of_ble_eq_true rfl) ⟨by decide, by decide⟩ ⟨by decide, by decide⟩ dX11_readTableLine_24 ?_
      obtain ⟨g52, h⟩ := grd_some h
      cases h
      exact v_zret hC (isb_nar g52).1 (by decide) (by decide) dX11_readTableLine_27
  · rw [if_neg c4] at h
    refine v_aload_n hC dX11_readTableLine_9 rfl ?_
    obtain ⟨r53, M54, q55, h⟩ := bnd_some h
    refine w_callVi hC [] [] (ok_X11_readDiner q55) mv_X11_readDiner aw_1358 ly_208 rfl (Nat.le_of_ble_eq_true rfl) ⟨by decide, by decide⟩ ⟨by decide, by decide⟩ dX11_readTableLine_10 ?_
    obtain ⟨g56, h⟩ := grd_some h
    cases h
    exact v_zret hC (isb_nar g56).1 (by decide) (by decide) dX11_readTableLine_13
def f_X11_emits (N : Nat) (v1 : Int32) (v2 : Int32) (M : Mm) : Option (Int32 × Mm) :=
  grd (inb ((1307 : Int32) + ((2 : Int32) * (M 208 16))) 2107) (lt (wr M 209 (((1307 : Int32) + ((2 : Int32) * (M 208 16)))).toNatClampNeg v1) (fun M2 => grd (inb (((1307 : Int32) + ((2 : Int32) * (M2 208 16))) + (1 : Int32)) 2107) (lt (wr M2 209 ((((1307 : Int32) + ((2 : Int32) * (M2 208 16))) + (1 : Int32))).toNatClampNeg v2) (fun M4 => lt (wr M4 208 16 ((M4 208 16) + (1 : Int32))) (fun M5 => some (0, M5))))))
set_option maxRecDepth 20000 in
set_option maxHeartbeats 4000000 in
theorem ok_X11_emits {l : Launch} {N : Nat} {v1 v2 : Int32} {M : Mm} {r : Int32} {M' : Mm} (h : f_X11_emits N v1 v2 M = some (r, M')) : am_M l yX11_emits cX11_emits 3 none 1 0 0 LY M [.ref 208, .int v1, .int v2] (.inl none) M' := by
  unfold f_X11_emits at h
  refine am_intro (by decide) (by simp [Value.category]) (Nat.le_of_ble_eq_true rfl) (fun X hC hnt => ?_)
  refine am_start (L := [some (.ref 208), some (.int v1), some (.int v2)]) rfl ?_
  refine v_aload_n hC dX11_emits_0 rfl ?_
  refine v_geta (k := 1) (b := 209) hC cls_X11 ly_208 (by decide) rfl aw_1232 rfl dX11_emits_1 ?_
  refine v_sipush (v := (1307 : Int32)) hC dX11_emits_4 rfl ?_
  refine v_iconst (v := (2 : Int32)) hC dX11_emits_7 rfl ?_
  refine v_aload_n hC dX11_emits_8 rfl ?_
  refine v_geti (k := 16) hC cls_X11 ly_208 (by decide) rfl aw_1247 rfl dX11_emits_9 ?_
  refine v_imul hC dX11_emits_12 ?_
  refine v_iadd hC dX11_emits_13 ?_
  refine v_iload_n hC dX11_emits_14 rfl ?_
  obtain ⟨g1, h⟩ := grd_some h
  obtain ⟨M2, e_M2, h⟩ := lt_some h
  refine w_iast hC ly_209 (inb_in g1) dX11_emits_15 e_M2 ?_
  refine v_aload_n hC dX11_emits_16 rfl ?_
  refine v_geta (k := 1) (b := 209) hC cls_X11 ly_208 (by decide) rfl aw_1232 rfl dX11_emits_17 ?_
  refine v_sipush (v := (1307 : Int32)) hC dX11_emits_20 rfl ?_
  refine v_iconst (v := (2 : Int32)) hC dX11_emits_23 rfl ?_
  refine v_aload_n hC dX11_emits_24 rfl ?_
  refine v_geti (k := 16) hC cls_X11 ly_208 (by decide) rfl aw_1247 rfl dX11_emits_25 ?_
  refine v_imul hC dX11_emits_28 ?_
  refine v_iadd hC dX11_emits_29 ?_
  refine v_iconst (v := (1 : Int32)) hC dX11_emits_30 rfl ?_
  refine v_iadd hC dX11_emits_31 ?_
  refine v_iload_n hC dX11_emits_32 rfl ?_
  obtain ⟨g3, h⟩ := grd_some h
  obtain ⟨M4, e_M4, h⟩ := lt_some h
  refine w_iast hC ly_209 (inb_in g3) dX11_emits_33 e_M4 ?_
  refine v_aload_n hC dX11_emits_34 rfl ?_
  refine v_dup hC dX11_emits_35 rfl ?_
  refine v_geti (k := 16) hC cls_X11 ly_208 (by decide) rfl aw_1247 rfl dX11_emits_36 ?_
  refine v_iconst (v := (1 : Int32)) hC dX11_emits_39 rfl ?_
  refine v_iadd hC dX11_emits_40 ?_
  obtain ⟨M5, e_M5, h⟩ := lt_some h
  refine w_puti (k := 16) hC cls_X11 ly_208 (by decide) rfl aw_1247 rfl rfl ⟨rfl, rfl⟩ dX11_emits_41 e_M5 ?_
  cases h
  exact v_vret hC (by decide) (by decide) dX11_emits_44
def f_X11_readPart_120 (N : Nat) (v1 : Int32) (M : Mm) : Option (Int32 × Mm) :=
  (if v1 < (0 : Int32) then some ((0 : Int32), M) else some ((1 : Int32), M))
def f_X11_readPart_113 (N : Nat) (s0 : Int32) (M : Mm) : Option (Int32 × Mm) :=
  bnd (f_X11_emits N s0 (0 : Int32) M) (fun r29 M30 => f_X11_readPart_120 N s0 M30)
def f_X11_readPart (N : Nat) (M : Mm) : Option (Int32 × Mm) :=
  bnd (f_X11_letters N M) (fun r1 M2 => (if (M2 208 10) = (M2 208 12) then bnd (f_X11_number N (0 : Int32) (999 : Int32) M2) (fun r33 M34 => bnd (f_X11_emits N (8 : Int32) r33 M34) (fun r36 M37 => f_X11_readPart_120 N r33 M37)) else bnd (f_X11_isWord N 1000012 M2) (fun r5 M6 => (if r5 = (0 : Int32) then bnd (f_X11_isWord N 1000016 M6) (fun r9 M10 => (if r9 = (0 : Int32) then bnd (f_X11_isWord N 1000013 M10) (fun r13 M14 => (if r13 = (0 : Int32) then bnd (f_X11_isWord N 1000017 M14) (fun r17 M18 => (if r17 = (0 : Int32) then bnd (f_X11_isWord N 1000030 M18) (fun r21 M22 => (if r21 = (0 : Int32) then bnd (f_X11_isWord N 1000024 M22) (fun r25 M26 => (if r25 = (0 : Int32) then f_X11_readPart_113 N (-1 : Int32) M26 else f_X11_readPart_113 N (5 : Int32) M26)) else f_X11_readPart_113 N (4 : Int32) M22)) else f_X11_readPart_113 N (3 : Int32) M18)) else f_X11_readPart_113 N (2 : Int32) M14)) else f_X11_readPart_113 N (1 : Int32) M10)) else f_X11_readPart_113 N (0 : Int32) M6))))
set_option maxRecDepth 20000 in
set_option maxHeartbeats 4000000 in
theorem ok_X11_readPart_120 {N : Nat} {X : am_X} {l : Launch} (hC : am_C X l (am_rm 6 0 0) cX11_readPart yX11_readPart.cls (some .boolean)) (hnt : am_NT X) {v1 : Int32} {M : Mm} {r : Int32} {M' : Mm} (h : f_X11_readPart_120 N v1 M = some (r, M')) : am_V X LY M 0 0 (am_Q X LY 0 0 (.inl (some (.int r))) M') 120 [none, some (.int v1)] [] := by
  unfold f_X11_readPart_120 at h
  refine v_iload_n hC dX11_readPart_120 rfl ?_
  refine v_if_lt hC 128 dX11_readPart_121 rfl (fun c32 => ?_) (fun c32 => ?_)
  · rw [if_pos c32] at h
    refine v_iconst (v := (0 : Int32)) hC dX11_readPart_128 rfl ?_
    cases h
    exact v_zret hC (by decide) (by decide) (by decide) dX11_readPart_129
  · rw [if_neg c32] at h
    refine v_iconst (v := (1 : Int32)) hC dX11_readPart_124 rfl ?_
    refine v_goto (tg := 129) hC dX11_readPart_125 rfl ?_
    cases h
    exact v_zret hC (by decide) (by decide) (by decide) dX11_readPart_129
set_option maxRecDepth 20000 in
set_option maxHeartbeats 4000000 in
theorem ok_X11_readPart_113 {N : Nat} {X : am_X} {l : Launch} (hC : am_C X l (am_rm 6 0 0) cX11_readPart yX11_readPart.cls (some .boolean)) (hnt : am_NT X) {s0 : Int32} {M : Mm} {r : Int32} {M' : Mm} (h : f_X11_readPart_113 N s0 M = some (r, M')) : am_V X LY M 0 0 (am_Q X LY 0 0 (.inl (some (.int r))) M') 113 [some (.ref 208), none] [.int s0] := by
  unfold f_X11_readPart_113 at h
  refine w_istore_n hC dX11_readPart_113 (ltk rfl) [some (.ref 208), some (.int s0)] rfl ?_
  refine v_aload_n hC dX11_readPart_114 rfl ?_
  refine v_iload_n hC dX11_readPart_115 rfl ?_
  refine v_iconst (v := (0 : Int32)) hC dX11_readPart_116 rfl ?_
  obtain ⟨r29, M30, q31, h⟩ := bnd_some h
  refine w_callVv hC [.int s0, .int (0 : Int32)] [] (ok_X11_emits q31) mv_X11_emits aw_1450 ly_208 rfl (Nat.le_of_ble_eq_true rfl) ⟨by decide, by decide⟩ ⟨by decide, by decide⟩ dX11_readPart_117 ?_
  refine v_drop [false, true] [none, some (.int s0)] rfl ?_
  exact ok_X11_readPart_120 hC hnt h
set_option maxRecDepth 20000 in
set_option maxHeartbeats 4000000 in
theorem ok_X11_readPart {l : Launch} {N : Nat} {M : Mm} {r : Int32} {M' : Mm} (h : f_X11_readPart N M = some (r, M')) : am_M l yX11_readPart cX11_readPart 2 (some .boolean) 6 0 0 LY M [.ref 208] (.inl (some (.int r))) M' := by
  unfold f_X11_readPart at h
  refine am_intro (by decide) (by simp [Value.category]) (Nat.le_of_ble_eq_true rfl) (fun X hC hnt => ?_)
  refine am_start (L := [some (.ref 208), none]) rfl ?_
  refine v_aload_n hC dX11_readPart_0 rfl ?_
  obtain ⟨r1, M2, q3, h⟩ := bnd_some h
  refine w_callVv hC [] [] (ok_X11_letters q3) mv_X11_letters aw_1343 ly_208 rfl (Nat.le_of_ble_eq_true rfl) ⟨by decide, by decide⟩ ⟨by decide, by decide⟩ dX11_readPart_1 ?_
  refine v_aload_n hC dX11_readPart_4 rfl ?_
  refine v_geti (k := 10) hC cls_X11 ly_208 (by decide) rfl aw_1241 rfl dX11_readPart_5 ?_
  refine v_aload_n hC dX11_readPart_8 rfl ?_
  refine v_geti (k := 12) hC cls_X11 ly_208 (by decide) rfl aw_1243 rfl dX11_readPart_9 ?_
  refine v_icmp_ne hC 34 dX11_readPart_12 rfl (fun c4 => ?_) (fun c4 => ?_)
  · rw [if_neg c4] at h
    refine v_aload_n hC dX11_readPart_34 rfl ?_
    refine w_ldcS (tx := "diner") (i9 := 12) hC st_12 dX11_readPart_35 ?_
    obtain ⟨r5, M6, q7, h⟩ := bnd_some h
    refine w_callVi hC [.ref 1000012] [] (ok_X11_isWord q7) mv_X11_isWord aw_1352 ly_208 rfl (Nat.le_of_ble_eq_true rfl) ⟨by decide, by decide⟩ ⟨by decide, by decide⟩ dX11_readPart_37 ?_
    refine v_if_eq hC 47 dX11_readPart_40 rfl (fun c8 => ?_) (fun c8 => ?_)
    · rw [if_pos c8] at h
      refine v_aload_n hC dX11_readPart_47 rfl ?_
      refine w_ldcS (tx := "cellar") (i9 := 16) hC st_16 dX11_readPart_48 ?_
      obtain ⟨r9, M10, q11, h⟩ := bnd_some h
      refine w_callVi hC [.ref 1000016] [] (ok_X11_isWord q11) mv_X11_isWord aw_1352 ly_208 rfl (Nat.le_of_ble_eq_true rfl) ⟨by decide, by decide⟩ ⟨by decide, by decide⟩ dX11_readPart_50 ?_
      refine v_if_eq hC 60 dX11_readPart_53 rfl (fun c12 => ?_) (fun c12 => ?_)
      · rw [if_pos c12] at h
        refine v_aload_n hC dX11_readPart_60 rfl ?_
        refine w_ldcS (tx := "taste") (i9 := 13) hC st_13 dX11_readPart_61 ?_
        obtain ⟨r13, M14, q15, h⟩ := bnd_some h
        refine w_callVi hC [.ref 1000013] [] (ok_X11_isWord q15) mv_X11_isWord aw_1352 ly_208 rfl (Nat.le_of_ble_eq_true rfl) ⟨by decide, by decide⟩ ⟨by decide, by decide⟩ dX11_readPart_63 ?_
        refine v_if_eq hC 73 dX11_readPart_66 rfl (fun c16 => ?_) (fun c16 => ?_)
        · rw [if_pos c16] at h
          refine v_aload_n hC dX11_readPart_73 rfl ?_
          refine w_ldcS (tx := "grains") (i9 := 17) hC st_17 dX11_readPart_74 ?_
          obtain ⟨r17, M18, q19, h⟩ := bnd_some h
          refine w_callVi hC [.ref 1000017] [] (ok_X11_isWord q19) mv_X11_isWord aw_1352 ly_208 rfl (Nat.le_of_ble_eq_true rfl) ⟨by decide, by decide⟩ ⟨by decide, by decide⟩ dX11_readPart_76 ?_
          refine v_if_eq hC 86 dX11_readPart_79 rfl (fun c20 => ?_) (fun c20 => ?_)
          · rw [if_pos c20] at h
            refine v_aload_n hC dX11_readPart_86 rfl ?_
            refine w_ldcS (tx := "has") (i9 := 30) hC st_30 dX11_readPart_87 ?_
            obtain ⟨r21, M22, q23, h⟩ := bnd_some h
            refine w_callVi hC [.ref 1000030] [] (ok_X11_isWord q23) mv_X11_isWord aw_1352 ly_208 rfl (Nat.le_of_ble_eq_true rfl) ⟨by decide, by decide⟩ ⟨by decide, by decide⟩ dX11_readPart_89 ?_
            refine v_if_eq hC 99 dX11_readPart_92 rfl (fun c24 => ?_) (fun c24 => ?_)
            · rw [if_pos c24] at h
              refine v_aload_n hC dX11_readPart_99 rfl ?_
              refine w_ldcS (tx := "course") (i9 := 24) hC st_24 dX11_readPart_100 ?_
              obtain ⟨r25, M26, q27, h⟩ := bnd_some h
              refine w_callVi hC [.ref 1000024] [] (ok_X11_isWord q27) mv_X11_isWord aw_1352 ly_208 rfl (Nat.le_of_ble_eq_true rfl) ⟨by decide, by decide⟩ ⟨by decide, by decide⟩ dX11_readPart_102 ?_
              refine v_if_eq hC 112 dX11_readPart_105 rfl (fun c28 => ?_) (fun c28 => ?_)
              · rw [if_pos c28] at h
                refine v_iconst (v := (-1 : Int32)) hC dX11_readPart_112 rfl ?_
                exact ok_X11_readPart_113 hC hnt h
              · rw [if_neg c28] at h
                refine v_iconst (v := (5 : Int32)) hC dX11_readPart_108 rfl ?_
                refine v_goto (tg := 113) hC dX11_readPart_109 rfl ?_
                exact ok_X11_readPart_113 hC hnt h
            · rw [if_neg c24] at h
              refine v_iconst (v := (4 : Int32)) hC dX11_readPart_95 rfl ?_
              refine v_goto (tg := 113) hC dX11_readPart_96 rfl ?_
              exact ok_X11_readPart_113 hC hnt h
          · rw [if_neg c20] at h
            refine v_iconst (v := (3 : Int32)) hC dX11_readPart_82 rfl ?_
            refine v_goto (tg := 113) hC dX11_readPart_83 rfl ?_
            exact ok_X11_readPart_113 hC hnt h
        · rw [if_neg c16] at h
          refine v_iconst (v := (2 : Int32)) hC dX11_readPart_69 rfl ?_
          refine v_goto (tg := 113) hC dX11_readPart_70 rfl ?_
          exact ok_X11_readPart_113 hC hnt h
      · rw [if_neg c12] at h
        refine v_iconst (v := (1 : Int32)) hC dX11_readPart_56 rfl ?_
        refine v_goto (tg := 113) hC dX11_readPart_57 rfl ?_
        exact ok_X11_readPart_113 hC hnt h
    · rw [if_neg c8] at h
      refine v_iconst (v := (0 : Int32)) hC dX11_readPart_43 rfl ?_
      refine v_goto (tg := 113) hC dX11_readPart_44 rfl ?_
      exact ok_X11_readPart_113 hC hnt h
  · rw [if_pos c4] at h
    refine v_aload_n hC dX11_readPart_15 rfl ?_
    refine v_iconst (v := (0 : Int32)) hC dX11_readPart_16 rfl ?_
    refine v_sipush (v := (999 : Int32)) hC dX11_readPart_17 rfl ?_
    obtain ⟨r33, M34, q35, h⟩ := bnd_some h
    refine w_callVi hC [.int (0 : Int32), .int (999 : Int32)] [] (ok_X11_number q35) mv_X11_number aw_1371 ly_208 rfl (Nat.le_of_ble_eq_true rfl) ⟨by decide, by decide⟩ ⟨by decide, by decide⟩ dX11_readPart_20 ?_
    refine w_istore_n hC dX11_readPart_23 (ltk rfl) [some (.ref 208), some (.int r33)] rfl ?_
    refine v_aload_n hC dX11_readPart_24 rfl ?_
    refine v_bipush (v := (8 : Int32)) hC dX11_readPart_25 rfl ?_
    refine v_iload_n hC dX11_readPart_27 rfl ?_
    obtain ⟨r36, M37, q38, h⟩ := bnd_some h
    refine w_callVv hC [.int (8 : Int32), .int r33] [] (ok_X11_emits q38) mv_X11_emits aw_1450 ly_208 rfl (Nat.le_of_ble_eq_true rfl) ⟨by decide, by decide⟩ ⟨by decide, by decide⟩ dX11_readPart_28 ?_
    refine v_goto (tg := 120) hC dX11_readPart_31 rfl ?_
    refine v_drop [false, true] [none, some (.int r33)] rfl ?_
    exact ok_X11_readPart_120 hC hnt h
def f_X11_readSum_9 (N : Nat) : Nat → Mm → Option (Int32 × Mm)
  | 0, _ => none
  | n + 1, M => bnd (f_X11_sign N (43 : Int32) M) (fun r5 M6 => (if r5 = (0 : Int32) then some ((1 : Int32), M6) else bnd (f_X11_readPart N M6) (fun r9 M10 => (if r9 = (0 : Int32) then some ((0 : Int32), M10) else bnd (f_X11_emits N (9 : Int32) (0 : Int32) M10) (fun r13 M14 => f_X11_readSum_9 N n M14)))))
def f_X11_readSum (N : Nat) (M : Mm) : Option (Int32 × Mm) :=
  bnd (f_X11_readPart N M) (fun r1 M2 => (if r1 = (0 : Int32) then some ((0 : Int32), M2) else f_X11_readSum_9 N N M2))
set_option maxRecDepth 20000 in
set_option maxHeartbeats 4000000 in
theorem ok_X11_readSum_9 {N : Nat} {X : am_X} {l : Launch} (hC : am_C X l (am_rm 7 0 0) cX11_readSum yX11_readSum.cls (some .boolean)) (hnt : am_NT X) : ∀ (n : Nat) (M : Mm) (r : Int32) (M' : Mm), f_X11_readSum_9 N n  M = some (r, M') → am_V X LY M 0 0 (am_Q X LY 0 0 (.inl (some (.int r))) M') 9 [some (.ref 208)] [] := by
  intro n
  induction n with
  | zero => intro  M r M' h; cases h
  | succ n ih =>
    intro  M r M' h
    simp only [f_X11_readSum_9] at h
    refine v_aload_n hC dX11_readSum_9 rfl ?_
    refine v_bipush (v := (43 : Int32)) hC dX11_readSum_10 rfl ?_
    obtain ⟨r5, M6, q7, h⟩ := bnd_some h
    refine w_callVi hC [.int (43 : Int32)] [] (ok_X11_sign q7) mv_X11_sign aw_1445 ly_208 rfl (Nat.le_of_ble_eq_true rfl) ⟨by decide, by decide⟩ ⟨by decide, by decide⟩ dX11_readSum_12 ?_
    refine v_if_eq hC 37 dX11_readSum_15 rfl (fun c8 => ?_) (fun c8 => ?_)
    · rw [if_pos c8] at h
      refine v_iconst (v := (1 : Int32)) hC dX11_readSum_37 rfl ?_
      cases h
      exact v_zret hC (by decide) (by decide) (by decide) dX11_readSum_38
    · rw [if_neg c8] at h
      refine v_aload_n hC dX11_readSum_18 rfl ?_
      obtain ⟨r9, M10, q11, h⟩ := bnd_some h
      refine w_callVi hC [] [] (ok_X11_readPart q11) mv_X11_readPart aw_1463 ly_208 rfl (Nat.le_of_ble_eq_true rfl) ⟨by decide, by decide⟩ ⟨by decide, by decide⟩ dX11_readSum_19 ?_
      refine v_if_ne hC 27 dX11_readSum_22 rfl (fun c12 => ?_) (fun c12 => ?_)
      · rw [if_neg c12] at h
        refine v_aload_n hC dX11_readSum_27 rfl ?_
        refine v_bipush (v := (9 : Int32)) hC dX11_readSum_28 rfl ?_
        refine v_iconst (v := (0 : Int32)) hC dX11_readSum_30 rfl ?_
        obtain ⟨r13, M14, q15, h⟩ := bnd_some h
        refine w_callVv hC [.int (9 : Int32), .int (0 : Int32)] [] (ok_X11_emits q15) mv_X11_emits aw_1450 ly_208 rfl (Nat.le_of_ble_eq_true rfl) ⟨by decide, by decide⟩ ⟨by decide, by decide⟩ dX11_readSum_31 ?_
        refine v_goto (tg := 9) hC dX11_readSum_34 rfl ?_
        exact ih _ _ _ h
      · rw [if_pos c12] at h
        refine v_iconst (v := (0 : Int32)) hC dX11_readSum_25 rfl ?_
        cases h
        exact v_zret hC (by decide) (by decide) (by decide) dX11_readSum_26
set_option maxRecDepth 20000 in
set_option maxHeartbeats 4000000 in
theorem ok_X11_readSum {l : Launch} {N : Nat} {M : Mm} {r : Int32} {M' : Mm} (h : f_X11_readSum N M = some (r, M')) : am_M l yX11_readSum cX11_readSum 1 (some .boolean) 7 0 0 LY M [.ref 208] (.inl (some (.int r))) M' := by
  unfold f_X11_readSum at h
  refine am_intro (by decide) (by simp [Value.category]) (Nat.le_of_ble_eq_true rfl) (fun X hC hnt => ?_)
  refine am_start (L := [some (.ref 208)]) rfl ?_
  refine v_aload_n hC dX11_readSum_0 rfl ?_
  obtain ⟨r1, M2, q3, h⟩ := bnd_some h
  refine w_callVi hC [] [] (ok_X11_readPart q3) mv_X11_readPart aw_1463 ly_208 rfl (Nat.le_of_ble_eq_true rfl) ⟨by decide, by decide⟩ ⟨by decide, by decide⟩ dX11_readSum_1 ?_
  refine v_if_ne hC 9 dX11_readSum_4 rfl (fun c4 => ?_) (fun c4 => ?_)
  · rw [if_neg c4] at h
    exact ok_X11_readSum_9 hC hnt N _ _ _ h
  · rw [if_pos c4] at h
    refine v_iconst (v := (0 : Int32)) hC dX11_readSum_7 rfl ?_
    cases h
    exact v_zret hC (by decide) (by decide) (by decide) dX11_readSum_8
def f_X11_readTag_55 (N : Nat) (v1 : Int32) (M : Mm) : Option (Int32 × Mm) :=
  (if v1 < (0 : Int32) then some ((0 : Int32), M) else some ((1 : Int32), M))
def f_X11_readTag_33 (N : Nat) (s0 : Int32) (M : Mm) : Option (Int32 × Mm) :=
  (if s0 < (0 : Int32) then lt (wr M 208 10 (M 208 12)) (fun M13 => f_X11_readTag_55 N s0 M13) else bnd (f_X11_emits N s0 (0 : Int32) M) (fun r15 M16 => f_X11_readTag_55 N s0 M16))
def f_X11_readTag (N : Nat) (M : Mm) : Option (Int32 × Mm) :=
  bnd (f_X11_letters N M) (fun r1 M2 => bnd (f_X11_isWord N 1000015 M2) (fun r4 M5 => (if r4 = (0 : Int32) then bnd (f_X11_isWord N 1000029 M5) (fun r8 M9 => (if r8 = (0 : Int32) then f_X11_readTag_33 N (-1 : Int32) M9 else f_X11_readTag_33 N (7 : Int32) M9)) else f_X11_readTag_33 N (6 : Int32) M5)))
set_option maxRecDepth 20000 in
set_option maxHeartbeats 4000000 in
theorem ok_X11_readTag_55 {N : Nat} {X : am_X} {l : Launch} (hC : am_C X l (am_rm 6 0 0) cX11_readTag yX11_readTag.cls (some .boolean)) (hnt : am_NT X) {v1 : Int32} {M : Mm} {r : Int32} {M' : Mm} (h : f_X11_readTag_55 N v1 M = some (r, M')) : am_V X LY M 0 0 (am_Q X LY 0 0 (.inl (some (.int r))) M') 55 [none, some (.int v1)] [] := by
  unfold f_X11_readTag_55 at h
  refine v_iload_n hC dX11_readTag_55 rfl ?_
  refine v_if_lt hC 63 dX11_readTag_56 rfl (fun c14 => ?_) (fun c14 => ?_)
  · rw [if_pos c14] at h
    refine v_iconst (v := (0 : Int32)) hC dX11_readTag_63 rfl ?_
    cases h
    exact v_zret hC (by decide) (by decide) (by decide) dX11_readTag_64
  · rw [if_neg c14] at h
    refine v_iconst (v := (1 : Int32)) hC dX11_readTag_59 rfl ?_
    refine v_goto (tg := 64) hC dX11_readTag_60 rfl ?_
    cases h
    exact v_zret hC (by decide) (by decide) (by decide) dX11_readTag_64
set_option maxRecDepth 20000 in
set_option maxHeartbeats 4000000 in
theorem ok_X11_readTag_33 {N : Nat} {X : am_X} {l : Launch} (hC : am_C X l (am_rm 6 0 0) cX11_readTag yX11_readTag.cls (some .boolean)) (hnt : am_NT X) {s0 : Int32} {M : Mm} {r : Int32} {M' : Mm} (h : f_X11_readTag_33 N s0 M = some (r, M')) : am_V X LY M 0 0 (am_Q X LY 0 0 (.inl (some (.int r))) M') 33 [some (.ref 208), none] [.int s0] := by
  unfold f_X11_readTag_33 at h
  refine w_istore_n hC dX11_readTag_33 (ltk rfl) [some (.ref 208), some (.int s0)] rfl ?_
  refine v_iload_n hC dX11_readTag_34 rfl ?_
  refine v_if_lt hC 47 dX11_readTag_35 rfl (fun c12 => ?_) (fun c12 => ?_)
  · rw [if_pos c12] at h
    refine v_aload_n hC dX11_readTag_47 rfl ?_
    refine v_aload_n hC dX11_readTag_48 rfl ?_
    refine v_geti (k := 12) hC cls_X11 ly_208 (by decide) rfl aw_1243 rfl dX11_readTag_49 ?_
    obtain ⟨M13, e_M13, h⟩ := lt_some h
    refine w_puti (k := 10) hC cls_X11 ly_208 (by decide) rfl aw_1241 rfl rfl ⟨rfl, rfl⟩ dX11_readTag_52 e_M13 ?_
    refine v_drop [false, true] [none, some (.int s0)] rfl ?_
    exact ok_X11_readTag_55 hC hnt h
  · rw [if_neg c12] at h
    refine v_aload_n hC dX11_readTag_38 rfl ?_
    refine v_iload_n hC dX11_readTag_39 rfl ?_
    refine v_iconst (v := (0 : Int32)) hC dX11_readTag_40 rfl ?_
    obtain ⟨r15, M16, q17, h⟩ := bnd_some h
    refine w_callVv hC [.int s0, .int (0 : Int32)] [] (ok_X11_emits q17) mv_X11_emits aw_1450 ly_208 rfl (Nat.le_of_ble_eq_true rfl) ⟨by decide, by decide⟩ ⟨by decide, by decide⟩ dX11_readTag_41 ?_
    refine v_goto (tg := 55) hC dX11_readTag_44 rfl ?_
    refine v_drop [false, true] [none, some (.int s0)] rfl ?_
    exact ok_X11_readTag_55 hC hnt h
set_option maxRecDepth 20000 in
set_option maxHeartbeats 4000000 in
theorem ok_X11_readTag {l : Launch} {N : Nat} {M : Mm} {r : Int32} {M' : Mm} (h : f_X11_readTag N M = some (r, M')) : am_M l yX11_readTag cX11_readTag 2 (some .boolean) 6 0 0 LY M [.ref 208] (.inl (some (.int r))) M' := by
  unfold f_X11_readTag at h
  refine am_intro (by decide) (by simp [Value.category]) (Nat.le_of_ble_eq_true rfl) (fun X hC hnt => ?_)
  refine am_start (L := [some (.ref 208), none]) rfl ?_
  refine v_aload_n hC dX11_readTag_0 rfl ?_
  obtain ⟨r1, M2, q3, h⟩ := bnd_some h
  refine w_callVv hC [] [] (ok_X11_letters q3) mv_X11_letters aw_1343 ly_208 rfl (Nat.le_of_ble_eq_true rfl) ⟨by decide, by decide⟩ ⟨by decide, by decide⟩ dX11_readTag_1 ?_
  refine v_aload_n hC dX11_readTag_4 rfl ?_
  refine w_ldcS (tx := "diet") (i9 := 15) hC st_15 dX11_readTag_5 ?_
  obtain ⟨r4, M5, q6, h⟩ := bnd_some h
  refine w_callVi hC [.ref 1000015] [] (ok_X11_isWord q6) mv_X11_isWord aw_1352 ly_208 rfl (Nat.le_of_ble_eq_true rfl) ⟨by decide, by decide⟩ ⟨by decide, by decide⟩ dX11_readTag_7 ?_
  refine v_if_eq hC 18 dX11_readTag_10 rfl (fun c7 => ?_) (fun c7 => ?_)
  · rw [if_pos c7] at h
    refine v_aload_n hC dX11_readTag_18 rfl ?_
    refine w_ldcS (tx := "last") (i9 := 29) hC st_29 dX11_readTag_19 ?_
    obtain ⟨r8, M9, q10, h⟩ := bnd_some h
    refine w_callVi hC [.ref 1000029] [] (ok_X11_isWord q10) mv_X11_isWord aw_1352 ly_208 rfl (Nat.le_of_ble_eq_true rfl) ⟨by decide, by decide⟩ ⟨by decide, by decide⟩ dX11_readTag_21 ?_
    refine v_if_eq hC 32 dX11_readTag_24 rfl (fun c11 => ?_) (fun c11 => ?_)
    · rw [if_pos c11] at h
      refine v_iconst (v := (-1 : Int32)) hC dX11_readTag_32 rfl ?_
      exact ok_X11_readTag_33 hC hnt h
    · rw [if_neg c11] at h
      refine v_bipush (v := (7 : Int32)) hC dX11_readTag_27 rfl ?_
      refine v_goto (tg := 33) hC dX11_readTag_29 rfl ?_
      exact ok_X11_readTag_33 hC hnt h
  · rw [if_neg c7] at h
    refine v_bipush (v := (6 : Int32)) hC dX11_readTag_13 rfl ?_
    refine v_goto (tg := 33) hC dX11_readTag_15 rfl ?_
    exact ok_X11_readTag_33 hC hnt h
