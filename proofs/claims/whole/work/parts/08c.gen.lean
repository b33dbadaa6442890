def f_X5_spills_2 (N : Nat) (a1 : Nat) : Nat → Int32 → Mm → Option (Int32 × Mm)
  | 0, _, _ => none
  | n + 1, v2, M => (if (M a1 1) ≤ v2 then some (0, M) else (if (5 : Int32) ≤ v2 then some (0, M) else grd (inb v2 5) ((if (M (a1 + 6) (v2).toNatClampNeg) ≤ (0 : Int32) then f_X5_spills_2 N a1 n (v2 + (1 : Int32)) M else bnd (f_X6_draws N a1 M) (fun r6 M7 => (if (M7 a1 6) ≤ (r6 - r6 / (100 : Int32) * (100 : Int32)) then f_X5_spills_2 N a1 n (v2 + (1 : Int32)) M7 else grd (inb v2 5) (grd (inb v2 5) (lt (wr M7 (a1 + 6) (v2).toNatClampNeg ((M7 (a1 + 6) (v2).toNatClampNeg) - (1 : Int32))) (fun M13 => lt (wr M13 a1 8 (if ((M13 a1 8) + (1 : Int32)) < (9999 : Int32) then ((M13 a1 8) + (1 : Int32)) else (9999 : Int32))) (fun M14 => f_X5_spills_2 N a1 n (v2 + (1 : Int32)) M14))))))))))
def f_X5_spills (N : Nat) (a1 : Nat) (M : Mm) : Option (Int32 × Mm) :=
  f_X5_spills_2 N a1 N (0 : Int32) M
set_option maxRecDepth 20000 in
set_option maxHeartbeats 4000000 in
theorem ok_X5_spills_2 {N : Nat} {X : am_X} {l : Launch} (hC : am_C X l (am_rm 2 0 0) cX5_spills yX5_spills.cls none) (hnt : am_NT X) {a1 : Nat} (h1 : kTable a1) : ∀ (n : Nat) (v2 : Int32) (M : Mm) (r : Int32) (M' : Mm), f_X5_spills_2 N a1 n v2 M = some (r, M') → am_V X LY M 0 0 (am_Q X LY 0 0 (.inl none) M') 2 [none, some (.ref a1), some (.int v2)] [] := by
  intro n
  induction n with
  | zero => intro v2 M r M' h; cases h
  | succ n ih =>
    intro v2 M r M' h
    simp only [f_X5_spills_2] at h
    refine v_iload_n hC dX5_spills_2 rfl ?_
    refine v_aload_n hC dX5_spills_3 rfl ?_
    refine v_geti (k := 1) hC cls_X6 h1.1 (by decide) rfl aw_90 rfl dX5_spills_4 ?_
    refine v_icmp_ge hC 70 dX5_spills_7 rfl (fun c1 => ?_) (fun c1 => ?_)
    · rw [if_pos c1] at h
      cases h
      exact v_vret hC (by decide) (by decide) dX5_spills_70
    · rw [if_neg c1] at h
      refine v_iload_n hC dX5_spills_10 rfl ?_
      refine v_iconst (v := (5 : Int32)) hC dX5_spills_11 rfl ?_
      refine v_icmp_ge hC 70 dX5_spills_12 rfl (fun c2 => ?_) (fun c2 => ?_)
      · rw [if_pos c2] at h
        cases h
        exact v_vret hC (by decide) (by decide) dX5_spills_70
      · rw [if_neg c2] at h
        refine v_aload_n hC dX5_spills_15 rfl ?_
        refine v_geta (k := 16) (b := (a1 + 6)) hC cls_X6 h1.1 (by decide) rfl aw_134 rfl dX5_spills_16 ?_
        refine v_iload_n hC dX5_spills_19 rfl ?_
        obtain ⟨g3, h⟩ := grd_some h
        refine v_iald hC (kT_grains h1) (inb_in g3) dX5_spills_20 ?_
        refine v_if_le hC 64 dX5_spills_21 rfl (fun c4 => ?_) (fun c4 => ?_)
        · rw [if_pos c4] at h
          refine w_iinc hC (v2 + (1 : Int32)) dX5_spills_64 rfl rfl [none, some (.ref a1), some (.int (v2 + (1 : Int32)))] rfl ?_
          refine v_goto (tg := 2) hC dX5_spills_67 rfl ?_
          exact ih _ _ _ _ h
        · rw [if_neg c4] at h
          refine v_aload_n hC dX5_spills_24 rfl ?_
          obtain ⟨r6, M7, q8, h⟩ := bnd_some h
          refine w_callVi hC [] [] (ok_X6_draws h1 q8) mv_X6_draws aw_1013 h1.1 rfl (Nat.le_of_ble_eq_true rfl) ⟨by decide, by decide⟩ ⟨by decide, by decide⟩ dX5_spills_25 ?_
          refine v_bipush (v := (100 : Int32)) hC dX5_spills_28 rfl ?_
          refine v_irem hC dX5_spills_30 (by decide) ?_
          refine v_aload_n hC dX5_spills_31 rfl ?_
          refine v_geti (k := 6) hC cls_X6 h1.1 (by decide) rfl aw_107 rfl dX5_spills_32 ?_
          refine v_icmp_ge hC 64 dX5_spills_35 rfl (fun c9 => ?_) (fun c9 => ?_)
          · rw [if_pos c9] at h
            refine w_iinc hC (v2 + (1 : Int32)) dX5_spills_64 rfl rfl [none, some (.ref a1), some (.int (v2 + (1 : Int32)))] rfl ?_
            refine v_goto (tg := 2) hC dX5_spills_67 rfl ?_
            exact ih _ _ _ _ h
          · rw [if_neg c9] at h
            refine v_aload_n hC dX5_spills_38 rfl ?_
            refine v_geta (k := 16) (b := (a1 + 6)) hC cls_X6 h1.1 (by decide) rfl aw_134 rfl dX5_spills_39 ?_
            refine v_iload_n hC dX5_spills_42 rfl ?_
            refine v_dup2 hC dX5_spills_43 rfl rfl ?_
            obtain ⟨g11, h⟩ := grd_some h
            refine v_iald hC (kT_grains h1) (inb_in g11) dX5_spills_44 ?_
            refine v_iconst (v := (1 : Int32)) hC dX5_spills_45 rfl ?_
            refine v_isub hC dX5_spills_46 ?_
            obtain ⟨g12, h⟩ := grd_some h
            obtain ⟨M13, e_M13, h⟩ := lt_some h
            refine w_iast hC (kT_grains h1) (inb_in g12) dX5_spills_47 e_M13 ?_
            refine v_aload_n hC dX5_spills_48 rfl ?_
            refine v_sipush (v := (9999 : Int32)) hC dX5_spills_49 rfl ?_
            refine v_aload_n hC dX5_spills_52 rfl ?_
            refine v_geti (k := 8) hC cls_X6 h1.1 (by decide) rfl aw_114 rfl dX5_spills_53 ?_
            refine v_iconst (v := (1 : Int32)) hC dX5_spills_56 rfl ?_
            refine v_iadd hC dX5_spills_57 ?_
            refine v_mmin hC aw_1018 wm_min (Nat.le_of_ble_eq_true rfl) (Nat.le_of_ble_eq_true rfl) (Nat.le_of_ble_eq_true rfl) (Nat.le_of_ble_eq_true rfl) dX5_spills_58 ?_
            obtain ⟨M14, e_M14, h⟩ := lt_some h
            refine w_puti (k := 8) hC cls_X6 h1.1 (by decide) rfl aw_114 rfl rfl ⟨rfl, rfl⟩ dX5_spills_61 e_M14 ?_
            refine w_iinc hC (v2 + (1 : Int32)) dX5_spills_64 rfl rfl [none, some (.ref a1), some (.int (v2 + (1 : Int32)))] rfl ?_
            refine v_goto (tg := 2) hC dX5_spills_67 rfl ?_
            exact ih _ _ _ _ h
set_option maxRecDepth 20000 in
set_option maxHeartbeats 4000000 in
theorem ok_X5_spills {l : Launch} {N : Nat} {a1 : Nat} {M : Mm} {r : Int32} {M' : Mm} (h1 : kTable a1) (h : f_X5_spills N a1 M = some (r, M')) : am_M l yX5_spills cX5_spills 3 none 2 0 0 LY M [.ref 39, .ref a1] (.inl none) M' := by
  unfold f_X5_spills at h
  refine am_intro (by decide) (by simp [Value.category]) (Nat.le_of_ble_eq_true rfl) (fun X hC hnt => ?_)
  refine am_start (L := [some (.ref 39), some (.ref a1), none]) rfl ?_
  refine v_iconst (v := (0 : Int32)) hC dX5_spills_0 rfl ?_
  refine w_istore_n hC dX5_spills_1 (ltk rfl) [some (.ref 39), some (.ref a1), some (.int (0 : Int32))] rfl ?_
  refine v_drop [false, true, true] [none, some (.ref a1), some (.int (0 : Int32))] rfl ?_
  exact ok_X5_spills_2 hC hnt h1 N _ _ _ _ h
def f_X5_goesBy_n (N : Nat) (a1 : Nat) (a2 : Nat) (M : Mm) : Option (Int32 × Mm) :=
  bnd (f_X5_allTake_n N a1 a2 M) (fun r1 M2 => bnd (f_X5_spills N a1 M2) (fun r4 M5 => bnd (f_X5_damps N a1 a2 M5) (fun r7 M8 => bnd (f_X6_passesOn N a1 M8) (fun r10 M11 => some (r1, M11)))))
set_option maxRecDepth 20000 in
set_option maxHeartbeats 4000000 in
theorem ok_X5_goesBy_n {l : Launch} {N : Nat} {a1 a2 : Nat} {M : Mm} {r : Int32} {M' : Mm} (h1 : kTable a1) (h2 : kLaw a2) (h : f_X5_goesBy_n N a1 a2 M = some (r, M')) : am_M l yX5_goesBy cX5_goesBy 5 (some .int) 6 0 0 LY M [.ref 39, .ref a1, .ref a2, .null] (.inl (some (.int r))) M' := by
  unfold f_X5_goesBy_n at h
  refine am_intro (by decide) (by simp [Value.category]) (Nat.le_of_ble_eq_true rfl) (fun X hC hnt => ?_)
  refine am_start (L := [some (.ref 39), some (.ref a1), some (.ref a2), some .null, none]) rfl ?_
  refine v_aload_n hC dX5_goesBy_0 rfl ?_
  refine v_aload_n hC dX5_goesBy_1 rfl ?_
  refine v_aload_n hC dX5_goesBy_2 rfl ?_
  refine v_aload_nN hC dX5_goesBy_3 rfl ?_
  obtain ⟨r1, M2, q3, h⟩ := bnd_some h
  refine w_callVi hC [.ref a1, .ref a2, .null] [] (ok_X5_allTake_n h1 h2 q3) mv_X5_allTake aw_421 ly_39 rfl (Nat.le_of_ble_eq_true rfl) ⟨by decide, by decide⟩ ⟨by decide, by decide⟩ dX5_goesBy_4 ?_
  refine w_istore hC dX5_goesBy_7 (ltk rfl) [some (.ref 39), some (.ref a1), some (.ref a2), some .null, some (.int r1)] rfl ?_
  refine v_aload_n hC dX5_goesBy_9 rfl ?_
  refine v_aload_n hC dX5_goesBy_10 rfl ?_
  obtain ⟨r4, M5, q6, h⟩ := bnd_some h
  refine w_callVv hC [.ref a1] [] (ok_X5_spills h1 q6) mv_X5_spills aw_1009 ly_39 rfl (Nat.le_of_ble_eq_true rfl) ⟨by decide, by decide⟩ ⟨by decide, by decide⟩ dX5_goesBy_11 ?_
  refine v_aload_n hC dX5_goesBy_14 rfl ?_
  refine v_aload_n hC dX5_goesBy_15 rfl ?_
  refine v_aload_n hC dX5_goesBy_16 rfl ?_
  obtain ⟨r7, M8, q9, h⟩ := bnd_some h
  refine w_callVv hC [.ref a1, .ref a2] [] (ok_X5_damps h1 h2 q9) mv_X5_damps aw_1019 ly_39 rfl (Nat.le_of_ble_eq_true rfl) ⟨by decide, by decide⟩ ⟨by decide, by decide⟩ dX5_goesBy_17 ?_
  refine v_aload_n hC dX5_goesBy_20 rfl ?_
  obtain ⟨r10, M11, q12, h⟩ := bnd_some h
  refine w_callVv hC [] [] (ok_X6_passesOn h1 q12) mv_X6_passesOn aw_472 h1.1 rfl (Nat.le_of_ble_eq_true rfl) ⟨by decide, by decide⟩ ⟨by decide, by decide⟩ dX5_goesBy_21 ?_
  refine v_iload hC dX5_goesBy_24 rfl ?_
  cases h
  exact v_iret hC (by decide) (by decide) dX5_goesBy_26
def f_X5_goesBy_l (N : Nat) (a1 : Nat) (a2 : Nat) (a3 : Nat) (M : Mm) : Option (Int32 × Mm) :=
  bnd (f_X5_allTake_l N a1 a2 a3 M) (fun r1 M2 => bnd (f_X5_spills N a1 M2) (fun r4 M5 => bnd (f_X5_damps N a1 a2 M5) (fun r7 M8 => bnd (f_X6_passesOn N a1 M8) (fun r10 M11 => some (r1, M11)))))
set_option maxRecDepth 20000 in
set_option maxHeartbeats 4000000 in
theorem ok_X5_goesBy_l {l : Launch} {N : Nat} {a1 a2 a3 : Nat} {M : Mm} {r : Int32} {M' : Mm} (h1 : kTable a1) (h2 : kLaw a2) (h3 : kLog a3) (h : f_X5_goesBy_l N a1 a2 a3 M = some (r, M')) : am_M l yX5_goesBy cX5_goesBy 5 (some .int) 6 0 0 LY M [.ref 39, .ref a1, .ref a2, .ref a3] (.inl (some (.int r))) M' := by
  unfold f_X5_goesBy_l at h
  refine am_intro (by decide) (by simp [Value.category]) (Nat.le_of_ble_eq_true rfl) (fun X hC hnt => ?_)
  refine am_start (L := [some (.ref 39), some (.ref a1), some (.ref a2), some (.ref a3), none]) rfl ?_
  refine v_aload_n hC dX5_goesBy_0 rfl ?_
  refine v_aload_n hC dX5_goesBy_1 rfl ?_
  refine v_aload_n hC dX5_goesBy_2 rfl ?_
  refine v_aload_n hC dX5_goesBy_3 rfl ?_
  obtain ⟨r1, M2, q3, h⟩ := bnd_some h
  refine w_callVi hC [.ref a1, .ref a2, .ref a3] [] (ok_X5_allTake_l h1 h2 h3 q3) mv_X5_allTake aw_421 ly_39 rfl (Nat.le_of_ble_eq_true rfl) ⟨by decide, by decide⟩ ⟨by decide, by decide⟩ dX5_goesBy_4 ?_
  refine w_istore hC dX5_goesBy_7 (ltk rfl) [some (.ref 39), some (.ref a1), some (.ref a2), some (.ref a3), some (.int r1)] rfl ?_
  refine v_aload_n hC dX5_goesBy_9 rfl ?_
  refine v_aload_n hC dX5_goesBy_10 rfl ?_
  obtain ⟨r4, M5, q6, h⟩ := bnd_some h
  refine w_callVv hC [.ref a1] [] (ok_X5_spills h1 q6) mv_X5_spills aw_1009 ly_39 rfl (Nat.le_of_ble_eq_true rfl) ⟨by decide, by decide⟩ ⟨by decide, by decide⟩ dX5_goesBy_11 ?_
  refine v_aload_n hC dX5_goesBy_14 rfl ?_
  refine v_aload_n hC dX5_goesBy_15 rfl ?_
  refine v_aload_n hC dX5_goesBy_16 rfl ?_
  obtain ⟨r7, M8, q9, h⟩ := bnd_some h
  refine w_callVv hC [.ref a1, .ref a2] [] (ok_X5_damps h1 h2 q9) mv_X5_damps aw_1019 ly_39 rfl (Nat.le_of_ble_eq_true rfl) ⟨by decide, by decide⟩ ⟨by decide, by decide⟩ dX5_goesBy_17 ?_
  refine v_aload_n hC dX5_goesBy_20 rfl ?_
  obtain ⟨r10, M11, q12, h⟩ := bnd_some h
  refine w_callVv hC [] [] (ok_X6_passesOn h1 q12) mv_X6_passesOn aw_472 h1.1 rfl (Nat.le_of_ble_eq_true rfl) ⟨by decide, by decide⟩ ⟨by decide, by decide⟩ dX5_goesBy_21 ?_
  refine v_iload hC dX5_goesBy_24 rfl ?_
  cases h
  exact v_iret hC (by decide) (by decide) dX5_goesBy_26
def f_X6_sits_63 (N : Nat) (a0 : Nat) (s1 : Int32) (M : Mm) : Option (Int32 × Mm) :=
  lt (wr M a0 2 s1) (fun M9 => lt (wr M9 a0 0 ((M9 a0 0) + (1 : Int32))) (fun M10 => some (0, M10)))
def f_X6_sits (N : Nat) (a0 : Nat) (v1 : Int32) (v2 : Int32) (v3 : Int32) (M : Mm) : Option (Int32 × Mm) :=
  (if (8 : Int32) ≤ (M a0 0) then some (0, M) else (if v1 < (0 : Int32) then some (0, M) else (if v1 < (10 : Int32) then grd (inb v1 10) (lt (wr M (a0 + 1) (v1).toNatClampNeg (M a0 0)) (fun M5 => grd (inb (M5 a0 0) 8) (lt (wr M5 (a0 + 2) ((M5 a0 0)).toNatClampNeg v2) (fun M7 => (if v3 = (0 : Int32) then f_X6_sits_63 N a0 (M7 a0 2) M7 else f_X6_sits_63 N a0 ((M7 a0 2) ||| ((1 : Int32) <<< ((M7 a0 0) &&& 31))) M7))))) else some (0, M))))
set_option maxRecDepth 20000 in
set_option maxHeartbeats 4000000 in
theorem ok_X6_sits_63 {N : Nat} {X : am_X} {l : Launch} (hC : am_C X l (am_rm 1 0 0) cX6_sits yX6_sits.cls none) (hnt : am_NT X) {a0 : Nat} (h0 : kTable a0) {s1 : Int32} {M : Mm} {r : Int32} {M' : Mm} (h : f_X6_sits_63 N a0 s1 M = some (r, M')) : am_V X LY M 0 0 (am_Q X LY 0 0 (.inl none) M') 63 [some (.ref a0), none, none, none] [.int s1, .ref a0] := by
  unfold f_X6_sits_63 at h
  obtain ⟨M9, e_M9, h⟩ := lt_some h
  refine w_puti (k := 2) hC cls_X6 h0.1 (by decide) rfl aw_92 rfl rfl ⟨rfl, rfl⟩ dX6_sits_63 e_M9 ?_
  refine v_aload_n hC dX6_sits_66 rfl ?_
  refine v_dup hC dX6_sits_67 rfl ?_
  refine v_geti (k := 0) hC cls_X6 h0.1 (by decide) rfl aw_85 rfl dX6_sits_68 ?_
  refine v_iconst (v := (1 : Int32)) hC dX6_sits_71 rfl ?_
  refine v_iadd hC dX6_sits_72 ?_
  obtain ⟨M10, e_M10, h⟩ := lt_some h
  refine w_puti (k := 0) hC cls_X6 h0.1 (by decide) rfl aw_85 rfl rfl ⟨rfl, rfl⟩ dX6_sits_73 e_M10 ?_
  cases h
  exact v_vret hC (by decide) (by decide) dX6_sits_76
set_option maxRecDepth 20000 in
set_option maxHeartbeats 4000000 in
theorem ok_X6_sits {l : Launch} {N : Nat} {a0 : Nat} {v1 v2 v3 : Int32} {M : Mm} {r : Int32} {M' : Mm} (h0 : kTable a0) (h : f_X6_sits N a0 v1 v2 v3 M = some (r, M')) : am_M l yX6_sits cX6_sits 4 none 1 0 0 LY M [.ref a0, .int v1, .int v2, .int v3] (.inl none) M' := by
  unfold f_X6_sits at h
  refine am_intro (by decide) (by simp [Value.category]) (Nat.le_of_ble_eq_true rfl) (fun X hC hnt => ?_)
  refine am_start (L := [some (.ref a0), some (.int v1), some (.int v2), some (.int v3)]) rfl ?_
  refine v_aload_n hC dX6_sits_0 rfl ?_
  refine v_geti (k := 0) hC cls_X6 h0.1 (by decide) rfl aw_85 rfl dX6_sits_1 ?_
  refine v_bipush (v := (8 : Int32)) hC dX6_sits_4 rfl ?_
  refine v_icmp_ge hC 19 dX6_sits_6 rfl (fun c1 => ?_) (fun c1 => ?_)
  · rw [if_pos c1] at h
    cases h
    exact v_vret hC (by decide) (by decide) dX6_sits_19
  · rw [if_neg c1] at h
    refine v_iload_n hC dX6_sits_9 rfl ?_
    refine v_if_lt hC 19 dX6_sits_10 rfl (fun c2 => ?_) (fun c2 => ?_)
    · rw [if_pos c2] at h
      cases h
      exact v_vret hC (by decide) (by decide) dX6_sits_19
    · rw [if_neg c2] at h
      refine v_iload_n hC dX6_sits_13 rfl ?_
      refine v_bipush (v := (10 : Int32)) hC dX6_sits_14 rfl ?_
      refine v_icmp_lt hC 20 dX6_sits_16 rfl (fun c3 => ?_) (fun c3 => ?_)
      · rw [if_pos c3] at h
        refine v_aload_n hC dX6_sits_20 rfl ?_
        refine v_geta (k := 11) (b := (a0 + 1)) hC cls_X6 h0.1 (by decide) rfl aw_120 rfl dX6_sits_21 ?_
        refine v_iload_n hC dX6_sits_24 rfl ?_
        refine v_aload_n hC dX6_sits_25 rfl ?_
        refine v_geti (k := 0) hC cls_X6 h0.1 (by decide) rfl aw_85 rfl dX6_sits_26 ?_
        obtain ⟨g4, h⟩ := grd_some h
        obtain ⟨M5, e_M5, h⟩ := lt_some h
        refine w_iast hC (kT_who h0) (inb_in g4) dX6_sits_29 e_M5 ?_
        refine v_aload_n hC dX6_sits_30 rfl ?_
        refine v_geta (k := 12) (b := (a0 + 2)) hC cls_X6 h0.1 (by decide) rfl aw_121 rfl dX6_sits_31 ?_
        refine v_aload_n hC dX6_sits_34 rfl ?_
        refine v_geti (k := 0) hC cls_X6 h0.1 (by decide) rfl aw_85 rfl dX6_sits_35 ?_
        refine v_iload_n hC dX6_sits_38 rfl ?_
        obtain ⟨g6, h⟩ := grd_some h
        obtain ⟨M7, e_M7, h⟩ := lt_some h
        refine w_iast hC (kT_taste h0) (inb_in g6) dX6_sits_39 e_M7 ?_
        refine v_aload_n hC dX6_sits_40 rfl ?_
        refine v_iload_n hC dX6_sits_41 rfl ?_
        refine v_if_eq hC 59 dX6_sits_42 rfl (fun c8 => ?_) (fun c8 => ?_)
        · rw [if_pos c8] at h
          refine v_aload_n hC dX6_sits_59 rfl ?_
          refine v_geti (k := 2) hC cls_X6 h0.1 (by decide) rfl aw_92 rfl dX6_sits_60 ?_
          refine v_drop [true, false, false, false] [some (.ref a0), none, none, none] rfl ?_
          exact ok_X6_sits_63 hC hnt h0 h
        · rw [if_neg c8] at h
          refine v_aload_n hC dX6_sits_45 rfl ?_
          refine v_geti (k := 2) hC cls_X6 h0.1 (by decide) rfl aw_92 rfl dX6_sits_46 ?_
          refine v_iconst (v := (1 : Int32)) hC dX6_sits_49 rfl ?_
          refine v_aload_n hC dX6_sits_50 rfl ?_
          refine v_geti (k := 0) hC cls_X6 h0.1 (by decide) rfl aw_85 rfl dX6_sits_51 ?_
          refine v_ishl hC dX6_sits_54 ?_
          refine v_ior hC dX6_sits_55 ?_
          refine v_goto (tg := 63) hC dX6_sits_56 rfl ?_
          refine v_drop [true, false, false, false] [some (.ref a0), none, none, none] rfl ?_
          exact ok_X6_sits_63 hC hnt h0 h
      · rw [if_neg c3] at h
        cases h
        exact v_vret hC (by decide) (by decide) dX6_sits_19
def f_X6_stands (N : Nat) (a0 : Nat) (v1 : Int32) (v2 : Int32) (v3 : Int32) (v4 : Int32) (v5 : Int32) (M : Mm) : Option (Int32 × Mm) :=
  (if (M a0 1) < (5 : Int32) then grd (inb (M a0 1) 5) (lt (wr M (a0 + 4) ((M a0 1)).toNatClampNeg v1) (fun M3 => grd (inb (M3 a0 1) 5) (lt (wr M3 (a0 + 5) ((M3 a0 1)).toNatClampNeg v2) (fun M5 => grd (inb (M5 a0 1) 5) (lt (wr M5 (a0 + 6) ((M5 a0 1)).toNatClampNeg v3) (fun M7 => grd (inb (M7 a0 1) 5) (lt (wr M7 (a0 + 7) ((M7 a0 1)).toNatClampNeg v4) (fun M9 => grd (inb (M9 a0 1) 5) (lt (wr M9 (a0 + 8) ((M9 a0 1)).toNatClampNeg v5) (fun M11 => lt (wr M11 a0 1 ((M11 a0 1) + (1 : Int32))) (fun M12 => some (0, M12)))))))))))) else some (0, M))
set_option maxRecDepth 20000 in
set_option maxHeartbeats 4000000 in
theorem ok_X6_stands {l : Launch} {N : Nat} {a0 : Nat} {v1 v2 v3 v4 v5 : Int32} {M : Mm} {r : Int32} {M' : Mm} (h0 : kTable a0) (h : f_X6_stands N a0 v1 v2 v3 v4 v5 M = some (r, M')) : am_M l yX6_stands cX6_stands 6 none 1 0 0 LY M [.ref a0, .int v1, .int v2, .int v3, .int v4, .int v5] (.inl none) M' := by
  unfold f_X6_stands at h
  refine am_intro (by decide) (by simp [Value.category]) (Nat.le_of_ble_eq_true rfl) (fun X hC hnt => ?_)
  refine am_start (L := [some (.ref a0), some (.int v1), some (.int v2), some (.int v3), some (.int v4), some (.int v5)]) rfl ?_
  refine v_aload_n hC dX6_stands_0 rfl ?_
  refine v_geti (k := 1) hC cls_X6 h0.1 (by decide) rfl aw_88 rfl dX6_stands_1 ?_
  refine v_iconst (v := (5 : Int32)) hC dX6_stands_4 rfl ?_
  refine v_icmp_lt hC 9 dX6_stands_5 rfl (fun c1 => ?_) (fun c1 => ?_)
  · rw [if_pos c1] at h
    refine v_aload_n hC dX6_stands_9 rfl ?_
    refine v_geta (k := 14) (b := (a0 + 4)) hC cls_X6 h0.1 (by decide) rfl aw_125 rfl dX6_stands_10 ?_
    refine v_aload_n hC dX6_stands_13 rfl ?_
    refine v_geti (k := 1) hC cls_X6 h0.1 (by decide) rfl aw_88 rfl dX6_stands_14 ?_
    refine v_iload_n hC dX6_stands_17 rfl ?_
    obtain ⟨g2, h⟩ := grd_some h
    obtain ⟨M3, e_M3, h⟩ := lt_some h
    refine w_iast hC (kT_place h0) (inb_in g2) dX6_stands_18 e_M3 ?_
    refine v_aload_n hC dX6_stands_19 rfl ?_
    refine v_geta (k := 15) (b := (a0 + 5)) hC cls_X6 h0.1 (by decide) rfl aw_128 rfl dX6_stands_20 ?_
    refine v_aload_n hC dX6_stands_23 rfl ?_
    refine v_geti (k := 1) hC cls_X6 h0.1 (by decide) rfl aw_88 rfl dX6_stands_24 ?_
    refine v_iload_n hC dX6_stands_27 rfl ?_
    obtain ⟨g4, h⟩ := grd_some h
    obtain ⟨M5, e_M5, h⟩ := lt_some h
    refine w_iast hC (kT_trait h0) (inb_in g4) dX6_stands_28 e_M5 ?_
    refine v_aload_n hC dX6_stands_29 rfl ?_
    refine v_geta (k := 16) (b := (a0 + 6)) hC cls_X6 h0.1 (by decide) rfl aw_132 rfl dX6_stands_30 ?_
    refine v_aload_n hC dX6_stands_33 rfl ?_
    refine v_geti (k := 1) hC cls_X6 h0.1 (by decide) rfl aw_88 rfl dX6_stands_34 ?_
    refine v_iload_n hC dX6_stands_37 rfl ?_
    obtain ⟨g6, h⟩ := grd_some h
    obtain ⟨M7, e_M7, h⟩ := lt_some h
    refine w_iast hC (kT_grains h0) (inb_in g6) dX6_stands_38 e_M7 ?_
    refine v_aload_n hC dX6_stands_39 rfl ?_
    refine v_geta (k := 17) (b := (a0 + 7)) hC cls_X6 h0.1 (by decide) rfl aw_136 rfl dX6_stands_40 ?_
    refine v_aload_n hC dX6_stands_43 rfl ?_
    refine v_geti (k := 1) hC cls_X6 h0.1 (by decide) rfl aw_88 rfl dX6_stands_44 ?_
    refine v_iload hC dX6_stands_47 rfl ?_
    obtain ⟨g8, h⟩ := grd_some h
    obtain ⟨M9, e_M9, h⟩ := lt_some h
    refine w_iast hC (kT_set h0) (inb_in g8) dX6_stands_49 e_M9 ?_
    refine v_aload_n hC dX6_stands_50 rfl ?_
    refine v_geta (k := 18) (b := (a0 + 8)) hC cls_X6 h0.1 (by decide) rfl aw_140 rfl dX6_stands_51 ?_
    refine v_aload_n hC dX6_stands_54 rfl ?_
    refine v_geti (k := 1) hC cls_X6 h0.1 (by decide) rfl aw_88 rfl dX6_stands_55 ?_
    refine v_iload hC dX6_stands_58 rfl ?_
    obtain ⟨g10, h⟩ := grd_some h
    obtain ⟨M11, e_M11, h⟩ := lt_some h
    refine w_iast hC (kT_step h0) (inb_in g10) dX6_stands_60 e_M11 ?_
    refine v_aload_n hC dX6_stands_61 rfl ?_
    refine v_dup hC dX6_stands_62 rfl ?_
    refine v_geti (k := 1) hC cls_X6 h0.1 (by decide) rfl aw_88 rfl dX6_stands_63 ?_
    refine v_iconst (v := (1 : Int32)) hC dX6_stands_66 rfl ?_
    refine v_iadd hC dX6_stands_67 ?_
    obtain ⟨M12, e_M12, h⟩ := lt_some h
    refine w_puti (k := 1) hC cls_X6 h0.1 (by decide) rfl aw_88 rfl rfl ⟨rfl, rfl⟩ dX6_stands_68 e_M12 ?_
    cases h
    exact v_vret hC (by decide) (by decide) dX6_stands_71
  · rw [if_neg c1] at h
    cases h
    exact v_vret hC (by decide) (by decide) dX6_stands_8
def f_X6_serves (N : Nat) (a0 : Nat) (v1 : Int32) (v2 : Int32) (M : Mm) : Option (Int32 × Mm) :=
  (if v2 = (0 : Int32) then lt (wr M a0 3 ((M a0 3) &&& (((1 : Int32) <<< (v1 &&& 31)) ^^^ (-1 : Int32)))) (fun M2 => some (0, M2)) else lt (wr M a0 3 ((M a0 3) ||| ((1 : Int32) <<< (v1 &&& 31)))) (fun M3 => some (0, M3)))
set_option maxRecDepth 20000 in
set_option maxHeartbeats 4000000 in
theorem ok_X6_serves {l : Launch} {N : Nat} {a0 : Nat} {v1 v2 : Int32} {M : Mm} {r : Int32} {M' : Mm} (h0 : kTable a0) (h : f_X6_serves N a0 v1 v2 M = some (r, M')) : am_M l yX6_serves cX6_serves 3 none 1 0 0 LY M [.ref a0, .int v1, .int v2] (.inl none) M' := by
  unfold f_X6_serves at h
  refine am_intro (by decide) (by simp [Value.category]) (Nat.le_of_ble_eq_true rfl) (fun X hC hnt => ?_)
  refine am_start (L := [some (.ref a0), some (.int v1), some (.int v2)]) rfl ?_
  refine v_aload_n hC dX6_serves_0 rfl ?_
  refine v_iload_n hC dX6_serves_1 rfl ?_
  refine v_if_eq hC 16 dX6_serves_2 rfl (fun c1 => ?_) (fun c1 => ?_)
  · rw [if_pos c1] at h
    refine v_aload_n hC dX6_serves_16 rfl ?_
    refine v_geti (k := 3) hC cls_X6 h0.1 (by decide) rfl aw_94 rfl dX6_serves_17 ?_
    refine v_iconst (v := (1 : Int32)) hC dX6_serves_20 rfl ?_
    refine v_iload_n hC dX6_serves_21 rfl ?_
    refine v_ishl hC dX6_serves_22 ?_
    refine v_iconst (v := (-1 : Int32)) hC dX6_serves_23 rfl ?_
    refine v_ixor hC dX6_serves_24 ?_
    refine v_iand hC dX6_serves_25 ?_
    obtain ⟨M2, e_M2, h⟩ := lt_some h
    refine w_puti (k := 3) hC cls_X6 h0.1 (by decide) rfl aw_94 rfl rfl ⟨rfl, rfl⟩ dX6_serves_26 e_M2 ?_
    cases h
    exact v_vret hC (by decide) (by decide) dX6_serves_29
  · rw [if_neg c1] at h
    refine v_aload_n hC dX6_serves_5 rfl ?_
    refine v_geti (k := 3) hC cls_X6 h0.1 (by decide) rfl aw_94 rfl dX6_serves_6 ?_
    refine v_iconst (v := (1 : Int32)) hC dX6_serves_9 rfl ?_
    refine v_iload_n hC dX6_serves_10 rfl ?_
    refine v_ishl hC dX6_serves_11 ?_
    refine v_ior hC dX6_serves_12 ?_
    refine v_goto (tg := 26) hC dX6_serves_13 rfl ?_
    obtain ⟨M3, e_M3, h⟩ := lt_some h
    refine w_puti (k := 3) hC cls_X6 h0.1 (by decide) rfl aw_94 rfl rfl ⟨rfl, rfl⟩ dX6_serves_26 e_M3 ?_
    cases h
    exact v_vret hC (by decide) (by decide) dX6_serves_29
def f_X6_changesAbout (N : Nat) (a0 : Nat) (v1 : Int32) (v2 : Int32) (M : Mm) : Option (Int32 × Mm) :=
  (if v1 < (0 : Int32) then some (0, M) else (if (10 : Int32) ≤ v1 then some (0, M) else (if v2 < (0 : Int32) then some (0, M) else (if v2 < (10 : Int32) then grd (inb v1 10) (lt (M (a0 + 1) (v1).toNatClampNeg) (fun x6 => grd (inb v2 10) (grd (inb v1 10) (lt (wr M (a0 + 1) (v1).toNatClampNeg (M (a0 + 1) (v2).toNatClampNeg)) (fun M9 => grd (inb v2 10) (lt (wr M9 (a0 + 1) (v2).toNatClampNeg x6) (fun M11 => some (0, M11)))))))) else some (0, M)))))
set_option maxRecDepth 20000 in
set_option maxHeartbeats 4000000 in
theorem ok_X6_changesAbout {l : Launch} {N : Nat} {a0 : Nat} {v1 v2 : Int32} {M : Mm} {r : Int32} {M' : Mm} (h0 : kTable a0) (h : f_X6_changesAbout N a0 v1 v2 M = some (r, M')) : am_M l yX6_changesAbout cX6_changesAbout 4 none 1 0 0 LY M [.ref a0, .int v1, .int v2] (.inl none) M' := by
  unfold f_X6_changesAbout at h
  refine am_intro (by decide) (by simp [Value.category]) (Nat.le_of_ble_eq_true rfl) (fun X hC hnt => ?_)
  refine am_start (L := [some (.ref a0), some (.int v1), some (.int v2), none]) rfl ?_
  refine v_iload_n hC dX6_changesAbout_0 rfl ?_
  refine v_if_lt hC 20 dX6_changesAbout_1 rfl (fun c1 => ?_) (fun c1 => ?_)
  · rw [if_pos c1] at h
    cases h
    exact v_vret hC (by decide) (by decide) dX6_changesAbout_20
  · rw [if_neg c1] at h
    refine v_iload_n hC dX6_changesAbout_4 rfl ?_
    refine v_bipush (v := (10 : Int32)) hC dX6_changesAbout_5 rfl ?_
    refine v_icmp_ge hC 20 dX6_changesAbout_7 rfl (fun c2 => ?_) (fun c2 => ?_)
    · rw [if_pos c2] at h
      cases h
      exact v_vret hC (by decide) (by decide) dX6_changesAbout_20
    · rw [if_neg c2] at h
      refine v_iload_n hC dX6_changesAbout_10 rfl ?_
      refine v_if_lt hC 20 dX6_changesAbout_11 rfl (fun c3 => ?_) (fun c3 => ?_)
      · rw [if_pos c3] at h
        cases h
        exact v_vret hC (by decide) (by decide) dX6_changesAbout_20
      · rw [if_neg c3] at h
        refine v_iload_n hC dX6_changesAbout_14 rfl ?_
        refine v_bipush (v := (10 : Int32)) hC dX6_changesAbout_15 rfl ?_
        refine v_icmp_lt hC 21 dX6_changesAbout_17 rfl (fun c4 => ?_) (fun c4 => ?_)
        · rw [if_pos c4] at h
          refine v_aload_n hC dX6_changesAbout_21 rfl ?_
          refine v_geta (k := 11) (b := (a0 + 1)) hC cls_X6 h0.1 (by decide) rfl aw_120 rfl dX6_changesAbout_22 ?_
          refine v_iload_n hC dX6_changesAbout_25 rfl ?_
          obtain ⟨g5, h⟩ := grd_some h
          refine v_iald hC (kT_who h0) (inb_in g5) dX6_changesAbout_26 ?_
          obtain ⟨x6, e_x6, h⟩ := lt_some h
          refine v_nam e_x6 ?_
          refine w_istore_n hC dX6_changesAbout_27 (ltk rfl) [some (.ref a0), some (.int v1), some (.int v2), some (.int x6)] rfl ?_
          refine v_aload_n hC dX6_changesAbout_28 rfl ?_
          refine v_geta (k := 11) (b := (a0 + 1)) hC cls_X6 h0.1 (by decide) rfl aw_120 rfl dX6_changesAbout_29 ?_
          refine v_iload_n hC dX6_changesAbout_32 rfl ?_
          refine v_aload_n hC dX6_changesAbout_33 rfl ?_
          refine v_geta (k := 11) (b := (a0 + 1)) hC cls_X6 h0.1 (by decide) rfl aw_120 rfl dX6_changesAbout_34 ?_
          refine v_iload_n hC dX6_changesAbout_37 rfl ?_
          obtain ⟨g7, h⟩ := grd_some h
          refine v_iald hC (kT_who h0) (inb_in g7) dX6_changesAbout_38 ?_
          obtain ⟨g8, h⟩ := grd_some h
          obtain ⟨M9, e_M9, h⟩ := lt_some h
          refine w_iast hC (kT_who h0) (inb_in g8) dX6_changesAbout_39 e_M9 ?_
          refine v_aload_n hC dX6_changesAbout_40 rfl ?_
          refine v_geta (k := 11) (b := (a0 + 1)) hC cls_X6 h0.1 (by decide) rfl aw_120 rfl dX6_changesAbout_41 ?_
          refine v_iload_n hC dX6_changesAbout_44 rfl ?_
          refine v_iload_n hC dX6_changesAbout_45 rfl ?_
          obtain ⟨g10, h⟩ := grd_some h
          obtain ⟨M11, e_M11, h⟩ := lt_some h
          refine w_iast hC (kT_who h0) (inb_in g10) dX6_changesAbout_46 e_M11 ?_
          cases h
          exact v_vret hC (by decide) (by decide) dX6_changesAbout_47
        · rw [if_neg c4] at h
          cases h
          exact v_vret hC (by decide) (by decide) dX6_changesAbout_20
def f_X6_seatOf_2 (N : Nat) (a0 : Nat) : Nat → Int32 → Int32 → Mm → Option (Int32 × Mm)
  | 0, _, _, _ => none
  | n + 1, v1, v2, M => (if (10 : Int32) ≤ v2 then some ((-1 : Int32), M) else grd (inb v2 10) ((if (M (a0 + 1) (v2).toNatClampNeg) = v1 then some (v2, M) else f_X6_seatOf_2 N a0 n v1 (v2 + (1 : Int32)) M)))
def f_X6_seatOf (N : Nat) (a0 : Nat) (v1 : Int32) (M : Mm) : Option (Int32 × Mm) :=
  f_X6_seatOf_2 N a0 N v1 (0 : Int32) M
set_option maxRecDepth 20000 in
set_option maxHeartbeats 4000000 in
theorem ok_X6_seatOf_2 {N : Nat} {X : am_X} {l : Launch} (hC : am_C X l (am_rm 1 0 0) cX6_seatOf yX6_seatOf.cls (some .int)) (hnt : am_NT X) {a0 : Nat} (h0 : kTable a0) : ∀ (n : Nat) (v1 v2 : Int32) (M : Mm) (r : Int32) (M' : Mm), f_X6_seatOf_2 N a0 n v1 v2 M = some (r, M') → am_V X LY M 0 0 (am_Q X LY 0 0 (.inl (some (.int r))) M') 2 [some (.ref a0), some (.int v1), some (.int v2)] [] := by
  intro n
  induction n with
  | zero => intro v1 v2 M r M' h; cases h
  | succ n ih =>
    intro v1 v2 M r M' h
    simp only [f_X6_seatOf_2] at h
    refine v_iload_n hC dX6_seatOf_2 rfl ?_
    refine v_bipush (v := (10 : Int32)) hC dX6_seatOf_3 rfl ?_
    refine v_icmp_ge hC 26 dX6_seatOf_5 rfl (fun c1 => ?_) (fun c1 => ?_)
    · rw [if_pos c1] at h
      refine v_iconst (v := (-1 : Int32)) hC dX6_seatOf_26 rfl ?_
      cases h
      exact v_iret hC (by decide) (by decide) dX6_seatOf_27
    · rw [if_neg c1] at h
      refine v_aload_n hC dX6_seatOf_8 rfl ?_
      refine v_geta (k := 11) (b := (a0 + 1)) hC cls_X6 h0.1 (by decide) rfl aw_120 rfl dX6_seatOf_9 ?_
      refine v_iload_n hC dX6_seatOf_12 rfl ?_
      obtain ⟨g2, h⟩ := grd_some h
      refine v_iald hC (kT_who h0) (inb_in g2) dX6_seatOf_13 ?_
      refine v_iload_n hC dX6_seatOf_14 rfl ?_
      refine v_icmp_ne hC 20 dX6_seatOf_15 rfl (fun c3 => ?_) (fun c3 => ?_)
      · rw [if_neg c3] at h
        refine w_iinc hC (v2 + (1 : Int32)) dX6_seatOf_20 rfl rfl [some (.ref a0), some (.int v1), some (.int (v2 + (1 : Int32)))] rfl ?_
        refine v_goto (tg := 2) hC dX6_seatOf_23 rfl ?_
        exact ih _ _ _ _ _ h
      · rw [if_pos c3] at h
        refine v_iload_n hC dX6_seatOf_18 rfl ?_
        cases h
        exact v_iret hC (by decide) (by decide) dX6_seatOf_19
set_option maxRecDepth 20000 in
set_option maxHeartbeats 4000000 in
theorem ok_X6_seatOf {l : Launch} {N : Nat} {a0 : Nat} {v1 : Int32} {M : Mm} {r : Int32} {M' : Mm} (h0 : kTable a0) (h : f_X6_seatOf N a0 v1 M = some (r, M')) : am_M l yX6_seatOf cX6_seatOf 3 (some .int) 1 0 0 LY M [.ref a0, .int v1] (.inl (some (.int r))) M' := by
  unfold f_X6_seatOf at h
  refine am_intro (by decide) (by simp [Value.category]) (Nat.le_of_ble_eq_true rfl) (fun X hC hnt => ?_)
  refine am_start (L := [some (.ref a0), some (.int v1), none]) rfl ?_
  refine v_iconst (v := (0 : Int32)) hC dX6_seatOf_0 rfl ?_
  refine w_istore_n hC dX6_seatOf_1 (ltk rfl) [some (.ref a0), some (.int v1), some (.int (0 : Int32))] rfl ?_
  exact ok_X6_seatOf_2 hC hnt h0 N _ _ _ _ _ h
def f_X6_hasInAll_4 (N : Nat) (a0 : Nat) : Nat → Int32 → Int32 → Int32 → Mm → Option (Int32 × Mm)
  | 0, _, _, _, _ => none
  | n + 1, v1, v2, v3, M => (if (6 : Int32) ≤ v3 then some (v2, M) else bnd (f_X6_hasOf N a0 v1 v3 M) (fun r2 M3 => lt (v2 + r2) (fun x5 => f_X6_hasInAll_4 N a0 n v1 x5 (v3 + (1 : Int32)) M3)))
def f_X6_hasInAll (N : Nat) (a0 : Nat) (v1 : Int32) (M : Mm) : Option (Int32 × Mm) :=
  f_X6_hasInAll_4 N a0 N v1 (0 : Int32) (0 : Int32) M
set_option maxRecDepth 20000 in
set_option maxHeartbeats 4000000 in
theorem ok_X6_hasInAll_4 {N : Nat} {X : am_X} {l : Launch} (hC : am_C X l (am_rm 2 0 0) cX6_hasInAll yX6_hasInAll.cls (some .int)) (hnt : am_NT X) {a0 : Nat} (h0 : kTable a0) : ∀ (n : Nat) (v1 v2 v3 : Int32) (M : Mm) (r : Int32) (M' : Mm), f_X6_hasInAll_4 N a0 n v1 v2 v3 M = some (r, M') → am_V X LY M 0 0 (am_Q X LY 0 0 (.inl (some (.int r))) M') 4 [some (.ref a0), some (.int v1), some (.int v2), some (.int v3)] [] := by
  intro n
  induction n with
  | zero => intro v1 v2 v3 M r M' h; cases h
  | succ n ih =>
    intro v1 v2 v3 M r M' h
    simp only [f_X6_hasInAll_4] at h
    refine v_iload_n hC dX6_hasInAll_4 rfl ?_
    refine v_bipush (v := (6 : Int32)) hC dX6_hasInAll_5 rfl ?_
    refine v_icmp_ge hC 25 dX6_hasInAll_7 rfl (fun c1 => ?_) (fun c1 => ?_)
    · rw [if_pos c1] at h
      refine v_iload_n hC dX6_hasInAll_25 rfl ?_
      cases h
      exact v_iret hC (by decide) (by decide) dX6_hasInAll_26
    · rw [if_neg c1] at h
      refine v_iload_n hC dX6_hasInAll_10 rfl ?_
      refine v_aload_n hC dX6_hasInAll_11 rfl ?_
      refine v_iload_n hC dX6_hasInAll_12 rfl ?_
      refine v_iload_n hC dX6_hasInAll_13 rfl ?_
      obtain ⟨r2, M3, q4, h⟩ := bnd_some h
      refine w_callVi hC [.int v1, .int v3] [.int v2] (ok_X6_hasOf h0 q4) mv_X6_hasOf aw_497 h0.1 rfl (Nat.le_of_ble_eq_true rfl) ⟨by decide, by decide⟩ ⟨by decide, by decide⟩ dX6_hasInAll_14 ?_
      refine v_iadd hC dX6_hasInAll_17 ?_
      obtain ⟨x5, e_x5, h⟩ := lt_some h
      refine v_nam e_x5 ?_
      refine w_istore_n hC dX6_hasInAll_18 (ltk rfl) [some (.ref a0), some (.int v1), some (.int x5), some (.int v3)] rfl ?_
      refine w_iinc hC (v3 + (1 : Int32)) dX6_hasInAll_19 rfl rfl [some (.ref a0), some (.int v1), some (.int x5), some (.int (v3 + (1 : Int32)))] rfl ?_
      refine v_goto (tg := 4) hC dX6_hasInAll_22 rfl ?_
      exact ih _ _ _ _ _ _ h
set_option maxRecDepth 20000 in
set_option maxHeartbeats 4000000 in
theorem ok_X6_hasInAll {l : Launch} {N : Nat} {a0 : Nat} {v1 : Int32} {M : Mm} {r : Int32} {M' : Mm} (h0 : kTable a0) (h : f_X6_hasInAll N a0 v1 M = some (r, M')) : am_M l yX6_hasInAll cX6_hasInAll 4 (some .int) 2 0 0 LY M [.ref a0, .int v1] (.inl (some (.int r))) M' := by
  unfold f_X6_hasInAll at h
  refine am_intro (by decide) (by simp [Value.category]) (Nat.le_of_ble_eq_true rfl) (fun X hC hnt => ?_)
  refine am_start (L := [some (.ref a0), some (.int v1), none, none]) rfl ?_
  refine v_iconst (v := (0 : Int32)) hC dX6_hasInAll_0 rfl ?_
  refine w_istore_n hC dX6_hasInAll_1 (ltk rfl) [some (.ref a0), some (.int v1), some (.int (0 : Int32)), none] rfl ?_
  refine v_iconst (v := (0 : Int32)) hC dX6_hasInAll_2 rfl ?_
  refine w_istore_n hC dX6_hasInAll_3 (ltk rfl) [some (.ref a0), some (.int v1), some (.int (0 : Int32)), some (.int (0 : Int32))] rfl ?_
  exact ok_X6_hasInAll_4 hC hnt h0 N _ _ _ _ _ _ h
def f_X6_mixed_4 (N : Nat) (a0 : Nat) : Nat → Int32 → Int32 → Int32 → Mm → Option (Int32 × Mm)
  | 0, _, _, _, _ => none
  | n + 1, v1, v2, v3, M => (if (6 : Int32) ≤ v3 then some (v2, M) else bnd (f_X6_hasOf N a0 v1 v3 M) (fun r2 M3 => (if r2 ≤ (0 : Int32) then lt (v2 + (0 : Int32)) (fun x6 => f_X6_mixed_4 N a0 n v1 x6 (v3 + (1 : Int32)) M3) else lt (v2 + (1 : Int32)) (fun x8 => f_X6_mixed_4 N a0 n v1 x8 (v3 + (1 : Int32)) M3))))
def f_X6_mixed (N : Nat) (a0 : Nat) (v1 : Int32) (M : Mm) : Option (Int32 × Mm) :=
  f_X6_mixed_4 N a0 N v1 (0 : Int32) (0 : Int32) M
set_option maxRecDepth 20000 in
set_option maxHeartbeats 4000000 in
theorem ok_X6_mixed_4 {N : Nat} {X : am_X} {l : Launch} (hC : am_C X l (am_rm 2 0 0) cX6_mixed yX6_mixed.cls (some .int)) (hnt : am_NT X) {a0 : Nat} (h0 : kTable a0) : ∀ (n : Nat) (v1 v2 v3 : Int32) (M : Mm) (r : Int32) (M' : Mm), f_X6_mixed_4 N a0 n v1 v2 v3 M = some (r, M') → am_V X LY M 0 0 (am_Q X LY 0 0 (.inl (some (.int r))) M') 4 [some (.ref a0), some (.int v1), some (.int v2), some (.int v3)] [] := by
  intro n
  induction n with
  | zero => intro v1 v2 v3 M r M' h; cases h
  | succ n ih =>
    intro v1 v2 v3 M r M' h
    simp only [f_X6_mixed_4] at h
    refine v_iload_n hC dX6_mixed_4 rfl ?_
    refine v_bipush (v := (6 : Int32)) hC dX6_mixed_5 rfl ?_
    refine v_icmp_ge hC 33 dX6_mixed_7 rfl (fun c1 => ?_) (fun c1 => ?_)
    · rw [if_pos c1] at h
      refine v_iload_n hC dX6_mixed_33 rfl ?_
      cases h
      exact v_iret hC (by decide) (by decide) dX6_mixed_34
    · rw [if_neg c1] at h
      refine v_iload_n hC dX6_mixed_10 rfl ?_
      refine v_aload_n hC dX6_mixed_11 rfl ?_
      refine v_iload_n hC dX6_mixed_12 rfl ?_
      refine v_iload_n hC dX6_mixed_13 rfl ?_
      obtain ⟨r2, M3, q4, h⟩ := bnd_some h
      refine w_callVi hC [.int v1, .int v3] [.int v2] (ok_X6_hasOf h0 q4) mv_X6_hasOf aw_497 h0.1 rfl (Nat.le_of_ble_eq_true rfl) ⟨by decide, by decide⟩ ⟨by decide, by decide⟩ dX6_mixed_14 ?_
      refine v_if_le hC 24 dX6_mixed_17 rfl (fun c5 => ?_) (fun c5 => ?_)
      · rw [if_pos c5] at h
        refine v_iconst (v := (0 : Int32)) hC dX6_mixed_24 rfl ?_
        refine v_iadd hC dX6_mixed_25 ?_
        obtain ⟨x6, e_x6, h⟩ := lt_some h
        refine v_nam e_x6 ?_
        refine w_istore_n hC dX6_mixed_26 (ltk rfl) [some (.ref a0), some (.int v1), some (.int x6), some (.int v3)] rfl ?_
        refine w_iinc hC (v3 + (1 : Int32)) dX6_mixed_27 rfl rfl [some (.ref a0), some (.int v1), some (.int x6), some (.int (v3 + (1 : Int32)))] rfl ?_
        refine v_goto (tg := 4) hC dX6_mixed_30 rfl ?_
        exact ih _ _ _ _ _ _ h
      · rw [if_neg c5] at h
        refine v_iconst (v := (1 : Int32)) hC dX6_mixed_20 rfl ?_
        refine v_goto (tg := 25) hC dX6_mixed_21 rfl ?_
        refine v_iadd hC dX6_mixed_25 ?_
        obtain ⟨x8, e_x8, h⟩ := lt_some h
        refine v_nam e_x8 ?_
        refine w_istore_n hC dX6_mixed_26 (ltk rfl) [some (.ref a0), some (.int v1), some (.int x8), some (.int v3)] rfl ?_
        refine w_iinc hC (v3 + (1 : Int32)) dX6_mixed_27 rfl rfl [some (.ref a0), some (.int v1), some (.int x8), some (.int (v3 + (1 : Int32)))] rfl ?_
        refine v_goto (tg := 4) hC dX6_mixed_30 rfl ?_
        exact ih _ _ _ _ _ _ h
set_option maxRecDepth 20000 in
set_option maxHeartbeats 4000000 in
theorem ok_X6_mixed {l : Launch} {N : Nat} {a0 : Nat} {v1 : Int32} {M : Mm} {r : Int32} {M' : Mm} (h0 : kTable a0) (h : f_X6_mixed N a0 v1 M = some (r, M')) : am_M l yX6_mixed cX6_mixed 4 (some .int) 2 0 0 LY M [.ref a0, .int v1] (.inl (some (.int r))) M' := by
  unfold f_X6_mixed at h
  refine am_intro (by decide) (by simp [Value.category]) (Nat.le_of_ble_eq_true rfl) (fun X hC hnt => ?_)
  refine am_start (L := [some (.ref a0), some (.int v1), none, none]) rfl ?_
  refine v_iconst (v := (0 : Int32)) hC dX6_mixed_0 rfl ?_
  refine w_istore_n hC dX6_mixed_1 (ltk rfl) [some (.ref a0), some (.int v1), some (.int (0 : Int32)), none] rfl ?_
  refine v_iconst (v := (0 : Int32)) hC dX6_mixed_2 rfl ?_
  refine w_istore_n hC dX6_mixed_3 (ltk rfl) [some (.ref a0), some (.int v1), some (.int (0 : Int32)), some (.int (0 : Int32))] rfl ?_
  exact ok_X6_mixed_4 hC hnt h0 N _ _ _ _ _ _ h
def f_X6_mainTrait_7 (N : Nat) (a0 : Nat) : Nat → Int32 → Int32 → Int32 → Int32 → Mm → Option (Int32 × Mm)
  | 0, _, _, _, _, _ => none
  | n + 1, v1, v2, v3, v4, M => (if (6 : Int32) ≤ v4 then some (v2, M) else bnd (f_X6_hasOf N a0 v1 v4 M) (fun r2 M3 => (if r2 ≤ v3 then f_X6_mainTrait_7 N a0 n v1 v2 v3 (v4 + (1 : Int32)) M3 else bnd (f_X6_hasOf N a0 v1 v4 M3) (fun r7 M8 => f_X6_mainTrait_7 N a0 n v1 v4 r7 (v4 + (1 : Int32)) M8))))
def f_X6_mainTrait (N : Nat) (a0 : Nat) (v1 : Int32) (M : Mm) : Option (Int32 × Mm) :=
  f_X6_mainTrait_7 N a0 N v1 (-1 : Int32) (0 : Int32) (0 : Int32) M
set_option maxRecDepth 20000 in
set_option maxHeartbeats 4000000 in
theorem ok_X6_mainTrait_7 {N : Nat} {X : am_X} {l : Launch} (hC : am_C X l (am_rm 2 0 0) cX6_mainTrait yX6_mainTrait.cls (some .int)) (hnt : am_NT X) {a0 : Nat} (h0 : kTable a0) : ∀ (n : Nat) (v1 v2 v3 v4 : Int32) (M : Mm) (r : Int32) (M' : Mm), f_X6_mainTrait_7 N a0 n v1 v2 v3 v4 M = some (r, M') → am_V X LY M 0 0 (am_Q X LY 0 0 (.inl (some (.int r))) M') 7 [some (.ref a0), some (.int v1), some (.int v2), some (.int v3), some (.int v4)] [] := by
  intro n
  induction n with
  | zero => intro v1 v2 v3 v4 M r M' h; cases h
  | succ n ih =>
    intro v1 v2 v3 v4 M r M' h
    simp only [f_X6_mainTrait_7] at h
    refine v_iload hC dX6_mainTrait_7 rfl ?_
    refine v_bipush (v := (6 : Int32)) hC dX6_mainTrait_9 rfl ?_
    refine v_icmp_ge hC 42 dX6_mainTrait_11 rfl (fun c1 => ?_) (fun c1 => ?_)
    · rw [if_pos c1] at h
      refine v_iload_n hC dX6_mainTrait_42 rfl ?_
      cases h
      exact v_iret hC (by decide) (by decide) dX6_mainTrait_43
    · rw [if_neg c1] at h
      refine v_aload_n hC dX6_mainTrait_14 rfl ?_
      refine v_iload_n hC dX6_mainTrait_15 rfl ?_
      refine v_iload hC dX6_mainTrait_16 rfl ?_
      obtain ⟨r2, M3, q4, h⟩ := bnd_some h
      refine w_callVi hC [.int v1, .int v4] [] (ok_X6_hasOf h0 q4) mv_X6_hasOf aw_497 h0.1 rfl (Nat.le_of_ble_eq_true rfl) ⟨by decide, by decide⟩ ⟨by decide, by decide⟩ dX6_mainTrait_18 ?_
      refine v_iload_n hC dX6_mainTrait_21 rfl ?_
      refine v_icmp_le hC 36 dX6_mainTrait_22 rfl (fun c5 => ?_) (fun c5 => ?_)
      · rw [if_pos c5] at h
        refine w_iinc hC (v4 + (1 : Int32)) dX6_mainTrait_36 rfl rfl [some (.ref a0), some (.int v1), some (.int v2), some (.int v3), some (.int (v4 + (1 : Int32)))] rfl ?_
        refine v_goto (tg := 7) hC dX6_mainTrait_39 rfl ?_
        exact ih _ _ _ _ _ _ _ h
      · rw [if_neg c5] at h
        refine v_aload_n hC dX6_mainTrait_25 rfl ?_
        refine v_iload_n hC dX6_mainTrait_26 rfl ?_
        refine v_iload hC dX6_mainTrait_27 rfl ?_
        obtain ⟨r7, M8, q9, h⟩ := bnd_some h
        refine w_callVi hC [.int v1, .int v4] [] (ok_X6_hasOf h0 q9) mv_X6_hasOf aw_497 h0.1 rfl (Nat.le_of_ble_eq_true rfl) ⟨by decide, by decide⟩ ⟨by decide, by decide⟩ dX6_mainTrait_29 ?_
        refine w_istore_n hC dX6_mainTrait_32 (ltk rfl) [some (.ref a0), some (.int v1), some (.int v2), some (.int r7), some (.int v4)] rfl ?_
        refine v_iload hC dX6_mainTrait_33 rfl ?_
        refine w_istore_n hC dX6_mainTrait_35 (ltk rfl) [some (.ref a0), some (.int v1), some (.int v4), some (.int r7), some (.int v4)] rfl ?_
        refine w_iinc hC (v4 + (1 : Int32)) dX6_mainTrait_36 rfl rfl [some (.ref a0), some (.int v1), some (.int v4), some (.int r7), some (.int (v4 + (1 : Int32)))] rfl ?_
        refine v_goto (tg := 7) hC dX6_mainTrait_39 rfl ?_
        exact ih _ _ _ _ _ _ _ h
set_option maxRecDepth 20000 in
set_option maxHeartbeats 4000000 in
theorem ok_X6_mainTrait {l : Launch} {N : Nat} {a0 : Nat} {v1 : Int32} {M : Mm} {r : Int32} {M' : Mm} (h0 : kTable a0) (h : f_X6_mainTrait N a0 v1 M = some (r, M')) : am_M l yX6_mainTrait cX6_mainTrait 5 (some .int) 2 0 0 LY M [.ref a0, .int v1] (.inl (some (.int r))) M' := by
  unfold f_X6_mainTrait at h
  refine am_intro (by decide) (by simp [Value.category]) (Nat.le_of_ble_eq_true rfl) (fun X hC hnt => ?_)
  refine am_start (L := [some (.ref a0), some (.int v1), none, none, none]) rfl ?_
  refine v_iconst (v := (-1 : Int32)) hC dX6_mainTrait_0 rfl ?_
  refine w_istore_n hC dX6_mainTrait_1 (ltk rfl) [some (.ref a0), some (.int v1), some (.int (-1 : Int32)), none, none] rfl ?_
  refine v_iconst (v := (0 : Int32)) hC dX6_mainTrait_2 rfl ?_
  refine w_istore_n hC dX6_mainTrait_3 (ltk rfl) [some (.ref a0), some (.int v1), some (.int (-1 : Int32)), some (.int (0 : Int32)), none] rfl ?_
  refine v_iconst (v := (0 : Int32)) hC dX6_mainTrait_4 rfl ?_
  refine w_istore hC dX6_mainTrait_5 (ltk rfl) [some (.ref a0), some (.int v1), some (.int (-1 : Int32)), some (.int (0 : Int32)), some (.int (0 : Int32))] rfl ?_
  exact ok_X6_mainTrait_7 hC hnt h0 N _ _ _ _ _ _ _ h
def f_X6_grainsInAll_4 (N : Nat) (a0 : Nat) : Nat → Int32 → Int32 → Mm → Option (Int32 × Mm)
  | 0, _, _, _ => none
  | n + 1, v1, v2, M => (if (M a0 1) ≤ v2 then some (v1, M) else (if (5 : Int32) ≤ v2 then some (v1, M) else grd (inb v2 5) (lt (v1 + (M (a0 + 6) (v2).toNatClampNeg)) (fun x4 => f_X6_grainsInAll_4 N a0 n x4 (v2 + (1 : Int32)) M))))
def f_X6_grainsInAll (N : Nat) (a0 : Nat) (M : Mm) : Option (Int32 × Mm) :=
  f_X6_grainsInAll_4 N a0 N (0 : Int32) (0 : Int32) M
set_option maxRecDepth 20000 in
set_option maxHeartbeats 4000000 in
theorem ok_X6_grainsInAll_4 {N : Nat} {X : am_X} {l : Launch} (hC : am_C X l (am_rm 1 0 0) cX6_grainsInAll yX6_grainsInAll.cls (some .int)) (hnt : am_NT X) {a0 : Nat} (h0 : kTable a0) : ∀ (n : Nat) (v1 v2 : Int32) (M : Mm) (r : Int32) (M' : Mm), f_X6_grainsInAll_4 N a0 n v1 v2 M = some (r, M') → am_V X LY M 0 0 (am_Q X LY 0 0 (.inl (some (.int r))) M') 4 [some (.ref a0), some (.int v1), some (.int v2)] [] := by
  intro n
  induction n with
  | zero => intro v1 v2 M r M' h; cases h
  | succ n ih =>
    intro v1 v2 M r M' h
    simp only [f_X6_grainsInAll_4] at h
    refine v_iload_n hC dX6_grainsInAll_4 rfl ?_
    refine v_aload_n hC dX6_grainsInAll_5 rfl ?_
    refine v_geti (k := 1) hC cls_X6 h0.1 (by decide) rfl aw_88 rfl dX6_grainsInAll_6 ?_
    refine v_icmp_ge hC 32 dX6_grainsInAll_9 rfl (fun c1 => ?_) (fun c1 => ?_)
    · rw [if_pos c1] at h
      refine v_iload_n hC dX6_grainsInAll_32 rfl ?_
      cases h
      exact v_iret hC (by decide) (by decide) dX6_grainsInAll_33
    · rw [if_neg c1] at h
      refine v_iload_n hC dX6_grainsInAll_12 rfl ?_
      refine v_iconst (v := (5 : Int32)) hC dX6_grainsInAll_13 rfl ?_
      refine v_icmp_ge hC 32 dX6_grainsInAll_14 rfl (fun c2 => ?_) (fun c2 => ?_)
      · rw [if_pos c2] at h
        refine v_iload_n hC dX6_grainsInAll_32 rfl ?_
        cases h
        exact v_iret hC (by decide) (by decide) dX6_grainsInAll_33
      · rw [if_neg c2] at h
        refine v_iload_n hC dX6_grainsInAll_17 rfl ?_
        refine v_aload_n hC dX6_grainsInAll_18 rfl ?_
        refine v_geta (k := 16) (b := (a0 + 6)) hC cls_X6 h0.1 (by decide) rfl aw_132 rfl dX6_grainsInAll_19 ?_
        refine v_iload_n hC dX6_grainsInAll_22 rfl ?_
        obtain ⟨g3, h⟩ := grd_some h
        refine v_iald hC (kT_grains h0) (inb_in g3) dX6_grainsInAll_23 ?_
        refine v_iadd hC dX6_grainsInAll_24 ?_
        obtain ⟨x4, e_x4, h⟩ := lt_some h
        refine v_nam e_x4 ?_
        refine w_istore_n hC dX6_grainsInAll_25 (ltk rfl) [some (.ref a0), some (.int x4), some (.int v2)] rfl ?_
        refine w_iinc hC (v2 + (1 : Int32)) dX6_grainsInAll_26 rfl rfl [some (.ref a0), some (.int x4), some (.int (v2 + (1 : Int32)))] rfl ?_
        refine v_goto (tg := 4) hC dX6_grainsInAll_29 rfl ?_
        exact ih _ _ _ _ _ h
set_option maxRecDepth 20000 in
set_option maxHeartbeats 4000000 in
theorem ok_X6_grainsInAll {l : Launch} {N : Nat} {a0 : Nat} {M : Mm} {r : Int32} {M' : Mm} (h0 : kTable a0) (h : f_X6_grainsInAll N a0 M = some (r, M')) : am_M l yX6_grainsInAll cX6_grainsInAll 3 (some .int) 1 0 0 LY M [.ref a0] (.inl (some (.int r))) M' := by
  unfold f_X6_grainsInAll at h
  refine am_intro (by decide) (by simp [Value.category]) (Nat.le_of_ble_eq_true rfl) (fun X hC hnt => ?_)
  refine am_start (L := [some (.ref a0), none, none]) rfl ?_
  refine v_iconst (v := (0 : Int32)) hC dX6_grainsInAll_0 rfl ?_
  refine w_istore_n hC dX6_grainsInAll_1 (ltk rfl) [some (.ref a0), some (.int (0 : Int32)), none] rfl ?_
  refine v_iconst (v := (0 : Int32)) hC dX6_grainsInAll_2 rfl ?_
  refine w_istore_n hC dX6_grainsInAll_3 (ltk rfl) [some (.ref a0), some (.int (0 : Int32)), some (.int (0 : Int32))] rfl ?_
  exact ok_X6_grainsInAll_4 hC hnt h0 N _ _ _ _ _ h
def f_X6_heldCellars_4 (N : Nat) (a0 : Nat) : Nat → Int32 → Int32 → Mm → Option (Int32 × Mm)
  | 0, _, _, _ => none
  | n + 1, v1, v2, M => (if (M a0 1) ≤ v2 then some (v1, M) else (if (5 : Int32) ≤ v2 then some (v1, M) else grd (inb v2 5) ((if (M (a0 + 6) (v2).toNatClampNeg) ≤ (0 : Int32) then lt (v1 ||| (0 : Int32)) (fun x5 => f_X6_heldCellars_4 N a0 n x5 (v2 + (1 : Int32)) M) else lt (v1 ||| ((1 : Int32) <<< (v2 &&& 31))) (fun x7 => f_X6_heldCellars_4 N a0 n x7 (v2 + (1 : Int32)) M)))))
def f_X6_heldCellars (N : Nat) (a0 : Nat) (M : Mm) : Option (Int32 × Mm) :=
  f_X6_heldCellars_4 N a0 N (0 : Int32) (0 : Int32) M
set_option maxRecDepth 20000 in
set_option maxHeartbeats 4000000 in
theorem ok_X6_heldCellars_4 {N : Nat} {X : am_X} {l : Launch} (hC : am_C X l (am_rm 1 0 0) cX6_heldCellars yX6_heldCellars.cls (some .int)) (hnt : am_NT X) {a0 : Nat} (h0 : kTable a0) : ∀ (n : Nat) (v1 v2 : Int32) (M : Mm) (r : Int32) (M' : Mm), f_X6_heldCellars_4 N a0 n v1 v2 M = some (r, M') → am_V X LY M 0 0 (am_Q X LY 0 0 (.inl (some (.int r))) M') 4 [some (.ref a0), some (.int v1), some (.int v2)] [] := by
  intro n
  induction n with
  | zero => intro v1 v2 M r M' h; cases h
  | succ n ih =>
    intro v1 v2 M r M' h
    simp only [f_X6_heldCellars_4] at h
    refine v_iload_n hC dX6_heldCellars_4 rfl ?_
    refine v_aload_n hC dX6_heldCellars_5 rfl ?_
    refine v_geti (k := 1) hC cls_X6 h0.1 (by decide) rfl aw_88 rfl dX6_heldCellars_6 ?_
    refine v_icmp_ge hC 42 dX6_heldCellars_9 rfl (fun c1 => ?_) (fun c1 => ?_)
    · rw [if_pos c1] at h
      refine v_iload_n hC dX6_heldCellars_42 rfl ?_
      cases h
      exact v_iret hC (by decide) (by decide) dX6_heldCellars_43
    · rw [if_neg c1] at h
      refine v_iload_n hC dX6_heldCellars_12 rfl ?_
      refine v_iconst (v := (5 : Int32)) hC dX6_heldCellars_13 rfl ?_
      refine v_icmp_ge hC 42 dX6_heldCellars_14 rfl (fun c2 => ?_) (fun c2 => ?_)
      · rw [if_pos c2] at h
        refine v_iload_n hC dX6_heldCellars_42 rfl ?_
        cases h
        exact v_iret hC (by decide) (by decide) dX6_heldCellars_43
      · rw [if_neg c2] at h
        refine v_iload_n hC dX6_heldCellars_17 rfl ?_
        refine v_aload_n hC dX6_heldCellars_18 rfl ?_
        refine v_geta (k := 16) (b := (a0 + 6)) hC cls_X6 h0.1 (by decide) rfl aw_132 rfl dX6_heldCellars_19 ?_
        refine v_iload_n hC dX6_heldCellars_22 rfl ?_
        obtain ⟨g3, h⟩ := grd_some h
        refine v_iald hC (kT_grains h0) (inb_in g3) dX6_heldCellars_23 ?_
        refine v_if_le hC 33 dX6_heldCellars_24 rfl (fun c4 => ?_) (fun c4 => ?_)
        · rw [if_pos c4] at h
          refine v_iconst (v := (0 : Int32)) hC dX6_heldCellars_33 rfl ?_
          refine v_ior hC dX6_heldCellars_34 ?_
          obtain ⟨x5, e_x5, h⟩ := lt_some h
          refine v_nam e_x5 ?_
          refine w_istore_n hC dX6_heldCellars_35 (ltk rfl) [some (.ref a0), some (.int x5), some (.int v2)] rfl ?_
          refine w_iinc hC (v2 + (1 : Int32)) dX6_heldCellars_36 rfl rfl [some (.ref a0), some (.int x5), some (.int (v2 + (1 : Int32)))] rfl ?_
          refine v_goto (tg := 4) hC dX6_heldCellars_39 rfl ?_
          exact ih _ _ _ _ _ h
        · rw [if_neg c4] at h
          refine v_iconst (v := (1 : Int32)) hC dX6_heldCellars_27 rfl ?_
          refine v_iload_n hC dX6_heldCellars_28 rfl ?_
          refine v_ishl hC dX6_heldCellars_29 ?_
          refine v_goto (tg := 34) hC dX6_heldCellars_30 rfl ?_
          refine v_ior hC dX6_heldCellars_34 ?_
          obtain ⟨x7, e_x7, h⟩ := lt_some h
          refine v_nam e_x7 ?_
          refine w_istore_n hC dX6_heldCellars_35 (ltk rfl) [some (.ref a0), some (.int x7), some (.int v2)] rfl ?_
          refine w_iinc hC (v2 + (1 : Int32)) dX6_heldCellars_36 rfl rfl [some (.ref a0), some (.int x7), some (.int (v2 + (1 : Int32)))] rfl ?_
          refine v_goto (tg := 4) hC dX6_heldCellars_39 rfl ?_
          exact ih _ _ _ _ _ h
set_option maxRecDepth 20000 in
set_option maxHeartbeats 4000000 in
theorem ok_X6_heldCellars {l : Launch} {N : Nat} {a0 : Nat} {M : Mm} {r : Int32} {M' : Mm} (h0 : kTable a0) (h : f_X6_heldCellars N a0 M = some (r, M')) : am_M l yX6_heldCellars cX6_heldCellars 3 (some .int) 1 0 0 LY M [.ref a0] (.inl (some (.int r))) M' := by
  unfold f_X6_heldCellars at h
  refine am_intro (by decide) (by simp [Value.category]) (Nat.le_of_ble_eq_true rfl) (fun X hC hnt => ?_)
  refine am_start (L := [some (.ref a0), none, none]) rfl ?_
  refine v_iconst (v := (0 : Int32)) hC dX6_heldCellars_0 rfl ?_
  refine w_istore_n hC dX6_heldCellars_1 (ltk rfl) [some (.ref a0), some (.int (0 : Int32)), none] rfl ?_
  refine v_iconst (v := (0 : Int32)) hC dX6_heldCellars_2 rfl ?_
  refine w_istore_n hC dX6_heldCellars_3 (ltk rfl) [some (.ref a0), some (.int (0 : Int32)), some (.int (0 : Int32))] rfl ?_
  exact ok_X6_heldCellars_4 hC hnt h0 N _ _ _ _ _ h
def f_X6_heldAt_43 (N : Nat) (a0 : Nat) (k4 : Int32 → Int32 → Int32 → Mm → Option (Int32 × Mm)) (v1 : Int32) (v3 : Int32) (s0 : Int32) (M : Mm) : Option (Int32 × Mm) :=
  lt (s0 ||| (0 : Int32)) (fun x5 => k4 v1 x5 (v3 + (1 : Int32)) M)
def f_X6_heldAt_4 (N : Nat) (a0 : Nat) : Nat → Int32 → Int32 → Int32 → Mm → Option (Int32 × Mm)
  | 0, _, _, _, _ => none
  | n + 1, v1, v2, v3, M => (if (M a0 1) ≤ v3 then some (v2, M) else (if (5 : Int32) ≤ v3 then some (v2, M) else grd (inb v3 5) ((if (M (a0 + 6) (v3).toNatClampNeg) ≤ (0 : Int32) then f_X6_heldAt_43 N a0 (fun v1 v2 v3 M => f_X6_heldAt_4 N a0 n v1 v2 v3 M) v1 v3 v2 M else grd (inb v3 5) ((if (M (a0 + 4) (v3).toNatClampNeg) = v1 then lt (v2 ||| ((1 : Int32) <<< (v3 &&& 31))) (fun x9 => f_X6_heldAt_4 N a0 n v1 x9 (v3 + (1 : Int32)) M) else f_X6_heldAt_43 N a0 (fun v1 v2 v3 M => f_X6_heldAt_4 N a0 n v1 v2 v3 M) v1 v3 v2 M))))))
def f_X6_heldAt (N : Nat) (a0 : Nat) (v1 : Int32) (M : Mm) : Option (Int32 × Mm) :=
  f_X6_heldAt_4 N a0 N v1 (0 : Int32) (0 : Int32) M
set_option maxRecDepth 20000 in
set_option maxHeartbeats 4000000 in
theorem ok_X6_heldAt_43 {N : Nat} {X : am_X} {l : Launch} (hC : am_C X l (am_rm 1 0 0) cX6_heldAt yX6_heldAt.cls (some .int)) (hnt : am_NT X) {a0 : Nat} (h0 : kTable a0) {k4 : Int32 → Int32 → Int32 → Mm → Option (Int32 × Mm)} (hk4 : ∀ (v1 v2 v3 : Int32) (M : Mm) (r : Int32) (M' : Mm), k4 v1 v2 v3 M = some (r, M') → am_V X LY M 0 0 (am_Q X LY 0 0 (.inl (some (.int r))) M') 4 [some (.ref a0), some (.int v1), some (.int v2), some (.int v3)] []) {v1 v3 s0 : Int32} {M : Mm} {r : Int32} {M' : Mm} (h : f_X6_heldAt_43 N a0 k4 v1 v3 s0 M = some (r, M')) : am_V X LY M 0 0 (am_Q X LY 0 0 (.inl (some (.int r))) M') 43 [some (.ref a0), some (.int v1), none, some (.int v3)] [.int s0] := by
  unfold f_X6_heldAt_43 at h
  refine v_iconst (v := (0 : Int32)) hC dX6_heldAt_43 rfl ?_
  refine v_ior hC dX6_heldAt_44 ?_
  obtain ⟨x5, e_x5, h⟩ := lt_some h
  refine v_nam e_x5 ?_
  refine w_istore_n hC dX6_heldAt_45 (ltk rfl) [some (.ref a0), some (.int v1), some (.int x5), some (.int v3)] rfl ?_
  refine w_iinc hC (v3 + (1 : Int32)) dX6_heldAt_46 rfl rfl [some (.ref a0), some (.int v1), some (.int x5), some (.int (v3 + (1 : Int32)))] rfl ?_
  refine v_goto (tg := 4) hC dX6_heldAt_49 rfl ?_
  exact hk4 _ _ _ _ _ _ h
set_option maxRecDepth 20000 in
set_option maxHeartbeats 4000000 in
theorem ok_X6_heldAt_4 {N : Nat} {X : am_X} {l : Launch} (hC : am_C X l (am_rm 1 0 0) cX6_heldAt yX6_heldAt.cls (some .int)) (hnt : am_NT X) {a0 : Nat} (h0 : kTable a0) : ∀ (n : Nat) (v1 v2 v3 : Int32) (M : Mm) (r : Int32) (M' : Mm), f_X6_heldAt_4 N a0 n v1 v2 v3 M = some (r, M') → am_V X LY M 0 0 (am_Q X LY 0 0 (.inl (some (.int r))) M') 4 [some (.ref a0), some (.int v1), some (.int v2), some (.int v3)] [] := by
  intro n
  induction n with
  | zero => intro v1 v2 v3 M r M' h; cases h
  | succ n ih =>
    intro v1 v2 v3 M r M' h
    simp only [f_X6_heldAt_4] at h
    refine v_iload_n hC dX6_heldAt_4 rfl ?_
    refine v_aload_n hC dX6_heldAt_5 rfl ?_
    refine v_geti (k := 1) hC cls_X6 h0.1 (by decide) rfl aw_88 rfl dX6_heldAt_6 ?_
    refine v_icmp_ge hC 52 dX6_heldAt_9 rfl (fun c1 => ?_) (fun c1 => ?_)
    · rw [if_pos c1] at h
      refine v_iload_n hC dX6_heldAt_52 rfl ?_
      cases h
      exact v_iret hC (by decide) (by decide) dX6_heldAt_53
    · rw [if_neg c1] at h
      refine v_iload_n hC dX6_heldAt_12 rfl ?_
      refine v_iconst (v := (5 : Int32)) hC dX6_heldAt_13 rfl ?_
      refine v_icmp_ge hC 52 dX6_heldAt_14 rfl (fun c2 => ?_) (fun c2 => ?_)
      · rw [if_pos c2] at h
        refine v_iload_n hC dX6_heldAt_52 rfl ?_
        cases h
        exact v_iret hC (by decide) (by decide) dX6_heldAt_53
      · rw [if_neg c2] at h
        refine v_iload_n hC dX6_heldAt_17 rfl ?_
        refine v_aload_n hC dX6_heldAt_18 rfl ?_
        refine v_geta (k := 16) (b := (a0 + 6)) hC cls_X6 h0.1 (by decide) rfl aw_132 rfl dX6_heldAt_19 ?_
        refine v_iload_n hC dX6_heldAt_22 rfl ?_
        obtain ⟨g3, h⟩ := grd_some h
        refine v_iald hC (kT_grains h0) (inb_in g3) dX6_heldAt_23 ?_
        refine v_if_le hC 43 dX6_heldAt_24 rfl (fun c4 => ?_) (fun c4 => ?_)
        · rw [if_pos c4] at h
          refine v_drop [true, true, false, true] [some (.ref a0), some (.int v1), none, some (.int v3)] rfl ?_
          exact ok_X6_heldAt_43 hC hnt h0 (fun v1 v2 v3 M r M' h => ih v1 v2 v3 M r M' h) h
        · rw [if_neg c4] at h
          refine v_aload_n hC dX6_heldAt_27 rfl ?_
          refine v_geta (k := 14) (b := (a0 + 4)) hC cls_X6 h0.1 (by decide) rfl aw_125 rfl dX6_heldAt_28 ?_
          refine v_iload_n hC dX6_heldAt_31 rfl ?_
          obtain ⟨g7, h⟩ := grd_some h
          refine v_iald hC (kT_place h0) (inb_in g7) dX6_heldAt_32 ?_
          refine v_iload_n hC dX6_heldAt_33 rfl ?_
          refine v_icmp_ne hC 43 dX6_heldAt_34 rfl (fun c8 => ?_) (fun c8 => ?_)
          · rw [if_neg c8] at h
            refine v_drop [true, true, false, true] [some (.ref a0), some (.int v1), none, some (.int v3)] rfl ?_
            exact ok_X6_heldAt_43 hC hnt h0 (fun v1 v2 v3 M r M' h => ih v1 v2 v3 M r M' h) h
          · rw [if_pos c8] at h
            refine v_iconst (v := (1 : Int32)) hC dX6_heldAt_37 rfl ?_
            refine v_iload_n hC dX6_heldAt_38 rfl ?_
            refine v_ishl hC dX6_heldAt_39 ?_
            refine v_goto (tg := 44) hC dX6_heldAt_40 rfl ?_
            refine v_ior hC dX6_heldAt_44 ?_
            obtain ⟨x9, e_x9, h⟩ := lt_some h
            refine v_nam e_x9 ?_
            refine w_istore_n hC dX6_heldAt_45 (ltk rfl) [some (.ref a0), some (.int v1), some (.int x9), some (.int v3)] rfl ?_
            refine w_iinc hC (v3 + (1 : Int32)) dX6_heldAt_46 rfl rfl [some (.ref a0), some (.int v1), some (.int x9), some (.int (v3 + (1 : Int32)))] rfl ?_
            refine v_goto (tg := 4) hC dX6_heldAt_49 rfl ?_
            exact ih _ _ _ _ _ _ h
set_option maxRecDepth 20000 in
set_option maxHeartbeats 4000000 in
theorem ok_X6_heldAt {l : Launch} {N : Nat} {a0 : Nat} {v1 : Int32} {M : Mm} {r : Int32} {M' : Mm} (h0 : kTable a0) (h : f_X6_heldAt N a0 v1 M = some (r, M')) : am_M l yX6_heldAt cX6_heldAt 4 (some .int) 1 0 0 LY M [.ref a0, .int v1] (.inl (some (.int r))) M' := by
  unfold f_X6_heldAt at h
  refine am_intro (by decide) (by simp [Value.category]) (Nat.le_of_ble_eq_true rfl) (fun X hC hnt => ?_)
  refine am_start (L := [some (.ref a0), some (.int v1), none, none]) rfl ?_
  refine v_iconst (v := (0 : Int32)) hC dX6_heldAt_0 rfl ?_
  refine w_istore_n hC dX6_heldAt_1 (ltk rfl) [some (.ref a0), some (.int v1), some (.int (0 : Int32)), none] rfl ?_
  refine v_iconst (v := (0 : Int32)) hC dX6_heldAt_2 rfl ?_
  refine w_istore_n hC dX6_heldAt_3 (ltk rfl) [some (.ref a0), some (.int v1), some (.int (0 : Int32)), some (.int (0 : Int32))] rfl ?_
  exact ok_X6_heldAt_4 hC hnt h0 N _ _ _ _ _ _ h
def f_X6_firstHeldAt_2 (N : Nat) (a0 : Nat) : Nat → Int32 → Int32 → Mm → Option (Int32 × Mm)
  | 0, _, _, _ => none
  | n + 1, v1, v2, M => (if (M a0 1) ≤ v2 then some ((-1 : Int32), M) else (if (5 : Int32) ≤ v2 then some ((-1 : Int32), M) else grd (inb v2 5) ((if (M (a0 + 6) (v2).toNatClampNeg) ≤ (0 : Int32) then f_X6_firstHeldAt_2 N a0 n v1 (v2 + (1 : Int32)) M else grd (inb v2 5) ((if (M (a0 + 4) (v2).toNatClampNeg) = v1 then some (v2, M) else f_X6_firstHeldAt_2 N a0 n v1 (v2 + (1 : Int32)) M))))))
def f_X6_firstHeldAt (N : Nat) (a0 : Nat) (v1 : Int32) (M : Mm) : Option (Int32 × Mm) :=
  f_X6_firstHeldAt_2 N a0 N v1 (0 : Int32) M
set_option maxRecDepth 20000 in
set_option maxHeartbeats 4000000 in
theorem ok_X6_firstHeldAt_2 {N : Nat} {X : am_X} {l : Launch} (hC : am_C X l (am_rm 1 0 0) cX6_firstHeldAt yX6_firstHeldAt.cls (some .int)) (hnt : am_NT X) {a0 : Nat} (h0 : kTable a0) : ∀ (n : Nat) (v1 v2 : Int32) (M : Mm) (r : Int32) (M' : Mm), f_X6_firstHeldAt_2 N a0 n v1 v2 M = some (r, M') → am_V X LY M 0 0 (am_Q X LY 0 0 (.inl (some (.int r))) M') 2 [some (.ref a0), some (.int v1), some (.int v2)] [] := by
  intro n
  induction n with
  | zero => intro v1 v2 M r M' h; cases h
  | succ n ih =>
    intro v1 v2 M r M' h
    simp only [f_X6_firstHeldAt_2] at h
    refine v_iload_n hC dX6_firstHeldAt_2 rfl ?_
    refine v_aload_n hC dX6_firstHeldAt_3 rfl ?_
    refine v_geti (k := 1) hC cls_X6 h0.1 (by decide) rfl aw_88 rfl dX6_firstHeldAt_4 ?_
    refine v_icmp_ge hC 42 dX6_firstHeldAt_7 rfl (fun c1 => ?_) (fun c1 => ?_)
    · rw [if_pos c1] at h
      refine v_iconst (v := (-1 : Int32)) hC dX6_firstHeldAt_42 rfl ?_
      cases h
      exact v_iret hC (by decide) (by decide) dX6_firstHeldAt_43
    · rw [if_neg c1] at h
      refine v_iload_n hC dX6_firstHeldAt_10 rfl ?_
      refine v_iconst (v := (5 : Int32)) hC dX6_firstHeldAt_11 rfl ?_
      refine v_icmp_ge hC 42 dX6_firstHeldAt_12 rfl (fun c2 => ?_) (fun c2 => ?_)
      · rw [if_pos c2] at h
        refine v_iconst (v := (-1 : Int32)) hC dX6_firstHeldAt_42 rfl ?_
        cases h
        exact v_iret hC (by decide) (by decide) dX6_firstHeldAt_43
      · rw [if_neg c2] at h
        refine v_aload_n hC dX6_firstHeldAt_15 rfl ?_
        refine v_geta (k := 16) (b := (a0 + 6)) hC cls_X6 h0.1 (by decide) rfl aw_132 rfl dX6_firstHeldAt_16 ?_
        refine v_iload_n hC dX6_firstHeldAt_19 rfl ?_
        obtain ⟨g3, h⟩ := grd_some h
        refine v_iald hC (kT_grains h0) (inb_in g3) dX6_firstHeldAt_20 ?_
        refine v_if_le hC 36 dX6_firstHeldAt_21 rfl (fun c4 => ?_) (fun c4 => ?_)
        · rw [if_pos c4] at h
          refine w_iinc hC (v2 + (1 : Int32)) dX6_firstHeldAt_36 rfl rfl [some (.ref a0), some (.int v1), some (.int (v2 + (1 : Int32)))] rfl ?_
          refine v_goto (tg := 2) hC dX6_firstHeldAt_39 rfl ?_
          exact ih _ _ _ _ _ h
        · rw [if_neg c4] at h
          refine v_aload_n hC dX6_firstHeldAt_24 rfl ?_
          refine v_geta (k := 14) (b := (a0 + 4)) hC cls_X6 h0.1 (by decide) rfl aw_125 rfl dX6_firstHeldAt_25 ?_
          refine v_iload_n hC dX6_firstHeldAt_28 rfl ?_
          obtain ⟨g6, h⟩ := grd_some h
          refine v_iald hC (kT_place h0) (inb_in g6) dX6_firstHeldAt_29 ?_
          refine v_iload_n hC dX6_firstHeldAt_30 rfl ?_
          refine v_icmp_ne hC 36 dX6_firstHeldAt_31 rfl (fun c7 => ?_) (fun c7 => ?_)
          · rw [if_neg c7] at h
            refine w_iinc hC (v2 + (1 : Int32)) dX6_firstHeldAt_36 rfl rfl [some (.ref a0), some (.int v1), some (.int (v2 + (1 : Int32)))] rfl ?_
            refine v_goto (tg := 2) hC dX6_firstHeldAt_39 rfl ?_
            exact ih _ _ _ _ _ h
          · rw [if_pos c7] at h
            refine v_iload_n hC dX6_firstHeldAt_34 rfl ?_
            cases h
            exact v_iret hC (by decide) (by decide) dX6_firstHeldAt_35
set_option maxRecDepth 20000 in
set_option maxHeartbeats 4000000 in
theorem ok_X6_firstHeldAt {l : Launch} {N : Nat} {a0 : Nat} {v1 : Int32} {M : Mm} {r : Int32} {M' : Mm} (h0 : kTable a0) (h : f_X6_firstHeldAt N a0 v1 M = some (r, M')) : am_M l yX6_firstHeldAt cX6_firstHeldAt 3 (some .int) 1 0 0 LY M [.ref a0, .int v1] (.inl (some (.int r))) M' := by
  unfold f_X6_firstHeldAt at h
  refine am_intro (by decide) (by simp [Value.category]) (Nat.le_of_ble_eq_true rfl) (fun X hC hnt => ?_)
  refine am_start (L := [some (.ref a0), some (.int v1), none]) rfl ?_
  refine v_iconst (v := (0 : Int32)) hC dX6_firstHeldAt_0 rfl ?_
  refine w_istore_n hC dX6_firstHeldAt_1 (ltk rfl) [some (.ref a0), some (.int v1), some (.int (0 : Int32))] rfl ?_
  exact ok_X6_firstHeldAt_2 hC hnt h0 N _ _ _ _ _ h
def f_X9_eatsLetter (N : Nat) (M : Mm) : Option (Int32 × Mm) :=
  (if (M 3 4) < (0 : Int32) then some ((-1 : Int32), M) else (if (400 : Int32) < (M 3 4) then some ((-1 : Int32), M) else grd (inb (M 3 4) 401) ((if (M 4 ((M 3 4)).toNatClampNeg) = (300 : Int32) then grd (inb (M 3 4) 401) (lt (M 6 ((M 3 4)).toNatClampNeg) (fun x6 => lt (wr M 3 4 ((M 3 4) + (1 : Int32))) (fun M7 => some (x6, M7)))) else some ((-1 : Int32), M)))))
set_option maxRecDepth 20000 in
set_option maxHeartbeats 4000000 in
theorem ok_X9_eatsLetter {l : Launch} {N : Nat} {M : Mm} {r : Int32} {M' : Mm} (h : f_X9_eatsLetter N M = some (r, M')) : am_M l yX9_eatsLetter cX9_eatsLetter 2 (some .int) 1 0 0 LY M [.ref 3] (.inl (some (.int r))) M' := by
  unfold f_X9_eatsLetter at h
  refine am_intro (by decide) (by simp [Value.category]) (Nat.le_of_ble_eq_true rfl) (fun X hC hnt => ?_)
  refine am_start (L := [some (.ref 3), none]) rfl ?_
  refine v_aload_n hC dX9_eatsLetter_0 rfl ?_
  refine v_geti (k := 4) hC cls_X9 ly_3 (by decide) rfl aw_63 rfl dX9_eatsLetter_1 ?_
  refine v_if_lt hC 32 dX9_eatsLetter_4 rfl (fun c1 => ?_) (fun c1 => ?_)
  · rw [if_pos c1] at h
    refine v_iconst (v := (-1 : Int32)) hC dX9_eatsLetter_32 rfl ?_
    cases h
    exact v_iret hC (by decide) (by decide) dX9_eatsLetter_33
  · rw [if_neg c1] at h
    refine v_aload_n hC dX9_eatsLetter_7 rfl ?_
    refine v_geti (k := 4) hC cls_X9 ly_3 (by decide) rfl aw_63 rfl dX9_eatsLetter_8 ?_
    refine v_sipush (v := (400 : Int32)) hC dX9_eatsLetter_11 rfl ?_
    refine v_icmp_gt hC 32 dX9_eatsLetter_14 rfl (fun c2 => ?_) (fun c2 => ?_)
    · rw [if_pos c2] at h
      refine v_iconst (v := (-1 : Int32)) hC dX9_eatsLetter_32 rfl ?_
      cases h
      exact v_iret hC (by decide) (by decide) dX9_eatsLetter_33
    · rw [if_neg c2] at h
      refine v_aload_n hC dX9_eatsLetter_17 rfl ?_
      refine v_geta (k := 0) (b := 4) hC cls_X9 ly_3 (by decide) rfl aw_59 rfl dX9_eatsLetter_18 ?_
      refine v_aload_n hC dX9_eatsLetter_21 rfl ?_
      refine v_geti (k := 4) hC cls_X9 ly_3 (by decide) rfl aw_63 rfl dX9_eatsLetter_22 ?_
      obtain ⟨g3, h⟩ := grd_some h
      refine v_iald hC ly_4 (inb_in g3) dX9_eatsLetter_25 ?_
      refine v_sipush (v := (300 : Int32)) hC dX9_eatsLetter_26 rfl ?_
      refine v_icmp_eq hC 34 dX9_eatsLetter_29 rfl (fun c4 => ?_) (fun c4 => ?_)
      · rw [if_pos c4] at h
        refine v_aload_n hC dX9_eatsLetter_34 rfl ?_
        refine v_geta (k := 2) (b := 6) hC cls_X9 ly_3 (by decide) rfl aw_61 rfl dX9_eatsLetter_35 ?_
        refine v_aload_n hC dX9_eatsLetter_38 rfl ?_
        refine v_geti (k := 4) hC cls_X9 ly_3 (by decide) rfl aw_63 rfl dX9_eatsLetter_39 ?_
        obtain ⟨g5, h⟩ := grd_some h
        refine v_iald hC ly_6 (inb_in g5) dX9_eatsLetter_42 ?_
        obtain ⟨x6, e_x6, h⟩ := lt_some h
        refine v_nam e_x6 ?_
        refine w_istore_n hC dX9_eatsLetter_43 (ltk rfl) [some (.ref 3), some (.int x6)] rfl ?_
        refine v_aload_n hC dX9_eatsLetter_44 rfl ?_
        refine v_dup hC dX9_eatsLetter_45 rfl ?_
        refine v_geti (k := 4) hC cls_X9 ly_3 (by decide) rfl aw_63 rfl dX9_eatsLetter_46 ?_
        refine v_iconst (v := (1 : Int32)) hC dX9_eatsLetter_49 rfl ?_
        refine v_iadd hC dX9_eatsLetter_50 ?_
        obtain ⟨M7, e_M7, h⟩ := lt_some h
        refine w_puti (k := 4) hC cls_X9 ly_3 (by decide) rfl aw_63 rfl rfl ⟨rfl, rfl⟩ dX9_eatsLetter_51 e_M7 ?_
        refine v_iload_n hC dX9_eatsLetter_54 rfl ?_
        cases h
        exact v_iret hC (by decide) (by decide) dX9_eatsLetter_55
      · rw [if_neg c4] at h
        refine v_iconst (v := (-1 : Int32)) hC dX9_eatsLetter_32 rfl ?_
        cases h
        exact v_iret hC (by decide) (by decide) dX9_eatsLetter_33
def f_X7_readsCellar_117 (N : Nat) (a1 : Nat) (v2 : Int32) (v3 : Int32) (v4 : Int32) (v5 : Int32) (s0 : Int32) (M : Mm) : Option (Int32 × Mm) :=
  (if s0 = (-1 : Int32) then some ((0 : Int32), M) else bnd (f_X6_stands N a1 v4 v2 v3 v5 s0 M) (fun r31 M32 => some ((1 : Int32), M32)))
def f_X7_readsCellar_86 (N : Nat) (a1 : Nat) (v2 : Int32) (v3 : Int32) (v4 : Int32) (s0 : Int32) (M : Mm) : Option (Int32 × Mm) :=
  (if s0 = (-1 : Int32) then some ((0 : Int32), M) else bnd (f_X9_eats N (263 : Int32) M) (fun r26 M27 => (if r26 = (0 : Int32) then f_X7_readsCellar_117 N a1 v2 v3 v4 s0 (1 : Int32) M27 else bnd (f_X9_eatsNumber N (1 : Int32) (9 : Int32) M27) (fun r34 M35 => f_X7_readsCellar_117 N a1 v2 v3 v4 s0 r34 M35))))
def f_X7_readsCellar (N : Nat) (a1 : Nat) (M : Mm) : Option (Int32 × Mm) :=
  bnd (f_X9_eatsLetter N M) (fun r1 M2 => (if r1 = (-1 : Int32) then some ((0 : Int32), M2) else bnd (f_X9_eats N (261 : Int32) M2) (fun r5 M6 => (if r5 = (0 : Int32) then some ((0 : Int32), M6) else bnd (f_X9_eatsNumber N (1 : Int32) (200 : Int32) M6) (fun r9 M10 => (if r9 = (-1 : Int32) then some ((0 : Int32), M10) else bnd (f_X9_eats N (258 : Int32) M10) (fun r13 M14 => (if r13 = (0 : Int32) then some ((0 : Int32), M14) else bnd (f_X9_eatsNumber N (0 : Int32) (9 : Int32) M14) (fun r17 M18 => (if r17 = (-1 : Int32) then some ((0 : Int32), M18) else bnd (f_X9_eats N (262 : Int32) M18) (fun r21 M22 => (if r21 = (0 : Int32) then f_X7_readsCellar_86 N a1 r1 r9 r17 (0 : Int32) M22 else bnd (f_X9_eatsNumber N (0 : Int32) (9 : Int32) M22) (fun r37 M38 => f_X7_readsCellar_86 N a1 r1 r9 r17 r37 M38)))))))))))))
set_option maxRecDepth 20000 in
set_option maxHeartbeats 4000000 in
theorem ok_X7_readsCellar_117 {N : Nat} {X : am_X} {l : Launch} (hC : am_C X l (am_rm 2 0 0) cX7_readsCellar yX7_readsCellar.cls (some .boolean)) (hnt : am_NT X) {a1 : Nat} (h1 : kTable a1) {v2 v3 v4 v5 s0 : Int32} {M : Mm} {r : Int32} {M' : Mm} (h : f_X7_readsCellar_117 N a1 v2 v3 v4 v5 s0 M = some (r, M')) : am_V X LY M 0 0 (am_Q X LY 0 0 (.inl (some (.int r))) M') 117 [none, some (.ref a1), some (.int v2), some (.int v3), some (.int v4), some (.int v5), none] [.int s0] := by
  unfold f_X7_readsCellar_117 at h
  refine w_istore hC dX7_readsCellar_117 (ltk rfl) [none, some (.ref a1), some (.int v2), some (.int v3), some (.int v4), some (.int v5), some (.int s0)] rfl ?_
  refine v_iload hC dX7_readsCellar_119 rfl ?_
  refine v_iconst (v := (-1 : Int32)) hC dX7_readsCellar_121 rfl ?_
  refine v_icmp_ne hC 127 dX7_readsCellar_122 rfl (fun c30 => ?_) (fun c30 => ?_)
  · rw [if_neg c30] at h
    refine v_aload_n hC dX7_readsCellar_127 rfl ?_
    refine v_iload hC dX7_readsCellar_128 rfl ?_
    refine v_iload_n hC dX7_readsCellar_130 rfl ?_
    refine v_iload_n hC dX7_readsCellar_131 rfl ?_
    refine v_iload hC dX7_readsCellar_132 rfl ?_
    refine v_iload hC dX7_readsCellar_134 rfl ?_
    obtain ⟨r31, M32, q33, h⟩ := bnd_some h
    refine w_callVv hC [.int v4, .int v2, .int v3, .int v5, .int s0] [] (ok_X6_stands h1 q33) mv_X6_stands aw_694 h1.1 rfl (Nat.le_of_ble_eq_true rfl) ⟨by decide, by decide⟩ ⟨by decide, by decide⟩ dX7_readsCellar_136 ?_
    refine v_iconst (v := (1 : Int32)) hC dX7_readsCellar_139 rfl ?_
    cases h
    exact v_zret hC (by decide) (by decide) (by decide) dX7_readsCellar_140
  · rw [if_pos c30] at h
    refine v_iconst (v := (0 : Int32)) hC dX7_readsCellar_125 rfl ?_
    cases h
    exact v_zret hC (by decide) (by decide) (by decide) dX7_readsCellar_126
set_option maxRecDepth 20000 in
set_option maxHeartbeats 4000000 in
theorem ok_X7_readsCellar_86 {N : Nat} {X : am_X} {l : Launch} (hC : am_C X l (am_rm 2 0 0) cX7_readsCellar yX7_readsCellar.cls (some .boolean)) (hnt : am_NT X) {a1 : Nat} (h1 : kTable a1) {v2 v3 v4 s0 : Int32} {M : Mm} {r : Int32} {M' : Mm} (h : f_X7_readsCellar_86 N a1 v2 v3 v4 s0 M = some (r, M')) : am_V X LY M 0 0 (am_Q X LY 0 0 (.inl (some (.int r))) M') 86 [some (.ref 3), some (.ref a1), some (.int v2), some (.int v3), some (.int v4), none, none] [.int s0] := by
  unfold f_X7_readsCellar_86 at h
  refine w_istore hC dX7_readsCellar_86 (ltk rfl) [some (.ref 3), some (.ref a1), some (.int v2), some (.int v3), some (.int v4), some (.int s0), none] rfl ?_
  refine v_iload hC dX7_readsCellar_88 rfl ?_
  refine v_iconst (v := (-1 : Int32)) hC dX7_readsCellar_90 rfl ?_
  refine v_icmp_ne hC 96 dX7_readsCellar_91 rfl (fun c25 => ?_) (fun c25 => ?_)
  · rw [if_neg c25] at h
    refine v_aload_n hC dX7_readsCellar_96 rfl ?_
    refine v_sipush (v := (263 : Int32)) hC dX7_readsCellar_97 rfl ?_
    obtain ⟨r26, M27, q28, h⟩ := bnd_some h
    refine w_callVi hC [.int (263 : Int32)] [] (ok_X9_eats q28) mv_X9_eats aw_671 ly_3 rfl (Nat.le_of_ble_eq_true rfl) ⟨by decide, by decide⟩ ⟨by decide, by decide⟩ dX7_readsCellar_100 ?_
    refine v_if_eq hC 116 dX7_readsCellar_103 rfl (fun c29 => ?_) (fun c29 => ?_)
    · rw [if_pos c29] at h
      refine v_iconst (v := (1 : Int32)) hC dX7_readsCellar_116 rfl ?_
      refine v_drop [false, true, true, true, true, true, false] [none, some (.ref a1), some (.int v2), some (.int v3), some (.int v4), some (.int s0), none] rfl ?_
      exact ok_X7_readsCellar_117 hC hnt h1 h
    · rw [if_neg c29] at h
      refine v_aload_n hC dX7_readsCellar_106 rfl ?_
      refine v_iconst (v := (1 : Int32)) hC dX7_readsCellar_107 rfl ?_
      refine v_bipush (v := (9 : Int32)) hC dX7_readsCellar_108 rfl ?_
      obtain ⟨r34, M35, q36, h⟩ := bnd_some h
      refine w_callVi hC [.int (1 : Int32), .int (9 : Int32)] [] (ok_X9_eatsNumber q36) mv_X9_eatsNumber aw_678 ly_3 rfl (Nat.le_of_ble_eq_true rfl) ⟨by decide, by decide⟩ ⟨by decide, by decide⟩ dX7_readsCellar_110 ?_
      refine v_goto (tg := 117) hC dX7_readsCellar_113 rfl ?_
      refine v_drop [false, true, true, true, true, true, false] [none, some (.ref a1), some (.int v2), some (.int v3), some (.int v4), some (.int s0), none] rfl ?_
      exact ok_X7_readsCellar_117 hC hnt h1 h
  · rw [if_pos c25] at h
    refine v_iconst (v := (0 : Int32)) hC dX7_readsCellar_94 rfl ?_
    cases h
    exact v_zret hC (by decide) (by decide) (by decide) dX7_readsCellar_95
set_option maxRecDepth 20000 in
set_option maxHeartbeats 4000000 in
theorem ok_X7_readsCellar {l : Launch} {N : Nat} {a1 : Nat} {M : Mm} {r : Int32} {M' : Mm} (h1 : kTable a1) (h : f_X7_readsCellar N a1 M = some (r, M')) : am_M l yX7_readsCellar cX7_readsCellar 7 (some .boolean) 2 0 0 LY M [.ref 3, .ref a1] (.inl (some (.int r))) M' := by
  unfold f_X7_readsCellar at h
  refine am_intro (by decide) (by simp [Value.category]) (Nat.le_of_ble_eq_true rfl) (fun X hC hnt => ?_)
  refine am_start (L := [some (.ref 3), some (.ref a1), none, none, none, none, none]) rfl ?_
  refine v_aload_n hC dX7_readsCellar_0 rfl ?_
  obtain ⟨r1, M2, q3, h⟩ := bnd_some h
  refine w_callVi hC [] [] (ok_X9_eatsLetter q3) mv_X9_eatsLetter aw_690 ly_3 rfl (Nat.le_of_ble_eq_true rfl) ⟨by decide, by decide⟩ ⟨by decide, by decide⟩ dX7_readsCellar_1 ?_
  refine w_istore_n hC dX7_readsCellar_4 (ltk rfl) [some (.ref 3), some (.ref a1), some (.int r1), none, none, none, none] rfl ?_
  refine v_iload_n hC dX7_readsCellar_5 rfl ?_
  refine v_iconst (v := (-1 : Int32)) hC dX7_readsCellar_6 rfl ?_
  refine v_icmp_eq hC 20 dX7_readsCellar_7 rfl (fun c4 => ?_) (fun c4 => ?_)
  · rw [if_pos c4] at h
    refine v_iconst (v := (0 : Int32)) hC dX7_readsCellar_20 rfl ?_
    cases h
    exact v_zret hC (by decide) (by decide) (by decide) dX7_readsCellar_21
  · rw [if_neg c4] at h
    refine v_aload_n hC dX7_readsCellar_10 rfl ?_
    refine v_sipush (v := (261 : Int32)) hC dX7_readsCellar_11 rfl ?_
    obtain ⟨r5, M6, q7, h⟩ := bnd_some h
    refine w_callVi hC [.int (261 : Int32)] [] (ok_X9_eats q7) mv_X9_eats aw_671 ly_3 rfl (Nat.le_of_ble_eq_true rfl) ⟨by decide, by decide⟩ ⟨by decide, by decide⟩ dX7_readsCellar_14 ?_
    refine v_if_ne hC 22 dX7_readsCellar_17 rfl (fun c8 => ?_) (fun c8 => ?_)
    · rw [if_neg c8] at h
      refine v_aload_n hC dX7_readsCellar_22 rfl ?_
      refine v_iconst (v := (1 : Int32)) hC dX7_readsCellar_23 rfl ?_
      refine v_sipush (v := (200 : Int32)) hC dX7_readsCellar_24 rfl ?_
      obtain ⟨r9, M10, q11, h⟩ := bnd_some h
      refine w_callVi hC [.int (1 : Int32), .int (200 : Int32)] [] (ok_X9_eatsNumber q11) mv_X9_eatsNumber aw_678 ly_3 rfl (Nat.le_of_ble_eq_true rfl) ⟨by decide, by decide⟩ ⟨by decide, by decide⟩ dX7_readsCellar_27 ?_
      refine w_istore_n hC dX7_readsCellar_30 (ltk rfl) [some (.ref 3), some (.ref a1), some (.int r1), some (.int r9), none, none, none] rfl ?_
      refine v_iload_n hC dX7_readsCellar_31 rfl ?_
      refine v_iconst (v := (-1 : Int32)) hC dX7_readsCellar_32 rfl ?_
      refine v_icmp_eq hC 46 dX7_readsCellar_33 rfl (fun c12 => ?_) (fun c12 => ?_)
      · rw [if_pos c12] at h
        refine v_iconst (v := (0 : Int32)) hC dX7_readsCellar_46 rfl ?_
        cases h
        exact v_zret hC (by decide) (by decide) (by decide) dX7_readsCellar_47
      · rw [if_neg c12] at h
        refine v_aload_n hC dX7_readsCellar_36 rfl ?_
        refine v_sipush (v := (258 : Int32)) hC dX7_readsCellar_37 rfl ?_
        obtain ⟨r13, M14, q15, h⟩ := bnd_some h
        refine w_callVi hC [.int (258 : Int32)] [] (ok_X9_eats q15) mv_X9_eats aw_671 ly_3 rfl (Nat.le_of_ble_eq_true rfl) ⟨by decide, by decide⟩ ⟨by decide, by decide⟩ dX7_readsCellar_40 ?_
        refine v_if_ne hC 48 dX7_readsCellar_43 rfl (fun c16 => ?_) (fun c16 => ?_)
        · rw [if_neg c16] at h
          refine v_aload_n hC dX7_readsCellar_48 rfl ?_
          refine v_iconst (v := (0 : Int32)) hC dX7_readsCellar_49 rfl ?_
          refine v_bipush (v := (9 : Int32)) hC dX7_readsCellar_50 rfl ?_
          obtain ⟨r17, M18, q19, h⟩ := bnd_some h
          refine w_callVi hC [.int (0 : Int32), .int (9 : Int32)] [] (ok_X9_eatsNumber q19) mv_X9_eatsNumber aw_678 ly_3 rfl (Nat.le_of_ble_eq_true rfl) ⟨by decide, by decide⟩ ⟨by decide, by decide⟩ dX7_readsCellar_52 ?_
          refine w_istore hC dX7_readsCellar_55 (ltk rfl) [some (.ref 3), some (.ref a1), some (.int r1), some (.int r9), some (.int r17), none, none] rfl ?_
          refine v_iload hC dX7_readsCellar_57 rfl ?_
          refine v_iconst (v := (-1 : Int32)) hC dX7_readsCellar_59 rfl ?_
          refine v_icmp_ne hC 65 dX7_readsCellar_60 rfl (fun c20 => ?_) (fun c20 => ?_)
          · rw [if_neg c20] at h
            refine v_aload_n hC dX7_readsCellar_65 rfl ?_
            refine v_sipush (v := (262 : Int32)) hC dX7_readsCellar_66 rfl ?_
            obtain ⟨r21, M22, q23, h⟩ := bnd_some h
            refine w_callVi hC [.int (262 : Int32)] [] (ok_X9_eats q23) mv_X9_eats aw_671 ly_3 rfl (Nat.le_of_ble_eq_true rfl) ⟨by decide, by decide⟩ ⟨by decide, by decide⟩ dX7_readsCellar_69 ?_
            refine v_if_eq hC 85 dX7_readsCellar_72 rfl (fun c24 => ?_) (fun c24 => ?_)
            · rw [if_pos c24] at h
              refine v_iconst (v := (0 : Int32)) hC dX7_readsCellar_85 rfl ?_
              exact ok_X7_readsCellar_86 hC hnt h1 h
            · rw [if_neg c24] at h
              refine v_aload_n hC dX7_readsCellar_75 rfl ?_
              refine v_iconst (v := (0 : Int32)) hC dX7_readsCellar_76 rfl ?_
              refine v_bipush (v := (9 : Int32)) hC dX7_readsCellar_77 rfl ?_
              obtain ⟨r37, M38, q39, h⟩ := bnd_some h
              refine w_callVi hC [.int (0 : Int32), .int (9 : Int32)] [] (ok_X9_eatsNumber q39) mv_X9_eatsNumber aw_678 ly_3 rfl (Nat.le_of_ble_eq_true rfl) ⟨by decide, by decide⟩ ⟨by decide, by decide⟩ dX7_readsCellar_79 ?_
              refine v_goto (tg := 86) hC dX7_readsCellar_82 rfl ?_
              exact ok_X7_readsCellar_86 hC hnt h1 h
          · rw [if_pos c20] at h
            refine v_iconst (v := (0 : Int32)) hC dX7_readsCellar_63 rfl ?_
            cases h
            exact v_zret hC (by decide) (by decide) (by decide) dX7_readsCellar_64
        · rw [if_pos c16] at h
          refine v_iconst (v := (0 : Int32)) hC dX7_readsCellar_46 rfl ?_
          cases h
          exact v_zret hC (by decide) (by decide) (by decide) dX7_readsCellar_47
    · rw [if_pos c8] at h
      refine v_iconst (v := (0 : Int32)) hC dX7_readsCellar_20 rfl ?_
      cases h
      exact v_zret hC (by decide) (by decide) (by decide) dX7_readsCellar_21
def f_X7_readsDiner (N : Nat) (a1 : Nat) (M : Mm) : Option (Int32 × Mm) :=
  bnd (f_X9_eats N (257 : Int32) M) (fun r1 M2 => (if r1 = (0 : Int32) then some ((0 : Int32), M2) else bnd (f_X9_eatsNumber N (0 : Int32) (9 : Int32) M2) (fun r5 M6 => (if r5 = (-1 : Int32) then some ((0 : Int32), M6) else bnd (f_X9_eats N (258 : Int32) M6) (fun r9 M10 => (if r9 = (0 : Int32) then some ((0 : Int32), M10) else lt (M10 3 4) (fun x13 => bnd (f_X9_eatsNumber N (0 : Int32) (9 : Int32) M10) (fun r14 M15 => (if r14 = (-1 : Int32) then some ((0 : Int32), M15) else bnd (f_X6_dinerAt N a1 r14 M15) (fun r18 M19 => (if r18 = (-1 : Int32) then bnd (f_X9_eats N (259 : Int32) M19) (fun r22 M23 => bnd (f_X6_sits N a1 r14 r5 r22 M23) (fun r25 M26 => some ((1 : Int32), M26))) else lt (wr M19 3 4 x13) (fun M28 => some ((0 : Int32), M28)))))))))))))
set_option maxRecDepth 20000 in
set_option maxHeartbeats 4000000 in
theorem ok_X7_readsDiner {l : Launch} {N : Nat} {a1 : Nat} {M : Mm} {r : Int32} {M' : Mm} (h1 : kTable a1) (h : f_X7_readsDiner N a1 M = some (r, M')) : am_M l yX7_readsDiner cX7_readsDiner 5 (some .boolean) 2 0 0 LY M [.ref 3, .ref a1] (.inl (some (.int r))) M' := by
  unfold f_X7_readsDiner at h
  refine am_intro (by decide) (by simp [Value.category]) (Nat.le_of_ble_eq_true rfl) (fun X hC hnt => ?_)
  refine am_start (L := [some (.ref 3), some (.ref a1), none, none, none]) rfl ?_
  refine v_aload_n hC dX7_readsDiner_0 rfl ?_
  refine v_sipush (v := (257 : Int32)) hC dX7_readsDiner_1 rfl ?_
  obtain ⟨r1, M2, q3, h⟩ := bnd_some h
  refine w_callVi hC [.int (257 : Int32)] [] (ok_X9_eats q3) mv_X9_eats aw_671 ly_3 rfl (Nat.le_of_ble_eq_true rfl) ⟨by decide, by decide⟩ ⟨by decide, by decide⟩ dX7_readsDiner_4 ?_
  refine v_if_ne hC 12 dX7_readsDiner_7 rfl (fun c4 => ?_) (fun c4 => ?_)
  · rw [if_neg c4] at h
    refine v_aload_n hC dX7_readsDiner_12 rfl ?_
    refine v_iconst (v := (0 : Int32)) hC dX7_readsDiner_13 rfl ?_
    refine v_bipush (v := (9 : Int32)) hC dX7_readsDiner_14 rfl ?_
    obtain ⟨r5, M6, q7, h⟩ := bnd_some h
    refine w_callVi hC [.int (0 : Int32), .int (9 : Int32)] [] (ok_X9_eatsNumber q7) mv_X9_eatsNumber aw_678 ly_3 rfl (Nat.le_of_ble_eq_true rfl) ⟨by decide, by decide⟩ ⟨by decide, by decide⟩ dX7_readsDiner_16 ?_
    refine w_istore_n hC dX7_readsDiner_19 (ltk rfl) [some (.ref 3), some (.ref a1), some (.int r5), none, none] rfl ?_
    refine v_iload_n hC dX7_readsDiner_20 rfl ?_
    refine v_iconst (v := (-1 : Int32)) hC dX7_readsDiner_21 rfl ?_
    refine v_icmp_eq hC 35 dX7_readsDiner_22 rfl (fun c8 => ?_) (fun c8 => ?_)
    · rw [if_pos c8] at h
      refine v_iconst (v := (0 : Int32)) hC dX7_readsDiner_35 rfl ?_
      cases h
      exact v_zret hC (by decide) (by decide) (by decide) dX7_readsDiner_36
    · rw [if_neg c8] at h
      refine v_aload_n hC dX7_readsDiner_25 rfl ?_
      refine v_sipush (v := (258 : Int32)) hC dX7_readsDiner_26 rfl ?_
      obtain ⟨r9, M10, q11, h⟩ := bnd_some h
      refine w_callVi hC [.int (258 : Int32)] [] (ok_X9_eats q11) mv_X9_eats aw_671 ly_3 rfl (Nat.le_of_ble_eq_true rfl) ⟨by decide, by decide⟩ ⟨by decide, by decide⟩ dX7_readsDiner_29 ?_
      refine v_if_ne hC 37 dX7_readsDiner_32 rfl (fun c12 => ?_) (fun c12 => ?_)
      · rw [if_neg c12] at h
        refine v_aload_n hC dX7_readsDiner_37 rfl ?_
        refine v_geti (k := 4) hC cls_X9 ly_3 (by decide) rfl aw_64 rfl dX7_readsDiner_38 ?_
        obtain ⟨x13, e_x13, h⟩ := lt_some h
        refine v_nam e_x13 ?_
        refine w_istore_n hC dX7_readsDiner_41 (ltk rfl) [some (.ref 3), some (.ref a1), some (.int r5), some (.int x13), none] rfl ?_
        refine v_aload_n hC dX7_readsDiner_42 rfl ?_
        refine v_iconst (v := (0 : Int32)) hC dX7_readsDiner_43 rfl ?_
        refine v_bipush (v := (9 : Int32)) hC dX7_readsDiner_44 rfl ?_
        obtain ⟨r14, M15, q16, h⟩ := bnd_some h
        refine w_callVi hC [.int (0 : Int32), .int (9 : Int32)] [] (ok_X9_eatsNumber q16) mv_X9_eatsNumber aw_678 ly_3 rfl (Nat.le_of_ble_eq_true rfl) ⟨by decide, by decide⟩ ⟨by decide, by decide⟩ dX7_readsDiner_46 ?_
        refine w_istore hC dX7_readsDiner_49 (ltk rfl) [some (.ref 3), some (.ref a1), some (.int r5), some (.int x13), some (.int r14)] rfl ?_
        refine v_iload hC dX7_readsDiner_51 rfl ?_
        refine v_iconst (v := (-1 : Int32)) hC dX7_readsDiner_53 rfl ?_
        refine v_icmp_ne hC 59 dX7_readsDiner_54 rfl (fun c17 => ?_) (fun c17 => ?_)
        · rw [if_neg c17] at h
          refine v_aload_n hC dX7_readsDiner_59 rfl ?_
          refine v_iload hC dX7_readsDiner_60 rfl ?_
          obtain ⟨r18, M19, q20, h⟩ := bnd_some h
          refine w_callVi hC [.int r14] [] (ok_X6_dinerAt h1 q20) mv_X6_dinerAt aw_682 h1.1 rfl (Nat.le_of_ble_eq_true rfl) ⟨by decide, by decide⟩ ⟨by decide, by decide⟩ dX7_readsDiner_62 ?_
          refine v_iconst (v := (-1 : Int32)) hC dX7_readsDiner_65 rfl ?_
          refine v_icmp_eq hC 76 dX7_readsDiner_66 rfl (fun c21 => ?_) (fun c21 => ?_)
          · rw [if_pos c21] at h
            refine v_aload_n hC dX7_readsDiner_76 rfl ?_
            refine v_iload hC dX7_readsDiner_77 rfl ?_
            refine v_iload_n hC dX7_readsDiner_79 rfl ?_
            refine v_aload_n hC dX7_readsDiner_80 rfl ?_
            refine v_sipush (v := (259 : Int32)) hC dX7_readsDiner_81 rfl ?_
            obtain ⟨r22, M23, q24, h⟩ := bnd_some h
            refine w_callVi hC [.int (259 : Int32)] [.int r5, .int r14, .ref a1] (ok_X9_eats q24) mv_X9_eats aw_671 ly_3 rfl (Nat.le_of_ble_eq_true rfl) ⟨by decide, by decide⟩ ⟨by decide, by decide⟩ dX7_readsDiner_84 ?_
            obtain ⟨r25, M26, q27, h⟩ := bnd_some h
            refine w_callVv hC [.int r14, .int r5, .int r22] [] (ok_X6_sits h1 q27) mv_X6_sits aw_683 h1.1 rfl (Nat.le_of_ble_eq_true rfl) ⟨by decide, by decide⟩ ⟨by decide, by decide⟩ dX7_readsDiner_87 ?_
            refine v_iconst (v := (1 : Int32)) hC dX7_readsDiner_90 rfl ?_
            cases h
            exact v_zret hC (by decide) (by decide) (by decide) dX7_readsDiner_91
          · rw [if_neg c21] at h
            refine v_aload_n hC dX7_readsDiner_69 rfl ?_
            refine v_iload_n hC dX7_readsDiner_70 rfl ?_
            obtain ⟨M28, e_M28, h⟩ := lt_some h
            refine w_puti (k := 4) hC cls_X9 ly_3 (by decide) rfl aw_64 rfl rfl ⟨rfl, rfl⟩ dX7_readsDiner_71 e_M28 ?_
            refine v_iconst (v := (0 : Int32)) hC dX7_readsDiner_74 rfl ?_
            cases h
            exact v_zret hC (by decide) (by decide) (by decide) dX7_readsDiner_75
        · rw [if_pos c17] at h
          refine v_iconst (v := (0 : Int32)) hC dX7_readsDiner_57 rfl ?_
          cases h
          exact v_zret hC (by decide) (by decide) (by decide) dX7_readsDiner_58
      · rw [if_pos c12] at h
        refine v_iconst (v := (0 : Int32)) hC dX7_readsDiner_35 rfl ?_
        cases h
        exact v_zret hC (by decide) (by decide) (by decide) dX7_readsDiner_36
  · rw [if_pos c4] at h
    refine v_iconst (v := (0 : Int32)) hC dX7_readsDiner_10 rfl ?_
    cases h
    exact v_zret hC (by decide) (by decide) (by decide) dX7_readsDiner_11
def f_X7_readsServed (N : Nat) (a1 : Nat) (v2 : Int32) (M : Mm) : Option (Int32 × Mm) :=
  bnd (f_X9_eatsNumber N (0 : Int32) (11 : Int32) M) (fun r1 M2 => (if r1 = (-1 : Int32) then some ((0 : Int32), M2) else bnd (f_X6_serves N a1 r1 v2 M2) (fun r5 M6 => some ((1 : Int32), M6))))
set_option maxRecDepth 20000 in
set_option maxHeartbeats 4000000 in
theorem ok_X7_readsServed {l : Launch} {N : Nat} {a1 : Nat} {v2 : Int32} {M : Mm} {r : Int32} {M' : Mm} (h1 : kTable a1) (h : f_X7_readsServed N a1 v2 M = some (r, M')) : am_M l yX7_readsServed cX7_readsServed 4 (some .boolean) 2 0 0 LY M [.ref 3, .ref a1, .int v2] (.inl (some (.int r))) M' := by
  unfold f_X7_readsServed at h
  refine am_intro (by decide) (by simp [Value.category]) (Nat.le_of_ble_eq_true rfl) (fun X hC hnt => ?_)
  refine am_start (L := [some (.ref 3), some (.ref a1), some (.int v2), none]) rfl ?_
  refine v_aload_n hC dX7_readsServed_0 rfl ?_
  refine v_iconst (v := (0 : Int32)) hC dX7_readsServed_1 rfl ?_
  refine v_bipush (v := (11 : Int32)) hC dX7_readsServed_2 rfl ?_
  obtain ⟨r1, M2, q3, h⟩ := bnd_some h
  refine w_callVi hC [.int (0 : Int32), .int (11 : Int32)] [] (ok_X9_eatsNumber q3) mv_X9_eatsNumber aw_678 ly_3 rfl (Nat.le_of_ble_eq_true rfl) ⟨by decide, by decide⟩ ⟨by decide, by decide⟩ dX7_readsServed_4 ?_
  refine w_istore_n hC dX7_readsServed_7 (ltk rfl) [some (.ref 3), some (.ref a1), some (.int v2), some (.int r1)] rfl ?_
  refine v_iload_n hC dX7_readsServed_8 rfl ?_
  refine v_iconst (v := (-1 : Int32)) hC dX7_readsServed_9 rfl ?_
  refine v_icmp_ne hC 15 dX7_readsServed_10 rfl (fun c4 => ?_) (fun c4 => ?_)
  · rw [if_neg c4] at h
    refine v_aload_n hC dX7_readsServed_15 rfl ?_
    refine v_iload_n hC dX7_readsServed_16 rfl ?_
    refine v_iload_n hC dX7_readsServed_17 rfl ?_
    obtain ⟨r5, M6, q7, h⟩ := bnd_some h
    refine w_callVv hC [.int r1, .int v2] [] (ok_X6_serves h1 q7) mv_X6_serves aw_701 h1.1 rfl (Nat.le_of_ble_eq_true rfl) ⟨by decide, by decide⟩ ⟨by decide, by decide⟩ dX7_readsServed_18 ?_
    refine v_iconst (v := (1 : Int32)) hC dX7_readsServed_21 rfl ?_
    cases h
    exact v_zret hC (by decide) (by decide) (by decide) dX7_readsServed_22
  · rw [if_pos c4] at h
    refine v_iconst (v := (0 : Int32)) hC dX7_readsServed_13 rfl ?_
    cases h
    exact v_zret hC (by decide) (by decide) (by decide) dX7_readsServed_14
def f_X7_readsLine_49 (N : Nat) (a1 : Nat) (M : Mm) : Option (Int32 × Mm) :=
  bnd (f_X9_eats N (264 : Int32) M) (fun r3 M4 => (if r3 = (0 : Int32) then bnd (f_X9_eats N (265 : Int32) M4) (fun r7 M8 => (if r7 = (0 : Int32) then bnd (f_X9_eats N (266 : Int32) M8) (fun r11 M12 => (if r11 = (0 : Int32) then bnd (f_X9_eats N (267 : Int32) M12) (fun r15 M16 => (if r15 = (0 : Int32) then bnd (f_X9_eats N (268 : Int32) M16) (fun r19 M20 => (if r19 = (0 : Int32) then some ((0 : Int32), M20) else bnd (f_X9_eatsNumber N (0 : Int32) (11 : Int32) M20) (fun r23 M24 => lt (wr M24 a1 4 r23) (fun M26 => (if (M26 a1 4) = (-1 : Int32) then some ((0 : Int32), M26) else some ((1 : Int32), M26)))))) else bnd (f_X9_eatsNumber N (0 : Int32) (100 : Int32) M16) (fun r28 M29 => lt (wr M29 a1 7 r28) (fun M31 => (if (M31 a1 7) = (-1 : Int32) then some ((0 : Int32), M31) else some ((1 : Int32), M31)))))) else bnd (f_X9_eatsNumber N (0 : Int32) (100 : Int32) M12) (fun r33 M34 => lt (wr M34 a1 6 r33) (fun M36 => (if (M36 a1 6) = (-1 : Int32) then some ((0 : Int32), M36) else some ((1 : Int32), M36)))))) else bnd (f_X7_readsServed N a1 (0 : Int32) M8) (fun r38 M39 => grd (isb r38) (some (r38, M39))))) else bnd (f_X7_readsServed N a1 (1 : Int32) M4) (fun r42 M43 => grd (isb r42) (some (r42, M43)))))
def f_X7_readsLine_25 (N : Nat) (a1 : Nat) (M : Mm) : Option (Int32 × Mm) :=
  (if (5 : Int32) ≤ (M a1 1) then f_X7_readsLine_49 N a1 M else bnd (f_X9_eats N (260 : Int32) M) (fun r46 M47 => (if r46 = (0 : Int32) then f_X7_readsLine_49 N a1 M47 else bnd (f_X7_readsCellar N a1 M47) (fun r50 M51 => grd (isb r50) (some (r50, M51))))))
def f_X7_readsLine (N : Nat) (a1 : Nat) (M : Mm) : Option (Int32 × Mm) :=
  (if (8 : Int32) ≤ (M a1 0) then f_X7_readsLine_25 N a1 M else bnd (f_X9_eats N (256 : Int32) M) (fun r54 M55 => (if r54 = (0 : Int32) then f_X7_readsLine_25 N a1 M55 else bnd (f_X7_readsDiner N a1 M55) (fun r58 M59 => grd (isb r58) (some (r58, M59))))))
set_option maxRecDepth 20000 in
set_option maxHeartbeats 4000000 in
theorem ok_X7_readsLine_49 {N : Nat} {X : am_X} {l : Launch} (hC : am_C X l (am_rm 3 0 0) cX7_readsLine yX7_readsLine.cls (some .boolean)) (hnt : am_NT X) {a1 : Nat} (h1 : kTable a1) {M : Mm} {r : Int32} {M' : Mm} (h : f_X7_readsLine_49 N a1 M = some (r, M')) : am_V X LY M 0 0 (am_Q X LY 0 0 (.inl (some (.int r))) M') 49 [some (.ref 3), some (.ref a1)] [] := by
  unfold f_X7_readsLine_49 at h
  refine v_aload_n hC dX7_readsLine_49 rfl ?_
  refine v_sipush (v := (264 : Int32)) hC dX7_readsLine_50 rfl ?_
  obtain ⟨r3, M4, q5, h⟩ := bnd_some h
  refine w_callVi hC [.int (264 : Int32)] [] (ok_X9_eats q5) mv_X9_eats aw_671 ly_3 rfl (Nat.le_of_ble_eq_true rfl) ⟨by decide, by decide⟩ ⟨by decide, by decide⟩ dX7_readsLine_53 ?_
  refine v_if_eq hC 66 dX7_readsLine_56 rfl (fun c6 => ?_) (fun c6 => ?_)
  · rw [if_pos c6] at h
    refine v_aload_n hC dX7_readsLine_66 rfl ?_
    refine v_sipush (v := (265 : Int32)) hC dX7_readsLine_67 rfl ?_
    obtain ⟨r7, M8, q9, h⟩ := bnd_some h
    refine w_callVi hC [.int (265 : Int32)] [] (ok_X9_eats q9) mv_X9_eats aw_671 ly_3 rfl (Nat.le_of_ble_eq_true rfl) ⟨by decide, by decide⟩ ⟨by decide, by decide⟩ dX7_readsLine_70 ?_
    refine v_if_eq hC 83 dX7_readsLine_73 rfl (fun c10 => ?_) (fun c10 => ?_)
    · rw [if_pos c10] at h
      refine v_aload_n hC dX7_readsLine_83 rfl ?_
      refine v_sipush (v := (266 : Int32)) hC dX7_readsLine_84 rfl ?_
      obtain ⟨r11, M12, q13, h⟩ := bnd_some h
      refine w_callVi hC [.int (266 : Int32)] [] (ok_X9_eats q13) mv_X9_eats aw_671 ly_3 rfl (Nat.le_of_ble_eq_true rfl) ⟨by decide, by decide⟩ ⟨by decide, by decide⟩ dX7_readsLine_87 ?_
      refine v_if_eq hC 118 dX7_readsLine_90 rfl (fun c14 => ?_) (fun c14 => ?_)
      · rw [if_pos c14] at h
        refine v_aload_n hC dX7_readsLine_118 rfl ?_
        refine v_sipush (v := (267 : Int32)) hC dX7_readsLine_119 rfl ?_
        obtain ⟨r15, M16, q17, h⟩ := bnd_some h
        refine w_callVi hC [.int (267 : Int32)] [] (ok_X9_eats q17) mv_X9_eats aw_671 ly_3 rfl (Nat.le_of_ble_eq_true rfl) ⟨by decide, by decide⟩ ⟨by decide, by decide⟩ dX7_readsLine_122 ?_
        refine v_if_eq hC 153 dX7_readsLine_125 rfl (fun c18 => ?_) (fun c18 => ?_)
        · rw [if_pos c18] at h
          refine v_aload_n hC dX7_readsLine_153 rfl ?_
          refine v_sipush (v := (268 : Int32)) hC dX7_readsLine_154 rfl ?_
          obtain ⟨r19, M20, q21, h⟩ := bnd_some h
          refine w_callVi hC [.int (268 : Int32)] [] (ok_X9_eats q21) mv_X9_eats aw_671 ly_3 rfl (Nat.le_of_ble_eq_true rfl) ⟨by decide, by decide⟩ ⟨by decide, by decide⟩ dX7_readsLine_157 ?_
          refine v_if_eq hC 188 dX7_readsLine_160 rfl (fun c22 => ?_) (fun c22 => ?_)
          · rw [if_pos c22] at h
            refine v_iconst (v := (0 : Int32)) hC dX7_readsLine_188 rfl ?_
            cases h
            exact v_zret hC (by decide) (by decide) (by decide) dX7_readsLine_189
          · rw [if_neg c22] at h
            refine v_aload_n hC dX7_readsLine_163 rfl ?_
            refine v_aload_n hC dX7_readsLine_164 rfl ?_
            refine v_iconst (v := (0 : Int32)) hC dX7_readsLine_165 rfl ?_
            refine v_bipush (v := (11 : Int32)) hC dX7_readsLine_166 rfl ?_
            obtain ⟨r23, M24, q25, h⟩ := bnd_some h
            refine w_callVi hC [.int (0 : Int32), .int (11 : Int32)] [.ref a1] (ok_X9_eatsNumber q25) mv_X9_eatsNumber aw_678 ly_3 rfl (Nat.le_of_ble_eq_true rfl) ⟨by decide, by decide⟩ ⟨by decide, by decide⟩ dX7_readsLine_168 ?_
            obtain ⟨M26, e_M26, h⟩ := lt_some h
            refine w_puti (k := 4) hC cls_X6 h1.1 (by decide) rfl aw_100 rfl rfl ⟨rfl, rfl⟩ dX7_readsLine_171 e_M26 ?_
            refine v_aload_n hC dX7_readsLine_174 rfl ?_
            refine v_geti (k := 4) hC cls_X6 h1.1 (by decide) rfl aw_100 rfl dX7_readsLine_175 ?_
            refine v_iconst (v := (-1 : Int32)) hC dX7_readsLine_178 rfl ?_
            refine v_icmp_eq hC 186 dX7_readsLine_179 rfl (fun c27 => ?_) (fun c27 => ?_)
            · rw [if_pos c27] at h
              refine v_iconst (v := (0 : Int32)) hC dX7_readsLine_186 rfl ?_
              cases h
              exact v_zret hC (by decide) (by decide) (by decide) dX7_readsLine_187
            · rw [if_neg c27] at h
              refine v_iconst (v := (1 : Int32)) hC dX7_readsLine_182 rfl ?_
              refine v_goto (tg := 187) hC dX7_readsLine_183 rfl ?_
              cases h
              exact v_zret hC (by decide) (by decide) (by decide) dX7_readsLine_187
        · rw [if_neg c18] at h
          refine v_aload_n hC dX7_readsLine_128 rfl ?_
          refine v_aload_n hC dX7_readsLine_129 rfl ?_
          refine v_iconst (v := (0 : Int32)) hC dX7_readsLine_130 rfl ?_
          refine v_bipush (v := (100 : Int32)) hC dX7_readsLine_131 rfl ?_
          obtain ⟨r28, M29, q30, h⟩ := bnd_some h
          refine w_callVi hC [.int (0 : Int32), .int (100 : Int32)] [.ref a1] (ok_X9_eatsNumber q30) mv_X9_eatsNumber aw_678 ly_3 rfl (Nat.le_of_ble_eq_true rfl) ⟨by decide, by decide⟩ ⟨by decide, by decide⟩ dX7_readsLine_133 ?_
          obtain ⟨M31, e_M31, h⟩ := lt_some h
          refine w_puti (k := 7) hC cls_X6 h1.1 (by decide) rfl aw_110 rfl rfl ⟨rfl, rfl⟩ dX7_readsLine_136 e_M31 ?_
          refine v_aload_n hC dX7_readsLine_139 rfl ?_
          refine v_geti (k := 7) hC cls_X6 h1.1 (by decide) rfl aw_110 rfl dX7_readsLine_140 ?_
          refine v_iconst (v := (-1 : Int32)) hC dX7_readsLine_143 rfl ?_
          refine v_icmp_eq hC 151 dX7_readsLine_144 rfl (fun c32 => ?_) (fun c32 => ?_)
          · rw [if_pos c32] at h
            refine v_iconst (v := (0 : Int32)) hC dX7_readsLine_151 rfl ?_
            cases h
            exact v_zret hC (by decide) (by decide) (by decide) dX7_readsLine_152
          · rw [if_neg c32] at h
            refine v_iconst (v := (1 : Int32)) hC dX7_readsLine_147 rfl ?_
            refine v_goto (tg := 152) hC dX7_readsLine_148 rfl ?_
            cases h
            exact v_zret hC (by decide) (by decide) (by decide) dX7_readsLine_152
      · rw [if_neg c14] at h
        refine v_aload_n hC dX7_readsLine_93 rfl ?_
        refine v_aload_n hC dX7_readsLine_94 rfl ?_
        refine v_iconst (v := (0 : Int32)) hC dX7_readsLine_95 rfl ?_
        refine v_bipush (v := (100 : Int32)) hC dX7_readsLine_96 rfl ?_
        obtain ⟨r33, M34, q35, h⟩ := bnd_some h
        refine w_callVi hC [.int (0 : Int32), .int (100 : Int32)] [.ref a1] (ok_X9_eatsNumber q35) mv_X9_eatsNumber aw_678 ly_3 rfl (Nat.le_of_ble_eq_true rfl) ⟨by decide, by decide⟩ ⟨by decide, by decide⟩ dX7_readsLine_98 ?_
        obtain ⟨M36, e_M36, h⟩ := lt_some h
        refine w_puti (k := 6) hC cls_X6 h1.1 (by decide) rfl aw_106 rfl rfl ⟨rfl, rfl⟩ dX7_readsLine_101 e_M36 ?_
        refine v_aload_n hC dX7_readsLine_104 rfl ?_
        refine v_geti (k := 6) hC cls_X6 h1.1 (by decide) rfl aw_106 rfl dX7_readsLine_105 ?_
        refine v_iconst (v := (-1 : Int32)) hC dX7_readsLine_108 rfl ?_
        refine v_icmp_eq hC 116 dX7_readsLine_109 rfl (fun c37 => ?_) (fun c37 => ?_)
        · rw [if_pos c37] at h
          refine v_iconst (v := (0 : Int32)) hC dX7_readsLine_116 rfl ?_
          cases h
          exact v_zret hC (by decide) (by decide) (by decide) dX7_readsLine_117
        · rw [if_neg c37] at h
          refine v_iconst (v := (1 : Int32)) hC dX7_readsLine_112 rfl ?_
          refine v_goto (tg := 117) hC dX7_readsLine_113 rfl ?_
          cases h
          exact v_zret hC (by decide) (by decide) (by decide) dX7_readsLine_117
    · rw [if_neg c10] at h
      refine v_aload_n hC dX7_readsLine_76 rfl ?_
      refine v_aload_n hC dX7_readsLine_77 rfl ?_
      refine v_iconst (v := (0 : Int32)) hC dX7_readsLine_78 rfl ?_
      obtain ⟨r38, M39, q40, h⟩ := bnd_some h
      refine w_callSi hC [.ref 3, .ref a1, .int (0 : Int32)] [] (ok_X7_readsServed h1 q40) ms_X7_readsServed aw_698 rfl (Nat.le_of_ble_eq_true rfl) ⟨by decide, by decide⟩ ⟨by decide, by decide⟩ dX7_readsLine_79 ?_
      obtain ⟨g41, h⟩ := grd_some h
      cases h
      exact v_zret hC (isb_nar g41).1 (by decide) (by decide) dX7_readsLine_82
  · rw [if_neg c6] at h
    refine v_aload_n hC dX7_readsLine_59 rfl ?_
    refine v_aload_n hC dX7_readsLine_60 rfl ?_
    refine v_iconst (v := (1 : Int32)) hC dX7_readsLine_61 rfl ?_
    obtain ⟨r42, M43, q44, h⟩ := bnd_some h
    refine w_callSi hC [.ref 3, .ref a1, .int (1 : Int32)] [] (ok_X7_readsServed h1 q44) ms_X7_readsServed aw_698 rfl (Nat.le_of_ble_eq_true rfl) ⟨by decide, by decide⟩ ⟨by decide, by decide⟩ dX7_readsLine_62 ?_
    obtain ⟨g45, h⟩ := grd_some h
    cases h
    exact v_zret hC (isb_nar g45).1 (by decide) (by decide) dX7_readsLine_65
set_option maxRecDepth 20000 in
set_option maxHeartbeats 4000000 in
theorem ok_X7_readsLine_25 {N : Nat} {X : am_X} {l : Launch} (hC : am_C X l (am_rm 3 0 0) cX7_readsLine yX7_readsLine.cls (some .boolean)) (hnt : am_NT X) {a1 : Nat} (h1 : kTable a1) {M : Mm} {r : Int32} {M' : Mm} (h : f_X7_readsLine_25 N a1 M = some (r, M')) : am_V X LY M 0 0 (am_Q X LY 0 0 (.inl (some (.int r))) M') 25 [some (.ref 3), some (.ref a1)] [] := by
  unfold f_X7_readsLine_25 at h
  refine v_aload_n hC dX7_readsLine_25 rfl ?_
  refine v_geti (k := 1) hC cls_X6 h1.1 (by decide) rfl aw_89 rfl dX7_readsLine_26 ?_
  refine v_iconst (v := (5 : Int32)) hC dX7_readsLine_29 rfl ?_
  refine v_icmp_ge hC 49 dX7_readsLine_30 rfl (fun c2 => ?_) (fun c2 => ?_)
  · rw [if_pos c2] at h
    exact ok_X7_readsLine_49 hC hnt h1 h
  · rw [if_neg c2] at h
    refine v_aload_n hC dX7_readsLine_33 rfl ?_
    refine v_sipush (v := (260 : Int32)) hC dX7_readsLine_34 rfl ?_
    obtain ⟨r46, M47, q48, h⟩ := bnd_some h
    refine w_callVi hC [.int (260 : Int32)] [] (ok_X9_eats q48) mv_X9_eats aw_671 ly_3 rfl (Nat.le_of_ble_eq_true rfl) ⟨by decide, by decide⟩ ⟨by decide, by decide⟩ dX7_readsLine_37 ?_
    refine v_if_eq hC 49 dX7_readsLine_40 rfl (fun c49 => ?_) (fun c49 => ?_)
    · rw [if_pos c49] at h
      exact ok_X7_readsLine_49 hC hnt h1 h
    · rw [if_neg c49] at h
      refine v_aload_n hC dX7_readsLine_43 rfl ?_
      refine v_aload_n hC dX7_readsLine_44 rfl ?_
      obtain ⟨r50, M51, q52, h⟩ := bnd_some h
      refine w_callSi hC [.ref 3, .ref a1] [] (ok_X7_readsCellar h1 q52) ms_X7_readsCellar aw_687 rfl (Nat.le_of_ble_eq_true rfl) ⟨by decide, by decide⟩ ⟨by decide, by decide⟩ dX7_readsLine_45 ?_
      obtain ⟨g53, h⟩ := grd_some h
      cases h
      exact v_zret hC (isb_nar g53).1 (by decide) (by decide) dX7_readsLine_48
set_option maxRecDepth 20000 in
set_option maxHeartbeats 4000000 in
theorem ok_X7_readsLine {l : Launch} {N : Nat} {a1 : Nat} {M : Mm} {r : Int32} {M' : Mm} (h1 : kTable a1) (h : f_X7_readsLine N a1 M = some (r, M')) : am_M l yX7_readsLine cX7_readsLine 2 (some .boolean) 3 0 0 LY M [.ref 3, .ref a1] (.inl (some (.int r))) M' := by
  unfold f_X7_readsLine at h
  refine am_intro (by decide) (by simp [Value.category]) (Nat.le_of_ble_eq_true rfl) (fun X hC hnt => ?_)
  refine am_start (L := [some (.ref 3), some (.ref a1)]) rfl ?_
  refine v_aload_n hC dX7_readsLine_0 rfl ?_
  refine v_geti (k := 0) hC cls_X6 h1.1 (by decide) rfl aw_86 rfl dX7_readsLine_1 ?_
  refine v_bipush (v := (8 : Int32)) hC dX7_readsLine_4 rfl ?_
  refine v_icmp_ge hC 25 dX7_readsLine_6 rfl (fun c1 => ?_) (fun c1 => ?_)
  · rw [if_pos c1] at h
    exact ok_X7_readsLine_25 hC hnt h1 h
  · rw [if_neg c1] at h
    refine v_aload_n hC dX7_readsLine_9 rfl ?_
    refine v_sipush (v := (256 : Int32)) hC dX7_readsLine_10 rfl ?_
    obtain ⟨r54, M55, q56, h⟩ := bnd_some h
    refine w_callVi hC [.int (256 : Int32)] [] (ok_X9_eats q56) mv_X9_eats aw_671 ly_3 rfl (Nat.le_of_ble_eq_true rfl) ⟨by decide, by decide⟩ ⟨by decide, by decide⟩ dX7_readsLine_13 ?_
    refine v_if_eq hC 25 dX7_readsLine_16 rfl (fun c57 => ?_) (fun c57 => ?_)
    · rw [if_pos c57] at h
      exact ok_X7_readsLine_25 hC hnt h1 h
    · rw [if_neg c57] at h
      refine v_aload_n hC dX7_readsLine_19 rfl ?_
      refine v_aload_n hC dX7_readsLine_20 rfl ?_
      obtain ⟨r58, M59, q60, h⟩ := bnd_some h
      refine w_callSi hC [.ref 3, .ref a1] [] (ok_X7_readsDiner h1 q60) ms_X7_readsDiner aw_675 rfl (Nat.le_of_ble_eq_true rfl) ⟨by decide, by decide⟩ ⟨by decide, by decide⟩ dX7_readsLine_21 ?_
      obtain ⟨g61, h⟩ := grd_some h
      cases h
      exact v_zret hC (isb_nar g61).1 (by decide) (by decide) dX7_readsLine_24
def f_X7_reads_14 (N : Nat) (a1 : Nat) : Nat → Int32 → Mm → Option (Int32 × Mm)
  | 0, _, _ => none
  | n + 1, v2, M => (if (14 : Int32) ≤ v2 then some ((0 : Int32), M) else bnd (f_X7_readsLine N a1 M) (fun r6 M7 => (if r6 = (0 : Int32) then some ((0 : Int32), M7) else bnd (f_X9_kind N M7) (fun r10 M11 => (if r10 = (303 : Int32) then some ((1 : Int32), M11) else bnd (f_X9_eats N (59 : Int32) M11) (fun r14 M15 => (if r14 = (0 : Int32) then some ((0 : Int32), M15) else f_X7_reads_14 N a1 n (v2 + (1 : Int32)) M15)))))))
def f_X7_reads (N : Nat) (a1 : Nat) (M : Mm) : Option (Int32 × Mm) :=
  bnd (f_X9_kind N M) (fun r1 M2 => (if r1 = (303 : Int32) then some ((1 : Int32), M2) else f_X7_reads_14 N a1 N (0 : Int32) M2))
set_option maxRecDepth 20000 in
set_option maxHeartbeats 4000000 in
theorem ok_X7_reads_14 {N : Nat} {X : am_X} {l : Launch} (hC : am_C X l (am_rm 4 0 0) cX7_reads yX7_reads.cls (some .boolean)) (hnt : am_NT X) {a1 : Nat} (h1 : kTable a1) : ∀ (n : Nat) (v2 : Int32) (M : Mm) (r : Int32) (M' : Mm), f_X7_reads_14 N a1 n v2 M = some (r, M') → am_V X LY M 0 0 (am_Q X LY 0 0 (.inl (some (.int r))) M') 14 [some (.ref 3), some (.ref a1), some (.int v2)] [] := by
  intro n
  induction n with
  | zero => intro v2 M r M' h; cases h
  | succ n ih =>
    intro v2 M r M' h
    simp only [f_X7_reads_14] at h
    refine v_iload_n hC dX7_reads_14 rfl ?_
    refine v_bipush (v := (14 : Int32)) hC dX7_reads_15 rfl ?_
    refine v_icmp_ge hC 59 dX7_reads_17 rfl (fun c5 => ?_) (fun c5 => ?_)
    · rw [if_pos c5] at h
      refine v_iconst (v := (0 : Int32)) hC dX7_reads_59 rfl ?_
      cases h
      exact v_zret hC (by decide) (by decide) (by decide) dX7_reads_60
    · rw [if_neg c5] at h
      refine v_aload_n hC dX7_reads_20 rfl ?_
      refine v_aload_n hC dX7_reads_21 rfl ?_
      obtain ⟨r6, M7, q8, h⟩ := bnd_some h
      refine w_callSi hC [.ref 3, .ref a1] [] (ok_X7_readsLine h1 q8) ms_X7_readsLine aw_668 rfl (Nat.le_of_ble_eq_true rfl) ⟨by decide, by decide⟩ ⟨by decide, by decide⟩ dX7_reads_22 ?_
      refine v_if_ne hC 30 dX7_reads_25 rfl (fun c9 => ?_) (fun c9 => ?_)
      · rw [if_neg c9] at h
        refine v_aload_n hC dX7_reads_30 rfl ?_
        obtain ⟨r10, M11, q12, h⟩ := bnd_some h
        refine w_callVi hC [] [] (ok_X9_kind q12) mv_X9_kind aw_664 ly_3 rfl (Nat.le_of_ble_eq_true rfl) ⟨by decide, by decide⟩ ⟨by decide, by decide⟩ dX7_reads_31 ?_
        refine v_sipush (v := (303 : Int32)) hC dX7_reads_34 rfl ?_
        refine v_icmp_ne hC 42 dX7_reads_37 rfl (fun c13 => ?_) (fun c13 => ?_)
        · rw [if_neg c13] at h
          refine v_aload_n hC dX7_reads_42 rfl ?_
          refine v_bipush (v := (59 : Int32)) hC dX7_reads_43 rfl ?_
          obtain ⟨r14, M15, q16, h⟩ := bnd_some h
          refine w_callVi hC [.int (59 : Int32)] [] (ok_X9_eats q16) mv_X9_eats aw_671 ly_3 rfl (Nat.le_of_ble_eq_true rfl) ⟨by decide, by decide⟩ ⟨by decide, by decide⟩ dX7_reads_45 ?_
          refine v_if_ne hC 53 dX7_reads_48 rfl (fun c17 => ?_) (fun c17 => ?_)
          · rw [if_neg c17] at h
            refine w_iinc hC (v2 + (1 : Int32)) dX7_reads_53 rfl rfl [some (.ref 3), some (.ref a1), some (.int (v2 + (1 : Int32)))] rfl ?_
            refine v_goto (tg := 14) hC dX7_reads_56 rfl ?_
            exact ih _ _ _ _ h
          · rw [if_pos c17] at h
            refine v_iconst (v := (0 : Int32)) hC dX7_reads_51 rfl ?_
            cases h
            exact v_zret hC (by decide) (by decide) (by decide) dX7_reads_52
        · rw [if_pos c13] at h
          refine v_iconst (v := (1 : Int32)) hC dX7_reads_40 rfl ?_
          cases h
          exact v_zret hC (by decide) (by decide) (by decide) dX7_reads_41
      · rw [if_pos c9] at h
        refine v_iconst (v := (0 : Int32)) hC dX7_reads_28 rfl ?_
        cases h
        exact v_zret hC (by decide) (by decide) (by decide) dX7_reads_29
set_option maxRecDepth 20000 in
set_option maxHeartbeats 4000000 in
theorem ok_X7_reads {l : Launch} {N : Nat} {a1 : Nat} {M : Mm} {r : Int32} {M' : Mm} (h1 : kTable a1) (h : f_X7_reads N a1 M = some (r, M')) : am_M l yX7_reads cX7_reads 3 (some .boolean) 4 0 0 LY M [.ref 3, .ref a1] (.inl (some (.int r))) M' := by
  unfold f_X7_reads at h
  refine am_intro (by decide) (by simp [Value.category]) (Nat.le_of_ble_eq_true rfl) (fun X hC hnt => ?_)
  refine am_start (L := [some (.ref 3), some (.ref a1), none]) rfl ?_
  refine v_aload_n hC dX7_reads_0 rfl ?_
  obtain ⟨r1, M2, q3, h⟩ := bnd_some h
  refine w_callVi hC [] [] (ok_X9_kind q3) mv_X9_kind aw_664 ly_3 rfl (Nat.le_of_ble_eq_true rfl) ⟨by decide, by decide⟩ ⟨by decide, by decide⟩ dX7_reads_1 ?_
  refine v_sipush (v := (303 : Int32)) hC dX7_reads_4 rfl ?_
  refine v_icmp_ne hC 12 dX7_reads_7 rfl (fun c4 => ?_) (fun c4 => ?_)
  · rw [if_neg c4] at h
    refine v_iconst (v := (0 : Int32)) hC dX7_reads_12 rfl ?_
    refine w_istore_n hC dX7_reads_13 (ltk rfl) [some (.ref 3), some (.ref a1), some (.int (0 : Int32))] rfl ?_
    exact ok_X7_reads_14 hC hnt h1 N _ _ _ _ h
  · rw [if_pos c4] at h
    refine v_iconst (v := (1 : Int32)) hC dX7_reads_10 rfl ?_
    cases h
    exact v_zret hC (by decide) (by decide) (by decide) dX7_reads_11
