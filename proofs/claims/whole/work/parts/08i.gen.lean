def f_X11_readAllOf_9 (N : Nat) (kA : Mm → Option (Int32 × Mm)) : Nat → Mm → Option (Int32 × Mm)
  | 0, _ => none
  | n + 1, M => bnd (f_X11_passes N 1000031 M) (fun r5 M6 => (if r5 = (0 : Int32) then some ((1 : Int32), M6) else bnd (kA M6) (fun r9 M10 => (if r9 = (0 : Int32) then some ((0 : Int32), M10) else bnd (f_X11_emits N (13 : Int32) (0 : Int32) M10) (fun r13 M14 => f_X11_readAllOf_9 N kA n M14)))))
def f_X11_readAllOf (N : Nat) (kA : Mm → Option (Int32 × Mm)) (M : Mm) : Option (Int32 × Mm) :=
  bnd (kA M) (fun r1 M2 => (if r1 = (0 : Int32) then some ((0 : Int32), M2) else f_X11_readAllOf_9 N kA N M2))
set_option maxRecDepth 20000 in
set_option maxHeartbeats 4000000 in
theorem ok_X11_readAllOf_9 {N : Nat} {X : am_X} {l : Launch} {D : Nat} {kA : Mm → Option (Int32 × Mm)} (hC : am_C X l (am_rm (D + 1) 0 0) cX11_readAllOf yX11_readAllOf.cls (some .boolean)) (hnt : am_NT X) (hA : ∀ (M : Mm) (r : Int32) (M' : Mm), kA  M = some (r, M') → am_M l yX11_readAtom cX11_readAtom 2 (some .boolean) D 0 0 LY M [.ref 208] (.inl (some (.int r))) M') (hD : 8 ≤ D) : ∀ (n : Nat) (M : Mm) (r : Int32) (M' : Mm), f_X11_readAllOf_9 N kA n  M = some (r, M') → am_V X LY M 0 0 (am_Q X LY 0 0 (.inl (some (.int r))) M') 9 [some (.ref 208)] [] := by
  intro n
  induction n with
  | zero => intro  M r M' h; cases h
  | succ n ih =>
    intro  M r M' h
    simp only [f_X11_readAllOf_9] at h
    refine v_aload_n hC dX11_readAllOf_9 rfl ?_
    refine w_ldcS (tx := "and") (i9 := 31) hC st_31 dX11_readAllOf_10 ?_
    obtain ⟨r5, M6, q7, h⟩ := bnd_some h
    refine w_callVi hC [.ref 1000031] [] (ok_X11_passes q7) mv_X11_passes aw_1388 ly_208 rfl (Nat.le_of_ble_eq_true rfl) ⟨by simp only [am_rm]; omega, by simp only [am_rm]; omega⟩ ⟨Nat.le_refl _, Nat.le_refl _⟩ dX11_readAllOf_12 ?_
    refine v_if_eq hC 37 dX11_readAllOf_15 rfl (fun c8 => ?_) (fun c8 => ?_)
    · rw [if_pos c8] at h
      refine v_iconst (v := (1 : Int32)) hC dX11_readAllOf_37 rfl ?_
      cases h
      exact v_zret hC (by decide) (Nat.le_refl _) (Nat.le_refl _) dX11_readAllOf_38
    · rw [if_neg c8] at h
      refine v_aload_n hC dX11_readAllOf_18 rfl ?_
      obtain ⟨r9, M10, q11, h⟩ := bnd_some h
      refine w_callVi hC [] [] (hA _ _ _ q11) mv_X11_readAtom aw_1441 ly_208 rfl (Nat.le_of_ble_eq_true rfl) ⟨by simp only [am_rm]; omega, by simp only [am_rm]; omega⟩ ⟨Nat.le_refl _, Nat.le_refl _⟩ dX11_readAllOf_19 ?_
      refine v_if_ne hC 27 dX11_readAllOf_22 rfl (fun c12 => ?_) (fun c12 => ?_)
      · rw [if_neg c12] at h
        refine v_aload_n hC dX11_readAllOf_27 rfl ?_
        refine v_bipush (v := (13 : Int32)) hC dX11_readAllOf_28 rfl ?_
        refine v_iconst (v := (0 : Int32)) hC dX11_readAllOf_30 rfl ?_
        obtain ⟨r13, M14, q15, h⟩ := bnd_some h
        refine w_callVv hC [.int (13 : Int32), .int (0 : Int32)] [] (ok_X11_emits q15) mv_X11_emits aw_1450 ly_208 rfl (Nat.le_of_ble_eq_true rfl) ⟨by simp only [am_rm]; omega, by simp only [am_rm]; omega⟩ ⟨Nat.le_refl _, Nat.le_refl _⟩ dX11_readAllOf_31 ?_
        refine v_goto (tg := 9) hC dX11_readAllOf_34 rfl ?_
        exact ih _ _ _ h
      · rw [if_pos c12] at h
        refine v_iconst (v := (0 : Int32)) hC dX11_readAllOf_25 rfl ?_
        cases h
        exact v_zret hC (by decide) (Nat.le_refl _) (Nat.le_refl _) dX11_readAllOf_26
set_option maxRecDepth 20000 in
set_option maxHeartbeats 4000000 in
theorem ok_X11_readAllOf {l : Launch} {N : Nat} {M : Mm} {r : Int32} {M' : Mm} {D : Nat} {kA : Mm → Option (Int32 × Mm)} (hA : ∀ (M : Mm) (r : Int32) (M' : Mm), kA  M = some (r, M') → am_M l yX11_readAtom cX11_readAtom 2 (some .boolean) D 0 0 LY M [.ref 208] (.inl (some (.int r))) M') (hD : 8 ≤ D) (h : f_X11_readAllOf N kA M = some (r, M')) : am_M l yX11_readAllOf cX11_readAllOf 1 (some .boolean) (D + 1) 0 0 LY M [.ref 208] (.inl (some (.int r))) M' := by
  unfold f_X11_readAllOf at h
  refine am_intro (by decide) (by simp [Value.category]) (Nat.le_of_ble_eq_true rfl) (fun X hC hnt => ?_)
  refine am_start (L := [some (.ref 208)]) rfl ?_
  refine v_aload_n hC dX11_readAllOf_0 rfl ?_
  obtain ⟨r1, M2, q3, h⟩ := bnd_some h
  refine w_callVi hC [] [] (hA _ _ _ q3) mv_X11_readAtom aw_1441 ly_208 rfl (Nat.le_of_ble_eq_true rfl) ⟨by simp only [am_rm]; omega, by simp only [am_rm]; omega⟩ ⟨Nat.le_refl _, Nat.le_refl _⟩ dX11_readAllOf_1 ?_
  refine v_if_ne hC 9 dX11_readAllOf_4 rfl (fun c4 => ?_) (fun c4 => ?_)
  · rw [if_neg c4] at h
    exact ok_X11_readAllOf_9 hC hnt hA hD N _ _ _ h
  · rw [if_pos c4] at h
    refine v_iconst (v := (0 : Int32)) hC dX11_readAllOf_7 rfl ?_
    cases h
    exact v_zret hC (by decide) (Nat.le_refl _) (Nat.le_refl _) dX11_readAllOf_8
def f_X11_readCond_9 (N : Nat) (kA : Mm → Option (Int32 × Mm)) : Nat → Mm → Option (Int32 × Mm)
  | 0, _ => none
  | n + 1, M => bnd (f_X11_passes N 1000032 M) (fun r5 M6 => (if r5 = (0 : Int32) then some ((1 : Int32), M6) else bnd (f_X11_readAllOf N kA M6) (fun r9 M10 => (if r9 = (0 : Int32) then some ((0 : Int32), M10) else bnd (f_X11_emits N (14 : Int32) (0 : Int32) M10) (fun r13 M14 => f_X11_readCond_9 N kA n M14)))))
def f_X11_readCond (N : Nat) (kA : Mm → Option (Int32 × Mm)) (M : Mm) : Option (Int32 × Mm) :=
  bnd (f_X11_readAllOf N kA M) (fun r1 M2 => (if r1 = (0 : Int32) then some ((0 : Int32), M2) else f_X11_readCond_9 N kA N M2))
set_option maxRecDepth 20000 in
set_option maxHeartbeats 4000000 in
theorem ok_X11_readCond_9 {N : Nat} {X : am_X} {l : Launch} {D : Nat} {kA : Mm → Option (Int32 × Mm)} (hC : am_C X l (am_rm (D + 2) 0 0) cX11_readCond yX11_readCond.cls (some .boolean)) (hnt : am_NT X) (hA : ∀ (M : Mm) (r : Int32) (M' : Mm), kA  M = some (r, M') → am_M l yX11_readAtom cX11_readAtom 2 (some .boolean) D 0 0 LY M [.ref 208] (.inl (some (.int r))) M') (hD : 8 ≤ D) : ∀ (n : Nat) (M : Mm) (r : Int32) (M' : Mm), f_X11_readCond_9 N kA n  M = some (r, M') → am_V X LY M 0 0 (am_Q X LY 0 0 (.inl (some (.int r))) M') 9 [some (.ref 208)] [] := by
  intro n
  induction n with
  | zero => intro  M r M' h; cases h
  | succ n ih =>
    intro  M r M' h
    simp only [f_X11_readCond_9] at h
    refine v_aload_n hC dX11_readCond_9 rfl ?_
    refine w_ldcS (tx := "or") (i9 := 32) hC st_32 dX11_readCond_10 ?_
    obtain ⟨r5, M6, q7, h⟩ := bnd_some h
    refine w_callVi hC [.ref 1000032] [] (ok_X11_passes q7) mv_X11_passes aw_1388 ly_208 rfl (Nat.le_of_ble_eq_true rfl) ⟨by simp only [am_rm]; omega, by simp only [am_rm]; omega⟩ ⟨Nat.le_refl _, Nat.le_refl _⟩ dX11_readCond_12 ?_
    refine v_if_eq hC 37 dX11_readCond_15 rfl (fun c8 => ?_) (fun c8 => ?_)
    · rw [if_pos c8] at h
      refine v_iconst (v := (1 : Int32)) hC dX11_readCond_37 rfl ?_
      cases h
      exact v_zret hC (by decide) (Nat.le_refl _) (Nat.le_refl _) dX11_readCond_38
    · rw [if_neg c8] at h
      refine v_aload_n hC dX11_readCond_18 rfl ?_
      obtain ⟨r9, M10, q11, h⟩ := bnd_some h
      refine w_callVi hC [] [] (ok_X11_readAllOf hA hD q11) mv_X11_readAllOf aw_1437 ly_208 rfl (Nat.le_of_ble_eq_true rfl) ⟨by simp only [am_rm]; omega, by simp only [am_rm]; omega⟩ ⟨Nat.le_refl _, Nat.le_refl _⟩ dX11_readCond_19 ?_
      refine v_if_ne hC 27 dX11_readCond_22 rfl (fun c12 => ?_) (fun c12 => ?_)
      · rw [if_neg c12] at h
        refine v_aload_n hC dX11_readCond_27 rfl ?_
        refine v_bipush (v := (14 : Int32)) hC dX11_readCond_28 rfl ?_
        refine v_iconst (v := (0 : Int32)) hC dX11_readCond_30 rfl ?_
        obtain ⟨r13, M14, q15, h⟩ := bnd_some h
        refine w_callVv hC [.int (14 : Int32), .int (0 : Int32)] [] (ok_X11_emits q15) mv_X11_emits aw_1450 ly_208 rfl (Nat.le_of_ble_eq_true rfl) ⟨by simp only [am_rm]; omega, by simp only [am_rm]; omega⟩ ⟨Nat.le_refl _, Nat.le_refl _⟩ dX11_readCond_31 ?_
        refine v_goto (tg := 9) hC dX11_readCond_34 rfl ?_
        exact ih _ _ _ h
      · rw [if_pos c12] at h
        refine v_iconst (v := (0 : Int32)) hC dX11_readCond_25 rfl ?_
        cases h
        exact v_zret hC (by decide) (Nat.le_refl _) (Nat.le_refl _) dX11_readCond_26
set_option maxRecDepth 20000 in
set_option maxHeartbeats 4000000 in
theorem ok_X11_readCond {l : Launch} {N : Nat} {M : Mm} {r : Int32} {M' : Mm} {D : Nat} {kA : Mm → Option (Int32 × Mm)} (hA : ∀ (M : Mm) (r : Int32) (M' : Mm), kA  M = some (r, M') → am_M l yX11_readAtom cX11_readAtom 2 (some .boolean) D 0 0 LY M [.ref 208] (.inl (some (.int r))) M') (hD : 8 ≤ D) (h : f_X11_readCond N kA M = some (r, M')) : am_M l yX11_readCond cX11_readCond 1 (some .boolean) (D + 2) 0 0 LY M [.ref 208] (.inl (some (.int r))) M' := by
  unfold f_X11_readCond at h
  refine am_intro (by decide) (by simp [Value.category]) (Nat.le_of_ble_eq_true rfl) (fun X hC hnt => ?_)
  refine am_start (L := [some (.ref 208)]) rfl ?_
  refine v_aload_n hC dX11_readCond_0 rfl ?_
  obtain ⟨r1, M2, q3, h⟩ := bnd_some h
  refine w_callVi hC [] [] (ok_X11_readAllOf hA hD q3) mv_X11_readAllOf aw_1437 ly_208 rfl (Nat.le_of_ble_eq_true rfl) ⟨by simp only [am_rm]; omega, by simp only [am_rm]; omega⟩ ⟨Nat.le_refl _, Nat.le_refl _⟩ dX11_readCond_1 ?_
  refine v_if_ne hC 9 dX11_readCond_4 rfl (fun c4 => ?_) (fun c4 => ?_)
  · rw [if_neg c4] at h
    exact ok_X11_readCond_9 hC hnt hA hD N _ _ _ h
  · rw [if_pos c4] at h
    refine v_iconst (v := (0 : Int32)) hC dX11_readCond_7 rfl ?_
    cases h
    exact v_zret hC (by decide) (Nat.le_refl _) (Nat.le_refl _) dX11_readCond_8
def f_X11_readAtom_b_173 (N : Nat) (kA : Mm → Option (Int32 × Mm)) (s1 : Int32) (M : Mm) : Option (Int32 × Mm) :=
  bnd (f_X11_emits N s1 (0 : Int32) M) (fun r26 M27 => some ((1 : Int32), M27))
def f_X11_readAtom_b_152 (N : Nat) (kA : Mm → Option (Int32 × Mm)) (v1 : Int32) (M : Mm) : Option (Int32 × Mm) :=
  bnd (f_X11_readSum N M) (fun r21 M22 => (if r21 = (0 : Int32) then some ((0 : Int32), M22) else (if v1 = (0 : Int32) then f_X11_readAtom_b_173 N kA (11 : Int32) M22 else f_X11_readAtom_b_173 N kA (10 : Int32) M22)))
def f_X11_readAtom_b (N : Nat) (kA : Mm → Option (Int32 × Mm)) (M : Mm) : Option (Int32 × Mm) :=
  bnd (f_X11_sign N (40 : Int32) M) (fun r1 M2 => (if r1 = (0 : Int32) then bnd (f_X11_passes N 1000028 M2) (fun r5 M6 => (if r5 = (0 : Int32) then bnd (f_X11_readTag N M6) (fun r9 M10 => (if r9 = (0 : Int32) then bnd (f_X11_readSum N M10) (fun r13 M14 => (if r13 = (0 : Int32) then some ((0 : Int32), M14) else bnd (f_X11_sign N (60 : Int32) M14) (fun r17 M18 => (if r17 = (0 : Int32) then bnd (f_X11_sign N (62 : Int32) M18) (fun r29 M30 => (if r29 = (0 : Int32) then some ((0 : Int32), M30) else f_X11_readAtom_b_152 N kA r17 M30)) else f_X11_readAtom_b_152 N kA r17 M18)))) else some ((1 : Int32), M10))) else (if (M6 208 13) = (6 : Int32) then some ((0 : Int32), M6) else lt (wr M6 208 13 ((M6 208 13) + (1 : Int32))) (fun M34 => bnd (kA M34) (fun r35 M36 => (if r35 = (0 : Int32) then some ((0 : Int32), M36) else lt (wr M36 208 13 ((M36 208 13) - (1 : Int32))) (fun M39 => bnd (f_X11_emits N (12 : Int32) (0 : Int32) M39) (fun r40 M41 => some ((1 : Int32), M41))))))))) else (if (M2 208 13) = (6 : Int32) then some ((0 : Int32), M2) else lt (wr M2 208 13 ((M2 208 13) + (1 : Int32))) (fun M44 => bnd (f_X11_readCond N kA M44) (fun r45 M46 => (if r45 = (0 : Int32) then some ((0 : Int32), M46) else lt (wr M46 208 13 ((M46 208 13) - (1 : Int32))) (fun M49 => bnd (f_X11_sign N (41 : Int32) M49) (fun r50 M51 => grd (isb r50) (some (r50, M51))))))))))
set_option maxRecDepth 20000 in
set_option maxHeartbeats 4000000 in
theorem ok_X11_readAtom_b_173 {N : Nat} {X : am_X} {l : Launch} {D : Nat} {kA : Mm → Option (Int32 × Mm)} (hC : am_C X l (am_rm (D + 3) 0 0) cX11_readAtom yX11_readAtom.cls (some .boolean)) (hnt : am_NT X) (hA : ∀ (M : Mm) (r : Int32) (M' : Mm), kA  M = some (r, M') → am_M l yX11_readAtom cX11_readAtom 2 (some .boolean) D 0 0 LY M [.ref 208] (.inl (some (.int r))) M') (hD : 8 ≤ D) {s1 : Int32} {M : Mm} {r : Int32} {M' : Mm} (h : f_X11_readAtom_b_173 N kA s1 M = some (r, M')) : am_V X LY M 0 0 (am_Q X LY 0 0 (.inl (some (.int r))) M') 173 [none, none] [.int s1, .ref 208] := by
  unfold f_X11_readAtom_b_173 at h
  refine v_iconst (v := (0 : Int32)) hC dX11_readAtom_173 rfl ?_
  obtain ⟨r26, M27, q28, h⟩ := bnd_some h
  refine w_callVv hC [.int s1, .int (0 : Int32)] [] (ok_X11_emits q28) mv_X11_emits aw_1450 ly_208 rfl (Nat.le_of_ble_eq_true rfl) ⟨by simp only [am_rm]; omega, by simp only [am_rm]; omega⟩ ⟨Nat.le_refl _, Nat.le_refl _⟩ dX11_readAtom_174 ?_
  refine v_iconst (v := (1 : Int32)) hC dX11_readAtom_177 rfl ?_
  cases h
  exact v_zret hC (by decide) (Nat.le_refl _) (Nat.le_refl _) dX11_readAtom_178
set_option maxRecDepth 20000 in
set_option maxHeartbeats 4000000 in
theorem ok_X11_readAtom_b_152 {N : Nat} {X : am_X} {l : Launch} {D : Nat} {kA : Mm → Option (Int32 × Mm)} (hC : am_C X l (am_rm (D + 3) 0 0) cX11_readAtom yX11_readAtom.cls (some .boolean)) (hnt : am_NT X) (hA : ∀ (M : Mm) (r : Int32) (M' : Mm), kA  M = some (r, M') → am_M l yX11_readAtom cX11_readAtom 2 (some .boolean) D 0 0 LY M [.ref 208] (.inl (some (.int r))) M') (hD : 8 ≤ D) {v1 : Int32} {M : Mm} {r : Int32} {M' : Mm} (h : f_X11_readAtom_b_152 N kA v1 M = some (r, M')) : am_V X LY M 0 0 (am_Q X LY 0 0 (.inl (some (.int r))) M') 152 [some (.ref 208), some (.int v1)] [] := by
  unfold f_X11_readAtom_b_152 at h
  refine v_aload_n hC dX11_readAtom_152 rfl ?_
  obtain ⟨r21, M22, q23, h⟩ := bnd_some h
  refine w_callVi hC [] [] (ok_X11_readSum q23) mv_X11_readSum aw_1459 ly_208 rfl (Nat.le_of_ble_eq_true rfl) ⟨by simp only [am_rm]; omega, by simp only [am_rm]; omega⟩ ⟨Nat.le_refl _, Nat.le_refl _⟩ dX11_readAtom_153 ?_
  refine v_if_ne hC 161 dX11_readAtom_156 rfl (fun c24 => ?_) (fun c24 => ?_)
  · rw [if_neg c24] at h
    refine v_aload_n hC dX11_readAtom_161 rfl ?_
    refine v_iload_n hC dX11_readAtom_162 rfl ?_
    refine v_if_eq hC 171 dX11_readAtom_163 rfl (fun c25 => ?_) (fun c25 => ?_)
    · rw [if_pos c25] at h
      refine v_bipush (v := (11 : Int32)) hC dX11_readAtom_171 rfl ?_
      refine v_drop [false, false] [none, none] rfl ?_
      exact ok_X11_readAtom_b_173 hC hnt hA hD h
    · rw [if_neg c25] at h
      refine v_bipush (v := (10 : Int32)) hC dX11_readAtom_166 rfl ?_
      refine v_goto (tg := 173) hC dX11_readAtom_168 rfl ?_
      refine v_drop [false, false] [none, none] rfl ?_
      exact ok_X11_readAtom_b_173 hC hnt hA hD h
  · rw [if_pos c24] at h
    refine v_iconst (v := (0 : Int32)) hC dX11_readAtom_159 rfl ?_
    cases h
    exact v_zret hC (by decide) (Nat.le_refl _) (Nat.le_refl _) dX11_readAtom_160
set_option maxRecDepth 20000 in
set_option maxHeartbeats 4000000 in
theorem ok_X11_readAtom_b {l : Launch} {N : Nat} {M : Mm} {r : Int32} {M' : Mm} {D : Nat} {kA : Mm → Option (Int32 × Mm)} (hA : ∀ (M : Mm) (r : Int32) (M' : Mm), kA  M = some (r, M') → am_M l yX11_readAtom cX11_readAtom 2 (some .boolean) D 0 0 LY M [.ref 208] (.inl (some (.int r))) M') (hD : 8 ≤ D) (h : f_X11_readAtom_b N kA M = some (r, M')) : am_M l yX11_readAtom cX11_readAtom 2 (some .boolean) (D + 3) 0 0 LY M [.ref 208] (.inl (some (.int r))) M' := by
  unfold f_X11_readAtom_b at h
  refine am_intro (by decide) (by simp [Value.category]) (Nat.le_of_ble_eq_true rfl) (fun X hC hnt => ?_)
  refine am_start (L := [some (.ref 208), none]) rfl ?_
  refine v_aload_n hC dX11_readAtom_0 rfl ?_
  refine v_bipush (v := (40 : Int32)) hC dX11_readAtom_1 rfl ?_
  obtain ⟨r1, M2, q3, h⟩ := bnd_some h
  refine w_callVi hC [.int (40 : Int32)] [] (ok_X11_sign q3) mv_X11_sign aw_1445 ly_208 rfl (Nat.le_of_ble_eq_true rfl) ⟨by simp only [am_rm]; omega, by simp only [am_rm]; omega⟩ ⟨Nat.le_refl _, Nat.le_refl _⟩ dX11_readAtom_3 ?_
  refine v_if_eq hC 56 dX11_readAtom_6 rfl (fun c4 => ?_) (fun c4 => ?_)
  · rw [if_pos c4] at h
    refine v_aload_n hC dX11_readAtom_56 rfl ?_
    refine w_ldcS (tx := "not") (i9 := 28) hC st_28 dX11_readAtom_57 ?_
    obtain ⟨r5, M6, q7, h⟩ := bnd_some h
    refine w_callVi hC [.ref 1000028] [] (ok_X11_passes q7) mv_X11_passes aw_1388 ly_208 rfl (Nat.le_of_ble_eq_true rfl) ⟨by simp only [am_rm]; omega, by simp only [am_rm]; omega⟩ ⟨Nat.le_refl _, Nat.le_refl _⟩ dX11_readAtom_59 ?_
    refine v_if_eq hC 114 dX11_readAtom_62 rfl (fun c8 => ?_) (fun c8 => ?_)
    · rw [if_pos c8] at h
      refine v_aload_n hC dX11_readAtom_114 rfl ?_
      obtain ⟨r9, M10, q11, h⟩ := bnd_some h
      refine w_callVi hC [] [] (ok_X11_readTag q11) mv_X11_readTag aw_1454 ly_208 rfl (Nat.le_of_ble_eq_true rfl) ⟨by simp only [am_rm]; omega, by simp only [am_rm]; omega⟩ ⟨Nat.le_refl _, Nat.le_refl _⟩ dX11_readAtom_115 ?_
      refine v_if_eq hC 123 dX11_readAtom_118 rfl (fun c12 => ?_) (fun c12 => ?_)
      · rw [if_pos c12] at h
        refine v_aload_n hC dX11_readAtom_123 rfl ?_
        obtain ⟨r13, M14, q15, h⟩ := bnd_some h
        refine w_callVi hC [] [] (ok_X11_readSum q15) mv_X11_readSum aw_1459 ly_208 rfl (Nat.le_of_ble_eq_true rfl) ⟨by simp only [am_rm]; omega, by simp only [am_rm]; omega⟩ ⟨Nat.le_refl _, Nat.le_refl _⟩ dX11_readAtom_124 ?_
        refine v_if_ne hC 132 dX11_readAtom_127 rfl (fun c16 => ?_) (fun c16 => ?_)
        · rw [if_neg c16] at h
          refine v_aload_n hC dX11_readAtom_132 rfl ?_
          refine v_bipush (v := (60 : Int32)) hC dX11_readAtom_133 rfl ?_
          obtain ⟨r17, M18, q19, h⟩ := bnd_some h
          refine w_callVi hC [.int (60 : Int32)] [] (ok_X11_sign q19) mv_X11_sign aw_1445 ly_208 rfl (Nat.le_of_ble_eq_true rfl) ⟨by simp only [am_rm]; omega, by simp only [am_rm]; omega⟩ ⟨Nat.le_refl _, Nat.le_refl _⟩ dX11_readAtom_135 ?_
          refine w_istore_n hC dX11_readAtom_138 (ltk rfl) [some (.ref 208), some (.int r17)] rfl ?_
          refine v_iload_n hC dX11_readAtom_139 rfl ?_
          refine v_if_ne hC 152 dX11_readAtom_140 rfl (fun c20 => ?_) (fun c20 => ?_)
          · rw [if_neg c20] at h
            exact ok_X11_readAtom_b_152 hC hnt hA hD h
          · rw [if_pos c20] at h
            refine v_aload_n hC dX11_readAtom_143 rfl ?_
            refine v_bipush (v := (62 : Int32)) hC dX11_readAtom_144 rfl ?_
            obtain ⟨r29, M30, q31, h⟩ := bnd_some h
            refine w_callVi hC [.int (62 : Int32)] [] (ok_X11_sign q31) mv_X11_sign aw_1445 ly_208 rfl (Nat.le_of_ble_eq_true rfl) ⟨by simp only [am_rm]; omega, by simp only [am_rm]; omega⟩ ⟨Nat.le_refl _, Nat.le_refl _⟩ dX11_readAtom_146 ?_
            refine v_if_eq hC 159 dX11_readAtom_149 rfl (fun c32 => ?_) (fun c32 => ?_)
            · rw [if_pos c32] at h
              refine v_iconst (v := (0 : Int32)) hC dX11_readAtom_159 rfl ?_
              cases h
              exact v_zret hC (by decide) (Nat.le_refl _) (Nat.le_refl _) dX11_readAtom_160
            · rw [if_neg c32] at h
              exact ok_X11_readAtom_b_152 hC hnt hA hD h
        · rw [if_pos c16] at h
          refine v_iconst (v := (0 : Int32)) hC dX11_readAtom_130 rfl ?_
          cases h
          exact v_zret hC (by decide) (Nat.le_refl _) (Nat.le_refl _) dX11_readAtom_131
      · rw [if_neg c12] at h
        refine v_iconst (v := (1 : Int32)) hC dX11_readAtom_121 rfl ?_
        cases h
        exact v_zret hC (by decide) (Nat.le_refl _) (Nat.le_refl _) dX11_readAtom_122
    · rw [if_neg c8] at h
      refine v_aload_n hC dX11_readAtom_65 rfl ?_
      refine v_geti (k := 13) hC cls_X11 ly_208 (by decide) rfl aw_1244 rfl dX11_readAtom_66 ?_
      refine v_bipush (v := (6 : Int32)) hC dX11_readAtom_69 rfl ?_
      refine v_icmp_ne hC 76 dX11_readAtom_71 rfl (fun c33 => ?_) (fun c33 => ?_)
      · rw [if_neg c33] at h
        refine v_aload_n hC dX11_readAtom_76 rfl ?_
        refine v_dup hC dX11_readAtom_77 rfl ?_
        refine v_geti (k := 13) hC cls_X11 ly_208 (by decide) rfl aw_1244 rfl dX11_readAtom_78 ?_
        refine v_iconst (v := (1 : Int32)) hC dX11_readAtom_81 rfl ?_
        refine v_iadd hC dX11_readAtom_82 ?_
        obtain ⟨M34, e_M34, h⟩ := lt_some h
        refine w_puti (k := 13) hC cls_X11 ly_208 (by decide) rfl aw_1244 rfl rfl ⟨rfl, rfl⟩ dX11_readAtom_83 e_M34 ?_
        refine v_aload_n hC dX11_readAtom_86 rfl ?_
        obtain ⟨r35, M36, q37, h⟩ := bnd_some h
        refine w_callVi hC [] [] (hA _ _ _ q37) mv_X11_readAtom aw_1441 ly_208 rfl (Nat.le_of_ble_eq_true rfl) ⟨by simp only [am_rm]; omega, by simp only [am_rm]; omega⟩ ⟨Nat.le_refl _, Nat.le_refl _⟩ dX11_readAtom_87 ?_
        refine v_if_ne hC 95 dX11_readAtom_90 rfl (fun c38 => ?_) (fun c38 => ?_)
        · rw [if_neg c38] at h
          refine v_aload_n hC dX11_readAtom_95 rfl ?_
          refine v_dup hC dX11_readAtom_96 rfl ?_
          refine v_geti (k := 13) hC cls_X11 ly_208 (by decide) rfl aw_1244 rfl dX11_readAtom_97 ?_
          refine v_iconst (v := (1 : Int32)) hC dX11_readAtom_100 rfl ?_
          refine v_isub hC dX11_readAtom_101 ?_
          obtain ⟨M39, e_M39, h⟩ := lt_some h
          refine w_puti (k := 13) hC cls_X11 ly_208 (by decide) rfl aw_1244 rfl rfl ⟨rfl, rfl⟩ dX11_readAtom_102 e_M39 ?_
          refine v_aload_n hC dX11_readAtom_105 rfl ?_
          refine v_bipush (v := (12 : Int32)) hC dX11_readAtom_106 rfl ?_
          refine v_iconst (v := (0 : Int32)) hC dX11_readAtom_108 rfl ?_
          obtain ⟨r40, M41, q42, h⟩ := bnd_some h
          refine w_callVv hC [.int (12 : Int32), .int (0 : Int32)] [] (ok_X11_emits q42) mv_X11_emits aw_1450 ly_208 rfl (Nat.le_of_ble_eq_true rfl) ⟨by simp only [am_rm]; omega, by simp only [am_rm]; omega⟩ ⟨Nat.le_refl _, Nat.le_refl _⟩ dX11_readAtom_109 ?_
          refine v_iconst (v := (1 : Int32)) hC dX11_readAtom_112 rfl ?_
          cases h
          exact v_zret hC (by decide) (Nat.le_refl _) (Nat.le_refl _) dX11_readAtom_113
        · rw [if_pos c38] at h
          refine v_iconst (v := (0 : Int32)) hC dX11_readAtom_93 rfl ?_
          cases h
          exact v_zret hC (by decide) (Nat.le_refl _) (Nat.le_refl _) dX11_readAtom_94
      · rw [if_pos c33] at h
        refine v_iconst (v := (0 : Int32)) hC dX11_readAtom_74 rfl ?_
        cases h
        exact v_zret hC (by decide) (Nat.le_refl _) (Nat.le_refl _) dX11_readAtom_75
  · rw [if_neg c4] at h
    refine v_aload_n hC dX11_readAtom_9 rfl ?_
    refine v_geti (k := 13) hC cls_X11 ly_208 (by decide) rfl aw_1244 rfl dX11_readAtom_10 ?_
    refine v_bipush (v := (6 : Int32)) hC dX11_readAtom_13 rfl ?_
    refine v_icmp_ne hC 20 dX11_readAtom_15 rfl (fun c43 => ?_) (fun c43 => ?_)
    · rw [if_neg c43] at h
      refine v_aload_n hC dX11_readAtom_20 rfl ?_
      refine v_dup hC dX11_readAtom_21 rfl ?_
      refine v_geti (k := 13) hC cls_X11 ly_208 (by decide) rfl aw_1244 rfl dX11_readAtom_22 ?_
      refine v_iconst (v := (1 : Int32)) hC dX11_readAtom_25 rfl ?_
      refine v_iadd hC dX11_readAtom_26 ?_
      obtain ⟨M44, e_M44, h⟩ := lt_some h
      refine w_puti (k := 13) hC cls_X11 ly_208 (by decide) rfl aw_1244 rfl rfl ⟨rfl, rfl⟩ dX11_readAtom_27 e_M44 ?_
      refine v_aload_n hC dX11_readAtom_30 rfl ?_
      obtain ⟨r45, M46, q47, h⟩ := bnd_some h
      refine w_callVi hC [] [] (ok_X11_readCond hA hD q47) mv_X11_readCond aw_1433 ly_208 rfl (Nat.le_of_ble_eq_true rfl) ⟨by simp only [am_rm]; omega, by simp only [am_rm]; omega⟩ ⟨Nat.le_refl _, Nat.le_refl _⟩ dX11_readAtom_31 ?_
      refine v_if_ne hC 39 dX11_readAtom_34 rfl (fun c48 => ?_) (fun c48 => ?_)
      · rw [if_neg c48] at h
        refine v_aload_n hC dX11_readAtom_39 rfl ?_
        refine v_dup hC dX11_readAtom_40 rfl ?_
        refine v_geti (k := 13) hC cls_X11 ly_208 (by decide) rfl aw_1244 rfl dX11_readAtom_41 ?_
        refine v_iconst (v := (1 : Int32)) hC dX11_readAtom_44 rfl ?_
        refine v_isub hC dX11_readAtom_45 ?_
        obtain ⟨M49, e_M49, h⟩ := lt_some h
        refine w_puti (k := 13) hC cls_X11 ly_208 (by decide) rfl aw_1244 rfl rfl ⟨rfl, rfl⟩ dX11_readAtom_46 e_M49 ?_
        refine v_aload_n hC dX11_readAtom_49 rfl ?_
        refine v_bipush (v := (41 : Int32)) hC dX11_readAtom_50 rfl ?_
        obtain ⟨r50, M51, q52, h⟩ := bnd_some h
        refine w_callVi hC [.int (41 : Int32)] [] (ok_X11_sign q52) mv_X11_sign aw_1445 ly_208 rfl (Nat.le_of_ble_eq_true rfl) ⟨by simp only [am_rm]; omega, by simp only [am_rm]; omega⟩ ⟨Nat.le_refl _, Nat.le_refl _⟩ dX11_readAtom_52 ?_
        obtain ⟨g53, h⟩ := grd_some h
        cases h
        exact v_zret hC (isb_nar g53).1 (Nat.le_refl _) (Nat.le_refl _) dX11_readAtom_55
      · rw [if_pos c48] at h
        refine v_iconst (v := (0 : Int32)) hC dX11_readAtom_37 rfl ?_
        cases h
        exact v_zret hC (by decide) (Nat.le_refl _) (Nat.le_refl _) dX11_readAtom_38
    · rw [if_pos c43] at h
      refine v_iconst (v := (0 : Int32)) hC dX11_readAtom_18 rfl ?_
      cases h
      exact v_zret hC (by decide) (Nat.le_refl _) (Nat.le_refl _) dX11_readAtom_19
def f_X11_readAtom (N : Nat) : Nat → Mm → Option (Int32 × Mm)
  | 0, _ => none
  | n + 1, M => f_X11_readAtom_b N (f_X11_readAtom N n) M
theorem ok_X11_readAtom {l : Launch} {N : Nat} : ∀ (n : Nat) (M : Mm) (r : Int32) (M' : Mm), f_X11_readAtom N n M = some (r, M') → am_M l yX11_readAtom cX11_readAtom 2 (some .boolean) (8 + 3 * n) 0 0 LY M [.ref 208] (.inl (some (.int r))) M' := by
  intro n
  induction n with
  | zero => intro M r M' h; cases h
  | succ n ih =>
    intro M r M' h
    exact ok_X11_readAtom_b (D := 8 + 3 * n) (fun M r M' h => ih M r M' h) (by omega) h
def f_X11_readLawLine_128 (N : Nat) (v2 : Int32) (M : Mm) : Option (Int32 × Mm) :=
  grd (inb (v2 + (3 : Int32)) 2107) (lt (wr M 209 ((v2 + (3 : Int32))).toNatClampNeg (M 208 16)) (fun M33 => some ((1 : Int32), M33)))
def f_X11_readLawLine_53 (N : Nat) (v2 : Int32) (s1 : Int32) (s2 : Int32) (M : Mm) : Option (Int32 × Mm) :=
  grd (inb s1 2107) (lt (wr M 209 (s1).toNatClampNeg s2) (fun M15 => grd (inb v2 2107) ((if (0 : Int32) ≤ (M15 209 (v2).toNatClampNeg) then bnd (f_X11_number N (0 : Int32) (30 : Int32) M15) (fun r18 M19 => grd (inb (v2 + (1 : Int32)) 2107) (lt (wr M19 209 ((v2 + (1 : Int32))).toNatClampNeg r18) (fun M22 => grd (inb (v2 + (1 : Int32)) 2107) ((if (0 : Int32) ≤ (M22 209 ((v2 + (1 : Int32))).toNatClampNeg) then grd (inb (v2 + (2 : Int32)) 2107) (lt (wr M22 209 ((v2 + (2 : Int32))).toNatClampNeg (M22 208 16)) (fun M26 => lt (wr M26 208 13 (0 : Int32)) (fun M27 => bnd (f_X11_passes N 1000027 M27) (fun r28 M29 => (if r28 = (0 : Int32) then f_X11_readLawLine_128 N v2 M29 else bnd (f_X11_readCond N (f_X11_readAtom N 20) M29) (fun r34 M35 => (if r34 = (0 : Int32) then some ((0 : Int32), M35) else f_X11_readLawLine_128 N v2 M35))))))) else some ((0 : Int32), M22)))))) else some ((0 : Int32), M15)))))
def f_X11_readLawLine (N : Nat) (v1 : Int32) (M : Mm) : Option (Int32 × Mm) :=
  lt ((1259 : Int32) + ((4 : Int32) * v1)) (fun x1 => bnd (f_X11_isWord N 1000025 M) (fun r2 M3 => (if r2 = (0 : Int32) then bnd (f_X11_isWord N 1000026 M3) (fun r6 M7 => (if r6 = (0 : Int32) then bnd (f_X11_isWord N 1000018 M7) (fun r10 M11 => (if r10 = (0 : Int32) then f_X11_readLawLine_53 N x1 x1 (-1 : Int32) M11 else f_X11_readLawLine_53 N x1 x1 (2 : Int32) M11)) else f_X11_readLawLine_53 N x1 x1 (1 : Int32) M7)) else f_X11_readLawLine_53 N x1 x1 (0 : Int32) M3)))
set_option maxRecDepth 20000 in
set_option maxHeartbeats 4000000 in
theorem ok_X11_readLawLine_128 {N : Nat} {X : am_X} {l : Launch} (hC : am_C X l (am_rm 71 0 0) cX11_readLawLine yX11_readLawLine.cls (some .boolean)) (hnt : am_NT X) {v2 : Int32} {M : Mm} {r : Int32} {M' : Mm} (h : f_X11_readLawLine_128 N v2 M = some (r, M')) : am_V X LY M 0 0 (am_Q X LY 0 0 (.inl (some (.int r))) M') 128 [some (.ref 208), none, some (.int v2)] [] := by
  unfold f_X11_readLawLine_128 at h
  refine v_aload_n hC dX11_readLawLine_128 rfl ?_
  refine v_geta (k := 1) (b := 209) hC cls_X11 ly_208 (by decide) rfl aw_1232 rfl dX11_readLawLine_129 ?_
  refine v_iload_n hC dX11_readLawLine_132 rfl ?_
  refine v_iconst (v := (3 : Int32)) hC dX11_readLawLine_133 rfl ?_
  refine v_iadd hC dX11_readLawLine_134 ?_
  refine v_aload_n hC dX11_readLawLine_135 rfl ?_
  refine v_geti (k := 16) hC cls_X11 ly_208 (by decide) rfl aw_1247 rfl dX11_readLawLine_136 ?_
  obtain ⟨g32, h⟩ := grd_some h
  obtain ⟨M33, e_M33, h⟩ := lt_some h
  refine w_iast hC ly_209 (inb_in g32) dX11_readLawLine_139 e_M33 ?_
  refine v_iconst (v := (1 : Int32)) hC dX11_readLawLine_140 rfl ?_
  cases h
  exact v_zret hC (by decide) (by decide) (by decide) dX11_readLawLine_141
set_option maxRecDepth 20000 in
set_option maxHeartbeats 4000000 in
theorem ok_X11_readLawLine_53 {N : Nat} {X : am_X} {l : Launch} (hC : am_C X l (am_rm 71 0 0) cX11_readLawLine yX11_readLawLine.cls (some .boolean)) (hnt : am_NT X) {v2 s1 s2 : Int32} {M : Mm} {r : Int32} {M' : Mm} (h : f_X11_readLawLine_53 N v2 s1 s2 M = some (r, M')) : am_V X LY M 0 0 (am_Q X LY 0 0 (.inl (some (.int r))) M') 53 [some (.ref 208), none, some (.int v2)] [.int s2, .int s1, .ref 209] := by
  unfold f_X11_readLawLine_53 at h
  obtain ⟨g14, h⟩ := grd_some h
  obtain ⟨M15, e_M15, h⟩ := lt_some h
  refine w_iast hC ly_209 (inb_in g14) dX11_readLawLine_53 e_M15 ?_
  refine v_aload_n hC dX11_readLawLine_54 rfl ?_
  refine v_geta (k := 1) (b := 209) hC cls_X11 ly_208 (by decide) rfl aw_1232 rfl dX11_readLawLine_55 ?_
  refine v_iload_n hC dX11_readLawLine_58 rfl ?_
  obtain ⟨g16, h⟩ := grd_some h
  refine v_iald hC ly_209 (inb_in g16) dX11_readLawLine_59 ?_
  refine v_if_ge hC 65 dX11_readLawLine_60 rfl (fun c17 => ?_) (fun c17 => ?_)
  · rw [if_pos c17] at h
    refine v_aload_n hC dX11_readLawLine_65 rfl ?_
    refine v_geta (k := 1) (b := 209) hC cls_X11 ly_208 (by decide) rfl aw_1232 rfl dX11_readLawLine_66 ?_
    refine v_iload_n hC dX11_readLawLine_69 rfl ?_
    refine v_iconst (v := (1 : Int32)) hC dX11_readLawLine_70 rfl ?_
    refine v_iadd hC dX11_readLawLine_71 ?_
    refine v_aload_n hC dX11_readLawLine_72 rfl ?_
    refine v_iconst (v := (0 : Int32)) hC dX11_readLawLine_73 rfl ?_
    refine v_bipush (v := (30 : Int32)) hC dX11_readLawLine_74 rfl ?_
    obtain ⟨r18, M19, q20, h⟩ := bnd_some h
    refine w_callVi hC [.int (0 : Int32), .int (30 : Int32)] [.int (v2 + (1 : Int32)), .ref 209] (ok_X11_number q20) mv_X11_number aw_1371 ly_208 rfl (Nat.le_of_ble_eq_true rfl) ⟨by decide, by decide⟩ ⟨by decide, by decide⟩ dX11_readLawLine_76 ?_
    obtain ⟨g21, h⟩ := grd_some h
    obtain ⟨M22, e_M22, h⟩ := lt_some h
    refine w_iast hC ly_209 (inb_in g21) dX11_readLawLine_79 e_M22 ?_
    refine v_aload_n hC dX11_readLawLine_80 rfl ?_
    refine v_geta (k := 1) (b := 209) hC cls_X11 ly_208 (by decide) rfl aw_1232 rfl dX11_readLawLine_81 ?_
    refine v_iload_n hC dX11_readLawLine_84 rfl ?_
    refine v_iconst (v := (1 : Int32)) hC dX11_readLawLine_85 rfl ?_
    refine v_iadd hC dX11_readLawLine_86 ?_
    obtain ⟨g23, h⟩ := grd_some h
    refine v_iald hC ly_209 (inb_in g23) dX11_readLawLine_87 ?_
    refine v_if_ge hC 93 dX11_readLawLine_88 rfl (fun c24 => ?_) (fun c24 => ?_)
    · rw [if_pos c24] at h
      refine v_aload_n hC dX11_readLawLine_93 rfl ?_
      refine v_geta (k := 1) (b := 209) hC cls_X11 ly_208 (by decide) rfl aw_1232 rfl dX11_readLawLine_94 ?_
      refine v_iload_n hC dX11_readLawLine_97 rfl ?_
      refine v_iconst (v := (2 : Int32)) hC dX11_readLawLine_98 rfl ?_
      refine v_iadd hC dX11_readLawLine_99 ?_
      refine v_aload_n hC dX11_readLawLine_100 rfl ?_
      refine v_geti (k := 16) hC cls_X11 ly_208 (by decide) rfl aw_1247 rfl dX11_readLawLine_101 ?_
      obtain ⟨g25, h⟩ := grd_some h
      obtain ⟨M26, e_M26, h⟩ := lt_some h
      refine w_iast hC ly_209 (inb_in g25) dX11_readLawLine_104 e_M26 ?_
      refine v_aload_n hC dX11_readLawLine_105 rfl ?_
      refine v_iconst (v := (0 : Int32)) hC dX11_readLawLine_106 rfl ?_
      obtain ⟨M27, e_M27, h⟩ := lt_some h
      refine w_puti (k := 13) hC cls_X11 ly_208 (by decide) rfl aw_1244 rfl rfl ⟨rfl, rfl⟩ dX11_readLawLine_107 e_M27 ?_
      refine v_aload_n hC dX11_readLawLine_110 rfl ?_
      refine w_ldcS (tx := "if") (i9 := 27) hC st_27 dX11_readLawLine_111 ?_
      obtain ⟨r28, M29, q30, h⟩ := bnd_some h
      refine w_callVi hC [.ref 1000027] [] (ok_X11_passes q30) mv_X11_passes aw_1388 ly_208 rfl (Nat.le_of_ble_eq_true rfl) ⟨by decide, by decide⟩ ⟨by decide, by decide⟩ dX11_readLawLine_113 ?_
      refine v_if_eq hC 128 dX11_readLawLine_116 rfl (fun c31 => ?_) (fun c31 => ?_)
      · rw [if_pos c31] at h
        exact ok_X11_readLawLine_128 hC hnt h
      · rw [if_neg c31] at h
        refine v_aload_n hC dX11_readLawLine_119 rfl ?_
        obtain ⟨r34, M35, q36, h⟩ := bnd_some h
        refine w_callVi hC [] [] (ok_X11_readCond (D := 68) (fun M r M' h => ok_X11_readAtom 20 M r M' h) (by decide) q36) mv_X11_readCond aw_1433 ly_208 rfl (Nat.le_of_ble_eq_true rfl) ⟨by decide, by decide⟩ ⟨by decide, by decide⟩ dX11_readLawLine_120 ?_
        refine v_if_ne hC 128 dX11_readLawLine_123 rfl (fun c37 => ?_) (fun c37 => ?_)
        · rw [if_neg c37] at h
          exact ok_X11_readLawLine_128 hC hnt h
        · rw [if_pos c37] at h
          refine v_iconst (v := (0 : Int32)) hC dX11_readLawLine_126 rfl ?_
          cases h
          exact v_zret hC (by decide) (by decide) (by decide) dX11_readLawLine_127
    · rw [if_neg c24] at h
      refine v_iconst (v := (0 : Int32)) hC dX11_readLawLine_91 rfl ?_
      cases h
      exact v_zret hC (by decide) (by decide) (by decide) dX11_readLawLine_92
  · rw [if_neg c17] at h
    refine v_iconst (v := (0 : Int32)) hC dX11_readLawLine_63 rfl ?_
    cases h
    exact v_zret hC (by decide) (by decide) (by decide) dX11_readLawLine_64
set_option maxRecDepth 20000 in
set_option maxHeartbeats 4000000 in
theorem ok_X11_readLawLine {l : Launch} {N : Nat} {v1 : Int32} {M : Mm} {r : Int32} {M' : Mm} (h : f_X11_readLawLine N v1 M = some (r, M')) : am_M l yX11_readLawLine cX11_readLawLine 3 (some .boolean) 71 0 0 LY M [.ref 208, .int v1] (.inl (some (.int r))) M' := by
  unfold f_X11_readLawLine at h
  refine am_intro (by decide) (by simp [Value.category]) (Nat.le_of_ble_eq_true rfl) (fun X hC hnt => ?_)
  refine am_start (L := [some (.ref 208), some (.int v1), none]) rfl ?_
  refine v_sipush (v := (1259 : Int32)) hC dX11_readLawLine_0 rfl ?_
  refine v_iconst (v := (4 : Int32)) hC dX11_readLawLine_3 rfl ?_
  refine v_iload_n hC dX11_readLawLine_4 rfl ?_
  refine v_imul hC dX11_readLawLine_5 ?_
  refine v_iadd hC dX11_readLawLine_6 ?_
  obtain ⟨x1, e_x1, h⟩ := lt_some h
  refine v_nam e_x1 ?_
  refine w_istore_n hC dX11_readLawLine_7 (ltk rfl) [some (.ref 208), some (.int v1), some (.int x1)] rfl ?_
  refine v_aload_n hC dX11_readLawLine_8 rfl ?_
  refine v_geta (k := 1) (b := 209) hC cls_X11 ly_208 (by decide) rfl aw_1232 rfl dX11_readLawLine_9 ?_
  refine v_iload_n hC dX11_readLawLine_12 rfl ?_
  refine v_aload_n hC dX11_readLawLine_13 rfl ?_
  refine w_ldcS (tx := "take") (i9 := 25) hC st_25 dX11_readLawLine_14 ?_
  obtain ⟨r2, M3, q4, h⟩ := bnd_some h
  refine w_callVi hC [.ref 1000025] [.int x1, .ref 209] (ok_X11_isWord q4) mv_X11_isWord aw_1352 ly_208 rfl (Nat.le_of_ble_eq_true rfl) ⟨by decide, by decide⟩ ⟨by decide, by decide⟩ dX11_readLawLine_16 ?_
  refine v_if_eq hC 26 dX11_readLawLine_19 rfl (fun c5 => ?_) (fun c5 => ?_)
  · rw [if_pos c5] at h
    refine v_aload_n hC dX11_readLawLine_26 rfl ?_
    refine w_ldcS (tx := "spare") (i9 := 26) hC st_26 dX11_readLawLine_27 ?_
    obtain ⟨r6, M7, q8, h⟩ := bnd_some h
    refine w_callVi hC [.ref 1000026] [.int x1, .ref 209] (ok_X11_isWord q8) mv_X11_isWord aw_1352 ly_208 rfl (Nat.le_of_ble_eq_true rfl) ⟨by decide, by decide⟩ ⟨by decide, by decide⟩ dX11_readLawLine_29 ?_
    refine v_if_eq hC 39 dX11_readLawLine_32 rfl (fun c9 => ?_) (fun c9 => ?_)
    · rw [if_pos c9] at h
      refine v_aload_n hC dX11_readLawLine_39 rfl ?_
      refine w_ldcS (tx := "set") (i9 := 18) hC st_18 dX11_readLawLine_40 ?_
      obtain ⟨r10, M11, q12, h⟩ := bnd_some h
      refine w_callVi hC [.ref 1000018] [.int x1, .ref 209] (ok_X11_isWord q12) mv_X11_isWord aw_1352 ly_208 rfl (Nat.le_of_ble_eq_true rfl) ⟨by decide, by decide⟩ ⟨by decide, by decide⟩ dX11_readLawLine_42 ?_
      refine v_if_eq hC 52 dX11_readLawLine_45 rfl (fun c13 => ?_) (fun c13 => ?_)
      · rw [if_pos c13] at h
        refine v_iconst (v := (-1 : Int32)) hC dX11_readLawLine_52 rfl ?_
        refine v_drop [true, false, true] [some (.ref 208), none, some (.int x1)] rfl ?_
        exact ok_X11_readLawLine_53 hC hnt h
      · rw [if_neg c13] at h
        refine v_iconst (v := (2 : Int32)) hC dX11_readLawLine_48 rfl ?_
        refine v_goto (tg := 53) hC dX11_readLawLine_49 rfl ?_
        refine v_drop [true, false, true] [some (.ref 208), none, some (.int x1)] rfl ?_
        exact ok_X11_readLawLine_53 hC hnt h
    · rw [if_neg c9] at h
      refine v_iconst (v := (1 : Int32)) hC dX11_readLawLine_35 rfl ?_
      refine v_goto (tg := 53) hC dX11_readLawLine_36 rfl ?_
      refine v_drop [true, false, true] [some (.ref 208), none, some (.int x1)] rfl ?_
      exact ok_X11_readLawLine_53 hC hnt h
  · rw [if_neg c5] at h
    refine v_iconst (v := (0 : Int32)) hC dX11_readLawLine_22 rfl ?_
    refine v_goto (tg := 53) hC dX11_readLawLine_23 rfl ?_
    refine v_drop [true, false, true] [some (.ref 208), none, some (.int x1)] rfl ?_
    exact ok_X11_readLawLine_53 hC hnt h
def f_X11_readLine_45 (N : Nat) (M : Mm) : Option (Int32 × Mm) :=
  some ((0 : Int32), M)
def f_X11_readLine_41 (N : Nat) (M : Mm) : Option (Int32 × Mm) :=
  some ((1 : Int32), M)
def f_X11_readLine_16 (N : Nat) (v1 : Int32) (v2 : Int32) (s0 : Int32) (s1 : Int32) (M : Mm) : Option (Int32 × Mm) :=
  (if s1 ≤ s0 then f_X11_readLine_45 N M else (if v1 = (0 : Int32) then bnd (f_X11_readLawLine N v2 M) (fun r7 M8 => (if r7 = (0 : Int32) then f_X11_readLine_45 N M8 else f_X11_readLine_41 N M8)) else bnd (f_X11_readTableLine N M) (fun r11 M12 => (if r11 = (0 : Int32) then f_X11_readLine_45 N M12 else f_X11_readLine_41 N M12))))
def f_X11_readLine (N : Nat) (v1 : Int32) (v2 : Int32) (M : Mm) : Option (Int32 × Mm) :=
  bnd (f_X11_letters N M) (fun r1 M2 => (if v1 = (0 : Int32) then f_X11_readLine_16 N v1 v2 v2 (12 : Int32) M2 else f_X11_readLine_16 N v1 v2 v2 (14 : Int32) M2))
set_option maxRecDepth 20000 in
set_option maxHeartbeats 4000000 in
theorem ok_X11_readLine_45 {N : Nat} {X : am_X} {l : Launch} (hC : am_C X l (am_rm 72 0 0) cX11_readLine yX11_readLine.cls (some .boolean)) (hnt : am_NT X) {M : Mm} {r : Int32} {M' : Mm} (h : f_X11_readLine_45 N M = some (r, M')) : am_V X LY M 0 0 (am_Q X LY 0 0 (.inl (some (.int r))) M') 45 [none, none, none] [] := by
  unfold f_X11_readLine_45 at h
  refine v_iconst (v := (0 : Int32)) hC dX11_readLine_45 rfl ?_
  cases h
  exact v_zret hC (by decide) (by decide) (by decide) dX11_readLine_46
set_option maxRecDepth 20000 in
set_option maxHeartbeats 4000000 in
theorem ok_X11_readLine_41 {N : Nat} {X : am_X} {l : Launch} (hC : am_C X l (am_rm 72 0 0) cX11_readLine yX11_readLine.cls (some .boolean)) (hnt : am_NT X) {M : Mm} {r : Int32} {M' : Mm} (h : f_X11_readLine_41 N M = some (r, M')) : am_V X LY M 0 0 (am_Q X LY 0 0 (.inl (some (.int r))) M') 41 [none, none, none] [] := by
  unfold f_X11_readLine_41 at h
  refine v_iconst (v := (1 : Int32)) hC dX11_readLine_41 rfl ?_
  refine v_goto (tg := 46) hC dX11_readLine_42 rfl ?_
  cases h
  exact v_zret hC (by decide) (by decide) (by decide) dX11_readLine_46
set_option maxRecDepth 20000 in
set_option maxHeartbeats 4000000 in
theorem ok_X11_readLine_16 {N : Nat} {X : am_X} {l : Launch} (hC : am_C X l (am_rm 72 0 0) cX11_readLine yX11_readLine.cls (some .boolean)) (hnt : am_NT X) {v1 v2 s0 s1 : Int32} {M : Mm} {r : Int32} {M' : Mm} (h : f_X11_readLine_16 N v1 v2 s0 s1 M = some (r, M')) : am_V X LY M 0 0 (am_Q X LY 0 0 (.inl (some (.int r))) M') 16 [some (.ref 208), some (.int v1), some (.int v2)] [.int s1, .int s0] := by
  unfold f_X11_readLine_16 at h
  refine v_icmp_ge hC 45 dX11_readLine_16 rfl (fun c5 => ?_) (fun c5 => ?_)
  · rw [if_pos c5] at h
    refine v_drop [false, false, false] [none, none, none] rfl ?_
    exact ok_X11_readLine_45 hC hnt h
  · rw [if_neg c5] at h
    refine v_iload_n hC dX11_readLine_19 rfl ?_
    refine v_if_eq hC 33 dX11_readLine_20 rfl (fun c6 => ?_) (fun c6 => ?_)
    · rw [if_pos c6] at h
      refine v_aload_n hC dX11_readLine_33 rfl ?_
      refine v_iload_n hC dX11_readLine_34 rfl ?_
      obtain ⟨r7, M8, q9, h⟩ := bnd_some h
      refine w_callVi hC [.int v2] [] (ok_X11_readLawLine q9) mv_X11_readLawLine aw_1426 ly_208 rfl (Nat.le_of_ble_eq_true rfl) ⟨by decide, by decide⟩ ⟨by decide, by decide⟩ dX11_readLine_35 ?_
      refine v_if_eq hC 45 dX11_readLine_38 rfl (fun c10 => ?_) (fun c10 => ?_)
      · rw [if_pos c10] at h
        refine v_drop [false, false, false] [none, none, none] rfl ?_
        exact ok_X11_readLine_45 hC hnt h
      · rw [if_neg c10] at h
        refine v_drop [false, false, false] [none, none, none] rfl ?_
        exact ok_X11_readLine_41 hC hnt h
    · rw [if_neg c6] at h
      refine v_aload_n hC dX11_readLine_23 rfl ?_
      obtain ⟨r11, M12, q13, h⟩ := bnd_some h
      refine w_callVi hC [] [] (ok_X11_readTableLine q13) mv_X11_readTableLine aw_1347 ly_208 rfl (Nat.le_of_ble_eq_true rfl) ⟨by decide, by decide⟩ ⟨by decide, by decide⟩ dX11_readLine_24 ?_
      refine v_if_eq hC 45 dX11_readLine_27 rfl (fun c14 => ?_) (fun c14 => ?_)
      · rw [if_pos c14] at h
        refine v_drop [false, false, false] [none, none, none] rfl ?_
        exact ok_X11_readLine_45 hC hnt h
      · rw [if_neg c14] at h
        refine v_goto (tg := 41) hC dX11_readLine_30 rfl ?_
        refine v_drop [false, false, false] [none, none, none] rfl ?_
        exact ok_X11_readLine_41 hC hnt h
set_option maxRecDepth 20000 in
set_option maxHeartbeats 4000000 in
theorem ok_X11_readLine {l : Launch} {N : Nat} {v1 v2 : Int32} {M : Mm} {r : Int32} {M' : Mm} (h : f_X11_readLine N v1 v2 M = some (r, M')) : am_M l yX11_readLine cX11_readLine 3 (some .boolean) 72 0 0 LY M [.ref 208, .int v1, .int v2] (.inl (some (.int r))) M' := by
  unfold f_X11_readLine at h
  refine am_intro (by decide) (by simp [Value.category]) (Nat.le_of_ble_eq_true rfl) (fun X hC hnt => ?_)
  refine am_start (L := [some (.ref 208), some (.int v1), some (.int v2)]) rfl ?_
  refine v_aload_n hC dX11_readLine_0 rfl ?_
  obtain ⟨r1, M2, q3, h⟩ := bnd_some h
  refine w_callVv hC [] [] (ok_X11_letters q3) mv_X11_letters aw_1343 ly_208 rfl (Nat.le_of_ble_eq_true rfl) ⟨by decide, by decide⟩ ⟨by decide, by decide⟩ dX11_readLine_1 ?_
  refine v_iload_n hC dX11_readLine_4 rfl ?_
  refine v_iload_n hC dX11_readLine_5 rfl ?_
  refine v_if_eq hC 14 dX11_readLine_6 rfl (fun c4 => ?_) (fun c4 => ?_)
  · rw [if_pos c4] at h
    refine v_bipush (v := (12 : Int32)) hC dX11_readLine_14 rfl ?_
    exact ok_X11_readLine_16 hC hnt h
  · rw [if_neg c4] at h
    refine v_bipush (v := (14 : Int32)) hC dX11_readLine_9 rfl ?_
    refine v_goto (tg := 16) hC dX11_readLine_11 rfl ?_
    exact ok_X11_readLine_16 hC hnt h
def f_X11_readAll_28 (N : Nat) : Nat → Int32 → Int32 → Mm → Option (Int32 × Mm)
  | 0, _, _, _ => none
  | n + 1, v1, v2, M => bnd (f_X11_readLine N v1 v2 M) (fun r9 M10 => (if r9 = (0 : Int32) then some ((-1 : Int32), M10) else bnd (f_X11_blanks N M10) (fun r13 M14 => (if (M14 208 10) = (M14 208 11) then some ((v2 + (1 : Int32)), M14) else bnd (f_X11_isAt N (59 : Int32) (59 : Int32) M14) (fun r17 M18 => (if r17 = (0 : Int32) then some ((-1 : Int32), M18) else lt (wr M18 208 10 ((M18 208 10) + (1 : Int32))) (fun M21 => f_X11_readAll_28 N n v1 (v2 + (1 : Int32)) M21)))))))
def f_X11_readAll (N : Nat) (v1 : Int32) (M : Mm) : Option (Int32 × Mm) :=
  bnd (f_X11_uses N M) (fun r1 M2 => lt (wr M2 208 16 (0 : Int32)) (fun M4 => bnd (f_X11_blanks N M4) (fun r5 M6 => (if (M6 208 10) = (M6 208 11) then some ((0 : Int32), M6) else f_X11_readAll_28 N N v1 (0 : Int32) M6))))
set_option maxRecDepth 20000 in
set_option maxHeartbeats 4000000 in
theorem ok_X11_readAll_28 {N : Nat} {X : am_X} {l : Launch} (hC : am_C X l (am_rm 73 0 0) cX11_readAll yX11_readAll.cls (some .int)) (hnt : am_NT X) : ∀ (n : Nat) (v1 v2 : Int32) (M : Mm) (r : Int32) (M' : Mm), f_X11_readAll_28 N n v1 v2 M = some (r, M') → am_V X LY M 0 0 (am_Q X LY 0 0 (.inl (some (.int r))) M') 28 [some (.ref 208), some (.int v1), some (.int v2)] [] := by
  intro n
  induction n with
  | zero => intro v1 v2 M r M' h; cases h
  | succ n ih =>
    intro v1 v2 M r M' h
    simp only [f_X11_readAll_28] at h
    refine v_aload_n hC dX11_readAll_28 rfl ?_
    refine v_iload_n hC dX11_readAll_29 rfl ?_
    refine v_iload_n hC dX11_readAll_30 rfl ?_
    obtain ⟨r9, M10, q11, h⟩ := bnd_some h
    refine w_callVi hC [.int v1, .int v2] [] (ok_X11_readLine q11) mv_X11_readLine aw_1339 ly_208 rfl (Nat.le_of_ble_eq_true rfl) ⟨by decide, by decide⟩ ⟨by decide, by decide⟩ dX11_readAll_31 ?_
    refine v_if_ne hC 39 dX11_readAll_34 rfl (fun c12 => ?_) (fun c12 => ?_)
    · rw [if_neg c12] at h
      refine v_aload_n hC dX11_readAll_39 rfl ?_
      obtain ⟨r13, M14, q15, h⟩ := bnd_some h
      refine w_callVv hC [] [] (ok_X11_blanks q15) mv_X11_blanks aw_1331 ly_208 rfl (Nat.le_of_ble_eq_true rfl) ⟨by decide, by decide⟩ ⟨by decide, by decide⟩ dX11_readAll_40 ?_
      refine v_aload_n hC dX11_readAll_43 rfl ?_
      refine v_geti (k := 10) hC cls_X11 ly_208 (by decide) rfl aw_1241 rfl dX11_readAll_44 ?_
      refine v_aload_n hC dX11_readAll_47 rfl ?_
      refine v_geti (k := 11) hC cls_X11 ly_208 (by decide) rfl aw_1242 rfl dX11_readAll_48 ?_
      refine v_icmp_ne hC 58 dX11_readAll_51 rfl (fun c16 => ?_) (fun c16 => ?_)
      · rw [if_neg c16] at h
        refine v_aload_n hC dX11_readAll_58 rfl ?_
        refine v_bipush (v := (59 : Int32)) hC dX11_readAll_59 rfl ?_
        refine v_bipush (v := (59 : Int32)) hC dX11_readAll_61 rfl ?_
        obtain ⟨r17, M18, q19, h⟩ := bnd_some h
        refine w_callVi hC [.int (59 : Int32), .int (59 : Int32)] [] (ok_X11_isAt q19) mv_X11_isAt aw_1335 ly_208 rfl (Nat.le_of_ble_eq_true rfl) ⟨by decide, by decide⟩ ⟨by decide, by decide⟩ dX11_readAll_63 ?_
        refine v_if_ne hC 71 dX11_readAll_66 rfl (fun c20 => ?_) (fun c20 => ?_)
        · rw [if_neg c20] at h
          refine v_aload_n hC dX11_readAll_71 rfl ?_
          refine v_dup hC dX11_readAll_72 rfl ?_
          refine v_geti (k := 10) hC cls_X11 ly_208 (by decide) rfl aw_1241 rfl dX11_readAll_73 ?_
          refine v_iconst (v := (1 : Int32)) hC dX11_readAll_76 rfl ?_
          refine v_iadd hC dX11_readAll_77 ?_
          obtain ⟨M21, e_M21, h⟩ := lt_some h
          refine w_puti (k := 10) hC cls_X11 ly_208 (by decide) rfl aw_1241 rfl rfl ⟨rfl, rfl⟩ dX11_readAll_78 e_M21 ?_
          refine w_iinc hC (v2 + (1 : Int32)) dX11_readAll_81 rfl rfl [some (.ref 208), some (.int v1), some (.int (v2 + (1 : Int32)))] rfl ?_
          refine v_goto (tg := 28) hC dX11_readAll_84 rfl ?_
          exact ih _ _ _ _ _ h
        · rw [if_pos c20] at h
          refine v_iconst (v := (-1 : Int32)) hC dX11_readAll_69 rfl ?_
          cases h
          exact v_iret hC (by decide) (by decide) dX11_readAll_70
      · rw [if_pos c16] at h
        refine v_iload_n hC dX11_readAll_54 rfl ?_
        refine v_iconst (v := (1 : Int32)) hC dX11_readAll_55 rfl ?_
        refine v_iadd hC dX11_readAll_56 ?_
        cases h
        exact v_iret hC (by decide) (by decide) dX11_readAll_57
    · rw [if_pos c12] at h
      refine v_iconst (v := (-1 : Int32)) hC dX11_readAll_37 rfl ?_
      cases h
      exact v_iret hC (by decide) (by decide) dX11_readAll_38
set_option maxRecDepth 20000 in
set_option maxHeartbeats 4000000 in
theorem ok_X11_readAll {l : Launch} {N : Nat} {v1 : Int32} {M : Mm} {r : Int32} {M' : Mm} (h : f_X11_readAll N v1 M = some (r, M')) : am_M l yX11_readAll cX11_readAll 3 (some .int) 73 0 0 LY M [.ref 208, .int v1] (.inl (some (.int r))) M' := by
  unfold f_X11_readAll at h
  refine am_intro (by decide) (by simp [Value.category]) (Nat.le_of_ble_eq_true rfl) (fun X hC hnt => ?_)
  refine am_start (L := [some (.ref 208), some (.int v1), none]) rfl ?_
  refine v_aload_n hC dX11_readAll_0 rfl ?_
  obtain ⟨r1, M2, q3, h⟩ := bnd_some h
  refine w_callVv hC [] [] (ok_X11_uses q3) mv_X11_uses aw_1327 ly_208 rfl (Nat.le_of_ble_eq_true rfl) ⟨by decide, by decide⟩ ⟨by decide, by decide⟩ dX11_readAll_1 ?_
  refine v_aload_n hC dX11_readAll_4 rfl ?_
  refine v_iconst (v := (0 : Int32)) hC dX11_readAll_5 rfl ?_
  obtain ⟨M4, e_M4, h⟩ := lt_some h
  refine w_puti (k := 16) hC cls_X11 ly_208 (by decide) rfl aw_1247 rfl rfl ⟨rfl, rfl⟩ dX11_readAll_6 e_M4 ?_
  refine v_aload_n hC dX11_readAll_9 rfl ?_
  obtain ⟨r5, M6, q7, h⟩ := bnd_some h
  refine w_callVv hC [] [] (ok_X11_blanks q7) mv_X11_blanks aw_1331 ly_208 rfl (Nat.le_of_ble_eq_true rfl) ⟨by decide, by decide⟩ ⟨by decide, by decide⟩ dX11_readAll_10 ?_
  refine v_aload_n hC dX11_readAll_13 rfl ?_
  refine v_geti (k := 10) hC cls_X11 ly_208 (by decide) rfl aw_1241 rfl dX11_readAll_14 ?_
  refine v_aload_n hC dX11_readAll_17 rfl ?_
  refine v_geti (k := 11) hC cls_X11 ly_208 (by decide) rfl aw_1242 rfl dX11_readAll_18 ?_
  refine v_icmp_ne hC 26 dX11_readAll_21 rfl (fun c8 => ?_) (fun c8 => ?_)
  · rw [if_neg c8] at h
    refine v_iconst (v := (0 : Int32)) hC dX11_readAll_26 rfl ?_
    refine w_istore_n hC dX11_readAll_27 (ltk rfl) [some (.ref 208), some (.int v1), some (.int (0 : Int32))] rfl ?_
    exact ok_X11_readAll_28 hC hnt N _ _ _ _ _ h
  · rw [if_pos c8] at h
    refine v_iconst (v := (0 : Int32)) hC dX11_readAll_24 rfl ?_
    cases h
    exact v_iret hC (by decide) (by decide) dX11_readAll_25
def f_X11_table_92 (N : Nat) : Nat → Int32 → Mm → Option (Int32 × Mm)
  | 0, _, _ => none
  | n + 1, v2, M => (if (1258 : Int32) ≤ v2 then some ((0 : Int32), M) else grd (inb v2 1258) (grd (inb v2 2107) (lt (wr M 209 (v2).toNatClampNeg (M 211 (v2).toNatClampNeg)) (fun M15 => f_X11_table_92 N n (v2 + (1 : Int32)) M15))))
def f_X11_table_83 (N : Nat) (s1 : Int32) (M : Mm) : Option (Int32 × Mm) :=
  bnd (f_X11_throwsIf N s1 (2 : Int32) M) (fun r19 M20 => (if r19 = (0 : Int32) then grd (inb (2 : Int32) 2107) (grd (inb (2 : Int32) 2107) (lt (wr M20 209 ((2 : Int32)).toNatClampNeg ((M20 209 ((2 : Int32)).toNatClampNeg) + (1 : Int32))) (fun M25 => lt (wr M25 208 7 (0 : Int32)) (fun M26 => grd (inb (2 : Int32) 2107) (some ((M26 209 ((2 : Int32)).toNatClampNeg), M26)))))) else f_X11_table_92 N N (0 : Int32) M20))
def f_X11_table_59 (N : Nat) (s1 : Int32) (M : Mm) : Option (Int32 × Mm) :=
  bnd (f_X11_throwsIf N s1 (1 : Int32) M) (fun r8 M9 => (if r8 = (0 : Int32) then grd (inb (2 : Int32) 2107) ((if (M9 209 ((2 : Int32)).toNatClampNeg) = (12 : Int32) then f_X11_table_83 N (1 : Int32) M9 else f_X11_table_83 N (0 : Int32) M9)) else f_X11_table_92 N N (0 : Int32) M9))
def f_X11_table_46 (N : Nat) (v1 : Int32) (s1 : Int32) (M : Mm) : Option (Int32 × Mm) :=
  lt (wr M 208 14 s1) (fun M6 => (if (0 : Int32) ≤ v1 then f_X11_table_59 N (0 : Int32) M6 else f_X11_table_59 N (1 : Int32) M6))
def f_X11_table_2 (N : Nat) : Nat → Int32 → Mm → Option (Int32 × Mm)
  | 0, _, _ => none
  | n + 1, v1, M => (if (1258 : Int32) ≤ v1 then bnd (f_X11_readAll N (1 : Int32) M) (fun r2 M3 => (if (0 : Int32) ≤ r2 then f_X11_table_46 N r2 (-1 : Int32) M3 else f_X11_table_46 N r2 (M3 208 12) M3)) else grd (inb v1 2107) (grd (inb v1 1258) (lt (wr M 211 (v1).toNatClampNeg (M 209 (v1).toNatClampNeg)) (fun M30 => f_X11_table_2 N n (v1 + (1 : Int32)) M30))))
def f_X11_table (N : Nat) (M : Mm) : Option (Int32 × Mm) :=
  f_X11_table_2 N N (0 : Int32) M
set_option maxRecDepth 20000 in
set_option maxHeartbeats 4000000 in
theorem ok_X11_table_92 {N : Nat} {X : am_X} {l : Launch} (hC : am_C X l (am_rm 74 0 0) cX11_table yX11_table.cls (some .int)) (hnt : am_NT X) : ∀ (n : Nat) (v2 : Int32) (M : Mm) (r : Int32) (M' : Mm), f_X11_table_92 N n v2 M = some (r, M') → am_V X LY M 0 0 (am_Q X LY 0 0 (.inl (some (.int r))) M') 92 [some (.ref 208), none, some (.int v2)] [] := by
  intro n
  induction n with
  | zero => intro v2 M r M' h; cases h
  | succ n ih =>
    intro v2 M r M' h
    simp only [f_X11_table_92] at h
    refine v_iload_n hC dX11_table_92 rfl ?_
    refine v_sipush (v := (1258 : Int32)) hC dX11_table_93 rfl ?_
    refine v_icmp_ge hC 117 dX11_table_96 rfl (fun c12 => ?_) (fun c12 => ?_)
    · rw [if_pos c12] at h
      refine v_iconst (v := (0 : Int32)) hC dX11_table_117 rfl ?_
      cases h
      exact v_iret hC (by decide) (by decide) dX11_table_118
    · rw [if_neg c12] at h
      refine v_aload_n hC dX11_table_99 rfl ?_
      refine v_geta (k := 1) (b := 209) hC cls_X11 ly_208 (by decide) rfl aw_1232 rfl dX11_table_100 ?_
      refine v_iload_n hC dX11_table_103 rfl ?_
      refine v_aload_n hC dX11_table_104 rfl ?_
      refine v_geta (k := 3) (b := 211) hC cls_X11 ly_208 (by decide) rfl aw_1234 rfl dX11_table_105 ?_
      refine v_iload_n hC dX11_table_108 rfl ?_
      obtain ⟨g13, h⟩ := grd_some h
      refine v_iald hC ly_211 (inb_in g13) dX11_table_109 ?_
      obtain ⟨g14, h⟩ := grd_some h
      obtain ⟨M15, e_M15, h⟩ := lt_some h
      refine w_iast hC ly_209 (inb_in g14) dX11_table_110 e_M15 ?_
      refine w_iinc hC (v2 + (1 : Int32)) dX11_table_111 rfl rfl [some (.ref 208), none, some (.int (v2 + (1 : Int32)))] rfl ?_
      refine v_goto (tg := 92) hC dX11_table_114 rfl ?_
      exact ih _ _ _ _ h
set_option maxRecDepth 20000 in
set_option maxHeartbeats 4000000 in
theorem ok_X11_table_83 {N : Nat} {X : am_X} {l : Launch} (hC : am_C X l (am_rm 74 0 0) cX11_table yX11_table.cls (some .int)) (hnt : am_NT X) {s1 : Int32} {M : Mm} {r : Int32} {M' : Mm} (h : f_X11_table_83 N s1 M = some (r, M')) : am_V X LY M 0 0 (am_Q X LY 0 0 (.inl (some (.int r))) M') 83 [some (.ref 208), none, none] [.int s1, .ref 208] := by
  unfold f_X11_table_83 at h
  refine v_iconst (v := (2 : Int32)) hC dX11_table_83 rfl ?_
  obtain ⟨r19, M20, q21, h⟩ := bnd_some h
  refine w_callVi hC [.int s1, .int (2 : Int32)] [] (ok_X11_throwsIf q21) mv_X11_throwsIf aw_1470 ly_208 rfl (Nat.le_of_ble_eq_true rfl) ⟨by decide, by decide⟩ ⟨by decide, by decide⟩ dX11_table_84 ?_
  refine v_if_eq hC 119 dX11_table_87 rfl (fun c22 => ?_) (fun c22 => ?_)
  · rw [if_pos c22] at h
    refine v_aload_n hC dX11_table_119 rfl ?_
    refine v_geta (k := 1) (b := 209) hC cls_X11 ly_208 (by decide) rfl aw_1232 rfl dX11_table_120 ?_
    refine v_iconst (v := (2 : Int32)) hC dX11_table_123 rfl ?_
    refine v_dup2 hC dX11_table_124 rfl rfl ?_
    obtain ⟨g23, h⟩ := grd_some h
    refine v_iald hC ly_209 (inb_in g23) dX11_table_125 ?_
    refine v_iconst (v := (1 : Int32)) hC dX11_table_126 rfl ?_
    refine v_iadd hC dX11_table_127 ?_
    obtain ⟨g24, h⟩ := grd_some h
    obtain ⟨M25, e_M25, h⟩ := lt_some h
    refine w_iast hC ly_209 (inb_in g24) dX11_table_128 e_M25 ?_
    refine v_aload_n hC dX11_table_129 rfl ?_
    refine v_iconst (v := (0 : Int32)) hC dX11_table_130 rfl ?_
    obtain ⟨M26, e_M26, h⟩ := lt_some h
    refine w_puti (k := 7) hC cls_X11 ly_208 (by decide) rfl aw_1238 rfl rfl ⟨rfl, rfl⟩ dX11_table_131 e_M26 ?_
    refine v_aload_n hC dX11_table_134 rfl ?_
    refine v_geta (k := 1) (b := 209) hC cls_X11 ly_208 (by decide) rfl aw_1232 rfl dX11_table_135 ?_
    refine v_iconst (v := (2 : Int32)) hC dX11_table_138 rfl ?_
    obtain ⟨g27, h⟩ := grd_some h
    refine v_iald hC ly_209 (inb_in g27) dX11_table_139 ?_
    cases h
    exact v_iret hC (by decide) (by decide) dX11_table_140
  · rw [if_neg c22] at h
    refine v_iconst (v := (0 : Int32)) hC dX11_table_90 rfl ?_
    refine w_istore_n hC dX11_table_91 (ltk rfl) [some (.ref 208), none, some (.int (0 : Int32))] rfl ?_
    exact ok_X11_table_92 hC hnt N _ _ _ _ h
set_option maxRecDepth 20000 in
set_option maxHeartbeats 4000000 in
theorem ok_X11_table_59 {N : Nat} {X : am_X} {l : Launch} (hC : am_C X l (am_rm 74 0 0) cX11_table yX11_table.cls (some .int)) (hnt : am_NT X) {s1 : Int32} {M : Mm} {r : Int32} {M' : Mm} (h : f_X11_table_59 N s1 M = some (r, M')) : am_V X LY M 0 0 (am_Q X LY 0 0 (.inl (some (.int r))) M') 59 [some (.ref 208), none, none] [.int s1, .ref 208] := by
  unfold f_X11_table_59 at h
  refine v_iconst (v := (1 : Int32)) hC dX11_table_59 rfl ?_
  obtain ⟨r8, M9, q10, h⟩ := bnd_some h
  refine w_callVi hC [.int s1, .int (1 : Int32)] [] (ok_X11_throwsIf q10) mv_X11_throwsIf aw_1470 ly_208 rfl (Nat.le_of_ble_eq_true rfl) ⟨by decide, by decide⟩ ⟨by decide, by decide⟩ dX11_table_60 ?_
  refine v_if_ne hC 90 dX11_table_63 rfl (fun c11 => ?_) (fun c11 => ?_)
  · rw [if_neg c11] at h
    refine v_iconst (v := (0 : Int32)) hC dX11_table_90 rfl ?_
    refine w_istore_n hC dX11_table_91 (ltk rfl) [some (.ref 208), none, some (.int (0 : Int32))] rfl ?_
    exact ok_X11_table_92 hC hnt N _ _ _ _ h
  · rw [if_pos c11] at h
    refine v_aload_n hC dX11_table_66 rfl ?_
    refine v_aload_n hC dX11_table_67 rfl ?_
    refine v_geta (k := 1) (b := 209) hC cls_X11 ly_208 (by decide) rfl aw_1232 rfl dX11_table_68 ?_
    refine v_iconst (v := (2 : Int32)) hC dX11_table_71 rfl ?_
    obtain ⟨g17, h⟩ := grd_some h
    refine v_iald hC ly_209 (inb_in g17) dX11_table_72 ?_
    refine v_bipush (v := (12 : Int32)) hC dX11_table_73 rfl ?_
    refine v_icmp_ne hC 82 dX11_table_75 rfl (fun c18 => ?_) (fun c18 => ?_)
    · rw [if_neg c18] at h
      refine v_iconst (v := (0 : Int32)) hC dX11_table_82 rfl ?_
      exact ok_X11_table_83 hC hnt h
    · rw [if_pos c18] at h
      refine v_iconst (v := (1 : Int32)) hC dX11_table_78 rfl ?_
      refine v_goto (tg := 83) hC dX11_table_79 rfl ?_
      exact ok_X11_table_83 hC hnt h
set_option maxRecDepth 20000 in
set_option maxHeartbeats 4000000 in
theorem ok_X11_table_46 {N : Nat} {X : am_X} {l : Launch} (hC : am_C X l (am_rm 74 0 0) cX11_table yX11_table.cls (some .int)) (hnt : am_NT X) {v1 s1 : Int32} {M : Mm} {r : Int32} {M' : Mm} (h : f_X11_table_46 N v1 s1 M = some (r, M')) : am_V X LY M 0 0 (am_Q X LY 0 0 (.inl (some (.int r))) M') 46 [some (.ref 208), some (.int v1), none] [.int s1, .ref 208] := by
  unfold f_X11_table_46 at h
  obtain ⟨M6, e_M6, h⟩ := lt_some h
  refine w_puti (k := 14) hC cls_X11 ly_208 (by decide) rfl aw_1245 rfl rfl ⟨rfl, rfl⟩ dX11_table_46 e_M6 ?_
  refine v_aload_n hC dX11_table_49 rfl ?_
  refine v_iload_n hC dX11_table_50 rfl ?_
  refine v_if_ge hC 58 dX11_table_51 rfl (fun c7 => ?_) (fun c7 => ?_)
  · rw [if_pos c7] at h
    refine v_iconst (v := (0 : Int32)) hC dX11_table_58 rfl ?_
    refine v_drop [true, false, false] [some (.ref 208), none, none] rfl ?_
    exact ok_X11_table_59 hC hnt h
  · rw [if_neg c7] at h
    refine v_iconst (v := (1 : Int32)) hC dX11_table_54 rfl ?_
    refine v_goto (tg := 59) hC dX11_table_55 rfl ?_
    refine v_drop [true, false, false] [some (.ref 208), none, none] rfl ?_
    exact ok_X11_table_59 hC hnt h
set_option maxRecDepth 20000 in
set_option maxHeartbeats 4000000 in
theorem ok_X11_table_2 {N : Nat} {X : am_X} {l : Launch} (hC : am_C X l (am_rm 74 0 0) cX11_table yX11_table.cls (some .int)) (hnt : am_NT X) : ∀ (n : Nat) (v1 : Int32) (M : Mm) (r : Int32) (M' : Mm), f_X11_table_2 N n v1 M = some (r, M') → am_V X LY M 0 0 (am_Q X LY 0 0 (.inl (some (.int r))) M') 2 [some (.ref 208), some (.int v1), none] [] := by
  intro n
  induction n with
  | zero => intro v1 M r M' h; cases h
  | succ n ih =>
    intro v1 M r M' h
    simp only [f_X11_table_2] at h
    refine v_iload_n hC dX11_table_2 rfl ?_
    refine v_sipush (v := (1258 : Int32)) hC dX11_table_3 rfl ?_
    refine v_icmp_ge hC 27 dX11_table_6 rfl (fun c1 => ?_) (fun c1 => ?_)
    · rw [if_pos c1] at h
      refine v_aload_n hC dX11_table_27 rfl ?_
      refine v_iconst (v := (1 : Int32)) hC dX11_table_28 rfl ?_
      obtain ⟨r2, M3, q4, h⟩ := bnd_some h
      refine w_callVi hC [.int (1 : Int32)] [] (ok_X11_readAll q4) mv_X11_readAll aw_1323 ly_208 rfl (Nat.le_of_ble_eq_true rfl) ⟨by decide, by decide⟩ ⟨by decide, by decide⟩ dX11_table_29 ?_
      refine w_istore_n hC dX11_table_32 (ltk rfl) [some (.ref 208), some (.int r2), none] rfl ?_
      refine v_aload_n hC dX11_table_33 rfl ?_
      refine v_iload_n hC dX11_table_34 rfl ?_
      refine v_if_ge hC 45 dX11_table_35 rfl (fun c5 => ?_) (fun c5 => ?_)
      · rw [if_pos c5] at h
        refine v_iconst (v := (-1 : Int32)) hC dX11_table_45 rfl ?_
        exact ok_X11_table_46 hC hnt h
      · rw [if_neg c5] at h
        refine v_aload_n hC dX11_table_38 rfl ?_
        refine v_geti (k := 12) hC cls_X11 ly_208 (by decide) rfl aw_1243 rfl dX11_table_39 ?_
        refine v_goto (tg := 46) hC dX11_table_42 rfl ?_
        exact ok_X11_table_46 hC hnt h
    · rw [if_neg c1] at h
      refine v_aload_n hC dX11_table_9 rfl ?_
      refine v_geta (k := 3) (b := 211) hC cls_X11 ly_208 (by decide) rfl aw_1234 rfl dX11_table_10 ?_
      refine v_iload_n hC dX11_table_13 rfl ?_
      refine v_aload_n hC dX11_table_14 rfl ?_
      refine v_geta (k := 1) (b := 209) hC cls_X11 ly_208 (by decide) rfl aw_1232 rfl dX11_table_15 ?_
      refine v_iload_n hC dX11_table_18 rfl ?_
      obtain ⟨g28, h⟩ := grd_some h
      refine v_iald hC ly_209 (inb_in g28) dX11_table_19 ?_
      obtain ⟨g29, h⟩ := grd_some h
      obtain ⟨M30, e_M30, h⟩ := lt_some h
      refine w_iast hC ly_211 (inb_in g29) dX11_table_20 e_M30 ?_
      refine w_iinc hC (v1 + (1 : Int32)) dX11_table_21 rfl rfl [some (.ref 208), some (.int (v1 + (1 : Int32))), none] rfl ?_
      refine v_goto (tg := 2) hC dX11_table_24 rfl ?_
      exact ih _ _ _ _ h
set_option maxRecDepth 20000 in
set_option maxHeartbeats 4000000 in
theorem ok_X11_table {l : Launch} {N : Nat} {M : Mm} {r : Int32} {M' : Mm} (h : f_X11_table N M = some (r, M')) : am_M l yX11_table cX11_table 3 (some .int) 74 0 0 LY M [.ref 208] (.inl (some (.int r))) M' := by
  unfold f_X11_table at h
  refine am_intro (by decide) (by simp [Value.category]) (Nat.le_of_ble_eq_true rfl) (fun X hC hnt => ?_)
  refine am_start (L := [some (.ref 208), none, none]) rfl ?_
  refine v_iconst (v := (0 : Int32)) hC dX11_table_0 rfl ?_
  refine w_istore_n hC dX11_table_1 (ltk rfl) [some (.ref 208), some (.int (0 : Int32)), none] rfl ?_
  exact ok_X11_table_2 hC hnt N _ _ _ _ h
def f_X11_law_52 (N : Nat) : Nat → Int32 → Int32 → Mm → Option (Int32 × Mm)
  | 0, _, _, _ => none
  | n + 1, v1, v2, M => (if (849 : Int32) ≤ v2 then grd (inb (3 : Int32) 2107) (lt (wr M 209 ((3 : Int32)).toNatClampNeg (1 : Int32)) (fun M15 => lt (wr M15 208 7 (0 : Int32)) (fun M16 => some (v1, M16)))) else grd (inb ((1258 : Int32) + v2) 2107) (grd (inb ((409 : Int32) + v2) 2107) (lt (wr M 209 (((409 : Int32) + v2)).toNatClampNeg (M 209 (((1258 : Int32) + v2)).toNatClampNeg)) (fun M19 => f_X11_law_52 N n v1 (v2 + (1 : Int32)) M19))))
def f_X11_law_32 (N : Nat) (v1 : Int32) (s1 : Int32) (M : Mm) : Option (Int32 × Mm) :=
  bnd (f_X11_throwsIf N s1 (1 : Int32) M) (fun r7 M8 => (if r7 = (0 : Int32) then grd (inb (1258 : Int32) 2107) (lt (wr M8 209 ((1258 : Int32)).toNatClampNeg v1) (fun M12 => f_X11_law_52 N N v1 (0 : Int32) M12)) else some ((0 : Int32), M8)))
def f_X11_law_19 (N : Nat) (v1 : Int32) (s1 : Int32) (M : Mm) : Option (Int32 × Mm) :=
  lt (wr M 208 14 s1) (fun M5 => (if (0 : Int32) ≤ v1 then f_X11_law_32 N v1 (0 : Int32) M5 else f_X11_law_32 N v1 (1 : Int32) M5))
def f_X11_law (N : Nat) (M : Mm) : Option (Int32 × Mm) :=
  bnd (f_X11_readAll N (0 : Int32) M) (fun r1 M2 => (if (0 : Int32) ≤ r1 then f_X11_law_19 N r1 (-1 : Int32) M2 else f_X11_law_19 N r1 (M2 208 12) M2))
set_option maxRecDepth 20000 in
set_option maxHeartbeats 4000000 in
theorem ok_X11_law_52 {N : Nat} {X : am_X} {l : Launch} (hC : am_C X l (am_rm 74 0 0) cX11_law yX11_law.cls (some .int)) (hnt : am_NT X) : ∀ (n : Nat) (v1 v2 : Int32) (M : Mm) (r : Int32) (M' : Mm), f_X11_law_52 N n v1 v2 M = some (r, M') → am_V X LY M 0 0 (am_Q X LY 0 0 (.inl (some (.int r))) M') 52 [some (.ref 208), some (.int v1), some (.int v2)] [] := by
  intro n
  induction n with
  | zero => intro v1 v2 M r M' h; cases h
  | succ n ih =>
    intro v1 v2 M r M' h
    simp only [f_X11_law_52] at h
    refine v_iload_n hC dX11_law_52 rfl ?_
    refine v_sipush (v := (849 : Int32)) hC dX11_law_53 rfl ?_
    refine v_icmp_ge hC 85 dX11_law_56 rfl (fun c13 => ?_) (fun c13 => ?_)
    · rw [if_pos c13] at h
      refine v_aload_n hC dX11_law_85 rfl ?_
      refine v_geta (k := 1) (b := 209) hC cls_X11 ly_208 (by decide) rfl aw_1232 rfl dX11_law_86 ?_
      refine v_iconst (v := (3 : Int32)) hC dX11_law_89 rfl ?_
      refine v_iconst (v := (1 : Int32)) hC dX11_law_90 rfl ?_
      obtain ⟨g14, h⟩ := grd_some h
      obtain ⟨M15, e_M15, h⟩ := lt_some h
      refine w_iast hC ly_209 (inb_in g14) dX11_law_91 e_M15 ?_
      refine v_aload_n hC dX11_law_92 rfl ?_
      refine v_iconst (v := (0 : Int32)) hC dX11_law_93 rfl ?_
      obtain ⟨M16, e_M16, h⟩ := lt_some h
      refine w_puti (k := 7) hC cls_X11 ly_208 (by decide) rfl aw_1238 rfl rfl ⟨rfl, rfl⟩ dX11_law_94 e_M16 ?_
      refine v_iload_n hC dX11_law_97 rfl ?_
      cases h
      exact v_iret hC (by decide) (by decide) dX11_law_98
    · rw [if_neg c13] at h
      refine v_aload_n hC dX11_law_59 rfl ?_
      refine v_geta (k := 1) (b := 209) hC cls_X11 ly_208 (by decide) rfl aw_1232 rfl dX11_law_60 ?_
      refine v_sipush (v := (409 : Int32)) hC dX11_law_63 rfl ?_
      refine v_iload_n hC dX11_law_66 rfl ?_
      refine v_iadd hC dX11_law_67 ?_
      refine v_aload_n hC dX11_law_68 rfl ?_
      refine v_geta (k := 1) (b := 209) hC cls_X11 ly_208 (by decide) rfl aw_1232 rfl dX11_law_69 ?_
      refine v_sipush (v := (1258 : Int32)) hC dX11_law_72 rfl ?_
      refine v_iload_n hC dX11_law_75 rfl ?_
      refine v_iadd hC dX11_law_76 ?_
      obtain ⟨g17, h⟩ := grd_some h
      refine v_iald hC ly_209 (inb_in g17) dX11_law_77 ?_
      obtain ⟨g18, h⟩ := grd_some h
      obtain ⟨M19, e_M19, h⟩ := lt_some h
      refine w_iast hC ly_209 (inb_in g18) dX11_law_78 e_M19 ?_
      refine w_iinc hC (v2 + (1 : Int32)) dX11_law_79 rfl rfl [some (.ref 208), some (.int v1), some (.int (v2 + (1 : Int32)))] rfl ?_
      refine v_goto (tg := 52) hC dX11_law_82 rfl ?_
      exact ih _ _ _ _ _ h
set_option maxRecDepth 20000 in
set_option maxHeartbeats 4000000 in
theorem ok_X11_law_32 {N : Nat} {X : am_X} {l : Launch} (hC : am_C X l (am_rm 74 0 0) cX11_law yX11_law.cls (some .int)) (hnt : am_NT X) {v1 s1 : Int32} {M : Mm} {r : Int32} {M' : Mm} (h : f_X11_law_32 N v1 s1 M = some (r, M')) : am_V X LY M 0 0 (am_Q X LY 0 0 (.inl (some (.int r))) M') 32 [some (.ref 208), some (.int v1), none] [.int s1, .ref 208] := by
  unfold f_X11_law_32 at h
  refine v_iconst (v := (1 : Int32)) hC dX11_law_32 rfl ?_
  obtain ⟨r7, M8, q9, h⟩ := bnd_some h
  refine w_callVi hC [.int s1, .int (1 : Int32)] [] (ok_X11_throwsIf q9) mv_X11_throwsIf aw_1470 ly_208 rfl (Nat.le_of_ble_eq_true rfl) ⟨by decide, by decide⟩ ⟨by decide, by decide⟩ dX11_law_33 ?_
  refine v_if_eq hC 41 dX11_law_36 rfl (fun c10 => ?_) (fun c10 => ?_)
  · rw [if_pos c10] at h
    refine v_aload_n hC dX11_law_41 rfl ?_
    refine v_geta (k := 1) (b := 209) hC cls_X11 ly_208 (by decide) rfl aw_1232 rfl dX11_law_42 ?_
    refine v_sipush (v := (1258 : Int32)) hC dX11_law_45 rfl ?_
    refine v_iload_n hC dX11_law_48 rfl ?_
    obtain ⟨g11, h⟩ := grd_some h
    obtain ⟨M12, e_M12, h⟩ := lt_some h
    refine w_iast hC ly_209 (inb_in g11) dX11_law_49 e_M12 ?_
    refine v_iconst (v := (0 : Int32)) hC dX11_law_50 rfl ?_
    refine w_istore_n hC dX11_law_51 (ltk rfl) [some (.ref 208), some (.int v1), some (.int (0 : Int32))] rfl ?_
    exact ok_X11_law_52 hC hnt N _ _ _ _ _ h
  · rw [if_neg c10] at h
    refine v_iconst (v := (0 : Int32)) hC dX11_law_39 rfl ?_
    cases h
    exact v_iret hC (by decide) (by decide) dX11_law_40
set_option maxRecDepth 20000 in
set_option maxHeartbeats 4000000 in
theorem ok_X11_law_19 {N : Nat} {X : am_X} {l : Launch} (hC : am_C X l (am_rm 74 0 0) cX11_law yX11_law.cls (some .int)) (hnt : am_NT X) {v1 s1 : Int32} {M : Mm} {r : Int32} {M' : Mm} (h : f_X11_law_19 N v1 s1 M = some (r, M')) : am_V X LY M 0 0 (am_Q X LY 0 0 (.inl (some (.int r))) M') 19 [some (.ref 208), some (.int v1), none] [.int s1, .ref 208] := by
  unfold f_X11_law_19 at h
  obtain ⟨M5, e_M5, h⟩ := lt_some h
  refine w_puti (k := 14) hC cls_X11 ly_208 (by decide) rfl aw_1245 rfl rfl ⟨rfl, rfl⟩ dX11_law_19 e_M5 ?_
  refine v_aload_n hC dX11_law_22 rfl ?_
  refine v_iload_n hC dX11_law_23 rfl ?_
  refine v_if_ge hC 31 dX11_law_24 rfl (fun c6 => ?_) (fun c6 => ?_)
  · rw [if_pos c6] at h
    refine v_iconst (v := (0 : Int32)) hC dX11_law_31 rfl ?_
    exact ok_X11_law_32 hC hnt h
  · rw [if_neg c6] at h
    refine v_iconst (v := (1 : Int32)) hC dX11_law_27 rfl ?_
    refine v_goto (tg := 32) hC dX11_law_28 rfl ?_
    exact ok_X11_law_32 hC hnt h
set_option maxRecDepth 20000 in
set_option maxHeartbeats 4000000 in
theorem ok_X11_law {l : Launch} {N : Nat} {M : Mm} {r : Int32} {M' : Mm} (h : f_X11_law N M = some (r, M')) : am_M l yX11_law cX11_law 3 (some .int) 74 0 0 LY M [.ref 208] (.inl (some (.int r))) M' := by
  unfold f_X11_law at h
  refine am_intro (by decide) (by simp [Value.category]) (Nat.le_of_ble_eq_true rfl) (fun X hC hnt => ?_)
  refine am_start (L := [some (.ref 208), none, none]) rfl ?_
  refine v_aload_n hC dX11_law_0 rfl ?_
  refine v_iconst (v := (0 : Int32)) hC dX11_law_1 rfl ?_
  obtain ⟨r1, M2, q3, h⟩ := bnd_some h
  refine w_callVi hC [.int (0 : Int32)] [] (ok_X11_readAll q3) mv_X11_readAll aw_1323 ly_208 rfl (Nat.le_of_ble_eq_true rfl) ⟨by decide, by decide⟩ ⟨by decide, by decide⟩ dX11_law_2 ?_
  refine w_istore_n hC dX11_law_5 (ltk rfl) [some (.ref 208), some (.int r1), none] rfl ?_
  refine v_aload_n hC dX11_law_6 rfl ?_
  refine v_iload_n hC dX11_law_7 rfl ?_
  refine v_if_ge hC 18 dX11_law_8 rfl (fun c4 => ?_) (fun c4 => ?_)
  · rw [if_pos c4] at h
    refine v_iconst (v := (-1 : Int32)) hC dX11_law_18 rfl ?_
    exact ok_X11_law_19 hC hnt h
  · rw [if_neg c4] at h
    refine v_aload_n hC dX11_law_11 rfl ?_
    refine v_geti (k := 12) hC cls_X11 ly_208 (by decide) rfl aw_1243 rfl dX11_law_12 ?_
    refine v_goto (tg := 19) hC dX11_law_15 rfl ?_
    exact ok_X11_law_19 hC hnt h
def f_X11_factOf (N : Nat) (v1 : Int32) (v2 : Int32) (v3 : Int32) (v4 : Int32) (M : Mm) : Option (Int32 × Mm) :=
  (if v1 = (0 : Int32) then some (v4, M) else (if v1 = (1 : Int32) then some (v3, M) else (if v1 = (2 : Int32) then bnd (f_X11_of N v4 (1 : Int32) M) (fun r4 M5 => some (r4, M5)) else (if v1 = (3 : Int32) then bnd (f_X11_ofCellar N v3 (2 : Int32) M) (fun r8 M9 => some (r8, M9)) else (if v1 = (4 : Int32) then bnd (f_X11_ofCellar N v3 (1 : Int32) M) (fun r12 M13 => bnd (f_X11_of N v4 ((3 : Int32) + r12) M13) (fun r15 M16 => some (r15, M16))) else (if v1 = (5 : Int32) then grd (inb (4 : Int32) 2107) (some ((M 209 ((4 : Int32)).toNatClampNeg), M)) else (if v1 = (6 : Int32) then bnd (f_X11_of N v4 (2 : Int32) M) (fun r21 M22 => some (r21, M22)) else (if v1 = (7 : Int32) then bnd (f_X11_ofCellar N v3 (2 : Int32) M) (fun r25 M26 => bnd (f_X11_of N v4 (1 : Int32) M26) (fun r28 M29 => (if r28 < r25 then some ((0 : Int32), M29) else some ((1 : Int32), M29)))) else some (v2, M)))))))))
set_option maxRecDepth 20000 in
set_option maxHeartbeats 4000000 in
theorem ok_X11_factOf {l : Launch} {N : Nat} {v1 v2 v3 v4 : Int32} {M : Mm} {r : Int32} {M' : Mm} (h : f_X11_factOf N v1 v2 v3 v4 M = some (r, M')) : am_M l yX11_factOf cX11_factOf 5 (some .int) 3 0 0 LY M [.ref 208, .int v1, .int v2, .int v3, .int v4] (.inl (some (.int r))) M' := by
  unfold f_X11_factOf at h
  refine am_intro (by decide) (by simp [Value.category]) (Nat.le_of_ble_eq_true rfl) (fun X hC hnt => ?_)
  refine am_start (L := [some (.ref 208), some (.int v1), some (.int v2), some (.int v3), some (.int v4)]) rfl ?_
  refine v_iload_n hC dX11_factOf_0 rfl ?_
  by_cases c1 : v1 = (0 : Int32)
  · rw [if_pos c1] at h
    refine v_tableIn hC 48 dX11_factOf_1 (by rw [c1]; decide) (by rw [c1]; decide) (by rw [c1]; first | done | rfl) rfl ?_
    refine v_iload hC dX11_factOf_48 rfl ?_
    cases h
    exact v_iret hC (by decide) (by decide) dX11_factOf_50
  · rw [if_neg c1] at h
    by_cases c2 : v1 = (1 : Int32)
    · rw [if_pos c2] at h
      refine v_tableIn hC 51 dX11_factOf_1 (by rw [c2]; decide) (by rw [c2]; decide) (by rw [c2]; first | done | rfl) rfl ?_
      refine v_iload_n hC dX11_factOf_51 rfl ?_
      cases h
      exact v_iret hC (by decide) (by decide) dX11_factOf_52
    · rw [if_neg c2] at h
      by_cases c3 : v1 = (2 : Int32)
      · rw [if_pos c3] at h
        refine v_tableIn hC 53 dX11_factOf_1 (by rw [c3]; decide) (by rw [c3]; decide) (by rw [c3]; first | done | rfl) rfl ?_
        refine v_aload_n hC dX11_factOf_53 rfl ?_
        refine v_iload hC dX11_factOf_54 rfl ?_
        refine v_iconst (v := (1 : Int32)) hC dX11_factOf_56 rfl ?_
        obtain ⟨r4, M5, q6, h⟩ := bnd_some h
        refine w_callVi hC [.int v4, .int (1 : Int32)] [] (ok_X11_of q6) mv_X11_of aw_1380 ly_208 rfl (Nat.le_of_ble_eq_true rfl) ⟨by decide, by decide⟩ ⟨by decide, by decide⟩ dX11_factOf_57 ?_
        cases h
        exact v_iret hC (by decide) (by decide) dX11_factOf_60
      · rw [if_neg c3] at h
        by_cases c7 : v1 = (3 : Int32)
        · rw [if_pos c7] at h
          refine v_tableIn hC 61 dX11_factOf_1 (by rw [c7]; decide) (by rw [c7]; decide) (by rw [c7]; first | done | rfl) rfl ?_
          refine v_aload_n hC dX11_factOf_61 rfl ?_
          refine v_iload_n hC dX11_factOf_62 rfl ?_
          refine v_iconst (v := (2 : Int32)) hC dX11_factOf_63 rfl ?_
          obtain ⟨r8, M9, q10, h⟩ := bnd_some h
          refine w_callVi hC [.int v3, .int (2 : Int32)] [] (ok_X11_ofCellar q10) mv_X11_ofCellar aw_1510 ly_208 rfl (Nat.le_of_ble_eq_true rfl) ⟨by decide, by decide⟩ ⟨by decide, by decide⟩ dX11_factOf_64 ?_
          cases h
          exact v_iret hC (by decide) (by decide) dX11_factOf_67
        · rw [if_neg c7] at h
          by_cases c11 : v1 = (4 : Int32)
          · rw [if_pos c11] at h
            refine v_tableIn hC 68 dX11_factOf_1 (by rw [c11]; decide) (by rw [c11]; decide) (by rw [c11]; first | done | rfl) rfl ?_
            refine v_aload_n hC dX11_factOf_68 rfl ?_
            refine v_iload hC dX11_factOf_69 rfl ?_
            refine v_iconst (v := (3 : Int32)) hC dX11_factOf_71 rfl ?_
            refine v_aload_n hC dX11_factOf_72 rfl ?_
            refine v_iload_n hC dX11_factOf_73 rfl ?_
            refine v_iconst (v := (1 : Int32)) hC dX11_factOf_74 rfl ?_
            obtain ⟨r12, M13, q14, h⟩ := bnd_some h
            refine w_callVi hC [.int v3, .int (1 : Int32)] [.int (3 : Int32), .int v4, .ref 208] (ok_X11_ofCellar q14) mv_X11_ofCellar aw_1510 ly_208 rfl (Nat.le_of_ble_eq_true rfl) ⟨by decide, by decide⟩ ⟨by decide, by decide⟩ dX11_factOf_75 ?_
            refine v_iadd hC dX11_factOf_78 ?_
            obtain ⟨r15, M16, q17, h⟩ := bnd_some h
            refine w_callVi hC [.int v4, .int ((3 : Int32) + r12)] [] (ok_X11_of q17) mv_X11_of aw_1380 ly_208 rfl (Nat.le_of_ble_eq_true rfl) ⟨by decide, by decide⟩ ⟨by decide, by decide⟩ dX11_factOf_79 ?_
            cases h
            exact v_iret hC (by decide) (by decide) dX11_factOf_82
          · rw [if_neg c11] at h
            by_cases c18 : v1 = (5 : Int32)
            · rw [if_pos c18] at h
              refine v_tableIn hC 83 dX11_factOf_1 (by rw [c18]; decide) (by rw [c18]; decide) (by rw [c18]; first | done | rfl) rfl ?_
              refine v_aload_n hC dX11_factOf_83 rfl ?_
              refine v_geta (k := 1) (b := 209) hC cls_X11 ly_208 (by decide) rfl aw_1232 rfl dX11_factOf_84 ?_
              refine v_iconst (v := (4 : Int32)) hC dX11_factOf_87 rfl ?_
              obtain ⟨g19, h⟩ := grd_some h
              refine v_iald hC ly_209 (inb_in g19) dX11_factOf_88 ?_
              cases h
              exact v_iret hC (by decide) (by decide) dX11_factOf_89
            · rw [if_neg c18] at h
              by_cases c20 : v1 = (6 : Int32)
              · rw [if_pos c20] at h
                refine v_tableIn hC 90 dX11_factOf_1 (by rw [c20]; decide) (by rw [c20]; decide) (by rw [c20]; first | done | rfl) rfl ?_
                refine v_aload_n hC dX11_factOf_90 rfl ?_
                refine v_iload hC dX11_factOf_91 rfl ?_
                refine v_iconst (v := (2 : Int32)) hC dX11_factOf_93 rfl ?_
                obtain ⟨r21, M22, q23, h⟩ := bnd_some h
                refine w_callVi hC [.int v4, .int (2 : Int32)] [] (ok_X11_of q23) mv_X11_of aw_1380 ly_208 rfl (Nat.le_of_ble_eq_true rfl) ⟨by decide, by decide⟩ ⟨by decide, by decide⟩ dX11_factOf_94 ?_
                cases h
                exact v_iret hC (by decide) (by decide) dX11_factOf_97
              · rw [if_neg c20] at h
                by_cases c24 : v1 = (7 : Int32)
                · rw [if_pos c24] at h
                  refine v_tableIn hC 98 dX11_factOf_1 (by rw [c24]; decide) (by rw [c24]; decide) (by rw [c24]; first | done | rfl) rfl ?_
                  refine v_aload_n hC dX11_factOf_98 rfl ?_
                  refine v_iload_n hC dX11_factOf_99 rfl ?_
                  refine v_iconst (v := (2 : Int32)) hC dX11_factOf_100 rfl ?_
                  obtain ⟨r25, M26, q27, h⟩ := bnd_some h
                  refine w_callVi hC [.int v3, .int (2 : Int32)] [] (ok_X11_ofCellar q27) mv_X11_ofCellar aw_1510 ly_208 rfl (Nat.le_of_ble_eq_true rfl) ⟨by decide, by decide⟩ ⟨by decide, by decide⟩ dX11_factOf_101 ?_
                  refine v_aload_n hC dX11_factOf_104 rfl ?_
                  refine v_iload hC dX11_factOf_105 rfl ?_
                  refine v_iconst (v := (1 : Int32)) hC dX11_factOf_107 rfl ?_
                  obtain ⟨r28, M29, q30, h⟩ := bnd_some h
                  refine w_callVi hC [.int v4, .int (1 : Int32)] [.int r25] (ok_X11_of q30) mv_X11_of aw_1380 ly_208 rfl (Nat.le_of_ble_eq_true rfl) ⟨by decide, by decide⟩ ⟨by decide, by decide⟩ dX11_factOf_108 ?_
                  refine v_icmp_gt hC 118 dX11_factOf_111 rfl (fun c31 => ?_) (fun c31 => ?_)
                  · rw [if_pos c31] at h
                    refine v_iconst (v := (0 : Int32)) hC dX11_factOf_118 rfl ?_
                    cases h
                    exact v_iret hC (by decide) (by decide) dX11_factOf_119
                  · rw [if_neg c31] at h
                    refine v_iconst (v := (1 : Int32)) hC dX11_factOf_114 rfl ?_
                    refine v_goto (tg := 119) hC dX11_factOf_115 rfl ?_
                    cases h
                    exact v_iret hC (by decide) (by decide) dX11_factOf_119
                · rw [if_neg c24] at h
                  refine v_tableOut hC 120 dX11_factOf_1 (by have t_c1 := lv_neT (k := (0 : Int32)) (a := 0) c1 rfl; have t_c2 := lv_neT (k := (1 : Int32)) (a := 1) c2 rfl; have t_c3 := lv_neT (k := (2 : Int32)) (a := 2) c3 rfl; have t_c7 := lv_neT (k := (3 : Int32)) (a := 3) c7 rfl; have t_c11 := lv_neT (k := (4 : Int32)) (a := 4) c11 rfl; have t_c18 := lv_neT (k := (5 : Int32)) (a := 5) c18 rfl; have t_c20 := lv_neT (k := (6 : Int32)) (a := 6) c20 rfl; have t_c24 := lv_neT (k := (7 : Int32)) (a := 7) c24 rfl; omega) rfl ?_
                  refine v_iload_n hC dX11_factOf_120 rfl ?_
                  cases h
                  exact v_iret hC (by decide) (by decide) dX11_factOf_121
def f_X11_holdsLine_286 (N : Nat) (M : Mm) : Option (Int32 × Mm) :=
  some ((1 : Int32), M)
def f_X11_holdsLine_264 (N : Nat) (k23 : Int32 → Int32 → Int32 → Int32 → Int32 → Mm → Option (Int32 × Mm)) (v2 : Int32) (v3 : Int32) (v4 : Int32) (v5 : Int32) (v6 : Int32) (s1 : Int32) (s2 : Int32) (M : Mm) : Option (Int32 × Mm) :=
  grd (inb s1 400) (lt (wr M 216 (s1).toNatClampNeg s2) (fun M25 => k23 v2 v3 v4 v5 (v6 + (1 : Int32)) M25))
def f_X11_holdsLine_229 (N : Nat) (k23 : Int32 → Int32 → Int32 → Int32 → Int32 → Mm → Option (Int32 × Mm)) (v2 : Int32) (v3 : Int32) (v4 : Int32) (v5 : Int32) (v6 : Int32) (v7 : Int32) (v8 : Int32) (v9 : Int32) (s0 : Int32) (M : Mm) : Option (Int32 × Mm) :=
  (if v7 = (9 : Int32) then f_X11_holdsLine_264 N k23 v2 v3 v4 v5 v6 (v4 - (1 : Int32)) (v8 + v9) M else (if s0 = (0 : Int32) then f_X11_holdsLine_264 N k23 v2 v3 v4 v5 v6 (v4 - (1 : Int32)) (0 : Int32) M else f_X11_holdsLine_264 N k23 v2 v3 v4 v5 v6 (v4 - (1 : Int32)) (1 : Int32) M))
def f_X11_holdsLine_23 (N : Nat) : Nat → Int32 → Int32 → Int32 → Int32 → Int32 → Mm → Option (Int32 × Mm)
  | 0, _, _, _, _, _, _ => none
  | n + 1, v2, v3, v4, v5, v6, M => grd (inb (v5 + (3 : Int32)) 2107) ((if (M 209 ((v5 + (3 : Int32))).toNatClampNeg) ≤ v6 then (if v4 = (0 : Int32) then f_X11_holdsLine_286 N M else grd (inb (0 : Int32) 400) ((if (M 216 ((0 : Int32)).toNatClampNeg) = (1 : Int32) then f_X11_holdsLine_286 N M else some ((0 : Int32), M)))) else grd (inb ((458 : Int32) + ((2 : Int32) * v6)) 2107) (lt (M 209 (((458 : Int32) + ((2 : Int32) * v6))).toNatClampNeg) (fun x10 => (if (8 : Int32) < x10 then (if x10 = (12 : Int32) then grd (inb (v4 - (1 : Int32)) 400) (grd (inb (v4 - (1 : Int32)) 400) (lt (wr M 216 ((v4 - (1 : Int32))).toNatClampNeg ((1 : Int32) - (M 216 ((v4 - (1 : Int32))).toNatClampNeg))) (fun M32 => f_X11_holdsLine_23 N n v2 v3 v4 v5 (v6 + (1 : Int32)) M32))) else grd (inb ((v4 + (-1 : Int32)) - (1 : Int32)) 400) (lt (M 216 (((v4 + (-1 : Int32)) - (1 : Int32))).toNatClampNeg) (fun x15 => grd (inb (v4 + (-1 : Int32)) 400) (lt (M 216 ((v4 + (-1 : Int32))).toNatClampNeg) (fun x17 => (if x10 = (10 : Int32) then (if x17 ≤ x15 then f_X11_holdsLine_229 N (fun v2 v3 v4 v5 v6 M => f_X11_holdsLine_23 N n v2 v3 v4 v5 v6 M) v2 v3 (v4 + (-1 : Int32)) v5 v6 x10 x15 x17 (0 : Int32) M else f_X11_holdsLine_229 N (fun v2 v3 v4 v5 v6 M => f_X11_holdsLine_23 N n v2 v3 v4 v5 v6 M) v2 v3 (v4 + (-1 : Int32)) v5 v6 x10 x15 x17 (1 : Int32) M) else (if x10 = (11 : Int32) then (if x15 ≤ x17 then f_X11_holdsLine_229 N (fun v2 v3 v4 v5 v6 M => f_X11_holdsLine_23 N n v2 v3 v4 v5 v6 M) v2 v3 (v4 + (-1 : Int32)) v5 v6 x10 x15 x17 (0 : Int32) M else f_X11_holdsLine_229 N (fun v2 v3 v4 v5 v6 M => f_X11_holdsLine_23 N n v2 v3 v4 v5 v6 M) v2 v3 (v4 + (-1 : Int32)) v5 v6 x10 x15 x17 (1 : Int32) M) else (if x10 = (13 : Int32) then (if (x15 + x17) = (2 : Int32) then f_X11_holdsLine_229 N (fun v2 v3 v4 v5 v6 M => f_X11_holdsLine_23 N n v2 v3 v4 v5 v6 M) v2 v3 (v4 + (-1 : Int32)) v5 v6 x10 x15 x17 (1 : Int32) M else f_X11_holdsLine_229 N (fun v2 v3 v4 v5 v6 M => f_X11_holdsLine_23 N n v2 v3 v4 v5 v6 M) v2 v3 (v4 + (-1 : Int32)) v5 v6 x10 x15 x17 (0 : Int32) M) else (if (x15 + x17) ≤ (0 : Int32) then f_X11_holdsLine_229 N (fun v2 v3 v4 v5 v6 M => f_X11_holdsLine_23 N n v2 v3 v4 v5 v6 M) v2 v3 (v4 + (-1 : Int32)) v5 v6 x10 x15 x17 (0 : Int32) M else f_X11_holdsLine_229 N (fun v2 v3 v4 v5 v6 M => f_X11_holdsLine_23 N n v2 v3 v4 v5 v6 M) v2 v3 (v4 + (-1 : Int32)) v5 v6 x10 x15 x17 (1 : Int32) M))))))))) else grd (inb (((458 : Int32) + ((2 : Int32) * v6)) + (1 : Int32)) 2107) (bnd (f_X11_factOf N x10 (M 209 ((((458 : Int32) + ((2 : Int32) * v6)) + (1 : Int32))).toNatClampNeg) v2 v3 M) (fun r35 M36 => grd (inb v4 400) (lt (wr M36 216 (v4).toNatClampNeg r35) (fun M39 => f_X11_holdsLine_23 N n v2 v3 (v4 + (1 : Int32)) v5 (v6 + (1 : Int32)) M39)))))))))
def f_X11_holdsLine (N : Nat) (v1 : Int32) (v2 : Int32) (v3 : Int32) (M : Mm) : Option (Int32 × Mm) :=
  lt ((410 : Int32) + ((4 : Int32) * v1)) (fun x1 => grd (inb (x1 + (2 : Int32)) 2107) (lt (M 209 ((x1 + (2 : Int32))).toNatClampNeg) (fun x3 => f_X11_holdsLine_23 N N v2 v3 (0 : Int32) x1 x3 M)))
set_option maxRecDepth 20000 in
set_option maxHeartbeats 4000000 in
theorem ok_X11_holdsLine_286 {N : Nat} {X : am_X} {l : Launch} (hC : am_C X l (am_rm 4 0 0) cX11_holdsLine yX11_holdsLine.cls (some .boolean)) (hnt : am_NT X) {M : Mm} {r : Int32} {M' : Mm} (h : f_X11_holdsLine_286 N M = some (r, M')) : am_V X LY M 0 0 (am_Q X LY 0 0 (.inl (some (.int r))) M') 286 [none, none, none, none, none, none, none, none, none, none, none] [] := by
  unfold f_X11_holdsLine_286 at h
  refine v_iconst (v := (1 : Int32)) hC dX11_holdsLine_286 rfl ?_
  refine v_goto (tg := 291) hC dX11_holdsLine_287 rfl ?_
  cases h
  exact v_zret hC (by decide) (by decide) (by decide) dX11_holdsLine_291
set_option maxRecDepth 20000 in
set_option maxHeartbeats 4000000 in
theorem ok_X11_holdsLine_264 {N : Nat} {X : am_X} {l : Launch} (hC : am_C X l (am_rm 4 0 0) cX11_holdsLine yX11_holdsLine.cls (some .boolean)) (hnt : am_NT X) {k23 : Int32 → Int32 → Int32 → Int32 → Int32 → Mm → Option (Int32 × Mm)} (hk23 : ∀ (v2 v3 v4 v5 v6 : Int32) (M : Mm) (r : Int32) (M' : Mm), k23 v2 v3 v4 v5 v6 M = some (r, M') → am_V X LY M 0 0 (am_Q X LY 0 0 (.inl (some (.int r))) M') 23 [some (.ref 208), none, some (.int v2), some (.int v3), some (.int v4), some (.int v5), some (.int v6), none, none, none, none] []) {v2 v3 v4 v5 v6 s1 s2 : Int32} {M : Mm} {r : Int32} {M' : Mm} (h : f_X11_holdsLine_264 N k23 v2 v3 v4 v5 v6 s1 s2 M = some (r, M')) : am_V X LY M 0 0 (am_Q X LY 0 0 (.inl (some (.int r))) M') 264 [some (.ref 208), none, some (.int v2), some (.int v3), some (.int v4), some (.int v5), some (.int v6), none, none, none, none] [.int s2, .int s1, .ref 216] := by
  unfold f_X11_holdsLine_264 at h
  obtain ⟨g24, h⟩ := grd_some h
  obtain ⟨M25, e_M25, h⟩ := lt_some h
  refine w_iast hC ly_216 (inb_in g24) dX11_holdsLine_264 e_M25 ?_
  refine w_iinc hC (v6 + (1 : Int32)) dX11_holdsLine_265 rfl rfl [some (.ref 208), none, some (.int v2), some (.int v3), some (.int v4), some (.int v5), some (.int (v6 + (1 : Int32))), none, none, none, none] rfl ?_
  refine v_goto (tg := 23) hC dX11_holdsLine_268 rfl ?_
  exact hk23 _ _ _ _ _ _ _ _ h
set_option maxRecDepth 20000 in
set_option maxHeartbeats 4000000 in
theorem ok_X11_holdsLine_229 {N : Nat} {X : am_X} {l : Launch} (hC : am_C X l (am_rm 4 0 0) cX11_holdsLine yX11_holdsLine.cls (some .boolean)) (hnt : am_NT X) {k23 : Int32 → Int32 → Int32 → Int32 → Int32 → Mm → Option (Int32 × Mm)} (hk23 : ∀ (v2 v3 v4 v5 v6 : Int32) (M : Mm) (r : Int32) (M' : Mm), k23 v2 v3 v4 v5 v6 M = some (r, M') → am_V X LY M 0 0 (am_Q X LY 0 0 (.inl (some (.int r))) M') 23 [some (.ref 208), none, some (.int v2), some (.int v3), some (.int v4), some (.int v5), some (.int v6), none, none, none, none] []) {v2 v3 v4 v5 v6 v7 v8 v9 s0 : Int32} {M : Mm} {r : Int32} {M' : Mm} (h : f_X11_holdsLine_229 N k23 v2 v3 v4 v5 v6 v7 v8 v9 s0 M = some (r, M')) : am_V X LY M 0 0 (am_Q X LY 0 0 (.inl (some (.int r))) M') 229 [some (.ref 208), none, some (.int v2), some (.int v3), some (.int v4), some (.int v5), some (.int v6), some (.int v7), some (.int v8), some (.int v9), none] [.int s0] := by
  unfold f_X11_holdsLine_229 at h
  refine w_istore hC dX11_holdsLine_229 (ltk rfl) [some (.ref 208), none, some (.int v2), some (.int v3), some (.int v4), some (.int v5), some (.int v6), some (.int v7), some (.int v8), some (.int v9), some (.int s0)] rfl ?_
  refine v_aload_n hC dX11_holdsLine_231 rfl ?_
  refine v_geta (k := 17) (b := 216) hC cls_X11 ly_208 (by decide) rfl aw_1248 rfl dX11_holdsLine_232 ?_
  refine v_iload hC dX11_holdsLine_235 rfl ?_
  refine v_iconst (v := (1 : Int32)) hC dX11_holdsLine_237 rfl ?_
  refine v_isub hC dX11_holdsLine_238 ?_
  refine v_iload hC dX11_holdsLine_239 rfl ?_
  refine v_bipush (v := (9 : Int32)) hC dX11_holdsLine_241 rfl ?_
  refine v_icmp_ne hC 254 dX11_holdsLine_243 rfl (fun c22 => ?_) (fun c22 => ?_)
  · rw [if_neg c22] at h
    refine v_iload hC dX11_holdsLine_254 rfl ?_
    refine v_if_eq hC 263 dX11_holdsLine_256 rfl (fun c23 => ?_) (fun c23 => ?_)
    · rw [if_pos c23] at h
      refine v_iconst (v := (0 : Int32)) hC dX11_holdsLine_263 rfl ?_
      refine v_drop [true, false, true, true, true, true, true, false, false, false, false] [some (.ref 208), none, some (.int v2), some (.int v3), some (.int v4), some (.int v5), some (.int v6), none, none, none, none] rfl ?_
      exact ok_X11_holdsLine_264 hC hnt hk23 h
    · rw [if_neg c23] at h
      refine v_iconst (v := (1 : Int32)) hC dX11_holdsLine_259 rfl ?_
      refine v_goto (tg := 264) hC dX11_holdsLine_260 rfl ?_
      refine v_drop [true, false, true, true, true, true, true, false, false, false, false] [some (.ref 208), none, some (.int v2), some (.int v3), some (.int v4), some (.int v5), some (.int v6), none, none, none, none] rfl ?_
      exact ok_X11_holdsLine_264 hC hnt hk23 h
  · rw [if_pos c22] at h
    refine v_iload hC dX11_holdsLine_246 rfl ?_
    refine v_iload hC dX11_holdsLine_248 rfl ?_
    refine v_iadd hC dX11_holdsLine_250 ?_
    refine v_goto (tg := 264) hC dX11_holdsLine_251 rfl ?_
    refine v_drop [true, false, true, true, true, true, true, false, false, false, false] [some (.ref 208), none, some (.int v2), some (.int v3), some (.int v4), some (.int v5), some (.int v6), none, none, none, none] rfl ?_
    exact ok_X11_holdsLine_264 hC hnt hk23 h
set_option maxRecDepth 20000 in
set_option maxHeartbeats 4000000 in
theorem ok_X11_holdsLine_23 {N : Nat} {X : am_X} {l : Launch} (hC : am_C X l (am_rm 4 0 0) cX11_holdsLine yX11_holdsLine.cls (some .boolean)) (hnt : am_NT X) : ∀ (n : Nat) (v2 v3 v4 v5 v6 : Int32) (M : Mm) (r : Int32) (M' : Mm), f_X11_holdsLine_23 N n v2 v3 v4 v5 v6 M = some (r, M') → am_V X LY M 0 0 (am_Q X LY 0 0 (.inl (some (.int r))) M') 23 [some (.ref 208), none, some (.int v2), some (.int v3), some (.int v4), some (.int v5), some (.int v6), none, none, none, none] [] := by
  intro n
  induction n with
  | zero => intro v2 v3 v4 v5 v6 M r M' h; cases h
  | succ n ih =>
    intro v2 v3 v4 v5 v6 M r M' h
    simp only [f_X11_holdsLine_23] at h
    refine v_iload hC dX11_holdsLine_23 rfl ?_
    refine v_aload_n hC dX11_holdsLine_25 rfl ?_
    refine v_geta (k := 1) (b := 209) hC cls_X11 ly_208 (by decide) rfl aw_1232 rfl dX11_holdsLine_26 ?_
    refine v_iload hC dX11_holdsLine_29 rfl ?_
    refine v_iconst (v := (3 : Int32)) hC dX11_holdsLine_31 rfl ?_
    refine v_iadd hC dX11_holdsLine_32 ?_
    obtain ⟨g4, h⟩ := grd_some h
    refine v_iald hC ly_209 (inb_in g4) dX11_holdsLine_33 ?_
    refine v_icmp_ge hC 271 dX11_holdsLine_34 rfl (fun c5 => ?_) (fun c5 => ?_)
    · rw [if_pos c5] at h
      refine v_iload hC dX11_holdsLine_271 rfl ?_
      refine v_if_eq hC 286 dX11_holdsLine_273 rfl (fun c6 => ?_) (fun c6 => ?_)
      · rw [if_pos c6] at h
        refine v_drop [false, false, false, false, false, false, false, false, false, false, false] [none, none, none, none, none, none, none, none, none, none, none] rfl ?_
        exact ok_X11_holdsLine_286 hC hnt h
      · rw [if_neg c6] at h
        refine v_aload_n hC dX11_holdsLine_276 rfl ?_
        refine v_geta (k := 17) (b := 216) hC cls_X11 ly_208 (by decide) rfl aw_1248 rfl dX11_holdsLine_277 ?_
        refine v_iconst (v := (0 : Int32)) hC dX11_holdsLine_280 rfl ?_
        obtain ⟨g7, h⟩ := grd_some h
        refine v_iald hC ly_216 (inb_in g7) dX11_holdsLine_281 ?_
        refine v_iconst (v := (1 : Int32)) hC dX11_holdsLine_282 rfl ?_
        refine v_icmp_ne hC 290 dX11_holdsLine_283 rfl (fun c8 => ?_) (fun c8 => ?_)
        · rw [if_neg c8] at h
          refine v_iconst (v := (0 : Int32)) hC dX11_holdsLine_290 rfl ?_
          cases h
          exact v_zret hC (by decide) (by decide) (by decide) dX11_holdsLine_291
        · rw [if_pos c8] at h
          refine v_drop [false, false, false, false, false, false, false, false, false, false, false] [none, none, none, none, none, none, none, none, none, none, none] rfl ?_
          exact ok_X11_holdsLine_286 hC hnt h
    · rw [if_neg c5] at h
      refine v_aload_n hC dX11_holdsLine_37 rfl ?_
      refine v_geta (k := 1) (b := 209) hC cls_X11 ly_208 (by decide) rfl aw_1232 rfl dX11_holdsLine_38 ?_
      refine v_sipush (v := (458 : Int32)) hC dX11_holdsLine_41 rfl ?_
      refine v_iconst (v := (2 : Int32)) hC dX11_holdsLine_44 rfl ?_
      refine v_iload hC dX11_holdsLine_45 rfl ?_
      refine v_imul hC dX11_holdsLine_47 ?_
      refine v_iadd hC dX11_holdsLine_48 ?_
      obtain ⟨g9, h⟩ := grd_some h
      refine v_iald hC ly_209 (inb_in g9) dX11_holdsLine_49 ?_
      obtain ⟨x10, e_x10, h⟩ := lt_some h
      refine v_nam e_x10 ?_
      refine w_istore hC dX11_holdsLine_50 (ltk rfl) [some (.ref 208), none, some (.int v2), some (.int v3), some (.int v4), some (.int v5), some (.int v6), some (.int x10), none, none, none] rfl ?_
      refine v_iload hC dX11_holdsLine_52 rfl ?_
      refine v_bipush (v := (8 : Int32)) hC dX11_holdsLine_54 rfl ?_
      refine v_icmp_gt hC 95 dX11_holdsLine_56 rfl (fun c11 => ?_) (fun c11 => ?_)
      · rw [if_pos c11] at h
        refine v_iload hC dX11_holdsLine_95 rfl ?_
        refine v_bipush (v := (12 : Int32)) hC dX11_holdsLine_97 rfl ?_
        refine v_icmp_ne hC 125 dX11_holdsLine_99 rfl (fun c12 => ?_) (fun c12 => ?_)
        · rw [if_neg c12] at h
          refine w_iinc hC (v4 + (-1 : Int32)) dX11_holdsLine_125 rfl rfl [some (.ref 208), none, some (.int v2), some (.int v3), some (.int (v4 + (-1 : Int32))), some (.int v5), some (.int v6), some (.int x10), none, none, none] rfl ?_
          refine v_aload_n hC dX11_holdsLine_128 rfl ?_
          refine v_geta (k := 17) (b := 216) hC cls_X11 ly_208 (by decide) rfl aw_1248 rfl dX11_holdsLine_129 ?_
          refine v_iload hC dX11_holdsLine_132 rfl ?_
          refine v_iconst (v := (1 : Int32)) hC dX11_holdsLine_134 rfl ?_
          refine v_isub hC dX11_holdsLine_135 ?_
          obtain ⟨g14, h⟩ := grd_some h
          refine v_iald hC ly_216 (inb_in g14) dX11_holdsLine_136 ?_
          obtain ⟨x15, e_x15, h⟩ := lt_some h
          refine v_nam e_x15 ?_
          refine w_istore hC dX11_holdsLine_137 (ltk rfl) [some (.ref 208), none, some (.int v2), some (.int v3), some (.int (v4 + (-1 : Int32))), some (.int v5), some (.int v6), some (.int x10), some (.int x15), none, none] rfl ?_
          refine v_aload_n hC dX11_holdsLine_139 rfl ?_
          refine v_geta (k := 17) (b := 216) hC cls_X11 ly_208 (by decide) rfl aw_1248 rfl dX11_holdsLine_140 ?_
          refine v_iload hC dX11_holdsLine_143 rfl ?_
          obtain ⟨g16, h⟩ := grd_some h
          refine v_iald hC ly_216 (inb_in g16) dX11_holdsLine_145 ?_
          obtain ⟨x17, e_x17, h⟩ := lt_some h
          refine v_nam e_x17 ?_
          refine w_istore hC dX11_holdsLine_146 (ltk rfl) [some (.ref 208), none, some (.int v2), some (.int v3), some (.int (v4 + (-1 : Int32))), some (.int v5), some (.int v6), some (.int x10), some (.int x15), some (.int x17), none] rfl ?_
          refine v_iload hC dX11_holdsLine_148 rfl ?_
          refine v_bipush (v := (10 : Int32)) hC dX11_holdsLine_150 rfl ?_
          refine v_icmp_ne hC 170 dX11_holdsLine_152 rfl (fun c18 => ?_) (fun c18 => ?_)
          · rw [if_neg c18] at h
            refine v_iload hC dX11_holdsLine_170 rfl ?_
            refine v_bipush (v := (11 : Int32)) hC dX11_holdsLine_172 rfl ?_
            refine v_icmp_ne hC 192 dX11_holdsLine_174 rfl (fun c19 => ?_) (fun c19 => ?_)
            · rw [if_neg c19] at h
              refine v_iload hC dX11_holdsLine_192 rfl ?_
              refine v_bipush (v := (13 : Int32)) hC dX11_holdsLine_194 rfl ?_
              refine v_icmp_ne hC 216 dX11_holdsLine_196 rfl (fun c20 => ?_) (fun c20 => ?_)
              · rw [if_neg c20] at h
                refine v_iload hC dX11_holdsLine_216 rfl ?_
                refine v_iload hC dX11_holdsLine_218 rfl ?_
                refine v_iadd hC dX11_holdsLine_220 ?_
                refine v_if_le hC 228 dX11_holdsLine_221 rfl (fun c21 => ?_) (fun c21 => ?_)
                · rw [if_pos c21] at h
                  refine v_iconst (v := (0 : Int32)) hC dX11_holdsLine_228 rfl ?_
                  exact ok_X11_holdsLine_229 hC hnt (fun v2 v3 v4 v5 v6 M r M' h => ih v2 v3 v4 v5 v6 M r M' h) h
                · rw [if_neg c21] at h
                  refine v_iconst (v := (1 : Int32)) hC dX11_holdsLine_224 rfl ?_
                  refine v_goto (tg := 229) hC dX11_holdsLine_225 rfl ?_
                  exact ok_X11_holdsLine_229 hC hnt (fun v2 v3 v4 v5 v6 M r M' h => ih v2 v3 v4 v5 v6 M r M' h) h
              · rw [if_pos c20] at h
                refine v_iload hC dX11_holdsLine_199 rfl ?_
                refine v_iload hC dX11_holdsLine_201 rfl ?_
                refine v_iadd hC dX11_holdsLine_203 ?_
                refine v_iconst (v := (2 : Int32)) hC dX11_holdsLine_204 rfl ?_
                refine v_icmp_ne hC 212 dX11_holdsLine_205 rfl (fun c27 => ?_) (fun c27 => ?_)
                · rw [if_neg c27] at h
                  refine v_iconst (v := (0 : Int32)) hC dX11_holdsLine_212 rfl ?_
                  refine v_goto (tg := 229) hC dX11_holdsLine_213 rfl ?_
                  exact ok_X11_holdsLine_229 hC hnt (fun v2 v3 v4 v5 v6 M r M' h => ih v2 v3 v4 v5 v6 M r M' h) h
                · rw [if_pos c27] at h
                  refine v_iconst (v := (1 : Int32)) hC dX11_holdsLine_208 rfl ?_
                  refine v_goto (tg := 229) hC dX11_holdsLine_209 rfl ?_
                  exact ok_X11_holdsLine_229 hC hnt (fun v2 v3 v4 v5 v6 M r M' h => ih v2 v3 v4 v5 v6 M r M' h) h
            · rw [if_pos c19] at h
              refine v_iload hC dX11_holdsLine_177 rfl ?_
              refine v_iload hC dX11_holdsLine_179 rfl ?_
              refine v_icmp_le hC 188 dX11_holdsLine_181 rfl (fun c28 => ?_) (fun c28 => ?_)
              · rw [if_pos c28] at h
                refine v_iconst (v := (0 : Int32)) hC dX11_holdsLine_188 rfl ?_
                refine v_goto (tg := 229) hC dX11_holdsLine_189 rfl ?_
                exact ok_X11_holdsLine_229 hC hnt (fun v2 v3 v4 v5 v6 M r M' h => ih v2 v3 v4 v5 v6 M r M' h) h
              · rw [if_neg c28] at h
                refine v_iconst (v := (1 : Int32)) hC dX11_holdsLine_184 rfl ?_
                refine v_goto (tg := 229) hC dX11_holdsLine_185 rfl ?_
                exact ok_X11_holdsLine_229 hC hnt (fun v2 v3 v4 v5 v6 M r M' h => ih v2 v3 v4 v5 v6 M r M' h) h
          · rw [if_pos c18] at h
            refine v_iload hC dX11_holdsLine_155 rfl ?_
            refine v_iload hC dX11_holdsLine_157 rfl ?_
            refine v_icmp_ge hC 166 dX11_holdsLine_159 rfl (fun c29 => ?_) (fun c29 => ?_)
            · rw [if_pos c29] at h
              refine v_iconst (v := (0 : Int32)) hC dX11_holdsLine_166 rfl ?_
              refine v_goto (tg := 229) hC dX11_holdsLine_167 rfl ?_
              exact ok_X11_holdsLine_229 hC hnt (fun v2 v3 v4 v5 v6 M r M' h => ih v2 v3 v4 v5 v6 M r M' h) h
            · rw [if_neg c29] at h
              refine v_iconst (v := (1 : Int32)) hC dX11_holdsLine_162 rfl ?_
              refine v_goto (tg := 229) hC dX11_holdsLine_163 rfl ?_
              exact ok_X11_holdsLine_229 hC hnt (fun v2 v3 v4 v5 v6 M r M' h => ih v2 v3 v4 v5 v6 M r M' h) h
        · rw [if_pos c12] at h
          refine v_aload_n hC dX11_holdsLine_102 rfl ?_
          refine v_geta (k := 17) (b := 216) hC cls_X11 ly_208 (by decide) rfl aw_1248 rfl dX11_holdsLine_103 ?_
          refine v_iload hC dX11_holdsLine_106 rfl ?_
          refine v_iconst (v := (1 : Int32)) hC dX11_holdsLine_108 rfl ?_
          refine v_isub hC dX11_holdsLine_109 ?_
          refine v_iconst (v := (1 : Int32)) hC dX11_holdsLine_110 rfl ?_
          refine v_aload_n hC dX11_holdsLine_111 rfl ?_
          refine v_geta (k := 17) (b := 216) hC cls_X11 ly_208 (by decide) rfl aw_1248 rfl dX11_holdsLine_112 ?_
          refine v_iload hC dX11_holdsLine_115 rfl ?_
          refine v_iconst (v := (1 : Int32)) hC dX11_holdsLine_117 rfl ?_
          refine v_isub hC dX11_holdsLine_118 ?_
          obtain ⟨g30, h⟩ := grd_some h
          refine v_iald hC ly_216 (inb_in g30) dX11_holdsLine_119 ?_
          refine v_isub hC dX11_holdsLine_120 ?_
          obtain ⟨g31, h⟩ := grd_some h
          obtain ⟨M32, e_M32, h⟩ := lt_some h
          refine w_iast hC ly_216 (inb_in g31) dX11_holdsLine_121 e_M32 ?_
          refine v_goto (tg := 265) hC dX11_holdsLine_122 rfl ?_
          refine w_iinc hC (v6 + (1 : Int32)) dX11_holdsLine_265 rfl rfl [some (.ref 208), none, some (.int v2), some (.int v3), some (.int v4), some (.int v5), some (.int (v6 + (1 : Int32))), some (.int x10), none, none, none] rfl ?_
          refine v_goto (tg := 23) hC dX11_holdsLine_268 rfl ?_
          refine v_drop [true, false, true, true, true, true, true, false, false, false, false] [some (.ref 208), none, some (.int v2), some (.int v3), some (.int v4), some (.int v5), some (.int (v6 + (1 : Int32))), none, none, none, none] rfl ?_
          exact ih _ _ _ _ _ _ _ _ h
      · rw [if_neg c11] at h
        refine v_aload_n hC dX11_holdsLine_59 rfl ?_
        refine v_geta (k := 17) (b := 216) hC cls_X11 ly_208 (by decide) rfl aw_1248 rfl dX11_holdsLine_60 ?_
        refine v_iload hC dX11_holdsLine_63 rfl ?_
        refine v_aload_n hC dX11_holdsLine_65 rfl ?_
        refine v_iload hC dX11_holdsLine_66 rfl ?_
        refine v_aload_n hC dX11_holdsLine_68 rfl ?_
        refine v_geta (k := 1) (b := 209) hC cls_X11 ly_208 (by decide) rfl aw_1232 rfl dX11_holdsLine_69 ?_
        refine v_sipush (v := (458 : Int32)) hC dX11_holdsLine_72 rfl ?_
        refine v_iconst (v := (2 : Int32)) hC dX11_holdsLine_75 rfl ?_
        refine v_iload hC dX11_holdsLine_76 rfl ?_
        refine v_imul hC dX11_holdsLine_78 ?_
        refine v_iadd hC dX11_holdsLine_79 ?_
        refine v_iconst (v := (1 : Int32)) hC dX11_holdsLine_80 rfl ?_
        refine v_iadd hC dX11_holdsLine_81 ?_
        obtain ⟨g34, h⟩ := grd_some h
        refine v_iald hC ly_209 (inb_in g34) dX11_holdsLine_82 ?_
        refine v_iload_n hC dX11_holdsLine_83 rfl ?_
        refine v_iload_n hC dX11_holdsLine_84 rfl ?_
        obtain ⟨r35, M36, q37, h⟩ := bnd_some h
        refine w_callVi hC [.int x10, .int (M 209 ((((458 : Int32) + ((2 : Int32) * v6)) + (1 : Int32))).toNatClampNeg), .int v2, .int v3] [.int v4, .ref 216] (ok_X11_factOf q37) mv_X11_factOf aw_1546 ly_208 rfl (Nat.le_of_ble_eq_true rfl) ⟨by decide, by decide⟩ ⟨by decide, by decide⟩ dX11_holdsLine_85 ?_
        obtain ⟨g38, h⟩ := grd_some h
        obtain ⟨M39, e_M39, h⟩ := lt_some h
        refine w_iast hC ly_216 (inb_in g38) dX11_holdsLine_88 e_M39 ?_
        refine w_iinc hC (v4 + (1 : Int32)) dX11_holdsLine_89 rfl rfl [some (.ref 208), none, some (.int v2), some (.int v3), some (.int (v4 + (1 : Int32))), some (.int v5), some (.int v6), some (.int x10), none, none, none] rfl ?_
        refine v_goto (tg := 265) hC dX11_holdsLine_92 rfl ?_
        refine w_iinc hC (v6 + (1 : Int32)) dX11_holdsLine_265 rfl rfl [some (.ref 208), none, some (.int v2), some (.int v3), some (.int (v4 + (1 : Int32))), some (.int v5), some (.int (v6 + (1 : Int32))), some (.int x10), none, none, none] rfl ?_
        refine v_goto (tg := 23) hC dX11_holdsLine_268 rfl ?_
        refine v_drop [true, false, true, true, true, true, true, false, false, false, false] [some (.ref 208), none, some (.int v2), some (.int v3), some (.int (v4 + (1 : Int32))), some (.int v5), some (.int (v6 + (1 : Int32))), none, none, none, none] rfl ?_
        exact ih _ _ _ _ _ _ _ _ h
set_option maxRecDepth 20000 in
set_option maxHeartbeats 4000000 in
theorem ok_X11_holdsLine {l : Launch} {N : Nat} {v1 v2 v3 : Int32} {M : Mm} {r : Int32} {M' : Mm} (h : f_X11_holdsLine N v1 v2 v3 M = some (r, M')) : am_M l yX11_holdsLine cX11_holdsLine 11 (some .boolean) 4 0 0 LY M [.ref 208, .int v1, .int v2, .int v3] (.inl (some (.int r))) M' := by
  unfold f_X11_holdsLine at h
  refine am_intro (by decide) (by simp [Value.category]) (Nat.le_of_ble_eq_true rfl) (fun X hC hnt => ?_)
  refine am_start (L := [some (.ref 208), some (.int v1), some (.int v2), some (.int v3), none, none, none, none, none, none, none]) rfl ?_
  refine v_iconst (v := (0 : Int32)) hC dX11_holdsLine_0 rfl ?_
  refine w_istore hC dX11_holdsLine_1 (ltk rfl) [some (.ref 208), some (.int v1), some (.int v2), some (.int v3), some (.int (0 : Int32)), none, none, none, none, none, none] rfl ?_
  refine v_sipush (v := (410 : Int32)) hC dX11_holdsLine_3 rfl ?_
  refine v_iconst (v := (4 : Int32)) hC dX11_holdsLine_6 rfl ?_
  refine v_iload_n hC dX11_holdsLine_7 rfl ?_
  refine v_imul hC dX11_holdsLine_8 ?_
  refine v_iadd hC dX11_holdsLine_9 ?_
  obtain ⟨x1, e_x1, h⟩ := lt_some h
  refine v_nam e_x1 ?_
  refine w_istore hC dX11_holdsLine_10 (ltk rfl) [some (.ref 208), some (.int v1), some (.int v2), some (.int v3), some (.int (0 : Int32)), some (.int x1), none, none, none, none, none] rfl ?_
  refine v_aload_n hC dX11_holdsLine_12 rfl ?_
  refine v_geta (k := 1) (b := 209) hC cls_X11 ly_208 (by decide) rfl aw_1232 rfl dX11_holdsLine_13 ?_
  refine v_iload hC dX11_holdsLine_16 rfl ?_
  refine v_iconst (v := (2 : Int32)) hC dX11_holdsLine_18 rfl ?_
  refine v_iadd hC dX11_holdsLine_19 ?_
  obtain ⟨g2, h⟩ := grd_some h
  refine v_iald hC ly_209 (inb_in g2) dX11_holdsLine_20 ?_
  obtain ⟨x3, e_x3, h⟩ := lt_some h
  refine v_nam e_x3 ?_
  refine w_istore hC dX11_holdsLine_21 (ltk rfl) [some (.ref 208), some (.int v1), some (.int v2), some (.int v3), some (.int (0 : Int32)), some (.int x1), some (.int x3), none, none, none, none] rfl ?_
  refine v_drop [true, false, true, true, true, true, true, false, false, false, false] [some (.ref 208), none, some (.int v2), some (.int v3), some (.int (0 : Int32)), some (.int x1), some (.int x3), none, none, none, none] rfl ?_
  exact ok_X11_holdsLine_23 hC hnt N _ _ _ _ _ _ _ _ h
def f_X11_sumOf_6 (N : Nat) : Nat → Int32 → Int32 → Int32 → Int32 → Int32 → Mm → Option (Int32 × Mm)
  | 0, _, _, _, _, _, _ => none
  | n + 1, v1, v2, v3, v4, v5, M => grd (inb (3 : Int32) 2107) ((if (M 209 ((3 : Int32)).toNatClampNeg) = (1 : Int32) then grd (inb (409 : Int32) 2107) ((if (M 209 ((409 : Int32)).toNatClampNeg) ≤ v5 then some (v4, M) else grd (inb ((410 : Int32) + ((4 : Int32) * v5)) 2107) ((if (M 209 (((410 : Int32) + ((4 : Int32) * v5))).toNatClampNeg) = v1 then bnd (f_X11_holdsLine N v5 v2 v3 M) (fun r8 M9 => (if r8 = (0 : Int32) then f_X11_sumOf_6 N n v1 v2 v3 v4 (v5 + (1 : Int32)) M9 else grd (inb (((410 : Int32) + ((4 : Int32) * v5)) + (1 : Int32)) 2107) (lt (v4 + (M9 209 ((((410 : Int32) + ((4 : Int32) * v5)) + (1 : Int32))).toNatClampNeg)) (fun x14 => f_X11_sumOf_6 N n v1 v2 v3 x14 (v5 + (1 : Int32)) M9)))) else f_X11_sumOf_6 N n v1 v2 v3 v4 (v5 + (1 : Int32)) M)))) else some (v4, M)))
def f_X11_sumOf (N : Nat) (v1 : Int32) (v2 : Int32) (v3 : Int32) (M : Mm) : Option (Int32 × Mm) :=
  f_X11_sumOf_6 N N v1 v2 v3 (0 : Int32) (0 : Int32) M
set_option maxRecDepth 20000 in
set_option maxHeartbeats 4000000 in
theorem ok_X11_sumOf_6 {N : Nat} {X : am_X} {l : Launch} (hC : am_C X l (am_rm 5 0 0) cX11_sumOf yX11_sumOf.cls (some .int)) (hnt : am_NT X) : ∀ (n : Nat) (v1 v2 v3 v4 v5 : Int32) (M : Mm) (r : Int32) (M' : Mm), f_X11_sumOf_6 N n v1 v2 v3 v4 v5 M = some (r, M') → am_V X LY M 0 0 (am_Q X LY 0 0 (.inl (some (.int r))) M') 6 [some (.ref 208), some (.int v1), some (.int v2), some (.int v3), some (.int v4), some (.int v5)] [] := by
  intro n
  induction n with
  | zero => intro v1 v2 v3 v4 v5 M r M' h; cases h
  | succ n ih =>
    intro v1 v2 v3 v4 v5 M r M' h
    simp only [f_X11_sumOf_6] at h
    refine v_aload_n hC dX11_sumOf_6 rfl ?_
    refine v_geta (k := 1) (b := 209) hC cls_X11 ly_208 (by decide) rfl aw_1232 rfl dX11_sumOf_7 ?_
    refine v_iconst (v := (3 : Int32)) hC dX11_sumOf_10 rfl ?_
    obtain ⟨g1, h⟩ := grd_some h
    refine v_iald hC ly_209 (inb_in g1) dX11_sumOf_11 ?_
    refine v_iconst (v := (1 : Int32)) hC dX11_sumOf_12 rfl ?_
    refine v_icmp_ne hC 83 dX11_sumOf_13 rfl (fun c2 => ?_) (fun c2 => ?_)
    · rw [if_neg c2] at h
      refine v_iload hC dX11_sumOf_83 rfl ?_
      cases h
      exact v_iret hC (by decide) (by decide) dX11_sumOf_85
    · rw [if_pos c2] at h
      refine v_iload hC dX11_sumOf_16 rfl ?_
      refine v_aload_n hC dX11_sumOf_18 rfl ?_
      refine v_geta (k := 1) (b := 209) hC cls_X11 ly_208 (by decide) rfl aw_1232 rfl dX11_sumOf_19 ?_
      refine v_sipush (v := (409 : Int32)) hC dX11_sumOf_22 rfl ?_
      obtain ⟨g3, h⟩ := grd_some h
      refine v_iald hC ly_209 (inb_in g3) dX11_sumOf_25 ?_
      refine v_icmp_ge hC 83 dX11_sumOf_26 rfl (fun c4 => ?_) (fun c4 => ?_)
      · rw [if_pos c4] at h
        refine v_iload hC dX11_sumOf_83 rfl ?_
        cases h
        exact v_iret hC (by decide) (by decide) dX11_sumOf_85
      · rw [if_neg c4] at h
        refine v_aload_n hC dX11_sumOf_29 rfl ?_
        refine v_geta (k := 1) (b := 209) hC cls_X11 ly_208 (by decide) rfl aw_1232 rfl dX11_sumOf_30 ?_
        refine v_sipush (v := (410 : Int32)) hC dX11_sumOf_33 rfl ?_
        refine v_iconst (v := (4 : Int32)) hC dX11_sumOf_36 rfl ?_
        refine v_iload hC dX11_sumOf_37 rfl ?_
        refine v_imul hC dX11_sumOf_39 ?_
        refine v_iadd hC dX11_sumOf_40 ?_
        obtain ⟨g5, h⟩ := grd_some h
        refine v_iald hC ly_209 (inb_in g5) dX11_sumOf_41 ?_
        refine v_iload_n hC dX11_sumOf_42 rfl ?_
        refine v_icmp_ne hC 77 dX11_sumOf_43 rfl (fun c6 => ?_) (fun c6 => ?_)
        · rw [if_neg c6] at h
          refine w_iinc hC (v5 + (1 : Int32)) dX11_sumOf_77 rfl rfl [some (.ref 208), some (.int v1), some (.int v2), some (.int v3), some (.int v4), some (.int (v5 + (1 : Int32)))] rfl ?_
          refine v_goto (tg := 6) hC dX11_sumOf_80 rfl ?_
          exact ih _ _ _ _ _ _ _ _ h
        · rw [if_pos c6] at h
          refine v_aload_n hC dX11_sumOf_46 rfl ?_
          refine v_iload hC dX11_sumOf_47 rfl ?_
          refine v_iload_n hC dX11_sumOf_49 rfl ?_
          refine v_iload_n hC dX11_sumOf_50 rfl ?_
          obtain ⟨r8, M9, q10, h⟩ := bnd_some h
          refine w_callVi hC [.int v5, .int v2, .int v3] [] (ok_X11_holdsLine q10) mv_X11_holdsLine aw_1542 ly_208 rfl (Nat.le_of_ble_eq_true rfl) ⟨by decide, by decide⟩ ⟨by decide, by decide⟩ dX11_sumOf_51 ?_
          refine v_if_eq hC 77 dX11_sumOf_54 rfl (fun c11 => ?_) (fun c11 => ?_)
          · rw [if_pos c11] at h
            refine w_iinc hC (v5 + (1 : Int32)) dX11_sumOf_77 rfl rfl [some (.ref 208), some (.int v1), some (.int v2), some (.int v3), some (.int v4), some (.int (v5 + (1 : Int32)))] rfl ?_
            refine v_goto (tg := 6) hC dX11_sumOf_80 rfl ?_
            exact ih _ _ _ _ _ _ _ _ h
          · rw [if_neg c11] at h
            refine v_iload hC dX11_sumOf_57 rfl ?_
            refine v_aload_n hC dX11_sumOf_59 rfl ?_
            refine v_geta (k := 1) (b := 209) hC cls_X11 ly_208 (by decide) rfl aw_1232 rfl dX11_sumOf_60 ?_
            refine v_sipush (v := (410 : Int32)) hC dX11_sumOf_63 rfl ?_
            refine v_iconst (v := (4 : Int32)) hC dX11_sumOf_66 rfl ?_
            refine v_iload hC dX11_sumOf_67 rfl ?_
            refine v_imul hC dX11_sumOf_69 ?_
            refine v_iadd hC dX11_sumOf_70 ?_
            refine v_iconst (v := (1 : Int32)) hC dX11_sumOf_71 rfl ?_
            refine v_iadd hC dX11_sumOf_72 ?_
            obtain ⟨g13, h⟩ := grd_some h
            refine v_iald hC ly_209 (inb_in g13) dX11_sumOf_73 ?_
            refine v_iadd hC dX11_sumOf_74 ?_
            obtain ⟨x14, e_x14, h⟩ := lt_some h
            refine v_nam e_x14 ?_
            refine w_istore hC dX11_sumOf_75 (ltk rfl) [some (.ref 208), some (.int v1), some (.int v2), some (.int v3), some (.int x14), some (.int v5)] rfl ?_
            refine w_iinc hC (v5 + (1 : Int32)) dX11_sumOf_77 rfl rfl [some (.ref 208), some (.int v1), some (.int v2), some (.int v3), some (.int x14), some (.int (v5 + (1 : Int32)))] rfl ?_
            refine v_goto (tg := 6) hC dX11_sumOf_80 rfl ?_
            exact ih _ _ _ _ _ _ _ _ h
set_option maxRecDepth 20000 in
set_option maxHeartbeats 4000000 in
theorem ok_X11_sumOf {l : Launch} {N : Nat} {v1 v2 v3 : Int32} {M : Mm} {r : Int32} {M' : Mm} (h : f_X11_sumOf N v1 v2 v3 M = some (r, M')) : am_M l yX11_sumOf cX11_sumOf 6 (some .int) 5 0 0 LY M [.ref 208, .int v1, .int v2, .int v3] (.inl (some (.int r))) M' := by
  unfold f_X11_sumOf at h
  refine am_intro (by decide) (by simp [Value.category]) (Nat.le_of_ble_eq_true rfl) (fun X hC hnt => ?_)
  refine am_start (L := [some (.ref 208), some (.int v1), some (.int v2), some (.int v3), none, none]) rfl ?_
  refine v_iconst (v := (0 : Int32)) hC dX11_sumOf_0 rfl ?_
  refine w_istore hC dX11_sumOf_1 (ltk rfl) [some (.ref 208), some (.int v1), some (.int v2), some (.int v3), some (.int (0 : Int32)), none] rfl ?_
  refine v_iconst (v := (0 : Int32)) hC dX11_sumOf_3 rfl ?_
  refine w_istore hC dX11_sumOf_4 (ltk rfl) [some (.ref 208), some (.int v1), some (.int v2), some (.int v3), some (.int (0 : Int32)), some (.int (0 : Int32))] rfl ?_
  exact ok_X11_sumOf_6 hC hnt N _ _ _ _ _ _ _ _ h
def f_X11_takenBy_19 (N : Nat) (v1 : Int32) (v2 : Int32) (s0 : Int32) (s1 : Int32) (M : Mm) : Option (Int32 × Mm) :=
  bnd (f_X11_ofCellar N v1 (3 : Int32) M) (fun r8 M9 => lt (if s0 < (s1 - r8) then (s1 - r8) else s0) (fun x11 => bnd (f_X11_sumOf N (0 : Int32) v1 v2 M9) (fun r12 M13 => bnd (f_X11_sumOf N (1 : Int32) v1 v2 M13) (fun r15 M16 => lt (x11 + (r12 - r15)) (fun x18 => bnd (f_X11_ofCellar N v1 (2 : Int32) M16) (fun r19 M20 => some ((if (if (0 : Int32) < x18 then x18 else (0 : Int32)) < r19 then (if (0 : Int32) < x18 then x18 else (0 : Int32)) else r19), M20)))))))
def f_X11_takenBy (N : Nat) (v1 : Int32) (v2 : Int32) (M : Mm) : Option (Int32 × Mm) :=
  bnd (f_X11_onDiet N v2 M) (fun r1 M2 => (if r1 = (0 : Int32) then bnd (f_X11_of N v2 (1 : Int32) M2) (fun r5 M6 => f_X11_takenBy_19 N v1 v2 (0 : Int32) r5 M6) else f_X11_takenBy_19 N v1 v2 (0 : Int32) (0 : Int32) M2))
set_option maxRecDepth 20000 in
set_option maxHeartbeats 4000000 in
theorem ok_X11_takenBy_19 {N : Nat} {X : am_X} {l : Launch} (hC : am_C X l (am_rm 6 0 0) cX11_takenBy yX11_takenBy.cls (some .int)) (hnt : am_NT X) {v1 v2 s0 s1 : Int32} {M : Mm} {r : Int32} {M' : Mm} (h : f_X11_takenBy_19 N v1 v2 s0 s1 M = some (r, M')) : am_V X LY M 0 0 (am_Q X LY 0 0 (.inl (some (.int r))) M') 19 [some (.ref 208), some (.int v1), some (.int v2), none] [.int s1, .int s0] := by
  unfold f_X11_takenBy_19 at h
  refine v_aload_n hC dX11_takenBy_19 rfl ?_
  refine v_iload_n hC dX11_takenBy_20 rfl ?_
  refine v_iconst (v := (3 : Int32)) hC dX11_takenBy_21 rfl ?_
  obtain ⟨r8, M9, q10, h⟩ := bnd_some h
  refine w_callVi hC [.int v1, .int (3 : Int32)] [.int s1, .int s0] (ok_X11_ofCellar q10) mv_X11_ofCellar aw_1510 ly_208 rfl (Nat.le_of_ble_eq_true rfl) ⟨by decide, by decide⟩ ⟨by decide, by decide⟩ dX11_takenBy_22 ?_
  refine v_isub hC dX11_takenBy_25 ?_
  refine v_mmax hC aw_1537 wm_max (Nat.le_of_ble_eq_true rfl) (Nat.le_of_ble_eq_true rfl) (Nat.le_of_ble_eq_true rfl) (Nat.le_of_ble_eq_true rfl) dX11_takenBy_26 ?_
  obtain ⟨x11, e_x11, h⟩ := lt_some h
  refine v_nam e_x11 ?_
  refine w_istore_n hC dX11_takenBy_29 (ltk rfl) [some (.ref 208), some (.int v1), some (.int v2), some (.int x11)] rfl ?_
  refine v_iload_n hC dX11_takenBy_30 rfl ?_
  refine v_aload_n hC dX11_takenBy_31 rfl ?_
  refine v_iconst (v := (0 : Int32)) hC dX11_takenBy_32 rfl ?_
  refine v_iload_n hC dX11_takenBy_33 rfl ?_
  refine v_iload_n hC dX11_takenBy_34 rfl ?_
  obtain ⟨r12, M13, q14, h⟩ := bnd_some h
  refine w_callVi hC [.int (0 : Int32), .int v1, .int v2] [.int x11] (ok_X11_sumOf q14) mv_X11_sumOf aw_1538 ly_208 rfl (Nat.le_of_ble_eq_true rfl) ⟨by decide, by decide⟩ ⟨by decide, by decide⟩ dX11_takenBy_35 ?_
  refine v_aload_n hC dX11_takenBy_38 rfl ?_
  refine v_iconst (v := (1 : Int32)) hC dX11_takenBy_39 rfl ?_
  refine v_iload_n hC dX11_takenBy_40 rfl ?_
  refine v_iload_n hC dX11_takenBy_41 rfl ?_
  obtain ⟨r15, M16, q17, h⟩ := bnd_some h
  refine w_callVi hC [.int (1 : Int32), .int v1, .int v2] [.int r12, .int x11] (ok_X11_sumOf q17) mv_X11_sumOf aw_1538 ly_208 rfl (Nat.le_of_ble_eq_true rfl) ⟨by decide, by decide⟩ ⟨by decide, by decide⟩ dX11_takenBy_42 ?_
  refine v_isub hC dX11_takenBy_45 ?_
  refine v_iadd hC dX11_takenBy_46 ?_
  obtain ⟨x18, e_x18, h⟩ := lt_some h
  refine v_nam e_x18 ?_
  refine w_istore_n hC dX11_takenBy_47 (ltk rfl) [some (.ref 208), some (.int v1), some (.int v2), some (.int x18)] rfl ?_
  refine v_aload_n hC dX11_takenBy_48 rfl ?_
  refine v_iload_n hC dX11_takenBy_49 rfl ?_
  refine v_iconst (v := (2 : Int32)) hC dX11_takenBy_50 rfl ?_
  obtain ⟨r19, M20, q21, h⟩ := bnd_some h
  refine w_callVi hC [.int v1, .int (2 : Int32)] [] (ok_X11_ofCellar q21) mv_X11_ofCellar aw_1510 ly_208 rfl (Nat.le_of_ble_eq_true rfl) ⟨by decide, by decide⟩ ⟨by decide, by decide⟩ dX11_takenBy_51 ?_
  refine v_iconst (v := (0 : Int32)) hC dX11_takenBy_54 rfl ?_
  refine v_iload_n hC dX11_takenBy_55 rfl ?_
  refine v_mmax hC aw_1537 wm_max (Nat.le_of_ble_eq_true rfl) (Nat.le_of_ble_eq_true rfl) (Nat.le_of_ble_eq_true rfl) (Nat.le_of_ble_eq_true rfl) dX11_takenBy_56 ?_
  refine v_mmin hC aw_1550 wm_min (Nat.le_of_ble_eq_true rfl) (Nat.le_of_ble_eq_true rfl) (Nat.le_of_ble_eq_true rfl) (Nat.le_of_ble_eq_true rfl) dX11_takenBy_59 ?_
  cases h
  exact v_iret hC (by decide) (by decide) dX11_takenBy_62
set_option maxRecDepth 20000 in
set_option maxHeartbeats 4000000 in
theorem ok_X11_takenBy {l : Launch} {N : Nat} {v1 v2 : Int32} {M : Mm} {r : Int32} {M' : Mm} (h : f_X11_takenBy N v1 v2 M = some (r, M')) : am_M l yX11_takenBy cX11_takenBy 4 (some .int) 6 0 0 LY M [.ref 208, .int v1, .int v2] (.inl (some (.int r))) M' := by
  unfold f_X11_takenBy at h
  refine am_intro (by decide) (by simp [Value.category]) (Nat.le_of_ble_eq_true rfl) (fun X hC hnt => ?_)
  refine am_start (L := [some (.ref 208), some (.int v1), some (.int v2), none]) rfl ?_
  refine v_iconst (v := (0 : Int32)) hC dX11_takenBy_0 rfl ?_
  refine v_aload_n hC dX11_takenBy_1 rfl ?_
  refine v_iload_n hC dX11_takenBy_2 rfl ?_
  obtain ⟨r1, M2, q3, h⟩ := bnd_some h
  refine w_callVi hC [.int v2] [.int (0 : Int32)] (ok_X11_onDiet q3) mv_X11_onDiet aw_1533 ly_208 rfl (Nat.le_of_ble_eq_true rfl) ⟨by decide, by decide⟩ ⟨by decide, by decide⟩ dX11_takenBy_3 ?_
  refine v_if_eq hC 13 dX11_takenBy_6 rfl (fun c4 => ?_) (fun c4 => ?_)
  · rw [if_pos c4] at h
    refine v_aload_n hC dX11_takenBy_13 rfl ?_
    refine v_iload_n hC dX11_takenBy_14 rfl ?_
    refine v_iconst (v := (1 : Int32)) hC dX11_takenBy_15 rfl ?_
    obtain ⟨r5, M6, q7, h⟩ := bnd_some h
    refine w_callVi hC [.int v2, .int (1 : Int32)] [.int (0 : Int32)] (ok_X11_of q7) mv_X11_of aw_1380 ly_208 rfl (Nat.le_of_ble_eq_true rfl) ⟨by decide, by decide⟩ ⟨by decide, by decide⟩ dX11_takenBy_16 ?_
    exact ok_X11_takenBy_19 hC hnt h
  · rw [if_neg c4] at h
    refine v_iconst (v := (0 : Int32)) hC dX11_takenBy_9 rfl ?_
    refine v_goto (tg := 19) hC dX11_takenBy_10 rfl ?_
    exact ok_X11_takenBy_19 hC hnt h
def f_X11_pinchOf_15 (N : Nat) (M : Mm) : Option (Int32 × Mm) :=
  some ((0 : Int32), M)
def f_X11_pinchOf (N : Nat) (v1 : Int32) (v2 : Int32) (M : Mm) : Option (Int32 × Mm) :=
  bnd (f_X11_isSweet N M) (fun r1 M2 => (if r1 = (0 : Int32) then bnd (f_X11_isFree N v1 M2) (fun r5 M6 => (if r5 = (0 : Int32) then bnd (f_X11_takenBy N v1 v2 M6) (fun r9 M10 => some (r9, M10)) else f_X11_pinchOf_15 N M6)) else f_X11_pinchOf_15 N M2))
set_option maxRecDepth 20000 in
set_option maxHeartbeats 4000000 in
theorem ok_X11_pinchOf_15 {N : Nat} {X : am_X} {l : Launch} (hC : am_C X l (am_rm 7 0 0) cX11_pinchOf yX11_pinchOf.cls (some .int)) (hnt : am_NT X) {M : Mm} {r : Int32} {M' : Mm} (h : f_X11_pinchOf_15 N M = some (r, M')) : am_V X LY M 0 0 (am_Q X LY 0 0 (.inl (some (.int r))) M') 15 [none, none, none] [] := by
  unfold f_X11_pinchOf_15 at h
  refine v_iconst (v := (0 : Int32)) hC dX11_pinchOf_15 rfl ?_
  refine v_goto (tg := 25) hC dX11_pinchOf_16 rfl ?_
  cases h
  exact v_iret hC (by decide) (by decide) dX11_pinchOf_25
set_option maxRecDepth 20000 in
set_option maxHeartbeats 4000000 in
theorem ok_X11_pinchOf {l : Launch} {N : Nat} {v1 v2 : Int32} {M : Mm} {r : Int32} {M' : Mm} (h : f_X11_pinchOf N v1 v2 M = some (r, M')) : am_M l yX11_pinchOf cX11_pinchOf 3 (some .int) 7 0 0 LY M [.ref 208, .int v1, .int v2] (.inl (some (.int r))) M' := by
  unfold f_X11_pinchOf at h
  refine am_intro (by decide) (by simp [Value.category]) (Nat.le_of_ble_eq_true rfl) (fun X hC hnt => ?_)
  refine am_start (L := [some (.ref 208), some (.int v1), some (.int v2)]) rfl ?_
  refine v_aload_n hC dX11_pinchOf_0 rfl ?_
  obtain ⟨r1, M2, q3, h⟩ := bnd_some h
  refine w_callVi hC [] [] (ok_X11_isSweet q3) mv_X11_isSweet aw_1518 ly_208 rfl (Nat.le_of_ble_eq_true rfl) ⟨by decide, by decide⟩ ⟨by decide, by decide⟩ dX11_pinchOf_1 ?_
  refine v_if_ne hC 15 dX11_pinchOf_4 rfl (fun c4 => ?_) (fun c4 => ?_)
  · rw [if_neg c4] at h
    refine v_drop [false, false, false] [none, none, none] rfl ?_
    exact ok_X11_pinchOf_15 hC hnt h
  · rw [if_pos c4] at h
    refine v_aload_n hC dX11_pinchOf_7 rfl ?_
    refine v_iload_n hC dX11_pinchOf_8 rfl ?_
    obtain ⟨r5, M6, q7, h⟩ := bnd_some h
    refine w_callVi hC [.int v1] [] (ok_X11_isFree q7) mv_X11_isFree aw_1525 ly_208 rfl (Nat.le_of_ble_eq_true rfl) ⟨by decide, by decide⟩ ⟨by decide, by decide⟩ dX11_pinchOf_9 ?_
    refine v_if_eq hC 19 dX11_pinchOf_12 rfl (fun c8 => ?_) (fun c8 => ?_)
    · rw [if_pos c8] at h
      refine v_aload_n hC dX11_pinchOf_19 rfl ?_
      refine v_iload_n hC dX11_pinchOf_20 rfl ?_
      refine v_iload_n hC dX11_pinchOf_21 rfl ?_
      obtain ⟨r9, M10, q11, h⟩ := bnd_some h
      refine w_callVi hC [.int v1, .int v2] [] (ok_X11_takenBy q11) mv_X11_takenBy aw_1529 ly_208 rfl (Nat.le_of_ble_eq_true rfl) ⟨by decide, by decide⟩ ⟨by decide, by decide⟩ dX11_pinchOf_22 ?_
      cases h
      exact v_iret hC (by decide) (by decide) dX11_pinchOf_25
    · rw [if_neg c8] at h
      refine v_drop [false, false, false] [none, none, none] rfl ?_
      exact ok_X11_pinchOf_15 hC hnt h
