/-! STRING CONSTANTS: length and charAt, by the JDK's own code -/
section AMS
variable {X : am_X} {l0 : Launch} {R0 : Room} {cc : ByteArray} {own : String} {ret : Option FieldType} {ly : Ly} {M M1 M' : Mm} {ce sl : Nat} {Q : State → Prop} {pc : Nat} {L L1 : List (Option Value)} {st : List Value} {i : Nat}
theorem s_len0 {a : Nat} {x : List Int32} : [a].getD 0 0 = a ∧ [x].getD 0 [] = x := ⟨rfl, rfl⟩
theorem v_sval (hC : am_C X l0 R0 cc own ret) (hi : i < am_nS) {ix : Nat} (hw : Cond.fieldLink own ix "java/lang/String" "value" "[B" ∈ am_T) (hd : decode cc pc = .ok (.getfield ix, 3)) (k : am_V X ly M ce sl Q (pc + 3) L (.ref (am_vb + i) :: st)) : am_V X ly M ce sl Q pc L (.ref (am_sb + i) :: st) := by
  obtain ⟨p, l, e, R, s, m, args, below, meth, c, D, G, ad, A⟩ := X
  obtain ⟨hx, hb, hown, hts, hK, hA, hlk, hB, hr9, rfl, rfl⟩ := hC
  intro H locs ls hP hD hS hL hm
  exact vk_getf hx hb ((hB.1 i hi).1 0 (by decide)).2.2.1 hS hown (hts _ hw) (fun _ h9 => h9) hd (k H locs ls hP hD hS hL hm)
theorem v_scod (hC : am_C X l0 R0 cc own ret) (hi : i < am_nS) {ix : Nat} (hw : Cond.fieldLink own ix "java/lang/String" "coder" "B" ∈ am_T) (hd : decode cc pc = .ok (.getfield ix, 3)) (k : am_V X ly M ce sl Q (pc + 3) L (.int 0 :: st)) : am_V X ly M ce sl Q pc L (.ref (am_sb + i) :: st) := by
  obtain ⟨p, l, e, R, s, m, args, below, meth, c, D, G, ad, A⟩ := X
  obtain ⟨hx, hb, hown, hts, hK, hA, hlk, hB, hr9, rfl, rfl⟩ := hC
  intro H locs ls hP hD hS hL hm
  exact vk_getf hx hb ((hB.1 i hi).1 0 (by decide)).2.1 hS hown (hts _ hw) (fun _ h9 => h9) hd (k H locs ls hP hD hS hL hm)
theorem v_scmp (hC : am_C X l0 R0 cc own ret) {ix : Nat} (hw : Cond.fieldLink own ix "java/lang/String" "COMPACT_STRINGS" "Z" ∈ am_T) (hd : decode cc pc = .ok (.getstatic ix, 3)) (k : am_V X ly M ce sl Q (pc + 3) L (.int 1 :: st)) : am_V X ly M ce sl Q pc L st := by
  obtain ⟨p, l, e, R, s, m, args, below, meth, c, D, G, ad, A⟩ := X
  obtain ⟨hx, hb, hown, hts, hK, hA, hlk, hB, hr9, rfl, rfl⟩ := hC
  intro H locs ls hP hD hS hL hm
  exact va_gets hx hb hB.2.2.2.1 hS hown (hts _ hw) (fun _ h9 => h9) hd (k H locs ls hP hD hS hL hm)
theorem v_sfmt (hC : am_C X l0 R0 cc own ret) {ix : Nat} (hw : Cond.fieldLink own ix "jdk/internal/util/Preconditions" "SIOOBE_FORMATTER" "Ljava/util/function/BiFunction;" ∈ am_T) (hd : decode cc pc = .ok (.getstatic ix, 3)) (k : ∀ v : Value, v = .null ∨ v = .ref am_fb → am_V X ly M ce sl Q (pc + 3) L (v :: st)) : am_V X ly M ce sl Q pc L st := by
  obtain ⟨p, l, e, R, s, m, args, below, meth, c, D, G, ad, A⟩ := X
  obtain ⟨hx, hb, hown, hts, hK, hA, hlk, hB, hr9, rfl, rfl⟩ := hC
  intro H locs ls hP hD hS hL hm
  rcases hB.2.2.2.2.1 with h | h
  · exact va_gets hx hb h hS hown (hts _ hw) (fun _ h9 => h9) hd (k .null (Or.inl rfl) H locs ls hP hD hS hL hm)
  · exact va_gets hx hb h hS hown (hts _ hw) (fun _ h9 => h9) hd (k (.ref am_fb) (Or.inr rfl) H locs ls hP hD hS hL hm)
theorem v_sln (hC : am_C X l0 R0 cc own ret) (hi : i < am_nS) (hd : decode cc pc = .ok (.arraylength, 1)) (k : am_V X ly M ce sl Q (pc + 1) L (.int (nI (am_lenS.getD i 0)) :: st)) : am_V X ly M ce sl Q pc L (.ref (am_vb + i) :: st) := by
  obtain ⟨p, l, e, R, s, m, args, below, meth, c, D, G, ad, A⟩ := X
  obtain ⟨hx, hb, hown, hts, hK, hA, hlk, hB, hr9, rfl, rfl⟩ := hC
  intro H locs ls hP hD hS hL hm
  exact va_tlen hx hb ((hB.1 i hi).1 0 (by decide)).2.2.2 hS rfl hd (k H locs ls hP hD hS hL hm)
theorem v_sbald (hC : am_C X l0 R0 cc own ret) (hi : i < am_nS) {x : Int32} (hin : vp_in x (am_lenS.getD i 0)) (hd : decode cc pc = .ok (.baload, 1)) (k : am_V X ly M ce sl Q (pc + 1) L (.int ((am_bytS.getD i []).getD x.toNatClampNeg 0) :: st)) : am_V X ly M ce sl Q pc L (.int x :: .ref (am_vb + i) :: st) := by
  obtain ⟨p, l, e, R, s, m, args, below, meth, c, D, G, ad, A⟩ := X
  obtain ⟨hx, hb, hown, hts, hK, hA, hlk, hB, hr9, rfl, rfl⟩ := hC
  intro H locs ls hP hD hS hL hm
  exact va_tb hx hb ((hB.1 i hi).1 0 (by decide)).2.2.2 hS hin rfl hd (k H locs ls hP hD hS hL hm)
theorem v_i2c (hC : am_C X l0 R0 cc own ret) {x v : Int32} (hd : decode cc pc = .ok (.i2c, 1)) (hv : (x.toUInt32 % 65536).toInt32 = v) (k : am_V X ly M ce sl Q (pc + 1) L (.int v :: st)) : am_V X ly M ce sl Q pc L (.int x :: st) := by
  obtain ⟨p, l, e, R, s, m, args, below, meth, c, D, G, ad, A⟩ := X
  obtain ⟨hx, hb, hown, hts, hK, hA, hlk, hB, hr9, rfl, rfl⟩ := hC
  intro H locs ls hP hD hS hL hm
  exact lv_i2c hx hb hd hv (k H locs ls hP hD hS hL hm)
theorem v_tret {ty : FieldType} (hC : am_C X l0 R0 cc own (some ty)) {mc ms : Nat} {v : Int32} (hv : narrow ty (.int v) = .int v) (hc : ce ≤ mc) (hs : sl ≤ ms) (hd : decode cc pc = .ok (.ireturn, 1)) : am_V X ly M ce sl (am_Q X ly mc ms (.inl (some (.int v))) M) pc L [.int v] := by
  obtain ⟨p, l, e, R, s, m, args, below, meth, c, D, G, ad, A⟩ := X
  obtain ⟨hx, hb, hown, hts, hK, hA, hlk, hB, hr9, rfl, rfl⟩ := hC
  intro H locs ls hP hD hS hL hm
  refine W.widen hc hs (vx_ret ?_)
  exact W.zret hx hb hr9 hv (fun t ht hW => ⟨⟨_, rfl, rfl, am_wd_of hP hD hK ht hW.alike⟩, hS.F ht⟩) hS.2.2 hd hlk
variable {y : MethodName} {cy : ByteArray} {nLy n d mc ms ix : Nat} {rety : Option FieldType} {r : Int32} {As : List Value}
def am_MT (y : MethodName) (cy : ByteArray) (nL : Nat) (ret : Option FieldType) (n : Nat) : Prop := am_MI y cy nL ret n ∧ Cond.instanceMethod y ∈ am_T ∧ Cond.selects y.cls y y ∈ am_T ∧ y.cls = "java/lang/String"
theorem w_callT (hC : am_C X l0 R0 cc own ret) (As st : List Value) (hi : i < am_nS) (hM : am_M l0 y cy nLy rety d mc ms ly M (.ref (am_sb + i) :: As) (.inl (some (.int r))) M') (hI : am_MT y cy nLy rety n) (hlk : Cond.methodLink own ix y ∈ am_T) (hn : As.length = n) (hst : (st.map fun v => v.category).sum ≤ 8) (hR : d + 1 ≤ R0.frames ∧ 8 + (nLy + 11) + 41 * d ≤ R0.locals) (hcs : ce + mc ≤ R0.cells ∧ sl + ms ≤ R0.slots) (hd : decode cc pc = .ok (.invokevirtual ix, 3))
    (k : am_V X ly M' (ce + mc) (sl + ms) Q (pc + 3) L (.int r :: st)) : am_V X ly M ce sl Q pc L (As.reverse ++ .ref (am_sb + i) :: st) := by
  obtain ⟨p, l, e, R, s, m, args, below, meth, c, D, G, ad, A⟩ := X
  obtain ⟨hx, hb9, hown, hts, hK, hA, hlk9, hB, hr9, rfl, rfl⟩ := hC
  intro H locs ls hP hD hS hL hm
  obtain ⟨hI1, hI2, hI3, hI4⟩ := hI
  have hst9 : ((st.map (am_c ad)).map fun v => v.category).sum ≤ 8 := by
    rw [List.map_map]
    have : ((fun v : Value => v.category) ∘ am_c ad) = fun v => v.category := by funext v; exact am_c_cat
    rw [this]; exact hst
  refine am_back hA hK hD hS hL hm (o := .inl (some (.int r))) (vx_runV (As := As.map (am_c ad)) (rest := st.map (am_c ad)) (C := y.cls) (b := ad (am_sb + i)) (n := n) (nL := ls.size) (Ts := am_T) ⟨hx, hb9, by rw [hm, hL.1], hown, hts⟩ (hM D G ad H.size) ⟨am_cb hts hI1 hlk hR, hts _ hI2, hts _ hI3⟩ ⟨am_blind, ?_, am_pre (p := p) (av := .ref (am_sb + i) :: As) hA hK hP hD hS hB⟩ rfl (by rw [List.length_map]; exact hn) rfl ?_ (lv_room hst9) hd hcs) (fun v hv => by cases hv; exact ⟨Or.inr ⟨r, rfl⟩, k⟩) (fun E hE => by cases hE)
  · rw [hI4]; exact vk_recv (hB.1 i hi) (i := 0) (by decide) hS
  · show (As.reverse ++ .ref (am_sb + i) :: st).map (am_c ad) = _
    rw [List.map_append, List.map_reverse]; rfl
end AMS
theorem mt_coder : am_MT yJ0_coder_7d493 cJ0_coder_7d493 1 (some .byte) 0 := ⟨⟨aw_616, aw_13, ⟨by decide, by decide⟩, by decide +kernel⟩, aw_614, aw_615, rfl⟩
theorem mt_isLatin1 : am_MT yJ0_isLatin1_aae02 cJ0_isLatin1_aae02 1 (some .boolean) 0 := ⟨⟨aw_626, aw_13, ⟨by decide, by decide⟩, by decide +kernel⟩, aw_624, aw_625, rfl⟩
theorem mt_length : am_MT yJ0_length_8abf5 cJ0_length_8abf5 1 (some .int) 0 := ⟨⟨aw_612, aw_13, ⟨by decide, by decide⟩, by decide +kernel⟩, aw_610, aw_611, rfl⟩
theorem mt_charAt : am_MT yJ0_charAt_5068e cJ0_charAt_5068e 2 (some .char) 1 := ⟨⟨aw_622, aw_13, ⟨by decide, by decide⟩, by decide +kernel⟩, aw_620, aw_621, rfl⟩
theorem ms_latCharAt : am_MS yJ1_charAt_3b067 cJ1_charAt_3b067 2 (some .char) 2 := ⟨⟨aw_629, aw_14, ⟨by decide, by decide⟩, by decide +kernel⟩, aw_628⟩
theorem ms_strCheck : am_MS yJ0_checkIndex_df160 cJ0_checkIndex_df160 2 none 2 := ⟨⟨aw_632, aw_13, ⟨by decide, by decide⟩, by decide +kernel⟩, aw_631⟩
theorem ms_preCheck : am_MS yJ3_checkIndex_8e157 cJ3_checkIndex_8e157 3 (some .int) 3 := ⟨⟨aw_637, aw_15, ⟨by decide, by decide⟩, by decide +kernel⟩, aw_636⟩
/-- what length and charAt answer -/
def f_slen (a : Nat) (M : Mm) : Option (Int32 × Mm) := grd (decide (am_sb ≤ a) && decide (a - am_sb < am_nS)) (some (nI (am_lenS.getD (a - am_sb) 0), M))
def f_schr (a : Nat) (x : Int32) (M : Mm) : Option (Int32 × Mm) := grd (decide (am_sb ≤ a) && decide (a - am_sb < am_nS)) (grd (inb x (am_lenS.getD (a - am_sb) 0)) (some ((am_bytS.getD (a - am_sb) []).getD x.toNatClampNeg 0, M)))
theorem s_all : ∀ i, i < am_nS → am_lenS.getD i 0 < 2 ^ 31 ∧ ∀ b ∈ am_bytS.getD i [], ((b &&& 255).toUInt32 % 65536).toInt32 = b ∧ narrow .char (.int b) = .int b := by decide +kernel
theorem ok_coder {l : Launch} {ly : Ly} {M : Mm} {i : Nat} (hi : i < am_nS) : am_M l yJ0_coder_7d493 cJ0_coder_7d493 1 (some .byte) 1 0 0 ly M [.ref (am_sb + i)] (.inl (some (.int 0))) M := by
  refine am_intro (by decide) (by simp [Value.category]) (Nat.le_of_ble_eq_true rfl) (fun X hC hnt => ?_)
  refine am_start (L := [some (.ref (am_sb + i))]) rfl ?_
  refine v_scmp hC aw_617 dJ0_coder_7d493_0 ?_
  refine v_if_eq hC 13 dJ0_coder_7d493_3 rfl (fun c => absurd c (by decide)) (fun _ => ?_)
  refine v_aload_n hC dJ0_coder_7d493_6 rfl ?_
  refine v_scod hC hi aw_1854 dJ0_coder_7d493_7 ?_
  refine v_goto (tg := 14) hC dJ0_coder_7d493_10 rfl ?_
  exact v_tret hC (by decide) (by decide) (by decide) dJ0_coder_7d493_14
theorem ok_isLatin1 {l : Launch} {ly : Ly} {M : Mm} {i : Nat} (hi : i < am_nS) : am_M l yJ0_isLatin1_aae02 cJ0_isLatin1_aae02 1 (some .boolean) 1 0 0 ly M [.ref (am_sb + i)] (.inl (some (.int 1))) M := by
  refine am_intro (by decide) (by simp [Value.category]) (Nat.le_of_ble_eq_true rfl) (fun X hC hnt => ?_)
  refine am_start (L := [some (.ref (am_sb + i))]) rfl ?_
  refine v_scmp hC aw_617 dJ0_isLatin1_aae02_0 ?_
  refine v_if_eq hC 17 dJ0_isLatin1_aae02_3 rfl (fun c => absurd c (by decide)) (fun _ => ?_)
  refine v_aload_n hC dJ0_isLatin1_aae02_6 rfl ?_
  refine v_scod hC hi aw_1854 dJ0_isLatin1_aae02_7 ?_
  refine v_if_ne hC 17 dJ0_isLatin1_aae02_10 rfl (fun c => absurd rfl c) (fun _ => ?_)
  refine v_iconst (v := (1 : Int32)) hC dJ0_isLatin1_aae02_13 rfl ?_
  refine v_goto (tg := 18) hC dJ0_isLatin1_aae02_14 rfl ?_
  exact v_zret hC (by decide) (by decide) (by decide) dJ0_isLatin1_aae02_18
theorem ok_preCheck {l : Launch} {ly : Ly} {M : Mm} {x n : Int32} {v : Value} (hv : v.category = 1) (h0 : ¬ x < 0) (h1 : x < n) : am_M l yJ3_checkIndex_8e157 cJ3_checkIndex_8e157 3 (some .int) 1 0 0 ly M [.int x, .int n, v] (.inl (some (.int x))) M := by
  refine am_intro (by decide) (by intro w hw; simp only [List.mem_cons, List.not_mem_nil, or_false] at hw; rcases hw with rfl | rfl | rfl; rfl; rfl; exact hv) (Nat.le_of_ble_eq_true rfl) (fun X hC hnt => ?_)
  refine am_start (L := [some (.int x), some (.int n), some v]) rfl ?_
  refine v_iload_n hC dJ3_checkIndex_8e157_0 rfl ?_
  refine v_if_lt hC 9 dJ3_checkIndex_8e157_1 rfl (fun c => absurd c h0) (fun _ => ?_)
  refine v_iload_n hC dJ3_checkIndex_8e157_4 rfl ?_
  refine v_iload_n hC dJ3_checkIndex_8e157_5 rfl ?_
  refine v_icmp_lt hC 16 dJ3_checkIndex_8e157_6 rfl (fun _ => ?_) (fun c => absurd h1 c)
  refine v_iload_n hC dJ3_checkIndex_8e157_16 rfl ?_
  exact v_iret hC (by decide) (by decide) dJ3_checkIndex_8e157_17
theorem ok_strCheck {l : Launch} {ly : Ly} {M : Mm} {x n : Int32} (h0 : ¬ x < 0) (h1 : x < n) : am_M l yJ0_checkIndex_df160 cJ0_checkIndex_df160 2 none 2 0 0 ly M [.int x, .int n] (.inl none) M := by
  refine am_intro (by decide) (by simp [Value.category]) (Nat.le_of_ble_eq_true rfl) (fun X hC hnt => ?_)
  refine am_start (L := [some (.int x), some (.int n)]) rfl ?_
  refine v_iload_n hC dJ0_checkIndex_df160_0 rfl ?_
  refine v_iload_n hC dJ0_checkIndex_df160_1 rfl ?_
  refine v_sfmt hC aw_633 dJ0_checkIndex_df160_2 (fun v hv => ?_)
  have hc : v.category = 1 := by rcases hv with h | h <;> subst h <;> rfl
  refine w_callSi hC [.int x, .int n, v] [] (ok_preCheck hc h0 h1) ms_preCheck aw_635 rfl (Nat.le_of_ble_eq_true rfl) ⟨by decide, by decide⟩ ⟨by decide, by decide⟩ dJ0_checkIndex_df160_5 ?_
  refine v_pop hC dJ0_checkIndex_df160_8 rfl ?_
  exact v_vret hC (by decide) (by decide) dJ0_checkIndex_df160_9
theorem ok_latCharAt {l : Launch} {ly : Ly} {M : Mm} {i : Nat} {x : Int32} (hi : i < am_nS) (g : inb x (am_lenS.getD i 0) = true) : am_M l yJ1_charAt_3b067 cJ1_charAt_3b067 2 (some .char) 3 0 0 ly M [.ref (am_vb + i), .int x] (.inl (some (.int ((am_bytS.getD i []).getD x.toNatClampNeg 0)))) M := by
  obtain ⟨hl, hbs⟩ := s_all i hi
  have g9 := g
  simp only [inb, Bool.and_eq_true, Bool.not_eq_true', decide_eq_false_iff_not, decide_eq_true_eq] at g9
  obtain ⟨j, hj, rfl⟩ := nI_of g9.1
  have hjn : j < am_lenS.getD i 0 := by have := g9.2; rwa [nI_clamp hj] at this
  have hb9 : (((am_bytS.getD i []).getD (nI j).toNatClampNeg 0 &&& 255).toUInt32 % 65536).toInt32 = (am_bytS.getD i []).getD (nI j).toNatClampNeg 0 ∧ narrow .char (.int ((am_bytS.getD i []).getD (nI j).toNatClampNeg 0)) = .int ((am_bytS.getD i []).getD (nI j).toNatClampNeg 0) := by
    rw [List.getD_eq_getElem?_getD]
    cases h : (am_bytS.getD i [])[(nI j).toNatClampNeg]? with
    | none => exact ⟨by decide, by decide⟩
    | some b => exact hbs b (List.mem_of_getElem? h)
  refine am_intro (by decide) (by simp [Value.category]) (Nat.le_of_ble_eq_true rfl) (fun X hC hnt => ?_)
  refine am_start (L := [some (.ref (am_vb + i)), some (.int (nI j))]) rfl ?_
  refine v_iload_n hC dJ1_charAt_3b067_0 rfl ?_
  refine v_aload_n hC dJ1_charAt_3b067_1 rfl ?_
  refine v_sln hC hi dJ1_charAt_3b067_2 ?_
  refine w_callSv hC [.int (nI j), .int (nI (am_lenS.getD i 0))] [] (ok_strCheck (nI_pos hj) (nI_lt hjn hl)) ms_strCheck aw_630 rfl (Nat.le_of_ble_eq_true rfl) ⟨by decide, by decide⟩ ⟨by decide, by decide⟩ dJ1_charAt_3b067_3 ?_
  refine v_aload_n hC dJ1_charAt_3b067_6 rfl ?_
  refine v_iload_n hC dJ1_charAt_3b067_7 rfl ?_
  refine v_sbald hC hi (inb_in g) dJ1_charAt_3b067_8 ?_
  refine v_sipush (v := (255 : Int32)) hC dJ1_charAt_3b067_9 rfl ?_
  refine v_iand hC dJ1_charAt_3b067_12 ?_
  refine v_i2c hC dJ1_charAt_3b067_13 hb9.1 ?_
  exact v_tret hC hb9.2 (by decide) (by decide) dJ1_charAt_3b067_14
theorem s_shr0 {n : Nat} (h : n < 2 ^ 31) : nI n >>> ((0 : Int32) &&& 31) = nI n := sc_shr0 h
theorem ok_slen {l : Launch} {ly : Ly} {a : Nat} {M : Mm} {r : Int32} {M' : Mm} (h : f_slen a M = some (r, M')) : am_M l yJ0_length_8abf5 cJ0_length_8abf5 1 (some .int) 2 0 0 ly M [.ref a] (.inl (some (.int r))) M' := by
  unfold f_slen at h
  obtain ⟨g, h⟩ := grd_some h
  simp only [Bool.and_eq_true, decide_eq_true_eq] at g
  obtain ⟨i, rfl⟩ : ∃ i, a = am_sb + i := ⟨a - am_sb, by omega⟩
  rw [show am_sb + i - am_sb = i by omega] at h g
  cases h
  obtain ⟨hl, -⟩ := s_all i g.2
  refine am_intro (by decide) (by simp [Value.category]) (Nat.le_of_ble_eq_true rfl) (fun X hC hnt => ?_)
  refine am_start (L := [some (.ref (am_sb + i))]) rfl ?_
  refine v_aload_n hC dJ0_length_8abf5_0 rfl ?_
  refine v_sval hC g.2 aw_1853 dJ0_length_8abf5_1 ?_
  refine v_sln hC g.2 dJ0_length_8abf5_4 ?_
  refine v_aload_n hC dJ0_length_8abf5_5 rfl ?_
  refine w_callT hC [] [.int (nI (am_lenS.getD i 0))] g.2 (ok_coder g.2) mt_coder aw_613 rfl (Nat.le_of_ble_eq_true rfl) ⟨by decide, by decide⟩ ⟨by decide, by decide⟩ dJ0_length_8abf5_6 ?_
  refine v_ishr hC dJ0_length_8abf5_9 ?_
  refine v_nam (s_shr0 hl).symm ?_
  exact v_iret hC (by decide) (by decide) dJ0_length_8abf5_10
theorem ok_schr {l : Launch} {ly : Ly} {a : Nat} {x : Int32} {M : Mm} {r : Int32} {M' : Mm} (h : f_schr a x M = some (r, M')) : am_M l yJ0_charAt_5068e cJ0_charAt_5068e 2 (some .char) 4 0 0 ly M [.ref a, .int x] (.inl (some (.int r))) M' := by
  unfold f_schr at h
  obtain ⟨g, h⟩ := grd_some h
  simp only [Bool.and_eq_true, decide_eq_true_eq] at g
  obtain ⟨i, rfl⟩ : ∃ i, a = am_sb + i := ⟨a - am_sb, by omega⟩
  rw [show am_sb + i - am_sb = i by omega] at h g
  obtain ⟨g2, h⟩ := grd_some h
  cases h
  obtain ⟨hl, hbs⟩ := s_all i g.2
  have hb9 : narrow .char (.int ((am_bytS.getD i []).getD x.toNatClampNeg 0)) = .int ((am_bytS.getD i []).getD x.toNatClampNeg 0) := by
    rw [List.getD_eq_getElem?_getD]
    cases h : (am_bytS.getD i [])[x.toNatClampNeg]? with
    | none => exact by decide
    | some b => exact (hbs b (List.mem_of_getElem? h)).2
  refine am_intro (by decide) (by simp [Value.category]) (Nat.le_of_ble_eq_true rfl) (fun X hC hnt => ?_)
  refine am_start (L := [some (.ref (am_sb + i)), some (.int x)]) rfl ?_
  refine v_aload_n hC dJ0_charAt_5068e_0 rfl ?_
  refine w_callT hC [] [] g.2 (ok_isLatin1 g.2) mt_isLatin1 aw_623 rfl (Nat.le_of_ble_eq_true rfl) ⟨by decide, by decide⟩ ⟨by decide, by decide⟩ dJ0_charAt_5068e_1 ?_
  refine v_if_eq hC 16 dJ0_charAt_5068e_4 rfl (fun c => absurd c (by decide)) (fun _ => ?_)
  refine v_aload_n hC dJ0_charAt_5068e_7 rfl ?_
  refine v_sval hC g.2 aw_1853 dJ0_charAt_5068e_8 ?_
  refine v_iload_n hC dJ0_charAt_5068e_11 rfl ?_
  refine w_callSi hC [.ref (am_vb + i), .int x] [] (ok_latCharAt g.2 g2) ms_latCharAt aw_627 rfl (Nat.le_of_ble_eq_true rfl) ⟨by decide, by decide⟩ ⟨by decide, by decide⟩ dJ0_charAt_5068e_12 ?_
  exact v_tret hC hb9 (by decide) (by decide) dJ0_charAt_5068e_15
theorem w_slen {X : am_X} {l0 : Launch} {R0 : Room} {cc : ByteArray} {own : String} {ret : Option FieldType} {ly : Ly} {M M' : Mm} {ce sl : Nat} {Q : State → Prop} {pc : Nat} {L : List (Option Value)} (hC : am_C X l0 R0 cc own ret) (st : List Value) {a ix : Nat} {r : Int32} (h : f_slen a M = some (r, M')) (hlk : Cond.methodLink own ix yJ0_length_8abf5 ∈ am_T) (hst : (st.map fun v => v.category).sum ≤ 8) (hR : 2 + 1 ≤ R0.frames ∧ 8 + (1 + 11) + 41 * 2 ≤ R0.locals) (hcs : ce + 0 ≤ R0.cells ∧ sl + 0 ≤ R0.slots) (hd : decode cc pc = .ok (.invokevirtual ix, 3)) (k : am_V X ly M' ce sl Q (pc + 3) L (.int r :: st)) : am_V X ly M ce sl Q pc L (.ref a :: st) := by
  have h9 := h
  unfold f_slen at h9
  obtain ⟨g, -⟩ := grd_some h9
  simp only [Bool.and_eq_true, decide_eq_true_eq] at g
  obtain ⟨i, rfl⟩ : ∃ i, a = am_sb + i := ⟨a - am_sb, by omega⟩
  rw [show am_sb + i - am_sb = i by omega] at g
  exact w_callT hC [] st g.2 (ok_slen h) mt_length hlk rfl hst hR hcs hd k
theorem w_schr {X : am_X} {l0 : Launch} {R0 : Room} {cc : ByteArray} {own : String} {ret : Option FieldType} {ly : Ly} {M M' : Mm} {ce sl : Nat} {Q : State → Prop} {pc : Nat} {L : List (Option Value)} (hC : am_C X l0 R0 cc own ret) (st : List Value) {a ix : Nat} {x r : Int32} (h : f_schr a x M = some (r, M')) (hlk : Cond.methodLink own ix yJ0_charAt_5068e ∈ am_T) (hst : (st.map fun v => v.category).sum ≤ 8) (hR : 4 + 1 ≤ R0.frames ∧ 8 + (2 + 11) + 41 * 4 ≤ R0.locals) (hcs : ce + 0 ≤ R0.cells ∧ sl + 0 ≤ R0.slots) (hd : decode cc pc = .ok (.invokevirtual ix, 3)) (k : am_V X ly M' ce sl Q (pc + 3) L (.int r :: st)) : am_V X ly M ce sl Q pc L (.int x :: .ref a :: st) := by
  have h9 := h
  unfold f_schr at h9
  obtain ⟨g, -⟩ := grd_some h9
  simp only [Bool.and_eq_true, decide_eq_true_eq] at g
  obtain ⟨i, rfl⟩ : ∃ i, a = am_sb + i := ⟨a - am_sb, by omega⟩
  rw [show am_sb + i - am_sb = i by omega] at g
  exact w_callT hC [.int x] st g.2 (ok_schr h) mt_charAt hlk rfl hst hR hcs hd k
