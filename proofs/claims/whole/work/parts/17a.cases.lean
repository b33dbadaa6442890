def am_sc : Nat := 4000000
def am_SC (X : am_X) (xs : Nat → Int32) (Ln : Nat) : Prop := match X with
  | (_, _, _, _, s, _, _, _, _, _, _, _, ad, A) => va_X (ad am_sc) Ln xs s s.heap ∧ ad am_sc < s.heap.size ∧ ¬ A (ad am_sc)
theorem v_ssl {X : am_X} {l0 : Launch} {R0 : Room} {cc : ByteArray} {own : String} {ret : Option FieldType} {ly : Ly} {M : Mm} {ce sl : Nat} {Q : State → Prop} {pc : Nat} {L : List (Option Value)} {st : List Value} {xs : Nat → Int32} {Ln : Nat} (hC : am_C X l0 R0 cc own ret) (hs : am_SC X xs Ln) {i : Int32} (hi : vp_in i Ln) (hd : decode cc pc = .ok (.iaload, 1)) (k : am_V X ly M ce sl Q (pc + 1) L (.int (xs i.toNatClampNeg) :: st)) : am_V X ly M ce sl Q pc L (.int i :: .ref am_sc :: st) := by
  obtain ⟨p, l, e, R, s, m, args, below, meth, c, D, G, ad, A⟩ := X
  obtain ⟨hx, hb, hown, hts, hK, hA, hlk, hB, hr9, rfl, rfl⟩ := hC
  intro H locs ls hP hD hS hL hm
  exact va_sld hx hb hs.1 hs.2.1 hs.2.2 hS hi hd (k H locs ls hP hD hS hL hm)
theorem v_ssn {X : am_X} {l0 : Launch} {R0 : Room} {cc : ByteArray} {own : String} {ret : Option FieldType} {ly : Ly} {M : Mm} {ce sl : Nat} {Q : State → Prop} {pc : Nat} {L : List (Option Value)} {st : List Value} {xs : Nat → Int32} {Ln : Nat} (hC : am_C X l0 R0 cc own ret) (hs : am_SC X xs Ln) (hd : decode cc pc = .ok (.arraylength, 1)) (k : am_V X ly M ce sl Q (pc + 1) L (.int (Int32.ofNat Ln) :: st)) : am_V X ly M ce sl Q pc L (.ref am_sc :: st) := by
  obtain ⟨p, l, e, R, s, m, args, below, meth, c, D, G, ad, A⟩ := X
  obtain ⟨hx, hb, hown, hts, hK, hA, hlk, hB, hr9, rfl, rfl⟩ := hC
  intro H locs ls hP hD hS hL hm
  exact va_slen hx hb hs.1 hs.2.1 hs.2.2 hS hd (k H locs ls hP hD hS hL hm)
def f_L_c0 (N Ln : Nat) (xs : Nat → Int32) (v4 : Int32) (M : Mm) : Option (Bool × Mm) :=
  grd (inb (v4 + (1 : Int32)) Ln) (grd (inb (v4 + (2 : Int32)) Ln) (grd (inb (v4 + (3 : Int32)) Ln) (grd (inb (v4 + (4 : Int32)) Ln) (grd (inb (v4 + (5 : Int32)) Ln) (bnd (f_X10_feed N (xs ((v4 + (1 : Int32))).toNatClampNeg) (xs ((v4 + (2 : Int32))).toNatClampNeg) (xs ((v4 + (3 : Int32))).toNatClampNeg) (xs ((v4 + (4 : Int32))).toNatClampNeg) (xs ((v4 + (5 : Int32))).toNatClampNeg) M) (fun r6 M7 => grd (inb (v4 + (1 : Int32)) Ln) (grd (inb (v4 + (2 : Int32)) Ln) (grd (inb (v4 + (3 : Int32)) Ln) (grd (inb (v4 + (4 : Int32)) Ln) (grd (inb (v4 + (5 : Int32)) Ln) (bnd (f_X11_feed N (xs ((v4 + (1 : Int32))).toNatClampNeg) (xs ((v4 + (2 : Int32))).toNatClampNeg) (xs ((v4 + (3 : Int32))).toNatClampNeg) (xs ((v4 + (4 : Int32))).toNatClampNeg) (xs ((v4 + (5 : Int32))).toNatClampNeg) M7) (fun r14 M15 => (if r6 = r14 then some (true, M15) else some (false, M15))))))))))))))
set_option maxRecDepth 20000 in
set_option maxHeartbeats 4000000 in
theorem okc_0 {N Ln : Nat} {xs : Nat → Int32} {X : am_X} {l : Launch} (hl : l.stackTraces = false) (hC : am_C X l room_1 cL_law_ RL (some .boolean)) (hs : am_SC X xs Ln) {v4 : Int32} {M M' : Mm} {ce sl : Nat} {Q : State → Prop} (hce : ce + 100 ≤ 601024) (hsl : sl + 1000 ≤ 7293034) (h : f_L_c0 N Ln xs v4 M = some (true, M')) (k : am_V X LY M' (ce + 3) (sl + 18) Q 2644 [some (.ref am_sc), some (.ref 0), some (.ref 208), some (.ref 219), some (.int v4), none, none] []) : am_V X LY M ce sl Q 248 [some (.ref am_sc), some (.ref 0), some (.ref 208), some (.ref 219), some (.int v4), none, none] [] := by
  unfold f_L_c0 at h
  refine v_aload_n hC dL_law__248 rfl ?_
  refine v_aload_n hC dL_law__249 rfl ?_
  refine v_iload hC dL_law__250 rfl ?_
  refine v_iconst (v := (1 : Int32)) hC dL_law__252 rfl ?_
  refine v_iadd hC dL_law__253 ?_
  obtain ⟨g1, h⟩ := grd_some h
  refine v_ssl hC hs (inb_in g1) dL_law__254 ?_
  refine v_aload_n hC dL_law__255 rfl ?_
  refine v_iload hC dL_law__256 rfl ?_
  refine v_iconst (v := (2 : Int32)) hC dL_law__258 rfl ?_
  refine v_iadd hC dL_law__259 ?_
  obtain ⟨g2, h⟩ := grd_some h
  refine v_ssl hC hs (inb_in g2) dL_law__260 ?_
  refine v_aload_n hC dL_law__261 rfl ?_
  refine v_iload hC dL_law__262 rfl ?_
  refine v_iconst (v := (3 : Int32)) hC dL_law__264 rfl ?_
  refine v_iadd hC dL_law__265 ?_
  obtain ⟨g3, h⟩ := grd_some h
  refine v_ssl hC hs (inb_in g3) dL_law__266 ?_
  refine v_aload_n hC dL_law__267 rfl ?_
  refine v_iload hC dL_law__268 rfl ?_
  refine v_iconst (v := (4 : Int32)) hC dL_law__270 rfl ?_
  refine v_iadd hC dL_law__271 ?_
  obtain ⟨g4, h⟩ := grd_some h
  refine v_ssl hC hs (inb_in g4) dL_law__272 ?_
  refine v_aload_n hC dL_law__273 rfl ?_
  refine v_iload hC dL_law__274 rfl ?_
  refine v_iconst (v := (5 : Int32)) hC dL_law__276 rfl ?_
  refine v_iadd hC dL_law__277 ?_
  obtain ⟨g5, h⟩ := grd_some h
  refine v_ssl hC hs (inb_in g5) dL_law__278 ?_
  obtain ⟨r6, M7, q8, h⟩ := bnd_some h
  refine w_callVi hC [.int (xs ((v4 + (1 : Int32))).toNatClampNeg), .int (xs ((v4 + (2 : Int32))).toNatClampNeg), .int (xs ((v4 + (3 : Int32))).toNatClampNeg), .int (xs ((v4 + (4 : Int32))).toNatClampNeg), .int (xs ((v4 + (5 : Int32))).toNatClampNeg)] [] (ok_X10_feed q8) mv_X10_feed aw_373 ly_0 rfl (Nat.le_of_ble_eq_true rfl) ⟨by decide, by decide⟩ ⟨by show _ ≤ 601024; omega, by show _ ≤ 7293034; omega⟩ dL_law__279 ?_
  refine v_aload_n hC dL_law__282 rfl ?_
  refine v_aload_n hC dL_law__283 rfl ?_
  refine v_iload hC dL_law__284 rfl ?_
  refine v_iconst (v := (1 : Int32)) hC dL_law__286 rfl ?_
  refine v_iadd hC dL_law__287 ?_
  obtain ⟨g9, h⟩ := grd_some h
  refine v_ssl hC hs (inb_in g9) dL_law__288 ?_
  refine v_aload_n hC dL_law__289 rfl ?_
  refine v_iload hC dL_law__290 rfl ?_
  refine v_iconst (v := (2 : Int32)) hC dL_law__292 rfl ?_
  refine v_iadd hC dL_law__293 ?_
  obtain ⟨g10, h⟩ := grd_some h
  refine v_ssl hC hs (inb_in g10) dL_law__294 ?_
  refine v_aload_n hC dL_law__295 rfl ?_
  refine v_iload hC dL_law__296 rfl ?_
  refine v_iconst (v := (3 : Int32)) hC dL_law__298 rfl ?_
  refine v_iadd hC dL_law__299 ?_
  obtain ⟨g11, h⟩ := grd_some h
  refine v_ssl hC hs (inb_in g11) dL_law__300 ?_
  refine v_aload_n hC dL_law__301 rfl ?_
  refine v_iload hC dL_law__302 rfl ?_
  refine v_iconst (v := (4 : Int32)) hC dL_law__304 rfl ?_
  refine v_iadd hC dL_law__305 ?_
  obtain ⟨g12, h⟩ := grd_some h
  refine v_ssl hC hs (inb_in g12) dL_law__306 ?_
  refine v_aload_n hC dL_law__307 rfl ?_
  refine v_iload hC dL_law__308 rfl ?_
  refine v_iconst (v := (5 : Int32)) hC dL_law__310 rfl ?_
  refine v_iadd hC dL_law__311 ?_
  obtain ⟨g13, h⟩ := grd_some h
  refine v_ssl hC hs (inb_in g13) dL_law__312 ?_
  obtain ⟨r14, M15, q16, h⟩ := bnd_some h
  refine w_callVi hC [.int (xs ((v4 + (1 : Int32))).toNatClampNeg), .int (xs ((v4 + (2 : Int32))).toNatClampNeg), .int (xs ((v4 + (3 : Int32))).toNatClampNeg), .int (xs ((v4 + (4 : Int32))).toNatClampNeg), .int (xs ((v4 + (5 : Int32))).toNatClampNeg)] [.int r6] (ok_X11_feed q16) mv_X11_feed aw_1307 ly_208 rfl (Nat.le_of_ble_eq_true rfl) ⟨by decide, by decide⟩ ⟨by show _ ≤ 601024; omega, by show _ ≤ 7293034; omega⟩ dL_law__313 ?_
  refine v_icmp_eq hC 2644 dL_law__316 rfl (fun c17 => ?_) (fun c17 => ?_)
  · rw [if_pos c17] at h
    cases h
    exact v_widen (k := ce + 3) (n := sl + 18) (by omega) (by omega) k
  · rw [if_neg c17] at h
    cases h
def f_L_c1 (N Ln : Nat) (xs : Nat → Int32) (v4 : Int32) (M : Mm) : Option (Bool × Mm) :=
  grd (inb (v4 + (1 : Int32)) Ln) (bnd (f_X10_end N (xs ((v4 + (1 : Int32))).toNatClampNeg) M) (fun r2 M3 => grd (inb (v4 + (1 : Int32)) Ln) (bnd (f_X11_end N (xs ((v4 + (1 : Int32))).toNatClampNeg) M3) (fun r6 M7 => (if r2 = r6 then some (true, M7) else some (false, M7))))))
set_option maxRecDepth 20000 in
set_option maxHeartbeats 4000000 in
theorem okc_1 {N Ln : Nat} {xs : Nat → Int32} {X : am_X} {l : Launch} (hl : l.stackTraces = false) (hC : am_C X l room_1 cL_law_ RL (some .boolean)) (hs : am_SC X xs Ln) {v4 : Int32} {M M' : Mm} {ce sl : Nat} {Q : State → Prop} (hce : ce + 100 ≤ 601024) (hsl : sl + 1000 ≤ 7293034) (h : f_L_c1 N Ln xs v4 M = some (true, M')) (k : am_V X LY M' (ce + 3) (sl + 18) Q 2644 [some (.ref am_sc), some (.ref 0), some (.ref 208), some (.ref 219), some (.int v4), none, none] []) : am_V X LY M ce sl Q 321 [some (.ref am_sc), some (.ref 0), some (.ref 208), some (.ref 219), some (.int v4), none, none] [] := by
  unfold f_L_c1 at h
  refine v_aload_n hC dL_law__321 rfl ?_
  refine v_aload_n hC dL_law__322 rfl ?_
  refine v_iload hC dL_law__323 rfl ?_
  refine v_iconst (v := (1 : Int32)) hC dL_law__325 rfl ?_
  refine v_iadd hC dL_law__326 ?_
  obtain ⟨g1, h⟩ := grd_some h
  refine v_ssl hC hs (inb_in g1) dL_law__327 ?_
  obtain ⟨r2, M3, q4, h⟩ := bnd_some h
  refine w_callVi hC [.int (xs ((v4 + (1 : Int32))).toNatClampNeg)] [] (ok_X10_end q4) mv_X10_end aw_381 ly_0 rfl (Nat.le_of_ble_eq_true rfl) ⟨by decide, by decide⟩ ⟨by show _ ≤ 601024; omega, by show _ ≤ 7293034; omega⟩ dL_law__328 ?_
  refine v_aload_n hC dL_law__331 rfl ?_
  refine v_aload_n hC dL_law__332 rfl ?_
  refine v_iload hC dL_law__333 rfl ?_
  refine v_iconst (v := (1 : Int32)) hC dL_law__335 rfl ?_
  refine v_iadd hC dL_law__336 ?_
  obtain ⟨g5, h⟩ := grd_some h
  refine v_ssl hC hs (inb_in g5) dL_law__337 ?_
  obtain ⟨r6, M7, q8, h⟩ := bnd_some h
  refine w_callVi hC [.int (xs ((v4 + (1 : Int32))).toNatClampNeg)] [.int r2] (ok_X11_end q8) mv_X11_end aw_1311 ly_208 rfl (Nat.le_of_ble_eq_true rfl) ⟨by decide, by decide⟩ ⟨by show _ ≤ 601024; omega, by show _ ≤ 7293034; omega⟩ dL_law__338 ?_
  refine v_icmp_eq hC 2644 dL_law__341 rfl (fun c9 => ?_) (fun c9 => ?_)
  · rw [if_pos c9] at h
    cases h
    exact v_widen (k := ce + 3) (n := sl + 18) (by omega) (by omega) k
  · rw [if_neg c9] at h
    cases h
def f_L_c2 (N Ln : Nat) (xs : Nat → Int32) (v4 : Int32) (M : Mm) : Option (Bool × Mm) :=
  bnd (f_L_table N M) (fun r1 M2 => bnd (f_X11_table N M2) (fun r4 M5 => bnd (f_X11_thrown N M5) (fun r7 M8 => (if r7 = r1 then (if r1 = (0 : Int32) then grd (inb (0 : Int32) 1) ((if (lg_cmp (M8 219 ((0 : Int32)).toNatClampNeg).toInt64 (r4).toInt64) = (0 : Int32) then some (true, M8) else some (false, M8))) else some (true, M8)) else some (false, M8)))))
set_option maxRecDepth 20000 in
set_option maxHeartbeats 4000000 in
theorem okc_2 {N Ln : Nat} {xs : Nat → Int32} {X : am_X} {l : Launch} (hl : l.stackTraces = false) (hC : am_C X l room_1 cL_law_ RL (some .boolean)) (hs : am_SC X xs Ln) {v4 : Int32} {M M' : Mm} {ce sl : Nat} {Q : State → Prop} (hce : ce + 100 ≤ 601024) (hsl : sl + 1000 ≤ 7293034) (h : f_L_c2 N Ln xs v4 M = some (true, M')) (k : am_V X LY M' (ce + 3) (sl + 18) Q 2644 [some (.ref am_sc), some (.ref 0), some (.ref 208), some (.ref 219), some (.int v4), none, none] []) : am_V X LY M ce sl Q 346 [some (.ref am_sc), some (.ref 0), some (.ref 208), some (.ref 219), some (.int v4), none, none] [] := by
  unfold f_L_c2 at h
  refine v_aload_n hC dL_law__346 rfl ?_
  refine v_aload_n hC dL_law__347 rfl ?_
  obtain ⟨r1, M2, q3, h⟩ := bnd_some h
  refine w_callSH hC [.ref 0, .ref 219] [] (ok_L_table hl q3) mh_L_table aw_575 rfl (Nat.le_of_ble_eq_true rfl) ⟨by decide, by decide⟩ ⟨by show _ ≤ 601024; omega, by show _ ≤ 7293034; omega⟩ dL_law__348 ?_
  refine w_istore hC dL_law__351 (ltk rfl) [some (.ref am_sc), some (.ref 0), some (.ref 208), some (.ref 219), some (.int v4), some (.int r1), none] rfl ?_
  refine v_aload_n hC dL_law__353 rfl ?_
  obtain ⟨r4, M5, q6, h⟩ := bnd_some h
  refine w_callVi hC [] [] (ok_X11_table q6) mv_X11_table aw_1319 ly_208 rfl (Nat.le_of_ble_eq_true rfl) ⟨by decide, by decide⟩ ⟨by show _ ≤ 601024; omega, by show _ ≤ 7293034; omega⟩ dL_law__354 ?_
  refine w_istore hC dL_law__357 (ltk rfl) [some (.ref am_sc), some (.ref 0), some (.ref 208), some (.ref 219), some (.int v4), some (.int r1), some (.int r4)] rfl ?_
  refine v_aload_n hC dL_law__359 rfl ?_
  obtain ⟨r7, M8, q9, h⟩ := bnd_some h
  refine w_callVi hC [] [] (ok_X11_thrown q9) mv_X11_thrown aw_1221 ly_208 rfl (Nat.le_of_ble_eq_true rfl) ⟨by decide, by decide⟩ ⟨by show _ ≤ 601024; omega, by show _ ≤ 7293034; omega⟩ dL_law__360 ?_
  refine v_iload hC dL_law__363 rfl ?_
  refine v_icmp_eq hC 370 dL_law__365 rfl (fun c10 => ?_) (fun c10 => ?_)
  · rw [if_pos c10] at h
    refine v_iload hC dL_law__370 rfl ?_
    refine v_if_ne hC 387 dL_law__372 rfl (fun c11 => ?_) (fun c11 => ?_)
    · rw [if_neg c11] at h
      refine v_goto (tg := 2644) hC dL_law__387 rfl ?_
      refine v_drop [true, true, true, true, true, false, false] [some (.ref am_sc), some (.ref 0), some (.ref 208), some (.ref 219), some (.int v4), none, none] rfl ?_
      cases h
      exact v_widen (k := ce + 3) (n := sl + 18) (by omega) (by omega) k
    · rw [if_pos c11] at h
      refine v_aload_n hC dL_law__375 rfl ?_
      refine v_iconst (v := (0 : Int32)) hC dL_law__376 rfl ?_
      obtain ⟨g12, h⟩ := grd_some h
      refine v_lald hC ly_219 (inb_in g12) dL_law__377 ?_
      refine v_iload hC dL_law__378 rfl ?_
      refine v_i2l hC dL_law__380 ?_
      refine v_lcmp hC dL_law__381 ?_
      refine v_if_eq hC 387 dL_law__382 rfl (fun c13 => ?_) (fun c13 => ?_)
      · rw [if_pos c13] at h
        refine v_goto (tg := 2644) hC dL_law__387 rfl ?_
        refine v_drop [true, true, true, true, true, false, false] [some (.ref am_sc), some (.ref 0), some (.ref 208), some (.ref 219), some (.int v4), none, none] rfl ?_
        cases h
        exact v_widen (k := ce + 3) (n := sl + 18) (by omega) (by omega) k
      · rw [if_neg c13] at h
        cases h
  · rw [if_neg c10] at h
    cases h
def f_L_c3 (N Ln : Nat) (xs : Nat → Int32) (v4 : Int32) (M : Mm) : Option (Bool × Mm) :=
  bnd (f_L_law N M) (fun r1 M2 => bnd (f_X11_law N M2) (fun r4 M5 => bnd (f_X11_thrown N M5) (fun r7 M8 => (if r7 = r1 then (if r1 = (0 : Int32) then grd (inb (0 : Int32) 1) ((if (lg_cmp (M8 219 ((0 : Int32)).toNatClampNeg).toInt64 (r4).toInt64) = (0 : Int32) then some (true, M8) else some (false, M8))) else some (true, M8)) else some (false, M8)))))
set_option maxRecDepth 20000 in
set_option maxHeartbeats 4000000 in
theorem okc_3 {N Ln : Nat} {xs : Nat → Int32} {X : am_X} {l : Launch} (hl : l.stackTraces = false) (hC : am_C X l room_1 cL_law_ RL (some .boolean)) (hs : am_SC X xs Ln) {v4 : Int32} {M M' : Mm} {ce sl : Nat} {Q : State → Prop} (hce : ce + 100 ≤ 601024) (hsl : sl + 1000 ≤ 7293034) (h : f_L_c3 N Ln xs v4 M = some (true, M')) (k : am_V X LY M' (ce + 3) (sl + 18) Q 2644 [some (.ref am_sc), some (.ref 0), some (.ref 208), some (.ref 219), some (.int v4), none, none] []) : am_V X LY M ce sl Q 390 [some (.ref am_sc), some (.ref 0), some (.ref 208), some (.ref 219), some (.int v4), none, none] [] := by
  unfold f_L_c3 at h
  refine v_aload_n hC dL_law__390 rfl ?_
  refine v_aload_n hC dL_law__391 rfl ?_
  obtain ⟨r1, M2, q3, h⟩ := bnd_some h
  refine w_callSH hC [.ref 0, .ref 219] [] (ok_L_law hl q3) mh_L_law aw_794 rfl (Nat.le_of_ble_eq_true rfl) ⟨by decide, by decide⟩ ⟨by show _ ≤ 601024; omega, by show _ ≤ 7293034; omega⟩ dL_law__392 ?_
  refine w_istore hC dL_law__395 (ltk rfl) [some (.ref am_sc), some (.ref 0), some (.ref 208), some (.ref 219), some (.int v4), some (.int r1), none] rfl ?_
  refine v_aload_n hC dL_law__397 rfl ?_
  obtain ⟨r4, M5, q6, h⟩ := bnd_some h
  refine w_callVi hC [] [] (ok_X11_law q6) mv_X11_law aw_1474 ly_208 rfl (Nat.le_of_ble_eq_true rfl) ⟨by decide, by decide⟩ ⟨by show _ ≤ 601024; omega, by show _ ≤ 7293034; omega⟩ dL_law__398 ?_
  refine w_istore hC dL_law__401 (ltk rfl) [some (.ref am_sc), some (.ref 0), some (.ref 208), some (.ref 219), some (.int v4), some (.int r1), some (.int r4)] rfl ?_
  refine v_aload_n hC dL_law__403 rfl ?_
  obtain ⟨r7, M8, q9, h⟩ := bnd_some h
  refine w_callVi hC [] [] (ok_X11_thrown q9) mv_X11_thrown aw_1221 ly_208 rfl (Nat.le_of_ble_eq_true rfl) ⟨by decide, by decide⟩ ⟨by show _ ≤ 601024; omega, by show _ ≤ 7293034; omega⟩ dL_law__404 ?_
  refine v_iload hC dL_law__407 rfl ?_
  refine v_icmp_eq hC 414 dL_law__409 rfl (fun c10 => ?_) (fun c10 => ?_)
  · rw [if_pos c10] at h
    refine v_iload hC dL_law__414 rfl ?_
    refine v_if_ne hC 431 dL_law__416 rfl (fun c11 => ?_) (fun c11 => ?_)
    · rw [if_neg c11] at h
      refine v_goto (tg := 2644) hC dL_law__431 rfl ?_
      refine v_drop [true, true, true, true, true, false, false] [some (.ref am_sc), some (.ref 0), some (.ref 208), some (.ref 219), some (.int v4), none, none] rfl ?_
      cases h
      exact v_widen (k := ce + 3) (n := sl + 18) (by omega) (by omega) k
    · rw [if_pos c11] at h
      refine v_aload_n hC dL_law__419 rfl ?_
      refine v_iconst (v := (0 : Int32)) hC dL_law__420 rfl ?_
      obtain ⟨g12, h⟩ := grd_some h
      refine v_lald hC ly_219 (inb_in g12) dL_law__421 ?_
      refine v_iload hC dL_law__422 rfl ?_
      refine v_i2l hC dL_law__424 ?_
      refine v_lcmp hC dL_law__425 ?_
      refine v_if_eq hC 431 dL_law__426 rfl (fun c13 => ?_) (fun c13 => ?_)
      · rw [if_pos c13] at h
        refine v_goto (tg := 2644) hC dL_law__431 rfl ?_
        refine v_drop [true, true, true, true, true, false, false] [some (.ref am_sc), some (.ref 0), some (.ref 208), some (.ref 219), some (.int v4), none, none] rfl ?_
        cases h
        exact v_widen (k := ce + 3) (n := sl + 18) (by omega) (by omega) k
      · rw [if_neg c13] at h
        cases h
  · rw [if_neg c10] at h
    cases h
def f_L_c4 (N Ln : Nat) (xs : Nat → Int32) (v4 : Int32) (M : Mm) : Option (Bool × Mm) :=
  bnd (f_X10_fault N M) (fun r1 M2 => bnd (f_X11_fault N M2) (fun r4 M5 => (if r1 = r4 then some (true, M5) else some (false, M5))))
set_option maxRecDepth 20000 in
set_option maxHeartbeats 4000000 in
theorem okc_4 {N Ln : Nat} {xs : Nat → Int32} {X : am_X} {l : Launch} (hl : l.stackTraces = false) (hC : am_C X l room_1 cL_law_ RL (some .boolean)) (hs : am_SC X xs Ln) {v4 : Int32} {M M' : Mm} {ce sl : Nat} {Q : State → Prop} (hce : ce + 100 ≤ 601024) (hsl : sl + 1000 ≤ 7293034) (h : f_L_c4 N Ln xs v4 M = some (true, M')) (k : am_V X LY M' (ce + 3) (sl + 18) Q 2644 [some (.ref am_sc), some (.ref 0), some (.ref 208), some (.ref 219), some (.int v4), none, none] []) : am_V X LY M ce sl Q 434 [some (.ref am_sc), some (.ref 0), some (.ref 208), some (.ref 219), some (.int v4), none, none] [] := by
  unfold f_L_c4 at h
  refine v_aload_n hC dL_law__434 rfl ?_
  obtain ⟨r1, M2, q3, h⟩ := bnd_some h
  refine w_callVi hC [] [] (ok_X10_fault q3) mv_X10_fault aw_385 ly_0 rfl (Nat.le_of_ble_eq_true rfl) ⟨by decide, by decide⟩ ⟨by show _ ≤ 601024; omega, by show _ ≤ 7293034; omega⟩ dL_law__435 ?_
  refine v_aload_n hC dL_law__438 rfl ?_
  obtain ⟨r4, M5, q6, h⟩ := bnd_some h
  refine w_callVi hC [] [.int r1] (ok_X11_fault q6) mv_X11_fault aw_1315 ly_208 rfl (Nat.le_of_ble_eq_true rfl) ⟨by decide, by decide⟩ ⟨by show _ ≤ 601024; omega, by show _ ≤ 7293034; omega⟩ dL_law__439 ?_
  refine v_icmp_eq hC 2644 dL_law__442 rfl (fun c7 => ?_) (fun c7 => ?_)
  · rw [if_pos c7] at h
    cases h
    exact v_widen (k := ce + 3) (n := sl + 18) (by omega) (by omega) k
  · rw [if_neg c7] at h
    cases h
def f_L_c5 (N Ln : Nat) (xs : Nat → Int32) (v4 : Int32) (M : Mm) : Option (Bool × Mm) :=
  grd (inb (v4 + (1 : Int32)) Ln) (grd (inb (v4 + (2 : Int32)) Ln) (bnd (f_L_diner N (xs ((v4 + (1 : Int32))).toNatClampNeg) (xs ((v4 + (2 : Int32))).toNatClampNeg) M) (fun r3 M4 => grd (inb (v4 + (1 : Int32)) Ln) (grd (inb (v4 + (2 : Int32)) Ln) (bnd (f_X11_diner N (xs ((v4 + (1 : Int32))).toNatClampNeg) (xs ((v4 + (2 : Int32))).toNatClampNeg) M4) (fun r8 M9 => bnd (f_X11_thrown N M9) (fun r11 M12 => (if r11 = r3 then (if r3 = (0 : Int32) then grd (inb (0 : Int32) 1) ((if (lg_cmp (M12 219 ((0 : Int32)).toNatClampNeg).toInt64 (r8).toInt64) = (0 : Int32) then some (true, M12) else some (false, M12))) else some (true, M12)) else some (false, M12)))))))))
set_option maxRecDepth 20000 in
set_option maxHeartbeats 4000000 in
theorem okc_5 {N Ln : Nat} {xs : Nat → Int32} {X : am_X} {l : Launch} (hl : l.stackTraces = false) (hC : am_C X l room_1 cL_law_ RL (some .boolean)) (hs : am_SC X xs Ln) {v4 : Int32} {M M' : Mm} {ce sl : Nat} {Q : State → Prop} (hce : ce + 100 ≤ 601024) (hsl : sl + 1000 ≤ 7293034) (h : f_L_c5 N Ln xs v4 M = some (true, M')) (k : am_V X LY M' (ce + 3) (sl + 18) Q 2644 [some (.ref am_sc), some (.ref 0), some (.ref 208), some (.ref 219), some (.int v4), none, none] []) : am_V X LY M ce sl Q 447 [some (.ref am_sc), some (.ref 0), some (.ref 208), some (.ref 219), some (.int v4), none, none] [] := by
  unfold f_L_c5 at h
  refine v_aload_n hC dL_law__447 rfl ?_
  refine v_aload_n hC dL_law__448 rfl ?_
  refine v_iload hC dL_law__449 rfl ?_
  refine v_iconst (v := (1 : Int32)) hC dL_law__451 rfl ?_
  refine v_iadd hC dL_law__452 ?_
  obtain ⟨g1, h⟩ := grd_some h
  refine v_ssl hC hs (inb_in g1) dL_law__453 ?_
  refine v_aload_n hC dL_law__454 rfl ?_
  refine v_iload hC dL_law__455 rfl ?_
  refine v_iconst (v := (2 : Int32)) hC dL_law__457 rfl ?_
  refine v_iadd hC dL_law__458 ?_
  obtain ⟨g2, h⟩ := grd_some h
  refine v_ssl hC hs (inb_in g2) dL_law__459 ?_
  refine v_aload_n hC dL_law__460 rfl ?_
  obtain ⟨r3, M4, q5, h⟩ := bnd_some h
  refine w_callSH hC [.ref 0, .int (xs ((v4 + (1 : Int32))).toNatClampNeg), .int (xs ((v4 + (2 : Int32))).toNatClampNeg), .ref 219] [] (ok_L_diner hl q5) mh_L_diner aw_834 rfl (Nat.le_of_ble_eq_true rfl) ⟨by decide, by decide⟩ ⟨by show _ ≤ 601024; omega, by show _ ≤ 7293034; omega⟩ dL_law__461 ?_
  refine w_istore hC dL_law__464 (ltk rfl) [some (.ref am_sc), some (.ref 0), some (.ref 208), some (.ref 219), some (.int v4), some (.int r3), none] rfl ?_
  refine v_aload_n hC dL_law__466 rfl ?_
  refine v_aload_n hC dL_law__467 rfl ?_
  refine v_iload hC dL_law__468 rfl ?_
  refine v_iconst (v := (1 : Int32)) hC dL_law__470 rfl ?_
  refine v_iadd hC dL_law__471 ?_
  obtain ⟨g6, h⟩ := grd_some h
  refine v_ssl hC hs (inb_in g6) dL_law__472 ?_
  refine v_aload_n hC dL_law__473 rfl ?_
  refine v_iload hC dL_law__474 rfl ?_
  refine v_iconst (v := (2 : Int32)) hC dL_law__476 rfl ?_
  refine v_iadd hC dL_law__477 ?_
  obtain ⟨g7, h⟩ := grd_some h
  refine v_ssl hC hs (inb_in g7) dL_law__478 ?_
  obtain ⟨r8, M9, q10, h⟩ := bnd_some h
  refine w_callVi hC [.int (xs ((v4 + (1 : Int32))).toNatClampNeg), .int (xs ((v4 + (2 : Int32))).toNatClampNeg)] [] (ok_X11_diner q10) mv_X11_diner aw_1478 ly_208 rfl (Nat.le_of_ble_eq_true rfl) ⟨by decide, by decide⟩ ⟨by show _ ≤ 601024; omega, by show _ ≤ 7293034; omega⟩ dL_law__479 ?_
  refine w_istore hC dL_law__482 (ltk rfl) [some (.ref am_sc), some (.ref 0), some (.ref 208), some (.ref 219), some (.int v4), some (.int r3), some (.int r8)] rfl ?_
  refine v_aload_n hC dL_law__484 rfl ?_
  obtain ⟨r11, M12, q13, h⟩ := bnd_some h
  refine w_callVi hC [] [] (ok_X11_thrown q13) mv_X11_thrown aw_1221 ly_208 rfl (Nat.le_of_ble_eq_true rfl) ⟨by decide, by decide⟩ ⟨by show _ ≤ 601024; omega, by show _ ≤ 7293034; omega⟩ dL_law__485 ?_
  refine v_iload hC dL_law__488 rfl ?_
  refine v_icmp_eq hC 495 dL_law__490 rfl (fun c14 => ?_) (fun c14 => ?_)
  · rw [if_pos c14] at h
    refine v_iload hC dL_law__495 rfl ?_
    refine v_if_ne hC 512 dL_law__497 rfl (fun c15 => ?_) (fun c15 => ?_)
    · rw [if_neg c15] at h
      refine v_goto (tg := 2644) hC dL_law__512 rfl ?_
      refine v_drop [true, true, true, true, true, false, false] [some (.ref am_sc), some (.ref 0), some (.ref 208), some (.ref 219), some (.int v4), none, none] rfl ?_
      cases h
      exact v_widen (k := ce + 3) (n := sl + 18) (by omega) (by omega) k
    · rw [if_pos c15] at h
      refine v_aload_n hC dL_law__500 rfl ?_
      refine v_iconst (v := (0 : Int32)) hC dL_law__501 rfl ?_
      obtain ⟨g16, h⟩ := grd_some h
      refine v_lald hC ly_219 (inb_in g16) dL_law__502 ?_
      refine v_iload hC dL_law__503 rfl ?_
      refine v_i2l hC dL_law__505 ?_
      refine v_lcmp hC dL_law__506 ?_
      refine v_if_eq hC 512 dL_law__507 rfl (fun c17 => ?_) (fun c17 => ?_)
      · rw [if_pos c17] at h
        refine v_goto (tg := 2644) hC dL_law__512 rfl ?_
        refine v_drop [true, true, true, true, true, false, false] [some (.ref am_sc), some (.ref 0), some (.ref 208), some (.ref 219), some (.int v4), none, none] rfl ?_
        cases h
        exact v_widen (k := ce + 3) (n := sl + 18) (by omega) (by omega) k
      · rw [if_neg c17] at h
        cases h
  · rw [if_neg c14] at h
    cases h
def f_L_c6 (N Ln : Nat) (xs : Nat → Int32) (v4 : Int32) (M : Mm) : Option (Bool × Mm) :=
  grd (inb (v4 + (1 : Int32)) Ln) (grd (inb (v4 + (2 : Int32)) Ln) (bnd (f_L_has N (xs ((v4 + (1 : Int32))).toNatClampNeg) (xs ((v4 + (2 : Int32))).toNatClampNeg) M) (fun r3 M4 => grd (inb (v4 + (1 : Int32)) Ln) (grd (inb (v4 + (2 : Int32)) Ln) (bnd (f_X11_has N (xs ((v4 + (1 : Int32))).toNatClampNeg) (xs ((v4 + (2 : Int32))).toNatClampNeg) M4) (fun r8 M9 => bnd (f_X11_thrown N M9) (fun r11 M12 => (if r11 = r3 then (if r3 = (0 : Int32) then grd (inb (0 : Int32) 1) ((if (lg_cmp (M12 219 ((0 : Int32)).toNatClampNeg).toInt64 (r8).toInt64) = (0 : Int32) then some (true, M12) else some (false, M12))) else some (true, M12)) else some (false, M12)))))))))
set_option maxRecDepth 20000 in
set_option maxHeartbeats 4000000 in
theorem okc_6 {N Ln : Nat} {xs : Nat → Int32} {X : am_X} {l : Launch} (hl : l.stackTraces = false) (hC : am_C X l room_1 cL_law_ RL (some .boolean)) (hs : am_SC X xs Ln) {v4 : Int32} {M M' : Mm} {ce sl : Nat} {Q : State → Prop} (hce : ce + 100 ≤ 601024) (hsl : sl + 1000 ≤ 7293034) (h : f_L_c6 N Ln xs v4 M = some (true, M')) (k : am_V X LY M' (ce + 3) (sl + 18) Q 2644 [some (.ref am_sc), some (.ref 0), some (.ref 208), some (.ref 219), some (.int v4), none, none] []) : am_V X LY M ce sl Q 515 [some (.ref am_sc), some (.ref 0), some (.ref 208), some (.ref 219), some (.int v4), none, none] [] := by
  unfold f_L_c6 at h
  refine v_aload_n hC dL_law__515 rfl ?_
  refine v_aload_n hC dL_law__516 rfl ?_
  refine v_iload hC dL_law__517 rfl ?_
  refine v_iconst (v := (1 : Int32)) hC dL_law__519 rfl ?_
  refine v_iadd hC dL_law__520 ?_
  obtain ⟨g1, h⟩ := grd_some h
  refine v_ssl hC hs (inb_in g1) dL_law__521 ?_
  refine v_aload_n hC dL_law__522 rfl ?_
  refine v_iload hC dL_law__523 rfl ?_
  refine v_iconst (v := (2 : Int32)) hC dL_law__525 rfl ?_
  refine v_iadd hC dL_law__526 ?_
  obtain ⟨g2, h⟩ := grd_some h
  refine v_ssl hC hs (inb_in g2) dL_law__527 ?_
  refine v_aload_n hC dL_law__528 rfl ?_
  obtain ⟨r3, M4, q5, h⟩ := bnd_some h
  refine w_callSH hC [.ref 0, .int (xs ((v4 + (1 : Int32))).toNatClampNeg), .int (xs ((v4 + (2 : Int32))).toNatClampNeg), .ref 219] [] (ok_L_has hl q5) mh_L_has aw_892 rfl (Nat.le_of_ble_eq_true rfl) ⟨by decide, by decide⟩ ⟨by show _ ≤ 601024; omega, by show _ ≤ 7293034; omega⟩ dL_law__529 ?_
  refine w_istore hC dL_law__532 (ltk rfl) [some (.ref am_sc), some (.ref 0), some (.ref 208), some (.ref 219), some (.int v4), some (.int r3), none] rfl ?_
  refine v_aload_n hC dL_law__534 rfl ?_
  refine v_aload_n hC dL_law__535 rfl ?_
  refine v_iload hC dL_law__536 rfl ?_
  refine v_iconst (v := (1 : Int32)) hC dL_law__538 rfl ?_
  refine v_iadd hC dL_law__539 ?_
  obtain ⟨g6, h⟩ := grd_some h
  refine v_ssl hC hs (inb_in g6) dL_law__540 ?_
  refine v_aload_n hC dL_law__541 rfl ?_
  refine v_iload hC dL_law__542 rfl ?_
  refine v_iconst (v := (2 : Int32)) hC dL_law__544 rfl ?_
  refine v_iadd hC dL_law__545 ?_
  obtain ⟨g7, h⟩ := grd_some h
  refine v_ssl hC hs (inb_in g7) dL_law__546 ?_
  obtain ⟨r8, M9, q10, h⟩ := bnd_some h
  refine w_callVi hC [.int (xs ((v4 + (1 : Int32))).toNatClampNeg), .int (xs ((v4 + (2 : Int32))).toNatClampNeg)] [] (ok_X11_has q10) mv_X11_has aw_1494 ly_208 rfl (Nat.le_of_ble_eq_true rfl) ⟨by decide, by decide⟩ ⟨by show _ ≤ 601024; omega, by show _ ≤ 7293034; omega⟩ dL_law__547 ?_
  refine w_istore hC dL_law__550 (ltk rfl) [some (.ref am_sc), some (.ref 0), some (.ref 208), some (.ref 219), some (.int v4), some (.int r3), some (.int r8)] rfl ?_
  refine v_aload_n hC dL_law__552 rfl ?_
  obtain ⟨r11, M12, q13, h⟩ := bnd_some h
  refine w_callVi hC [] [] (ok_X11_thrown q13) mv_X11_thrown aw_1221 ly_208 rfl (Nat.le_of_ble_eq_true rfl) ⟨by decide, by decide⟩ ⟨by show _ ≤ 601024; omega, by show _ ≤ 7293034; omega⟩ dL_law__553 ?_
  refine v_iload hC dL_law__556 rfl ?_
  refine v_icmp_eq hC 563 dL_law__558 rfl (fun c14 => ?_) (fun c14 => ?_)
  · rw [if_pos c14] at h
    refine v_iload hC dL_law__563 rfl ?_
    refine v_if_ne hC 580 dL_law__565 rfl (fun c15 => ?_) (fun c15 => ?_)
    · rw [if_neg c15] at h
      refine v_goto (tg := 2644) hC dL_law__580 rfl ?_
      refine v_drop [true, true, true, true, true, false, false] [some (.ref am_sc), some (.ref 0), some (.ref 208), some (.ref 219), some (.int v4), none, none] rfl ?_
      cases h
      exact v_widen (k := ce + 3) (n := sl + 18) (by omega) (by omega) k
    · rw [if_pos c15] at h
      refine v_aload_n hC dL_law__568 rfl ?_
      refine v_iconst (v := (0 : Int32)) hC dL_law__569 rfl ?_
      obtain ⟨g16, h⟩ := grd_some h
      refine v_lald hC ly_219 (inb_in g16) dL_law__570 ?_
      refine v_iload hC dL_law__571 rfl ?_
      refine v_i2l hC dL_law__573 ?_
      refine v_lcmp hC dL_law__574 ?_
      refine v_if_eq hC 580 dL_law__575 rfl (fun c17 => ?_) (fun c17 => ?_)
      · rw [if_pos c17] at h
        refine v_goto (tg := 2644) hC dL_law__580 rfl ?_
        refine v_drop [true, true, true, true, true, false, false] [some (.ref am_sc), some (.ref 0), some (.ref 208), some (.ref 219), some (.int v4), none, none] rfl ?_
        cases h
        exact v_widen (k := ce + 3) (n := sl + 18) (by omega) (by omega) k
      · rw [if_neg c17] at h
        cases h
  · rw [if_neg c14] at h
    cases h
def f_L_c7 (N Ln : Nat) (xs : Nat → Int32) (v4 : Int32) (M : Mm) : Option (Bool × Mm) :=
  grd (inb (v4 + (1 : Int32)) Ln) (grd (inb (v4 + (2 : Int32)) Ln) (bnd (f_L_cellar N (xs ((v4 + (1 : Int32))).toNatClampNeg) (xs ((v4 + (2 : Int32))).toNatClampNeg) M) (fun r3 M4 => grd (inb (v4 + (1 : Int32)) Ln) (grd (inb (v4 + (2 : Int32)) Ln) (bnd (f_X11_cellar N (xs ((v4 + (1 : Int32))).toNatClampNeg) (xs ((v4 + (2 : Int32))).toNatClampNeg) M4) (fun r8 M9 => bnd (f_X11_thrown N M9) (fun r11 M12 => (if r11 = r3 then (if r3 = (0 : Int32) then grd (inb (0 : Int32) 1) ((if (lg_cmp (M12 219 ((0 : Int32)).toNatClampNeg).toInt64 (r8).toInt64) = (0 : Int32) then some (true, M12) else some (false, M12))) else some (true, M12)) else some (false, M12)))))))))
set_option maxRecDepth 20000 in
set_option maxHeartbeats 4000000 in
theorem okc_7 {N Ln : Nat} {xs : Nat → Int32} {X : am_X} {l : Launch} (hl : l.stackTraces = false) (hC : am_C X l room_1 cL_law_ RL (some .boolean)) (hs : am_SC X xs Ln) {v4 : Int32} {M M' : Mm} {ce sl : Nat} {Q : State → Prop} (hce : ce + 100 ≤ 601024) (hsl : sl + 1000 ≤ 7293034) (h : f_L_c7 N Ln xs v4 M = some (true, M')) (k : am_V X LY M' (ce + 3) (sl + 18) Q 2644 [some (.ref am_sc), some (.ref 0), some (.ref 208), some (.ref 219), some (.int v4), none, none] []) : am_V X LY M ce sl Q 583 [some (.ref am_sc), some (.ref 0), some (.ref 208), some (.ref 219), some (.int v4), none, none] [] := by
  unfold f_L_c7 at h
  refine v_aload_n hC dL_law__583 rfl ?_
  refine v_aload_n hC dL_law__584 rfl ?_
  refine v_iload hC dL_law__585 rfl ?_
  refine v_iconst (v := (1 : Int32)) hC dL_law__587 rfl ?_
  refine v_iadd hC dL_law__588 ?_
  obtain ⟨g1, h⟩ := grd_some h
  refine v_ssl hC hs (inb_in g1) dL_law__589 ?_
  refine v_aload_n hC dL_law__590 rfl ?_
  refine v_iload hC dL_law__591 rfl ?_
  refine v_iconst (v := (2 : Int32)) hC dL_law__593 rfl ?_
  refine v_iadd hC dL_law__594 ?_
  obtain ⟨g2, h⟩ := grd_some h
  refine v_ssl hC hs (inb_in g2) dL_law__595 ?_
  refine v_aload_n hC dL_law__596 rfl ?_
  obtain ⟨r3, M4, q5, h⟩ := bnd_some h
  refine w_callSH hC [.ref 0, .int (xs ((v4 + (1 : Int32))).toNatClampNeg), .int (xs ((v4 + (2 : Int32))).toNatClampNeg), .ref 219] [] (ok_L_cellar hl q5) mh_L_cellar aw_905 rfl (Nat.le_of_ble_eq_true rfl) ⟨by decide, by decide⟩ ⟨by show _ ≤ 601024; omega, by show _ ≤ 7293034; omega⟩ dL_law__597 ?_
  refine w_istore hC dL_law__600 (ltk rfl) [some (.ref am_sc), some (.ref 0), some (.ref 208), some (.ref 219), some (.int v4), some (.int r3), none] rfl ?_
  refine v_aload_n hC dL_law__602 rfl ?_
  refine v_aload_n hC dL_law__603 rfl ?_
  refine v_iload hC dL_law__604 rfl ?_
  refine v_iconst (v := (1 : Int32)) hC dL_law__606 rfl ?_
  refine v_iadd hC dL_law__607 ?_
  obtain ⟨g6, h⟩ := grd_some h
  refine v_ssl hC hs (inb_in g6) dL_law__608 ?_
  refine v_aload_n hC dL_law__609 rfl ?_
  refine v_iload hC dL_law__610 rfl ?_
  refine v_iconst (v := (2 : Int32)) hC dL_law__612 rfl ?_
  refine v_iadd hC dL_law__613 ?_
  obtain ⟨g7, h⟩ := grd_some h
  refine v_ssl hC hs (inb_in g7) dL_law__614 ?_
  obtain ⟨r8, M9, q10, h⟩ := bnd_some h
  refine w_callVi hC [.int (xs ((v4 + (1 : Int32))).toNatClampNeg), .int (xs ((v4 + (2 : Int32))).toNatClampNeg)] [] (ok_X11_cellar q10) mv_X11_cellar aw_1498 ly_208 rfl (Nat.le_of_ble_eq_true rfl) ⟨by decide, by decide⟩ ⟨by show _ ≤ 601024; omega, by show _ ≤ 7293034; omega⟩ dL_law__615 ?_
  refine w_istore hC dL_law__618 (ltk rfl) [some (.ref am_sc), some (.ref 0), some (.ref 208), some (.ref 219), some (.int v4), some (.int r3), some (.int r8)] rfl ?_
  refine v_aload_n hC dL_law__620 rfl ?_
  obtain ⟨r11, M12, q13, h⟩ := bnd_some h
  refine w_callVi hC [] [] (ok_X11_thrown q13) mv_X11_thrown aw_1221 ly_208 rfl (Nat.le_of_ble_eq_true rfl) ⟨by decide, by decide⟩ ⟨by show _ ≤ 601024; omega, by show _ ≤ 7293034; omega⟩ dL_law__621 ?_
  refine v_iload hC dL_law__624 rfl ?_
  refine v_icmp_eq hC 631 dL_law__626 rfl (fun c14 => ?_) (fun c14 => ?_)
  · rw [if_pos c14] at h
    refine v_iload hC dL_law__631 rfl ?_
    refine v_if_ne hC 648 dL_law__633 rfl (fun c15 => ?_) (fun c15 => ?_)
    · rw [if_neg c15] at h
      refine v_goto (tg := 2644) hC dL_law__648 rfl ?_
      refine v_drop [true, true, true, true, true, false, false] [some (.ref am_sc), some (.ref 0), some (.ref 208), some (.ref 219), some (.int v4), none, none] rfl ?_
      cases h
      exact v_widen (k := ce + 3) (n := sl + 18) (by omega) (by omega) k
    · rw [if_pos c15] at h
      refine v_aload_n hC dL_law__636 rfl ?_
      refine v_iconst (v := (0 : Int32)) hC dL_law__637 rfl ?_
      obtain ⟨g16, h⟩ := grd_some h
      refine v_lald hC ly_219 (inb_in g16) dL_law__638 ?_
      refine v_iload hC dL_law__639 rfl ?_
      refine v_i2l hC dL_law__641 ?_
      refine v_lcmp hC dL_law__642 ?_
      refine v_if_eq hC 648 dL_law__643 rfl (fun c17 => ?_) (fun c17 => ?_)
      · rw [if_pos c17] at h
        refine v_goto (tg := 2644) hC dL_law__648 rfl ?_
        refine v_drop [true, true, true, true, true, false, false] [some (.ref am_sc), some (.ref 0), some (.ref 208), some (.ref 219), some (.int v4), none, none] rfl ?_
        cases h
        exact v_widen (k := ce + 3) (n := sl + 18) (by omega) (by omega) k
      · rw [if_neg c17] at h
        cases h
  · rw [if_neg c14] at h
    cases h
def f_L_c8 (N Ln : Nat) (xs : Nat → Int32) (v4 : Int32) (M : Mm) : Option (Bool × Mm) :=
  grd (inb (v4 + (1 : Int32)) Ln) (bnd (f_L_seat N (xs ((v4 + (1 : Int32))).toNatClampNeg) M) (fun r2 M3 => grd (inb (v4 + (1 : Int32)) Ln) (bnd (f_X11_seat N (xs ((v4 + (1 : Int32))).toNatClampNeg) M3) (fun r6 M7 => bnd (f_X11_thrown N M7) (fun r9 M10 => (if r9 = r2 then (if r2 = (0 : Int32) then grd (inb (0 : Int32) 1) ((if (lg_cmp (M10 219 ((0 : Int32)).toNatClampNeg).toInt64 (r6).toInt64) = (0 : Int32) then some (true, M10) else some (false, M10))) else some (true, M10)) else some (false, M10)))))))
set_option maxRecDepth 20000 in
set_option maxHeartbeats 4000000 in
theorem okc_8 {N Ln : Nat} {xs : Nat → Int32} {X : am_X} {l : Launch} (hl : l.stackTraces = false) (hC : am_C X l room_1 cL_law_ RL (some .boolean)) (hs : am_SC X xs Ln) {v4 : Int32} {M M' : Mm} {ce sl : Nat} {Q : State → Prop} (hce : ce + 100 ≤ 601024) (hsl : sl + 1000 ≤ 7293034) (h : f_L_c8 N Ln xs v4 M = some (true, M')) (k : am_V X LY M' (ce + 3) (sl + 18) Q 2644 [some (.ref am_sc), some (.ref 0), some (.ref 208), some (.ref 219), some (.int v4), none, none] []) : am_V X LY M ce sl Q 651 [some (.ref am_sc), some (.ref 0), some (.ref 208), some (.ref 219), some (.int v4), none, none] [] := by
  unfold f_L_c8 at h
  refine v_aload_n hC dL_law__651 rfl ?_
  refine v_aload_n hC dL_law__652 rfl ?_
  refine v_iload hC dL_law__653 rfl ?_
  refine v_iconst (v := (1 : Int32)) hC dL_law__655 rfl ?_
  refine v_iadd hC dL_law__656 ?_
  obtain ⟨g1, h⟩ := grd_some h
  refine v_ssl hC hs (inb_in g1) dL_law__657 ?_
  refine v_aload_n hC dL_law__658 rfl ?_
  obtain ⟨r2, M3, q4, h⟩ := bnd_some h
  refine w_callSH hC [.ref 0, .int (xs ((v4 + (1 : Int32))).toNatClampNeg), .ref 219] [] (ok_L_seat hl q4) mh_L_seat aw_931 rfl (Nat.le_of_ble_eq_true rfl) ⟨by decide, by decide⟩ ⟨by show _ ≤ 601024; omega, by show _ ≤ 7293034; omega⟩ dL_law__659 ?_
  refine w_istore hC dL_law__662 (ltk rfl) [some (.ref am_sc), some (.ref 0), some (.ref 208), some (.ref 219), some (.int v4), some (.int r2), none] rfl ?_
  refine v_aload_n hC dL_law__664 rfl ?_
  refine v_aload_n hC dL_law__665 rfl ?_
  refine v_iload hC dL_law__666 rfl ?_
  refine v_iconst (v := (1 : Int32)) hC dL_law__668 rfl ?_
  refine v_iadd hC dL_law__669 ?_
  obtain ⟨g5, h⟩ := grd_some h
  refine v_ssl hC hs (inb_in g5) dL_law__670 ?_
  obtain ⟨r6, M7, q8, h⟩ := bnd_some h
  refine w_callVi hC [.int (xs ((v4 + (1 : Int32))).toNatClampNeg)] [] (ok_X11_seat q8) mv_X11_seat aw_1555 ly_208 rfl (Nat.le_of_ble_eq_true rfl) ⟨by decide, by decide⟩ ⟨by show _ ≤ 601024; omega, by show _ ≤ 7293034; omega⟩ dL_law__671 ?_
  refine w_istore hC dL_law__674 (ltk rfl) [some (.ref am_sc), some (.ref 0), some (.ref 208), some (.ref 219), some (.int v4), some (.int r2), some (.int r6)] rfl ?_
  refine v_aload_n hC dL_law__676 rfl ?_
  obtain ⟨r9, M10, q11, h⟩ := bnd_some h
  refine w_callVi hC [] [] (ok_X11_thrown q11) mv_X11_thrown aw_1221 ly_208 rfl (Nat.le_of_ble_eq_true rfl) ⟨by decide, by decide⟩ ⟨by show _ ≤ 601024; omega, by show _ ≤ 7293034; omega⟩ dL_law__677 ?_
  refine v_iload hC dL_law__680 rfl ?_
  refine v_icmp_eq hC 687 dL_law__682 rfl (fun c12 => ?_) (fun c12 => ?_)
  · rw [if_pos c12] at h
    refine v_iload hC dL_law__687 rfl ?_
    refine v_if_ne hC 704 dL_law__689 rfl (fun c13 => ?_) (fun c13 => ?_)
    · rw [if_neg c13] at h
      refine v_goto (tg := 2644) hC dL_law__704 rfl ?_
      refine v_drop [true, true, true, true, true, false, false] [some (.ref am_sc), some (.ref 0), some (.ref 208), some (.ref 219), some (.int v4), none, none] rfl ?_
      cases h
      exact v_widen (k := ce + 3) (n := sl + 18) (by omega) (by omega) k
    · rw [if_pos c13] at h
      refine v_aload_n hC dL_law__692 rfl ?_
      refine v_iconst (v := (0 : Int32)) hC dL_law__693 rfl ?_
      obtain ⟨g14, h⟩ := grd_some h
      refine v_lald hC ly_219 (inb_in g14) dL_law__694 ?_
      refine v_iload hC dL_law__695 rfl ?_
      refine v_i2l hC dL_law__697 ?_
      refine v_lcmp hC dL_law__698 ?_
      refine v_if_eq hC 704 dL_law__699 rfl (fun c15 => ?_) (fun c15 => ?_)
      · rw [if_pos c15] at h
        refine v_goto (tg := 2644) hC dL_law__704 rfl ?_
        refine v_drop [true, true, true, true, true, false, false] [some (.ref am_sc), some (.ref 0), some (.ref 208), some (.ref 219), some (.int v4), none, none] rfl ?_
        cases h
        exact v_widen (k := ce + 3) (n := sl + 18) (by omega) (by omega) k
      · rw [if_neg c15] at h
        cases h
  · rw [if_neg c12] at h
    cases h
def f_L_c9 (N Ln : Nat) (xs : Nat → Int32) (v4 : Int32) (M : Mm) : Option (Bool × Mm) :=
  grd (inb (v4 + (1 : Int32)) Ln) (grd (inb (v4 + (2 : Int32)) Ln) (bnd (f_L_pass N (xs ((v4 + (1 : Int32))).toNatClampNeg) (xs ((v4 + (2 : Int32))).toNatClampNeg) M) (fun r3 M4 => grd (inb (v4 + (1 : Int32)) Ln) (grd (inb (v4 + (2 : Int32)) Ln) (bnd (f_X11_pass N (xs ((v4 + (1 : Int32))).toNatClampNeg) (xs ((v4 + (2 : Int32))).toNatClampNeg) M4) (fun r8 M9 => bnd (f_X11_thrown N M9) (fun r11 M12 => (if r11 = r3 then (if r3 = (0 : Int32) then grd (inb (0 : Int32) 1) ((if (lg_cmp (M12 219 ((0 : Int32)).toNatClampNeg).toInt64 (r8).toInt64) = (0 : Int32) then some (true, M12) else some (false, M12))) else some (true, M12)) else some (false, M12)))))))))
set_option maxRecDepth 20000 in
set_option maxHeartbeats 4000000 in
theorem okc_9 {N Ln : Nat} {xs : Nat → Int32} {X : am_X} {l : Launch} (hl : l.stackTraces = false) (hC : am_C X l room_1 cL_law_ RL (some .boolean)) (hs : am_SC X xs Ln) {v4 : Int32} {M M' : Mm} {ce sl : Nat} {Q : State → Prop} (hce : ce + 100 ≤ 601024) (hsl : sl + 1000 ≤ 7293034) (h : f_L_c9 N Ln xs v4 M = some (true, M')) (k : am_V X LY M' (ce + 3) (sl + 18) Q 2644 [some (.ref am_sc), some (.ref 0), some (.ref 208), some (.ref 219), some (.int v4), none, none] []) : am_V X LY M ce sl Q 707 [some (.ref am_sc), some (.ref 0), some (.ref 208), some (.ref 219), some (.int v4), none, none] [] := by
  unfold f_L_c9 at h
  refine v_aload_n hC dL_law__707 rfl ?_
  refine v_aload_n hC dL_law__708 rfl ?_
  refine v_iload hC dL_law__709 rfl ?_
  refine v_iconst (v := (1 : Int32)) hC dL_law__711 rfl ?_
  refine v_iadd hC dL_law__712 ?_
  obtain ⟨g1, h⟩ := grd_some h
  refine v_ssl hC hs (inb_in g1) dL_law__713 ?_
  refine v_aload_n hC dL_law__714 rfl ?_
  refine v_iload hC dL_law__715 rfl ?_
  refine v_iconst (v := (2 : Int32)) hC dL_law__717 rfl ?_
  refine v_iadd hC dL_law__718 ?_
  obtain ⟨g2, h⟩ := grd_some h
  refine v_ssl hC hs (inb_in g2) dL_law__719 ?_
  refine v_aload_n hC dL_law__720 rfl ?_
  obtain ⟨r3, M4, q5, h⟩ := bnd_some h
  refine w_callSH hC [.ref 0, .int (xs ((v4 + (1 : Int32))).toNatClampNeg), .int (xs ((v4 + (2 : Int32))).toNatClampNeg), .ref 219] [] (ok_L_pass hl q5) mh_L_pass aw_943 rfl (Nat.le_of_ble_eq_true rfl) ⟨by decide, by decide⟩ ⟨by show _ ≤ 601024; omega, by show _ ≤ 7293034; omega⟩ dL_law__721 ?_
  refine w_istore hC dL_law__724 (ltk rfl) [some (.ref am_sc), some (.ref 0), some (.ref 208), some (.ref 219), some (.int v4), some (.int r3), none] rfl ?_
  refine v_aload_n hC dL_law__726 rfl ?_
  refine v_aload_n hC dL_law__727 rfl ?_
  refine v_iload hC dL_law__728 rfl ?_
  refine v_iconst (v := (1 : Int32)) hC dL_law__730 rfl ?_
  refine v_iadd hC dL_law__731 ?_
  obtain ⟨g6, h⟩ := grd_some h
  refine v_ssl hC hs (inb_in g6) dL_law__732 ?_
  refine v_aload_n hC dL_law__733 rfl ?_
  refine v_iload hC dL_law__734 rfl ?_
  refine v_iconst (v := (2 : Int32)) hC dL_law__736 rfl ?_
  refine v_iadd hC dL_law__737 ?_
  obtain ⟨g7, h⟩ := grd_some h
  refine v_ssl hC hs (inb_in g7) dL_law__738 ?_
  obtain ⟨r8, M9, q10, h⟩ := bnd_some h
  refine w_callVi hC [.int (xs ((v4 + (1 : Int32))).toNatClampNeg), .int (xs ((v4 + (2 : Int32))).toNatClampNeg)] [] (ok_X11_pass q10) mv_X11_pass aw_1562 ly_208 rfl (Nat.le_of_ble_eq_true rfl) ⟨by decide, by decide⟩ ⟨by show _ ≤ 601024; omega, by show _ ≤ 7293034; omega⟩ dL_law__739 ?_
  refine w_istore hC dL_law__742 (ltk rfl) [some (.ref am_sc), some (.ref 0), some (.ref 208), some (.ref 219), some (.int v4), some (.int r3), some (.int r8)] rfl ?_
  refine v_aload_n hC dL_law__744 rfl ?_
  obtain ⟨r11, M12, q13, h⟩ := bnd_some h
  refine w_callVi hC [] [] (ok_X11_thrown q13) mv_X11_thrown aw_1221 ly_208 rfl (Nat.le_of_ble_eq_true rfl) ⟨by decide, by decide⟩ ⟨by show _ ≤ 601024; omega, by show _ ≤ 7293034; omega⟩ dL_law__745 ?_
  refine v_iload hC dL_law__748 rfl ?_
  refine v_icmp_eq hC 755 dL_law__750 rfl (fun c14 => ?_) (fun c14 => ?_)
  · rw [if_pos c14] at h
    refine v_iload hC dL_law__755 rfl ?_
    refine v_if_ne hC 772 dL_law__757 rfl (fun c15 => ?_) (fun c15 => ?_)
    · rw [if_neg c15] at h
      refine v_goto (tg := 2644) hC dL_law__772 rfl ?_
      refine v_drop [true, true, true, true, true, false, false] [some (.ref am_sc), some (.ref 0), some (.ref 208), some (.ref 219), some (.int v4), none, none] rfl ?_
      cases h
      exact v_widen (k := ce + 3) (n := sl + 18) (by omega) (by omega) k
    · rw [if_pos c15] at h
      refine v_aload_n hC dL_law__760 rfl ?_
      refine v_iconst (v := (0 : Int32)) hC dL_law__761 rfl ?_
      obtain ⟨g16, h⟩ := grd_some h
      refine v_lald hC ly_219 (inb_in g16) dL_law__762 ?_
      refine v_iload hC dL_law__763 rfl ?_
      refine v_i2l hC dL_law__765 ?_
      refine v_lcmp hC dL_law__766 ?_
      refine v_if_eq hC 772 dL_law__767 rfl (fun c17 => ?_) (fun c17 => ?_)
      · rw [if_pos c17] at h
        refine v_goto (tg := 2644) hC dL_law__772 rfl ?_
        refine v_drop [true, true, true, true, true, false, false] [some (.ref am_sc), some (.ref 0), some (.ref 208), some (.ref 219), some (.int v4), none, none] rfl ?_
        cases h
        exact v_widen (k := ce + 3) (n := sl + 18) (by omega) (by omega) k
      · rw [if_neg c17] at h
        cases h
  · rw [if_neg c14] at h
    cases h
def f_L_c10 (N Ln : Nat) (xs : Nat → Int32) (v4 : Int32) (M : Mm) : Option (Bool × Mm) :=
  grd (inb (v4 + (1 : Int32)) Ln) (bnd (f_L_knock N (xs ((v4 + (1 : Int32))).toNatClampNeg) M) (fun r2 M3 => grd (inb (v4 + (1 : Int32)) Ln) (bnd (f_X11_knock N (xs ((v4 + (1 : Int32))).toNatClampNeg) M3) (fun r6 M7 => bnd (f_X11_thrown N M7) (fun r9 M10 => (if r9 = r2 then (if r2 = (0 : Int32) then grd (inb (0 : Int32) 1) ((if (lg_cmp (M10 219 ((0 : Int32)).toNatClampNeg).toInt64 (r6).toInt64) = (0 : Int32) then some (true, M10) else some (false, M10))) else some (true, M10)) else some (false, M10)))))))
set_option maxRecDepth 20000 in
set_option maxHeartbeats 4000000 in
theorem okc_10 {N Ln : Nat} {xs : Nat → Int32} {X : am_X} {l : Launch} (hl : l.stackTraces = false) (hC : am_C X l room_1 cL_law_ RL (some .boolean)) (hs : am_SC X xs Ln) {v4 : Int32} {M M' : Mm} {ce sl : Nat} {Q : State → Prop} (hce : ce + 100 ≤ 601024) (hsl : sl + 1000 ≤ 7293034) (h : f_L_c10 N Ln xs v4 M = some (true, M')) (k : am_V X LY M' (ce + 3) (sl + 18) Q 2644 [some (.ref am_sc), some (.ref 0), some (.ref 208), some (.ref 219), some (.int v4), none, none] []) : am_V X LY M ce sl Q 775 [some (.ref am_sc), some (.ref 0), some (.ref 208), some (.ref 219), some (.int v4), none, none] [] := by
  unfold f_L_c10 at h
  refine v_aload_n hC dL_law__775 rfl ?_
  refine v_aload_n hC dL_law__776 rfl ?_
  refine v_iload hC dL_law__777 rfl ?_
  refine v_iconst (v := (1 : Int32)) hC dL_law__779 rfl ?_
  refine v_iadd hC dL_law__780 ?_
  obtain ⟨g1, h⟩ := grd_some h
  refine v_ssl hC hs (inb_in g1) dL_law__781 ?_
  refine v_aload_n hC dL_law__782 rfl ?_
  obtain ⟨r2, M3, q4, h⟩ := bnd_some h
  refine w_callSH hC [.ref 0, .int (xs ((v4 + (1 : Int32))).toNatClampNeg), .ref 219] [] (ok_L_knock hl q4) mh_L_knock aw_955 rfl (Nat.le_of_ble_eq_true rfl) ⟨by decide, by decide⟩ ⟨by show _ ≤ 601024; omega, by show _ ≤ 7293034; omega⟩ dL_law__783 ?_
  refine w_istore hC dL_law__786 (ltk rfl) [some (.ref am_sc), some (.ref 0), some (.ref 208), some (.ref 219), some (.int v4), some (.int r2), none] rfl ?_
  refine v_aload_n hC dL_law__788 rfl ?_
  refine v_aload_n hC dL_law__789 rfl ?_
  refine v_iload hC dL_law__790 rfl ?_
  refine v_iconst (v := (1 : Int32)) hC dL_law__792 rfl ?_
  refine v_iadd hC dL_law__793 ?_
  obtain ⟨g5, h⟩ := grd_some h
  refine v_ssl hC hs (inb_in g5) dL_law__794 ?_
  obtain ⟨r6, M7, q8, h⟩ := bnd_some h
  refine w_callVi hC [.int (xs ((v4 + (1 : Int32))).toNatClampNeg)] [] (ok_X11_knock q8) mv_X11_knock aw_1570 ly_208 rfl (Nat.le_of_ble_eq_true rfl) ⟨by decide, by decide⟩ ⟨by show _ ≤ 601024; omega, by show _ ≤ 7293034; omega⟩ dL_law__795 ?_
  refine w_istore hC dL_law__798 (ltk rfl) [some (.ref am_sc), some (.ref 0), some (.ref 208), some (.ref 219), some (.int v4), some (.int r2), some (.int r6)] rfl ?_
  refine v_aload_n hC dL_law__800 rfl ?_
  obtain ⟨r9, M10, q11, h⟩ := bnd_some h
  refine w_callVi hC [] [] (ok_X11_thrown q11) mv_X11_thrown aw_1221 ly_208 rfl (Nat.le_of_ble_eq_true rfl) ⟨by decide, by decide⟩ ⟨by show _ ≤ 601024; omega, by show _ ≤ 7293034; omega⟩ dL_law__801 ?_
  refine v_iload hC dL_law__804 rfl ?_
  refine v_icmp_eq hC 811 dL_law__806 rfl (fun c12 => ?_) (fun c12 => ?_)
  · rw [if_pos c12] at h
    refine v_iload hC dL_law__811 rfl ?_
    refine v_if_ne hC 828 dL_law__813 rfl (fun c13 => ?_) (fun c13 => ?_)
    · rw [if_neg c13] at h
      refine v_goto (tg := 2644) hC dL_law__828 rfl ?_
      refine v_drop [true, true, true, true, true, false, false] [some (.ref am_sc), some (.ref 0), some (.ref 208), some (.ref 219), some (.int v4), none, none] rfl ?_
      cases h
      exact v_widen (k := ce + 3) (n := sl + 18) (by omega) (by omega) k
    · rw [if_pos c13] at h
      refine v_aload_n hC dL_law__816 rfl ?_
      refine v_iconst (v := (0 : Int32)) hC dL_law__817 rfl ?_
      obtain ⟨g14, h⟩ := grd_some h
      refine v_lald hC ly_219 (inb_in g14) dL_law__818 ?_
      refine v_iload hC dL_law__819 rfl ?_
      refine v_i2l hC dL_law__821 ?_
      refine v_lcmp hC dL_law__822 ?_
      refine v_if_eq hC 828 dL_law__823 rfl (fun c15 => ?_) (fun c15 => ?_)
      · rw [if_pos c15] at h
        refine v_goto (tg := 2644) hC dL_law__828 rfl ?_
        refine v_drop [true, true, true, true, true, false, false] [some (.ref am_sc), some (.ref 0), some (.ref 208), some (.ref 219), some (.int v4), none, none] rfl ?_
        cases h
        exact v_widen (k := ce + 3) (n := sl + 18) (by omega) (by omega) k
      · rw [if_neg c15] at h
        cases h
  · rw [if_neg c12] at h
    cases h
def f_L_c11 (N Ln : Nat) (xs : Nat → Int32) (v4 : Int32) (M : Mm) : Option (Bool × Mm) :=
  grd (inb (v4 + (1 : Int32)) Ln) (grd (inb (v4 + (2 : Int32)) Ln) (bnd (f_L_fill N (xs ((v4 + (1 : Int32))).toNatClampNeg) (xs ((v4 + (2 : Int32))).toNatClampNeg) M) (fun r3 M4 => grd (inb (v4 + (1 : Int32)) Ln) (grd (inb (v4 + (2 : Int32)) Ln) (bnd (f_X11_fill N (xs ((v4 + (1 : Int32))).toNatClampNeg) (xs ((v4 + (2 : Int32))).toNatClampNeg) M4) (fun r8 M9 => bnd (f_X11_thrown N M9) (fun r11 M12 => (if r11 = r3 then (if r3 = (0 : Int32) then grd (inb (0 : Int32) 1) ((if (lg_cmp (M12 219 ((0 : Int32)).toNatClampNeg).toInt64 (r8).toInt64) = (0 : Int32) then some (true, M12) else some (false, M12))) else some (true, M12)) else some (false, M12)))))))))
set_option maxRecDepth 20000 in
set_option maxHeartbeats 4000000 in
theorem okc_11 {N Ln : Nat} {xs : Nat → Int32} {X : am_X} {l : Launch} (hl : l.stackTraces = false) (hC : am_C X l room_1 cL_law_ RL (some .boolean)) (hs : am_SC X xs Ln) {v4 : Int32} {M M' : Mm} {ce sl : Nat} {Q : State → Prop} (hce : ce + 100 ≤ 601024) (hsl : sl + 1000 ≤ 7293034) (h : f_L_c11 N Ln xs v4 M = some (true, M')) (k : am_V X LY M' (ce + 3) (sl + 18) Q 2644 [some (.ref am_sc), some (.ref 0), some (.ref 208), some (.ref 219), some (.int v4), none, none] []) : am_V X LY M ce sl Q 831 [some (.ref am_sc), some (.ref 0), some (.ref 208), some (.ref 219), some (.int v4), none, none] [] := by
  unfold f_L_c11 at h
  refine v_aload_n hC dL_law__831 rfl ?_
  refine v_aload_n hC dL_law__832 rfl ?_
  refine v_iload hC dL_law__833 rfl ?_
  refine v_iconst (v := (1 : Int32)) hC dL_law__835 rfl ?_
  refine v_iadd hC dL_law__836 ?_
  obtain ⟨g1, h⟩ := grd_some h
  refine v_ssl hC hs (inb_in g1) dL_law__837 ?_
  refine v_aload_n hC dL_law__838 rfl ?_
  refine v_iload hC dL_law__839 rfl ?_
  refine v_iconst (v := (2 : Int32)) hC dL_law__841 rfl ?_
  refine v_iadd hC dL_law__842 ?_
  obtain ⟨g2, h⟩ := grd_some h
  refine v_ssl hC hs (inb_in g2) dL_law__843 ?_
  refine v_aload_n hC dL_law__844 rfl ?_
  obtain ⟨r3, M4, q5, h⟩ := bnd_some h
  refine w_callSH hC [.ref 0, .int (xs ((v4 + (1 : Int32))).toNatClampNeg), .int (xs ((v4 + (2 : Int32))).toNatClampNeg), .ref 219] [] (ok_L_fill hl q5) mh_L_fill aw_962 rfl (Nat.le_of_ble_eq_true rfl) ⟨by decide, by decide⟩ ⟨by show _ ≤ 601024; omega, by show _ ≤ 7293034; omega⟩ dL_law__845 ?_
  refine w_istore hC dL_law__848 (ltk rfl) [some (.ref am_sc), some (.ref 0), some (.ref 208), some (.ref 219), some (.int v4), some (.int r3), none] rfl ?_
  refine v_aload_n hC dL_law__850 rfl ?_
  refine v_aload_n hC dL_law__851 rfl ?_
  refine v_iload hC dL_law__852 rfl ?_
  refine v_iconst (v := (1 : Int32)) hC dL_law__854 rfl ?_
  refine v_iadd hC dL_law__855 ?_
  obtain ⟨g6, h⟩ := grd_some h
  refine v_ssl hC hs (inb_in g6) dL_law__856 ?_
  refine v_aload_n hC dL_law__857 rfl ?_
  refine v_iload hC dL_law__858 rfl ?_
  refine v_iconst (v := (2 : Int32)) hC dL_law__860 rfl ?_
  refine v_iadd hC dL_law__861 ?_
  obtain ⟨g7, h⟩ := grd_some h
  refine v_ssl hC hs (inb_in g7) dL_law__862 ?_
  obtain ⟨r8, M9, q10, h⟩ := bnd_some h
  refine w_callVi hC [.int (xs ((v4 + (1 : Int32))).toNatClampNeg), .int (xs ((v4 + (2 : Int32))).toNatClampNeg)] [] (ok_X11_fill q10) mv_X11_fill aw_1574 ly_208 rfl (Nat.le_of_ble_eq_true rfl) ⟨by decide, by decide⟩ ⟨by show _ ≤ 601024; omega, by show _ ≤ 7293034; omega⟩ dL_law__863 ?_
  refine w_istore hC dL_law__866 (ltk rfl) [some (.ref am_sc), some (.ref 0), some (.ref 208), some (.ref 219), some (.int v4), some (.int r3), some (.int r8)] rfl ?_
  refine v_aload_n hC dL_law__868 rfl ?_
  obtain ⟨r11, M12, q13, h⟩ := bnd_some h
  refine w_callVi hC [] [] (ok_X11_thrown q13) mv_X11_thrown aw_1221 ly_208 rfl (Nat.le_of_ble_eq_true rfl) ⟨by decide, by decide⟩ ⟨by show _ ≤ 601024; omega, by show _ ≤ 7293034; omega⟩ dL_law__869 ?_
  refine v_iload hC dL_law__872 rfl ?_
  refine v_icmp_eq hC 879 dL_law__874 rfl (fun c14 => ?_) (fun c14 => ?_)
  · rw [if_pos c14] at h
    refine v_iload hC dL_law__879 rfl ?_
    refine v_if_ne hC 896 dL_law__881 rfl (fun c15 => ?_) (fun c15 => ?_)
    · rw [if_neg c15] at h
      refine v_goto (tg := 2644) hC dL_law__896 rfl ?_
      refine v_drop [true, true, true, true, true, false, false] [some (.ref am_sc), some (.ref 0), some (.ref 208), some (.ref 219), some (.int v4), none, none] rfl ?_
      cases h
      exact v_widen (k := ce + 3) (n := sl + 18) (by omega) (by omega) k
    · rw [if_pos c15] at h
      refine v_aload_n hC dL_law__884 rfl ?_
      refine v_iconst (v := (0 : Int32)) hC dL_law__885 rfl ?_
      obtain ⟨g16, h⟩ := grd_some h
      refine v_lald hC ly_219 (inb_in g16) dL_law__886 ?_
      refine v_iload hC dL_law__887 rfl ?_
      refine v_i2l hC dL_law__889 ?_
      refine v_lcmp hC dL_law__890 ?_
      refine v_if_eq hC 896 dL_law__891 rfl (fun c17 => ?_) (fun c17 => ?_)
      · rw [if_pos c17] at h
        refine v_goto (tg := 2644) hC dL_law__896 rfl ?_
        refine v_drop [true, true, true, true, true, false, false] [some (.ref am_sc), some (.ref 0), some (.ref 208), some (.ref 219), some (.int v4), none, none] rfl ?_
        cases h
        exact v_widen (k := ce + 3) (n := sl + 18) (by omega) (by omega) k
      · rw [if_neg c17] at h
        cases h
  · rw [if_neg c14] at h
    cases h
def f_L_c12 (N Ln : Nat) (xs : Nat → Int32) (v4 : Int32) (M : Mm) : Option (Bool × Mm) :=
  grd (inb (v4 + (1 : Int32)) Ln) (grd (inb (v4 + (2 : Int32)) Ln) (bnd (f_L_change N (xs ((v4 + (1 : Int32))).toNatClampNeg) (xs ((v4 + (2 : Int32))).toNatClampNeg) M) (fun r3 M4 => grd (inb (v4 + (1 : Int32)) Ln) (grd (inb (v4 + (2 : Int32)) Ln) (bnd (f_X11_change N (xs ((v4 + (1 : Int32))).toNatClampNeg) (xs ((v4 + (2 : Int32))).toNatClampNeg) M4) (fun r8 M9 => bnd (f_X11_thrown N M9) (fun r11 M12 => (if r11 = r3 then (if r3 = (0 : Int32) then grd (inb (0 : Int32) 1) ((if (lg_cmp (M12 219 ((0 : Int32)).toNatClampNeg).toInt64 (r8).toInt64) = (0 : Int32) then some (true, M12) else some (false, M12))) else some (true, M12)) else some (false, M12)))))))))
set_option maxRecDepth 20000 in
set_option maxHeartbeats 4000000 in
theorem okc_12 {N Ln : Nat} {xs : Nat → Int32} {X : am_X} {l : Launch} (hl : l.stackTraces = false) (hC : am_C X l room_1 cL_law_ RL (some .boolean)) (hs : am_SC X xs Ln) {v4 : Int32} {M M' : Mm} {ce sl : Nat} {Q : State → Prop} (hce : ce + 100 ≤ 601024) (hsl : sl + 1000 ≤ 7293034) (h : f_L_c12 N Ln xs v4 M = some (true, M')) (k : am_V X LY M' (ce + 3) (sl + 18) Q 2644 [some (.ref am_sc), some (.ref 0), some (.ref 208), some (.ref 219), some (.int v4), none, none] []) : am_V X LY M ce sl Q 899 [some (.ref am_sc), some (.ref 0), some (.ref 208), some (.ref 219), some (.int v4), none, none] [] := by
  unfold f_L_c12 at h
  refine v_aload_n hC dL_law__899 rfl ?_
  refine v_aload_n hC dL_law__900 rfl ?_
  refine v_iload hC dL_law__901 rfl ?_
  refine v_iconst (v := (1 : Int32)) hC dL_law__903 rfl ?_
  refine v_iadd hC dL_law__904 ?_
  obtain ⟨g1, h⟩ := grd_some h
  refine v_ssl hC hs (inb_in g1) dL_law__905 ?_
  refine v_aload_n hC dL_law__906 rfl ?_
  refine v_iload hC dL_law__907 rfl ?_
  refine v_iconst (v := (2 : Int32)) hC dL_law__909 rfl ?_
  refine v_iadd hC dL_law__910 ?_
  obtain ⟨g2, h⟩ := grd_some h
  refine v_ssl hC hs (inb_in g2) dL_law__911 ?_
  refine v_aload_n hC dL_law__912 rfl ?_
  obtain ⟨r3, M4, q5, h⟩ := bnd_some h
  refine w_callSH hC [.ref 0, .int (xs ((v4 + (1 : Int32))).toNatClampNeg), .int (xs ((v4 + (2 : Int32))).toNatClampNeg), .ref 219] [] (ok_L_change hl q5) mh_L_change aw_974 rfl (Nat.le_of_ble_eq_true rfl) ⟨by decide, by decide⟩ ⟨by show _ ≤ 601024; omega, by show _ ≤ 7293034; omega⟩ dL_law__913 ?_
  refine w_istore hC dL_law__916 (ltk rfl) [some (.ref am_sc), some (.ref 0), some (.ref 208), some (.ref 219), some (.int v4), some (.int r3), none] rfl ?_
  refine v_aload_n hC dL_law__918 rfl ?_
  refine v_aload_n hC dL_law__919 rfl ?_
  refine v_iload hC dL_law__920 rfl ?_
  refine v_iconst (v := (1 : Int32)) hC dL_law__922 rfl ?_
  refine v_iadd hC dL_law__923 ?_
  obtain ⟨g6, h⟩ := grd_some h
  refine v_ssl hC hs (inb_in g6) dL_law__924 ?_
  refine v_aload_n hC dL_law__925 rfl ?_
  refine v_iload hC dL_law__926 rfl ?_
  refine v_iconst (v := (2 : Int32)) hC dL_law__928 rfl ?_
  refine v_iadd hC dL_law__929 ?_
  obtain ⟨g7, h⟩ := grd_some h
  refine v_ssl hC hs (inb_in g7) dL_law__930 ?_
  obtain ⟨r8, M9, q10, h⟩ := bnd_some h
  refine w_callVi hC [.int (xs ((v4 + (1 : Int32))).toNatClampNeg), .int (xs ((v4 + (2 : Int32))).toNatClampNeg)] [] (ok_X11_change q10) mv_X11_change aw_1578 ly_208 rfl (Nat.le_of_ble_eq_true rfl) ⟨by decide, by decide⟩ ⟨by show _ ≤ 601024; omega, by show _ ≤ 7293034; omega⟩ dL_law__931 ?_
  refine w_istore hC dL_law__934 (ltk rfl) [some (.ref am_sc), some (.ref 0), some (.ref 208), some (.ref 219), some (.int v4), some (.int r3), some (.int r8)] rfl ?_
  refine v_aload_n hC dL_law__936 rfl ?_
  obtain ⟨r11, M12, q13, h⟩ := bnd_some h
  refine w_callVi hC [] [] (ok_X11_thrown q13) mv_X11_thrown aw_1221 ly_208 rfl (Nat.le_of_ble_eq_true rfl) ⟨by decide, by decide⟩ ⟨by show _ ≤ 601024; omega, by show _ ≤ 7293034; omega⟩ dL_law__937 ?_
  refine v_iload hC dL_law__940 rfl ?_
  refine v_icmp_eq hC 947 dL_law__942 rfl (fun c14 => ?_) (fun c14 => ?_)
  · rw [if_pos c14] at h
    refine v_iload hC dL_law__947 rfl ?_
    refine v_if_ne hC 964 dL_law__949 rfl (fun c15 => ?_) (fun c15 => ?_)
    · rw [if_neg c15] at h
      refine v_goto (tg := 2644) hC dL_law__964 rfl ?_
      refine v_drop [true, true, true, true, true, false, false] [some (.ref am_sc), some (.ref 0), some (.ref 208), some (.ref 219), some (.int v4), none, none] rfl ?_
      cases h
      exact v_widen (k := ce + 3) (n := sl + 18) (by omega) (by omega) k
    · rw [if_pos c15] at h
      refine v_aload_n hC dL_law__952 rfl ?_
      refine v_iconst (v := (0 : Int32)) hC dL_law__953 rfl ?_
      obtain ⟨g16, h⟩ := grd_some h
      refine v_lald hC ly_219 (inb_in g16) dL_law__954 ?_
      refine v_iload hC dL_law__955 rfl ?_
      refine v_i2l hC dL_law__957 ?_
      refine v_lcmp hC dL_law__958 ?_
      refine v_if_eq hC 964 dL_law__959 rfl (fun c17 => ?_) (fun c17 => ?_)
      · rw [if_pos c17] at h
        refine v_goto (tg := 2644) hC dL_law__964 rfl ?_
        refine v_drop [true, true, true, true, true, false, false] [some (.ref am_sc), some (.ref 0), some (.ref 208), some (.ref 219), some (.int v4), none, none] rfl ?_
        cases h
        exact v_widen (k := ce + 3) (n := sl + 18) (by omega) (by omega) k
      · rw [if_neg c17] at h
        cases h
  · rw [if_neg c14] at h
    cases h
def f_L_c13 (N Ln : Nat) (xs : Nat → Int32) (v4 : Int32) (M : Mm) : Option (Bool × Mm) :=
  grd (inb (v4 + (1 : Int32)) Ln) (grd (inb (v4 + (2 : Int32)) Ln) ((if (xs ((v4 + (2 : Int32))).toNatClampNeg) = (0 : Int32) then bnd (f_L_diet N (xs ((v4 + (1 : Int32))).toNatClampNeg) (0 : Int32) M) (fun r4 M5 => grd (inb (v4 + (1 : Int32)) Ln) (grd (inb (v4 + (2 : Int32)) Ln) ((if (xs ((v4 + (2 : Int32))).toNatClampNeg) = (0 : Int32) then bnd (f_X11_diet N (xs ((v4 + (1 : Int32))).toNatClampNeg) (0 : Int32) M5) (fun r10 M11 => bnd (f_X11_thrown N M11) (fun r13 M14 => (if r13 = r4 then (if r4 = (0 : Int32) then grd (inb (0 : Int32) 1) ((if r10 = (0 : Int32) then (if (lg_cmp (M14 219 ((0 : Int32)).toNatClampNeg).toInt64 (0 : Int64)) = (0 : Int32) then some (true, M14) else some (false, M14)) else (if (lg_cmp (M14 219 ((0 : Int32)).toNatClampNeg).toInt64 (1 : Int64)) = (0 : Int32) then some (true, M14) else some (false, M14)))) else some (true, M14)) else some (false, M14)))) else bnd (f_X11_diet N (xs ((v4 + (1 : Int32))).toNatClampNeg) (1 : Int32) M5) (fun r22 M23 => bnd (f_X11_thrown N M23) (fun r25 M26 => (if r25 = r4 then (if r4 = (0 : Int32) then grd (inb (0 : Int32) 1) ((if r22 = (0 : Int32) then (if (lg_cmp (M26 219 ((0 : Int32)).toNatClampNeg).toInt64 (0 : Int64)) = (0 : Int32) then some (true, M26) else some (false, M26)) else (if (lg_cmp (M26 219 ((0 : Int32)).toNatClampNeg).toInt64 (1 : Int64)) = (0 : Int32) then some (true, M26) else some (false, M26)))) else some (true, M26)) else some (false, M26)))))))) else bnd (f_L_diet N (xs ((v4 + (1 : Int32))).toNatClampNeg) (1 : Int32) M) (fun r34 M35 => grd (inb (v4 + (1 : Int32)) Ln) (grd (inb (v4 + (2 : Int32)) Ln) ((if (xs ((v4 + (2 : Int32))).toNatClampNeg) = (0 : Int32) then bnd (f_X11_diet N (xs ((v4 + (1 : Int32))).toNatClampNeg) (0 : Int32) M35) (fun r40 M41 => bnd (f_X11_thrown N M41) (fun r43 M44 => (if r43 = r34 then (if r34 = (0 : Int32) then grd (inb (0 : Int32) 1) ((if r40 = (0 : Int32) then (if (lg_cmp (M44 219 ((0 : Int32)).toNatClampNeg).toInt64 (0 : Int64)) = (0 : Int32) then some (true, M44) else some (false, M44)) else (if (lg_cmp (M44 219 ((0 : Int32)).toNatClampNeg).toInt64 (1 : Int64)) = (0 : Int32) then some (true, M44) else some (false, M44)))) else some (true, M44)) else some (false, M44)))) else bnd (f_X11_diet N (xs ((v4 + (1 : Int32))).toNatClampNeg) (1 : Int32) M35) (fun r52 M53 => bnd (f_X11_thrown N M53) (fun r55 M56 => (if r55 = r34 then (if r34 = (0 : Int32) then grd (inb (0 : Int32) 1) ((if r52 = (0 : Int32) then (if (lg_cmp (M56 219 ((0 : Int32)).toNatClampNeg).toInt64 (0 : Int64)) = (0 : Int32) then some (true, M56) else some (false, M56)) else (if (lg_cmp (M56 219 ((0 : Int32)).toNatClampNeg).toInt64 (1 : Int64)) = (0 : Int32) then some (true, M56) else some (false, M56)))) else some (true, M56)) else some (false, M56)))))))))))
set_option maxRecDepth 20000 in
set_option maxHeartbeats 4000000 in
theorem okc_13 {N Ln : Nat} {xs : Nat → Int32} {X : am_X} {l : Launch} (hl : l.stackTraces = false) (hC : am_C X l room_1 cL_law_ RL (some .boolean)) (hs : am_SC X xs Ln) {v4 : Int32} {M M' : Mm} {ce sl : Nat} {Q : State → Prop} (hce : ce + 100 ≤ 601024) (hsl : sl + 1000 ≤ 7293034) (h : f_L_c13 N Ln xs v4 M = some (true, M')) (k : am_V X LY M' (ce + 3) (sl + 18) Q 2644 [some (.ref am_sc), some (.ref 0), some (.ref 208), some (.ref 219), some (.int v4), none, none] []) : am_V X LY M ce sl Q 967 [some (.ref am_sc), some (.ref 0), some (.ref 208), some (.ref 219), some (.int v4), none, none] [] := by
  unfold f_L_c13 at h
  refine v_aload_n hC dL_law__967 rfl ?_
  refine v_aload_n hC dL_law__968 rfl ?_
  refine v_iload hC dL_law__969 rfl ?_
  refine v_iconst (v := (1 : Int32)) hC dL_law__971 rfl ?_
  refine v_iadd hC dL_law__972 ?_
  obtain ⟨g1, h⟩ := grd_some h
  refine v_ssl hC hs (inb_in g1) dL_law__973 ?_
  refine v_aload_n hC dL_law__974 rfl ?_
  refine v_iload hC dL_law__975 rfl ?_
  refine v_iconst (v := (2 : Int32)) hC dL_law__977 rfl ?_
  refine v_iadd hC dL_law__978 ?_
  obtain ⟨g2, h⟩ := grd_some h
  refine v_ssl hC hs (inb_in g2) dL_law__979 ?_
  refine v_if_eq hC 987 dL_law__980 rfl (fun c3 => ?_) (fun c3 => ?_)
  · rw [if_pos c3] at h
    refine v_iconst (v := (0 : Int32)) hC dL_law__987 rfl ?_
    refine v_aload_n hC dL_law__988 rfl ?_
    obtain ⟨r4, M5, q6, h⟩ := bnd_some h
    refine w_callSH hC [.ref 0, .int (xs ((v4 + (1 : Int32))).toNatClampNeg), .int (0 : Int32), .ref 219] [] (ok_L_diet hl q6) mh_L_diet aw_982 rfl (Nat.le_of_ble_eq_true rfl) ⟨by decide, by decide⟩ ⟨by show _ ≤ 601024; omega, by show _ ≤ 7293034; omega⟩ dL_law__989 ?_
    refine w_istore hC dL_law__992 (ltk rfl) [some (.ref am_sc), some (.ref 0), some (.ref 208), some (.ref 219), some (.int v4), some (.int r4), none] rfl ?_
    refine v_aload_n hC dL_law__994 rfl ?_
    refine v_aload_n hC dL_law__995 rfl ?_
    refine v_iload hC dL_law__996 rfl ?_
    refine v_iconst (v := (1 : Int32)) hC dL_law__998 rfl ?_
    refine v_iadd hC dL_law__999 ?_
    obtain ⟨g7, h⟩ := grd_some h
    refine v_ssl hC hs (inb_in g7) dL_law__1000 ?_
    refine v_aload_n hC dL_law__1001 rfl ?_
    refine v_iload hC dL_law__1002 rfl ?_
    refine v_iconst (v := (2 : Int32)) hC dL_law__1004 rfl ?_
    refine v_iadd hC dL_law__1005 ?_
    obtain ⟨g8, h⟩ := grd_some h
    refine v_ssl hC hs (inb_in g8) dL_law__1006 ?_
    refine v_if_eq hC 1014 dL_law__1007 rfl (fun c9 => ?_) (fun c9 => ?_)
    · rw [if_pos c9] at h
      refine v_iconst (v := (0 : Int32)) hC dL_law__1014 rfl ?_
      obtain ⟨r10, M11, q12, h⟩ := bnd_some h
      refine w_callVi hC [.int (xs ((v4 + (1 : Int32))).toNatClampNeg), .int (0 : Int32)] [] (ok_X11_diet q12) mv_X11_diet aw_1586 ly_208 rfl (Nat.le_of_ble_eq_true rfl) ⟨by decide, by decide⟩ ⟨by show _ ≤ 601024; omega, by show _ ≤ 7293034; omega⟩ dL_law__1015 ?_
      refine w_istore hC dL_law__1018 (ltk rfl) [some (.ref am_sc), some (.ref 0), some (.ref 208), some (.ref 219), some (.int v4), some (.int r4), some (.int r10)] rfl ?_
      refine v_aload_n hC dL_law__1020 rfl ?_
      obtain ⟨r13, M14, q15, h⟩ := bnd_some h
      refine w_callVi hC [] [] (ok_X11_thrown q15) mv_X11_thrown aw_1221 ly_208 rfl (Nat.le_of_ble_eq_true rfl) ⟨by decide, by decide⟩ ⟨by show _ ≤ 601024; omega, by show _ ≤ 7293034; omega⟩ dL_law__1021 ?_
      refine v_iload hC dL_law__1024 rfl ?_
      refine v_icmp_eq hC 1031 dL_law__1026 rfl (fun c16 => ?_) (fun c16 => ?_)
      · rw [if_pos c16] at h
        refine v_iload hC dL_law__1031 rfl ?_
        refine v_if_ne hC 1055 dL_law__1033 rfl (fun c17 => ?_) (fun c17 => ?_)
        · rw [if_neg c17] at h
          refine v_goto (tg := 2644) hC dL_law__1055 rfl ?_
          refine v_drop [true, true, true, true, true, false, false] [some (.ref am_sc), some (.ref 0), some (.ref 208), some (.ref 219), some (.int v4), none, none] rfl ?_
          cases h
          exact v_widen (k := ce + 3) (n := sl + 18) (by omega) (by omega) k
        · rw [if_pos c17] at h
          refine v_aload_n hC dL_law__1036 rfl ?_
          refine v_iconst (v := (0 : Int32)) hC dL_law__1037 rfl ?_
          obtain ⟨g18, h⟩ := grd_some h
          refine v_lald hC ly_219 (inb_in g18) dL_law__1038 ?_
          refine v_iload hC dL_law__1039 rfl ?_
          refine v_if_eq hC 1048 dL_law__1041 rfl (fun c19 => ?_) (fun c19 => ?_)
          · rw [if_pos c19] at h
            refine v_lconst (v := (0 : Int64)) hC dL_law__1048 rfl ?_
            refine v_lcmp hC dL_law__1049 ?_
            refine v_if_eq hC 1055 dL_law__1050 rfl (fun c20 => ?_) (fun c20 => ?_)
            · rw [if_pos c20] at h
              refine v_goto (tg := 2644) hC dL_law__1055 rfl ?_
              refine v_drop [true, true, true, true, true, false, false] [some (.ref am_sc), some (.ref 0), some (.ref 208), some (.ref 219), some (.int v4), none, none] rfl ?_
              cases h
              exact v_widen (k := ce + 3) (n := sl + 18) (by omega) (by omega) k
            · rw [if_neg c20] at h
              cases h
          · rw [if_neg c19] at h
            refine v_lconst (v := (1 : Int64)) hC dL_law__1044 rfl ?_
            refine v_goto (tg := 1049) hC dL_law__1045 rfl ?_
            refine v_lcmp hC dL_law__1049 ?_
            refine v_if_eq hC 1055 dL_law__1050 rfl (fun c21 => ?_) (fun c21 => ?_)
            · rw [if_pos c21] at h
              refine v_goto (tg := 2644) hC dL_law__1055 rfl ?_
              refine v_drop [true, true, true, true, true, false, false] [some (.ref am_sc), some (.ref 0), some (.ref 208), some (.ref 219), some (.int v4), none, none] rfl ?_
              cases h
              exact v_widen (k := ce + 3) (n := sl + 18) (by omega) (by omega) k
            · rw [if_neg c21] at h
              cases h
      · rw [if_neg c16] at h
        cases h
    · rw [if_neg c9] at h
      refine v_iconst (v := (1 : Int32)) hC dL_law__1010 rfl ?_
      refine v_goto (tg := 1015) hC dL_law__1011 rfl ?_
      obtain ⟨r22, M23, q24, h⟩ := bnd_some h
      refine w_callVi hC [.int (xs ((v4 + (1 : Int32))).toNatClampNeg), .int (1 : Int32)] [] (ok_X11_diet q24) mv_X11_diet aw_1586 ly_208 rfl (Nat.le_of_ble_eq_true rfl) ⟨by decide, by decide⟩ ⟨by show _ ≤ 601024; omega, by show _ ≤ 7293034; omega⟩ dL_law__1015 ?_
      refine w_istore hC dL_law__1018 (ltk rfl) [some (.ref am_sc), some (.ref 0), some (.ref 208), some (.ref 219), some (.int v4), some (.int r4), some (.int r22)] rfl ?_
      refine v_aload_n hC dL_law__1020 rfl ?_
      obtain ⟨r25, M26, q27, h⟩ := bnd_some h
      refine w_callVi hC [] [] (ok_X11_thrown q27) mv_X11_thrown aw_1221 ly_208 rfl (Nat.le_of_ble_eq_true rfl) ⟨by decide, by decide⟩ ⟨by show _ ≤ 601024; omega, by show _ ≤ 7293034; omega⟩ dL_law__1021 ?_
      refine v_iload hC dL_law__1024 rfl ?_
      refine v_icmp_eq hC 1031 dL_law__1026 rfl (fun c28 => ?_) (fun c28 => ?_)
      · rw [if_pos c28] at h
        refine v_iload hC dL_law__1031 rfl ?_
        refine v_if_ne hC 1055 dL_law__1033 rfl (fun c29 => ?_) (fun c29 => ?_)
        · rw [if_neg c29] at h
          refine v_goto (tg := 2644) hC dL_law__1055 rfl ?_
          refine v_drop [true, true, true, true, true, false, false] [some (.ref am_sc), some (.ref 0), some (.ref 208), some (.ref 219), some (.int v4), none, none] rfl ?_
          cases h
          exact v_widen (k := ce + 3) (n := sl + 18) (by omega) (by omega) k
        · rw [if_pos c29] at h
          refine v_aload_n hC dL_law__1036 rfl ?_
          refine v_iconst (v := (0 : Int32)) hC dL_law__1037 rfl ?_
          obtain ⟨g30, h⟩ := grd_some h
          refine v_lald hC ly_219 (inb_in g30) dL_law__1038 ?_
          refine v_iload hC dL_law__1039 rfl ?_
          refine v_if_eq hC 1048 dL_law__1041 rfl (fun c31 => ?_) (fun c31 => ?_)
          · rw [if_pos c31] at h
            refine v_lconst (v := (0 : Int64)) hC dL_law__1048 rfl ?_
            refine v_lcmp hC dL_law__1049 ?_
            refine v_if_eq hC 1055 dL_law__1050 rfl (fun c32 => ?_) (fun c32 => ?_)
            · rw [if_pos c32] at h
              refine v_goto (tg := 2644) hC dL_law__1055 rfl ?_
              refine v_drop [true, true, true, true, true, false, false] [some (.ref am_sc), some (.ref 0), some (.ref 208), some (.ref 219), some (.int v4), none, none] rfl ?_
              cases h
              exact v_widen (k := ce + 3) (n := sl + 18) (by omega) (by omega) k
            · rw [if_neg c32] at h
              cases h
          · rw [if_neg c31] at h
            refine v_lconst (v := (1 : Int64)) hC dL_law__1044 rfl ?_
            refine v_goto (tg := 1049) hC dL_law__1045 rfl ?_
            refine v_lcmp hC dL_law__1049 ?_
            refine v_if_eq hC 1055 dL_law__1050 rfl (fun c33 => ?_) (fun c33 => ?_)
            · rw [if_pos c33] at h
              refine v_goto (tg := 2644) hC dL_law__1055 rfl ?_
              refine v_drop [true, true, true, true, true, false, false] [some (.ref am_sc), some (.ref 0), some (.ref 208), some (.ref 219), some (.int v4), none, none] rfl ?_
              cases h
              exact v_widen (k := ce + 3) (n := sl + 18) (by omega) (by omega) k
            · rw [if_neg c33] at h
              cases h
      · rw [if_neg c28] at h
        cases h
  · rw [if_neg c3] at h
    refine v_iconst (v := (1 : Int32)) hC dL_law__983 rfl ?_
    refine v_goto (tg := 988) hC dL_law__984 rfl ?_
    refine v_aload_n hC dL_law__988 rfl ?_
    obtain ⟨r34, M35, q36, h⟩ := bnd_some h
    refine w_callSH hC [.ref 0, .int (xs ((v4 + (1 : Int32))).toNatClampNeg), .int (1 : Int32), .ref 219] [] (ok_L_diet hl q36) mh_L_diet aw_982 rfl (Nat.le_of_ble_eq_true rfl) ⟨by decide, by decide⟩ ⟨by show _ ≤ 601024; omega, by show _ ≤ 7293034; omega⟩ dL_law__989 ?_
    refine w_istore hC dL_law__992 (ltk rfl) [some (.ref am_sc), some (.ref 0), some (.ref 208), some (.ref 219), some (.int v4), some (.int r34), none] rfl ?_
    refine v_aload_n hC dL_law__994 rfl ?_
    refine v_aload_n hC dL_law__995 rfl ?_
    refine v_iload hC dL_law__996 rfl ?_
    refine v_iconst (v := (1 : Int32)) hC dL_law__998 rfl ?_
    refine v_iadd hC dL_law__999 ?_
    obtain ⟨g37, h⟩ := grd_some h
    refine v_ssl hC hs (inb_in g37) dL_law__1000 ?_
    refine v_aload_n hC dL_law__1001 rfl ?_
    refine v_iload hC dL_law__1002 rfl ?_
    refine v_iconst (v := (2 : Int32)) hC dL_law__1004 rfl ?_
    refine v_iadd hC dL_law__1005 ?_
    obtain ⟨g38, h⟩ := grd_some h
    refine v_ssl hC hs (inb_in g38) dL_law__1006 ?_
    refine v_if_eq hC 1014 dL_law__1007 rfl (fun c39 => ?_) (fun c39 => ?_)
    · rw [if_pos c39] at h
      refine v_iconst (v := (0 : Int32)) hC dL_law__1014 rfl ?_
      obtain ⟨r40, M41, q42, h⟩ := bnd_some h
      refine w_callVi hC [.int (xs ((v4 + (1 : Int32))).toNatClampNeg), .int (0 : Int32)] [] (ok_X11_diet q42) mv_X11_diet aw_1586 ly_208 rfl (Nat.le_of_ble_eq_true rfl) ⟨by decide, by decide⟩ ⟨by show _ ≤ 601024; omega, by show _ ≤ 7293034; omega⟩ dL_law__1015 ?_
      refine w_istore hC dL_law__1018 (ltk rfl) [some (.ref am_sc), some (.ref 0), some (.ref 208), some (.ref 219), some (.int v4), some (.int r34), some (.int r40)] rfl ?_
      refine v_aload_n hC dL_law__1020 rfl ?_
      obtain ⟨r43, M44, q45, h⟩ := bnd_some h
      refine w_callVi hC [] [] (ok_X11_thrown q45) mv_X11_thrown aw_1221 ly_208 rfl (Nat.le_of_ble_eq_true rfl) ⟨by decide, by decide⟩ ⟨by show _ ≤ 601024; omega, by show _ ≤ 7293034; omega⟩ dL_law__1021 ?_
      refine v_iload hC dL_law__1024 rfl ?_
      refine v_icmp_eq hC 1031 dL_law__1026 rfl (fun c46 => ?_) (fun c46 => ?_)
      · rw [if_pos c46] at h
        refine v_iload hC dL_law__1031 rfl ?_
        refine v_if_ne hC 1055 dL_law__1033 rfl (fun c47 => ?_) (fun c47 => ?_)
        · rw [if_neg c47] at h
          refine v_goto (tg := 2644) hC dL_law__1055 rfl ?_
          refine v_drop [true, true, true, true, true, false, false] [some (.ref am_sc), some (.ref 0), some (.ref 208), some (.ref 219), some (.int v4), none, none] rfl ?_
          cases h
          exact v_widen (k := ce + 3) (n := sl + 18) (by omega) (by omega) k
        · rw [if_pos c47] at h
          refine v_aload_n hC dL_law__1036 rfl ?_
          refine v_iconst (v := (0 : Int32)) hC dL_law__1037 rfl ?_
          obtain ⟨g48, h⟩ := grd_some h
          refine v_lald hC ly_219 (inb_in g48) dL_law__1038 ?_
          refine v_iload hC dL_law__1039 rfl ?_
          refine v_if_eq hC 1048 dL_law__1041 rfl (fun c49 => ?_) (fun c49 => ?_)
          · rw [if_pos c49] at h
            refine v_lconst (v := (0 : Int64)) hC dL_law__1048 rfl ?_
            refine v_lcmp hC dL_law__1049 ?_
            refine v_if_eq hC 1055 dL_law__1050 rfl (fun c50 => ?_) (fun c50 => ?_)
            · rw [if_pos c50] at h
              refine v_goto (tg := 2644) hC dL_law__1055 rfl ?_
              refine v_drop [true, true, true, true, true, false, false] [some (.ref am_sc), some (.ref 0), some (.ref 208), some (.ref 219), some (.int v4), none, none] rfl ?_
              cases h
              exact v_widen (k := ce + 3) (n := sl + 18) (by omega) (by omega) k
            · rw [if_neg c50] at h
              cases h
          · rw [if_neg c49] at h
            refine v_lconst (v := (1 : Int64)) hC dL_law__1044 rfl ?_
            refine v_goto (tg := 1049) hC dL_law__1045 rfl ?_
            refine v_lcmp hC dL_law__1049 ?_
            refine v_if_eq hC 1055 dL_law__1050 rfl (fun c51 => ?_) (fun c51 => ?_)
            · rw [if_pos c51] at h
              refine v_goto (tg := 2644) hC dL_law__1055 rfl ?_
              refine v_drop [true, true, true, true, true, false, false] [some (.ref am_sc), some (.ref 0), some (.ref 208), some (.ref 219), some (.int v4), none, none] rfl ?_
              cases h
              exact v_widen (k := ce + 3) (n := sl + 18) (by omega) (by omega) k
            · rw [if_neg c51] at h
              cases h
      · rw [if_neg c46] at h
        cases h
    · rw [if_neg c39] at h
      refine v_iconst (v := (1 : Int32)) hC dL_law__1010 rfl ?_
      refine v_goto (tg := 1015) hC dL_law__1011 rfl ?_
      obtain ⟨r52, M53, q54, h⟩ := bnd_some h
      refine w_callVi hC [.int (xs ((v4 + (1 : Int32))).toNatClampNeg), .int (1 : Int32)] [] (ok_X11_diet q54) mv_X11_diet aw_1586 ly_208 rfl (Nat.le_of_ble_eq_true rfl) ⟨by decide, by decide⟩ ⟨by show _ ≤ 601024; omega, by show _ ≤ 7293034; omega⟩ dL_law__1015 ?_
      refine w_istore hC dL_law__1018 (ltk rfl) [some (.ref am_sc), some (.ref 0), some (.ref 208), some (.ref 219), some (.int v4), some (.int r34), some (.int r52)] rfl ?_
      refine v_aload_n hC dL_law__1020 rfl ?_
      obtain ⟨r55, M56, q57, h⟩ := bnd_some h
      refine w_callVi hC [] [] (ok_X11_thrown q57) mv_X11_thrown aw_1221 ly_208 rfl (Nat.le_of_ble_eq_true rfl) ⟨by decide, by decide⟩ ⟨by show _ ≤ 601024; omega, by show _ ≤ 7293034; omega⟩ dL_law__1021 ?_
      refine v_iload hC dL_law__1024 rfl ?_
      refine v_icmp_eq hC 1031 dL_law__1026 rfl (fun c58 => ?_) (fun c58 => ?_)
      · rw [if_pos c58] at h
        refine v_iload hC dL_law__1031 rfl ?_
        refine v_if_ne hC 1055 dL_law__1033 rfl (fun c59 => ?_) (fun c59 => ?_)
        · rw [if_neg c59] at h
          refine v_goto (tg := 2644) hC dL_law__1055 rfl ?_
          refine v_drop [true, true, true, true, true, false, false] [some (.ref am_sc), some (.ref 0), some (.ref 208), some (.ref 219), some (.int v4), none, none] rfl ?_
          cases h
          exact v_widen (k := ce + 3) (n := sl + 18) (by omega) (by omega) k
        · rw [if_pos c59] at h
          refine v_aload_n hC dL_law__1036 rfl ?_
          refine v_iconst (v := (0 : Int32)) hC dL_law__1037 rfl ?_
          obtain ⟨g60, h⟩ := grd_some h
          refine v_lald hC ly_219 (inb_in g60) dL_law__1038 ?_
          refine v_iload hC dL_law__1039 rfl ?_
          refine v_if_eq hC 1048 dL_law__1041 rfl (fun c61 => ?_) (fun c61 => ?_)
          · rw [if_pos c61] at h
            refine v_lconst (v := (0 : Int64)) hC dL_law__1048 rfl ?_
            refine v_lcmp hC dL_law__1049 ?_
            refine v_if_eq hC 1055 dL_law__1050 rfl (fun c62 => ?_) (fun c62 => ?_)
            · rw [if_pos c62] at h
              refine v_goto (tg := 2644) hC dL_law__1055 rfl ?_
              refine v_drop [true, true, true, true, true, false, false] [some (.ref am_sc), some (.ref 0), some (.ref 208), some (.ref 219), some (.int v4), none, none] rfl ?_
              cases h
              exact v_widen (k := ce + 3) (n := sl + 18) (by omega) (by omega) k
            · rw [if_neg c62] at h
              cases h
          · rw [if_neg c61] at h
            refine v_lconst (v := (1 : Int64)) hC dL_law__1044 rfl ?_
            refine v_goto (tg := 1049) hC dL_law__1045 rfl ?_
            refine v_lcmp hC dL_law__1049 ?_
            refine v_if_eq hC 1055 dL_law__1050 rfl (fun c63 => ?_) (fun c63 => ?_)
            · rw [if_pos c63] at h
              refine v_goto (tg := 2644) hC dL_law__1055 rfl ?_
              refine v_drop [true, true, true, true, true, false, false] [some (.ref am_sc), some (.ref 0), some (.ref 208), some (.ref 219), some (.int v4), none, none] rfl ?_
              cases h
              exact v_widen (k := ce + 3) (n := sl + 18) (by omega) (by omega) k
            · rw [if_neg c63] at h
              cases h
      · rw [if_neg c58] at h
        cases h
def f_L_c14 (N Ln : Nat) (xs : Nat → Int32) (v4 : Int32) (M : Mm) : Option (Bool × Mm) :=
  grd (inb (v4 + (1 : Int32)) Ln) (grd (inb (v4 + (2 : Int32)) Ln) ((if (xs ((v4 + (2 : Int32))).toNatClampNeg) = (0 : Int32) then bnd (f_L_sweet N (xs ((v4 + (1 : Int32))).toNatClampNeg) (0 : Int32) M) (fun r4 M5 => grd (inb (v4 + (1 : Int32)) Ln) (grd (inb (v4 + (2 : Int32)) Ln) ((if (xs ((v4 + (2 : Int32))).toNatClampNeg) = (0 : Int32) then bnd (f_X11_sweet N (xs ((v4 + (1 : Int32))).toNatClampNeg) (0 : Int32) M5) (fun r10 M11 => bnd (f_X11_thrown N M11) (fun r13 M14 => (if r13 = r4 then (if r4 = (0 : Int32) then grd (inb (0 : Int32) 1) ((if r10 = (0 : Int32) then (if (lg_cmp (M14 219 ((0 : Int32)).toNatClampNeg).toInt64 (0 : Int64)) = (0 : Int32) then some (true, M14) else some (false, M14)) else (if (lg_cmp (M14 219 ((0 : Int32)).toNatClampNeg).toInt64 (1 : Int64)) = (0 : Int32) then some (true, M14) else some (false, M14)))) else some (true, M14)) else some (false, M14)))) else bnd (f_X11_sweet N (xs ((v4 + (1 : Int32))).toNatClampNeg) (1 : Int32) M5) (fun r22 M23 => bnd (f_X11_thrown N M23) (fun r25 M26 => (if r25 = r4 then (if r4 = (0 : Int32) then grd (inb (0 : Int32) 1) ((if r22 = (0 : Int32) then (if (lg_cmp (M26 219 ((0 : Int32)).toNatClampNeg).toInt64 (0 : Int64)) = (0 : Int32) then some (true, M26) else some (false, M26)) else (if (lg_cmp (M26 219 ((0 : Int32)).toNatClampNeg).toInt64 (1 : Int64)) = (0 : Int32) then some (true, M26) else some (false, M26)))) else some (true, M26)) else some (false, M26)))))))) else bnd (f_L_sweet N (xs ((v4 + (1 : Int32))).toNatClampNeg) (1 : Int32) M) (fun r34 M35 => grd (inb (v4 + (1 : Int32)) Ln) (grd (inb (v4 + (2 : Int32)) Ln) ((if (xs ((v4 + (2 : Int32))).toNatClampNeg) = (0 : Int32) then bnd (f_X11_sweet N (xs ((v4 + (1 : Int32))).toNatClampNeg) (0 : Int32) M35) (fun r40 M41 => bnd (f_X11_thrown N M41) (fun r43 M44 => (if r43 = r34 then (if r34 = (0 : Int32) then grd (inb (0 : Int32) 1) ((if r40 = (0 : Int32) then (if (lg_cmp (M44 219 ((0 : Int32)).toNatClampNeg).toInt64 (0 : Int64)) = (0 : Int32) then some (true, M44) else some (false, M44)) else (if (lg_cmp (M44 219 ((0 : Int32)).toNatClampNeg).toInt64 (1 : Int64)) = (0 : Int32) then some (true, M44) else some (false, M44)))) else some (true, M44)) else some (false, M44)))) else bnd (f_X11_sweet N (xs ((v4 + (1 : Int32))).toNatClampNeg) (1 : Int32) M35) (fun r52 M53 => bnd (f_X11_thrown N M53) (fun r55 M56 => (if r55 = r34 then (if r34 = (0 : Int32) then grd (inb (0 : Int32) 1) ((if r52 = (0 : Int32) then (if (lg_cmp (M56 219 ((0 : Int32)).toNatClampNeg).toInt64 (0 : Int64)) = (0 : Int32) then some (true, M56) else some (false, M56)) else (if (lg_cmp (M56 219 ((0 : Int32)).toNatClampNeg).toInt64 (1 : Int64)) = (0 : Int32) then some (true, M56) else some (false, M56)))) else some (true, M56)) else some (false, M56)))))))))))
set_option maxRecDepth 20000 in
set_option maxHeartbeats 4000000 in
theorem okc_14 {N Ln : Nat} {xs : Nat → Int32} {X : am_X} {l : Launch} (hl : l.stackTraces = false) (hC : am_C X l room_1 cL_law_ RL (some .boolean)) (hs : am_SC X xs Ln) {v4 : Int32} {M M' : Mm} {ce sl : Nat} {Q : State → Prop} (hce : ce + 100 ≤ 601024) (hsl : sl + 1000 ≤ 7293034) (h : f_L_c14 N Ln xs v4 M = some (true, M')) (k : am_V X LY M' (ce + 3) (sl + 18) Q 2644 [some (.ref am_sc), some (.ref 0), some (.ref 208), some (.ref 219), some (.int v4), none, none] []) : am_V X LY M ce sl Q 1058 [some (.ref am_sc), some (.ref 0), some (.ref 208), some (.ref 219), some (.int v4), none, none] [] := by
  unfold f_L_c14 at h
  refine v_aload_n hC dL_law__1058 rfl ?_
  refine v_aload_n hC dL_law__1059 rfl ?_
  refine v_iload hC dL_law__1060 rfl ?_
  refine v_iconst (v := (1 : Int32)) hC dL_law__1062 rfl ?_
  refine v_iadd hC dL_law__1063 ?_
  obtain ⟨g1, h⟩ := grd_some h
  refine v_ssl hC hs (inb_in g1) dL_law__1064 ?_
  refine v_aload_n hC dL_law__1065 rfl ?_
  refine v_iload hC dL_law__1066 rfl ?_
  refine v_iconst (v := (2 : Int32)) hC dL_law__1068 rfl ?_
  refine v_iadd hC dL_law__1069 ?_
  obtain ⟨g2, h⟩ := grd_some h
  refine v_ssl hC hs (inb_in g2) dL_law__1070 ?_
  refine v_if_eq hC 1078 dL_law__1071 rfl (fun c3 => ?_) (fun c3 => ?_)
  · rw [if_pos c3] at h
    refine v_iconst (v := (0 : Int32)) hC dL_law__1078 rfl ?_
    refine v_aload_n hC dL_law__1079 rfl ?_
    obtain ⟨r4, M5, q6, h⟩ := bnd_some h
    refine w_callSH hC [.ref 0, .int (xs ((v4 + (1 : Int32))).toNatClampNeg), .int (0 : Int32), .ref 219] [] (ok_L_sweet hl q6) mh_L_sweet aw_989 rfl (Nat.le_of_ble_eq_true rfl) ⟨by decide, by decide⟩ ⟨by show _ ≤ 601024; omega, by show _ ≤ 7293034; omega⟩ dL_law__1080 ?_
    refine w_istore hC dL_law__1083 (ltk rfl) [some (.ref am_sc), some (.ref 0), some (.ref 208), some (.ref 219), some (.int v4), some (.int r4), none] rfl ?_
    refine v_aload_n hC dL_law__1085 rfl ?_
    refine v_aload_n hC dL_law__1086 rfl ?_
    refine v_iload hC dL_law__1087 rfl ?_
    refine v_iconst (v := (1 : Int32)) hC dL_law__1089 rfl ?_
    refine v_iadd hC dL_law__1090 ?_
    obtain ⟨g7, h⟩ := grd_some h
    refine v_ssl hC hs (inb_in g7) dL_law__1091 ?_
    refine v_aload_n hC dL_law__1092 rfl ?_
    refine v_iload hC dL_law__1093 rfl ?_
    refine v_iconst (v := (2 : Int32)) hC dL_law__1095 rfl ?_
    refine v_iadd hC dL_law__1096 ?_
    obtain ⟨g8, h⟩ := grd_some h
    refine v_ssl hC hs (inb_in g8) dL_law__1097 ?_
    refine v_if_eq hC 1105 dL_law__1098 rfl (fun c9 => ?_) (fun c9 => ?_)
    · rw [if_pos c9] at h
      refine v_iconst (v := (0 : Int32)) hC dL_law__1105 rfl ?_
      obtain ⟨r10, M11, q12, h⟩ := bnd_some h
      refine w_callVi hC [.int (xs ((v4 + (1 : Int32))).toNatClampNeg), .int (0 : Int32)] [] (ok_X11_sweet q12) mv_X11_sweet aw_1590 ly_208 rfl (Nat.le_of_ble_eq_true rfl) ⟨by decide, by decide⟩ ⟨by show _ ≤ 601024; omega, by show _ ≤ 7293034; omega⟩ dL_law__1106 ?_
      refine w_istore hC dL_law__1109 (ltk rfl) [some (.ref am_sc), some (.ref 0), some (.ref 208), some (.ref 219), some (.int v4), some (.int r4), some (.int r10)] rfl ?_
      refine v_aload_n hC dL_law__1111 rfl ?_
      obtain ⟨r13, M14, q15, h⟩ := bnd_some h
      refine w_callVi hC [] [] (ok_X11_thrown q15) mv_X11_thrown aw_1221 ly_208 rfl (Nat.le_of_ble_eq_true rfl) ⟨by decide, by decide⟩ ⟨by show _ ≤ 601024; omega, by show _ ≤ 7293034; omega⟩ dL_law__1112 ?_
      refine v_iload hC dL_law__1115 rfl ?_
      refine v_icmp_eq hC 1122 dL_law__1117 rfl (fun c16 => ?_) (fun c16 => ?_)
      · rw [if_pos c16] at h
        refine v_iload hC dL_law__1122 rfl ?_
        refine v_if_ne hC 1146 dL_law__1124 rfl (fun c17 => ?_) (fun c17 => ?_)
        · rw [if_neg c17] at h
          refine v_goto (tg := 2644) hC dL_law__1146 rfl ?_
          refine v_drop [true, true, true, true, true, false, false] [some (.ref am_sc), some (.ref 0), some (.ref 208), some (.ref 219), some (.int v4), none, none] rfl ?_
          cases h
          exact v_widen (k := ce + 3) (n := sl + 18) (by omega) (by omega) k
        · rw [if_pos c17] at h
          refine v_aload_n hC dL_law__1127 rfl ?_
          refine v_iconst (v := (0 : Int32)) hC dL_law__1128 rfl ?_
          obtain ⟨g18, h⟩ := grd_some h
          refine v_lald hC ly_219 (inb_in g18) dL_law__1129 ?_
          refine v_iload hC dL_law__1130 rfl ?_
          refine v_if_eq hC 1139 dL_law__1132 rfl (fun c19 => ?_) (fun c19 => ?_)
          · rw [if_pos c19] at h
            refine v_lconst (v := (0 : Int64)) hC dL_law__1139 rfl ?_
            refine v_lcmp hC dL_law__1140 ?_
            refine v_if_eq hC 1146 dL_law__1141 rfl (fun c20 => ?_) (fun c20 => ?_)
            · rw [if_pos c20] at h
              refine v_goto (tg := 2644) hC dL_law__1146 rfl ?_
              refine v_drop [true, true, true, true, true, false, false] [some (.ref am_sc), some (.ref 0), some (.ref 208), some (.ref 219), some (.int v4), none, none] rfl ?_
              cases h
              exact v_widen (k := ce + 3) (n := sl + 18) (by omega) (by omega) k
            · rw [if_neg c20] at h
              cases h
          · rw [if_neg c19] at h
            refine v_lconst (v := (1 : Int64)) hC dL_law__1135 rfl ?_
            refine v_goto (tg := 1140) hC dL_law__1136 rfl ?_
            refine v_lcmp hC dL_law__1140 ?_
            refine v_if_eq hC 1146 dL_law__1141 rfl (fun c21 => ?_) (fun c21 => ?_)
            · rw [if_pos c21] at h
              refine v_goto (tg := 2644) hC dL_law__1146 rfl ?_
              refine v_drop [true, true, true, true, true, false, false] [some (.ref am_sc), some (.ref 0), some (.ref 208), some (.ref 219), some (.int v4), none, none] rfl ?_
              cases h
              exact v_widen (k := ce + 3) (n := sl + 18) (by omega) (by omega) k
            · rw [if_neg c21] at h
              cases h
      · rw [if_neg c16] at h
        cases h
    · rw [if_neg c9] at h
      refine v_iconst (v := (1 : Int32)) hC dL_law__1101 rfl ?_
      refine v_goto (tg := 1106) hC dL_law__1102 rfl ?_
      obtain ⟨r22, M23, q24, h⟩ := bnd_some h
      refine w_callVi hC [.int (xs ((v4 + (1 : Int32))).toNatClampNeg), .int (1 : Int32)] [] (ok_X11_sweet q24) mv_X11_sweet aw_1590 ly_208 rfl (Nat.le_of_ble_eq_true rfl) ⟨by decide, by decide⟩ ⟨by show _ ≤ 601024; omega, by show _ ≤ 7293034; omega⟩ dL_law__1106 ?_
      refine w_istore hC dL_law__1109 (ltk rfl) [some (.ref am_sc), some (.ref 0), some (.ref 208), some (.ref 219), some (.int v4), some (.int r4), some (.int r22)] rfl ?_
      refine v_aload_n hC dL_law__1111 rfl ?_
      obtain ⟨r25, M26, q27, h⟩ := bnd_some h
      refine w_callVi hC [] [] (ok_X11_thrown q27) mv_X11_thrown aw_1221 ly_208 rfl (Nat.le_of_ble_eq_true rfl) ⟨by decide, by decide⟩ ⟨by show _ ≤ 601024; omega, by show _ ≤ 7293034; omega⟩ dL_law__1112 ?_
      refine v_iload hC dL_law__1115 rfl ?_
      refine v_icmp_eq hC 1122 dL_law__1117 rfl (fun c28 => ?_) (fun c28 => ?_)
      · rw [if_pos c28] at h
        refine v_iload hC dL_law__1122 rfl ?_
        refine v_if_ne hC 1146 dL_law__1124 rfl (fun c29 => ?_) (fun c29 => ?_)
        · rw [if_neg c29] at h
          refine v_goto (tg := 2644) hC dL_law__1146 rfl ?_
          refine v_drop [true, true, true, true, true, false, false] [some (.ref am_sc), some (.ref 0), some (.ref 208), some (.ref 219), some (.int v4), none, none] rfl ?_
          cases h
          exact v_widen (k := ce + 3) (n := sl + 18) (by omega) (by omega) k
        · rw [if_pos c29] at h
          refine v_aload_n hC dL_law__1127 rfl ?_
          refine v_iconst (v := (0 : Int32)) hC dL_law__1128 rfl ?_
          obtain ⟨g30, h⟩ := grd_some h
          refine v_lald hC ly_219 (inb_in g30) dL_law__1129 ?_
          refine v_iload hC dL_law__1130 rfl ?_
          refine v_if_eq hC 1139 dL_law__1132 rfl (fun c31 => ?_) (fun c31 => ?_)
          · rw [if_pos c31] at h
            refine v_lconst (v := (0 : Int64)) hC dL_law__1139 rfl ?_
            refine v_lcmp hC dL_law__1140 ?_
            refine v_if_eq hC 1146 dL_law__1141 rfl (fun c32 => ?_) (fun c32 => ?_)
            · rw [if_pos c32] at h
              refine v_goto (tg := 2644) hC dL_law__1146 rfl ?_
              refine v_drop [true, true, true, true, true, false, false] [some (.ref am_sc), some (.ref 0), some (.ref 208), some (.ref 219), some (.int v4), none, none] rfl ?_
              cases h
              exact v_widen (k := ce + 3) (n := sl + 18) (by omega) (by omega) k
            · rw [if_neg c32] at h
              cases h
          · rw [if_neg c31] at h
            refine v_lconst (v := (1 : Int64)) hC dL_law__1135 rfl ?_
            refine v_goto (tg := 1140) hC dL_law__1136 rfl ?_
            refine v_lcmp hC dL_law__1140 ?_
            refine v_if_eq hC 1146 dL_law__1141 rfl (fun c33 => ?_) (fun c33 => ?_)
            · rw [if_pos c33] at h
              refine v_goto (tg := 2644) hC dL_law__1146 rfl ?_
              refine v_drop [true, true, true, true, true, false, false] [some (.ref am_sc), some (.ref 0), some (.ref 208), some (.ref 219), some (.int v4), none, none] rfl ?_
              cases h
              exact v_widen (k := ce + 3) (n := sl + 18) (by omega) (by omega) k
            · rw [if_neg c33] at h
              cases h
      · rw [if_neg c28] at h
        cases h
  · rw [if_neg c3] at h
    refine v_iconst (v := (1 : Int32)) hC dL_law__1074 rfl ?_
    refine v_goto (tg := 1079) hC dL_law__1075 rfl ?_
    refine v_aload_n hC dL_law__1079 rfl ?_
    obtain ⟨r34, M35, q36, h⟩ := bnd_some h
    refine w_callSH hC [.ref 0, .int (xs ((v4 + (1 : Int32))).toNatClampNeg), .int (1 : Int32), .ref 219] [] (ok_L_sweet hl q36) mh_L_sweet aw_989 rfl (Nat.le_of_ble_eq_true rfl) ⟨by decide, by decide⟩ ⟨by show _ ≤ 601024; omega, by show _ ≤ 7293034; omega⟩ dL_law__1080 ?_
    refine w_istore hC dL_law__1083 (ltk rfl) [some (.ref am_sc), some (.ref 0), some (.ref 208), some (.ref 219), some (.int v4), some (.int r34), none] rfl ?_
    refine v_aload_n hC dL_law__1085 rfl ?_
    refine v_aload_n hC dL_law__1086 rfl ?_
    refine v_iload hC dL_law__1087 rfl ?_
    refine v_iconst (v := (1 : Int32)) hC dL_law__1089 rfl ?_
    refine v_iadd hC dL_law__1090 ?_
    obtain ⟨g37, h⟩ := grd_some h
    refine v_ssl hC hs (inb_in g37) dL_law__1091 ?_
    refine v_aload_n hC dL_law__1092 rfl ?_
    refine v_iload hC dL_law__1093 rfl ?_
    refine v_iconst (v := (2 : Int32)) hC dL_law__1095 rfl ?_
    refine v_iadd hC dL_law__1096 ?_
    obtain ⟨g38, h⟩ := grd_some h
    refine v_ssl hC hs (inb_in g38) dL_law__1097 ?_
    refine v_if_eq hC 1105 dL_law__1098 rfl (fun c39 => ?_) (fun c39 => ?_)
    · rw [if_pos c39] at h
      refine v_iconst (v := (0 : Int32)) hC dL_law__1105 rfl ?_
      obtain ⟨r40, M41, q42, h⟩ := bnd_some h
      refine w_callVi hC [.int (xs ((v4 + (1 : Int32))).toNatClampNeg), .int (0 : Int32)] [] (ok_X11_sweet q42) mv_X11_sweet aw_1590 ly_208 rfl (Nat.le_of_ble_eq_true rfl) ⟨by decide, by decide⟩ ⟨by show _ ≤ 601024; omega, by show _ ≤ 7293034; omega⟩ dL_law__1106 ?_
      refine w_istore hC dL_law__1109 (ltk rfl) [some (.ref am_sc), some (.ref 0), some (.ref 208), some (.ref 219), some (.int v4), some (.int r34), some (.int r40)] rfl ?_
      refine v_aload_n hC dL_law__1111 rfl ?_
      obtain ⟨r43, M44, q45, h⟩ := bnd_some h
      refine w_callVi hC [] [] (ok_X11_thrown q45) mv_X11_thrown aw_1221 ly_208 rfl (Nat.le_of_ble_eq_true rfl) ⟨by decide, by decide⟩ ⟨by show _ ≤ 601024; omega, by show _ ≤ 7293034; omega⟩ dL_law__1112 ?_
      refine v_iload hC dL_law__1115 rfl ?_
      refine v_icmp_eq hC 1122 dL_law__1117 rfl (fun c46 => ?_) (fun c46 => ?_)
      · rw [if_pos c46] at h
        refine v_iload hC dL_law__1122 rfl ?_
        refine v_if_ne hC 1146 dL_law__1124 rfl (fun c47 => ?_) (fun c47 => ?_)
        · rw [if_neg c47] at h
          refine v_goto (tg := 2644) hC dL_law__1146 rfl ?_
          refine v_drop [true, true, true, true, true, false, false] [some (.ref am_sc), some (.ref 0), some (.ref 208), some (.ref 219), some (.int v4), none, none] rfl ?_
          cases h
          exact v_widen (k := ce + 3) (n := sl + 18) (by omega) (by omega) k
        · rw [if_pos c47] at h
          refine v_aload_n hC dL_law__1127 rfl ?_
          refine v_iconst (v := (0 : Int32)) hC dL_law__1128 rfl ?_
          obtain ⟨g48, h⟩ := grd_some h
          refine v_lald hC ly_219 (inb_in g48) dL_law__1129 ?_
          refine v_iload hC dL_law__1130 rfl ?_
          refine v_if_eq hC 1139 dL_law__1132 rfl (fun c49 => ?_) (fun c49 => ?_)
          · rw [if_pos c49] at h
            refine v_lconst (v := (0 : Int64)) hC dL_law__1139 rfl ?_
            refine v_lcmp hC dL_law__1140 ?_
            refine v_if_eq hC 1146 dL_law__1141 rfl (fun c50 => ?_) (fun c50 => ?_)
            · rw [if_pos c50] at h
              refine v_goto (tg := 2644) hC dL_law__1146 rfl ?_
              refine v_drop [true, true, true, true, true, false, false] [some (.ref am_sc), some (.ref 0), some (.ref 208), some (.ref 219), some (.int v4), none, none] rfl ?_
              cases h
              exact v_widen (k := ce + 3) (n := sl + 18) (by omega) (by omega) k
            · rw [if_neg c50] at h
              cases h
          · rw [if_neg c49] at h
            refine v_lconst (v := (1 : Int64)) hC dL_law__1135 rfl ?_
            refine v_goto (tg := 1140) hC dL_law__1136 rfl ?_
            refine v_lcmp hC dL_law__1140 ?_
            refine v_if_eq hC 1146 dL_law__1141 rfl (fun c51 => ?_) (fun c51 => ?_)
            · rw [if_pos c51] at h
              refine v_goto (tg := 2644) hC dL_law__1146 rfl ?_
              refine v_drop [true, true, true, true, true, false, false] [some (.ref am_sc), some (.ref 0), some (.ref 208), some (.ref 219), some (.int v4), none, none] rfl ?_
              cases h
              exact v_widen (k := ce + 3) (n := sl + 18) (by omega) (by omega) k
            · rw [if_neg c51] at h
              cases h
      · rw [if_neg c46] at h
        cases h
    · rw [if_neg c39] at h
      refine v_iconst (v := (1 : Int32)) hC dL_law__1101 rfl ?_
      refine v_goto (tg := 1106) hC dL_law__1102 rfl ?_
      obtain ⟨r52, M53, q54, h⟩ := bnd_some h
      refine w_callVi hC [.int (xs ((v4 + (1 : Int32))).toNatClampNeg), .int (1 : Int32)] [] (ok_X11_sweet q54) mv_X11_sweet aw_1590 ly_208 rfl (Nat.le_of_ble_eq_true rfl) ⟨by decide, by decide⟩ ⟨by show _ ≤ 601024; omega, by show _ ≤ 7293034; omega⟩ dL_law__1106 ?_
      refine w_istore hC dL_law__1109 (ltk rfl) [some (.ref am_sc), some (.ref 0), some (.ref 208), some (.ref 219), some (.int v4), some (.int r34), some (.int r52)] rfl ?_
      refine v_aload_n hC dL_law__1111 rfl ?_
      obtain ⟨r55, M56, q57, h⟩ := bnd_some h
      refine w_callVi hC [] [] (ok_X11_thrown q57) mv_X11_thrown aw_1221 ly_208 rfl (Nat.le_of_ble_eq_true rfl) ⟨by decide, by decide⟩ ⟨by show _ ≤ 601024; omega, by show _ ≤ 7293034; omega⟩ dL_law__1112 ?_
      refine v_iload hC dL_law__1115 rfl ?_
      refine v_icmp_eq hC 1122 dL_law__1117 rfl (fun c58 => ?_) (fun c58 => ?_)
      · rw [if_pos c58] at h
        refine v_iload hC dL_law__1122 rfl ?_
        refine v_if_ne hC 1146 dL_law__1124 rfl (fun c59 => ?_) (fun c59 => ?_)
        · rw [if_neg c59] at h
          refine v_goto (tg := 2644) hC dL_law__1146 rfl ?_
          refine v_drop [true, true, true, true, true, false, false] [some (.ref am_sc), some (.ref 0), some (.ref 208), some (.ref 219), some (.int v4), none, none] rfl ?_
          cases h
          exact v_widen (k := ce + 3) (n := sl + 18) (by omega) (by omega) k
        · rw [if_pos c59] at h
          refine v_aload_n hC dL_law__1127 rfl ?_
          refine v_iconst (v := (0 : Int32)) hC dL_law__1128 rfl ?_
          obtain ⟨g60, h⟩ := grd_some h
          refine v_lald hC ly_219 (inb_in g60) dL_law__1129 ?_
          refine v_iload hC dL_law__1130 rfl ?_
          refine v_if_eq hC 1139 dL_law__1132 rfl (fun c61 => ?_) (fun c61 => ?_)
          · rw [if_pos c61] at h
            refine v_lconst (v := (0 : Int64)) hC dL_law__1139 rfl ?_
            refine v_lcmp hC dL_law__1140 ?_
            refine v_if_eq hC 1146 dL_law__1141 rfl (fun c62 => ?_) (fun c62 => ?_)
            · rw [if_pos c62] at h
              refine v_goto (tg := 2644) hC dL_law__1146 rfl ?_
              refine v_drop [true, true, true, true, true, false, false] [some (.ref am_sc), some (.ref 0), some (.ref 208), some (.ref 219), some (.int v4), none, none] rfl ?_
              cases h
              exact v_widen (k := ce + 3) (n := sl + 18) (by omega) (by omega) k
            · rw [if_neg c62] at h
              cases h
          · rw [if_neg c61] at h
            refine v_lconst (v := (1 : Int64)) hC dL_law__1135 rfl ?_
            refine v_goto (tg := 1140) hC dL_law__1136 rfl ?_
            refine v_lcmp hC dL_law__1140 ?_
            refine v_if_eq hC 1146 dL_law__1141 rfl (fun c63 => ?_) (fun c63 => ?_)
            · rw [if_pos c63] at h
              refine v_goto (tg := 2644) hC dL_law__1146 rfl ?_
              refine v_drop [true, true, true, true, true, false, false] [some (.ref am_sc), some (.ref 0), some (.ref 208), some (.ref 219), some (.int v4), none, none] rfl ?_
              cases h
              exact v_widen (k := ce + 3) (n := sl + 18) (by omega) (by omega) k
            · rw [if_neg c63] at h
              cases h
      · rw [if_neg c58] at h
        cases h
def f_L_c15 (N Ln : Nat) (xs : Nat → Int32) (v4 : Int32) (M : Mm) : Option (Bool × Mm) :=
  grd (inb (v4 + (1 : Int32)) Ln) (bnd (f_L_courses N (xs ((v4 + (1 : Int32))).toNatClampNeg) M) (fun r2 M3 => grd (inb (v4 + (1 : Int32)) Ln) (bnd (f_X11_courses N (xs ((v4 + (1 : Int32))).toNatClampNeg) M3) (fun r6 M7 => bnd (f_X11_thrown N M7) (fun r9 M10 => (if r9 = r2 then (if r2 = (0 : Int32) then grd (inb (0 : Int32) 1) ((if (lg_cmp (M10 219 ((0 : Int32)).toNatClampNeg).toInt64 (r6).toInt64) = (0 : Int32) then some (true, M10) else some (false, M10))) else some (true, M10)) else some (false, M10)))))))
set_option maxRecDepth 20000 in
set_option maxHeartbeats 4000000 in
theorem okc_15 {N Ln : Nat} {xs : Nat → Int32} {X : am_X} {l : Launch} (hl : l.stackTraces = false) (hC : am_C X l room_1 cL_law_ RL (some .boolean)) (hs : am_SC X xs Ln) {v4 : Int32} {M M' : Mm} {ce sl : Nat} {Q : State → Prop} (hce : ce + 100 ≤ 601024) (hsl : sl + 1000 ≤ 7293034) (h : f_L_c15 N Ln xs v4 M = some (true, M')) (k : am_V X LY M' (ce + 3) (sl + 18) Q 2644 [some (.ref am_sc), some (.ref 0), some (.ref 208), some (.ref 219), some (.int v4), none, none] []) : am_V X LY M ce sl Q 1149 [some (.ref am_sc), some (.ref 0), some (.ref 208), some (.ref 219), some (.int v4), none, none] [] := by
  unfold f_L_c15 at h
  refine v_aload_n hC dL_law__1149 rfl ?_
  refine v_aload_n hC dL_law__1150 rfl ?_
  refine v_iload hC dL_law__1151 rfl ?_
  refine v_iconst (v := (1 : Int32)) hC dL_law__1153 rfl ?_
  refine v_iadd hC dL_law__1154 ?_
  obtain ⟨g1, h⟩ := grd_some h
  refine v_ssl hC hs (inb_in g1) dL_law__1155 ?_
  refine v_aload_n hC dL_law__1156 rfl ?_
  obtain ⟨r2, M3, q4, h⟩ := bnd_some h
  refine w_callSH hC [.ref 0, .int (xs ((v4 + (1 : Int32))).toNatClampNeg), .ref 219] [] (ok_L_courses hl q4) mh_L_courses aw_998 rfl (Nat.le_of_ble_eq_true rfl) ⟨by decide, by decide⟩ ⟨by show _ ≤ 601024; omega, by show _ ≤ 7293034; omega⟩ dL_law__1157 ?_
  refine w_istore hC dL_law__1160 (ltk rfl) [some (.ref am_sc), some (.ref 0), some (.ref 208), some (.ref 219), some (.int v4), some (.int r2), none] rfl ?_
  refine v_aload_n hC dL_law__1162 rfl ?_
  refine v_aload_n hC dL_law__1163 rfl ?_
  refine v_iload hC dL_law__1164 rfl ?_
  refine v_iconst (v := (1 : Int32)) hC dL_law__1166 rfl ?_
  refine v_iadd hC dL_law__1167 ?_
  obtain ⟨g5, h⟩ := grd_some h
  refine v_ssl hC hs (inb_in g5) dL_law__1168 ?_
  obtain ⟨r6, M7, q8, h⟩ := bnd_some h
  refine w_callVi hC [.int (xs ((v4 + (1 : Int32))).toNatClampNeg)] [] (ok_X11_courses q8) mv_X11_courses aw_1594 ly_208 rfl (Nat.le_of_ble_eq_true rfl) ⟨by decide, by decide⟩ ⟨by show _ ≤ 601024; omega, by show _ ≤ 7293034; omega⟩ dL_law__1169 ?_
  refine w_istore hC dL_law__1172 (ltk rfl) [some (.ref am_sc), some (.ref 0), some (.ref 208), some (.ref 219), some (.int v4), some (.int r2), some (.int r6)] rfl ?_
  refine v_aload_n hC dL_law__1174 rfl ?_
  obtain ⟨r9, M10, q11, h⟩ := bnd_some h
  refine w_callVi hC [] [] (ok_X11_thrown q11) mv_X11_thrown aw_1221 ly_208 rfl (Nat.le_of_ble_eq_true rfl) ⟨by decide, by decide⟩ ⟨by show _ ≤ 601024; omega, by show _ ≤ 7293034; omega⟩ dL_law__1175 ?_
  refine v_iload hC dL_law__1178 rfl ?_
  refine v_icmp_eq hC 1185 dL_law__1180 rfl (fun c12 => ?_) (fun c12 => ?_)
  · rw [if_pos c12] at h
    refine v_iload hC dL_law__1185 rfl ?_
    refine v_if_ne hC 1202 dL_law__1187 rfl (fun c13 => ?_) (fun c13 => ?_)
    · rw [if_neg c13] at h
      refine v_goto (tg := 2644) hC dL_law__1202 rfl ?_
      refine v_drop [true, true, true, true, true, false, false] [some (.ref am_sc), some (.ref 0), some (.ref 208), some (.ref 219), some (.int v4), none, none] rfl ?_
      cases h
      exact v_widen (k := ce + 3) (n := sl + 18) (by omega) (by omega) k
    · rw [if_pos c13] at h
      refine v_aload_n hC dL_law__1190 rfl ?_
      refine v_iconst (v := (0 : Int32)) hC dL_law__1191 rfl ?_
      obtain ⟨g14, h⟩ := grd_some h
      refine v_lald hC ly_219 (inb_in g14) dL_law__1192 ?_
      refine v_iload hC dL_law__1193 rfl ?_
      refine v_i2l hC dL_law__1195 ?_
      refine v_lcmp hC dL_law__1196 ?_
      refine v_if_eq hC 1202 dL_law__1197 rfl (fun c15 => ?_) (fun c15 => ?_)
      · rw [if_pos c15] at h
        refine v_goto (tg := 2644) hC dL_law__1202 rfl ?_
        refine v_drop [true, true, true, true, true, false, false] [some (.ref am_sc), some (.ref 0), some (.ref 208), some (.ref 219), some (.int v4), none, none] rfl ?_
        cases h
        exact v_widen (k := ce + 3) (n := sl + 18) (by omega) (by omega) k
      · rw [if_neg c15] at h
        cases h
  · rw [if_neg c12] at h
    cases h
def f_L_c16 (N Ln : Nat) (xs : Nat → Int32) (v4 : Int32) (M : Mm) : Option (Bool × Mm) :=
  grd (inb (v4 + (1 : Int32)) Ln) (bnd (f_L_frees N (xs ((v4 + (1 : Int32))).toNatClampNeg) M) (fun r2 M3 => grd (inb (v4 + (1 : Int32)) Ln) (bnd (f_X11_frees N (xs ((v4 + (1 : Int32))).toNatClampNeg) M3) (fun r6 M7 => bnd (f_X11_thrown N M7) (fun r9 M10 => (if r9 = r2 then (if r2 = (0 : Int32) then grd (inb (0 : Int32) 1) ((if (lg_cmp (M10 219 ((0 : Int32)).toNatClampNeg).toInt64 (r6).toInt64) = (0 : Int32) then some (true, M10) else some (false, M10))) else some (true, M10)) else some (false, M10)))))))
set_option maxRecDepth 20000 in
set_option maxHeartbeats 4000000 in
theorem okc_16 {N Ln : Nat} {xs : Nat → Int32} {X : am_X} {l : Launch} (hl : l.stackTraces = false) (hC : am_C X l room_1 cL_law_ RL (some .boolean)) (hs : am_SC X xs Ln) {v4 : Int32} {M M' : Mm} {ce sl : Nat} {Q : State → Prop} (hce : ce + 100 ≤ 601024) (hsl : sl + 1000 ≤ 7293034) (h : f_L_c16 N Ln xs v4 M = some (true, M')) (k : am_V X LY M' (ce + 3) (sl + 18) Q 2644 [some (.ref am_sc), some (.ref 0), some (.ref 208), some (.ref 219), some (.int v4), none, none] []) : am_V X LY M ce sl Q 1205 [some (.ref am_sc), some (.ref 0), some (.ref 208), some (.ref 219), some (.int v4), none, none] [] := by
  unfold f_L_c16 at h
  refine v_aload_n hC dL_law__1205 rfl ?_
  refine v_aload_n hC dL_law__1206 rfl ?_
  refine v_iload hC dL_law__1207 rfl ?_
  refine v_iconst (v := (1 : Int32)) hC dL_law__1209 rfl ?_
  refine v_iadd hC dL_law__1210 ?_
  obtain ⟨g1, h⟩ := grd_some h
  refine v_ssl hC hs (inb_in g1) dL_law__1211 ?_
  refine v_aload_n hC dL_law__1212 rfl ?_
  obtain ⟨r2, M3, q4, h⟩ := bnd_some h
  refine w_callSH hC [.ref 0, .int (xs ((v4 + (1 : Int32))).toNatClampNeg), .ref 219] [] (ok_L_frees hl q4) mh_L_frees aw_1024 rfl (Nat.le_of_ble_eq_true rfl) ⟨by decide, by decide⟩ ⟨by show _ ≤ 601024; omega, by show _ ≤ 7293034; omega⟩ dL_law__1213 ?_
  refine w_istore hC dL_law__1216 (ltk rfl) [some (.ref am_sc), some (.ref 0), some (.ref 208), some (.ref 219), some (.int v4), some (.int r2), none] rfl ?_
  refine v_aload_n hC dL_law__1218 rfl ?_
  refine v_aload_n hC dL_law__1219 rfl ?_
  refine v_iload hC dL_law__1220 rfl ?_
  refine v_iconst (v := (1 : Int32)) hC dL_law__1222 rfl ?_
  refine v_iadd hC dL_law__1223 ?_
  obtain ⟨g5, h⟩ := grd_some h
  refine v_ssl hC hs (inb_in g5) dL_law__1224 ?_
  obtain ⟨r6, M7, q8, h⟩ := bnd_some h
  refine w_callVi hC [.int (xs ((v4 + (1 : Int32))).toNatClampNeg)] [] (ok_X11_frees q8) mv_X11_frees aw_1631 ly_208 rfl (Nat.le_of_ble_eq_true rfl) ⟨by decide, by decide⟩ ⟨by show _ ≤ 601024; omega, by show _ ≤ 7293034; omega⟩ dL_law__1225 ?_
  refine w_istore hC dL_law__1228 (ltk rfl) [some (.ref am_sc), some (.ref 0), some (.ref 208), some (.ref 219), some (.int v4), some (.int r2), some (.int r6)] rfl ?_
  refine v_aload_n hC dL_law__1230 rfl ?_
  obtain ⟨r9, M10, q11, h⟩ := bnd_some h
  refine w_callVi hC [] [] (ok_X11_thrown q11) mv_X11_thrown aw_1221 ly_208 rfl (Nat.le_of_ble_eq_true rfl) ⟨by decide, by decide⟩ ⟨by show _ ≤ 601024; omega, by show _ ≤ 7293034; omega⟩ dL_law__1231 ?_
  refine v_iload hC dL_law__1234 rfl ?_
  refine v_icmp_eq hC 1241 dL_law__1236 rfl (fun c12 => ?_) (fun c12 => ?_)
  · rw [if_pos c12] at h
    refine v_iload hC dL_law__1241 rfl ?_
    refine v_if_ne hC 1258 dL_law__1243 rfl (fun c13 => ?_) (fun c13 => ?_)
    · rw [if_neg c13] at h
      refine v_goto (tg := 2644) hC dL_law__1258 rfl ?_
      refine v_drop [true, true, true, true, true, false, false] [some (.ref am_sc), some (.ref 0), some (.ref 208), some (.ref 219), some (.int v4), none, none] rfl ?_
      cases h
      exact v_widen (k := ce + 3) (n := sl + 18) (by omega) (by omega) k
    · rw [if_pos c13] at h
      refine v_aload_n hC dL_law__1246 rfl ?_
      refine v_iconst (v := (0 : Int32)) hC dL_law__1247 rfl ?_
      obtain ⟨g14, h⟩ := grd_some h
      refine v_lald hC ly_219 (inb_in g14) dL_law__1248 ?_
      refine v_iload hC dL_law__1249 rfl ?_
      refine v_i2l hC dL_law__1251 ?_
      refine v_lcmp hC dL_law__1252 ?_
      refine v_if_eq hC 1258 dL_law__1253 rfl (fun c15 => ?_) (fun c15 => ?_)
      · rw [if_pos c15] at h
        refine v_goto (tg := 2644) hC dL_law__1258 rfl ?_
        refine v_drop [true, true, true, true, true, false, false] [some (.ref am_sc), some (.ref 0), some (.ref 208), some (.ref 219), some (.int v4), none, none] rfl ?_
        cases h
        exact v_widen (k := ce + 3) (n := sl + 18) (by omega) (by omega) k
      · rw [if_neg c15] at h
        cases h
  · rw [if_neg c12] at h
    cases h
def f_L_c17 (N Ln : Nat) (xs : Nat → Int32) (v4 : Int32) (M : Mm) : Option (Bool × Mm) :=
  bnd (f_X10_all N M) (fun r1 M2 => bnd (f_X11_all N M2) (fun r4 M5 => (if r1 = r4 then some (true, M5) else some (false, M5))))
set_option maxRecDepth 20000 in
set_option maxHeartbeats 4000000 in
theorem okc_17 {N Ln : Nat} {xs : Nat → Int32} {X : am_X} {l : Launch} (hl : l.stackTraces = false) (hC : am_C X l room_1 cL_law_ RL (some .boolean)) (hs : am_SC X xs Ln) {v4 : Int32} {M M' : Mm} {ce sl : Nat} {Q : State → Prop} (hce : ce + 100 ≤ 601024) (hsl : sl + 1000 ≤ 7293034) (h : f_L_c17 N Ln xs v4 M = some (true, M')) (k : am_V X LY M' (ce + 3) (sl + 18) Q 2644 [some (.ref am_sc), some (.ref 0), some (.ref 208), some (.ref 219), some (.int v4), none, none] []) : am_V X LY M ce sl Q 1261 [some (.ref am_sc), some (.ref 0), some (.ref 208), some (.ref 219), some (.int v4), none, none] [] := by
  unfold f_L_c17 at h
  refine v_aload_n hC dL_law__1261 rfl ?_
  obtain ⟨r1, M2, q3, h⟩ := bnd_some h
  refine w_callVi hC [] [] (ok_X10_all q3) mv_X10_all aw_389 ly_0 rfl (Nat.le_of_ble_eq_true rfl) ⟨by decide, by decide⟩ ⟨by show _ ≤ 601024; omega, by show _ ≤ 7293034; omega⟩ dL_law__1262 ?_
  refine v_aload_n hC dL_law__1265 rfl ?_
  obtain ⟨r4, M5, q6, h⟩ := bnd_some h
  refine w_callVi hC [] [.int r1] (ok_X11_all q6) mv_X11_all aw_1655 ly_208 rfl (Nat.le_of_ble_eq_true rfl) ⟨by decide, by decide⟩ ⟨by show _ ≤ 601024; omega, by show _ ≤ 7293034; omega⟩ dL_law__1266 ?_
  refine v_icmp_eq hC 2644 dL_law__1269 rfl (fun c7 => ?_) (fun c7 => ?_)
  · rw [if_pos c7] at h
    cases h
    exact v_widen (k := ce + 3) (n := sl + 18) (by omega) (by omega) k
  · rw [if_neg c7] at h
    cases h
def f_L_c18 (N Ln : Nat) (xs : Nat → Int32) (v4 : Int32) (M : Mm) : Option (Bool × Mm) :=
  bnd (f_X10_held N M) (fun r1 M2 => bnd (f_X11_held N M2) (fun r4 M5 => (if r1 = r4 then some (true, M5) else some (false, M5))))
set_option maxRecDepth 20000 in
set_option maxHeartbeats 4000000 in
theorem okc_18 {N Ln : Nat} {xs : Nat → Int32} {X : am_X} {l : Launch} (hl : l.stackTraces = false) (hC : am_C X l room_1 cL_law_ RL (some .boolean)) (hs : am_SC X xs Ln) {v4 : Int32} {M M' : Mm} {ce sl : Nat} {Q : State → Prop} (hce : ce + 100 ≤ 601024) (hsl : sl + 1000 ≤ 7293034) (h : f_L_c18 N Ln xs v4 M = some (true, M')) (k : am_V X LY M' (ce + 3) (sl + 18) Q 2644 [some (.ref am_sc), some (.ref 0), some (.ref 208), some (.ref 219), some (.int v4), none, none] []) : am_V X LY M ce sl Q 1274 [some (.ref am_sc), some (.ref 0), some (.ref 208), some (.ref 219), some (.int v4), none, none] [] := by
  unfold f_L_c18 at h
  refine v_aload_n hC dL_law__1274 rfl ?_
  obtain ⟨r1, M2, q3, h⟩ := bnd_some h
  refine w_callVi hC [] [] (ok_X10_held q3) mv_X10_held aw_476 ly_0 rfl (Nat.le_of_ble_eq_true rfl) ⟨by decide, by decide⟩ ⟨by show _ ≤ 601024; omega, by show _ ≤ 7293034; omega⟩ dL_law__1275 ?_
  refine v_aload_n hC dL_law__1278 rfl ?_
  obtain ⟨r4, M5, q6, h⟩ := bnd_some h
  refine w_callVi hC [] [.int r1] (ok_X11_held q6) mv_X11_held aw_1659 ly_208 rfl (Nat.le_of_ble_eq_true rfl) ⟨by decide, by decide⟩ ⟨by show _ ≤ 601024; omega, by show _ ≤ 7293034; omega⟩ dL_law__1279 ?_
  refine v_icmp_eq hC 2644 dL_law__1282 rfl (fun c7 => ?_) (fun c7 => ?_)
  · rw [if_pos c7] at h
    cases h
    exact v_widen (k := ce + 3) (n := sl + 18) (by omega) (by omega) k
  · rw [if_neg c7] at h
    cases h
def f_L_c19 (N Ln : Nat) (xs : Nat → Int32) (v4 : Int32) (M : Mm) : Option (Bool × Mm) :=
  grd (inb (v4 + (1 : Int32)) Ln) (grd (inb (v4 + (2 : Int32)) Ln) (bnd (f_L_takes N (xs ((v4 + (1 : Int32))).toNatClampNeg) (xs ((v4 + (2 : Int32))).toNatClampNeg) M) (fun r3 M4 => grd (inb (v4 + (1 : Int32)) Ln) (grd (inb (v4 + (2 : Int32)) Ln) (bnd (f_X11_takes N (xs ((v4 + (1 : Int32))).toNatClampNeg) (xs ((v4 + (2 : Int32))).toNatClampNeg) M4) (fun r8 M9 => bnd (f_X11_thrown N M9) (fun r11 M12 => (if r11 = r3 then (if r3 = (0 : Int32) then grd (inb (0 : Int32) 1) ((if (lg_cmp (M12 219 ((0 : Int32)).toNatClampNeg).toInt64 (r8).toInt64) = (0 : Int32) then some (true, M12) else some (false, M12))) else some (true, M12)) else some (false, M12)))))))))
set_option maxRecDepth 20000 in
set_option maxHeartbeats 4000000 in
theorem okc_19 {N Ln : Nat} {xs : Nat → Int32} {X : am_X} {l : Launch} (hl : l.stackTraces = false) (hC : am_C X l room_1 cL_law_ RL (some .boolean)) (hs : am_SC X xs Ln) {v4 : Int32} {M M' : Mm} {ce sl : Nat} {Q : State → Prop} (hce : ce + 100 ≤ 601024) (hsl : sl + 1000 ≤ 7293034) (h : f_L_c19 N Ln xs v4 M = some (true, M')) (k : am_V X LY M' (ce + 3) (sl + 18) Q 2644 [some (.ref am_sc), some (.ref 0), some (.ref 208), some (.ref 219), some (.int v4), none, none] []) : am_V X LY M ce sl Q 1287 [some (.ref am_sc), some (.ref 0), some (.ref 208), some (.ref 219), some (.int v4), none, none] [] := by
  unfold f_L_c19 at h
  refine v_aload_n hC dL_law__1287 rfl ?_
  refine v_aload_n hC dL_law__1288 rfl ?_
  refine v_iload hC dL_law__1289 rfl ?_
  refine v_iconst (v := (1 : Int32)) hC dL_law__1291 rfl ?_
  refine v_iadd hC dL_law__1292 ?_
  obtain ⟨g1, h⟩ := grd_some h
  refine v_ssl hC hs (inb_in g1) dL_law__1293 ?_
  refine v_aload_n hC dL_law__1294 rfl ?_
  refine v_iload hC dL_law__1295 rfl ?_
  refine v_iconst (v := (2 : Int32)) hC dL_law__1297 rfl ?_
  refine v_iadd hC dL_law__1298 ?_
  obtain ⟨g2, h⟩ := grd_some h
  refine v_ssl hC hs (inb_in g2) dL_law__1299 ?_
  refine v_aload_n hC dL_law__1300 rfl ?_
  obtain ⟨r3, M4, q5, h⟩ := bnd_some h
  refine w_callSH hC [.ref 0, .int (xs ((v4 + (1 : Int32))).toNatClampNeg), .int (xs ((v4 + (2 : Int32))).toNatClampNeg), .ref 219] [] (ok_L_takes hl q5) mh_L_takes aw_1031 rfl (Nat.le_of_ble_eq_true rfl) ⟨by decide, by decide⟩ ⟨by show _ ≤ 601024; omega, by show _ ≤ 7293034; omega⟩ dL_law__1301 ?_
  refine w_istore hC dL_law__1304 (ltk rfl) [some (.ref am_sc), some (.ref 0), some (.ref 208), some (.ref 219), some (.int v4), some (.int r3), none] rfl ?_
  refine v_aload_n hC dL_law__1306 rfl ?_
  refine v_aload_n hC dL_law__1307 rfl ?_
  refine v_iload hC dL_law__1308 rfl ?_
  refine v_iconst (v := (1 : Int32)) hC dL_law__1310 rfl ?_
  refine v_iadd hC dL_law__1311 ?_
  obtain ⟨g6, h⟩ := grd_some h
  refine v_ssl hC hs (inb_in g6) dL_law__1312 ?_
  refine v_aload_n hC dL_law__1313 rfl ?_
  refine v_iload hC dL_law__1314 rfl ?_
  refine v_iconst (v := (2 : Int32)) hC dL_law__1316 rfl ?_
  refine v_iadd hC dL_law__1317 ?_
  obtain ⟨g7, h⟩ := grd_some h
  refine v_ssl hC hs (inb_in g7) dL_law__1318 ?_
  obtain ⟨r8, M9, q10, h⟩ := bnd_some h
  refine w_callVi hC [.int (xs ((v4 + (1 : Int32))).toNatClampNeg), .int (xs ((v4 + (2 : Int32))).toNatClampNeg)] [] (ok_X11_takes q10) mv_X11_takes aw_1663 ly_208 rfl (Nat.le_of_ble_eq_true rfl) ⟨by decide, by decide⟩ ⟨by show _ ≤ 601024; omega, by show _ ≤ 7293034; omega⟩ dL_law__1319 ?_
  refine w_istore hC dL_law__1322 (ltk rfl) [some (.ref am_sc), some (.ref 0), some (.ref 208), some (.ref 219), some (.int v4), some (.int r3), some (.int r8)] rfl ?_
  refine v_aload_n hC dL_law__1324 rfl ?_
  obtain ⟨r11, M12, q13, h⟩ := bnd_some h
  refine w_callVi hC [] [] (ok_X11_thrown q13) mv_X11_thrown aw_1221 ly_208 rfl (Nat.le_of_ble_eq_true rfl) ⟨by decide, by decide⟩ ⟨by show _ ≤ 601024; omega, by show _ ≤ 7293034; omega⟩ dL_law__1325 ?_
  refine v_iload hC dL_law__1328 rfl ?_
  refine v_icmp_eq hC 1335 dL_law__1330 rfl (fun c14 => ?_) (fun c14 => ?_)
  · rw [if_pos c14] at h
    refine v_iload hC dL_law__1335 rfl ?_
    refine v_if_ne hC 1352 dL_law__1337 rfl (fun c15 => ?_) (fun c15 => ?_)
    · rw [if_neg c15] at h
      refine v_goto (tg := 2644) hC dL_law__1352 rfl ?_
      refine v_drop [true, true, true, true, true, false, false] [some (.ref am_sc), some (.ref 0), some (.ref 208), some (.ref 219), some (.int v4), none, none] rfl ?_
      cases h
      exact v_widen (k := ce + 3) (n := sl + 18) (by omega) (by omega) k
    · rw [if_pos c15] at h
      refine v_aload_n hC dL_law__1340 rfl ?_
      refine v_iconst (v := (0 : Int32)) hC dL_law__1341 rfl ?_
      obtain ⟨g16, h⟩ := grd_some h
      refine v_lald hC ly_219 (inb_in g16) dL_law__1342 ?_
      refine v_iload hC dL_law__1343 rfl ?_
      refine v_i2l hC dL_law__1345 ?_
      refine v_lcmp hC dL_law__1346 ?_
      refine v_if_eq hC 1352 dL_law__1347 rfl (fun c17 => ?_) (fun c17 => ?_)
      · rw [if_pos c17] at h
        refine v_goto (tg := 2644) hC dL_law__1352 rfl ?_
        refine v_drop [true, true, true, true, true, false, false] [some (.ref am_sc), some (.ref 0), some (.ref 208), some (.ref 219), some (.int v4), none, none] rfl ?_
        cases h
        exact v_widen (k := ce + 3) (n := sl + 18) (by omega) (by omega) k
      · rw [if_neg c17] at h
        cases h
  · rw [if_neg c14] at h
    cases h
def f_L_c20 (N Ln : Nat) (xs : Nat → Int32) (v4 : Int32) (M : Mm) : Option (Bool × Mm) :=
  grd (inb (v4 + (1 : Int32)) Ln) (bnd (f_L_keenest N (xs ((v4 + (1 : Int32))).toNatClampNeg) M) (fun r2 M3 => grd (inb (v4 + (1 : Int32)) Ln) (bnd (f_X11_keenest N (xs ((v4 + (1 : Int32))).toNatClampNeg) M3) (fun r6 M7 => bnd (f_X11_thrown N M7) (fun r9 M10 => (if r9 = r2 then (if r2 = (0 : Int32) then grd (inb (0 : Int32) 1) ((if (lg_cmp (M10 219 ((0 : Int32)).toNatClampNeg).toInt64 (r6).toInt64) = (0 : Int32) then some (true, M10) else some (false, M10))) else some (true, M10)) else some (false, M10)))))))
set_option maxRecDepth 20000 in
set_option maxHeartbeats 4000000 in
theorem okc_20 {N Ln : Nat} {xs : Nat → Int32} {X : am_X} {l : Launch} (hl : l.stackTraces = false) (hC : am_C X l room_1 cL_law_ RL (some .boolean)) (hs : am_SC X xs Ln) {v4 : Int32} {M M' : Mm} {ce sl : Nat} {Q : State → Prop} (hce : ce + 100 ≤ 601024) (hsl : sl + 1000 ≤ 7293034) (h : f_L_c20 N Ln xs v4 M = some (true, M')) (k : am_V X LY M' (ce + 3) (sl + 18) Q 2644 [some (.ref am_sc), some (.ref 0), some (.ref 208), some (.ref 219), some (.int v4), none, none] []) : am_V X LY M ce sl Q 1355 [some (.ref am_sc), some (.ref 0), some (.ref 208), some (.ref 219), some (.int v4), none, none] [] := by
  unfold f_L_c20 at h
  refine v_aload_n hC dL_law__1355 rfl ?_
  refine v_aload_n hC dL_law__1356 rfl ?_
  refine v_iload hC dL_law__1357 rfl ?_
  refine v_iconst (v := (1 : Int32)) hC dL_law__1359 rfl ?_
  refine v_iadd hC dL_law__1360 ?_
  obtain ⟨g1, h⟩ := grd_some h
  refine v_ssl hC hs (inb_in g1) dL_law__1361 ?_
  refine v_aload_n hC dL_law__1362 rfl ?_
  obtain ⟨r2, M3, q4, h⟩ := bnd_some h
  refine w_callSH hC [.ref 0, .int (xs ((v4 + (1 : Int32))).toNatClampNeg), .ref 219] [] (ok_L_keenest hl q4) mh_L_keenest aw_1042 rfl (Nat.le_of_ble_eq_true rfl) ⟨by decide, by decide⟩ ⟨by show _ ≤ 601024; omega, by show _ ≤ 7293034; omega⟩ dL_law__1363 ?_
  refine w_istore hC dL_law__1366 (ltk rfl) [some (.ref am_sc), some (.ref 0), some (.ref 208), some (.ref 219), some (.int v4), some (.int r2), none] rfl ?_
  refine v_aload_n hC dL_law__1368 rfl ?_
  refine v_aload_n hC dL_law__1369 rfl ?_
  refine v_iload hC dL_law__1370 rfl ?_
  refine v_iconst (v := (1 : Int32)) hC dL_law__1372 rfl ?_
  refine v_iadd hC dL_law__1373 ?_
  obtain ⟨g5, h⟩ := grd_some h
  refine v_ssl hC hs (inb_in g5) dL_law__1374 ?_
  obtain ⟨r6, M7, q8, h⟩ := bnd_some h
  refine w_callVi hC [.int (xs ((v4 + (1 : Int32))).toNatClampNeg)] [] (ok_X11_keenest q8) mv_X11_keenest aw_1674 ly_208 rfl (Nat.le_of_ble_eq_true rfl) ⟨by decide, by decide⟩ ⟨by show _ ≤ 601024; omega, by show _ ≤ 7293034; omega⟩ dL_law__1375 ?_
  refine w_istore hC dL_law__1378 (ltk rfl) [some (.ref am_sc), some (.ref 0), some (.ref 208), some (.ref 219), some (.int v4), some (.int r2), some (.int r6)] rfl ?_
  refine v_aload_n hC dL_law__1380 rfl ?_
  obtain ⟨r9, M10, q11, h⟩ := bnd_some h
  refine w_callVi hC [] [] (ok_X11_thrown q11) mv_X11_thrown aw_1221 ly_208 rfl (Nat.le_of_ble_eq_true rfl) ⟨by decide, by decide⟩ ⟨by show _ ≤ 601024; omega, by show _ ≤ 7293034; omega⟩ dL_law__1381 ?_
  refine v_iload hC dL_law__1384 rfl ?_
  refine v_icmp_eq hC 1391 dL_law__1386 rfl (fun c12 => ?_) (fun c12 => ?_)
  · rw [if_pos c12] at h
    refine v_iload hC dL_law__1391 rfl ?_
    refine v_if_ne hC 1408 dL_law__1393 rfl (fun c13 => ?_) (fun c13 => ?_)
    · rw [if_neg c13] at h
      refine v_goto (tg := 2644) hC dL_law__1408 rfl ?_
      refine v_drop [true, true, true, true, true, false, false] [some (.ref am_sc), some (.ref 0), some (.ref 208), some (.ref 219), some (.int v4), none, none] rfl ?_
      cases h
      exact v_widen (k := ce + 3) (n := sl + 18) (by omega) (by omega) k
    · rw [if_pos c13] at h
      refine v_aload_n hC dL_law__1396 rfl ?_
      refine v_iconst (v := (0 : Int32)) hC dL_law__1397 rfl ?_
      obtain ⟨g14, h⟩ := grd_some h
      refine v_lald hC ly_219 (inb_in g14) dL_law__1398 ?_
      refine v_iload hC dL_law__1399 rfl ?_
      refine v_i2l hC dL_law__1401 ?_
      refine v_lcmp hC dL_law__1402 ?_
      refine v_if_eq hC 1408 dL_law__1403 rfl (fun c15 => ?_) (fun c15 => ?_)
      · rw [if_pos c15] at h
        refine v_goto (tg := 2644) hC dL_law__1408 rfl ?_
        refine v_drop [true, true, true, true, true, false, false] [some (.ref am_sc), some (.ref 0), some (.ref 208), some (.ref 219), some (.int v4), none, none] rfl ?_
        cases h
        exact v_widen (k := ce + 3) (n := sl + 18) (by omega) (by omega) k
      · rw [if_neg c15] at h
        cases h
  · rw [if_neg c12] at h
    cases h
def f_L_c21 (N Ln : Nat) (xs : Nat → Int32) (v4 : Int32) (M : Mm) : Option (Bool × Mm) :=
  grd (inb (v4 + (1 : Int32)) Ln) (grd (inb (v4 + (2 : Int32)) Ln) (bnd (f_L_goes N (xs ((v4 + (1 : Int32))).toNatClampNeg) (xs ((v4 + (2 : Int32))).toNatClampNeg) M) (fun r3 M4 => grd (inb (v4 + (1 : Int32)) Ln) (grd (inb (v4 + (2 : Int32)) Ln) (bnd (f_X11_goes N (xs ((v4 + (1 : Int32))).toNatClampNeg) (xs ((v4 + (2 : Int32))).toNatClampNeg) M4) (fun r8 M9 => bnd (f_X11_thrown N M9) (fun r11 M12 => (if r11 = r3 then (if r3 = (0 : Int32) then grd (inb (0 : Int32) 1) ((if (lg_cmp (M12 219 ((0 : Int32)).toNatClampNeg).toInt64 (r8).toInt64) = (0 : Int32) then some (true, M12) else some (false, M12))) else some (true, M12)) else some (false, M12)))))))))
set_option maxRecDepth 20000 in
set_option maxHeartbeats 4000000 in
theorem okc_21 {N Ln : Nat} {xs : Nat → Int32} {X : am_X} {l : Launch} (hl : l.stackTraces = false) (hC : am_C X l room_1 cL_law_ RL (some .boolean)) (hs : am_SC X xs Ln) {v4 : Int32} {M M' : Mm} {ce sl : Nat} {Q : State → Prop} (hce : ce + 100 ≤ 601024) (hsl : sl + 1000 ≤ 7293034) (h : f_L_c21 N Ln xs v4 M = some (true, M')) (k : am_V X LY M' (ce + 3) (sl + 18) Q 2644 [some (.ref am_sc), some (.ref 0), some (.ref 208), some (.ref 219), some (.int v4), none, none] []) : am_V X LY M ce sl Q 1411 [some (.ref am_sc), some (.ref 0), some (.ref 208), some (.ref 219), some (.int v4), none, none] [] := by
  unfold f_L_c21 at h
  refine v_aload_n hC dL_law__1411 rfl ?_
  refine v_aload_n hC dL_law__1412 rfl ?_
  refine v_iload hC dL_law__1413 rfl ?_
  refine v_iconst (v := (1 : Int32)) hC dL_law__1415 rfl ?_
  refine v_iadd hC dL_law__1416 ?_
  obtain ⟨g1, h⟩ := grd_some h
  refine v_ssl hC hs (inb_in g1) dL_law__1417 ?_
  refine v_aload_n hC dL_law__1418 rfl ?_
  refine v_iload hC dL_law__1419 rfl ?_
  refine v_iconst (v := (2 : Int32)) hC dL_law__1421 rfl ?_
  refine v_iadd hC dL_law__1422 ?_
  obtain ⟨g2, h⟩ := grd_some h
  refine v_ssl hC hs (inb_in g2) dL_law__1423 ?_
  refine v_aload_n hC dL_law__1424 rfl ?_
  obtain ⟨r3, M4, q5, h⟩ := bnd_some h
  refine w_callSH hC [.ref 0, .int (xs ((v4 + (1 : Int32))).toNatClampNeg), .int (xs ((v4 + (2 : Int32))).toNatClampNeg), .ref 219] [] (ok_L_goes hl q5) mh_L_goes aw_1049 rfl (Nat.le_of_ble_eq_true rfl) ⟨by decide, by decide⟩ ⟨by show _ ≤ 601024; omega, by show _ ≤ 7293034; omega⟩ dL_law__1425 ?_
  refine w_istore hC dL_law__1428 (ltk rfl) [some (.ref am_sc), some (.ref 0), some (.ref 208), some (.ref 219), some (.int v4), some (.int r3), none] rfl ?_
  refine v_aload_n hC dL_law__1430 rfl ?_
  refine v_aload_n hC dL_law__1431 rfl ?_
  refine v_iload hC dL_law__1432 rfl ?_
  refine v_iconst (v := (1 : Int32)) hC dL_law__1434 rfl ?_
  refine v_iadd hC dL_law__1435 ?_
  obtain ⟨g6, h⟩ := grd_some h
  refine v_ssl hC hs (inb_in g6) dL_law__1436 ?_
  refine v_aload_n hC dL_law__1437 rfl ?_
  refine v_iload hC dL_law__1438 rfl ?_
  refine v_iconst (v := (2 : Int32)) hC dL_law__1440 rfl ?_
  refine v_iadd hC dL_law__1441 ?_
  obtain ⟨g7, h⟩ := grd_some h
  refine v_ssl hC hs (inb_in g7) dL_law__1442 ?_
  obtain ⟨r8, M9, q10, h⟩ := bnd_some h
  refine w_callVi hC [.int (xs ((v4 + (1 : Int32))).toNatClampNeg), .int (xs ((v4 + (2 : Int32))).toNatClampNeg)] [] (ok_X11_goes q10) mv_X11_goes aw_1678 ly_208 rfl (Nat.le_of_ble_eq_true rfl) ⟨by decide, by decide⟩ ⟨by show _ ≤ 601024; omega, by show _ ≤ 7293034; omega⟩ dL_law__1443 ?_
  refine w_istore hC dL_law__1446 (ltk rfl) [some (.ref am_sc), some (.ref 0), some (.ref 208), some (.ref 219), some (.int v4), some (.int r3), some (.int r8)] rfl ?_
  refine v_aload_n hC dL_law__1448 rfl ?_
  obtain ⟨r11, M12, q13, h⟩ := bnd_some h
  refine w_callVi hC [] [] (ok_X11_thrown q13) mv_X11_thrown aw_1221 ly_208 rfl (Nat.le_of_ble_eq_true rfl) ⟨by decide, by decide⟩ ⟨by show _ ≤ 601024; omega, by show _ ≤ 7293034; omega⟩ dL_law__1449 ?_
  refine v_iload hC dL_law__1452 rfl ?_
  refine v_icmp_eq hC 1459 dL_law__1454 rfl (fun c14 => ?_) (fun c14 => ?_)
  · rw [if_pos c14] at h
    refine v_iload hC dL_law__1459 rfl ?_
    refine v_if_ne hC 1476 dL_law__1461 rfl (fun c15 => ?_) (fun c15 => ?_)
    · rw [if_neg c15] at h
      refine v_goto (tg := 2644) hC dL_law__1476 rfl ?_
      refine v_drop [true, true, true, true, true, false, false] [some (.ref am_sc), some (.ref 0), some (.ref 208), some (.ref 219), some (.int v4), none, none] rfl ?_
      cases h
      exact v_widen (k := ce + 3) (n := sl + 18) (by omega) (by omega) k
    · rw [if_pos c15] at h
      refine v_aload_n hC dL_law__1464 rfl ?_
      refine v_iconst (v := (0 : Int32)) hC dL_law__1465 rfl ?_
      obtain ⟨g16, h⟩ := grd_some h
      refine v_lald hC ly_219 (inb_in g16) dL_law__1466 ?_
      refine v_iload hC dL_law__1467 rfl ?_
      refine v_i2l hC dL_law__1469 ?_
      refine v_lcmp hC dL_law__1470 ?_
      refine v_if_eq hC 1476 dL_law__1471 rfl (fun c17 => ?_) (fun c17 => ?_)
      · rw [if_pos c17] at h
        refine v_goto (tg := 2644) hC dL_law__1476 rfl ?_
        refine v_drop [true, true, true, true, true, false, false] [some (.ref am_sc), some (.ref 0), some (.ref 208), some (.ref 219), some (.int v4), none, none] rfl ?_
        cases h
        exact v_widen (k := ce + 3) (n := sl + 18) (by omega) (by omega) k
      · rw [if_neg c17] at h
        cases h
  · rw [if_neg c14] at h
    cases h
def f_L_c22 (N Ln : Nat) (xs : Nat → Int32) (v4 : Int32) (M : Mm) : Option (Bool × Mm) :=
  grd (inb (v4 + (1 : Int32)) Ln) (grd (inb (v4 + (2 : Int32)) Ln) (bnd (f_L_ahead N (xs ((v4 + (1 : Int32))).toNatClampNeg) (xs ((v4 + (2 : Int32))).toNatClampNeg) M) (fun r3 M4 => grd (inb (v4 + (1 : Int32)) Ln) (grd (inb (v4 + (2 : Int32)) Ln) (bnd (f_X11_ahead N (xs ((v4 + (1 : Int32))).toNatClampNeg) (xs ((v4 + (2 : Int32))).toNatClampNeg) M4) (fun r8 M9 => bnd (f_X11_thrown N M9) (fun r11 M12 => (if r11 = r3 then (if r3 = (0 : Int32) then grd (inb (0 : Int32) 1) ((if (lg_cmp (M12 219 ((0 : Int32)).toNatClampNeg).toInt64 (r8).toInt64) = (0 : Int32) then some (true, M12) else some (false, M12))) else some (true, M12)) else some (false, M12)))))))))
set_option maxRecDepth 20000 in
set_option maxHeartbeats 4000000 in
theorem okc_22 {N Ln : Nat} {xs : Nat → Int32} {X : am_X} {l : Launch} (hl : l.stackTraces = false) (hC : am_C X l room_1 cL_law_ RL (some .boolean)) (hs : am_SC X xs Ln) {v4 : Int32} {M M' : Mm} {ce sl : Nat} {Q : State → Prop} (hce : ce + 100 ≤ 601024) (hsl : sl + 1000 ≤ 7293034) (h : f_L_c22 N Ln xs v4 M = some (true, M')) (k : am_V X LY M' (ce + 3) (sl + 18) Q 2644 [some (.ref am_sc), some (.ref 0), some (.ref 208), some (.ref 219), some (.int v4), none, none] []) : am_V X LY M ce sl Q 1479 [some (.ref am_sc), some (.ref 0), some (.ref 208), some (.ref 219), some (.int v4), none, none] [] := by
  unfold f_L_c22 at h
  refine v_aload_n hC dL_law__1479 rfl ?_
  refine v_aload_n hC dL_law__1480 rfl ?_
  refine v_iload hC dL_law__1481 rfl ?_
  refine v_iconst (v := (1 : Int32)) hC dL_law__1483 rfl ?_
  refine v_iadd hC dL_law__1484 ?_
  obtain ⟨g1, h⟩ := grd_some h
  refine v_ssl hC hs (inb_in g1) dL_law__1485 ?_
  refine v_aload_n hC dL_law__1486 rfl ?_
  refine v_iload hC dL_law__1487 rfl ?_
  refine v_iconst (v := (2 : Int32)) hC dL_law__1489 rfl ?_
  refine v_iadd hC dL_law__1490 ?_
  obtain ⟨g2, h⟩ := grd_some h
  refine v_ssl hC hs (inb_in g2) dL_law__1491 ?_
  refine v_aload_n hC dL_law__1492 rfl ?_
  obtain ⟨r3, M4, q5, h⟩ := bnd_some h
  refine w_callSH hC [.ref 0, .int (xs ((v4 + (1 : Int32))).toNatClampNeg), .int (xs ((v4 + (2 : Int32))).toNatClampNeg), .ref 219] [] (ok_L_ahead hl q5) mh_L_ahead aw_1056 rfl (Nat.le_of_ble_eq_true rfl) ⟨by decide, by decide⟩ ⟨by show _ ≤ 601024; omega, by show _ ≤ 7293034; omega⟩ dL_law__1493 ?_
  refine w_istore hC dL_law__1496 (ltk rfl) [some (.ref am_sc), some (.ref 0), some (.ref 208), some (.ref 219), some (.int v4), some (.int r3), none] rfl ?_
  refine v_aload_n hC dL_law__1498 rfl ?_
  refine v_aload_n hC dL_law__1499 rfl ?_
  refine v_iload hC dL_law__1500 rfl ?_
  refine v_iconst (v := (1 : Int32)) hC dL_law__1502 rfl ?_
  refine v_iadd hC dL_law__1503 ?_
  obtain ⟨g6, h⟩ := grd_some h
  refine v_ssl hC hs (inb_in g6) dL_law__1504 ?_
  refine v_aload_n hC dL_law__1505 rfl ?_
  refine v_iload hC dL_law__1506 rfl ?_
  refine v_iconst (v := (2 : Int32)) hC dL_law__1508 rfl ?_
  refine v_iadd hC dL_law__1509 ?_
  obtain ⟨g7, h⟩ := grd_some h
  refine v_ssl hC hs (inb_in g7) dL_law__1510 ?_
  obtain ⟨r8, M9, q10, h⟩ := bnd_some h
  refine w_callVi hC [.int (xs ((v4 + (1 : Int32))).toNatClampNeg), .int (xs ((v4 + (2 : Int32))).toNatClampNeg)] [] (ok_X11_ahead q10) mv_X11_ahead aw_1682 ly_208 rfl (Nat.le_of_ble_eq_true rfl) ⟨by decide, by decide⟩ ⟨by show _ ≤ 601024; omega, by show _ ≤ 7293034; omega⟩ dL_law__1511 ?_
  refine w_istore hC dL_law__1514 (ltk rfl) [some (.ref am_sc), some (.ref 0), some (.ref 208), some (.ref 219), some (.int v4), some (.int r3), some (.int r8)] rfl ?_
  refine v_aload_n hC dL_law__1516 rfl ?_
  obtain ⟨r11, M12, q13, h⟩ := bnd_some h
  refine w_callVi hC [] [] (ok_X11_thrown q13) mv_X11_thrown aw_1221 ly_208 rfl (Nat.le_of_ble_eq_true rfl) ⟨by decide, by decide⟩ ⟨by show _ ≤ 601024; omega, by show _ ≤ 7293034; omega⟩ dL_law__1517 ?_
  refine v_iload hC dL_law__1520 rfl ?_
  refine v_icmp_eq hC 1527 dL_law__1522 rfl (fun c14 => ?_) (fun c14 => ?_)
  · rw [if_pos c14] at h
    refine v_iload hC dL_law__1527 rfl ?_
    refine v_if_ne hC 1544 dL_law__1529 rfl (fun c15 => ?_) (fun c15 => ?_)
    · rw [if_neg c15] at h
      refine v_goto (tg := 2644) hC dL_law__1544 rfl ?_
      refine v_drop [true, true, true, true, true, false, false] [some (.ref am_sc), some (.ref 0), some (.ref 208), some (.ref 219), some (.int v4), none, none] rfl ?_
      cases h
      exact v_widen (k := ce + 3) (n := sl + 18) (by omega) (by omega) k
    · rw [if_pos c15] at h
      refine v_aload_n hC dL_law__1532 rfl ?_
      refine v_iconst (v := (0 : Int32)) hC dL_law__1533 rfl ?_
      obtain ⟨g16, h⟩ := grd_some h
      refine v_lald hC ly_219 (inb_in g16) dL_law__1534 ?_
      refine v_iload hC dL_law__1535 rfl ?_
      refine v_i2l hC dL_law__1537 ?_
      refine v_lcmp hC dL_law__1538 ?_
      refine v_if_eq hC 1544 dL_law__1539 rfl (fun c17 => ?_) (fun c17 => ?_)
      · rw [if_pos c17] at h
        refine v_goto (tg := 2644) hC dL_law__1544 rfl ?_
        refine v_drop [true, true, true, true, true, false, false] [some (.ref am_sc), some (.ref 0), some (.ref 208), some (.ref 219), some (.int v4), none, none] rfl ?_
        cases h
        exact v_widen (k := ce + 3) (n := sl + 18) (by omega) (by omega) k
      · rw [if_neg c17] at h
        cases h
  · rw [if_neg c14] at h
    cases h
def f_L_c23 (N Ln : Nat) (xs : Nat → Int32) (v4 : Int32) (M : Mm) : Option (Bool × Mm) :=
  bnd (f_X10_swap N M) (fun r1 M2 => bnd (f_X11_swap N M2) (fun r4 M5 => (if r1 = r4 then some (true, M5) else some (false, M5))))
set_option maxRecDepth 20000 in
set_option maxHeartbeats 4000000 in
theorem okc_23 {N Ln : Nat} {xs : Nat → Int32} {X : am_X} {l : Launch} (hl : l.stackTraces = false) (hC : am_C X l room_1 cL_law_ RL (some .boolean)) (hs : am_SC X xs Ln) {v4 : Int32} {M M' : Mm} {ce sl : Nat} {Q : State → Prop} (hce : ce + 100 ≤ 601024) (hsl : sl + 1000 ≤ 7293034) (h : f_L_c23 N Ln xs v4 M = some (true, M')) (k : am_V X LY M' (ce + 3) (sl + 18) Q 2644 [some (.ref am_sc), some (.ref 0), some (.ref 208), some (.ref 219), some (.int v4), none, none] []) : am_V X LY M ce sl Q 1547 [some (.ref am_sc), some (.ref 0), some (.ref 208), some (.ref 219), some (.int v4), none, none] [] := by
  unfold f_L_c23 at h
  refine v_aload_n hC dL_law__1547 rfl ?_
  obtain ⟨r1, M2, q3, h⟩ := bnd_some h
  refine w_callVi hC [] [] (ok_X10_swap q3) mv_X10_swap aw_480 ly_0 rfl (Nat.le_of_ble_eq_true rfl) ⟨by decide, by decide⟩ ⟨by show _ ≤ 601024; omega, by show _ ≤ 7293034; omega⟩ dL_law__1548 ?_
  refine v_aload_n hC dL_law__1551 rfl ?_
  obtain ⟨r4, M5, q6, h⟩ := bnd_some h
  refine w_callVi hC [] [.int r1] (ok_X11_swap q6) mv_X11_swap aw_1694 ly_208 rfl (Nat.le_of_ble_eq_true rfl) ⟨by decide, by decide⟩ ⟨by show _ ≤ 601024; omega, by show _ ≤ 7293034; omega⟩ dL_law__1552 ?_
  refine v_icmp_eq hC 2644 dL_law__1555 rfl (fun c7 => ?_) (fun c7 => ?_)
  · rw [if_pos c7] at h
    cases h
    exact v_widen (k := ce + 3) (n := sl + 18) (by omega) (by omega) k
  · rw [if_neg c7] at h
    cases h
