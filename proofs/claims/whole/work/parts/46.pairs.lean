/-! Pairs of reading calls: diner, has, cellar, seat, goes, held, worst, share, gaps. -/
theorem Ix {M : Mm} (h : InvM M) : ∃ nd nc T L K ms im tp ft, InvS (nd, nc, T, L) K ms im tp ft M ∧ RW nd nc T L (M 209) ∧ slc 7 M = T ∧ cQ M M ∧ M 7 0 = Int32.ofNat nd ∧ M 7 1 = Int32.ofNat nc ∧ nd ≤ 8 ∧ nc ≤ 5 := by
  obtain ⟨⟨nd, nc, T, L⟩, K, ms, im, tp, ft, h⟩ := h
  have hR : RW nd nc T L (M 209) := h.2.1.1
  have hs : slc 7 M = T := h.1.1
  exact ⟨nd, nc, T, L, K, ms, im, tp, ft, h, hR, hs, cQ.rf h.1.2.2.2.2.2.2.2, (slE hs (i := 0) (by decide)).trans hR.1.2.2.1, (slE hs (i := 0) (by decide)).trans hR.1.2.2.2.1, hR.1.1, hR.1.2.1⟩
section PR
variable {A : TbS} {K : LwS} {ms : List TbS} {im : Option (TbS × LwS)} {tp : List Nat} {ft : Int32} {M : Mm} {nd nc : Nat} {T : Tb} {L : List Row}
theorem mW (hm : mI (nd, nc, T, L) K ms im tp ft M) {c : Int32} : RW nd nc T L ((wr M 208 0 c) 209) := by rw [wr_nrow (by decide)]; exact hm.1
theorem P_has (h : InvM M) (v1 v2 : Int32) : Kd (fun M => f_L_has 20000 v1 v2 M) (fun M => f_X11_has 20000 v1 v2 M) M := by
  obtain ⟨nd, nc, T, L, K, ms, im, tp, ft, h, hR, hs, hz, h70, h71, hnd, hnc⟩ := Ix h
  rcases i32_rng v1 (n := nd) (by omega) with ⟨d, hd, rfl⟩ | hb
  · rcases i32_rng v2 (n := 6) (by omega) with ⟨t, ht, rfl⟩ | hb2
    · refine Kr (F := fun M => f_X10_has 20000 (Int32.ofNat d) (Int32.ofNat t) M) (r := T 3 (6 * d + t)) (M1 := M) (fun M => rfl) h ?_ hz (fun M' hm => ⟨wr M' 208 0 0, ?_, mQ.t208, wr_eq⟩)
      · simp only [f_X10_has, c_nD h70 hd hnd, bnx, c_nT ht, c_hasOf, bnd, hs, sHasOf_eq (show d < 8 by omega) ht]
      · simp only [f_X11_has, lt, m_noD (mW hm).1.2.2.2.2.1 hd hnd, bnd, if_true, m_noT ht, f_X11_has_26, m_th0, m_ofH (mW hm) hd ht]
    · refine Kx (F := fun M => f_X10_has 20000 (Int32.ofNat d) v2 M) (e := "java/lang/IndexOutOfBoundsException") (code := 1) (M1 := M) (fun M => rfl) h ?_ hz (fun M => by simp) (by decide) (fun M' hm => ⟨wr (wr M' 208 0 0) 208 0 1, ?_, mQ.t208.trans mQ.t208, wr_eq⟩)
      · simp only [f_X10_has, c_nD h70 hd hnd, bnx, c_nTx hb2]
      · simp only [f_X11_has, lt, m_noD (mW hm).1.2.2.2.2.1 hd hnd, bnd, if_true, m_noTx hb2, f_X11_has_26, f_X11_has_21, m_th1, show ¬ (1 : Int32) = 0 from by decide, if_false]
  · refine Kx (F := fun M => f_X10_has 20000 v1 v2 M) (e := "java/lang/IndexOutOfBoundsException") (code := 1) (M1 := M) (fun M => rfl) h ?_ hz (fun M => by simp) (by decide) (fun M' hm => ⟨wr (wr M' 208 0 0) 208 0 1, ?_, mQ.t208.trans mQ.t208, wr_eq⟩)
    · simp only [f_X10_has, c_nDx h70 hb, bnx]
    · simp only [f_X11_has, lt, m_noDx (mW hm).1.2.2.2.2.1 hb hnd, bnd, f_X11_has_26, f_X11_has_21, m_th1, show ¬ (1 : Int32) = 0 from by decide, if_false]
theorem P_seat (h : InvM M) (v1 : Int32) : Kd (fun M => f_L_seat 20000 v1 M) (fun M => f_X11_seat 20000 v1 M) M := by
  obtain ⟨nd, nc, T, L, K, ms, im, tp, ft, h, hR, hs, hz, h70, h71, hnd, hnc⟩ := Ix h
  rcases i32_rng v1 (n := 10) (by omega) with ⟨s, hs10, rfl⟩ | hb
  · refine Kr (F := fun M => f_X10_seat 20000 (Int32.ofNat s) M) (r := T 1 s) (M1 := M) (fun M => rfl) h ?_ hz (fun M' hm => ⟨wr M' 208 0 0, ?_, mQ.t208, wr_eq⟩)
    · simp only [f_X10_seat, c_nS hs10, bnx, c_dinerAt, bnd, hs, sDinerAt_eq hs10]
    · simp only [f_X11_seat, lt, m_noS hs10, bnd, if_true, m_th0, m_dinerIn (mW hm).1 (mW hm).2.2.1 hs10]
  · refine Kx (F := fun M => f_X10_seat 20000 v1 M) (e := "java/lang/IndexOutOfBoundsException") (code := 1) (M1 := M) (fun M => rfl) h ?_ hz (fun M => by simp) (by decide) (fun M' hm => ⟨wr (wr M' 208 0 0) 208 0 1, ?_, mQ.t208.trans mQ.t208, wr_eq⟩)
    · simp only [f_X10_seat, c_nSx hb, bnx]
    · simp only [f_X11_seat, lt, m_noSx hb, bnd, m_th1, show ¬ (1 : Int32) = 0 from by decide, if_false]
theorem P_worst (h : InvM M) (v1 : Int32) : Kd (fun M => f_L_worst 20000 v1 M) (fun M => f_X11_worst 20000 v1 M) M := by
  obtain ⟨nd, nc, T, L, K, ms, im, tp, ft, h, hR, hs, hz, h70, h71, hnd, hnc⟩ := Ix h
  rcases i32_rng v1 (n := 6) (by omega) with ⟨t, ht, rfl⟩ | hb
  · refine Kr (F := fun M => f_X10_worst 20000 (Int32.ofNat t) M) (r := sWorst nd T t) (M1 := M) (fun M => rfl) h ?_ hz (fun M' hm => ⟨wr M' 208 0 0, ?_, mQ.t208, wr_eq⟩)
    · simp only [f_X10_worst, c_nT ht, bnx]
      rw [c_worst_12 (by decide) hnd h70 ht, hs]
    · simp only [f_X11_worst, lt, m_noT ht, bnd, if_true, m_th0]
      exact m_worst_26 (by decide) (mW hm) ht
  · refine Kx (F := fun M => f_X10_worst 20000 v1 M) (e := "java/lang/IndexOutOfBoundsException") (code := 1) (M1 := M) (fun M => rfl) h ?_ hz (fun M => by simp) (by decide) (fun M' hm => ⟨wr (wr M' 208 0 0) 208 0 1, ?_, mQ.t208.trans mQ.t208, wr_eq⟩)
    · simp only [f_X10_worst, c_nTx hb, bnx]
    · simp only [f_X11_worst, lt, m_noTx hb, bnd, m_th1, show ¬ (1 : Int32) = 0 from by decide, if_false]
theorem nF_b {st : Int32 → Nat → Int32} {q : Nat} (hst : ∀ v i k, v = Int32.ofNat k → ∃ k', k' ≤ k + q ∧ st v i = Int32.ofNat k') : ∀ (n i : Nat) (v : Int32) (k : Nat), v = Int32.ofNat k → ∃ k', k' ≤ k + q * n ∧ nF st n i v = Int32.ofNat k' := by
  intro n
  induction n with
  | zero => intro i v k h; exact ⟨k, by omega, h⟩
  | succ n ih =>
    intro i v k h
    obtain ⟨k1, h1, e1⟩ := hst v i k h
    obtain ⟨k2, h2, e2⟩ := ih (i + 1) _ k1 e1
    exact ⟨k2, by rw [Nat.mul_succ]; omega, e2⟩
theorem sHave_b (hB : rB nd nc T) (hnd : nd ≤ 8) {t : Nat} (ht : t < 6) : ∃ k, k ≤ 7992 ∧ sHave nd T t = Int32.ofNat k := by
  unfold sHave
  have h1 : nF (fun v d => v + T 3 (6 * d + t)) nd 0 0 = nF (fun v d => v + (if d < nd then T 3 (6 * d + t) else 0)) nd 0 0 := nF_cg (m := nd) (fun v i hi => by rw [if_pos hi]) nd 0 0 (by omega)
  rw [h1]
  obtain ⟨k, hk, e⟩ := nF_b (st := fun v d => v + (if d < nd then T 3 (6 * d + t) else 0)) (q := 999) (fun v i k hv => by
    by_cases hi : i < nd
    · obtain ⟨q, hq, e⟩ := (hB.2.2.2.1 i hi).2 t ht
      exact ⟨k + q, by omega, by rw [hv, if_pos hi, e, i32_addN]⟩
    · exact ⟨k, by omega, by rw [hv, if_neg hi, Int32.add_zero]⟩) nd 0 0 0 rfl
  exact ⟨k, by omega, e⟩
theorem P_share (h : InvM M) (v1 v2 : Int32) : Kd (fun M => f_L_share 20000 v1 v2 M) (fun M => f_X11_share 20000 v1 v2 M) M := by
  obtain ⟨nd, nc, T, L, K, ms, im, tp, ft, h, hR, hs, hz, h70, h71, hnd, hnc⟩ := Ix h
  rcases i32_rng v1 (n := nd) (by omega) with ⟨d, hd, rfl⟩ | hb
  · rcases i32_rng v2 (n := 6) (by omega) with ⟨t, ht, rfl⟩ | hb2
    · refine Kr (F := fun M => f_X10_share 20000 (Int32.ofNat d) (Int32.ofNat t) M) (r := if (0 : Int32) < sHave nd T t then 100 * T 3 (6 * d + t) / sHave nd T t else 0) (M1 := M) (fun M => rfl) h ?_ hz (fun M' hm => ⟨wr M' 208 0 0, ?_, mQ.t208, wr_eq⟩)
      · simp only [f_X10_share, c_nD h70 hd hnd, bnx, c_nT ht]
        rw [c_share_15 (by decide) hnd h70 hd ht, hs]
      · simp only [f_X11_share, lt, m_noD (mW hm).1.2.2.2.2.1 hd hnd, bnd, if_true, m_noT ht, f_X11_share_26, m_th0, m_ofH (mW hm) hd ht, m_haveOf (N := 20000) (by decide) (mW hm) ht]
        obtain ⟨k, hk, e⟩ := sHave_b hR.2.2.2.2.2.2.1 hnd ht
        rw [e]
        by_cases q : k = 0
        · subst q; rfl
        · have h0 : (0 : Int32) < Int32.ofNat k := i32_ltn (k := 0) (by omega) (by omega)
          have h1 : ¬ Int32.ofNat k = 0 := fun h9 => by have := (i32_eqN (b := 0) (by omega) (by omega)).mp h9; omega
          rw [if_neg h1, if_pos h0]
          have hnz : nz (Int32.ofNat k) = true := by
            unfold nz; rw [decide_eq_false h1]; rfl
          simp only [grd, hnz, if_true]
    · refine Kx (F := fun M => f_X10_share 20000 (Int32.ofNat d) v2 M) (e := "java/lang/IndexOutOfBoundsException") (code := 1) (M1 := M) (fun M => rfl) h ?_ hz (fun M => by simp) (by decide) (fun M' hm => ⟨wr (wr M' 208 0 0) 208 0 1, ?_, mQ.t208.trans mQ.t208, wr_eq⟩)
      · simp only [f_X10_share, c_nD h70 hd hnd, bnx, c_nTx hb2]
      · simp only [f_X11_share, lt, m_noD (mW hm).1.2.2.2.2.1 hd hnd, bnd, if_true, m_noTx hb2, f_X11_share_26, f_X11_share_21, m_th1, show ¬ (1 : Int32) = 0 from by decide, if_false]
  · refine Kx (F := fun M => f_X10_share 20000 v1 v2 M) (e := "java/lang/IndexOutOfBoundsException") (code := 1) (M1 := M) (fun M => rfl) h ?_ hz (fun M => by simp) (by decide) (fun M' hm => ⟨wr (wr M' 208 0 0) 208 0 1, ?_, mQ.t208.trans mQ.t208, wr_eq⟩)
    · simp only [f_X10_share, c_nDx h70 hb, bnx]
    · simp only [f_X11_share, lt, m_noDx (mW hm).1.2.2.2.2.1 hb hnd, bnd, f_X11_share_26, f_X11_share_21, m_th1, show ¬ (1 : Int32) = 0 from by decide, if_false]
theorem P_diner (h : InvM M) (v1 v2 : Int32) : Kd (fun M => f_L_diner 20000 v1 v2 M) (fun M => f_X11_diner 20000 v1 v2 M) M := by
  obtain ⟨nd, nc, T, L, K, ms, im, tp, ft, h, hR, hs, hz, h70, h71, hnd, hnc⟩ := Ix h
  rcases i32_rng v1 (n := nd) (by omega) with ⟨d, hd, rfl⟩ | hb
  · rcases i32_rng v2 (n := 5) (by omega) with ⟨t, ht, rfl⟩ | hb2
    · have hsub : ∀ r, f_X10_diner 20000 (Int32.ofNat d) (Int32.ofNat t) M = some (.inl r, M) → (∀ M', mI (nd, nc, T, L) K ms im tp ft M' → M' 209 = M 209 → f_X11_diner 20000 (Int32.ofNat d) (Int32.ofNat t) M' = some (r, wr M' 208 0 0)) → Kd (fun M => f_L_diner 20000 (Int32.ofNat d) (Int32.ofNat t) M) (fun M => f_X11_diner 20000 (Int32.ofNat d) (Int32.ofNat t) M) M := fun r a1 a2 => by
        refine Kq (F := fun M => f_X10_diner 20000 (Int32.ofNat d) (Int32.ofNat t) M) (r := r) (M1 := M) (fun M => rfl) h a1 hz (a2 _ (h.2.1.c (fun x hx h9 => by rw [wr_nrow (by omega)])) (wr_nrow (by decide))) mQ.t208 wr_eq
      have hin : f_X11_in 20000 (Int32.ofNat t) 0 4 = fun M => some (1, M) := by funext M9; exact m_in (lo := 0) (m := 4) (by omega) (by omega) (by omega)
      have hwh : f_X10_needsWhat 20000 (Int32.ofNat t) 4 M = some (.inl 0, M) := c_nW (m := 4) (by omega) (by omega)
      match t, ht with
      | 0, _ =>
        refine hsub (M 209 (12 + 9 * d)) ?_ (fun M' hm h209 => ?_)
        · have hw : rSeat nd (slc 7 M) (M 209) := by rw [hs]; exact hR.2.2.1
          simp only [f_X10_diner, c_nD h70 hd hnd, bnx, hwh, bnd, if_pos (show (Int32.ofNat 0 : Int32) = 0 from rfl), if_true, c_seatOf hnd hw hd]
        · simp only [f_X11_diner, f_X11_diner_33, lt, m_noD (mW hm).1.2.2.2.2.1 hd hnd, bnd, if_true, m_th0, hin, show ¬ (1 : Int32) = 0 from by decide, if_false, show ¬ (Int32.ofNat 0 : Int32) = 3 from by decide, show ¬ (Int32.ofNat 0 : Int32) = 4 from by decide, m_of (show d < 8 by omega) (show 0 < 9 by decide), Nat.add_zero]
          rw [wr_nrow (by decide), h209]
      | 1, _ =>
        refine hsub (T 2 d) ?_ (fun M' hm h209 => ?_)
        · simp only [f_X10_diner, c_nD h70 hd hnd, bnx, hwh, show ¬ (Int32.ofNat 1 : Int32) = 0 from by decide, if_pos (show (Int32.ofNat 1 : Int32) = 1 from rfl), if_true, if_false, grd, inb_ofNat (show d < 8 by omega) (by omega), i32_clampN (show d < 2147483648 by omega)]
          rw [show M 9 d = T 2 d from slE hs (i := 2) (by decide)]
        · simp only [f_X11_diner, f_X11_diner_33, lt, m_noD (mW hm).1.2.2.2.2.1 hd hnd, bnd, if_true, m_th0, hin, show ¬ (1 : Int32) = 0 from by decide, if_false, show ¬ (Int32.ofNat 1 : Int32) = 3 from by decide, show ¬ (Int32.ofNat 1 : Int32) = 4 from by decide, m_of (show d < 8 by omega) (show 1 < 9 by decide), ((mW hm).2.2.2.1 d hd).1]
      | 2, _ =>
        refine hsub (sDiet T (Int32.ofNat d)) ?_ (fun M' hm h209 => ?_)
        · simp only [f_X10_diner, c_nD h70 hd hnd, bnx, hwh, show ¬ (Int32.ofNat 2 : Int32) = 0 from by decide, show ¬ (Int32.ofNat 2 : Int32) = 1 from by decide, if_pos (show (Int32.ofNat 2 : Int32) = 2 from rfl), if_true, if_false, c_isOnDiet, bnd, hs]
          rcases sDiet_01 (T := T) (d := Int32.ofNat d) with e | e <;> rw [e] <;> rfl
        · simp only [f_X11_diner, f_X11_diner_33, lt, m_noD (mW hm).1.2.2.2.2.1 hd hnd, bnd, if_true, m_th0, hin, show ¬ (1 : Int32) = 0 from by decide, if_false, show ¬ (Int32.ofNat 2 : Int32) = 3 from by decide, show ¬ (Int32.ofNat 2 : Int32) = 4 from by decide, m_of (show d < 8 by omega) (show 2 < 9 by decide), ((mW hm).2.2.2.1 d hd).2.1]
      | 3, _ =>
        refine hsub (sMix T d) ?_ (fun M' hm h209 => ?_)
        · simp only [f_X10_diner, c_nD h70 hd hnd, bnx, hwh, show ¬ (Int32.ofNat 3 : Int32) = 0 from by decide, show ¬ (Int32.ofNat 3 : Int32) = 1 from by decide, show ¬ (Int32.ofNat 3 : Int32) = 2 from by decide, if_pos (show (Int32.ofNat 3 : Int32) = 3 from rfl), if_true, if_false, c_mixed (N := 20000) (M := M) (a := 7) (by decide) (show d < 8 by omega), bnd, hs]
        · simp only [f_X11_diner, f_X11_diner_33, lt, m_noD (mW hm).1.2.2.2.2.1 hd hnd, bnd, if_true, m_th0, hin, show ¬ (1 : Int32) = 0 from by decide, if_false, if_pos (show (Int32.ofNat 3 : Int32) = 3 from rfl), m_mixedOf (N := 20000) (by decide) (mW hm) hd]
      | 4, _ =>
        refine hsub (sSumH T d) ?_ (fun M' hm h209 => ?_)
        · simp only [f_X10_diner, c_nD h70 hd hnd, bnx, hwh, show ¬ (Int32.ofNat 4 : Int32) = 0 from by decide, show ¬ (Int32.ofNat 4 : Int32) = 1 from by decide, show ¬ (Int32.ofNat 4 : Int32) = 2 from by decide, show ¬ (Int32.ofNat 4 : Int32) = 3 from by decide, if_false, c_hasInAll (N := 20000) (M := M) (a := 7) (by decide) (show d < 8 by omega), bnd, hs]
        · simp only [f_X11_diner, f_X11_diner_33, lt, m_noD (mW hm).1.2.2.2.2.1 hd hnd, bnd, if_true, m_th0, hin, show ¬ (1 : Int32) = 0 from by decide, if_false, show ¬ (Int32.ofNat 4 : Int32) = 3 from by decide, if_pos (show (Int32.ofNat 4 : Int32) = 4 from rfl), m_allOf (N := 20000) (by decide) (mW hm) hd]
      | t + 5, ht => omega
    · refine Kx (F := fun M => f_X10_diner 20000 (Int32.ofNat d) v2 M) (e := "java/util/NoSuchElementException") (code := 2) (M1 := M) (fun M => rfl) h ?_ hz (fun M => by simp) (by decide) (fun M' hm => ⟨wr (wr M' 208 0 0) 208 0 2, ?_, mQ.t208.trans mQ.t208, wr_eq⟩)
      · have hwh : f_X10_needsWhat 20000 v2 4 M = some (.inr "java/util/NoSuchElementException", M) := c_nWx (m := 4) hb2 (by omega)
        simp only [f_X10_diner, c_nD h70 hd hnd, bnx, hwh]
      · have hin : f_X11_in 20000 v2 0 4 = fun M => some (0, M) := by funext M9; exact m_inx (lo := 0) (m := 4) hb2 (by omega)
        simp only [f_X11_diner, f_X11_diner_33, lt, m_noD (mW hm).1.2.2.2.2.1 hd hnd, bnd, if_true, m_th0, hin, m_th1, show ¬ (1 : Int32) = 0 from by decide, if_false]
  · refine Kx (F := fun M => f_X10_diner 20000 v1 v2 M) (e := "java/lang/IndexOutOfBoundsException") (code := 1) (M1 := M) (fun M => rfl) h ?_ hz (fun M => by simp) (by decide) (fun M' hm => ⟨wr (wr M' 208 0 0) 208 0 1, ?_, mQ.t208.trans mQ.t208, wr_eq⟩)
    · simp only [f_X10_diner, c_nDx h70 hb, bnx]
    · simp only [f_X11_diner, lt, m_noDx (mW hm).1.2.2.2.2.1 hb hnd, bnd, m_th1, show ¬ (1 : Int32) = 0 from by decide, if_false]
theorem P_goes (h : InvM M) (v1 v2 : Int32) : Kd (fun M => f_L_goes 20000 v1 v2 M) (fun M => f_X11_goes 20000 v1 v2 M) M := by
  obtain ⟨nd, nc, T, L, K, ms, im, tp, ft, h, hR, hs, hz, h70, h71, hnd, hnc⟩ := Ix h
  rcases i32_rng v1 (n := nc) (by omega) with ⟨d, hd, rfl⟩ | hb
  · rcases i32_rng v2 (n := 201) (by omega) with ⟨t, ht, rfl⟩ | hb2
    · refine Kr (F := fun M => f_X10_goes 20000 (Int32.ofNat d) (Int32.ofNat t) M) (r := (T 4 d + Int32.ofNat t * T 8 d) - (T 4 d + Int32.ofNat t * T 8 d) / 10 * 10) (M1 := M) (fun M => rfl) h ?_ hz (fun M' hm => ⟨wr M' 208 0 0, ?_, mQ.t208, wr_eq⟩)
      · have hwi : f_X10_needsWithin 20000 (Int32.ofNat t) 0 200 M = some (.inl 0, M) := c_nI (lo := 0) (m := 200) (by omega) (by omega) (by omega)
        simp only [f_X10_goes, c_nC h71 hd (by omega), bnx, hwi, grd, inb_ofNat (show d < 5 by omega) (by omega), if_true, i32_clampN (show d < 2147483648 by omega)]
        rw [show M 11 d = T 4 d from slE hs (i := 4) (by decide), show M 15 d = T 8 d from slE hs (i := 8) (by decide)]
      · have c0 : f_X11_ofCellar 20000 (Int32.ofNat d) 0 (wr M' 208 0 0) = some (T 4 d, wr M' 208 0 0) := by
          rw [show (0 : Int32) = Int32.ofNat 0 from rfl, m_ofCellar (by omega) (by decide), (mW hm).2.2.2.2.1 d hd 0 (by decide)]
        have c4 : f_X11_ofCellar 20000 (Int32.ofNat d) 4 (wr M' 208 0 0) = some (T 8 d, wr M' 208 0 0) := by
          rw [show (4 : Int32) = Int32.ofNat 4 from rfl, m_ofCellar (by omega) (by decide), (mW hm).2.2.2.2.1 d hd 4 (by decide)]
        simp only [f_X11_goes, lt, m_noC (mW hm).1.2.2.2.2.2 hd (by omega), bnd, if_true, m_noA ht, m_th0, c0, c4]
    · refine Kx (F := fun M => f_X10_goes 20000 (Int32.ofNat d) v2 M) (e := "java/lang/IllegalArgumentException") (code := 2) (M1 := M) (fun M => rfl) h ?_ hz (fun M => by simp) (by decide) (fun M' hm => ⟨wr (wr M' 208 0 0) 208 0 2, ?_, mQ.t208.trans mQ.t208, wr_eq⟩)
      · have hwi : f_X10_needsWithin 20000 v2 0 200 M = some (.inr "java/lang/IllegalArgumentException", M) := c_nIx (lo := 0) (m := 200) hb2 (by omega)
        simp only [f_X10_goes, c_nC h71 hd (by omega), bnx, hwi]
      · simp only [f_X11_goes, lt, m_noC (mW hm).1.2.2.2.2.2 hd (by omega), bnd, if_true, m_noAx hb2, m_th0, m_th1, show ¬ (1 : Int32) = 0 from by decide, if_false]
  · refine Kx (F := fun M => f_X10_goes 20000 v1 v2 M) (e := "java/lang/IndexOutOfBoundsException") (code := 1) (M1 := M) (fun M => rfl) h ?_ hz (fun M => by simp) (by decide) (fun M' hm => ⟨wr (wr M' 208 0 0) 208 0 1, ?_, mQ.t208.trans mQ.t208, wr_eq⟩)
    · simp only [f_X10_goes, c_nCx h71 hb, bnx]
    · simp only [f_X11_goes, lt, m_noCx (mW hm).1.2.2.2.2.2 hb (by omega), bnd, m_th1, show ¬ (1 : Int32) = 0 from by decide, if_false]
theorem P_held (h : InvM M) : Cd (fun M => f_X10_held 20000 M) (fun M => f_X11_held 20000 M) M := by
  obtain ⟨nd, nc, T, L, K, ms, im, tp, ft, h, hR, hs, hz, h70, h71, hnd, hnc⟩ := Ix h
  refine Cr (r := sHeld nc T) (M1 := M) h ?_ hz (fun M' hm => ⟨wr M' 208 0 0, ?_, mQ.t208⟩)
  · simp only [f_X10_held, c_held hnc h71, bnd, hs]
  · simp only [f_X11_held, lt, m_heldOnes (mW hm), bnd]
theorem P_gaps (h : InvM M) : Cd (fun M => f_X10_gaps 20000 M) (fun M => f_X11_gaps 20000 M) M := by
  obtain ⟨nd, nc, T, L, K, ms, im, tp, ft, h, hR, hs, hz, h70, h71, hnd, hnc⟩ := Ix h
  refine Cr (r := sGaps T) (M1 := M) h ?_ hz (fun M' hm => ⟨wr M' 208 0 0, ?_, mQ.t208⟩)
  · show f_X10_gaps 20000 M = _
    rw [c_gaps (by decide), hs]
  · simp only [f_X11_gaps, lt]
    exact m_gaps_9 (mW hm)
end PR
