/-! The fewest diners: the pair. -/
section FZ
variable {nd nc : Nat} {T : Tb} {L : List Row} {K : LwS} {ms : List TbS} {im : Option (TbS × LwS)} {tp : List Nat} {ft : Int32} {W : Lw}
theorem c_fewU (N : Nat) (v1 v2 : Int32) (M : Mm) (h1 : f_X10_needsCellar N v1 M = some (.inl 0, M)) (h2 : f_X10_needsWithin N v2 0 24 M = some (.inl 0, M)) : f_X10_fewest N v1 v2 M = f_X10_fewest_28 N N v1 v2 (((1 : Int32) <<< ((M 7 0) &&& 31)) - 1) 0 M := by
  unfold f_X10_fewest
  simp only [h1, h2, bnx, lt]
theorem m_fewU (N : Nat) (v1 v2 r : Int32) (M : Mm) (h1 : f_X11_noCellar N v1 (wr M 208 0 0) = some (0, wr M 208 0 0)) (h2 : f_X11_in N v2 0 24 (wr M 208 0 0) = some (1, wr M 208 0 0)) (h3 : f_X11_dietOnes N (wr M 208 0 0) = some (r, wr M 208 0 0)) : f_X11_fewest N v1 v2 M = f_X11_fewest_58 N N v1 v2 (-1) 9 r 0 (wr M 208 0 0) := by
  unfold f_X11_fewest
  simp only [lt, h1, bnd, m_th0, if_true, h2, if_neg (show ¬ (1 : Int32) = 0 by decide), f_X11_fewest_34, h3]
theorem m_fewX (N : Nat) (v1 v2 : Int32) (M : Mm) (h1 : f_X11_noCellar N v1 (wr M 208 0 0) = some (0, wr M 208 0 0)) (h2 : f_X11_in N v2 0 24 (wr M 208 0 0) = some (0, wr M 208 0 0)) : f_X11_fewest N v1 v2 M = some (0, wr (wr M 208 0 0) 208 0 2) := by
  unfold f_X11_fewest
  simp only [lt, h1, bnd, m_th0, m_th1, if_true, h2, if_neg (show ¬ (1 : Int32) = 0 by decide), f_X11_fewest_34]
theorem m_fewY (N : Nat) (v1 v2 : Int32) (M : Mm) (h1 : f_X11_noCellar N v1 (wr M 208 0 0) = some (1, wr M 208 0 0)) : f_X11_fewest N v1 v2 M = some (0, wr (wr M 208 0 0) 208 0 1) := by
  unfold f_X11_fewest
  simp only [lt, h1, bnd, m_th1, if_neg (show ¬ (1 : Int32) = 0 by decide)]
theorem P_fewest {M : Mm} (h : InvM M) (v1 v2 : Int32) : Kd (fun M => f_L_fewest 20000 v1 v2 M) (fun M => f_X11_fewest 20000 v1 v2 M) M := by
  obtain ⟨nd, nc, T, L, K, ms, im, tp, ft, h, hR, hs, hz, h70, h71, hnd, hnc⟩ := Ix h
  have hO : lwOK K.2 := h.2.2.1
  rcases i32_rng v1 (n := nc) (by omega) with ⟨c, hc, rfl⟩ | hb
  · rcases i32_rng v2 (n := 25) (by omega) with ⟨t, ht, rfl⟩ | hb2
    · obtain ⟨kd, hkd, ekd⟩ := h.2.2.2.1.2.1
      have hkd' : kd < 2 ^ nd := hkd
      have ekd' : T 0 2 = Int32.ofNat kd := ekd
      obtain ⟨M1, a1, a2⟩ := c_few28 h hc (show t ≤ 24 by omega) 20000 (nd + 1) 0 M hz (by omega) (by omega)
      have hf := few_eq (ok := fwK K.2 nd nc T L c t) (n := nd) hnd
      refine Ka (F := fun M => f_X10_fewest 20000 (Int32.ofNat c) (Int32.ofNat t) M) (A' := (nd, nc, T, L)) (K' := K) (ms' := ms) (im' := im) (tp' := tp) (ft' := ft) (r := fwR (fwO (fwK K.2 nd nc T L c t) (2 ^ nd) (nd + 1) 0)) (M1 := M1) (fun M => rfl) h ?_ (h.1.q a2) (fun x hx => a2.hi hx) h.2.2 (fun M' hm => ?_)
      · show f_X10_fewest 20000 (Int32.ofNat c) (Int32.ofNat t) M = _
        rw [c_fewU 20000 _ _ M (c_nC h71 hc (show nc ≤ 8 by omega)) (c_nI (lo := 0) (m := 24) (by omega) (by omega) (by omega)), h70]
        exact a1
      · obtain ⟨M5, e1, e2, e3, e4, e5⟩ := m_few58 (nd := nd) (nc := nc) (T := T) (L := L) (W := K.2) (M0 := wr M' 208 0 0) hO (mWl hm) (by rw [wr_nk (by decide)]; exact hm.2.2.2.2.2.2) hc (show t ≤ 24 by omega) hkd' ekd' 20000 (2 ^ nd) 0 none (T 0 2) (wr M' 208 0 0) ⟨by rw [wr_s2]; exact mW hm, rfl, fun j _ => rfl, fun x _ _ _ => rfl⟩ (by omega) (by have : 2 ^ nd ≤ 256 := Nat.pow_le_pow_right (n := 2) (by decide) hnd; omega) (show (9 : Nat) ≤ 9 by omega)
        refine ⟨M5, ?_, (hm.th (c := 0)).up (A' := (nd, nc, T, L)) hO e2 e3 e4 (e5 _ (by decide) (by decide) (by decide)) (e5 _ (by decide) (by decide) (by decide)) (e5 _ (by decide) (by decide) (by decide)) (fun j _ => by rw [e5 208 (by decide) (by decide) (by decide)]), fun x hx => by rw [e5 x (by omega) (by omega) (by omega), wr_nrow (by omega)], by rw [e5 208 (by decide) (by decide) (by decide), wr_eq]⟩
        show f_X11_fewest 20000 (Int32.ofNat c) (Int32.ofNat t) M' = _
        rw [m_fewU 20000 _ _ (T 0 2) M' (m_noC (mW hm).1.2.2.2.2.2 hc (show nc ≤ 8 by omega)) (m_in (lo := 0) (m := 24) (by omega) (by omega) (by omega)) (by rw [m_dietOnes (by decide) (mW hm), sDo_eq hnd hkd' ekd']), hf]
        exact e1
    · refine Kx (F := fun M => f_X10_fewest 20000 (Int32.ofNat c) v2 M) (e := "java/lang/IllegalArgumentException") (code := 2) (M1 := M) (fun M => rfl) h ?_ hz (fun M => by simp) (by decide) (fun M' hm => ⟨wr (wr M' 208 0 0) 208 0 2, ?_, mQ.t208.trans mQ.t208, wr_eq⟩)
      · have hwi : f_X10_needsWithin 20000 v2 0 24 M = some (.inr "java/lang/IllegalArgumentException", M) := c_nIx (lo := 0) (m := 24) hb2 (by omega)
        simp only [f_X10_fewest, c_nC h71 hc (show nc ≤ 8 by omega), bnx, hwi]
      · exact m_fewX 20000 _ _ M' (m_noC (mW hm).1.2.2.2.2.2 hc (show nc ≤ 8 by omega)) (m_inx (lo := 0) (m := 24) hb2 (by omega))
  · refine Kx (F := fun M => f_X10_fewest 20000 v1 v2 M) (e := "java/lang/IndexOutOfBoundsException") (code := 1) (M1 := M) (fun M => rfl) h ?_ hz (fun M => by simp) (by decide) (fun M' hm => ⟨wr (wr M' 208 0 0) 208 0 1, ?_, mQ.t208.trans mQ.t208, wr_eq⟩)
    · simp only [f_X10_fewest, c_nCx h71 hb, bnx]
    · exact m_fewY 20000 _ _ M' (m_noCx (mW hm).1.2.2.2.2.2 hb (show nc ≤ 8 by omega))
end FZ
