/-! Which cellar to ask of: the pair. -/
section AP
variable {nd nc : Nat} {T : Tb} {L : List Row} {K : LwS} {ms : List TbS} {im : Option (TbS × LwS)} {tp : List Nat} {ft : Int32} {W : Lw} {M : Mm} {f : Nat → Nat} {nr : Nat}
theorem c_askU (N : Nat) (v1 : Int32) (M M1 : Mm) (h1 : f_X10_takesBribeRows N M = some (1, M1)) (h2 : f_X10_needsWithin N v1 1 24 M1 = some (.inl 0, M1)) : f_X10_ask N v1 M = f_X10_ask_20 N N v1 0 0 M1 := by
  unfold f_X10_ask
  simp only [h1, bnd, f_X10_needsBribeRows, if_neg (show ¬ (1 : Int32) = 0 by decide), bnx, h2]
theorem c_askX (N : Nat) (v1 : Int32) (M M1 : Mm) (h1 : f_X10_takesBribeRows N M = some (0, M1)) : f_X10_ask N v1 M = some (.inr "java/lang/IllegalArgumentException", M1) := by
  unfold f_X10_ask
  simp only [h1, bnd, f_X10_needsBribeRows, if_true, bnx]
theorem c_askY (N : Nat) (v1 : Int32) (M M1 : Mm) (h1 : f_X10_takesBribeRows N M = some (1, M1)) (h2 : f_X10_needsWithin N v1 1 24 M1 = some (.inr "java/lang/IllegalArgumentException", M1)) : f_X10_ask N v1 M = some (.inr "java/lang/IllegalArgumentException", M1) := by
  unfold f_X10_ask
  simp only [h1, bnd, f_X10_needsBribeRows, if_neg (show ¬ (1 : Int32) = 0 by decide), bnx, h2]
theorem m_askU (N : Nat) (v1 r : Int32) (M M2 : Mm) (h1 : f_X11_isTold N (uM M) = some (1, uM M)) (h2 : f_X11_in N v1 1 24 (uM M) = some (1, uM M)) (h3 : f_X11_howManyFit N (uM M) = some (r, M2)) : f_X11_ask N v1 M = if (2 : Int32) ≤ r then f_X11_ask_55 N N v1 (-1) 1000000 0 M2 else some (-1, M2) := by
  unfold f_X11_ask
  simp only [m_uses, h1, bnd, if_neg (show ¬ (1 : Int32) = 0 by decide), h2, f_X11_ask_27, m_th0, if_true, h3]
theorem m_askX (N : Nat) (v1 : Int32) (M : Mm) (h1 : f_X11_isTold N (uM M) = some (0, uM M)) : f_X11_ask N v1 M = some (0, wr (uM M) 208 0 1) := by
  unfold f_X11_ask
  simp only [m_uses, h1, bnd, if_neg (show ¬ (1 : Int32) = 0 by decide), f_X11_ask_22, f_X11_ask_27, m_th1, if_true]
theorem m_askY (N : Nat) (v1 : Int32) (M : Mm) (h1 : f_X11_isTold N (uM M) = some (1, uM M)) (h2 : f_X11_in N v1 1 24 (uM M) = some (0, uM M)) : f_X11_ask N v1 M = some (0, wr (uM M) 208 0 1) := by
  unfold f_X11_ask
  simp only [m_uses, h1, bnd, if_neg (show ¬ (1 : Int32) = 0 by decide), h2, f_X11_ask_22, f_X11_ask_27, m_th1, if_true]
theorem P_ask {M : Mm} (h : InvM M) (v1 : Int32) : Kd (fun M => f_L_ask 20000 v1 M) (fun M => f_X11_ask 20000 v1 M) M := by
  obtain ⟨nd, nc, T, L, K, ms, im, tp, ft, h, hR, hs, hz, h70, h71, hnd, hnc⟩ := Ix h
  have hO : lwOK K.2 := h.2.2.1
  have hN : 2 ^ nd ≤ 256 := Nat.pow_le_pow_right (n := 2) (by decide) hnd
  obtain ⟨M1, a1, a2, a3, a4⟩ := told_S h hnc
  have hcT : cTape tp M := h.1.2.2.2.2.2.1
  by_cases hv : vTold tp nc = true
  · rw [if_pos hv] at a1
    obtain ⟨b1, b2⟩ := a4 hv
    rcases i32_rng1 v1 (lo := 1) (n := 25) (by omega) (by omega) with ⟨t, ht1, ht, rfl⟩ | hb
    · have hz1 : cQ M1 M1 := ⟨fun x _ => rfl, fun j _ => rfl, a2.2.2.2.2.2.2.2⟩
      obtain ⟨M2, c1, c2, c3⟩ := c_ask20 (t := t) b2 (by omega) 20000 (2 ^ nd) 0 M1 hz1 b1 (fun s h1 => by omega) (by omega) (by omega)
      have hcb := fun c => pt_b (W := K.2) (T := T) (L := L) (f := tf tp) (nr := tp.length / 3) (nc := nc) (t := t) (c := c) hnd
      have hcb0 := hcb 0
      obtain ⟨ck, hck⟩ : ∃ ck, ck = ckN (fitB K.2 nc T L (tf tp) (tp.length / 3)) (2 ^ nd) := ⟨_, rfl⟩
      rw [← hck] at c1 hcb0
      obtain ⟨M3, d1, d2⟩ : ∃ M3, f_X10_ask 20000 (Int32.ofNat t) M = some (.inl (if 2 ≤ ck then (asL (pt9 K.2 nd nc T L (tf tp) (tp.length / 3) t) nc 0 (-1, ck + 1)).1 else -1), M3) ∧ cQ M3 M1 := by
        rw [c_askU 20000 _ M M1 a1 (c_nI (lo := 1) (m := 24) (by omega) (by omega) (by omega))]
        by_cases q : 2 ≤ ck
        · obtain ⟨M3, d1, d2⟩ := c_ask77 (t := t) b2 20000 nc 0 (-1, ck + 1) M2 c2 c3 (show ck + 1 ≤ 1000000 by omega) (by omega) (by omega)
          rw [← hck] at d1
          rw [if_pos q] at c1 ⊢
          exact ⟨M3, c1.trans d1, d2⟩
        · rw [if_neg q] at c1 ⊢
          exact ⟨M2, c1, c2⟩
      refine Ka (F := fun M => f_X10_ask 20000 (Int32.ofNat t) M) (A' := (nd, nc, T, L)) (K' := K) (ms' := ms) (im' := im) (tp' := []) (ft' := ft) (r := if 2 ≤ ck then (asL (pt9 K.2 nd nc T L (tf tp) (tp.length / 3) t) nc 0 (-1, ck + 1)).1 else -1) (M1 := M3) (fun M => rfl) h d1 (a2.q d2) (fun x hx => by rw [d2.hi hx, a3 x hx]) h.2.2 (fun M' hm => ?_)
      have hu := mH_u hcT hm hO hv
      obtain ⟨M4, e1, e2, e3⟩ := m_hmf 20000 (2 ^ nd) 0 (uM M') hu (by omega) (by omega)
      rw [← hck] at e1
      have hsh := m_askU 20000 (Int32.ofNat t) _ M' M4 (by rw [m_told9 hcT hm hnc, if_pos hv]) (m_in (lo := 1) (m := 24) (by omega) (by omega) (by omega)) e1
      by_cases q : 2 ≤ ck
      · obtain ⟨M5, g1, g2⟩ := m_ask55 (t := t) (by omega) 20000 nc 0 (-1, 1000000) M4 e2 (show (1000000 : Nat) ≤ 1000000 by omega) (by omega) (by omega)
        have hk9 : mQ M5 (uM M') := mQs (by rw [g2 209 (by decide) (by decide) (by decide), e3 209 (by decide) (by decide)]) (fun x h1 h2 _ h4 => by rw [g2 x h1 h2 h4, e3 x h1 h2])
        refine ⟨M5, ?_, hm.u.q hk9, fun x hx => by rw [hk9.lo hx, uM_r (by omega)], by rw [g2 208 (by decide) (by decide) (by decide), e3 208 (by decide) (by decide)]; exact uM_0⟩
        show f_X11_ask 20000 (Int32.ofNat t) M' = _
        rw [hsh, if_pos (show (2 : Int32) ≤ Int32.ofNat ck from i32_len (k := 2) q (by omega)), if_pos q, as_eq (p0 := ck + 1) (p1 := 1000000) nc (by omega) (by omega)]
        exact g1
      · have hk9 : mQ M4 (uM M') := mQs (e3 209 (by decide) (by decide)) (fun x h1 h2 _ _ => e3 x h1 h2)
        refine ⟨M4, ?_, hm.u.q hk9, fun x hx => by rw [hk9.lo hx, uM_r (by omega)], by rw [e3 208 (by decide) (by decide)]; exact uM_0⟩
        show f_X11_ask 20000 (Int32.ofNat t) M' = _
        rw [hsh, if_neg (show ¬ (2 : Int32) ≤ Int32.ofNat ck from i32_nle (n := 2) (by omega) (by omega)), if_neg q]
    · refine Kxa (F := fun M => f_X10_ask 20000 v1 M) (e := "java/lang/IllegalArgumentException") (code := 1) (A' := (nd, nc, T, L)) (K' := K) (ms' := ms) (im' := im) (tp' := []) (ft' := ft) (M1 := M1) (fun M => rfl) h (c_askY 20000 v1 M M1 a1 (c_nIx (lo := 1) (m := 24) hb (by omega))) a2 a3 h.2.2 (fun M => by simp) (by decide) (fun M' hm => ⟨wr (uM M') 208 0 1, ?_, hm.u.th, fun x hx => by rw [wr_nrow (by omega), uM_r (by omega)], wr_eq⟩)
      exact m_askY 20000 v1 M' (by rw [m_told9 hcT hm hnc, if_pos hv]) (m_inx (lo := 1) (m := 24) hb (by omega))
  · rw [if_neg hv] at a1
    refine Kxa (F := fun M => f_X10_ask 20000 v1 M) (e := "java/lang/IllegalArgumentException") (code := 1) (A' := (nd, nc, T, L)) (K' := K) (ms' := ms) (im' := im) (tp' := []) (ft' := ft) (M1 := M1) (fun M => rfl) h (c_askX 20000 v1 M M1 a1) a2 a3 h.2.2 (fun M => by simp) (by decide) (fun M' hm => ⟨wr (uM M') 208 0 1, ?_, hm.u.th, fun x hx => by rw [wr_nrow (by omega), uM_r (by omega)], wr_eq⟩)
    exact m_askX 20000 v1 M' (by rw [m_told9 hcT hm hnc, if_neg hv])
end AP
