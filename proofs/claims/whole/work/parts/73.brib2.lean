/-! Who were bribed: the pair. -/
section BP
variable {nd nc : Nat} {T : Tb} {L : List Row} {K : LwS} {ms : List TbS} {im : Option (TbS × LwS)} {tp : List Nat} {ft : Int32} {W : Lw} {M : Mm} {A : TbS} {f : Nat → Nat} {nr : Nat}
theorem c_bribU (N : Nat) (v1 : Int32) (M M1 : Mm) (h1 : f_X10_takesBribeRows N M = some (1, M1)) : f_X10_bribes N v1 M = f_X10_bribes_25 N N v1 0 (((1 : Int32) <<< ((M1 7 0) &&& 31)) - 1) 0 M1 := by
  unfold f_X10_bribes
  simp only [h1, bnd, f_X10_needsBribeRows, if_neg (show ¬ (1 : Int32) = 0 by decide), bnx, lt]
theorem c_bribX (N : Nat) (v1 : Int32) (M M1 : Mm) (h1 : f_X10_takesBribeRows N M = some (0, M1)) : f_X10_bribes N v1 M = some (.inr "java/lang/IllegalArgumentException", M1) := by
  unfold f_X10_bribes
  simp only [h1, bnd, f_X10_needsBribeRows, if_true, bnx]
theorem m_bribU (N : Nat) (v1 : Int32) (M : Mm) (h1 : f_X11_isTold N (uM M) = some (1, uM M)) : f_X11_bribes N v1 M = f_X11_bribes_40 N N v1 0 (((1 : Int32) <<< ((uM M 209 0) &&& 31)) - 1) 0 (uM M) := by
  unfold f_X11_bribes
  simp only [m_uses, h1, bnd, if_neg (show ¬ (1 : Int32) = 0 by decide), f_X11_bribes_17, m_th0, if_true, m_diners, lt]
theorem m_bribX (N : Nat) (v1 : Int32) (M : Mm) (h1 : f_X11_isTold N (uM M) = some (0, uM M)) : f_X11_bribes N v1 M = some (0, wr (uM M) 208 0 1) := by
  unfold f_X11_bribes
  simp only [m_uses, h1, bnd, if_neg (show ¬ (1 : Int32) = 0 by decide), f_X11_bribes_17, m_th1, if_true]
theorem told_S (hS : InvS (nd, nc, T, L) K ms im tp ft M) (hnc : nc ≤ 5) : ∃ M1, f_X10_takesBribeRows 20000 M = some (if vTold tp nc = true then 1 else 0, M1) ∧ cI (nd, nc, T, L) K ms im [] ft M1 ∧ (∀ x, 208 ≤ x → M1 x = M x) ∧ (vTold tp nc = true → cTold (tf tp) (tp.length / 3) M1 ∧ cH nd nc T L K ms im tp ft (tf tp) (tp.length / 3) M1) := by
  have h71 : M 7 1 = Int32.ofNat nc := by
    rw [show M 7 1 = T 0 1 from slE hS.1.1 (i := 0) (by decide)]; exact hS.2.1.1.1.2.2.2.1
  obtain ⟨M1, a1, a2, a3, a4, a5⟩ := c_takes hS.1 h71 hnc
  refine ⟨M1, a1, a2, a3, fun hv => ⟨a4 hv, a2, ⟨M, hS.2.1⟩, hS.2.2.1, fun j _ => tf_lt hS.1.2.2.2.2.2.1 j, ?_, ?_⟩⟩
  · unfold vTold at hv
    rw [Bool.and_eq_true] at hv
    exact hv.2
  · unfold vTold at hv
    rw [Bool.and_eq_true] at hv
    have h3 := of_decide_eq_true hv.1
    omega
theorem P_bribes {M : Mm} (h : InvM M) (v1 : Int32) : Kd (fun M => f_L_bribes 20000 v1 M) (fun M => f_X11_bribes 20000 v1 M) M := by
  obtain ⟨nd, nc, T, L, K, ms, im, tp, ft, h, hR, hs, hz, h70, h71, hnd, hnc⟩ := Ix h
  have hO : lwOK K.2 := h.2.2.1
  have hN : 2 ^ nd ≤ 256 := Nat.pow_le_pow_right (n := 2) (by decide) hnd
  obtain ⟨M1, a1, a2, a3, a4⟩ := told_S h hnc
  have hcT : cTape tp M := h.1.2.2.2.2.2.1
  by_cases hv : vTold tp nc = true
  · rw [if_pos hv] at a1
    obtain ⟨b1, b2⟩ := a4 hv
    have hz1 : cQ M1 M1 := ⟨fun x _ => rfl, fun j _ => rfl, a2.2.2.2.2.2.2.2⟩
    obtain ⟨M2, c1, c2⟩ := c_br25 (v1 := v1) b2 20000 (2 ^ nd) 0 (0, fl9 nd) M1 hz1 b1 (by omega) (by omega)
    have h170 : M1 7 0 = Int32.ofNat nd := by
      rw [show M1 7 0 = T 0 0 from slE a2.1 (i := 0) (by decide)]; exact hR.1.2.2.1
    refine Ka (F := fun M => f_X10_bribes 20000 v1 M) (A' := (nd, nc, T, L)) (K' := K) (ms' := ms) (im' := im) (tp' := []) (ft' := ft) (r := brR v1 (brL (fitB K.2 nc T L (tf tp) (tp.length / 3)) (2 ^ nd) 0 (0, fl9 nd))) (M1 := M2) (fun M => rfl) h ?_ (a2.q c2) (fun x hx => by rw [c2.hi hx, a3 x hx]) h.2.2 (fun M' hm => ?_)
    · show f_X10_bribes 20000 v1 M = _
      rw [c_bribU 20000 v1 M M1 a1, h170]
      exact c1
    · have hu := mH_u hcT hm hO hv
      obtain ⟨M3, d1, d2⟩ := m_br40 (v1 := v1) 20000 (2 ^ nd) 0 (0, fl9 nd) (uM M') hu (by omega) (by omega)
      have hk9 : mQ M3 (uM M') := mQs (d2 209 (by decide) (by decide)) (fun x h1 h2 _ _ => d2 x h1 h2)
      refine ⟨M3, ?_, hm.u.q hk9, fun x hx => by rw [hk9.lo hx, uM_r (by omega)], by rw [d2 208 (by decide) (by decide)]; exact uM_0⟩
      show f_X11_bribes 20000 v1 M' = _
      rw [m_bribU 20000 v1 M' (by rw [m_told9 hcT hm hnc, if_pos hv]), uM_r (by decide), hm.1.1.2.2.2.2.1]
      exact d1
  · rw [if_neg hv] at a1
    refine Kxa (F := fun M => f_X10_bribes 20000 v1 M) (e := "java/lang/IllegalArgumentException") (code := 1) (A' := (nd, nc, T, L)) (K' := K) (ms' := ms) (im' := im) (tp' := []) (ft' := ft) (M1 := M1) (fun M => rfl) h (c_bribX 20000 v1 M M1 a1) a2 a3 h.2.2 (fun M => by simp) (by decide) (fun M' hm => ⟨wr (uM M') 208 0 1, ?_, hm.u.th, fun x hx => by rw [wr_nrow (by omega), uM_r (by omega)], wr_eq⟩)
    exact m_bribX 20000 v1 M' (by rw [m_told9 hcT hm hnc, if_neg hv])
end BP
