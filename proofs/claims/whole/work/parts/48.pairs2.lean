/-! Pairs: crowd, alike, whole, cellar, count. -/
theorem cQ40 {M M' : Mm} (h : ∀ x, x ≠ 40 → M' x = M x) (hz : tz (slc 16 M)) : cQ M' M := ⟨fun x hx => h x (fun h9 => hx (by unfold sc9; omega)), fun j _ => by rw [h 0 (by decide)], by rw [slc_ex (fun i hi => h _ (by omega))]; exact hz⟩
theorem mQ216 {M M' : Mm} (h : ∀ x, x ≠ 216 → M' x = M x) : mQ M' M := ⟨fun x hx => h x (by omega), h _ (by decide), h _ (by decide), h _ (by decide), h _ (by decide), fun j _ => by rw [h 208 (by decide)]⟩
section PS
variable {A : TbS} {K : LwS} {ms : List TbS} {im : Option (TbS × LwS)} {tp : List Nat} {ft : Int32} {M : Mm} {nd nc : Nat} {T : Tb} {L : List Row}
theorem P_crowd (h : InvM M) : Cd (fun M => f_X10_crowd 20000 M) (fun M => f_X11_crowd 20000 M) M := by
  obtain ⟨nd, nc, T, L, K, ms, im, tp, ft, h, hR, hs, hz, h70, h71, hnd, hnc⟩ := Ix h
  refine Cr (r := sCrowd nc T) (M1 := M) h ?_ hz (fun M' hm => ⟨wr M' 208 0 0, ?_, mQ.t208⟩)
  · show f_X10_crowd 20000 M = _
    rw [c_crowd (by decide) hnc h71, hs]
  · simp only [f_X11_crowd, lt]
    exact m_crowd_11 (by decide) (mW hm)
theorem P_alike (h : InvM M) : Cd (fun M => f_X10_alike 20000 M) (fun M => f_X11_alike 20000 M) M := by
  obtain ⟨nd, nc, T, L, K, ms, im, tp, ft, h, hR, hs, hz, h70, h71, hnd, hnc⟩ := Ix h
  refine Cr (r := sPr2 nd (pr T)) (M1 := M) h ?_ hz (fun M' hm => ⟨wr M' 208 0 0, ?_, mQ.t208⟩)
  · show f_X10_alike 20000 M = _
    rw [c_alike (by decide) hnd h70, hs, sPr_eq (fun i j => pr_s)]
  · simp only [f_X11_alike, lt]
    exact m_alike (by decide) (mW hm)
theorem P_whole (h : InvM M) : Cd (fun M => f_X10_whole 20000 M) (fun M => f_X11_whole 20000 M) M := by
  obtain ⟨nd, nc, T, L, K, ms, im, tp, ft, h, hR, hs, hz, h70, h71, hnd, hnc⟩ := Ix h
  refine Cr (r := sWhole nd nc T) (M1 := M) h ?_ hz (fun M' hm => ⟨wr M' 208 0 0, ?_, mQ.t208⟩)
  · show f_X10_whole 20000 M = _
    rw [c_whl (by decide) hnd hnc h70 h71, hs]
  · simp only [f_X11_whole, lt, m_grainsOfAll (N := 20000) (by decide) (mW hm), bnd, grd, show inb (9 : Int32) 2107 = true from by decide, if_true, show (9 : Int32).toNatClampNeg = 9 from by decide]
    rw [(mW hm).2.1.2.2.2.2.2.1]
    exact m_whole (by decide) (mW hm)
theorem sWho_ex (hR : ∃ w, RW nd nc T L w) {c : Nat} (hc : c < nc) : sWho T c = -1 ∨ ∃ dn, dn < nd ∧ sWho T c = Int32.ofNat dn := by
  obtain ⟨w, hR⟩ := hR
  obtain ⟨⟨pl, hpl, epl⟩, -⟩ := hR.2.2.2.2.2.2.1.2.2.2.2 c hc
  rw [sWho_pl hpl epl]
  rcases hR.2.2.1.2 pl hpl with e | ⟨d, hd, e1, -⟩
  · exact Or.inl e
  · exact Or.inr ⟨d, hd, e1⟩
theorem i32_nm1 {k : Nat} (h : k < 2147483648) : ¬ Int32.ofNat k = -1 := fun h9 => by
  have := i32_nn (k := k) h
  rw [h9] at this
  exact this (by decide)
theorem c_pinchNow {c : Nat} (h : InvS (nd, nc, T, L) K ms im tp ft M) (hc : c < nc) : ∃ M1, f_X10_pinchNow 20000 (Int32.ofNat c) M = some (if sWho T c = -1 then 0 else sPinch K.2 (sFx T (Int32.ofNat c) (sWho T c)), M1) ∧ cQ M1 M := by
  have hR : RW nd nc T L (M 209) := h.2.1.1
  have hs : slc 7 M = T := h.1.1
  have hnc := hR.1.2.1
  have hnd := hR.1.1
  unfold f_X10_pinchNow
  simp only [grd, inb_ofNat (show c < 5 by omega) (by omega), if_true, i32_clampN (show c < 2147483648 by omega), c_dinerAt, bnd]
  rw [show M 11 c = T 4 c from slE hs (i := 4) (by decide), hs]
  show ∃ M1, (if sWho T c = -1 then _ else _) = _ ∧ _
  rcases sWho_ex ⟨_, hR⟩ hc with e | ⟨d, hd, e⟩
  · rw [if_pos e, if_pos e]
    exact ⟨M, rfl, cQ.rf h.1.2.2.2.2.2.2.2⟩
  · have hne : ¬ sWho T c = -1 := by rw [e]; exact i32_nm1 (by omega)
    rw [if_neg hne, if_neg hne]
    show ∃ M1, bnd (f_X0_tell 20000 7 (Int32.ofNat c) (sWho T c) M) _ = _ ∧ _
    rw [e]
    obtain ⟨M1, t1, t2, t3⟩ := c_tell (N := 20000) (a := 7) (c := Int32.ofNat c) (d := Int32.ofNat d) (M := M) (by omega) (i32_nn (by omega)) (i32_nle (n := 5) (by omega) (by omega)) (i32_nn (by omega)) (i32_ltn (n := 8) (by omega) (by omega))
    rw [t1]
    have hW1 : cLaw 25 K.2 M1 := h.1.2.2.1.1.frame (fun j hj => t2 _ (by omega))
    simp only [bnd, c_pinch hW1, t3, hs]
    exact ⟨M1, rfl, cQ40 t2 h.1.2.2.2.2.2.2.2⟩
theorem c_setsByNow {c : Nat} (h : InvS (nd, nc, T, L) K ms im tp ft M) (hc : c < nc) : ∃ M1, f_X10_setsByNow 20000 (Int32.ofNat c) M = some (if sWho T c = -1 then 0 else sSetsBy K.2 (sFx T (Int32.ofNat c) (sWho T c)), M1) ∧ cQ M1 M := by
  have hR : RW nd nc T L (M 209) := h.2.1.1
  have hs : slc 7 M = T := h.1.1
  have hnc := hR.1.2.1
  have hnd := hR.1.1
  unfold f_X10_setsByNow
  simp only [grd, inb_ofNat (show c < 5 by omega) (by omega), if_true, i32_clampN (show c < 2147483648 by omega), c_dinerAt, bnd]
  rw [show M 11 c = T 4 c from slE hs (i := 4) (by decide), hs]
  show ∃ M1, (if sWho T c = -1 then _ else _) = _ ∧ _
  rcases sWho_ex ⟨_, hR⟩ hc with e | ⟨d, hd, e⟩
  · rw [if_pos e, if_pos e]
    exact ⟨M, rfl, cQ.rf h.1.2.2.2.2.2.2.2⟩
  · have hne : ¬ sWho T c = -1 := by rw [e]; exact i32_nm1 (by omega)
    rw [if_neg hne, if_neg hne]
    show ∃ M1, bnd (f_X0_tell 20000 7 (Int32.ofNat c) (sWho T c) M) _ = _ ∧ _
    rw [e]
    obtain ⟨M1, t1, t2, t3⟩ := c_tell (N := 20000) (a := 7) (c := Int32.ofNat c) (d := Int32.ofNat d) (M := M) (by omega) (i32_nn (by omega)) (i32_nle (n := 5) (by omega) (by omega)) (i32_nn (by omega)) (i32_ltn (n := 8) (by omega) (by omega))
    rw [t1]
    have hW1 : cLaw 25 K.2 M1 := h.1.2.2.1.1.frame (fun j hj => t2 _ (by omega))
    simp only [bnd, c_setsBy hW1, t3, hs]
    exact ⟨M1, rfl, cQ40 t2 h.1.2.2.2.2.2.2.2⟩
theorem mWl {c : Int32} (hm : mI A K ms im tp ft M) : wLaw K.2 (wr M 208 0 c) := hm.2.1.1.cg (wr_nrow (by decide))
theorem P_cellar (h : InvM M) (v1 v2 : Int32) : Kd (fun M => f_L_cellar 20000 v1 v2 M) (fun M => f_X11_cellar 20000 v1 v2 M) M := by
  obtain ⟨nd, nc, T, L, K, ms, im, tp, ft, h, hR, hs, hz, h70, h71, hnd, hnc⟩ := Ix h
  have hO : lwOK K.2 := h.2.2.1
  rcases i32_rng v1 (n := nc) (by omega) with ⟨c, hc, rfl⟩ | hb
  · rcases i32_rng v2 (n := 8) (by omega) with ⟨t, ht, rfl⟩ | hb2
    · have hin : f_X11_in 20000 (Int32.ofNat t) 0 7 = fun M => some (1, M) := by funext M9; exact m_in (lo := 0) (m := 7) (by omega) (by omega) (by omega)
      have hwh : f_X10_needsWhat 20000 (Int32.ofNat t) 7 M = some (.inl 0, M) := c_nW (m := 7) (by omega) (by omega)
      have hcl : ∀ k, k < 5 → t = k → f_X10_cellar 20000 (Int32.ofNat c) (Int32.ofNat t) M = some (.inl (T (4 + k) c), M) → Kd (fun M => f_L_cellar 20000 (Int32.ofNat c) (Int32.ofNat t) M) (fun M => f_X11_cellar 20000 (Int32.ofNat c) (Int32.ofNat t) M) M := fun k hk e hcx => by
        refine Kr (F := fun M => f_X10_cellar 20000 (Int32.ofNat c) (Int32.ofNat t) M) (r := T (4 + k) c) (M1 := M) (fun M => rfl) h hcx hz (fun M' hm => ⟨wr M' 208 0 0, ?_, mQ.t208, wr_eq⟩)
        have n5 : ¬ Int32.ofNat t = 5 := fun h9 => by have := (i32_eqN (b := 5) (by omega) (by omega)).mp h9; omega
        have n6 : ¬ Int32.ofNat t = 6 := fun h9 => by have := (i32_eqN (b := 6) (by omega) (by omega)).mp h9; omega
        have n7 : ¬ Int32.ofNat t = 7 := fun h9 => by have := (i32_eqN (b := 7) (by omega) (by omega)).mp h9; omega
        simp only [f_X11_cellar, f_X11_cellar_34, lt, m_noC (mW hm).1.2.2.2.2.2 hc (show nc ≤ 8 by omega), bnd, if_true, m_th0, hin, show ¬ (1 : Int32) = 0 from by decide, if_false, m_eaterOf (mW hm) hc, n5, n6, n7, m_ofCellar (show c < 5 by omega) (show t < 5 by omega), (mW hm).2.2.2.2.1 c hc t (by omega)]
        rw [e]
      have hic : inb (Int32.ofNat c) 5 = true := inb_ofNat (by omega) (by omega)
      have hcc : (Int32.ofNat c).toNatClampNeg = c := i32_clampN (by omega)
      match t, ht with
      | 0, _ => exact hcl 0 (by decide) rfl (by
          simp only [f_X10_cellar, c_nC h71 hc (show nc ≤ 8 by omega), bnx, hwh, if_pos (show (Int32.ofNat 0 : Int32) = 0 from rfl), if_true, grd, hic, hcc]
          rw [show M 11 c = T 4 c from slE hs (i := 4) (by decide)])
      | 1, _ => exact hcl 1 (by decide) rfl (by
          simp only [f_X10_cellar, c_nC h71 hc (show nc ≤ 8 by omega), bnx, hwh, show ¬ (Int32.ofNat 1 : Int32) = 0 from by decide, if_pos (show (Int32.ofNat 1 : Int32) = 1 from rfl), if_true, if_false, grd, hic, hcc]
          rw [show M 12 c = T 5 c from slE hs (i := 5) (by decide)])
      | 2, _ => exact hcl 2 (by decide) rfl (by
          simp only [f_X10_cellar, c_nC h71 hc (show nc ≤ 8 by omega), bnx, hwh, show ¬ (Int32.ofNat 2 : Int32) = 0 from by decide, show ¬ (Int32.ofNat 2 : Int32) = 1 from by decide, if_pos (show (Int32.ofNat 2 : Int32) = 2 from rfl), if_true, if_false, grd, hic, hcc]
          rw [show M 13 c = T 6 c from slE hs (i := 6) (by decide)])
      | 3, _ => exact hcl 3 (by decide) rfl (by
          simp only [f_X10_cellar, c_nC h71 hc (show nc ≤ 8 by omega), bnx, hwh, show ¬ (Int32.ofNat 3 : Int32) = 0 from by decide, show ¬ (Int32.ofNat 3 : Int32) = 1 from by decide, show ¬ (Int32.ofNat 3 : Int32) = 2 from by decide, if_pos (show (Int32.ofNat 3 : Int32) = 3 from rfl), if_true, if_false, grd, hic, hcc]
          rw [show M 14 c = T 7 c from slE hs (i := 7) (by decide)])
      | 4, _ => exact hcl 4 (by decide) rfl (by
          simp only [f_X10_cellar, c_nC h71 hc (show nc ≤ 8 by omega), bnx, hwh, show ¬ (Int32.ofNat 4 : Int32) = 0 from by decide, show ¬ (Int32.ofNat 4 : Int32) = 1 from by decide, show ¬ (Int32.ofNat 4 : Int32) = 2 from by decide, show ¬ (Int32.ofNat 4 : Int32) = 3 from by decide, if_pos (show (Int32.ofNat 4 : Int32) = 4 from rfl), if_true, if_false, grd, hic, hcc]
          rw [show M 15 c = T 8 c from slE hs (i := 8) (by decide)])
      | 5, _ =>
        refine Kr (F := fun M => f_X10_cellar 20000 (Int32.ofNat c) (Int32.ofNat 5) M) (r := sWho T c) (M1 := M) (fun M => rfl) h ?_ hz (fun M' hm => ⟨wr M' 208 0 0, ?_, mQ.t208, wr_eq⟩)
        · simp only [f_X10_cellar, c_nC h71 hc (show nc ≤ 8 by omega), bnx, hwh, show ¬ (Int32.ofNat 5 : Int32) = 0 from by decide, show ¬ (Int32.ofNat 5 : Int32) = 1 from by decide, show ¬ (Int32.ofNat 5 : Int32) = 2 from by decide, show ¬ (Int32.ofNat 5 : Int32) = 3 from by decide, show ¬ (Int32.ofNat 5 : Int32) = 4 from by decide, if_pos (show (Int32.ofNat 5 : Int32) = 5 from rfl), if_true, if_false, grd, hic, hcc, c_dinerAt, bnd, hs]
          rw [show M 11 c = T 4 c from slE hs (i := 4) (by decide)]; rfl
        · simp only [f_X11_cellar, f_X11_cellar_34, lt, m_noC (mW hm).1.2.2.2.2.2 hc (show nc ≤ 8 by omega), bnd, if_true, m_th0, hin, show ¬ (1 : Int32) = 0 from by decide, if_false, m_eaterOf (mW hm) hc, if_pos (show (Int32.ofNat 5 : Int32) = 5 from rfl)]
      | 6, _ =>
        obtain ⟨M1, a1, a2⟩ := c_pinchNow h hc
        refine Kr (F := fun M => f_X10_cellar 20000 (Int32.ofNat c) (Int32.ofNat 6) M) (r := if sWho T c = -1 then 0 else sPinch K.2 (sFx T (Int32.ofNat c) (sWho T c))) (M1 := M1) (fun M => rfl) h ?_ a2 (fun M' hm => ?_)
        · simp only [f_X10_cellar, c_nC h71 hc (show nc ≤ 8 by omega), bnx, hwh, show ¬ (Int32.ofNat 6 : Int32) = 0 from by decide, show ¬ (Int32.ofNat 6 : Int32) = 1 from by decide, show ¬ (Int32.ofNat 6 : Int32) = 2 from by decide, show ¬ (Int32.ofNat 6 : Int32) = 3 from by decide, show ¬ (Int32.ofNat 6 : Int32) = 4 from by decide, show ¬ (Int32.ofNat 6 : Int32) = 5 from by decide, if_pos (show (Int32.ofNat 6 : Int32) = 6 from rfl), if_true, if_false, a1, bnd]
        · simp only [f_X11_cellar, f_X11_cellar_34, lt, m_noC (mW hm).1.2.2.2.2.2 hc (show nc ≤ 8 by omega), bnd, if_true, m_th0, hin, show ¬ (1 : Int32) = 0 from by decide, if_false, m_eaterOf (mW hm) hc, if_pos (show (Int32.ofNat 6 : Int32) = 6 from rfl), show ¬ (Int32.ofNat 6 : Int32) = 5 from by decide]
          rcases sWho_ex ⟨_, hR⟩ hc with e | ⟨d, hd, e⟩
          · rw [if_pos e, if_pos e]; exact ⟨_, rfl, mQ.t208, wr_eq⟩
          · have hne : ¬ sWho T c = -1 := by rw [e]; exact i32_nm1 (by omega)
            rw [if_neg hne, if_neg hne, e]
            obtain ⟨M2, b1, b2⟩ := m_pinchOf (c := c) (d := d) hO hc hd (mW hm (c := 0)) (mWl hm)
            rw [b1]
            exact ⟨M2, rfl, (mQ216 b2).trans mQ.t208, by rw [b2 208 (by decide)]; exact wr_eq⟩
      | 7, _ =>
        obtain ⟨M1, a1, a2⟩ := c_setsByNow h hc
        refine Kr (F := fun M => f_X10_cellar 20000 (Int32.ofNat c) (Int32.ofNat 7) M) (r := if sWho T c = -1 then 0 else sSetsBy K.2 (sFx T (Int32.ofNat c) (sWho T c))) (M1 := M1) (fun M => rfl) h ?_ a2 (fun M' hm => ?_)
        · simp only [f_X10_cellar, c_nC h71 hc (show nc ≤ 8 by omega), bnx, hwh, show ¬ (Int32.ofNat 7 : Int32) = 0 from by decide, show ¬ (Int32.ofNat 7 : Int32) = 1 from by decide, show ¬ (Int32.ofNat 7 : Int32) = 2 from by decide, show ¬ (Int32.ofNat 7 : Int32) = 3 from by decide, show ¬ (Int32.ofNat 7 : Int32) = 4 from by decide, show ¬ (Int32.ofNat 7 : Int32) = 5 from by decide, show ¬ (Int32.ofNat 7 : Int32) = 6 from by decide, if_false, a1, bnd]
        · simp only [f_X11_cellar, f_X11_cellar_34, lt, m_noC (mW hm).1.2.2.2.2.2 hc (show nc ≤ 8 by omega), bnd, if_true, m_th0, hin, show ¬ (1 : Int32) = 0 from by decide, if_false, m_eaterOf (mW hm) hc, if_pos (show (Int32.ofNat 7 : Int32) = 7 from rfl), show ¬ (Int32.ofNat 7 : Int32) = 5 from by decide, show ¬ (Int32.ofNat 7 : Int32) = 6 from by decide]
          rcases sWho_ex ⟨_, hR⟩ hc with e | ⟨d, hd, e⟩
          · rw [if_pos e, if_pos e]; exact ⟨_, rfl, mQ.t208, wr_eq⟩
          · have hne : ¬ sWho T c = -1 := by rw [e]; exact i32_nm1 (by omega)
            rw [if_neg hne, if_neg hne, e]
            obtain ⟨M2, b1, b2⟩ := m_setsBy (c := c) (d := d) hO hc hd (mW hm (c := 0)) (mWl hm)
            rw [b1]
            exact ⟨M2, rfl, (mQ216 b2).trans mQ.t208, by rw [b2 208 (by decide)]; exact wr_eq⟩
      | t + 8, ht => omega
    · refine Kx (F := fun M => f_X10_cellar 20000 (Int32.ofNat c) v2 M) (e := "java/util/NoSuchElementException") (code := 2) (M1 := M) (fun M => rfl) h ?_ hz (fun M => by simp) (by decide) (fun M' hm => ⟨wr (wr M' 208 0 0) 208 0 2, ?_, mQ.t208.trans mQ.t208, wr_eq⟩)
      · have hwh : f_X10_needsWhat 20000 v2 7 M = some (.inr "java/util/NoSuchElementException", M) := c_nWx (m := 7) hb2 (by omega)
        simp only [f_X10_cellar, c_nC h71 hc (show nc ≤ 8 by omega), bnx, hwh]
      · have hin : f_X11_in 20000 v2 0 7 = fun M => some (0, M) := by funext M9; exact m_inx (lo := 0) (m := 7) hb2 (by omega)
        simp only [f_X11_cellar, f_X11_cellar_34, lt, m_noC (mW hm).1.2.2.2.2.2 hc (show nc ≤ 8 by omega), bnd, if_true, m_th0, hin, m_th1, show ¬ (1 : Int32) = 0 from by decide, if_false]
  · refine Kx (F := fun M => f_X10_cellar 20000 v1 v2 M) (e := "java/lang/IndexOutOfBoundsException") (code := 1) (M1 := M) (fun M => rfl) h ?_ hz (fun M => by simp) (by decide) (fun M' hm => ⟨wr (wr M' 208 0 0) 208 0 1, ?_, mQ.t208.trans mQ.t208, wr_eq⟩)
    · simp only [f_X10_cellar, c_nCx h71 hb, bnx]
    · simp only [f_X11_cellar, lt, m_noCx (mW hm).1.2.2.2.2.2 hb (show nc ≤ 8 by omega), bnd, m_th1, show ¬ (1 : Int32) = 0 from by decide, if_false]
/-! count -/
def sDo (nd : Nat) (T : Tb) : Int32 := nF (fun v d => if sDiet T (Int32.ofNat d) = 0 then v else v ||| ((1 : Int32) <<< (Int32.ofNat d &&& 31))) nd 0 0
theorem m_dietOnes {N : Nat} (hN : 60 < N) (hR : RW nd nc T L (M 209)) : f_X11_dietOnes N M = some (sDo nd T, M) := by
  have hnd := hR.1.1
  unfold f_X11_dietOnes sDo
  refine lp_n (f := fun n v i => f_X11_dietOnes_4 N n v i M) (fin := fun v => some (v, M)) (m := nd) (fun n v => ?_) (fun n v i hi => ?_) N nd 0 0 (by omega) (by omega)
  · show f_X11_dietOnes_4 N (n + 1) v (Int32.ofNat nd) M = _
    rw [f_X11_dietOnes_4, m_diners]
    simp only [bnd]
    rw [hR.1.2.2.2.2.1, if_pos (Int32.le_refl _)]
  · show f_X11_dietOnes_4 N (n + 1) v (Int32.ofNat i) M = _
    rw [f_X11_dietOnes_4, m_diners]
    simp only [bnd]
    rw [hR.1.2.2.2.2.1, if_neg (i32_nle hi (by omega)), m_onDiet (by omega), (hR.2.2.2.1 i hi).2.1]
    simp only [lt, i32_succ, i32_or0]
    rcases sDiet_01 (T := T) (d := Int32.ofNat i) with e | e <;> rw [e] <;> rfl
theorem sDo_eq {k : Nat} (hnd : nd ≤ 8) (hk : k < 2 ^ nd) (e : T 0 2 = Int32.ofNat k) : sDo nd T = T 0 2 := by
  have h9 : ∀ n, n < 9 → ∀ k, k < 256 → k < 2 ^ n → nF (fun v d => if (if (((Int32.ofNat k) >>> (Int32.ofNat d &&& 31)) &&& 1) = 1 then (1 : Int32) else 0) = 0 then v else v ||| ((1 : Int32) <<< (Int32.ofNat d &&& 31))) n 0 0 = Int32.ofNat k := by decide +kernel
  unfold sDo sDiet
  rw [e]
  refine h9 nd (by omega) k ?_ hk
  have : 2 ^ nd ≤ 2 ^ 8 := Nat.pow_le_pow_right (by decide) hnd
  omega
theorem P_count (h : InvM M) (v1 : Int32) : Cd (fun M => f_X10_count 20000 v1 M) (fun M => f_X11_count 20000 v1 M) M := by
  obtain ⟨nd, nc, T, L, K, ms, im, tp, ft, h, hR, hs, hz, h70, h71, hnd, hnc⟩ := Ix h
  have h7 : ∀ j, M 7 j = T 0 j := fun j => slE hs (i := 0) (by decide)
  rcases i32_rng v1 (n := 14) (by omega) with ⟨t, ht, rfl⟩ | hb
  · have hin : t < 10 → f_X11_in 20000 (Int32.ofNat t) 0 9 = fun M => some (1, M) := fun h9 => by funext M9; exact m_in (lo := 0) (m := 9) (by omega) (by omega) (by omega)
    have hne : ∀ a b : Nat, a < 100 → b < 100 → a ≠ b → ¬ (Int32.ofNat a : Int32) = Int32.ofNat b := fun a b ha hb h1 h9 => h1 ((i32_eqN (by omega) (by omega)).mp h9)
    have hlow : ∀ (r : Int32), t < 10 → t ≠ 3 → f_X10_count 20000 (Int32.ofNat t) M = some (r, M) → (∀ w, RW nd nc T L w → w t = r) → Cd (fun M => f_X10_count 20000 (Int32.ofNat t) M) (fun M => f_X11_count 20000 (Int32.ofNat t) M) M := fun r h1 h3 a1 a2 => by
      refine Cr (r := r) (M1 := M) h a1 hz (fun M' hm => ⟨wr M' 208 0 0, ?_, mQ.t208⟩)
      have n3 : ¬ Int32.ofNat t = 3 := hne t 3 (by omega) (by omega) h3
      have n10 : ¬ Int32.ofNat t = 10 := hne t 10 (by omega) (by omega) (by omega)
      have n11 : ¬ Int32.ofNat t = 11 := hne t 11 (by omega) (by omega) (by omega)
      have n12 : ¬ Int32.ofNat t = 12 := hne t 12 (by omega) (by omega) (by omega)
      have n13 : ¬ Int32.ofNat t = 13 := hne t 13 (by omega) (by omega) (by omega)
      simp only [f_X11_count, f_X11_count_110, lt, n3, n10, n11, n12, n13, if_false, hin h1, bnd, show ¬ (1 : Int32) = 0 from by decide, grd, inb_ofNat (show t < 2107 by omega) (by omega), if_true, i32_clampN (show t < 2147483648 by omega), a2 _ (mW hm), ite_self]
    match t, ht with
    | 0, _ => exact hlow (T 0 0) (by decide) (by decide) (by rw [← h7]; rfl) (fun w hw => by rw [hw.1.2.2.2.2.1, hw.1.2.2.1])
    | 1, _ => exact hlow (T 0 1) (by decide) (by decide) (by rw [← h7]; rfl) (fun w hw => by rw [hw.1.2.2.2.2.2, hw.1.2.2.2.1])
    | 2, _ => exact hlow (T 0 10) (by decide) (by decide) (by rw [← h7]; rfl) (fun w hw => hw.2.1.2.2.2.2.2.2.2)
    | 4, _ => exact hlow (T 0 4) (by decide) (by decide) (by rw [← h7]; rfl) (fun w hw => hw.2.1.2.1)
    | 5, _ => exact hlow (T 0 5) (by decide) (by decide) (by rw [← h7]; rfl) (fun w hw => hw.2.1.2.2.1)
    | 6, _ => exact hlow (T 0 3) (by decide) (by decide) (by rw [← h7]; rfl) (fun w hw => hw.2.1.1)
    | 7, _ => exact hlow (T 0 6) (by decide) (by decide) (by rw [← h7]; rfl) (fun w hw => hw.2.1.2.2.2.1)
    | 8, _ => exact hlow (T 0 7) (by decide) (by decide) (by rw [← h7]; rfl) (fun w hw => hw.2.1.2.2.2.2.1)
    | 9, _ => exact hlow (T 0 8) (by decide) (by decide) (by rw [← h7]; rfl) (fun w hw => hw.2.1.2.2.2.2.2.1)
    | 3, _ =>
      refine Cr (r := if K.1 = true then Int32.ofNat K.2.length else -1) (M1 := M) h ?_ hz (fun M' hm => ⟨wr M' 208 0 0, ?_, mQ.t208⟩)
      · show (if M 25 0 = 0 then some (-1, M) else some (M 25 1, M)) = _
        rw [h.1.2.2.1.2, h.1.2.2.1.1.2.1]
        cases K.1 <;> rfl
      · have e3 : (wr M' 208 0 0) 209 3 = b2i K.1 := by rw [wr_nrow (by decide)]; exact hm.2.1.2
        have e49 : K.1 = true → (wr M' 208 0 0) 209 409 = Int32.ofNat K.2.length := fun hk => by
          rw [wr_nrow (by decide)]
          rcases hm.2.1.1 with ⟨b1, -⟩ | ⟨-, b2, -⟩
          · exfalso; apply b1; rw [hm.2.1.2, hk]; rfl
          · exact b2
        simp only [f_X11_count, lt, if_pos (show (Int32.ofNat 3 : Int32) = 3 from rfl), if_true, grd, show inb (3 : Int32) 2107 = true from by decide, show inb (409 : Int32) 2107 = true from by decide, show (3 : Int32).toNatClampNeg = 3 from by decide, show (409 : Int32).toNatClampNeg = 409 from by decide, e3]
        cases hk : K.1
        · rfl
        · rw [e49 hk]; rfl
    | 10, _ =>
      refine Cr (r := sGr nc T) (M1 := M) h ?_ hz (fun M' hm => ⟨wr M' 208 0 0, ?_, mQ.t208⟩)
      · show bnd (f_X6_grainsInAll 20000 7 M) (fun r13 M14 => some (r13, M14)) = _
        rw [c_grainsInAll (by decide) hnc h71, hs]; rfl
      · show bnd (f_X11_grainsOfAll 20000 (wr M' 208 0 0)) (fun r18 M19 => some (r18, M19)) = _
        rw [m_grainsOfAll (by decide) (mW hm)]; rfl
    | 11, _ =>
      obtain ⟨-, ⟨kd9, hkd, ekd⟩, -⟩ := h.2.2.2.1
      refine Cr (r := T 0 2) (M1 := M) h ?_ hz (fun M' hm => ⟨wr M' 208 0 0, ?_, mQ.t208⟩)
      · rw [← h7]; rfl
      · show bnd (f_X11_dietOnes 20000 (wr M' 208 0 0)) (fun r18 M19 => some (r18, M19)) = _
        rw [m_dietOnes (by decide) (mW hm), sDo_eq hnd hkd ekd]; rfl
    | 12, _ =>
      refine Cr (r := Int32.ofNat L.length) (M1 := M) h ?_ hz (fun M' hm => ⟨wr M' 208 0 0, ?_, mQ.t208⟩)
      · show some (M 37 1, M) = _
        rw [h.1.2.1.2.1]
      · show some ((wr M' 208 0 0) 209 10, _) = _
        rw [(mW hm).2.2.2.2.2.1.2.1]
    | 13, _ =>
      refine Cr (r := Int32.ofNat ms.length) (M1 := M) h ?_ hz (fun M' hm => ⟨wr M' 208 0 0, ?_, mQ.t208⟩)
      · show some (M 0 10, M) = _
        rw [h.1.2.2.2.1.2.1]
      · show some ((wr M' 208 0 0) 208 7, _) = _
        rw [wr_nk (by decide), hm.2.2.1.1]
    | t + 14, ht => omega
  · have hne : ∀ b : Nat, b < 14 → ¬ v1 = Int32.ofNat b := fun b h1 h9 => by
      rw [h9] at hb
      rcases hb with hb | hb
      · exact i32_nn (by omega) hb
      · exact i32_nle h1 (by omega) hb
    have n0 : ¬ v1 = 0 := hne 0 (by decide)
    have n1 : ¬ v1 = 1 := hne 1 (by decide)
    have n2 : ¬ v1 = 2 := hne 2 (by decide)
    have n3 : ¬ v1 = 3 := hne 3 (by decide)
    have n4 : ¬ v1 = 4 := hne 4 (by decide)
    have n5 : ¬ v1 = 5 := hne 5 (by decide)
    have n6 : ¬ v1 = 6 := hne 6 (by decide)
    have n7 : ¬ v1 = 7 := hne 7 (by decide)
    have n8 : ¬ v1 = 8 := hne 8 (by decide)
    have n9 : ¬ v1 = 9 := hne 9 (by decide)
    have n10 : ¬ v1 = 10 := hne 10 (by decide)
    have n11 : ¬ v1 = 11 := hne 11 (by decide)
    have n12 : ¬ v1 = 12 := hne 12 (by decide)
    have n13 : ¬ v1 = 13 := hne 13 (by decide)
    refine Cr (r := -1) (M1 := M) h ?_ hz (fun M' hm => ⟨wr M' 208 0 0, ?_, mQ.t208⟩)
    · simp only [f_X10_count, n0, n1, n2, n3, n4, n5, n6, n7, n8, n9, n10, n11, n12, n13, if_false]
    · have hin : f_X11_in 20000 v1 0 9 = fun M => some (0, M) := by
        funext M9
        exact m_inx (lo := 0) (m := 9) (hb.imp id (fun h9 => Int32.le_trans (i32_len (by omega) (by omega)) h9)) (by omega)
      simp only [f_X11_count, f_X11_count_110, lt, n3, n4, n5, n6, n7, n8, n9, n10, n11, n12, n13, if_false, hin, bnd, if_true]
end PS
