/-! A cellar's line. -/
section RC
variable {tp : List Nat} {M M' M1 M2 Mc Mr : Mm} {i m nd nc : Nat} {T : Tb} {L : List Row} {A A' : TbS}
theorem m_tr1 {N : Nat} {r1 : Int32} (hT : tX tp) (h : mL tp i M) (hk : kd9 tp (ps9 tp i) = 300) : (if ((M 208 10) - (M 208 12)) = (1 : Int32) then grd (inb (M 208 12) 400) (f_X11_readCellar_45 N r1 ((M 214 ((M 208 12)).toNatClampNeg) - (97 : Int32)) M) else f_X11_readCellar_45 N r1 (-1 : Int32) M) = f_X11_readCellar_45 N r1 (Int32.ofNat (vl9 tp (ps9 tp i))) M := by
  have hl4 := hT.1
  obtain ⟨a1, a2, a3, a4, a5⟩ := h
  obtain ⟨k1, k2, k3, k4⟩ := (kd_300 hT).mp hk
  have k5 : 97 ≤ tf tp (ps9 tp i) ∧ tf tp (ps9 tp i) ≤ 122 := of_decide_eq_true k2
  have ev := (ev_L k1 k2).2.1
  rw [if_pos ⟨k3, k4⟩] at ev
  rw [a2, a3, k3, i32_subN (by omega), show ps9 tp i + 1 - ps9 tp i = 1 by omega, if_pos (show Int32.ofNat 1 = (1 : Int32) from rfl)]
  simp only [grd, inb_ofNat (show ps9 tp i < 400 by omega) (by omega), if_true, i32_clampN (show ps9 tp i < 2147483648 by omega)]
  rw [a4 _ k1, sx_lo (by omega), show Int32.ofNat (tf tp (ps9 tp i)) - 97 = Int32.ofNat (tf tp (ps9 tp i) - 97) from i32_subN (b := 97) (by omega), ev]
theorem m_45 {N : Nat} {r1 v : Int32} (h : v < 0 ∨ Int32.ofNat 6 ≤ v) : f_X11_readCellar_45 N r1 v M = some (0, M) := by
  unfold f_X11_readCellar_45
  rw [m_noTx h]
  simp only [bnd, if_neg (show ¬ (1 : Int32) = 0 by decide)]
theorem m_tr0 {N : Nat} {r1 : Int32} (hT : tX tp) (h : mL tp i M) (hk : ¬ kd9 tp (ps9 tp i) = 300) : (if ((M 208 10) - (M 208 12)) = (1 : Int32) then grd (inb (M 208 12) 400) (f_X11_readCellar_45 N r1 ((M 214 ((M 208 12)).toNatClampNeg) - (97 : Int32)) M) else f_X11_readCellar_45 N r1 (-1 : Int32) M) = some (0, M) := by
  have hl4 := hT.1
  have hp := ps_len (tp := tp) i
  have hr := rn_le (tp := tp) (pr := isL9) _ (ps9 tp i) rfl
  have hr2 := hr.2 hp
  obtain ⟨a1, a2, a3, a4, a5⟩ := h
  rw [a2, a3, i32_subN hr.1]
  by_cases c : rn isL9 tp (ps9 tp i) = ps9 tp i + 1
  · have c2 : ps9 tp i < tp.length ∧ isL9 (tf tp (ps9 tp i)) = true := by
      by_cases c2 : ps9 tp i < tp.length ∧ isL9 (tf tp (ps9 tp i)) = true
      · exact c2
      · rw [rn_n c2] at c; omega
    have k5 : 97 ≤ tf tp (ps9 tp i) ∧ tf tp (ps9 tp i) ≤ 122 := of_decide_eq_true c2.2
    have k6 : ¬ tf tp (ps9 tp i) < 103 := fun h9 => hk ((kd_300 hT).mpr ⟨c2.1, c2.2, c, h9⟩)
    rw [c, show ps9 tp i + 1 - ps9 tp i = 1 by omega, if_pos (show Int32.ofNat 1 = (1 : Int32) from rfl)]
    simp only [grd, inb_ofNat (show ps9 tp i < 400 by omega) (by omega), if_true, i32_clampN (show ps9 tp i < 2147483648 by omega)]
    rw [a4 _ c2.1, sx_lo (by omega), show Int32.ofNat (tf tp (ps9 tp i)) - 97 = Int32.ofNat (tf tp (ps9 tp i) - 97) from i32_subN (b := 97) (by omega)]
    exact m_45 (Or.inr (i32_len (by omega) (by omega)))
  · rw [if_neg (show ¬ Int32.ofNat (rn isL9 tp (ps9 tp i) - ps9 tp i) = (1 : Int32) from fun h9 => c (by have := (i32_eqN (b := 1) (by omega) (by omega)).mp h9; omega))]
    exact m_45 (Or.inl (by decide))
theorem J_c141 {s t g z b : Nat} (hc : cP tp m i M) (ha : mA tp i M') (hs : slc 16 M = T) (hR : RW nd nc T L (M' 209)) (hO : okA (nd, nc, T, L)) (hnc : nc < 5) (h1 : s < 10) (h2 : t < 6) (h3 : g ≤ 200) (h4 : z ≤ 9) (h5 : b ≤ 9) : ∃ r Mc Mr, f_X7_readsCellar_117 20000 16 (Int32.ofNat t) (Int32.ofNat g) (Int32.ofNat s) (Int32.ofNat z) (Int32.ofNat b) M = some (r, Mc) ∧ f_X11_readCellar_141 20000 (Int32.ofNat nc) (Int32.ofNat t) (Int32.ofNat g) (Int32.ofNat s) (Int32.ofNat z) (Int32.ofNat b) M' = some (r, Mr) ∧ jO tp m (nd, nc, T, L) M M' r Mc Mr := by
  have h161 : M 16 1 = Int32.ofNat nc := by
    have : slc 16 M 0 1 = T 0 1 := by rw [hs]
    rw [slc_at (by decide)] at this
    exact this.trans hR.1.2.2.2.1
  obtain ⟨M6, y1, y2, y3⟩ := c_stands (N := 20000) (a := 16) (nc := nc) (v1 := Int32.ofNat s) (v2 := Int32.ofNat t) (v3 := Int32.ofNat g) (v4 := Int32.ofNat z) (v5 := Int32.ofNat b) h161 hnc
  have d0 : ((84 : Int32) + (5 : Int32) * Int32.ofNat nc) + (0 : Int32) = Int32.ofNat (84 + 5 * nc + 0) := m_cAt nc 0
  have d1 : ((84 : Int32) + (5 : Int32) * Int32.ofNat nc) + (1 : Int32) = Int32.ofNat (84 + 5 * nc + 1) := m_cAt nc 1
  have d2 : ((84 : Int32) + (5 : Int32) * Int32.ofNat nc) + (2 : Int32) = Int32.ofNat (84 + 5 * nc + 2) := m_cAt nc 2
  have d3 : ((84 : Int32) + (5 : Int32) * Int32.ofNat nc) + (3 : Int32) = Int32.ofNat (84 + 5 * nc + 3) := m_cAt nc 3
  have d4 : ((84 : Int32) + (5 : Int32) * Int32.ofNat nc) + (4 : Int32) = Int32.ofNat (84 + 5 * nc + 4) := m_cAt nc 4
  unfold f_X7_readsCellar_117 f_X11_readCellar_141
  rw [if_neg (i32_nm1 (by omega)), y1, if_pos (i32_ge0 (by omega))]
  simp only [bnd, f_X11_cellarAt, d0, d1, d2, d3, d4, grd, lt, inb_ofNat (show 84 + 5 * nc + 0 < 2107 by omega) (by omega), inb_ofNat (show 84 + 5 * nc + 1 < 2107 by omega) (by omega), inb_ofNat (show 84 + 5 * nc + 2 < 2107 by omega) (by omega), inb_ofNat (show 84 + 5 * nc + 3 < 2107 by omega) (by omega), inb_ofNat (show 84 + 5 * nc + 4 < 2107 by omega) (by omega), if_true, i32_clampN (show 84 + 5 * nc + 0 < 2147483648 by omega), i32_clampN (show 84 + 5 * nc + 1 < 2147483648 by omega), i32_clampN (show 84 + 5 * nc + 2 < 2147483648 by omega), i32_clampN (show 84 + 5 * nc + 3 < 2147483648 by omega), i32_clampN (show 84 + 5 * nc + 4 < 2147483648 by omega), show inb (1 : Int32) 2107 = true from by decide, show (1 : Int32).toNatClampNeg = 1 from by decide]
  refine ⟨1, M6, _, rfl, rfl, jO.ok1 (i := i) (A' := (nd, nc + 1, tStd T nc (Int32.ofNat s) (Int32.ofNat t) (Int32.ofNat g) (Int32.ofNat z) (Int32.ofNat b), L)) (fun x _ hx => y3 x (by omega)) ⟨fun x _ hx => ?_, fun j _ _ => ?_, ?_, fun j hj => ?_⟩ (hc.fr (y3 4 (by decide)) (y3 5 (by decide)) (y3 6 (by decide)) (by rw [y3 3 (by decide)]; exact hc.2.2.2.1) hc.2.2.2.2) (ha.fr ?_ ?_) (by rw [y2, hs]) (RW_std hR hnc h1 h2 h3 h4 h5 ?_ ?_ ?_ ?_ ?_ ?_ (fun j hj h9 => ?_)) (ok_std hO) ⟨rfl, show tStd T nc (Int32.ofNat s) (Int32.ofNat t) (Int32.ofNat g) (Int32.ofNat z) (Int32.ofNat b) 0 10 = T 0 10 from tStd_10⟩⟩
  · repeat rw [wr_nrow hx]
  · repeat rw [wr_nrow (by decide)]
  · repeat rw [wr_nk (by omega)]
  · repeat rw [wr_nk (by omega)]
  · repeat rw [wr_nrow (by decide)]
  · repeat rw [wr_nrow (by decide)]
  · rw [wr_eq]
    repeat rw [wr_nk (by omega)]
    rw [hR.1.2.2.2.2.2, i32_succ]
  · rw [wr_nk (by omega), wr_nk (by omega), wr_nk (by omega), wr_nk (by omega), wr_nk (by omega), wr_eq]
  · rw [wr_nk (by omega), wr_nk (by omega), wr_nk (by omega), wr_nk (by omega), wr_eq]
  · rw [wr_nk (by omega), wr_nk (by omega), wr_nk (by omega), wr_eq]
  · rw [wr_nk (by omega), wr_nk (by omega), wr_eq]
  · rw [wr_nk (by omega), wr_eq]
  · repeat rw [wr_nk (by omega)]
/-- behind the setting -/
theorem J_c112 {s t g z : Nat} (hT : tX tp) (hc : cP tp m i M) (ha : mA tp i M') (hs : slc 16 M = T) (hR : RW nd nc T L (M' 209)) (hO : okA (nd, nc, T, L)) (hnc : nc < 5) (h1 : s < 10) (h2 : t < 6) (h3 : g ≤ 200) (h4 : z ≤ 9) : ∃ r Mc Mr, f_X7_readsCellar_86 20000 16 (Int32.ofNat t) (Int32.ofNat g) (Int32.ofNat s) (Int32.ofNat z) M = some (r, Mc) ∧ f_X11_readCellar_112 20000 (Int32.ofNat nc) (Int32.ofNat t) (Int32.ofNat g) (Int32.ofNat s) (Int32.ofNat z) M' = some (r, Mr) ∧ jO tp m (nd, nc, T, L) M M' r Mc Mr := by
  have hz : tz T := hR.2.2.2.2.2.2.2
  have n10 : ¬ (1 : Int32) = 0 := by decide
  unfold f_X7_readsCellar_86 f_X11_readCellar_112
  rw [if_neg (i32_nm1 (by omega)), if_pos (i32_ge0 (by omega))]
  by_cases w1 : kd9 tp (ps9 tp i) = 263
  · obtain ⟨M1, a1, a2, a3⟩ := c_e1 (N := 20000) (k := 263) hT hc w1 (by decide)
    obtain ⟨R1, b1, b2, b3⟩ := m_p1 (N := 20000) (k := 7) (s := 19) (by decide) hT rfl (by decide) ha w1
    rw [show f_X9_eats 20000 263 M = some (1, M1) from a1, show f_X11_passes 20000 1000019 M' = some (1, R1) from b1]
    simp only [bnd, if_neg n10]
    by_cases g1 : gNu tp 1 9 (ps9 tp (i + 1))
    · obtain ⟨M2, c1, c2, c3⟩ := c_n1 (N := 20000) hT a2 g1 (by decide)
      obtain ⟨R2, d1, d2, d3⟩ := m_n1 (N := 20000) (by decide) hT b2 g1 (by decide) (by decide)
      rw [show f_X9_eatsNumber 20000 1 9 M1 = some (Int32.ofNat (vl9 tp (ps9 tp (i + 1))), M2) from c1, show f_X11_number 20000 1 9 R1 = some (Int32.ofNat (vl9 tp (ps9 tp (i + 1))), R2) from d1]
      simp only []
      obtain ⟨r, Mc, Mr, e1, e2, e3, e4, e5⟩ := J_c141 (b := vl9 tp (ps9 tp (i + 1))) (T := T) (L := L) (nd := nd) (nc := nc) (s := s) (t := t) (g := g) (z := z) c2 d2 (by rw [c3.s, a3.s]; exact hs) (by rw [d3.1 209 (by decide), b3.1 209 (by decide)]; exact hR) hO hnc h1 h2 h3 h4 g1.2.2
      exact ⟨r, Mc, Mr, e1, e2, e3.trans (c3.f.trans a3.f), e4.trans (d3.f.trans b3.f), e5⟩
    · obtain ⟨R2, d1, d2, d3⟩ := m_n0 (N := 20000) (by decide) hT b2 g1 (by decide) (by decide)
      rw [show f_X9_eatsNumber 20000 1 9 M1 = some (-1, M1) from c_n0 (lo := 1) (hi := 9) hT a2 g1 (by decide), show f_X11_number 20000 1 9 R1 = some (-1, R2) from d1]
      simp only [f_X7_readsCellar_117, f_X11_readCellar_141, if_true, if_neg (show ¬ (0 : Int32) ≤ -1 by decide)]
      exact ⟨0, M1, R2, rfl, rfl, jO.bad a3.f (d3.f.trans b3.f) (by rw [a3.s, hs]; exact hz) a2 d2⟩
  · obtain ⟨R1, b1, b2, -, b3⟩ := m_p0 (N := 20000) (k := 7) (s := 19) (by decide) hT rfl (by decide) ha w1
    rw [show f_X9_eats 20000 263 M = some (0, M) from c_e0 (k := 263) hT hc w1 (by decide), show f_X11_passes 20000 1000019 M' = some (0, R1) from b1]
    simp only [bnd, if_true]
    obtain ⟨r, Mc, Mr, e1, e2, e3, e4, e5⟩ := J_c141 (b := 1) (T := T) (L := L) (nd := nd) (nc := nc) (s := s) (t := t) (g := g) (z := z) hc b2 hs (by rw [b3.1 209 (by decide)]; exact hR) hO hnc h1 h2 h3 h4 (by decide)
    exact ⟨r, Mc, Mr, e1, e2, e3, e4.trans b3.f, e5⟩
/-- the line behind the word cellar -/
theorem J_cellar (hT : tX tp) (hc : cP tp m i M) (ha : mA tp i M') (hs : slc 16 M = T) (hR : RW nd nc T L (M' 209)) (hO : okA (nd, nc, T, L)) (hnc : nc < 5) : ∃ r Mc Mr, f_X7_readsCellar 20000 16 M = some (r, Mc) ∧ f_X11_readCellar 20000 M' = some (r, Mr) ∧ jO tp m (nd, nc, T, L) M M' r Mc Mr := by
  have hz : tz T := hR.2.2.2.2.2.2.2
  have hm1 : M' 209 1 = Int32.ofNat nc := hR.1.2.2.2.2.2
  have n5 : ¬ Int32.ofNat nc = (5 : Int32) := fun h9 => by have := (i32_eqN (b := 5) (by omega) (by omega)).mp h9; omega
  have n10 : ¬ (1 : Int32) = 0 := by decide
  have nn1 : ¬ (0 : Int32) ≤ -1 := by decide
  have h83 : ∀ (v : Int32) (Mx : Mm), f_X11_readCellar_83 20000 (Int32.ofNat nc) v (-1) (-1) Mx = some (0, Mx) := fun v Mx => by
    unfold f_X11_readCellar_83
    rw [if_neg nn1]
  have h84 : ∀ (v u : Int32) (Mx : Mm), f_X11_readCellar_83 20000 (Int32.ofNat nc) v u (-1) Mx = some (0, Mx) := fun v u Mx => by
    unfold f_X11_readCellar_83
    rw [if_neg nn1]
  unfold f_X7_readsCellar f_X11_readCellar
  rw [m_cellars, hm1]
  simp only [bnd]
  rw [if_neg n5]
  obtain ⟨R0, l1, l2, l3⟩ := m_letA (N := 20000) (by decide) hT ha
  rw [l1]
  simp only []
  by_cases w0 : kd9 tp (ps9 tp i) = 300
  · rw [m_tr1 hT l2 w0]
    obtain ⟨k1, k2, k3, k4⟩ := (kd_300 hT).mp w0
    obtain ⟨-, ev, en⟩ := ev_L k1 k2
    rw [if_pos ⟨k3, k4⟩] at ev
    have ht6 : vl9 tp (ps9 tp i) < 6 := by omega
    have l4 : mA tp (i + 1) R0 := by
      unfold mL at l2
      rw [← en] at l2
      exact ⟨_, _, l2, rfl⟩
    obtain ⟨M0, o1, o2, o3⟩ := c_l1 (N := 20000) hT hc w0
    rw [o1]
    unfold f_X11_readCellar_45
    rw [m_noT ht6]
    simp only [bnd, if_neg (i32_nm1 (show vl9 tp (ps9 tp i) < 2147483648 by omega)), if_true]
    generalize htv : vl9 tp (ps9 tp i) = t at ht6 ⊢
    by_cases w1 : kd9 tp (ps9 tp (i + 1)) = 261
    · obtain ⟨M1, a1, a2, a3⟩ := c_e1 (N := 20000) (k := 261) hT o2 w1 (by decide)
      rw [show f_X9_eats 20000 261 M0 = some (1, M1) from a1]
      simp only [if_neg n10]
      by_cases g1 : gNu tp 1 200 (ps9 tp (i + 1 + 1))
      · obtain ⟨M2, b1, b2, b3⟩ := c_n1 (N := 20000) hT a2 g1 (by decide)
        obtain ⟨R1, c1, c2, -, c4⟩ := m_a1 (N := 20000) (k := 5) (s := 17) (by decide) hT rfl (by decide) l4 w1 g1 (by decide) (by decide)
        have hg := g1.2.2
        rw [show f_X9_eatsNumber 20000 1 200 M1 = some (Int32.ofNat (vl9 tp (ps9 tp (i + 1 + 1))), M2) from b1, show f_X11_after 20000 1000017 1 200 R0 = some (Int32.ofNat (vl9 tp (ps9 tp (i + 1 + 1))), R1) from c1]
        simp only [if_neg (i32_nm1 (show vl9 tp (ps9 tp (i + 1 + 1)) < 2147483648 by omega)), if_pos (i32_ge0 (show vl9 tp (ps9 tp (i + 1 + 1)) < 2147483648 by omega))]
        generalize hgv : vl9 tp (ps9 tp (i + 1 + 1)) = g at hg ⊢
        by_cases w2 : kd9 tp (ps9 tp (i + 1 + 2)) = 258
        · obtain ⟨M3, d1, d2, d3⟩ := c_e1 (N := 20000) (k := 258) hT b2 w2 (by decide)
          rw [show f_X9_eats 20000 258 M2 = some (1, M3) from d1]
          simp only [if_neg n10]
          by_cases g2 : gNu tp 0 9 (ps9 tp (i + 1 + 2 + 1))
          · obtain ⟨M4, e1, e2, e3⟩ := c_n1 (N := 20000) hT d2 g2 (by decide)
            obtain ⟨R2, f1, f2, -, f4⟩ := m_a1 (N := 20000) (k := 2) (s := 14) (by decide) hT rfl (by decide) c2 w2 g2 (by decide) (by decide)
            have hv2 := g2.2.2
            rw [show f_X9_eatsNumber 20000 0 9 M3 = some (Int32.ofNat (vl9 tp (ps9 tp (i + 1 + 2 + 1))), M4) from e1, show f_X11_after 20000 1000014 0 9 R1 = some (Int32.ofNat (vl9 tp (ps9 tp (i + 1 + 2 + 1))), R2) from f1]
            simp only [if_neg (i32_nm1 (show vl9 tp (ps9 tp (i + 1 + 2 + 1)) < 2147483648 by omega))]
            generalize hsv : vl9 tp (ps9 tp (i + 1 + 2 + 1)) = s at hv2 ⊢
            have s4 : slc 16 M4 = T := by rw [e3.s, d3.s, b3.s, a3.s, o3.s]; exact hs
            have hR2 : RW nd nc T L (R2 209) := by rw [f4.1 209 (by decide), c4.1 209 (by decide), l3.1 209 (by decide)]; exact hR
            have fc : cF M4 M := (e3.trans (d3.trans (b3.trans (a3.trans o3)))).f
            have fm : mG9 R2 M' := f4.f.trans (c4.f.trans l3.f)
            unfold f_X11_readCellar_83
            rw [if_pos (i32_ge0 (show s < 2147483648 by omega))]
            by_cases w3 : kd9 tp (ps9 tp (i + 1 + 2 + 1 + 1)) = 262
            · obtain ⟨M5, x1, x2, x3⟩ := c_e1 (N := 20000) (k := 262) hT e2 w3 (by decide)
              obtain ⟨R3, y1, y2, y3⟩ := m_p1 (N := 20000) (k := 6) (s := 18) (by decide) hT rfl (by decide) f2 w3
              rw [show f_X9_eats 20000 262 M4 = some (1, M5) from x1, show f_X11_passes 20000 1000018 R2 = some (1, R3) from y1]
              simp only [bnd, if_neg n10]
              by_cases g3 : gNu tp 0 9 (ps9 tp (i + 1 + 2 + 1 + 1 + 1))
              · obtain ⟨M6, p1, p2, p3⟩ := c_n1 (N := 20000) hT x2 g3 (by decide)
                obtain ⟨R4, q1, q2, q3⟩ := m_n1 (N := 20000) (by decide) hT y2 g3 (by decide) (by decide)
                rw [show f_X9_eatsNumber 20000 0 9 M5 = some (Int32.ofNat (vl9 tp (ps9 tp (i + 1 + 2 + 1 + 1 + 1))), M6) from p1, show f_X11_number 20000 0 9 R3 = some (Int32.ofNat (vl9 tp (ps9 tp (i + 1 + 2 + 1 + 1 + 1))), R4) from q1]
                simp only []
                obtain ⟨r, Mc, Mr, u1, u2, u3, u4, u5⟩ := J_c112 (z := vl9 tp (ps9 tp (i + 1 + 2 + 1 + 1 + 1))) (T := T) (L := L) (nd := nd) (nc := nc) (s := s) (t := t) (g := g) hT p2 q2 (by rw [p3.s, x3.s]; exact s4) (by rw [q3.1 209 (by decide), y3.1 209 (by decide)]; exact hR2) hO hnc (by omega) ht6 hg g3.2.2
                exact ⟨r, Mc, Mr, u1, u2, u3.trans (p3.f.trans (x3.f.trans fc)), u4.trans (q3.f.trans (y3.f.trans fm)), u5⟩
              · obtain ⟨R4, q1, q2, q3⟩ := m_n0 (N := 20000) (by decide) hT y2 g3 (by decide) (by decide)
                rw [show f_X9_eatsNumber 20000 0 9 M5 = some (-1, M5) from c_n0 (lo := 0) (hi := 9) hT x2 g3 (by decide), show f_X11_number 20000 0 9 R3 = some (-1, R4) from q1]
                simp only [f_X7_readsCellar_86, f_X11_readCellar_112, if_true, if_neg nn1]
                exact ⟨0, M5, R4, rfl, rfl, jO.bad (x3.f.trans fc) (q3.f.trans (y3.f.trans fm)) (by rw [x3.s, s4]; exact hz) x2 q2⟩
            · obtain ⟨R3, y1, y2, -, y3⟩ := m_p0 (N := 20000) (k := 6) (s := 18) (by decide) hT rfl (by decide) f2 w3
              rw [show f_X9_eats 20000 262 M4 = some (0, M4) from c_e0 (k := 262) hT e2 w3 (by decide), show f_X11_passes 20000 1000018 R2 = some (0, R3) from y1]
              simp only [bnd, if_true]
              obtain ⟨r, Mc, Mr, u1, u2, u3, u4, u5⟩ := J_c112 (z := 0) (T := T) (L := L) (nd := nd) (nc := nc) (s := s) (t := t) (g := g) hT e2 y2 s4 (by rw [y3.1 209 (by decide)]; exact hR2) hO hnc (by omega) ht6 hg (by decide)
              exact ⟨r, Mc, Mr, u1, u2, u3.trans fc, u4.trans (y3.f.trans fm), u5⟩
          · obtain ⟨R2, f1, f2, f4⟩ := m_a2 (N := 20000) (k := 2) (s := 14) (by decide) hT rfl (by decide) c2 w2 g2 (by decide) (by decide)
            rw [show f_X9_eatsNumber 20000 0 9 M3 = some (-1, M3) from c_n0 (lo := 0) (hi := 9) hT d2 g2 (by decide), show f_X11_after 20000 1000014 0 9 R1 = some (-1, R2) from f1]
            simp only [if_true, h84]
            exact ⟨0, M3, R2, rfl, rfl, jO.bad (d3.trans (b3.trans (a3.trans o3))).f (f4.f.trans (c4.f.trans l3.f)) (by rw [d3.s, b3.s, a3.s, o3.s, hs]; exact hz) d2 f2⟩
        · obtain ⟨R2, f1, f2, f4⟩ := m_a0 (N := 20000) (k := 2) (s := 14) (lo := 0) (hi := 9) (by decide) hT rfl (by decide) c2 w2
          rw [show f_X9_eats 20000 258 M2 = some (0, M2) from c_e0 (k := 258) hT b2 w2 (by decide), show f_X11_after 20000 1000014 0 9 R1 = some (-1, R2) from f1]
          simp only [if_true, h84]
          exact ⟨0, M2, R2, rfl, rfl, jO.bad (b3.trans (a3.trans o3)).f (f4.f.trans (c4.f.trans l3.f)) (by rw [b3.s, a3.s, o3.s, hs]; exact hz) b2 f2⟩
      · obtain ⟨R1, c1, c2, c4⟩ := m_a2 (N := 20000) (k := 5) (s := 17) (by decide) hT rfl (by decide) l4 w1 g1 (by decide) (by decide)
        rw [show f_X9_eatsNumber 20000 1 200 M1 = some (-1, M1) from c_n0 (lo := 1) (hi := 200) hT a2 g1 (by decide), show f_X11_after 20000 1000017 1 200 R0 = some (-1, R1) from c1]
        simp only [if_true, if_neg nn1, h83]
        exact ⟨0, M1, R1, rfl, rfl, jO.bad (a3.trans o3).f (c4.f.trans l3.f) (by rw [a3.s, o3.s, hs]; exact hz) a2 c2⟩
    · obtain ⟨R1, c1, c2, c4⟩ := m_a0 (N := 20000) (k := 5) (s := 17) (lo := 1) (hi := 200) (by decide) hT rfl (by decide) l4 w1
      rw [show f_X9_eats 20000 261 M0 = some (0, M0) from c_e0 (k := 261) hT o2 w1 (by decide), show f_X11_after 20000 1000017 1 200 R0 = some (-1, R1) from c1]
      simp only [if_true, if_neg nn1, h83]
      exact ⟨0, M0, R1, rfl, rfl, jO.bad o3.f (c4.f.trans l3.f) (by rw [o3.s, hs]; exact hz) o2 c2⟩
  · rw [m_tr0 hT l2 w0, c_l0 hT hc w0]
    simp only [if_true]
    exact ⟨0, M, R0, rfl, rfl, jO.bad cF.rf l3.f (by rw [hs]; exact hz) hc l2.b⟩
end RC
