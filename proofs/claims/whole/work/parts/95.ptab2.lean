/-! The pair of table. -/
section PU
variable {A A' : TbS} {K K' : LwS} {ms ms' : List TbS} {im : Option (TbS × LwS)} {tp : List Nat} {ft ft' : Int32} {M M' X : Mm} {m : Nat}
theorem c_tabU {Ma Mb Mc : Mm} {r : Int32} (h1 : f_X6_copies 20000 16 7 M = some (0, Ma)) (h2 : f_X9_cuts 20000 Ma = some (0, Mb)) (h3 : f_X7_reads 20000 16 (wr Mb 1 1 0) = some (r, Mc)) : f_X10_table 20000 M = (if r = (0 : Int32) then bnd (f_X9_begin 20000 Mc) (fun r12 M13 => f_X10_table_58 20000 r r12 M13) else f_X10_table_58 20000 r (-1 : Int32) Mc) := by
  unfold f_X10_table
  rw [h1]
  simp only [bnd]
  rw [h2]
  simp only [lt]
  rw [h3]
theorem m_tabB (N : Nat) (r' s : Int32) (Mr : Mm) (h : ¬ (0 : Int32) ≤ r') : f_X11_table_46 N r' s Mr = f_X11_table_92 N N 0 (wr (wr Mr 208 14 s) 208 0 1) := by
  unfold f_X11_table_46
  simp only [lt, if_neg h, f_X11_table_59, m_th1, bnd, if_neg (show ¬ (1 : Int32) = 0 by decide)]
theorem m_tabC (N : Nat) (r' s : Int32) (Mr : Mm) (h : (0 : Int32) ≤ r') (h2 : Mr 209 2 = 12) : f_X11_table_46 N r' s Mr = f_X11_table_92 N N 0 (wr (wr Mr 208 14 s) 208 0 2) := by
  unfold f_X11_table_46
  simp only [lt, if_pos h, f_X11_table_59, m_th0, bnd, if_true, grd, show inb (2 : Int32) 2107 = true from by decide, show (2 : Int32).toNatClampNeg = 2 from by decide, wr_ne (show (209 : Nat) ≠ 208 by decide), h2, f_X11_table_83, m_th1, if_neg (show ¬ (1 : Int32) = 0 by decide)]
theorem m_tabD (N : Nat) (r' s : Int32) (Mr : Mm) (h : (0 : Int32) ≤ r') (h2 : ¬ Mr 209 2 = 12) : f_X11_table_46 N r' s Mr = some (Mr 209 2 + 1, wr (wr (wr Mr 208 14 s) 209 2 (Mr 209 2 + 1)) 208 7 0) := by
  unfold f_X11_table_46
  simp only [lt, if_pos h, f_X11_table_59, m_th0, bnd, if_true, grd, show inb (2 : Int32) 2107 = true from by decide, show (2 : Int32).toNatClampNeg = 2 from by decide, wr_ne (show (209 : Nat) ≠ 208 by decide), if_neg h2, f_X11_table_83, wr_eq]
theorem tS_inj {A B : TbS} {w w' : Nat → Int32} (h1 : rOK A w) (h2 : rOK B w') (hT : A.2.2.1 = B.2.2.1) (hL : A.2.2.2 = B.2.2.2) : A = B := by
  obtain ⟨nd1, nc1, T1, L1⟩ := A
  obtain ⟨nd2, nc2, T2, L2⟩ := B
  have a1 : RW nd1 nc1 T1 L1 w := h1
  have a2 : RW nd2 nc2 T2 L2 w' := h2
  have eT : T1 = T2 := hT
  have eL : L1 = L2 := hL
  subst eT
  subst eL
  have b1 := a1.1.1
  have b2 := a2.1.1
  have b3 := a1.1.2.1
  have b4 := a2.1.2.1
  have e1 : Int32.ofNat nd1 = Int32.ofNat nd2 := a1.1.2.2.1.symm.trans a2.1.2.2.1
  have e2 : Int32.ofNat nc1 = Int32.ofNat nc2 := a1.1.2.2.2.1.symm.trans a2.1.2.2.2.1
  have f1 := (i32_eqN (by omega) (by omega)).mp e1
  have f2 := (i32_eqN (by omega) (by omega)).mp e2
  rw [f1, f2]
theorem so_inj {r r2 : Int32} {Mc Mc2 : Mm} {o : Option (Int32 × Mm)} (h1 : o = some (r, Mc)) (h2 : o = some (r2, Mc2)) : r2 = r ∧ Mc2 = Mc := by
  rw [h1] at h2
  injection h2 with h2
  injection h2 with h3 h4
  exact ⟨h3.symm, h4.symm⟩
theorem P_table {M : Mm} (h : InvM M) : Kd (fun M => f_L_table 20000 M) (fun M => f_X11_table 20000 M) M := by
  obtain ⟨nd, nc, T, L, K, ms, im, tp, ft, h, hR, hs, hz, h70, h71, hnd, hnc⟩ := Ix h
  have hcT : cTape tp M := h.1.2.2.2.2.2.1
  have hT : tX tp := ⟨hcT.1, fun j => tf_lt hcT j⟩
  have hl4 := hT.1
  have hzT : tz T := hR.2.2.2.2.2.2.2
  have n10 : ¬ (1 : Int32) = 0 := by decide
  have nn1 : ¬ (0 : Int32) ≤ -1 := by decide
  obtain ⟨Ma, a1, a2, a3⟩ := c_copies (N := 20000) (a0 := 16) (a1 := 7) (M := M) (by omega) h.1.2.2.2.2.2.2.2 (by rw [hs]; exact hzT)
  obtain ⟨m, Mb, b1, b2, b3, b4, b5, b6⟩ := c_cuts (N := 20000) (by decide) hT (M := Ma) ⟨by rw [a3 1 (by decide)]; exact hcT.2.1, fun j hj => by rw [a3 2 (by decide), (hcT.2.2 j hj).2, tf_eq j hj]⟩
  have hcP : cP tp m 0 (wr Mb 1 1 0) := ⟨fun i hi => by rw [wr_nrow (by decide), wr_nrow (by decide), wr_nrow (by decide)]; exact b4 i hi, by omega, b3, by rw [wr_nrow (by decide)]; exact b5, by omega⟩
  have hs3 : slc 16 (wr Mb 1 1 0) = T := by
    rw [slc_wr (by omega), slc_ex (M := Ma) (fun i hi => b6 _ (by omega) (by omega) (by omega) (by omega)), a2, hs]
  obtain ⟨r, r', Mc, Mr, c1, c2, c3, c4, c5, c6, c7, c8, c9⟩ := J_tab (A := (nd, nc, T, L)) (K := K) (ms := ms) (im := im) (ft := ft) (X := M) hT hcP hs3 h.2.1 h.2.2.2.1
  have hxc : ∀ x, x ≠ 1 → ¬ (3 ≤ x ∧ x ≤ 6) → (x < 16 ∨ 24 < x) → Mc x = M x := fun x h1 h3 h9 => by
    rw [c3 x (by omega) h9, wr_nrow h1, b6 x (by omega) (by omega) (by omega) (by omega), a3 x (by omega)]
  have hc1 : Mc 1 1 = 0 := by rw [c3 1 (by decide) (by decide), wr_eq]
  have hU := c_tabU a1 b1 c1
  have hs7 : slc 7 Mc = T := by rw [slc_ex (M := M) (fun i hi => hxc _ (by omega) (by omega) (by omega)), hs]
  have hcK : ∀ M9 : Mm, (∀ x, 25 ≤ x → x < 208 → M9 x = M x) → cLaw 25 K.2 M9 ∧ M9 25 0 = b2i K.1 := fun M9 h9 => ⟨h.1.2.2.1.1.frame (fun i hi => h9 _ (by omega) (by omega)), by rw [h9 25 (by decide) (by decide)]; exact h.1.2.2.1.2⟩
  rcases c9 with ⟨e1, e2, e3, i, e4, e5⟩ | ⟨e1, q, A', e2, e3, e4, e5, e6, e7, e8⟩
  · subst e1
    have hF : f_X10_table 20000 M = some (.inr "java/lang/IllegalArgumentException", wr Mc 0 14 (Int32.ofNat (ps9 tp i))) := by
      rw [hU, if_pos rfl, c_b 20000 e4]
      simp only [bnd, f_X10_table_58, lt, if_true]
    refine Kxa (F := fun M => f_X10_table 20000 M) (e := "java/lang/IllegalArgumentException") (code := 1) (A' := (nd, nc, T, L)) (K' := K) (ms' := ms) (im' := im) (tp' := []) (ft' := Int32.ofNat (ps9 tp i)) (M1 := wr Mc 0 14 (Int32.ofNat (ps9 tp i))) (fun M => rfl) h hF ?_ (fun x hx => by rw [wr_nrow (by omega), hxc x (by omega) (by omega) (by omega)]) h.2.2 (fun M => by simp) (by decide) (fun X hX => ?_)
    · refine h.1.nw (A' := (nd, nc, T, L)) (K' := K) (ms' := ms) (by rw [slc_wr (by omega)]; exact hs7) rfl (hcK _ (fun x h1 h2 => by rw [wr_nrow (by omega), hxc x (by omega) (by omega) (by omega)])) (fun x h1 h2 => by rw [wr_nrow (by omega), hxc x (by omega) (by omega) (by omega)]) (by rw [wr_nrow (by decide)]; exact hc1) (by rw [wr_nk (by decide), hxc 0 (by decide) (by decide) (by decide)]) (by rw [wr_nk (by decide), hxc 0 (by decide) (by decide) (by decide)]) wr_eq (Or.inl ⟨rfl, by rw [wr_nk (by decide), hxc 0 (by decide) (by decide) (by decide)]⟩) (by rw [slc_wr (by omega)]; exact e3)
    · obtain ⟨r2, r2', Mc2, Mr2, d1, d2, d3, d4, d5, d6, d7, d8, d9⟩ := J_tab (A := (nd, nc, T, L)) (K := K) (ms := ms) (im := im) (ft := ft) (X := X) hT hcP hs3 hX h.2.2.2.1
      obtain ⟨x1, x2⟩ := so_inj c1 d1
      subst x2
      rcases d9 with ⟨f1, f2, f3, i2, f4, f5⟩ | ⟨f1, -⟩
      · have ei : i2 = i := by
          have g1 := f4.2.2.2.1
          have g2 := e4.2.2.2.1
          have g3 := f4.2.2.2.2
          have g4 := e4.2.2.2.2
          rw [g2] at g1
          exact ((i32_eqN (by omega) (by omega)).mp g1).symm
        subst ei
        obtain ⟨p, hp⟩ := f5
        obtain ⟨M2, y1, y2, y3, y4⟩ := m_tabX (c := 1) (ft' := Int32.ofNat (ps9 tp i2)) hX d4 d5 d6 d8
        refine ⟨M2, ?_, y2, y3, y4⟩
        show f_X11_table 20000 X = _
        rw [d2, f2, if_neg nn1, hp.2.2.1]
        rw [m_tabB 20000 _ _ _ nn1]
        exact y1
      · exact absurd (f1.symm.trans x1) n10
  · subst e1
    obtain ⟨qt, hqt, eqt⟩ := h.2.2.2.1.2.2.2
    have eqt' : T 0 10 = Int32.ofNat qt := eqt
    have e8' : A'.2.2.1 0 10 = Int32.ofNat qt := e8.trans eqt'
    have e7t : Mc 7 10 = Int32.ofNat qt := by
      have : slc 7 Mc 0 10 = T 0 10 := by rw [hs7]
      rw [slc_at (by decide)] at this
      exact this.trans eqt'
    have e16 : Mc 16 10 = Int32.ofNat qt := by
      have : slc 16 Mc 0 10 = A'.2.2.1 0 10 := by rw [e4]
      rw [slc_at (by decide)] at this
      exact this.trans e8'
    have hzA : tz A'.2.2.1 := e5.2.2.2.2.2.2.2
    by_cases hq : qt < 12
    · obtain ⟨Me, g1, g2, g3⟩ := c_copies (N := 20000) (a0 := 7) (a1 := 16) (M := wr (wr Mc 0 14 (-1)) 16 10 (Int32.ofNat (qt + 1))) (by omega) (by rw [slc_wr (by omega), slc_wr (by omega), hs7]; exact hzT) (by rw [slc_w0, slc_wr (by omega), e4]; exact tz_wr hzA (by decide))
      have g2' : slc 7 Me = wr A'.2.2.1 0 10 (Int32.ofNat (qt + 1)) := by rw [g2, slc_w0, slc_wr (by omega), e4]
      have hF : f_X10_table 20000 M = some (.inl (Int32.ofNat (qt + 1)), wr Me 0 10 0) := by
        rw [hU, if_neg n10]
        unfold f_X10_table_58
        simp only [lt, if_neg n10]
        rw [wr_ne (show (7 : Nat) ≠ 0 by decide), e7t, if_pos (show Int32.ofNat qt < (12 : Int32) from i32_ltn (n := 12) hq (by omega)), wr_ne (show (16 : Nat) ≠ 0 by decide), e16, i32_succ, g1]
        simp only [bnd]
        rw [wr_ne (show (7 : Nat) ≠ 0 by decide)]
        have : slc 7 Me 0 10 = Int32.ofNat (qt + 1) := by rw [g2', wr_eq]
        rw [slc_at (by decide)] at this
        rw [show Me 7 10 = Int32.ofNat (qt + 1) from this]
      have hxe : ∀ x, x ≠ 0 → x ≠ 1 → ¬ (3 ≤ x ∧ x ≤ 6) → (x < 7 ∨ 24 < x) → wr Me 0 10 0 x = M x := fun x h0 h1 h3 h9 => by
        rw [wr_nrow h0, g3 x (by omega), wr_nrow (by omega), wr_nrow h0, hxc x h1 h3 (by omega)]
      have hM0 : ∀ j, j ≠ 10 → wr Me 0 10 0 0 j = wr Mc 0 14 (-1) 0 j := fun j hj => by
        rw [wr_nk hj, g3 0 (by decide), wr_nrow (by decide)]
      have hokA : okA (A'.1, A'.2.1, wr A'.2.2.1 0 10 (Int32.ofNat (qt + 1)), A'.2.2.2) := by
        obtain ⟨o1, ⟨k, hk, ok⟩, o3, -⟩ := e6
        refine ⟨o1, ⟨k, hk, ?_⟩, fun j hj => ?_, qt + 1, by omega, (show wr A'.2.2.1 0 10 (Int32.ofNat (qt + 1)) 0 10 = Int32.ofNat (qt + 1) from wr_eq)⟩
        · show wr A'.2.2.1 0 10 (Int32.ofNat (qt + 1)) 0 2 = _
          rw [wr_nk (by decide)]; exact ok
        · show wr A'.2.2.1 0 10 (Int32.ofNat (qt + 1)) 3 j = 0
          rw [wr_ne (by decide)]; exact o3 j hj
      refine Ka (F := fun M => f_X10_table 20000 M) (r := Int32.ofNat (qt + 1)) (A' := (A'.1, A'.2.1, wr A'.2.2.1 0 10 (Int32.ofNat (qt + 1)), A'.2.2.2)) (K' := K) (ms' := []) (im' := im) (tp' := []) (ft' := -1) (M1 := wr Me 0 10 0) (fun M => rfl) h hF ?_ (fun x hx => hxe x (by omega) (by omega) (by omega) (by omega)) ⟨h.2.2.1, hokA, fun B hB => by simp at hB, h.2.2.2.2.2⟩ (fun X hX => ?_)
      · refine h.1.nw (K' := K) (ms' := []) ?_ e7 (hcK _ (fun x h1 h2 => hxe x (by omega) (by omega) (by omega) (by omega))) (fun x h1 h2 => hxe x (by omega) (by omega) (by omega) (by omega)) ?_ ?_ ?_ ?_ (Or.inr ⟨rfl, wr_eq⟩) ?_
        · rw [slc_wr (by omega)]; exact g2'
        · rw [wr_nrow (by decide), g3 1 (by decide), wr_nrow (by decide), wr_nrow (by decide)]; exact hc1
        · rw [hM0 9 (by decide), wr_nk (by decide), hxc 0 (by decide) (by decide) (by decide)]
        · rw [hM0 13 (by decide), wr_nk (by decide), hxc 0 (by decide) (by decide) (by decide)]
        · rw [hM0 14 (by decide), wr_eq]
        · rw [slc_wr (by omega), slc_ex (M := wr (wr Mc 0 14 (-1)) 16 10 (Int32.ofNat (qt + 1))) (fun i hi => g3 _ (by omega)), slc_w0, slc_wr (by omega), e4]
          exact tz_wr hzA (by decide)
      · obtain ⟨r2, r2', Mc2, Mr2, d1, d2, d3, d4, d5, d6, d7, d8, d9⟩ := J_tab (A := (nd, nc, T, L)) (K := K) (ms := ms) (im := im) (ft := ft) (X := X) hT hcP hs3 hX h.2.2.2.1
        obtain ⟨x1, x2⟩ := so_inj c1 d1
        subst x2
        rcases d9 with ⟨f1, -⟩ | ⟨f1, q2, A2, f2, f3, f4, f5, f6, f7, f8⟩
        · exact absurd (x1.symm.trans f1) n10
        · have eA : A2 = A' := tS_inj f5 e5 (by rw [← f4, ← e4]) (f7.trans e7.symm)
          subst eA
          have e2t : Mr2 209 2 = Int32.ofNat qt := f5.2.1.2.2.2.2.2.2.2.trans e8'
          have n12 : ¬ Int32.ofNat qt = (12 : Int32) := fun h9 => by have := (i32_eqN (b := 12) (by omega) (by omega)).mp h9; omega
          have e20 : ∀ j, j ≠ 7 → j ≠ 14 → wr (wr (wr Mr2 208 14 (-1)) 209 2 (Int32.ofNat (qt + 1))) 208 7 0 208 j = Mr2 208 j := fun j h7 h14 => by
            rw [wr_nk h7, wr_ne (by decide), wr_nk h14]
          have e29 : wr (wr (wr Mr2 208 14 (-1)) 209 2 (Int32.ofNat (qt + 1))) 208 7 0 209 = updF (Mr2 209) 2 (Int32.ofNat (qt + 1)) := by
            rw [wr_nrow (by decide), wr_row, wr_nrow (by decide)]
          have exx : ∀ x, x ≠ 208 → x ≠ 209 → wr (wr (wr Mr2 208 14 (-1)) 209 2 (Int32.ofNat (qt + 1))) 208 7 0 x = Mr2 x := fun x h8 h9 => by
            rw [wr_nrow h8, wr_nrow h9, wr_nrow h8]
          refine ⟨wr (wr (wr Mr2 208 14 (-1)) 209 2 (Int32.ofNat (qt + 1))) 208 7 0, ?_, hX.nw ?_ ⟨?_, ?_⟩ ?_ ?_ ?_ (Or.inr ⟨rfl, wr_eq⟩) ?_ ?_ ?_, fun x hx => ?_, ?_⟩
          · show f_X11_table 20000 X = _
            rw [d2, f3, if_pos (i32_ge0 (by omega))]
            rw [m_tabD 20000 _ _ _ (i32_ge0 (by omega)) (by rw [e2t]; exact n12), e2t, i32_succ]
          · show RW A2.1 A2.2.1 (wr A2.2.2.1 0 10 (Int32.ofNat (qt + 1))) A2.2.2.2 _
            rw [e29]
            exact RW_sc (j := 10) f5 (by decide) ⟨fun e => by omega, fun e => by omega, fun e => by omega⟩
          · exact hX.2.1.1.frame (by rw [e29, updF_ne (by decide)]; exact d7) (fun j h1 h2 => by rw [e29, updF_ne (by omega)]; exact d8 j h1) h.2.2.1
          · rw [e29, updF_ne (by decide), d7]; exact hX.2.1.2
          · rw [exx 210 (by decide) (by decide), d4 210 (by decide) (by decide) (by decide)]
          · rw [exx 213 (by decide) (by decide), d4 213 (by decide) (by decide) (by decide)]
          · rw [e20 6 (by decide) (by decide), d6 6 (by decide) (by decide) (by decide), uM_208 (by decide) (by decide) (by decide) (by decide)]
          · rw [e20 9 (by decide) (by decide), d6 9 (by decide) (by decide) (by decide), uM_9]
          · rw [wr_nk (by decide), wr_ne (by decide), wr_eq]
          · rw [e20 18 (by decide) (by decide), d6 18 (by decide) (by decide) (by decide), uM_208 (by decide) (by decide) (by decide) (by decide)]
          · rw [exx x (by omega) (by omega), d4 x (by omega) (by omega) (by omega)]
          · rw [e20 0 (by decide) (by decide), d6 0 (by decide) (by decide) (by decide), uM_0]
    · have hq12 : qt = 12 := by omega
      subst hq12
      have hF : f_X10_table 20000 M = some (.inr "java/lang/UnsupportedOperationException", wr Mc 0 14 (-1)) := by
        rw [hU, if_neg n10]
        unfold f_X10_table_58
        simp only [lt, if_neg n10]
        rw [wr_ne (show (7 : Nat) ≠ 0 by decide), e7t, if_neg (show ¬ Int32.ofNat 12 < (12 : Int32) by decide)]
      refine Kxa (F := fun M => f_X10_table 20000 M) (e := "java/lang/UnsupportedOperationException") (code := 2) (A' := (nd, nc, T, L)) (K' := K) (ms' := ms) (im' := im) (tp' := []) (ft' := -1) (M1 := wr Mc 0 14 (-1)) (fun M => rfl) h hF ?_ (fun x hx => by rw [wr_nrow (by omega), hxc x (by omega) (by omega) (by omega)]) h.2.2 (fun M => by simp) (by decide) (fun X hX => ?_)
      · refine h.1.nw (A' := (nd, nc, T, L)) (K' := K) (ms' := ms) (by rw [slc_wr (by omega)]; exact hs7) rfl (hcK _ (fun x h1 h2 => by rw [wr_nrow (by omega), hxc x (by omega) (by omega) (by omega)])) (fun x h1 h2 => by rw [wr_nrow (by omega), hxc x (by omega) (by omega) (by omega)]) (by rw [wr_nrow (by decide)]; exact hc1) (by rw [wr_nk (by decide), hxc 0 (by decide) (by decide) (by decide)]) (by rw [wr_nk (by decide), hxc 0 (by decide) (by decide) (by decide)]) wr_eq (Or.inl ⟨rfl, by rw [wr_nk (by decide), hxc 0 (by decide) (by decide) (by decide)]⟩) (by rw [slc_wr (by omega), e4]; exact hzA)
      · obtain ⟨r2, r2', Mc2, Mr2, d1, d2, d3, d4, d5, d6, d7, d8, d9⟩ := J_tab (A := (nd, nc, T, L)) (K := K) (ms := ms) (im := im) (ft := ft) (X := X) hT hcP hs3 hX h.2.2.2.1
        obtain ⟨x1, x2⟩ := so_inj c1 d1
        subst x2
        rcases d9 with ⟨f1, -⟩ | ⟨f1, q2, A2, f2, f3, f4, f5, f6, f7, f8⟩
        · exact absurd (x1.symm.trans f1) n10
        · have e2t : Mr2 209 2 = Int32.ofNat 12 := f5.2.1.2.2.2.2.2.2.2.trans (f8.trans eqt')
          obtain ⟨M2, y1, y2, y3, y4⟩ := m_tabX (c := 2) (ft' := -1) hX d4 d5 d6 d8
          refine ⟨M2, ?_, y2, y3, y4⟩
          show f_X11_table 20000 X = _
          rw [d2, f3, if_pos (i32_ge0 (by omega))]
          rw [m_tabC 20000 _ _ _ (i32_ge0 (by omega)) e2t]
          exact y1
end PU
