/-! The call law. -/
section PL
variable {A A' : TbS} {K K' : LwS} {ms ms' : List TbS} {im : Option (TbS × LwS)} {tp : List Nat} {ft ft' : Int32} {M M' X : Mm} {m : Nat}
theorem m_law52 {N : Nat} {v1 : Int32} : ∀ (n k i : Nat) (M : Mm), i + k = 849 → k < n → ∃ M', f_X11_law_52 N n v1 (Int32.ofNat i) M = some (v1, wr (wr M' 209 3 1) 208 7 0) ∧ (∀ j, M' 209 j = if 409 + i ≤ j ∧ j < 1258 then M 209 (j + 849) else M 209 j) ∧ ∀ x, x ≠ 209 → M' x = M x := by
  intro n
  induction n with
  | zero => intro k i M _ h; omega
  | succ n ih =>
    intro k i M hik hk
    rw [f_X11_law_52]
    match k with
    | 0 =>
      rw [if_pos (show (849 : Int32) ≤ Int32.ofNat i from i32_len (k := 849) (by omega) (by omega)), grd_t (show inb (3 : Int32) 2107 = true by decide), show (3 : Int32).toNatClampNeg = 3 by decide, lt_e, lt_e]
      exact ⟨M, rfl, fun j => by rw [if_neg (by omega)], fun _ _ => rfl⟩
    | k + 1 =>
      have k1 : (1258 : Int32) + Int32.ofNat i = Int32.ofNat (1258 + i) := i32_addN 1258 i
      have k2 : (409 : Int32) + Int32.ofNat i = Int32.ofNat (409 + i) := i32_addN 409 i
      rw [if_neg (show ¬ (849 : Int32) ≤ Int32.ofNat i from i32_nle (n := 849) (by omega) (by omega)), k1, k2, grd_t (inb_ofNat (show 1258 + i < 2107 by omega) (by omega)), grd_t (inb_ofNat (show 409 + i < 2107 by omega) (by omega)), lt_e, i32_clampN (show 409 + i < 2147483648 by omega), i32_clampN (show 1258 + i < 2147483648 by omega), i32_succ]
      obtain ⟨M', a1, a2, a3⟩ := ih k (i + 1) (wr M 209 (409 + i) (M 209 (1258 + i))) (by omega) (by omega)
      refine ⟨M', a1, fun j => ?_, fun x hx => by rw [a3 x hx, wr_nrow hx]⟩
      rw [a2 j]
      by_cases e : j = 409 + i
      · rw [if_neg (by omega), if_pos (by omega), e, wr_eq, show 409 + i + 849 = 1258 + i by omega]
      · by_cases e2 : 409 + (i + 1) ≤ j ∧ j < 1258
        · rw [if_pos e2, if_pos (by omega), wr_nk (by omega)]
        · rw [if_neg e2, if_neg (by omega), wr_nk e]
theorem m_law50 {N N2 : Nat} {v1 : Int32} (hN : 849 < N2) (M : Mm) : ∃ M', f_X11_law_52 N N2 v1 0 M = some (v1, wr (wr M' 209 3 1) 208 7 0) ∧ (∀ j, M' 209 j = if 409 + 0 ≤ j ∧ j < 1258 then M 209 (j + 849) else M 209 j) ∧ ∀ x, x ≠ 209 → M' x = M x := m_law52 N2 849 0 M (by omega) hN
theorem m_lawA (N : Nat) (r' s : Int32) (Mr : Mm) (h : (0 : Int32) ≤ r') : f_X11_law_19 N r' s Mr = f_X11_law_52 N N r' 0 (wr (wr Mr 208 14 s) 209 1258 r') := by
  unfold f_X11_law_19 f_X11_law_32
  rw [lt_e, if_pos h, m_th0, bnd_s, if_pos rfl, grd_t (show inb (1258 : Int32) 2107 = true by decide), show (1258 : Int32).toNatClampNeg = 1258 by decide, lt_e]
theorem m_lawB (N : Nat) (r' s : Int32) (Mr : Mm) (h : ¬ (0 : Int32) ≤ r') : f_X11_law_19 N r' s Mr = some (0, wr (wr Mr 208 14 s) 208 0 1) := by
  unfold f_X11_law_19 f_X11_law_32
  rw [lt_e, if_neg h, m_th1, bnd_s, if_neg (by decide)]
theorem J_law (hT : tX tp) (hc : cP tp m 0 M) (hX : mI A K ms im tp ft X) : ∃ r r' Mc Mr, f_X2_reads 20000 31 M = some (r, Mc) ∧ f_X11_law 20000 X = (if (0 : Int32) ≤ r' then f_X11_law_19 20000 r' (-1 : Int32) Mr else f_X11_law_19 20000 r' (Mr 208 12) Mr) ∧ cV Mc M ∧ (∀ x, x ≠ 208 → x ≠ 209 → Mr x = X x) ∧ (∀ j, j ≠ 10 → j ≠ 12 → j ≠ 13 → j ≠ 16 → Mr 208 j = uM X 208 j) ∧ (∀ j, j < 1258 → Mr 209 j = X 209 j) ∧ Mc 31 0 = 1 ∧ lF tp m r r' Mc Mr := by
  obtain ⟨r, r', Mc, Mr, b1, b2, b3, b4, b5, b6⟩ := J_lread (M := M) (M' := wr (uM X) 208 16 0) hT hc (m_atU hT hX.2.2.2.2.1 rfl rfl 0) wr_eq
  refine ⟨r, r', Mc, Mr, b1, ?_, b3, fun x h1 h2 => ?_, fun j h1 h2 h3 h4 => ?_, fun j hj => ?_, b5, b6⟩
  · unfold f_X11_law
    rw [m_readAllU, b2, bnd_s]
  · rw [b4.1 x h1 h2, wr_nrow h1, uM_r h1]
  · rw [b4.2.1 j h1 h2 h3 h4, wr_nk h4]
  · rw [b4.2.2 j hj, wr_nrow (by decide), uM_r (by decide)]
theorem c_lawU {Mb Mc : Mm} {r : Int32} (h2 : f_X9_cuts 20000 M = some (0, Mb)) (h3 : f_X2_reads 20000 31 (wr Mb 1 1 0) = some (r, Mc)) : f_X10_law 20000 M = (if r = (0 : Int32) then bnd (f_X9_begin 20000 Mc) (fun r9 M10 => f_X10_law_47 20000 r r9 M10) else f_X10_law_47 20000 r (-1 : Int32) Mc) := by
  unfold f_X10_law
  rw [h2]
  simp only [bnd, lt]
  rw [h3]
theorem bnd_sx {α : Type} {a : Int32} {f : Int32 → Mm → Option α} : bnd (some (a, M)) f = f a M := rfl
theorem RW_3 {nd nc : Nat} {T : Tb} {L : List Row} {w : Nat → Int32} {v : Int32} (hR : RW nd nc T L w) : RW nd nc T L (updF w 3 v) := by
  obtain ⟨r0, r1, r2, r3, r4, r5, r6, r7⟩ := hR
  have hnd := r0.1
  have hnc := r0.2.1
  have hw : ∀ j, j ≠ 3 → updF w 3 v j = w j := fun j hj => updF_ne hj
  refine ⟨?_, ?_, ⟨fun d hd => ?_, fun s hs => ?_⟩, fun d hd => ?_, fun c hc k hk => ?_, ?_, r6, r7⟩
  · unfold rHead; rw [hw 0 (by decide), hw 1 (by decide)]; exact r0
  · unfold rScal; rw [hw 6 (by decide), hw 4 (by decide), hw 5 (by decide), hw 7 (by decide), hw 8 (by decide), hw 9 (by decide), hw 11 (by decide), hw 2 (by decide)]; exact r1
  · rw [hw _ (by omega)]; exact r2.1 d hd
  · rcases r2.2 s hs with e | ⟨d, hd, e1, e2⟩
    · exact Or.inl e
    · exact Or.inr ⟨d, hd, e1, by rw [hw _ (by omega)]; exact e2⟩
  · obtain ⟨b1, b2, b3⟩ := r3 d hd
    exact ⟨by rw [hw _ (by omega)]; exact b1, by rw [hw _ (by omega)]; exact b2, fun t ht => by rw [hw _ (by omega)]; exact b3 t ht⟩
  · rw [hw _ (by omega)]; exact r4 c hc k hk
  · obtain ⟨a1, a2, a3⟩ := r5
    refine ⟨a1, by rw [hw 10 (by decide)]; exact a2, fun k hk => ?_⟩
    rw [hw _ (by omega), hw _ (by omega), hw _ (by omega), hw _ (by omega), hw _ (by omega)]; exact a3 k hk
theorem P_law {M : Mm} (h : InvM M) : Kd (fun M => f_L_law 20000 M) (fun M => f_X11_law 20000 M) M := by
  obtain ⟨nd, nc, T, L, K, ms, im, tp, ft, h, hR, hs, hz, h70, h71, hnd, hnc⟩ := Ix h
  have hcT : cTape tp M := h.1.2.2.2.2.2.1
  have hT : tX tp := ⟨hcT.1, fun j => tf_lt hcT j⟩
  have hl4 := hT.1
  have n10 : ¬ (1 : Int32) = 0 := by decide
  have nn1 : ¬ (0 : Int32) ≤ -1 := by decide
  obtain ⟨m, Mb, b1, b2, b3, b4, b5, b6⟩ := c_cuts (N := 20000) (by decide) hT (M := M) ⟨hcT.2.1, fun j hj => by rw [(hcT.2.2 j hj).2, tf_eq j hj]⟩
  have hcP : cP tp m 0 (wr Mb 1 1 0) := ⟨fun i hi => by rw [wr_nrow (by decide), wr_nrow (by decide), wr_nrow (by decide)]; exact b4 i hi, by omega, b3, by rw [wr_nrow (by decide)]; exact b5, by omega⟩
  obtain ⟨r, r', Mc, Mr, c1, c2, c3, c4, c5, c6, c7, c8⟩ := J_law (A := (nd, nc, T, L)) (K := K) (ms := ms) (im := im) (ft := ft) (X := M) hT hcP h.2.1
  have hxc : ∀ x, x ≠ 1 → ¬ (3 ≤ x ∧ x ≤ 6) → (x < 31 ∨ 36 < x) → Mc x = M x := fun x h1 h3 h9 => by
    rw [c3 x (by omega) h9, wr_nrow h1, b6 x (by omega) (by omega) (by omega) (by omega)]
  have hc1 : Mc 1 1 = 0 := by rw [c3 1 (by decide) (by decide), wr_eq]
  have hU := c_lawU b1 c1
  have hs7 : slc 7 Mc = T := by rw [slc_ex (M := M) (fun i hi => hxc _ (by omega) (by omega) (by omega)), hs]
  have hs16 : slc 16 Mc = slc 16 M := slc_ex (fun i hi => hxc _ (by omega) (by omega) (by omega))
  rcases c8 with ⟨e1, e2, i, e4, e5⟩ | ⟨e1, q, f, cs, rs, e2, e3, e4, e5, e6, e7⟩
  · subst e1
    have hF : f_X10_law 20000 M = some (.inr "java/lang/IllegalArgumentException", wr Mc 0 14 (Int32.ofNat (ps9 tp i))) := by
      rw [hU, if_pos rfl, c_b 20000 e4]
      simp only [bnd, f_X10_law_47, lt, if_true]
    refine Kxa (F := fun M => f_X10_law 20000 M) (e := "java/lang/IllegalArgumentException") (code := 1) (A' := (nd, nc, T, L)) (K' := K) (ms' := ms) (im' := im) (tp' := []) (ft' := Int32.ofNat (ps9 tp i)) (M1 := wr Mc 0 14 (Int32.ofNat (ps9 tp i))) (fun M => rfl) h hF ?_ (fun x hx => by rw [wr_nrow (by omega), hxc x (by omega) (by omega) (by omega)]) h.2.2 (fun M => by simp) (by decide) (fun X hX => ?_)
    · refine h.1.nw (A' := (nd, nc, T, L)) (K' := K) (ms' := ms) (by rw [slc_wr (by omega)]; exact hs7) rfl ⟨h.1.2.2.1.1.frame (fun j hj => by rw [wr_nrow (by omega), hxc _ (by omega) (by omega) (by omega)]), by rw [wr_ne (by decide), hxc 25 (by decide) (by decide) (by decide)]; exact h.1.2.2.1.2⟩ (fun x h1 h2 => by rw [wr_nrow (by omega), hxc x (by omega) (by omega) (by omega)]) (by rw [wr_nrow (by decide)]; exact hc1) (by rw [wr_nk (by decide), hxc 0 (by decide) (by decide) (by decide)]) (by rw [wr_nk (by decide), hxc 0 (by decide) (by decide) (by decide)]) wr_eq (Or.inl ⟨rfl, by rw [wr_nk (by decide), hxc 0 (by decide) (by decide) (by decide)]⟩) (by rw [slc_wr (by omega), hs16]; exact h.1.2.2.2.2.2.2.2)
    · obtain ⟨r2, r2', Mc2, Mr2, d1, d2, d3, d4, d5, d6, d7, d8⟩ := J_law (A := (nd, nc, T, L)) (K := K) (ms := ms) (im := im) (ft := ft) (X := X) hT hcP hX
      obtain ⟨x1, x2⟩ := so_inj c1 d1
      subst x2
      rcases d8 with ⟨f1, f2, i2, f4, f5⟩ | ⟨f1, -⟩
      · have ei : i2 = i := by
          have g1 := f4.2.2.2.1
          have g2 := e4.2.2.2.1
          have g3 := f4.2.2.2.2
          have g4 := e4.2.2.2.2
          rw [g2] at g1
          exact ((i32_eqN (by omega) (by omega)).mp g1).symm
        subst ei
        obtain ⟨p, hp⟩ := f5
        have w9 : wr (wr Mr2 208 14 (Int32.ofNat (ps9 tp i2))) 208 0 1 209 = Mr2 209 := by rw [wr_nrow (by decide), wr_nrow (by decide)]
        have w8 : ∀ j, j ≠ 0 → j ≠ 14 → wr (wr Mr2 208 14 (Int32.ofNat (ps9 tp i2))) 208 0 1 208 j = Mr2 208 j := fun j n0 n14 => by rw [wr_nk n0, wr_nk n14]
        have wx : ∀ x, x ≠ 208 → wr (wr Mr2 208 14 (Int32.ofNat (ps9 tp i2))) 208 0 1 x = Mr2 x := fun x n8 => by rw [wr_nrow n8, wr_nrow n8]
        refine ⟨wr (wr Mr2 208 14 (Int32.ofNat (ps9 tp i2))) 208 0 1, ?_, hX.nw ?_ ⟨?_, ?_⟩ ?_ ?_ ?_ (Or.inl ⟨rfl, rfl, ?_⟩) ?_ ?_ ?_, fun x hx => ?_, wr_eq⟩
        · show f_X11_law 20000 X = _
          rw [d2, f2, if_neg nn1, hp.2.2.1, m_lawB 20000 _ _ _ nn1]
        · rw [w9]; exact RW.cg hX.1 (fun j hj => d6 j (by omega))
        · exact hX.2.1.1.frame (by rw [w9]; exact d6 3 (by decide)) (fun j j1 j2 => by rw [w9]; exact d6 j j2) h.2.2.1
        · rw [w9, d6 3 (by decide)]; exact hX.2.1.2
        · rw [wx 210 (by decide), d4 210 (by decide) (by decide)]
        · rw [wx 213 (by decide), d4 213 (by decide) (by decide)]
        · rw [w8 6 (by decide) (by decide), d5 6 (by decide) (by decide) (by decide) (by decide), uM_208 (by decide) (by decide) (by decide) (by decide)]
        · rw [w8 7 (by decide) (by decide), d5 7 (by decide) (by decide) (by decide) (by decide), uM_208 (by decide) (by decide) (by decide) (by decide)]
        · rw [w8 9 (by decide) (by decide), d5 9 (by decide) (by decide) (by decide) (by decide), uM_9]
        · rw [wr_nk (by decide), wr_eq]
        · rw [w8 18 (by decide) (by decide), d5 18 (by decide) (by decide) (by decide) (by decide), uM_208 (by decide) (by decide) (by decide) (by decide)]
        · rw [wx x (by omega), d4 x (by omega) (by omega)]
      · exact absurd (f1.symm.trans x1) n10
  · subst e1
    have h14 : ∀ x, x ≠ 0 → wr Mc 0 14 (-1) x = Mc x := fun x hx => wr_nrow hx
    have hLw : ∀ (f : Nat → Ln9) (cs rs : Nat) (M' : Mm), cs ≤ 400 → lW9 f q cs rs Mc M' → cLaw 31 (wOf f q) (wr Mc 0 14 (-1)) := fun f cs rs M' h9 hW => (c_lawW e2 e4 h9 hW).frame (fun j hj => by rw [h14 _ (by omega)])
    obtain ⟨Me, g1, g2, g3, g4⟩ := c_lawcopy (N := 20000) (b := 31) (b' := 25) (tl := true) (hLw f cs rs Mr e5 e7) (by rw [h14 31 (by decide)]; exact c7) (by decide) (by decide)
    have g21 : Me 25 1 = Int32.ofNat q := by have := g2.2.1; rw [wOf_len] at this; exact this
    have hF : f_X10_law 20000 M = some (.inl (Int32.ofNat q), wr Me 0 10 0) := by
      rw [hU, if_neg n10]
      unfold f_X10_law_47
      rw [lt_e, if_neg n10, g1, bnd_sx, lt_e, wr_ne (by decide), g21]
    have hxe : ∀ x, x ≠ 0 → x ≠ 1 → ¬ (3 ≤ x ∧ x ≤ 6) → (x < 25 ∨ 36 < x) → wr Me 0 10 0 x = M x := fun x h0 h1 h3 h9 => by
      rw [wr_nrow h0, g4 x (by omega), wr_nrow h0, hxc x h1 h3 (by omega)]
    have hM0 : ∀ j, j ≠ 10 → wr Me 0 10 0 0 j = wr Mc 0 14 (-1) 0 j := fun j hj => by
      rw [wr_nk hj, g4 0 (by decide)]
    obtain ⟨M1, hM1⟩ : ∃ M1, M1 = wr (wr Me 0 10 0) 219 0 (Int32.ofNat q) := ⟨_, rfl⟩
    have hx1 : ∀ x, x ≠ 219 → M1 x = wr Me 0 10 0 x := fun x hx => by rw [hM1, wr_nrow hx]
    have hmI1 : mI (nd, nc, T, L) K ms im tp ft M1 := h.2.1.c (fun x hx h9 => by rw [hx1 x (by omega), hxe x (by omega) (by omega) (by omega) (by omega)])
    obtain ⟨r2, r2', Mc2, Mr2, d1, d2, d3, d4, d5, d6, d7, d8⟩ := J_law (A := (nd, nc, T, L)) (K := K) (ms := ms) (im := im) (ft := ft) (X := M1) hT hcP hmI1
    obtain ⟨x1, x2⟩ := so_inj c1 d1
    subst x2
    rcases d8 with ⟨f1, -⟩ | ⟨f1, q2, f', cs2, rs2, f2, f3, f4, f5, f6, f7⟩
    · exact absurd (x1.symm.trans f1) n10
    · have eq2 : q2 = q := by
        rw [e4] at f4
        exact ((i32_eqN (by omega) (by omega)).mp f4).symm
      subst eq2
      obtain ⟨Me2, k1, k2, k3, k4⟩ := c_lawcopy (N := 20000) (b := 31) (b' := 25) (tl := true) (hLw f' cs2 rs2 Mr2 f5 f7) (by rw [h14 31 (by decide)]; exact c7) (by decide) (by decide)
      obtain ⟨-, eMe⟩ := so_inj g1 k1
      subst eMe
      obtain ⟨Mz, z1, z2, z3⟩ := m_law50 (N := 20000) (N2 := 20000) (v1 := Int32.ofNat q2) (by decide) (wr (wr Mr2 208 14 (-1)) 209 1258 (Int32.ofNat q2))
      have hz9 : ∀ j, j < 409 → Mz 209 j = M1 209 j := fun j hj => by
        rw [z2 j, if_neg (by omega), wr_nk (by omega), wr_ne (by decide), d6 j (by omega)]
      have hz10 : ∀ j, 410 ≤ j → j < 1258 → Mz 209 j = Mr2 209 (j + 849) := fun j j1 j2 => by
        rw [z2 j, if_pos (by omega), wr_nk (by omega), wr_ne (by decide)]
      have hz409 : Mz 209 409 = Int32.ofNat q2 := by rw [z2 409, if_pos (by omega), wr_eq]
      have hw9 : wr (wr Mz 209 3 1) 208 7 0 209 = updF (Mz 209) 3 1 := by rw [wr_nrow (by decide), wr_row]
      have hw8 : ∀ j, j ≠ 7 → j ≠ 14 → wr (wr Mz 209 3 1) 208 7 0 208 j = Mr2 208 j := fun j n7 n14 => by
        rw [wr_nk n7, wr_ne (by decide), z3 208 (by decide), wr_ne (by decide), wr_nk n14]
      have hwx : ∀ x, x ≠ 208 → x ≠ 209 → wr (wr Mz 209 3 1) 208 7 0 x = M1 x := fun x n8 n9 => by
        rw [wr_nrow n8, wr_nrow n9, z3 x n9, wr_nrow n9, wr_nrow n8, d4 x n8 n9]
      have hwL : wLaw (wOf f' q2) (wr (wr Mz 209 3 1) 208 7 0) := m_lawW f2 f6 f7 (by rw [hw9, updF_eq]) (by rw [hw9, updF_ne (by decide)]; exact hz409) (fun j j1 j2 => by rw [hw9, updF_ne (by omega)]; exact hz10 j j1 j2)
      have hRW : rOK (nd, nc, T, L) (wr (wr Mz 209 3 1) 208 7 0 209) := by
        rw [hw9]
        have hM9 : M1 209 = M 209 := by rw [hx1 209 (by decide), hxe 209 (by decide) (by decide) (by decide) (by decide)]
        show RW nd nc T L _
        refine RW_3 (RW.cg (w := M 209) hR (fun j hj => by rw [hz9 j hj, hM9]))
      refine ⟨0, Int32.ofNat q2, M1, wr (wr Mz 209 3 1) 208 7 0, ?_, ?_, ?_, fun _ => ?_, (nd, nc, T, L), (true, wOf f' q2), [], im, [], -1, ?_, ?_, ⟨lw_ok f2 f7, h.2.2.2.1, fun B hB => by simp at hB, h.2.2.2.2.2⟩⟩
      · show f_L_law 20000 M = _
        unfold f_L_law
        rw [hF, hM1]
        rfl
      · show f_X11_law 20000 M1 = _
        rw [d2, f3, if_pos (i32_ge0 (by omega)), m_lawA 20000 _ _ _ (i32_ge0 (by omega))]
        exact z1
      · rw [hw8 0 (by decide) (by decide), d5 0 (by decide) (by decide) (by decide) (by decide), uM_0]
      · rw [hwx 219 (by decide) (by decide), hM1, wr_eq]
      · have hc9 : cI (nd, nc, T, L) (true, wOf f' q2) [] im [] (-1) (wr Me2 0 10 0) := by
          refine h.1.nw (A' := (nd, nc, T, L)) (K' := (true, wOf f' q2)) (ms' := []) ?_ rfl ⟨k2.frame (fun j hj => wr_nrow (by omega)), by rw [wr_ne (by decide)]; exact k3⟩ (fun x j1 j2 => hxe x (by omega) (by omega) (by omega) (by omega)) ?_ ?_ ?_ ?_ (Or.inr ⟨rfl, wr_eq⟩) ?_
          · rw [slc_ex (M := M) (fun j hj => hxe _ (by omega) (by omega) (by omega) (by omega))]; exact hs
          · rw [wr_nrow (by decide), g4 1 (by decide), wr_nrow (by decide)]; exact hc1
          · rw [hM0 9 (by decide), wr_nk (by decide), hxc 0 (by decide) (by decide) (by decide)]
          · rw [hM0 13 (by decide), wr_nk (by decide), hxc 0 (by decide) (by decide) (by decide)]
          · rw [hM0 14 (by decide), wr_eq]
          · rw [slc_ex (M := M) (fun j hj => hxe _ (by omega) (by omega) (by omega) (by omega))]; exact h.1.2.2.2.2.2.2.2
        exact hc9.m (fun x hx => by rw [hwx x (by omega) (by omega), hx1 x (by omega)])
      · refine hmI1.nw (A' := (nd, nc, T, L)) (K' := (true, wOf f' q2)) (ms' := []) hRW ⟨hwL, by rw [hw9, updF_eq]; rfl⟩ (hwx 210 (by decide) (by decide)) (hwx 213 (by decide) (by decide)) ?_ (Or.inr ⟨rfl, wr_eq⟩) ?_ ?_ ?_
        · rw [hw8 6 (by decide) (by decide), d5 6 (by decide) (by decide) (by decide) (by decide), uM_208 (by decide) (by decide) (by decide) (by decide)]
        · rw [hw8 9 (by decide) (by decide), d5 9 (by decide) (by decide) (by decide) (by decide), uM_9]
        · rw [wr_nk (by decide), wr_ne (by decide), z3 208 (by decide), wr_ne (by decide), wr_eq]
        · rw [hw8 18 (by decide) (by decide), d5 18 (by decide) (by decide) (by decide) (by decide), uM_208 (by decide) (by decide) (by decide) (by decide)]
end PL
