/-! A diner's line. -/
def mG9 (M' M : Mm) : Prop := (∀ x, x ≠ 208 → x ≠ 209 → M' x = M x) ∧ (∀ j, j ≠ 10 → j ≠ 12 → M' 208 j = M 208 j) ∧ M' 209 3 = M 209 3 ∧ ∀ j, 409 ≤ j → M' 209 j = M 209 j
def cF (M' M : Mm) : Prop := ∀ x, x ≠ 3 → (x < 16 ∨ 24 < x) → M' x = M x
/-- what comes of a line: both refuse it at the same thing, or both have read it -/
def jO (tp : List Nat) (m : Nat) (A : TbS) (M M' : Mm) (r : Int32) (Mc Mm9 : Mm) : Prop := cF Mc M ∧ mG9 Mm9 M' ∧ ((r = 0 ∧ tz (slc 16 Mc) ∧ ∃ i, cP tp m i Mc ∧ mB tp i Mm9) ∨ (r = 1 ∧ ∃ i A', cP tp m i Mc ∧ mA tp i Mm9 ∧ slc 16 Mc = A'.2.2.1 ∧ rOK A' (Mm9 209) ∧ okA A' ∧ A'.2.2.2 = A.2.2.2 ∧ A'.2.2.1 0 10 = A.2.2.1 0 10))
section RD
variable {tp : List Nat} {M M' M1 M2 Mc Mr : Mm} {i m nd nc : Nat} {T : Tb} {L : List Row} {A A' : TbS}
theorem mE.f (h : mE M' M) : mG9 M' M := ⟨fun x h1 _ => h.1 x h1, h.2, by rw [h.1 209 (by decide)], fun j _ => by rw [h.1 209 (by decide)]⟩
theorem mG9.trans (h2 : mG9 M2 M1) (h1 : mG9 M1 M) : mG9 M2 M := ⟨fun x a b => (h2.1 x a b).trans (h1.1 x a b), fun j a b => (h2.2.1 j a b).trans (h1.2.1 j a b), h2.2.2.1.trans h1.2.2.1, fun j a => (h2.2.2.2 j a).trans (h1.2.2.2 j a)⟩
theorem mG9.rf : mG9 M M := ⟨fun _ _ _ => rfl, fun _ _ _ => rfl, rfl, fun _ _ => rfl⟩
theorem cF.trans (h2 : cF M2 M1) (h1 : cF M1 M) : cF M2 M := fun x a b => (h2 x a b).trans (h1 x a b)
theorem cF.rf : cF M M := fun _ _ _ => rfl
theorem cK3.f (h : cK3 M' M) : cF M' M := fun x a _ => h x a
theorem cK3.trans (h2 : cK3 M2 M1) (h1 : cK3 M1 M) : cK3 M2 M := fun x a => (h2 x a).trans (h1 x a)
theorem cK3.s (h : cK3 M' M) : slc 16 M' = slc 16 M := slc_ex (fun k hk => h _ (by omega))
theorem mA.fr (h : mA tp i M) (h8 : M' 208 = M 208) (h14 : M' 214 = M 214) : mA tp i M' := by
  obtain ⟨p, b, hx, hp⟩ := h
  refine ⟨p, b, ?_, hp⟩
  unfold mX at *
  rw [h8, h14]; exact hx
theorem mB.fr (h : mB tp i M) (h8 : M' 208 = M 208) (h14 : M' 214 = M 214) : mB tp i M' := by
  obtain ⟨p, hx⟩ := h
  refine ⟨p, ?_⟩
  unfold mX at *
  rw [h8, h14]; exact hx
theorem jO.bad (h1 : cF Mc M) (h2 : mG9 Mr M') (hz : tz (slc 16 Mc)) (hc : cP tp m i Mc) (hb : mB tp i Mr) : jO tp m A M M' 0 Mc Mr := ⟨h1, h2, Or.inl ⟨rfl, hz, i, hc, hb⟩⟩
theorem jO.ok1 (h1 : cF Mc M) (h2 : mG9 Mr M') (hc : cP tp m i Mc) (ha : mA tp i Mr) (hs : slc 16 Mc = A'.2.2.1) (hR : rOK A' (Mr 209)) (hO : okA A') (hL : A'.2.2.2 = A.2.2.2 ∧ A'.2.2.1 0 10 = A.2.2.1 0 10) : jO tp m A M M' 1 Mc Mr := ⟨h1, h2, Or.inr ⟨rfl, i, A', hc, ha, hs, hR, hO, hL⟩⟩
theorem m_rd105 {N d : Nat} (hd : d < 8) : ∀ (n k t : Nat) (M : Mm), t + k = 6 → k < n → ∃ M', f_X11_readDiner_105 N n (Int32.ofNat d) (Int32.ofNat t) M = some (1, M') ∧ (∀ x, x ≠ 209 → M' x = M x) ∧ M' 209 0 = M 209 0 + 1 ∧ (∀ u, t ≤ u → u < 6 → M' 209 (12 + 9 * d + 3 + u) = 0) ∧ ∀ j, j ≠ 0 → (j < 12 + 9 * d + 3 + t ∨ 12 + 9 * d + 9 ≤ j) → M' 209 j = M 209 j := by
  intro n
  induction n with
  | zero => intro k t M _ h; omega
  | succ n ih =>
    intro k t M htk hk
    rw [f_X11_readDiner_105]
    match k with
    | 0 =>
      rw [if_pos (show (6 : Int32) ≤ Int32.ofNat t from i32_len (k := 6) (by omega) (by omega))]
      simp only [grd, lt, show inb (0 : Int32) 2107 = true from by decide, if_true, show (0 : Int32).toNatClampNeg = 0 from by decide]
      exact ⟨_, rfl, fun x hx => wr_nrow hx, wr_eq, fun u h1 h2 => by omega, fun j hj _ => wr_nk hj⟩
    | k + 1 =>
      rw [if_neg (show ¬ (6 : Int32) ≤ Int32.ofNat t from i32_nle (n := 6) (by omega) (by omega))]
      have e3 : (3 : Int32) + Int32.ofNat t = Int32.ofNat (3 + t) := i32_addN 3 t
      have e4 : ((12 : Int32) + (9 : Int32) * Int32.ofNat d) + Int32.ofNat (3 + t) = Int32.ofNat (12 + 9 * d + (3 + t)) := m_dAt d (3 + t)
      simp only [f_X11_dinerAt, e3, e4, bnd, grd, lt, inb_ofNat (show 12 + 9 * d + (3 + t) < 2107 by omega) (by omega), if_true, i32_clampN (show 12 + 9 * d + (3 + t) < 2147483648 by omega), i32_succ]
      obtain ⟨M', g1, g2, g3, g4, g5⟩ := ih k (t + 1) (wr M 209 (12 + 9 * d + (3 + t)) 0) (by omega) (by omega)
      refine ⟨M', g1, fun x hx => by rw [g2 x hx, wr_nrow hx], by rw [g3, wr_nk (by omega)], fun u h1 h2 => ?_, fun j hj h9 => by rw [g5 j hj (by omega), wr_nk (by omega)]⟩
      by_cases e : u = t
      · subst e
        rw [g5 _ (by omega) (by omega), show 12 + 9 * d + 3 + u = 12 + 9 * d + (3 + u) by omega, wr_eq]
      · exact g4 u (by omega) h2
theorem m_rd {is : Int32} {s tv i : Nat} (hnd : nd < 8) (hs : s < 10) (hdin : f_X11_dinerIn 20000 (Int32.ofNat s) M = some (-1, M)) (his : is = 0 ∨ is = 1) (hp : ∀ M1 : Mm, M1 208 = M 208 → M1 214 = M 214 → ∃ M2, f_X11_passes 20000 1000015 M1 = some (is, M2) ∧ mA tp i M2 ∧ mE M2 M1) : ∃ M', f_X11_readDiner_40 20000 (Int32.ofNat nd) (Int32.ofNat tv) (Int32.ofNat s) M = some (1, M') ∧ mA tp i M' ∧ mG9 M' M ∧ M' 209 0 = M 209 0 + 1 ∧ M' 209 (12 + 9 * nd) = Int32.ofNat s ∧ M' 209 (12 + 9 * nd + 1) = Int32.ofNat tv ∧ M' 209 (12 + 9 * nd + 2) = is ∧ (∀ t, t < 6 → M' 209 (12 + 9 * nd + 3 + t) = 0) ∧ ∀ j, j ≠ 0 → (j < 12 + 9 * nd ∨ 12 + 9 * nd + 9 ≤ j) → M' 209 j = M 209 j := by
  have d0 : ((12 : Int32) + (9 : Int32) * Int32.ofNat nd) + (0 : Int32) = Int32.ofNat (12 + 9 * nd) := m_dAt nd 0
  have d1 : ((12 : Int32) + (9 : Int32) * Int32.ofNat nd) + (1 : Int32) = Int32.ofNat (12 + 9 * nd + 1) := m_dAt nd 1
  have d2 : ((12 : Int32) + (9 : Int32) * Int32.ofNat nd) + (2 : Int32) = Int32.ofNat (12 + 9 * nd + 2) := m_dAt nd 2
  obtain ⟨M2, p1, p2, p3⟩ := hp (wr (wr M 209 (12 + 9 * nd) (Int32.ofNat s)) 209 (12 + 9 * nd + 1) (Int32.ofNat tv)) (by rw [wr_nrow (by decide), wr_nrow (by decide)]) (by rw [wr_nrow (by decide), wr_nrow (by decide)])
  obtain ⟨M3, g1, g2, g3, g4, g5⟩ := m_rd105 (N := 20000) hnd 20000 6 0 (wr M2 209 (12 + 9 * nd + 2) is) (by omega) (by omega)
  have e9 : M2 209 = wr (wr M 209 (12 + 9 * nd) (Int32.ofNat s)) 209 (12 + 9 * nd + 1) (Int32.ofNat tv) 209 := p3.1 209 (by decide)
  have hj : ∀ j, j ≠ 0 → (j < 12 + 9 * nd ∨ 12 + 9 * nd + 9 ≤ j) → M3 209 j = M 209 j := fun j h0 h9 => by
    rw [g5 j h0 (by omega), wr_nk (by omega), e9, wr_nk (by omega), wr_nk (by omega)]
  refine ⟨M3, ?_, p2.fr (by rw [g2 208 (by decide), wr_nrow (by decide)]) (by rw [g2 214 (by decide), wr_nrow (by decide)]), ⟨fun x h1 h2 => ?_, fun j h1 h2 => ?_, hj 3 (by decide) (by omega), fun j h9 => hj j (by omega) (by omega)⟩, ?_, ?_, ?_, ?_, fun t ht => g4 t (by omega) ht, hj⟩
  · unfold f_X11_readDiner_40
    rw [if_neg (i32_nn (by omega)), hdin]
    simp only [bnd, if_true, f_X11_dinerAt, d0, d1, d2, grd, lt, inb_ofNat (show 12 + 9 * nd < 2107 by omega) (by omega), inb_ofNat (show 12 + 9 * nd + 1 < 2107 by omega) (by omega), inb_ofNat (show 12 + 9 * nd + 2 < 2107 by omega) (by omega), i32_clampN (show 12 + 9 * nd < 2147483648 by omega), i32_clampN (show 12 + 9 * nd + 1 < 2147483648 by omega), i32_clampN (show 12 + 9 * nd + 2 < 2147483648 by omega), p1]
    rcases his with rfl | rfl
    · rw [if_pos rfl]; exact g1
    · rw [if_neg (by decide)]; exact g1
  · rw [g2 x h2, wr_nrow h2, p3.1 x h1, wr_nrow h2, wr_nrow h2]
  · rw [g2 208 (by decide), wr_nrow (by decide), p3.2 j h1 h2, wr_nrow (by decide), wr_nrow (by decide)]
  · rw [g3, wr_nk (by omega), e9, wr_nk (by omega), wr_nk (by omega)]
  · rw [g5 _ (by omega) (by omega), wr_nk (by omega), e9, wr_nk (by omega), wr_eq]
  · rw [g5 _ (by omega) (by omega), wr_nk (by omega), e9, wr_eq]
  · rw [g5 _ (by omega) (by omega), wr_eq]
theorem nb1 {N : Nat} {a b : Int32} : f_X11_readDiner_40 N a b (-1) M = some (0, M) := by
  unfold f_X11_readDiner_40
  rw [if_pos (by decide)]
/-- the line behind the word diner -/
theorem J_diner (hT : tX tp) (hc : cP tp m i M) (ha : mA tp i M') (hs : slc 16 M = T) (hR : RW nd nc T L (M' 209)) (hO : okA (nd, nc, T, L)) (hnd : nd < 8) : ∃ r Mc Mr, f_X7_readsDiner 20000 16 M = some (r, Mc) ∧ f_X11_readDiner 20000 M' = some (r, Mr) ∧ jO tp m (nd, nc, T, L) M M' r Mc Mr := by
  have hz : tz T := hR.2.2.2.2.2.2.2
  have hm0 : M' 209 0 = Int32.ofNat nd := hR.1.2.2.2.2.1
  have n8 : ¬ Int32.ofNat nd = (8 : Int32) := fun h9 => by have := (i32_eqN (b := 8) (by omega) (by omega)).mp h9; omega
  have n10 : ¬ (1 : Int32) = 0 := by decide
  have nn1 : ¬ (0 : Int32) ≤ -1 := by decide
  unfold f_X7_readsDiner f_X11_readDiner
  rw [m_diners, hm0]
  simp only [bnd]
  rw [if_neg n8]
  by_cases w1 : kd9 tp (ps9 tp i) = 257
  · obtain ⟨M1, a1, a2, a3⟩ := c_e1 (N := 20000) (k := 257) hT hc w1 (by decide)
    rw [show f_X9_eats 20000 257 M = some (1, M1) from a1]
    simp only [if_neg n10]
    by_cases g1 : gNu tp 0 9 (ps9 tp (i + 1))
    · obtain ⟨M2, b1, b2, b3⟩ := c_n1 (N := 20000) hT a2 g1 (by decide)
      obtain ⟨R1, c1, c2, -, c4⟩ := m_a1 (N := 20000) (k := 1) (s := 13) (by decide) hT rfl (by decide) ha w1 g1 (by decide) (by decide)
      have hv := g1.2.2
      rw [show f_X9_eatsNumber 20000 0 9 M1 = some (Int32.ofNat (vl9 tp (ps9 tp (i + 1))), M2) from b1, show f_X11_after 20000 1000013 0 9 M' = some (Int32.ofNat (vl9 tp (ps9 tp (i + 1))), R1) from c1]
      simp only [if_neg (i32_nm1 (show vl9 tp (ps9 tp (i + 1)) < 2147483648 by omega)), if_pos (i32_ge0 (show vl9 tp (ps9 tp (i + 1)) < 2147483648 by omega))]
      by_cases w2 : kd9 tp (ps9 tp (i + 2)) = 258
      · obtain ⟨M3, d1, d2, d3⟩ := c_e1 (N := 20000) (k := 258) hT b2 w2 (by decide)
        rw [show f_X9_eats 20000 258 M2 = some (1, M3) from d1]
        simp only [if_neg n10, lt]
        rw [show M3 3 4 = Int32.ofNat (i + 2 + 1) from d2.2.2.2.1]
        by_cases g2 : gNu tp 0 9 (ps9 tp (i + 2 + 1))
        · obtain ⟨M4, e1, e2, e3⟩ := c_n1 (N := 20000) hT d2 g2 (by decide)
          obtain ⟨R2, f1, f2, f3, f4⟩ := m_a1 (N := 20000) (k := 2) (s := 14) (by decide) hT rfl (by decide) c2 w2 g2 (by decide) (by decide)
          have hv2 := g2.2.2
          rw [show f_X9_eatsNumber 20000 0 9 M3 = some (Int32.ofNat (vl9 tp (ps9 tp (i + 2 + 1))), M4) from e1, show f_X11_after 20000 1000014 0 9 R1 = some (Int32.ofNat (vl9 tp (ps9 tp (i + 2 + 1))), R2) from f1]
          generalize hsv : vl9 tp (ps9 tp (i + 2 + 1)) = s at hv2 ⊢
          generalize htv : vl9 tp (ps9 tp (i + 1)) = tv at hv ⊢
          have s4 : slc 16 M4 = T := by rw [e3.s, d3.s, b3.s, a3.s]; exact hs
          have hR2 : RW nd nc T L (R2 209) := by rw [f4.1 209 (by decide), c4.1 209 (by decide)]; exact hR
          have hdA : f_X6_dinerAt 20000 16 (Int32.ofNat s) M4 = some (T 1 s, M4) := by
            rw [c_dinerAt, s4]
            unfold sDinerAt
            rw [if_neg (i32_nn (by omega)), if_neg (show ¬ (10 : Int32) ≤ Int32.ofNat s from i32_nle (n := 10) (by omega) (by omega)), i32_clampN (by omega)]
          have hdI : f_X11_dinerIn 20000 (Int32.ofNat s) R2 = some (T 1 s, R2) := m_dinerIn hR2.1 hR2.2.2.1 (by omega)
          have fc : cF M4 M := (e3.trans (d3.trans (b3.trans a3))).f
          have fm : mG9 R2 M' := f4.f.trans c4.f
          simp only [if_neg (i32_nm1 (show s < 2147483648 by omega)), hdA]
          by_cases q : T 1 s = -1
          · rw [q] at hdI
            obtain ⟨kd, hkd, ekd⟩ := hO.2.1
            have ekd' : T 0 2 = Int32.ofNat kd := ekd
            have h40 : M4 16 0 = Int32.ofNat nd := by
              have : slc 16 M4 0 0 = T 0 0 := by rw [s4]
              rw [slc_at (by decide)] at this
              exact this.trans hR.1.2.2.1
            rw [if_pos q]
            by_cases w3 : kd9 tp (ps9 tp (i + 2 + 1 + 1)) = 259
            · obtain ⟨M5, x1, x2, x3⟩ := c_e1 (N := 20000) (k := 259) hT e2 w3 (by decide)
              obtain ⟨M6, y1, y2, y3⟩ := c_sits (N := 20000) (a := 16) (nd := nd) (s := s) (v2 := Int32.ofNat tv) (v3 := 1) (M := M5) (by rw [x3 16 (by decide)]; exact h40) hnd (by omega)
              obtain ⟨R3, z1, z2, z3, z4, z5, z6, z7, z8, z9⟩ := m_rd (tp := tp) (i := i + 2 + 1 + 1 + 1) (is := 1) (tv := tv) hnd (show s < 10 by omega) hdI (Or.inr rfl) (fun Mx h8 h14 => m_p1 (N := 20000) (k := 3) (s := 15) (by decide) hT rfl (by decide) (f2.fr h8 h14) w3)
              rw [show f_X9_eats 20000 259 M4 = some (1, M5) from x1]
              simp only [y1]
              refine ⟨1, M6, R3, rfl, z1, jO.ok1 (A' := (nd + 1, nc, tSit T nd s (Int32.ofNat tv) (dSet (T 0 2) nd 1), L)) (cF.trans (fun x _ hx => y3 x (by omega)) (x3.f.trans fc)) (z3.trans fm) (x2.fr (y3 4 (by decide)) (y3 5 (by decide)) (y3 6 (by decide)) (by rw [y3 3 (by decide)]; exact x2.2.2.2.1) x2.2.2.2.2) z2 ?_ ?_ (ok_sit hnd hO) ⟨rfl, show tSit T nd s (Int32.ofNat tv) (dSet (T 0 2) nd 1) 0 10 = T 0 10 from tSit_10⟩⟩
              · rw [y2, x3.s, s4, if_neg n10]
                unfold dSet
                rw [if_neg n10]
              · exact RW_sit hR2 hO.2.2.1 hnd (by omega) q (by omega) (Or.inr rfl) (by rw [z4, hR2.1.2.2.2.2.1, i32_succ]) z5 z6 z7 z8 z9
            · obtain ⟨M6, y1, y2, y3⟩ := c_sits (N := 20000) (a := 16) (nd := nd) (s := s) (v2 := Int32.ofNat tv) (v3 := 0) (M := M4) h40 hnd (by omega)
              obtain ⟨R3, z1, z2, z3, z4, z5, z6, z7, z8, z9⟩ := m_rd (tp := tp) (i := i + 2 + 1 + 1) (is := 0) (tv := tv) hnd (show s < 10 by omega) hdI (Or.inl rfl) (fun Mx h8 h14 => by
                obtain ⟨Mz, u1, u2, -, u4⟩ := m_p0 (N := 20000) (k := 3) (s := 15) (by decide) hT rfl (by decide) (f2.fr h8 h14) w3
                exact ⟨Mz, u1, u2, u4⟩)
              rw [show f_X9_eats 20000 259 M4 = some (0, M4) from c_e0 (k := 259) hT e2 w3 (by decide)]
              simp only [y1]
              refine ⟨1, M6, R3, rfl, z1, jO.ok1 (A' := (nd + 1, nc, tSit T nd s (Int32.ofNat tv) (dSet (T 0 2) nd 0), L)) (cF.trans (fun x _ hx => y3 x (by omega)) fc) (z3.trans fm) (e2.fr (y3 4 (by decide)) (y3 5 (by decide)) (y3 6 (by decide)) (by rw [y3 3 (by decide)]; exact e2.2.2.2.1) e2.2.2.2.2) z2 ?_ ?_ (ok_sit hnd hO) ⟨rfl, show tSit T nd s (Int32.ofNat tv) (dSet (T 0 2) nd 0) 0 10 = T 0 10 from tSit_10⟩⟩
              · rw [y2, s4, if_pos rfl, dSet_0 hnd hkd ekd']
              · exact RW_sit hR2 hO.2.2.1 hnd (by omega) q (by omega) (Or.inl rfl) (by rw [z4, hR2.1.2.2.2.2.1, i32_succ]) z5 z6 z7 z8 z9
          · rw [if_neg q]
            refine ⟨0, _, R2, rfl, ?_, jO.bad (cF.trans (fun x hx _ => wr_nrow hx) fc) fm (by rw [slc_wr (by omega), s4]; exact hz) (e2.fr (j := i + 2 + 1) (wr_nrow (by decide)) (wr_nrow (by decide)) (wr_nrow (by decide)) wr_eq d2.2.2.2.2) f3⟩
            unfold f_X11_readDiner_40
            rw [if_neg (i32_nn (by omega)), hdI]
            simp only [bnd, if_neg q]
        · obtain ⟨R2, f1, f2, f4⟩ := m_a2 (N := 20000) (k := 2) (s := 14) (by decide) hT rfl (by decide) c2 w2 g2 (by decide) (by decide)
          rw [show f_X9_eatsNumber 20000 0 9 M3 = some (-1, M3) from c_n0 (lo := 0) (hi := 9) hT d2 g2 (by decide), show f_X11_after 20000 1000014 0 9 R1 = some (-1, R2) from f1]
          simp only [if_true]
          exact ⟨0, M3, R2, rfl, nb1, jO.bad (d3.trans (b3.trans a3)).f (f4.f.trans c4.f) (by rw [d3.s, b3.s, a3.s, hs]; exact hz) d2 f2⟩
      · obtain ⟨R2, f1, f2, f4⟩ := m_a0 (N := 20000) (k := 2) (s := 14) (lo := 0) (hi := 9) (by decide) hT rfl (by decide) c2 w2
        rw [show f_X9_eats 20000 258 M2 = some (0, M2) from c_e0 (k := 258) hT b2 w2 (by decide), show f_X11_after 20000 1000014 0 9 R1 = some (-1, R2) from f1]
        simp only [if_true]
        exact ⟨0, M2, R2, rfl, nb1, jO.bad (b3.trans a3).f (f4.f.trans c4.f) (by rw [b3.s, a3.s, hs]; exact hz) b2 f2⟩
    · obtain ⟨R1, c1, c2, c4⟩ := m_a2 (N := 20000) (k := 1) (s := 13) (by decide) hT rfl (by decide) ha w1 g1 (by decide) (by decide)
      rw [show f_X9_eatsNumber 20000 0 9 M1 = some (-1, M1) from c_n0 (lo := 0) (hi := 9) hT a2 g1 (by decide), show f_X11_after 20000 1000013 0 9 M' = some (-1, R1) from c1]
      simp only [if_true, if_neg nn1]
      exact ⟨0, M1, R1, rfl, nb1, jO.bad a3.f c4.f (by rw [a3.s, hs]; exact hz) a2 c2⟩
  · obtain ⟨R1, c1, c2, c4⟩ := m_a0 (N := 20000) (k := 1) (s := 13) (lo := 0) (hi := 9) (by decide) hT rfl (by decide) ha w1
    rw [show f_X9_eats 20000 257 M = some (0, M) from c_e0 (k := 257) hT hc w1 (by decide), show f_X11_after 20000 1000013 0 9 M' = some (-1, R1) from c1]
    simp only [if_true, if_neg nn1]
    exact ⟨0, M, R1, rfl, nb1, jO.bad cF.rf c4.f (by rw [hs]; exact hz) hc c2⟩
end RD
