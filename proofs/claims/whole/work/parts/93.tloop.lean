/-! The lines of a table's text, one behind another. -/
def jE (tp : List Nat) (m : Nat) (A : TbS) (M M' : Mm) (r r' : Int32) (Mc Mr : Mm) : Prop := cF Mc M ∧ mG9 Mr M' ∧ ((r = 0 ∧ r' = -1 ∧ tz (slc 16 Mc) ∧ ∃ i, cP tp m i Mc ∧ mB tp i Mr) ∨ (r = 1 ∧ ∃ q A', q ≤ 14 ∧ r' = Int32.ofNat q ∧ slc 16 Mc = A'.2.2.1 ∧ rOK A' (Mr 209) ∧ okA A' ∧ A'.2.2.2 = A.2.2.2 ∧ A'.2.2.1 0 10 = A.2.2.1 0 10))
section TQ
variable {tp : List Nat} {M M' M1 M2 Mc Mr : Mm} {i m nd nc : Nat} {T : Tb} {L : List Row} {A A' : TbS}
/-- both at the end of the text, or both not -/
theorem m_endU {r : Int32 × Mm} {f : Option (Int32 × Mm)} (hT : tX tp) (h : mX tp (ps9 tp i) (ps9 tp i) M) (hk : kd9 tp (ps9 tp i) = 303) : (if (M 208 10) = (M 208 11) then some r else f) = some r := by
  have h1 := (kd_le hT).2.mp hk
  have h2 := ps_len (tp := tp) i
  rw [h.2.1, h.1, show ps9 tp i = tp.length by omega, if_pos rfl]
theorem m_endN {r : Int32 × Mm} {f : Option (Int32 × Mm)} (hT : tX tp) (h : mX tp (ps9 tp i) (ps9 tp i) M) (hk : ¬ kd9 tp (ps9 tp i) = 303) : (if (M 208 10) = (M 208 11) then some r else f) = f := by
  have hl4 := hT.1
  have h1 := kd_lt hT hk
  rw [h.2.1, h.1, if_neg (fun h9 => by have := (i32_eqN (by omega) (by omega)).mp h9; omega)]
theorem i32_303 (hT : tX tp) (hk : ¬ kd9 tp (ps9 tp i) = 303) : ¬ Int32.ofNat (kd9 tp (ps9 tp i)) = (303 : Int32) := fun h9 => hk ((i32_eqN (b := 303) (by have := (kd_le (q := ps9 tp i) hT).1; omega) (by decide)).mp h9)
/-- the reference at a semicolon -/
theorem m_semi1 {N : Nat} (hT : tX tp) (h : mX tp (ps9 tp i) (ps9 tp i) M) (hk : kd9 tp (ps9 tp i) = 59) : f_X11_isAt N 59 59 M = some (1, M) ∧ wr M 208 10 (M 208 10 + 1) = wr M 208 10 (Int32.ofNat (ps9 tp i + 1)) ∧ mA tp (i + 1) (wr M 208 10 (Int32.ofNat (ps9 tp i + 1))) ∧ mE (wr M 208 10 (Int32.ofNat (ps9 tp i + 1))) M := by
  have hq := (kd_sign (c := 59) hT (by decide) (by decide) (by decide)).mp hk
  obtain ⟨y1, y2⟩ := h.mv (p' := ps9 tp i + 1) (by omega)
  refine ⟨m_isAt1 (lo := 59) (hi := 59) hT h (by decide) (by decide) ⟨hq.1, by omega, by omega⟩, by rw [h.2.1, i32_succ], ⟨_, _, y1, ?_⟩, y2⟩
  rw [ps9, (ev_S hq.1 (by rw [hq.2]; decide) (by rw [hq.2]; decide)).2.2]
theorem m_semi0 {N : Nat} (hT : tX tp) (h : mX tp (ps9 tp i) (ps9 tp i) M) (hk : ¬ kd9 tp (ps9 tp i) = 59) : f_X11_isAt N 59 59 M = some (0, M) :=
  m_isAt0 (lo := 59) (hi := 59) hT h (by decide) (by decide) (fun h9 => hk ((kd_sign (c := 59) hT (by decide) (by decide) (by decide)).mpr ⟨h9.1, by omega⟩))
theorem J_tloop (hT : tX tp) : ∀ (n k ln i : Nat) (M M' : Mm) (A : TbS), ln + k = 14 → k < n → cP tp m i M → mA tp i M' → slc 16 M = A.2.2.1 → rOK A (M' 209) → okA A → ∃ r r' Mc Mr, f_X7_reads_14 20000 16 n (Int32.ofNat ln) M = some (r, Mc) ∧ f_X11_readAll_28 20000 n 1 (Int32.ofNat ln) M' = some (r', Mr) ∧ jE tp m A M M' r r' Mc Mr := by
  have n10 : ¬ (1 : Int32) = 0 := by decide
  intro n
  induction n with
  | zero => intro k ln i M M' A _ h; omega
  | succ n ih =>
    intro k ln i M M' A hlk hk hc ha hs hR hO
    have hz : tz A.2.2.1 := hR.2.2.2.2.2.2.2
    obtain ⟨R1, l1, l2, l3⟩ := m_letA (N := 20000) (by decide) hT ha
    have eL : f_X11_readLine 20000 1 (Int32.ofNat ln) M' = f_X11_readLine_16 20000 1 (Int32.ofNat ln) (Int32.ofNat ln) 14 R1 := by
      unfold f_X11_readLine
      rw [l1]
      simp only [bnd, if_neg n10]
    rw [f_X7_reads_14, f_X11_readAll_28, eL]
    match k with
    | 0 =>
      rw [if_pos (show (14 : Int32) ≤ Int32.ofNat ln from i32_len (k := 14) (by omega) (by omega))]
      unfold f_X11_readLine_16 f_X11_readLine_45
      rw [if_pos (show (14 : Int32) ≤ Int32.ofNat ln from i32_len (k := 14) (by omega) (by omega))]
      simp only [bnd, if_true]
      exact ⟨0, -1, M, R1, rfl, rfl, cF.rf, l3.f, Or.inl ⟨rfl, rfl, by rw [hs]; exact hz, i, hc, l2.b⟩⟩
    | k + 1 =>
      have hln : ¬ (14 : Int32) ≤ Int32.ofNat ln := i32_nle (n := 14) (by omega) (by omega)
      rw [if_neg hln]
      obtain ⟨r, Mc, Mr, b1, b2, b3⟩ := J_line (nd := A.1) (nc := A.2.1) (T := A.2.2.1) (L := A.2.2.2) hT hc l2 hs (by rw [l3.1 209 (by decide)]; exact hR) hO
      have e16 : f_X11_readLine_16 20000 1 (Int32.ofNat ln) (Int32.ofNat ln) 14 R1 = some (r, Mr) := by
        unfold f_X11_readLine_16
        rw [if_neg hln, if_neg n10, b2]
        simp only [bnd]
        rcases b3.2.2 with ⟨e, -⟩ | ⟨e, -⟩
        · subst e; rw [if_pos rfl]; rfl
        · subst e; rw [if_neg n10]; rfl
      rw [b1, e16]
      simp only [bnd]
      obtain ⟨c1, c2, c3⟩ := b3
      rcases c3 with ⟨e, d1, i2, d2, d3⟩ | ⟨e, i2, A2, d1, d2, d3, d4, d5, d6, d7⟩
      · subst e
        simp only [if_true]
        exact ⟨0, -1, Mc, Mr, rfl, rfl, c1, c2.trans l3.f, Or.inl ⟨rfl, rfl, d1, i2, d2, d3⟩⟩
      · subst e
        simp only [if_neg n10]
        obtain ⟨R3, x1, x2, x3⟩ := m_bl (N := 20000) (by decide) hT d2
        rw [c_k 20000 d1, x1]
        simp only []
        have hR3 : rOK A2 (R3 209) := by rw [x3.1 209 (by decide)]; exact d4
        by_cases e3 : kd9 tp (ps9 tp i2) = 303
        · rw [m_endU hT x2 e3, e3, if_pos (show Int32.ofNat 303 = (303 : Int32) from rfl)]
          exact ⟨1, _, Mc, R3, rfl, rfl, c1, x3.f.trans (c2.trans l3.f), Or.inr ⟨rfl, ln + 1, A2, by omega, i32_succ ln, d3, hR3, d5, d6, d7⟩⟩
        · rw [m_endN hT x2 e3, if_neg (i32_303 hT e3)]
          by_cases e5 : kd9 tp (ps9 tp i2) = 59
          · obtain ⟨M3, y1, y2, y3⟩ := c_e1 (N := 20000) (k := 59) hT d1 e5 (by decide)
            obtain ⟨z1, z2, z3, z4⟩ := m_semi1 (N := 20000) hT x2 e5
            rw [show f_X9_eats 20000 59 Mc = some (1, M3) from y1, z1]
            simp only [if_neg n10, lt]
            rw [z2, i32_succ]
            obtain ⟨r, r', Mc', Mr', u1, u2, u3, u4, u5⟩ := ih k (ln + 1) (i2 + 1) M3 (wr R3 208 10 (Int32.ofNat (ps9 tp i2 + 1))) A2 (by omega) (by omega) y2 z3 (by rw [y3.s]; exact d3) (by rw [wr_nrow (by decide)]; exact hR3) d5
            refine ⟨r, r', Mc', Mr', u1, u2, u3.trans (y3.f.trans c1), u4.trans (z4.f.trans (x3.f.trans (c2.trans l3.f))), ?_⟩
            rcases u5 with h | ⟨v1, q, A3, v2, v3, v4, v5, v6, v7, v8⟩
            · exact Or.inl h
            · exact Or.inr ⟨v1, q, A3, v2, v3, v4, v5, v6, v7.trans d6, v8.trans d7⟩
          · rw [show f_X9_eats 20000 59 Mc = some (0, Mc) from c_ne 20000 hT d1 59 e5 (by decide), m_semi0 hT x2 e5]
            simp only [if_true]
            exact ⟨0, -1, Mc, R3, rfl, rfl, c1, x3.f.trans (c2.trans l3.f), Or.inl ⟨rfl, rfl, by rw [d3]; exact hR3.2.2.2.2.2.2.2, i2, d1, ⟨_, x2⟩⟩⟩
/-- the whole text -/
theorem J_tread (hT : tX tp) (hc : cP tp m 0 M) (ha : mA tp 0 M') (hs : slc 16 M = A.2.2.1) (hR : rOK A (M' 209)) (hO : okA A) : ∃ r r' Mc Mr, f_X7_reads 20000 16 M = some (r, Mc) ∧ bnd (f_X11_blanks 20000 M') (fun r5 M6 => (if (M6 208 10) = (M6 208 11) then some ((0 : Int32), M6) else f_X11_readAll_28 20000 20000 1 (0 : Int32) M6)) = some (r', Mr) ∧ jE tp m A M M' r r' Mc Mr := by
  obtain ⟨R3, x1, x2, x3⟩ := m_bl (N := 20000) (by decide) hT ha
  unfold f_X7_reads
  rw [c_k 20000 hc, x1]
  simp only [bnd]
  have hR3 : rOK A (R3 209) := by rw [x3.1 209 (by decide)]; exact hR
  by_cases e3 : kd9 tp (ps9 tp 0) = 303
  · rw [m_endU hT x2 e3, e3, if_pos (show Int32.ofNat 303 = (303 : Int32) from rfl)]
    exact ⟨1, _, M, R3, rfl, rfl, cF.rf, x3.f, Or.inr ⟨rfl, 0, A, by omega, rfl, hs, hR3, hO, rfl, rfl⟩⟩
  · rw [m_endN hT x2 e3, if_neg (i32_303 hT e3)]
    obtain ⟨r, r', Mc', Mr', u1, u2, u3, u4, u5⟩ := J_tloop (m := m) hT 20000 14 0 0 M R3 A (by omega) (by omega) hc ⟨_, _, x2, bl_ps⟩ hs hR3 hO
    exact ⟨r, r', Mc', Mr', u1, u2, u3, u4.trans x3.f, u5⟩
end TQ
