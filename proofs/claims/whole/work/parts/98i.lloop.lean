/-! The lines of a law's text; the law that comes of them. -/
def lF (tp : List Nat) (m : Nat) (r r' : Int32) (Mc Mr : Mm) : Prop := (r = 0 ∧ r' = -1 ∧ ∃ i, cP tp m i Mc ∧ mB tp i Mr) ∨ (r = 1 ∧ ∃ q f cs rs, q ≤ 12 ∧ r' = Int32.ofNat q ∧ Mc 31 1 = Int32.ofNat q ∧ cs ≤ 400 ∧ rs ≤ 400 ∧ lW9 f q cs rs Mc Mr)
section LO
variable {tp : List Nat} {M M' M1 M2 Mc Mr R : Mm} {i m cs rs dep B ln : Nat} {f : Nat → Ln9}
theorem mE.lw (h : mE M2 M') (hW : lW9 f ln cs rs M M') : lW9 f ln cs rs M M2 := hW.ex (fun _ _ _ _ => rfl) (fun _ _ => rfl) (fun j _ _ => by rw [h.1 209 (by decide)]) (fun j _ => by rw [h.rc]) (Nat.le_refl _) (Nat.le_refl _)
theorem J_lloop (hT : tX tp) : ∀ (n k ln : Nat) (M M' : Mm), ln + k = 12 → k < n → lE tp m ln M M' → ∃ r r' Mc Mr, f_X2_reads_18 20000 31 n (Int32.ofNat ln) M = some (r, Mc) ∧ f_X11_readAll_28 20000 n 0 (Int32.ofNat ln) M' = some (r', Mr) ∧ cV Mc M ∧ mV Mr M' ∧ Mc 31 0 = M 31 0 ∧ lF tp m r r' Mc Mr := by
  have n10 : ¬ (1 : Int32) = 0 := by decide
  have hl4 := hT.1
  intro n
  induction n with
  | zero => intro k ln M M' _ h; omega
  | succ n ih =>
    intro k ln M M' hlk hk hE
    obtain ⟨i, cs, rs, f, hc, ha, h2, h1, h16, e1, e2, hW⟩ := hE
    obtain ⟨R1, l1, l2, l3⟩ := m_letA (N := 20000) (by decide) hT ha
    have eL : f_X11_readLine 20000 0 (Int32.ofNat ln) M' = f_X11_readLine_16 20000 0 (Int32.ofNat ln) (Int32.ofNat ln) 12 R1 := by
      unfold f_X11_readLine
      rw [l1, bnd_s, if_pos rfl]
    rw [f_X2_reads_18, f_X11_readAll_28, eL]
    match k with
    | 0 =>
      rw [if_pos (show (12 : Int32) ≤ Int32.ofNat ln from i32_len (k := 12) (by omega) (by omega))]
      unfold f_X11_readLine_16 f_X11_readLine_45
      rw [if_pos (show (12 : Int32) ≤ Int32.ofNat ln from i32_len (k := 12) (by omega) (by omega)), bnd_s, if_pos rfl]
      exact ⟨0, -1, M, R1, rfl, rfl, cV.rf, l3.v, rfl, Or.inl ⟨rfl, rfl, i, hc, l2.b⟩⟩
    | k + 1 =>
      have hln : ¬ (12 : Int32) ≤ Int32.ofNat ln := i32_nle (n := 12) (by omega) (by omega)
      rw [if_neg hln]
      obtain ⟨r, Mc, Mr, b1, b2, b3, b4, b5, b6⟩ := J_lline hT (show ln < 12 by omega) hc h2 h1 l2 (by rw [l3.s16]; exact h16) e1 e2 (l3.lw hW)
      have e16 : f_X11_readLine_16 20000 0 (Int32.ofNat ln) (Int32.ofNat ln) 12 R1 = some (r, Mr) := by
        unfold f_X11_readLine_16 f_X11_readLine_45 f_X11_readLine_41
        rw [if_neg hln, if_pos rfl, b2, bnd_s]
        rcases b6 with ⟨e, -⟩ | ⟨e, -⟩
        · subst e; rw [if_pos rfl]
        · subst e; rw [if_neg n10]
      rw [b1, e16, bnd_s, bnd_s]
      rcases b6 with ⟨e, j, d1, d2⟩ | ⟨e, hE2⟩
      · subst e
        rw [if_pos rfl, if_pos rfl]
        exact ⟨0, -1, Mc, Mr, rfl, rfl, b3, b4.trans l3.v, b5, Or.inl ⟨rfl, rfl, j, d1, d2⟩⟩
      · subst e
        rw [if_neg n10, if_neg n10]
        obtain ⟨j, cs', rs', f', d1, d2, d3, d4, d5, d6, d7, d8⟩ := hE2
        have hpj := ps_len (tp := tp) j
        obtain ⟨R3, x1, x2, x3⟩ := m_bl (N := 20000) (by decide) hT d2
        rw [c_k 20000 d1, bnd_s, x1, bnd_s]
        have hW3 := x3.lw d8
        by_cases e3 : kd9 tp (ps9 tp j) = 303
        · rw [m_endU hT x2 e3, e3, if_pos (show Int32.ofNat 303 = (303 : Int32) from rfl)]
          exact ⟨1, _, Mc, R3, rfl, rfl, b3, x3.v.trans (b4.trans l3.v), b5, Or.inr ⟨rfl, ln + 1, f', cs', rs', by omega, i32_succ ln, d4, by omega, by omega, hW3⟩⟩
        · rw [m_endN hT x2 e3, if_neg (i32_303 hT e3)]
          by_cases e5 : kd9 tp (ps9 tp j) = 59
          · have hlt := kd_lt hT e3
            have hgt := (ps_gt hlt).2
            obtain ⟨M3, y1, y2, y3⟩ := c_e1 (N := 20000) (k := 59) hT d1 e5 (by decide)
            obtain ⟨z1, z2, z3, z4⟩ := m_semi1 (N := 20000) hT x2 e5
            rw [show f_X9_eats 20000 59 Mc = some (1, M3) from y1, bnd_s, if_neg n10, z1, bnd_s, if_neg n10, lt_e, z2, i32_succ]
            have hW4 : lW9 f' (ln + 1) cs' rs' M3 (wr R3 208 10 (Int32.ofNat (ps9 tp j + 1))) := (z4.lw hW3).ex (fun x hx j9 _ => by rw [y3 x (by omega)]) (fun j9 _ => by rw [y3 36 (by decide)]) (fun _ _ _ => rfl) (fun _ _ => rfl) (Nat.le_refl _) (Nat.le_refl _)
            obtain ⟨r, r', Mc', Mr', u1, u2, u3, u4, u5, u6⟩ := ih k (ln + 1) M3 (wr R3 208 10 (Int32.ofNat (ps9 tp j + 1))) (by omega) (by omega) ⟨j + 1, cs', rs', f', y2, z3, by rw [y3 31 (by decide)]; exact d3, by rw [y3 31 (by decide)]; exact d4, by rw [z4.s16, x3.s16]; exact d5, by omega, by omega, hW4⟩
            exact ⟨r, r', Mc', Mr', u1, u2, u3.trans (y3.v.trans b3), u4.trans (z4.v.trans (x3.v.trans (b4.trans l3.v))), u5.trans (by rw [y3 31 (by decide)]; exact b5), u6⟩
          · rw [show f_X9_eats 20000 59 Mc = some (0, Mc) from c_ne 20000 hT d1 59 e5 (by decide), bnd_s, if_pos rfl, m_semi0 hT x2 e5, bnd_s, if_pos rfl]
            exact ⟨0, -1, Mc, R3, rfl, rfl, b3, x3.v.trans (b4.trans l3.v), b5, Or.inl ⟨rfl, rfl, j, d1, ⟨_, x2⟩⟩⟩
theorem J_lread (hT : tX tp) (hc : cP tp m 0 M) (ha : mA tp 0 M') (h16 : M' 208 16 = 0) : ∃ r r' Mc Mr, f_X2_reads 20000 31 M = some (r, Mc) ∧ bnd (f_X11_blanks 20000 M') (fun r5 M6 => (if (M6 208 10) = (M6 208 11) then some ((0 : Int32), M6) else f_X11_readAll_28 20000 20000 0 (0 : Int32) M6)) = some (r', Mr) ∧ cV Mc M ∧ mV Mr M' ∧ Mc 31 0 = 1 ∧ lF tp m r r' Mc Mr := by
  obtain ⟨R3, x1, x2, x3⟩ := m_bl (N := 20000) (by decide) hT ha
  obtain ⟨Ma, hMa⟩ : ∃ Ma, Ma = wr (wr (wr M 31 0 1) 31 1 0) 31 2 0 := ⟨_, rfl⟩
  have hcl : f_X1_clears 20000 31 M = some (0, Ma) := by rw [hMa]; rfl
  have hvM : ∀ x, x ≠ 31 → Ma x = M x := fun x hx => by rw [hMa, wr_nrow hx, wr_nrow hx, wr_nrow hx]
  have hcP : cP tp m 0 Ma := hc.fr (hvM 4 (by decide)) (hvM 5 (by decide)) (hvM 6 (by decide)) (by rw [hvM 3 (by decide)]; exact hc.2.2.2.1) hc.2.2.2.2
  have h310 : Ma 31 0 = 1 := by rw [hMa, wr_nk (by decide), wr_nk (by decide), wr_eq]
  have h311 : Ma 31 1 = Int32.ofNat 0 := by rw [hMa, wr_nk (by decide), wr_eq]; rfl
  have h312 : Ma 31 2 = Int32.ofNat 0 := by rw [hMa, wr_eq]; rfl
  have vM : cV Ma M := fun x _ h9 => hvM x (by omega)
  unfold f_X2_reads
  rw [hcl, bnd_s, c_k 20000 hcP, bnd_s, x1, bnd_s]
  by_cases e3 : kd9 tp (ps9 tp 0) = 303
  · rw [m_endU hT x2 e3, e3, if_pos (show Int32.ofNat 303 = (303 : Int32) from rfl)]
    exact ⟨1, _, Ma, R3, rfl, rfl, vM, x3.v, h310, Or.inr ⟨rfl, 0, fun _ => (0, 0, fun _ => true), 0, 0, by omega, rfl, h311, by omega, by omega, fun i hi => by omega⟩⟩
  · rw [m_endN hT x2 e3, if_neg (i32_303 hT e3)]
    obtain ⟨r, r', Mc', Mr', u1, u2, u3, u4, u5, u6⟩ := J_lloop (m := m) hT 20000 12 0 Ma R3 (by omega) (by omega) ⟨0, 0, 0, fun _ => (0, 0, fun _ => true), hcP, ⟨_, _, x2, bl_ps⟩, h312, h311, by rw [x3.s16]; exact h16, by omega, by omega, fun i hi => by omega⟩
    exact ⟨r, r', Mc', Mr', u1, u2, u3.trans vM, u4.trans x3.v, u5.trans h310, u6⟩
/-! the law of these lines -/
def wOf (f : Nat → Ln9) (q : Nat) : Lw := (List.range q).map f
theorem wOf_len {q : Nat} : (wOf f q).length = q := by unfold wOf; rw [List.length_map, List.length_range]
theorem wOf_at {q i : Nat} (h : i < (wOf f q).length) : (wOf f q)[i]'h = f i := by
  have h2 : i < ((List.range q).map f).length := h
  show ((List.range q).map f)[i]'h2 = f i
  rw [List.getElem_map, List.getElem_range]
theorem lw_ok {q : Nat} (hq : q ≤ 12) (hW : lW9 f q cs rs M M') : lwOK (wOf f q) := by
  refine ⟨by rw [wOf_len]; exact hq, fun i hi => ?_⟩
  rw [wOf_at]
  exact (hW i (by rw [wOf_len] at hi; exact hi)).1
theorem c_lawW {q : Nat} (hq : q ≤ 12) (h1 : M 31 1 = Int32.ofNat q) (hcs : cs ≤ 400) (hW : lW9 f q cs rs M M') : cLaw 31 (wOf f q) M := by
  refine ⟨by rw [wOf_len]; exact hq, by rw [wOf_len]; exact h1, fun i hi => ?_⟩
  rw [wOf_at]
  obtain ⟨a1, a2, a3, -, -, c0, c1, r0, r1, b1, b2, b3, b4, -, -, -, -, b9⟩ := hW i (by rw [wOf_len] at hi; exact hi)
  refine ⟨a2, a3, fun N2 hN2 => ?_⟩
  show f_X1_holds 20000 31 (M 34 i) (M 35 i) N2 = _
  rw [b1, b2, c_holdsR b3 (by omega)]
  have e36 : N2 (31 + 5) = M 36 := hN2
  rw [e36]
  unfold f_X1_holds_307
  rcases b9 with ⟨q1, -, q3⟩ | ⟨q1, -⟩
  · rw [q1, Nat.sub_self, q3]
    show (if ((1 : Int32) &&& 1) = 1 then some ((1 : Int32), N2) else some ((0 : Int32), N2)) = some (1, N2)
    rw [if_pos (by decide)]
  · obtain ⟨l', k1⟩ := q1.2 (fxM N2) 1 0 (by decide)
    rw [show cRun (M 36) (fxM N2) (c1 - c0) c0 (1, 0, 0) = _ from k1]
    dsimp only
    rw [tr_low]
    cases (f i).2.2 (fxM N2) <;> rfl
theorem m_lawW {q : Nat} {X : Mm} (hq : q ≤ 12) (hrs : rs ≤ 400) (hW : lW9 f q cs rs M M') (h3 : X 209 3 = 1) (h0 : X 209 409 = Int32.ofNat q) (hj : ∀ j, 410 ≤ j → j < 1258 → X 209 j = M' 209 (j + 849)) : wLaw (wOf f q) X := by
  refine Or.inr ⟨h3, by rw [wOf_len]; exact h0, fun i hi => ?_⟩
  rw [wOf_at]
  have hi' : i < q := by rw [wOf_len] at hi; exact hi
  obtain ⟨-, -, -, a4, a5, c0, c1, r0, r1, -, -, -, -, b5, b6, b7, b8, b9⟩ := hW i hi'
  refine ⟨by rw [hj _ (by omega) (by omega), show 410 + 4 * i + 849 = 1259 + 4 * i by omega]; exact a4, by rw [hj _ (by omega) (by omega), show 411 + 4 * i + 849 = 1260 + 4 * i by omega]; exact a5, fun M2 T nd nc L c d hR hM2 hc hd => ?_⟩
  have e2 : M2 209 (412 + 4 * i) = Int32.ofNat r0 := by rw [hM2 _ (by omega) (by omega), hj _ (by omega) (by omega), show 412 + 4 * i + 849 = 1261 + 4 * i by omega]; exact b5
  have e3 : M2 209 (413 + 4 * i) = Int32.ofNat r1 := by rw [hM2 _ (by omega) (by omega), hj _ (by omega) (by omega), show 413 + 4 * i + 849 = 1262 + 4 * i by omega]; exact b6
  rcases b9 with ⟨-, q2, q3⟩ | ⟨-, q2⟩
  · refine ⟨M2, ?_, fun _ _ => rfl⟩
    rw [m_hl0 (N := 20000) (s := r0) (by decide) (by omega) e2 (by rw [q2]; exact e3), q3]
    rfl
  · have h7 : sFx T (Int32.ofNat c) (Int32.ofNat d) 7 = 0 ∨ sFx T (Int32.ofNat c) (Int32.ofNat d) 7 = 1 := by
      show sDiet T (Int32.ofNat d) = 0 ∨ sDiet T (Int32.ofNat d) = 1
      unfold sDiet
      split
      · exact Or.inr rfl
      · exact Or.inl rfl
    obtain ⟨M3, k1, k2⟩ := m_hl1 (N := 20000) (c := rcM M') (ln := i) (v := b2i ((f i).2.2 (sFx T (Int32.ofNat c) (Int32.ofNat d)))) (by decide) (by omega) hR hc hd b7 (by omega) e2 e3 (fun j h1 h2 => by
      unfold rcM
      rw [hM2 _ (by omega) (by omega), hM2 _ (by omega) (by omega), hj _ (by omega) (by omega), hj _ (by omega) (by omega), show 458 + 2 * j + 849 = 1307 + 2 * j by omega, show 459 + 2 * j + 849 = 1308 + 2 * j by omega]
      exact ⟨rfl, rfl⟩) (q2.2 _ [] h7)
    refine ⟨M3, ?_, k2⟩
    rw [k1]
    cases (f i).2.2 (sFx T (Int32.ofNat c) (Int32.ofNat d)) <;> rfl
end LO
