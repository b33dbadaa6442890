/-! A law's text: sums. -/
/-- what comes of a sum's reading, from thing i on -/
def oS (tp : List Nat) (m i cs rs dep : Nat) (M M' : Mm) (r : Int32) (Mc Mr : Mm) : Prop := cW cs Mc M ∧ mW9 rs Mr M' ∧ ((r = 0 ∧ ∃ j, cP tp m j Mc ∧ mB tp j Mr) ∨ (r = 1 ∧ ∃ j cs' rs' v, lS tp m j cs' rs' dep Mc Mr ∧ ps9 tp i + 1 ≤ ps9 tp j ∧ cs' + ps9 tp i ≤ cs + ps9 tp j ∧ rs' + ps9 tp i ≤ rs + ps9 tp j ∧ inv8 v ∧ sumC (Mc 36) cs cs' v ∧ sumM (rcM Mr) rs rs' v))
section LU
variable {tp : List Nat} {M M' M1 M2 : Mm} {i m cs rs dep : Nat}
theorem m_120 {N : Nat} {v : Int32} (h : ¬ v < 0) : f_X11_readPart_120 N v M = some (1, M) := by unfold f_X11_readPart_120; rw [if_neg h]
theorem m_120n {N : Nat} : f_X11_readPart_120 N (-1) M = some (0, M) := by unfold f_X11_readPart_120; rw [if_pos (by decide)]
/-- one part of a sum -/
theorem J_part1 (hT : tX tp) (h : lS tp m i cs rs dep M M') (hcs : cs < 400) (hrs : rs < 400) (hk : isP (kd9 tp (ps9 tp i)) ∨ kd9 tp (ps9 tp i) = 301) : ∃ M1 R1 v, (∀ n v2, ¬ (400 : Int32) ≤ v2 → f_X2_readsSum_2 20000 31 (n + 1) v2 M = f_X2_readsSum_98 20000 31 (fun v2 M => f_X2_readsSum_2 20000 31 n v2 M) v2 M1) ∧ f_X11_readPart 20000 M' = some (1, R1) ∧ lS tp m (i + 1) (cs + 1) (rs + 1) dep M1 R1 ∧ cW cs M1 M ∧ mW9 rs R1 M' ∧ ps9 tp i + 1 ≤ ps9 tp (i + 1) ∧ inv8 v ∧ sumC (M1 36) cs (cs + 1) v ∧ sumM (rcM R1) rs (rs + 1) v := by
  obtain ⟨hc, h2, ha, h16, h13⟩ := h
  have hlt : ps9 tp i < tp.length := kd_lt hT (by unfold isP at hk; omega)
  have hgt := (ps_gt hlt).2
  obtain ⟨R0, l1, l2, l3⟩ := m_letA (N := 20000) (by decide) hT ha
  rcases hk with hp | hn
  · obtain ⟨a, j, hpw⟩ := pW_ex hp
    obtain ⟨kl, al, q, hq, ek⟩ := pW_lt hpw
    obtain ⟨M1, a1, a2, a3, a4, a5⟩ := c_step (N := 20000) (x := (1000 : Int32) + Int32.ofNat (kd9 tp (ps9 tp i))) h2 hcs
    have hcP1 : cP tp m i M1 := hc.fr (a5 4 (by decide) (by decide)) (a5 5 (by decide) (by decide)) (a5 6 (by decide) (by decide)) (by rw [a5 3 (by decide) (by decide)]; exact hc.2.2.2.1) hc.2.2.2.2
    obtain ⟨M2, b1, b2, b3⟩ := c_e1 (N := 20000) hT hcP1 rfl (by omega)
    obtain ⟨R1, c1, c2, c3, c4, c5, c6⟩ := m_emit (N := 20000) (a := Int32.ofNat a) (b := 0) (M := R0) (rs := rs) (by rw [l3.s16]; exact h16) hrs
    refine ⟨M2, R1, fun fx => fx j, fun n v2 hv => ?_, ?_, ⟨b2, by rw [b3 31 (by decide)]; exact a3, ?_, c3, by rw [c5 13 (by decide), l3.s13]; exact h13⟩, b3.w.trans a4 (Nat.le_refl _), c4.trans l3.w (Nat.le_refl _), hgt, pW_i8 hpw, ?_, ?_⟩
    · rw [c_p78 hc hp hv]
      unfold f_X2_readsSum_78
      rw [a1]
      simp only [bnd]
      rw [b1]
    · rw [m_p113 hT l1 l2 hpw]
      unfold f_X11_readPart_113
      rw [c1]
      simp only [bnd]
      exact m_120 (i32_nn (by omega))
    · exact (l2.nx hT hq ek).f2 (c5 10 (by decide)) (c5 11 (by decide)) (c5 12 (by decide)) (c6 214 (by decide) (by decide))
    · refine sumC.one (fun fx s => ?_)
      rw [b3 36 (by decide), a2, cS_w hpw]
    · refine sumM.one (fun fx st => ?_)
      rw [c2]
      exact mS_w hpw
  · have hg : gNu tp 0 999 (ps9 tp i) := ⟨hn, by omega, by have := vl_lt (tp := tp) (q := ps9 tp i); omega⟩
    have hv9 := vl_lt (tp := tp) (q := ps9 tp i)
    obtain ⟨M1, a1, a2, a3⟩ := c_n1 (N := 20000) hT hc hg (by decide)
    obtain ⟨M2, b1, b2, b3, b4, b5⟩ := c_step (N := 20000) (cs := cs) (x := Int32.ofNat (vl9 tp (ps9 tp i))) (M := M1) (by rw [a3 31 (by decide)]; exact h2) hcs
    obtain ⟨k1, k2, k3⟩ := (kd_301 hT).mp hn
    have k4 : 48 ≤ tf tp (ps9 tp i) ∧ tf tp (ps9 tp i) ≤ 57 := of_decide_eq_true k2
    have hr : rn isL9 tp (ps9 tp i) = ps9 tp i := rn_n (fun h9 => by have := of_decide_eq_true h9.2; omega)
    have hmA : mA tp i R0 := by
      unfold mL at l2
      rw [hr] at l2
      exact ⟨_, _, l2, bl_ps⟩
    have hee : R0 208 10 = R0 208 12 := by rw [l2.2.1, l2.2.2.1, hr]
    obtain ⟨R1, d1, d2, d3⟩ := m_n1 (N := 20000) (by decide) hT hmA hg (by decide) (by decide)
    obtain ⟨R2, c1, c2, c3, c4, c5, c6⟩ := m_emit (N := 20000) (a := 8) (b := Int32.ofNat (vl9 tp (ps9 tp i))) (M := R1) (rs := rs) (by rw [d3.s16, l3.s16]; exact h16) hrs
    refine ⟨M2, R2, fun _ => Int32.ofNat (vl9 tp (ps9 tp i)), fun n v2 hv => ?_, ?_, ⟨?_, b3, ?_, c3, by rw [c5 13 (by decide), d3.s13, l3.s13]; exact h13⟩, b4.trans a3.w (Nat.le_refl _), c4.trans (d3.w.trans l3.w (Nat.le_refl _)) (Nat.le_refl _), hgt, fun fx v => rfl, ?_, ?_⟩
    · rw [f_X2_readsSum_2, if_neg hv, c_k 20000 hc, hn]
      simp only [bnd]
      rw [if_pos (show Int32.ofNat 301 = (301 : Int32) from rfl), show f_X9_eatsNumber 20000 0 999 M = some (Int32.ofNat (vl9 tp (ps9 tp i)), M1) from a1]
      simp only []
      rw [b1]
    · unfold f_X11_readPart
      rw [l1]
      simp only [bnd]
      rw [if_pos hee, show f_X11_number 20000 0 999 R0 = some (Int32.ofNat (vl9 tp (ps9 tp i)), R1) from d1]
      simp only []
      rw [c1]
      exact m_120 (i32_nn (by omega))
    · exact a2.fr (b5 4 (by decide) (by decide)) (b5 5 (by decide) (by decide)) (b5 6 (by decide) (by decide)) (by rw [b5 3 (by decide) (by decide)]; exact a2.2.2.2.1) a2.2.2.2.2
    · exact d2.f2 (c5 10 (by decide)) (c5 11 (by decide)) (c5 12 (by decide)) (c6 214 (by decide) (by decide))
    · refine sumC.one (fun fx s => ?_)
      rw [b2]
      unfold cStp
      rw [if_neg (show ¬ (1000 : Int32) ≤ Int32.ofNat (vl9 tp (ps9 tp i)) from i32_nle (n := 1000) hv9 (by omega))]
    · refine sumM.one (fun fx st => ?_)
      rw [c2]
      rfl
theorem J_part0 (hT : tX tp) (h : lS tp m i cs rs dep M M') (hrs : rs < 400) (hk : ¬ (isP (kd9 tp (ps9 tp i)) ∨ kd9 tp (ps9 tp i) = 301)) : (∀ n v2, ¬ (400 : Int32) ≤ v2 → f_X2_readsSum_2 20000 31 (n + 1) v2 M = some (0, M)) ∧ ∃ R1, f_X11_readPart 20000 M' = some (0, R1) ∧ mB tp i R1 ∧ mW9 rs R1 M' := by
  obtain ⟨hc, h2, ha, h16, h13⟩ := h
  have hl4 := hT.1
  have hps := ps_len (tp := tp) i
  have hn1 : ¬ isP (kd9 tp (ps9 tp i)) := fun h9 => hk (Or.inl h9)
  have hn2 : ¬ kd9 tp (ps9 tp i) = 301 := fun h9 => hk (Or.inr h9)
  refine ⟨fun n v2 hv => c_p0 hT hc hn1 hn2 hv, ?_⟩
  obtain ⟨R0, l1, l2, l3⟩ := m_letA (N := 20000) (by decide) hT ha
  have hr := rn_le (tp := tp) (pr := isL9) _ (ps9 tp i) rfl
  have hr2 := hr.2 hps
  by_cases q : rn isL9 tp (ps9 tp i) = ps9 tp i
  · have hmA : mA tp i R0 := by
      unfold mL at l2
      rw [q] at l2
      exact ⟨_, _, l2, bl_ps⟩
    have hee : R0 208 10 = R0 208 12 := by rw [l2.2.1, l2.2.2.1, q]
    obtain ⟨R1, d1, d2, d3⟩ := m_n0 (N := 20000) (lo := 0) (hi := 999) (by decide) hT hmA (fun h9 => hn2 h9.1) (by decide) (by decide)
    obtain ⟨R2, c1, c2, c3, c4, c5, c6⟩ := m_emit (N := 20000) (a := 8) (b := -1) (M := R1) (rs := rs) (by rw [d3.s16, l3.s16]; exact h16) hrs
    refine ⟨R2, ?_, d2.f2 (c5 10 (by decide)) (c5 11 (by decide)) (c5 12 (by decide)) (c6 214 (by decide) (by decide)), c4.trans (d3.w.trans l3.w (Nat.le_refl _)) (Nat.le_refl _)⟩
    unfold f_X11_readPart
    rw [l1]
    simp only [bnd]
    rw [if_pos hee, show f_X11_number 20000 0 999 R0 = some (-1, R1) from d1]
    simp only []
    rw [c1]
    exact m_120n (N := 20000)
  · have hne : ¬ R0 208 10 = R0 208 12 := by
      rw [l2.2.1, l2.2.2.1]
      intro h9
      exact q ((i32_eqN (by omega) (by omega)).mp h9)
    have W0 : ∀ k s, ixs.getD k 0 = s → k < 21 → ¬ kd9 tp (ps9 tp i) = 256 + k → f_X11_isWord 20000 (1000000 + s) R0 = some (0, R0) := fun k s h1 h2 h3 => m_w0 (by decide) hT h1 h2 l2 h3
    obtain ⟨R2, c1, c2, c3, c4, c5, c6⟩ := m_emit (N := 20000) (a := -1) (b := 0) (M := R0) (rs := rs) (by rw [l3.s16]; exact h16) hrs
    refine ⟨R2, ?_, l2.b.f2 (c5 10 (by decide)) (c5 11 (by decide)) (c5 12 (by decide)) (c6 214 (by decide) (by decide)), c4.trans l3.w (Nat.le_refl _)⟩
    unfold isP at hn1
    unfold f_X11_readPart
    rw [l1]
    simp only [bnd]
    rw [if_neg hne, show f_X11_isWord 20000 1000012 R0 = some (0, R0) from W0 0 12 rfl (by decide) (by omega)]
    simp only [if_true]
    rw [show f_X11_isWord 20000 1000016 R0 = some (0, R0) from W0 4 16 rfl (by decide) (by omega)]
    simp only [if_true]
    rw [show f_X11_isWord 20000 1000013 R0 = some (0, R0) from W0 1 13 rfl (by decide) (by omega)]
    simp only [if_true]
    rw [show f_X11_isWord 20000 1000017 R0 = some (0, R0) from W0 5 17 rfl (by decide) (by omega)]
    simp only [if_true]
    rw [show f_X11_isWord 20000 1000030 R0 = some (0, R0) from W0 20 30 rfl (by decide) (by omega)]
    simp only [if_true]
    rw [show f_X11_isWord 20000 1000024 R0 = some (0, R0) from W0 12 24 rfl (by decide) (by omega)]
    simp only [if_true, f_X11_readPart_113]
    rw [c1]
    exact m_120n (N := 20000)
/-- behind a part: a plus and more, or the sum's end -/
theorem J_s98 (hT : tX tp) {i0 cs0 rs0 : Nat} : ∀ (k n n2 i cs rs vv : Nat) (M M' : Mm) (v : Fx → Int32), tp.length - ps9 tp i ≤ k → k < n → k < n2 → vv + 1 ≤ ps9 tp i → lS tp m i cs rs dep M M' → cs0 ≤ cs → rs0 ≤ rs → ps9 tp i0 + 1 ≤ ps9 tp i → cs + ps9 tp i0 ≤ cs0 + ps9 tp i → rs + ps9 tp i0 ≤ rs0 + ps9 tp i → cs0 ≤ ps9 tp i0 → rs0 ≤ ps9 tp i0 → inv8 v → sumC (M 36) cs0 cs v → sumM (rcM M') rs0 rs v → ∃ r Mc Mr, f_X2_readsSum_98 20000 31 (fun v2 M => f_X2_readsSum_2 20000 31 n v2 M) (Int32.ofNat vv) M = some (r, Mc) ∧ f_X11_readSum_9 20000 n2 M' = some (r, Mr) ∧ cW cs Mc M ∧ mW9 rs Mr M' ∧ ((r = 0 ∧ ∃ j, cP tp m j Mc ∧ mB tp j Mr) ∨ (r = 1 ∧ ∃ j cs' rs' v, lS tp m j cs' rs' dep Mc Mr ∧ ps9 tp i0 + 1 ≤ ps9 tp j ∧ cs' + ps9 tp i0 ≤ cs0 + ps9 tp j ∧ rs' + ps9 tp i0 ≤ rs0 + ps9 tp j ∧ inv8 v ∧ sumC (Mc 36) cs0 cs' v ∧ sumM (rcM Mr) rs0 rs' v)) := by
  have hl4 := hT.1
  have n10 : ¬ (1 : Int32) = 0 := by decide
  intro k
  induction k with
  | zero =>
    intro n n2 i cs rs vv M M' v hk hn hn2 hvv hS b1 b2 b3 b4 b5 b6 b7 i8 s1 s2
    have hps := ps_len (tp := tp) i
    obtain ⟨n2, rfl⟩ : ∃ x, n2 = x + 1 := ⟨n2 - 1, by omega⟩
    have hk303 : kd9 tp (ps9 tp i) = 303 := (kd_le hT).2.mpr (by omega)
    have w : ¬ kd9 tp (ps9 tp i) = 43 := by omega
    obtain ⟨R1, c1, c2, -, c3⟩ := m_s0 (N := 20000) (c := 43) (by decide) hT (by decide) (by decide) (by decide) hS.2.2.1 w
    unfold f_X2_readsSum_98
    rw [f_X11_readSum_9, show f_X9_eats 20000 43 M = some (0, M) from c_ne 20000 hT hS.1 43 w (by decide), show f_X11_sign 20000 43 M' = some (0, R1) from c1]
    simp only [bnd, if_true]
    exact ⟨1, M, R1, rfl, rfl, cW.rf, c3.w, Or.inr ⟨rfl, i, cs, rs, v, ⟨hS.1, hS.2.1, c2, by rw [c3.s16]; exact hS.2.2.2.1, by rw [c3.s13]; exact hS.2.2.2.2⟩, b3, b4, b5, i8, s1, by rw [c3.rc]; exact s2⟩⟩
  | succ k ih =>
    intro n n2 i cs rs vv M M' v hk hn hn2 hvv hS b1 b2 b3 b4 b5 b6 b7 i8 s1 s2
    have hps := ps_len (tp := tp) i
    obtain ⟨n, rfl⟩ : ∃ x, n = x + 1 := ⟨n - 1, by omega⟩
    obtain ⟨n2, rfl⟩ : ∃ x, n2 = x + 1 := ⟨n2 - 1, by omega⟩
    unfold f_X2_readsSum_98
    rw [f_X11_readSum_9]
    by_cases w : kd9 tp (ps9 tp i) = 43
    · have hlt := kd_lt hT (q := ps9 tp i) (by omega)
      have hgt := (ps_gt hlt).2
      obtain ⟨M1, a1, a2, a3⟩ := c_e1 (N := 20000) (k := 43) hT hS.1 w (by decide)
      obtain ⟨R1, c1, c2, c3⟩ := m_s1 (N := 20000) (c := 43) (by decide) hT (by decide) (by decide) (by decide) hS.2.2.1 w
      have hS1 : lS tp m (i + 1) cs rs dep M1 R1 := ⟨a2, by rw [a3 31 (by decide)]; exact hS.2.1, c2, by rw [c3.s16]; exact hS.2.2.2.1, by rw [c3.s13]; exact hS.2.2.2.2⟩
      have hps1 := ps_len (tp := tp) (i + 1)
      rw [show f_X9_eats 20000 43 M = some (1, M1) from a1, show f_X11_sign 20000 43 M' = some (1, R1) from c1]
      simp only [bnd, if_neg n10, i32_succ]
      have hv2 : ¬ (400 : Int32) ≤ Int32.ofNat (vv + 1) := i32_nle (n := 400) (by omega) (by omega)
      by_cases q : isP (kd9 tp (ps9 tp (i + 1))) ∨ kd9 tp (ps9 tp (i + 1)) = 301
      · have hlt1 := kd_lt hT (q := ps9 tp (i + 1)) (by unfold isP at q; omega)
        obtain ⟨M2, R2, w2, d1, d2, d3, d4, d5, d6, d7, d8, d9⟩ := J_part1 hT hS1 (by omega) (by omega) q
        have hps2 := ps_len (tp := tp) (i + 1 + 1)
        rw [d1 n _ hv2, d2]
        simp only [if_neg n10]
        obtain ⟨R3, e1, e2, e3, e4, e5, e6⟩ := m_emit (N := 20000) (a := 9) (b := 0) (M := R2) (rs := rs + 1) d3.2.2.2.1 (by omega)
        rw [e1]
        simp only []
        have hx1 : sumC (M2 36) cs0 (cs + 1) (fun fx => v fx + w2 fx) := (s1.ex (fun j h1 h2 => by rw [d4.2.2 j h2, a3 36 (by decide)])).add d8
        have hx2 : sumM (rcM R3) rs0 (rs + 1 + 1) (fun fx => v fx + w2 fx) := by
          refine sumM.add (e := rs) (e' := rs + 1) (s2.ex (fun j h1 h2 => ?_)) (d9.ex (fun j h1 h2 => ?_)) e2
          · unfold rcM
            rw [e4.2.2 _ (by omega), e4.2.2 _ (by omega), d5.2.2 _ (by omega), d5.2.2 _ (by omega), c3.1 209 (by decide)]
          · unfold rcM
            rw [e4.2.2 _ (by omega), e4.2.2 _ (by omega)]
        have hS3 : lS tp m (i + 1 + 1) (cs + 1) (rs + 1 + 1) dep M2 R3 := ⟨d3.1, d3.2.1, d3.2.2.1.f2 (e5 10 (by decide)) (e5 11 (by decide)) (e5 12 (by decide)) (e6 214 (by decide) (by decide)), e3, by rw [e5 13 (by decide)]; exact d3.2.2.2.2⟩
        obtain ⟨r, Mc, Mr, f1, f2, f3, f4, f5⟩ := ih n n2 (i + 1 + 1) (cs + 1) (rs + 1 + 1) (vv + 1) M2 R3 (fun fx => v fx + w2 fx) (by omega) (by omega) (by omega) (by omega) hS3 (by omega) (by omega) (by omega) (by omega) (by omega) b6 b7 (fun fx y => by show v (updF fx 8 y) + w2 (updF fx 8 y) = _; rw [i8 fx y, d7 fx y]) hx1 hx2
        exact ⟨r, Mc, Mr, f1, f2, (f3.trans d4 (by omega)).trans a3.w (Nat.le_refl _), (f4.trans (e4.trans d5 (by omega)) (by omega)).trans c3.w (Nat.le_refl _), f5⟩
      · obtain ⟨d1, R2, d2, d3, d4⟩ := J_part0 hT hS1 (by omega) q
        rw [d1 n _ hv2, d2]
        simp only [if_true]
        exact ⟨0, M1, R2, rfl, rfl, a3.w, d4.trans c3.w (Nat.le_refl _), Or.inl ⟨rfl, i + 1, a2, d3⟩⟩
    · obtain ⟨R1, c1, c2, -, c3⟩ := m_s0 (N := 20000) (c := 43) (by decide) hT (by decide) (by decide) (by decide) hS.2.2.1 w
      rw [show f_X9_eats 20000 43 M = some (0, M) from c_ne 20000 hT hS.1 43 w (by decide), show f_X11_sign 20000 43 M' = some (0, R1) from c1]
      simp only [bnd, if_true]
      exact ⟨1, M, R1, rfl, rfl, cW.rf, c3.w, Or.inr ⟨rfl, i, cs, rs, v, ⟨hS.1, hS.2.1, c2, by rw [c3.s16]; exact hS.2.2.2.1, by rw [c3.s13]; exact hS.2.2.2.2⟩, b3, b4, b5, i8, s1, by rw [c3.rc]; exact s2⟩⟩
/-- a sum -/
theorem J_sum (hT : tX tp) (h : lS tp m i cs rs dep M M') (hcs : cs ≤ ps9 tp i) (hrs : rs ≤ ps9 tp i) (hp : 1 ≤ ps9 tp i) (hc4 : cs < 400) (hr4 : rs < 400) : ∃ r Mc Mr, f_X2_readsSum 20000 31 M = some (r, Mc) ∧ f_X11_readSum 20000 M' = some (r, Mr) ∧ oS tp m i cs rs dep M M' r Mc Mr := by
  have hl4 := hT.1
  have hps := ps_len (tp := tp) i
  have n10 : ¬ (1 : Int32) = 0 := by decide
  have h0 : ¬ (400 : Int32) ≤ 0 := by decide
  unfold f_X2_readsSum f_X11_readSum
  by_cases q : isP (kd9 tp (ps9 tp i)) ∨ kd9 tp (ps9 tp i) = 301
  · obtain ⟨M2, R2, w2, d1, d2, d3, d4, d5, d6, d7, d8, d9⟩ := J_part1 hT h hc4 hr4 q
    rw [show f_X2_readsSum_2 20000 31 20000 0 M = f_X2_readsSum_98 20000 31 (fun v2 M => f_X2_readsSum_2 20000 31 19999 v2 M) 0 M2 from d1 19999 0 h0, d2]
    simp only [bnd, if_neg n10]
    obtain ⟨r, Mc, Mr, f1, f2, f3, f4, f5⟩ := J_s98 (m := m) (dep := dep) hT (i0 := i) (cs0 := cs) (rs0 := rs) (tp.length - ps9 tp (i + 1)) 19999 20000 (i + 1) (cs + 1) (rs + 1) 0 M2 R2 w2 (Nat.le_refl _) (by omega) (by omega) (by omega) d3 (by omega) (by omega) d6 (by omega) (by omega) hcs hrs d7 d8 d9
    exact ⟨r, Mc, Mr, f1, f2, f3.trans d4 (by omega), f4.trans d5 (by omega), f5⟩
  · obtain ⟨d1, R2, d2, d3, d4⟩ := J_part0 hT h hr4 q
    rw [show f_X2_readsSum_2 20000 31 20000 0 M = some (0, M) from d1 19999 0 h0, d2]
    simp only [bnd, if_true]
    exact ⟨0, M, R2, rfl, rfl, cW.rf, d4, Or.inl ⟨rfl, i, h.1, d3⟩⟩
end LU
