/-! A law's text: or's. -/
section LB
variable {tp : List Nat} {M M' M1 M2 Mc Mr : Mm} {i m cs rs dep B : Nat} {fa : Int32 → Mm → Option (Int32 × Mm)} {ga : Mm → Option (Int32 × Mm)}

theorem J_or (hT : tX tp) (hB : B + 1 ≤ 28) (hH : aH tp m (B + 1) dep (fun v M => f_X2_readsAll 20000 31 fa v M) (fun M => f_X11_readAllOf 20000 ga M)) {i0 cs0 rs0 : Nat} (e1 : cs0 + 4 ≤ ps9 tp i0) (e2 : rs0 + 4 ≤ ps9 tp i0) : ∀ (k n n2 i cs rs vv : Nat) (M M' : Mm) (g : Fx → Bool), tp.length - ps9 tp i ≤ k → k < n → k < n2 → vv + 1 ≤ ps9 tp i → lS tp m i cs rs dep M M' → ps9 tp i0 + 1 ≤ ps9 tp i → cs + ps9 tp i0 ≤ cs0 + ps9 tp i + 1 → rs + ps9 tp i0 ≤ rs0 + ps9 tp i → inv8 g → semC (M 36) cs0 cs B g → semM (rcM M') rs0 rs g → ∃ r Mc Mr, f_X2_readsCondition_13 20000 31 fa n (Int32.ofNat dep) (Int32.ofNat vv) M = some (r, Mc) ∧ f_X11_readCond_9 20000 ga n2 M' = some (r, Mr) ∧ cW cs Mc M ∧ mW9 rs Mr M' ∧ ((r = 0 ∧ ∃ j, cP tp m j Mc ∧ mB tp j Mr) ∨ (r = 1 ∧ ∃ j cs' rs' g, lS tp m j cs' rs' dep Mc Mr ∧ ps9 tp i0 + 1 ≤ ps9 tp j ∧ cs' + ps9 tp i0 ≤ cs0 + ps9 tp j + 1 ∧ rs' + ps9 tp i0 ≤ rs0 + ps9 tp j ∧ inv8 g ∧ semC (Mc 36) cs0 cs' B g ∧ semM (rcM Mr) rs0 rs' g)) := by
  have hl4 := hT.1
  have n10 : ¬ (1 : Int32) = 0 := by decide
  obtain ⟨-, lw, -⟩ := len_w
  intro k
  induction k with
  | zero =>
    intro n n2 i cs rs vv M M' g hk hn hn2 hvv hS b3 b4 b5 i8 s1 s2
    have hps := ps_len (tp := tp) i
    obtain ⟨n, rfl⟩ : ∃ x, n = x + 1 := ⟨n - 1, by omega⟩
    obtain ⟨n2, rfl⟩ : ∃ x, n2 = x + 1 := ⟨n2 - 1, by omega⟩
    have hk303 : kd9 tp (ps9 tp i) = 303 := (kd_le hT).2.mpr (by omega)
    have w : ¬ kd9 tp (ps9 tp i) = 272 := by omega
    obtain ⟨R1, c1, c2, -, c3⟩ := m_p0 (N := 20000) (k := 16) (s := 32) (by decide) hT rfl (by decide) hS.2.2.1 w
    rw [f_X2_readsCondition_13, f_X11_readCond_9, show f_X9_eats 20000 272 M = some (0, M) from c_ne 20000 hT hS.1 272 w (by decide), show f_X11_passes 20000 1000032 M' = some (0, R1) from c1]
    simp only [bnd, if_true]
    refine ⟨1, M, R1, ?_, rfl, cW.rf, c3.w, Or.inr ⟨rfl, i, cs, rs, g, hS.e1 c2 c3, b3, b4, b5, i8, s1, by rw [c3.rc]; exact s2⟩⟩
    split <;> rfl
  | succ k ih =>
    intro n n2 i cs rs vv M M' g hk hn hn2 hvv hS b3 b4 b5 i8 s1 s2
    have hps := ps_len (tp := tp) i
    have q1 := s1.1
    have q2 := s2.1
    obtain ⟨n, rfl⟩ : ∃ x, n = x + 1 := ⟨n - 1, by omega⟩
    obtain ⟨n2, rfl⟩ : ∃ x, n2 = x + 1 := ⟨n2 - 1, by omega⟩
    rw [f_X2_readsCondition_13, f_X11_readCond_9]
    by_cases w : kd9 tp (ps9 tp i) = 272
    · have hw := ps_w (k := 16) hT (by decide) w
      rw [lw] at hw
      have hps1 := ps_len (tp := tp) (i + 1)
      obtain ⟨M1, a1, a2, a3⟩ := c_e1 (N := 20000) (k := 272) hT hS.1 w (by decide)
      obtain ⟨R1, c1, c2, c3⟩ := m_p1 (N := 20000) (k := 16) (s := 32) (by decide) hT rfl (by decide) hS.2.2.1 w
      have hv2 : ¬ (400 : Int32) ≤ Int32.ofNat vv := i32_nle (n := 400) (by omega) (by omega)
      rw [if_neg hv2, show f_X9_eats 20000 272 M = some (1, M1) from a1, show f_X11_passes 20000 1000032 M' = some (1, R1) from c1]
      simp only [bnd, if_neg n10, i32_succ]
      obtain ⟨r, Ma, Ra, d1, d2, d3, d4, d5⟩ := hH (i + 1) cs rs M1 R1 (hS.mv a2 a3 c2 c3) (by omega) (by omega)
      rw [show f_X2_readsAll 20000 31 fa (Int32.ofNat dep) M1 = some (r, Ma) from d1, show f_X11_readAllOf 20000 ga R1 = some (r, Ra) from d2]
      simp only []
      rcases d5 with ⟨er, j, x1, x2⟩ | ⟨er, j, cs', rs', g', x1, x2, x3, x4, x5, x6, x7⟩
      · subst er
        simp only [if_true]
        exact ⟨0, Ma, Ra, rfl, rfl, d3.trans a3.w (Nat.le_refl _), d4.trans c3.w (Nat.le_refl _), Or.inl ⟨rfl, j, x1, x2⟩⟩
      · subst er
        simp only [if_neg n10]
        have y1 := x6.1
        have y2 := x7.1
        have hpj := ps_len (tp := tp) j
        obtain ⟨Mb, f1, f2, f3, f4, f5⟩ := c_step (N := 20000) (x := 1272) (M := Ma) x1.2.1 (by omega)
        obtain ⟨Rb, h1, h2, h3, h4, h5, h6⟩ := m_emit (N := 20000) (a := 14) (b := 0) (M := Ra) x1.2.2.2.1 (by omega)
        rw [f1, h1]
        simp only []
        have hx1 : semC (Mb 36) cs0 (cs' + 1) B (fun fx => g fx || g' fx) := by
          refine semC.or (e := cs) (e' := cs') (by omega) (s1.ex (fun j h1 h2 => ?_)) (x6.ex (fun j h1 h2 => ?_)) f2
          · rw [f4.2.2 j (by omega), d3.2.2 j h2, a3 36 (by decide)]
          · rw [f4.2.2 j h2]
        have hx2 : semM (rcM Rb) rs0 (rs' + 1) (fun fx => g fx || g' fx) := by
          refine semM.or (e := rs) (e' := rs') (s2.ex (fun j h1 h2 => ?_)) (x7.ex (fun j h1 h2 => ?_)) h2
          · unfold rcM
            rw [h4.2.2 _ (by omega), h4.2.2 _ (by omega), d4.2.2 _ (by omega), d4.2.2 _ (by omega), c3.1 209 (by decide)]
          · unfold rcM
            rw [h4.2.2 _ (by omega), h4.2.2 _ (by omega)]
        have hS3 : lS tp m j (cs' + 1) (rs' + 1) dep Mb Rb := ⟨x1.1.fr (f5 4 (by decide) (by decide)) (f5 5 (by decide) (by decide)) (f5 6 (by decide) (by decide)) (by rw [f5 3 (by decide) (by decide)]; exact x1.1.2.2.2.1) x1.1.2.2.2.2, f3, x1.2.2.1.f2 (h5 10 (by decide)) (h5 11 (by decide)) (h5 12 (by decide)) (h6 214 (by decide) (by decide)), h3, by rw [h5 13 (by decide)]; exact x1.2.2.2.2⟩
        obtain ⟨r, Mz, Rz, z1, z2, z3, z4, z5⟩ := ih n n2 j (cs' + 1) (rs' + 1) (vv + 1) Mb Rb (fun fx => g fx || g' fx) (by omega) (by omega) (by omega) (by omega) hS3 (by omega) (by omega) (by omega) (fun fx y => by show (g (updF fx 8 y) || g' (updF fx 8 y)) = _; rw [i8 fx y, x5 fx y]) hx1 hx2
        exact ⟨r, Mz, Rz, z1, z2, (z3.trans (f4.trans d3 y1) (by omega)).trans a3.w (Nat.le_refl _), (z4.trans (h4.trans d4 y2) (by omega)).trans c3.w (Nat.le_refl _), z5⟩
    · obtain ⟨R1, c1, c2, -, c3⟩ := m_p0 (N := 20000) (k := 16) (s := 32) (by decide) hT rfl (by decide) hS.2.2.1 w
      rw [show f_X9_eats 20000 272 M = some (0, M) from c_ne 20000 hT hS.1 272 w (by decide), show f_X11_passes 20000 1000032 M' = some (0, R1) from c1]
      simp only [bnd, if_true]
      refine ⟨1, M, R1, ?_, rfl, cW.rf, c3.w, Or.inr ⟨rfl, i, cs, rs, g, hS.e1 c2 c3, b3, b4, b5, i8, s1, by rw [c3.rc]; exact s2⟩⟩
      split <;> rfl
theorem J_cond (hT : tX tp) (hB : B + 1 ≤ 28) (hH : aH tp m (B + 1) dep (fun v M => f_X2_readsAll 20000 31 fa v M) (fun M => f_X11_readAllOf 20000 ga M)) : aH tp m B dep (fun v M => f_X2_readsCondition 20000 31 fa v M) (fun M => f_X11_readCond 20000 ga M) := by
  intro i cs rs M M' hS e1 e2
  have hl4 := hT.1
  have n10 : ¬ (1 : Int32) = 0 := by decide
  obtain ⟨r, Ma, Ra, d1, d2, d3, d4, d5⟩ := hH i cs rs M M' hS e1 e2
  show ∃ r Mc Mr, f_X2_readsCondition 20000 31 fa (Int32.ofNat dep) M = some (r, Mc) ∧ f_X11_readCond 20000 ga M' = some (r, Mr) ∧ _
  unfold f_X2_readsCondition f_X11_readCond
  rw [show f_X2_readsAll 20000 31 fa (Int32.ofNat dep) M = some (r, Ma) from d1, show f_X11_readAllOf 20000 ga M' = some (r, Ra) from d2]
  simp only [bnd]
  rcases d5 with ⟨er, j, x1, x2⟩ | ⟨er, j, cs', rs', g', x1, x2, x3, x4, x5, x6, x7⟩
  · subst er
    simp only [if_true]
    exact ⟨0, Ma, Ra, rfl, rfl, d3, d4, Or.inl ⟨rfl, j, x1, x2⟩⟩
  · subst er
    simp only [if_neg n10]
    obtain ⟨r, Mz, Rz, z1, z2, z3, z4, z5⟩ := J_or hT hB hH (i0 := i) (cs0 := cs) (rs0 := rs) e1 e2 (tp.length - ps9 tp j) 20000 20000 j cs' rs' 0 Ma Ra g' (Nat.le_refl _) (by omega) (by omega) (by omega) x1 x2 x3 x4 x5 (x6.le (by omega)) x7
    exact ⟨r, Mz, Rz, z1, z2, z3.trans d3 x6.1, z4.trans d4 x7.1, z5⟩
end LB
