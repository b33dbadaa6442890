/-! A law's text: an atom, whatever it is. -/
section LE
variable {tp : List Nat} {M M' M1 M2 Mc Mr R : Mm} {i m cs rs dep B : Nat} {fa : Int32 → Mm → Option (Int32 × Mm)} {ga : Mm → Option (Int32 × Mm)}
theorem J_tag (hT : tX tp) (hS : lS tp m i cs rs dep M R) (e1 : cs + 4 ≤ ps9 tp i) (e2 : rs + 4 ≤ ps9 tp i) {a : Nat} (hk : (kd9 tp (ps9 tp i) = 259 ∧ a = 6) ∨ (kd9 tp (ps9 tp i) = 275 ∧ a = 7)) : ∃ r Mc Mr, f_X2_readsAtom_b_79 20000 31 fa M = some (r, Mc) ∧ kA9 20000 ga R = some (r, Mr) ∧ oC tp m i cs rs dep B M R r Mc Mr := by
  have hl4 := hT.1
  have hps := ps_len (tp := tp) i
  have n10 : ¬ (1 : Int32) = 0 := by decide
  have hlt := kd_lt hT (q := ps9 tp i) (by omega)
  have hgt := (ps_gt hlt).2
  obtain ⟨R1, t1, t2, t3, t4, t5, t6⟩ := m_tag1 hT hS.2.2.1 hS.2.2.2.1 (by omega) hk
  obtain ⟨M1, a1, a2, a3, a4, a5⟩ := c_step (N := 20000) (x := (1000 : Int32) + Int32.ofNat (kd9 tp (ps9 tp i))) hS.2.1 (by omega)
  have hcP1 : cP tp m i M1 := hS.1.fr (a5 4 (by decide) (by decide)) (a5 5 (by decide) (by decide)) (a5 6 (by decide) (by decide)) (by rw [a5 3 (by decide) (by decide)]; exact hS.1.2.2.2.1) hS.1.2.2.2.2
  obtain ⟨M2, b1, b2, b3⟩ := c_e1 (N := 20000) hT hcP1 rfl (by omega)
  have h98 : f_X2_readsAtom_b_98 20000 31 fa (Int32.ofNat (kd9 tp (ps9 tp i))) M = some (1, M2) := by
    unfold f_X2_readsAtom_b_98
    rw [a1]
    simp only [bnd]
    rw [b1]
    rfl
  have hf : f_X2_readsAtom_b_79 20000 31 fa M = some (1, M2) := by
    unfold f_X2_readsAtom_b_79
    rw [c_k 20000 hS.1]
    simp only [bnd]
    rcases hk with ⟨e, -⟩ | ⟨e, -⟩
    · rw [if_pos (show Int32.ofNat (kd9 tp (ps9 tp i)) = (259 : Int32) by rw [e]; rfl)]
      exact h98
    · rw [if_neg (kd_lit hT 259 259 rfl (by decide) (by omega)), if_pos (show Int32.ofNat (kd9 tp (ps9 tp i)) = (275 : Int32) by rw [e]; rfl)]
      exact h98
  have hg : kA9 20000 ga R = some (1, R1) := by
    unfold kA9
    rw [t1]
    simp only [bnd, if_neg n10]
  have hL : lS tp m (i + 1) (cs + 1) (rs + 1) dep M2 R1 := ⟨b2, by rw [b3 31 (by decide)]; exact a3, t2, t4, by rw [t5]; exact hS.2.2.2.2⟩
  have hm36 : M2 36 cs = (1000 : Int32) + Int32.ofNat (kd9 tp (ps9 tp i)) := by rw [b3 36 (by decide)]; exact a2
  refine ⟨1, M2, R1, hf, hg, b3.w.trans a4 (Nat.le_refl _), t6, Or.inr ⟨rfl, i + 1, cs + 1, rs + 1, ?_⟩⟩
  rcases hk with ⟨e, rfl⟩ | ⟨e, rfl⟩
  · exact ⟨fun fx => decide (¬ fx 7 = 0), hL, by omega, by omega, by omega, fun fx y => by show decide (¬ updF fx 8 y 7 = 0) = _; rw [updF_ne (by decide)], semC.diet (by rw [hm36, e]; rfl), semM.diet t3⟩
  · exact ⟨fun fx => decide (¬ fx 2 < fx 3), hL, by omega, by omega, by omega, fun fx y => by show decide (¬ updF fx 8 y 2 < updF fx 8 y 3) = _; rw [updF_ne (by decide), updF_ne (by decide)], semC.last (by rw [hm36, e]; rfl), semM.last t3⟩
theorem J_atomB (hT : tX tp) (hd : dep ≤ 6) (hA : dep < 6 → aH tp m (2 * dep + 5) (dep + 1) fa ga) (hC : dep < 6 → aH tp m (2 * dep + 3) (dep + 1) (fun v M => f_X2_readsCondition 20000 31 fa v M) (fun M => f_X11_readCond 20000 ga M)) : aH tp m (2 * dep + 3) dep (fun v M => f_X2_readsAtom_b 20000 31 fa v M) (fun M => f_X11_readAtom_b 20000 ga M) := by
  intro i cs rs M M' hS e1 e2
  have hl4 := hT.1
  have hps := ps_len (tp := tp) i
  have n10 : ¬ (1 : Int32) = 0 := by decide
  obtain ⟨-, -, lw, -⟩ := len_w
  show ∃ r Mc Mr, f_X2_readsAtom_b 20000 31 fa (Int32.ofNat dep) M = some (r, Mc) ∧ f_X11_readAtom_b 20000 ga M' = some (r, Mr) ∧ _
  by_cases k40 : kd9 tp (ps9 tp i) = 40
  · obtain ⟨R1, c1, c2, c3, c4⟩ := m_s1b (N := 20000) (c := 40) (by decide) hT (by decide) (by decide) (by decide) hS.2.2.1 k40
    have h13 : R1 208 13 = Int32.ofNat dep := by rw [c4.s13]; exact hS.2.2.2.2
    have hlt := kd_lt hT (q := ps9 tp i) (by omega)
    have hgt := (ps_gt hlt).2
    by_cases c6 : dep = 6
    · rw [c_79 hT hS.1 hd (Or.inl c6), c_79x hT hS (by omega) (by omega) (by omega) (by unfold isP; omega)]
      refine ⟨0, M, R1, rfl, ?_, cW.rf, c4.w, Or.inl ⟨rfl, i, hS.1, c3⟩⟩
      unfold f_X11_readAtom_b
      rw [show f_X11_sign 20000 40 M' = some (1, R1) from c1]
      simp only [bnd, if_neg n10]
      rw [h13, c6, if_pos (show Int32.ofNat 6 = (6 : Int32) from rfl)]
    · have c6' : ¬ (6 : Int32) ≤ Int32.ofNat dep := i32_nle (n := 6) (by omega) (by omega)
      have c7' : ¬ Int32.ofNat dep = (6 : Int32) := fun h9 => c6 ((i32_eqN (b := 6) (by omega) (by omega)).mp h9)
      obtain ⟨M1, a1, a2, a3⟩ := c_e1 (N := 20000) (k := 40) hT hS.1 k40 (by decide)
      unfold f_X2_readsAtom_b f_X2_readsAtom_b_38 f_X11_readAtom_b f_X2_readsAtom_b_77
      rw [if_neg c6', show f_X9_eats 20000 274 M = some (0, M) from c_ne 20000 hT hS.1 274 (by omega) (by decide), show f_X11_sign 20000 40 M' = some (1, R1) from c1]
      simp only [bnd, if_true, if_neg n10]
      rw [if_neg c6', show f_X9_eats 20000 40 M = some (1, M1) from a1, h13, if_neg c7']
      simp only [if_neg n10, lt, i32_succ]
      have hS1 : lS tp m (i + 1) cs rs (dep + 1) M1 (wr R1 208 13 (Int32.ofNat (dep + 1))) := ⟨a2, by rw [a3 31 (by decide)]; exact hS.2.1, c2.d13, by rw [wr_nk (by decide), c4.s16]; exact hS.2.2.2.1, wr_eq⟩
      obtain ⟨r, Ma, Ra, d1, d2, d3, d4, d5⟩ := hC (by omega) (i + 1) cs rs M1 _ hS1 (by omega) (by omega)
      rw [show f_X2_readsCondition 20000 31 fa (Int32.ofNat (dep + 1)) M1 = some (r, Ma) from d1, show f_X11_readCond 20000 ga (wr R1 208 13 (Int32.ofNat (dep + 1))) = some (r, Ra) from d2]
      simp only []
      have fC : cW cs Ma M := d3.trans a3.w (Nat.le_refl _)
      have fM : mW9 rs Ra M' := d4.trans (w13r.trans c4.w (Nat.le_refl _)) (Nat.le_refl _)
      rcases d5 with ⟨er, j, x1, x2⟩ | ⟨er, j, cs', rs', g', x1, x2, x3, x4, x5, x6, x7⟩
      · subst er
        simp only [if_true]
        exact ⟨0, Ma, Ra, rfl, rfl, fC, fM, Or.inl ⟨rfl, j, x1, x2⟩⟩
      · subst er
        simp only [if_neg n10]
        have e13 : Ra 208 13 - 1 = Int32.ofNat dep := by rw [x1.2.2.2.2]; exact i32_dn dep
        rw [e13]
        by_cases w : kd9 tp (ps9 tp j) = 41
        · have hlt2 := kd_lt hT (q := ps9 tp j) (by omega)
          have hgt2 := (ps_gt hlt2).2
          obtain ⟨Mb, f1, f2, f3⟩ := c_e1 (N := 20000) (k := 41) hT x1.1 w (by decide)
          obtain ⟨Rb, h1, h2, h3⟩ := m_s1 (N := 20000) (c := 41) (by decide) hT (by decide) (by decide) (by decide) (x1.2.2.1.d13 (v := Int32.ofNat dep)) w
          rw [show f_X9_eats 20000 41 Ma = some (1, Mb) from f1, show f_X11_sign 20000 41 (wr Ra 208 13 (Int32.ofNat dep)) = some (1, Rb) from h1]
          simp only [if_neg n10, grd, show isb (1 : Int32) = true from by decide, if_true]
          refine ⟨1, Mb, Rb, rfl, rfl, f3.w.trans fC (Nat.le_refl _), (h3.w.trans w13r (Nat.le_refl _)).trans fM (Nat.le_refl _), Or.inr ⟨rfl, j + 1, cs', rs', g', ⟨f2, by rw [f3 31 (by decide)]; exact x1.2.1, h2, by rw [h3.s16, wr_nk (by decide)]; exact x1.2.2.2.1, by rw [h3.s13, wr_eq]⟩, by omega, by omega, by omega, x5, by rw [f3 36 (by decide)]; exact x6, by rw [h3.rc, rc13]; exact x7⟩⟩
        · obtain ⟨Rb, h1, -, h2, h3⟩ := m_s0 (N := 20000) (c := 41) (by decide) hT (by decide) (by decide) (by decide) (x1.2.2.1.d13 (v := Int32.ofNat dep)) w
          rw [show f_X9_eats 20000 41 Ma = some (0, Ma) from c_ne 20000 hT x1.1 41 w (by decide), show f_X11_sign 20000 41 (wr Ra 208 13 (Int32.ofNat dep)) = some (0, Rb) from h1]
          simp only [grd, show isb (0 : Int32) = true from by decide, if_true]
          exact ⟨0, Ma, Rb, rfl, rfl, fC, (h3.w.trans w13r (Nat.le_refl _)).trans fM (Nat.le_refl _), Or.inl ⟨rfl, j, x1.1, h2⟩⟩
  · by_cases kn : kd9 tp (ps9 tp i) = 274
    · obtain ⟨R0, s1, s2, -, s4⟩ := m_s0 (N := 20000) (c := 40) (by decide) hT (by decide) (by decide) (by decide) hS.2.2.1 k40
      obtain ⟨R1, c1, c2, c3, c4'⟩ := m_p1b (N := 20000) (k := 18) (s := 28) (by decide) hT rfl (by decide) s2 kn
      have c4 : mE R1 M' := c4'.trans s4
      have h13 : R1 208 13 = Int32.ofNat dep := by rw [c4.s13]; exact hS.2.2.2.2
      have hw := ps_w (k := 18) hT (by decide) kn
      rw [lw] at hw
      have hps1 := ps_len (tp := tp) (i + 1)
      by_cases c6 : dep = 6
      · rw [c_79 hT hS.1 hd (Or.inl c6), c_79x hT hS (by omega) (by omega) (by omega) (by unfold isP; omega)]
        refine ⟨0, M, R1, rfl, ?_, cW.rf, c4.w, Or.inl ⟨rfl, i, hS.1, c3⟩⟩
        unfold f_X11_readAtom_b
        rw [show f_X11_sign 20000 40 M' = some (0, R0) from s1]
        simp only [bnd, if_true]
        rw [show f_X11_passes 20000 1000028 R0 = some (1, R1) from c1]
        simp only [if_neg n10]
        rw [h13, c6, if_pos (show Int32.ofNat 6 = (6 : Int32) from rfl)]
      · have c6' : ¬ (6 : Int32) ≤ Int32.ofNat dep := i32_nle (n := 6) (by omega) (by omega)
        have c7' : ¬ Int32.ofNat dep = (6 : Int32) := fun h9 => c6 ((i32_eqN (b := 6) (by omega) (by omega)).mp h9)
        obtain ⟨M1, a1, a2, a3⟩ := c_e1 (N := 20000) (k := 274) hT hS.1 kn (by decide)
        unfold f_X2_readsAtom_b f_X11_readAtom_b
        rw [if_neg c6', show f_X9_eats 20000 274 M = some (1, M1) from a1, show f_X11_sign 20000 40 M' = some (0, R0) from s1]
        simp only [bnd, if_true, if_neg n10]
        rw [show f_X11_passes 20000 1000028 R0 = some (1, R1) from c1]
        simp only [if_neg n10]
        rw [h13, if_neg c7']
        simp only [lt, i32_succ]
        have hS1 : lS tp m (i + 1) cs rs (dep + 1) M1 (wr R1 208 13 (Int32.ofNat (dep + 1))) := ⟨a2, by rw [a3 31 (by decide)]; exact hS.2.1, c2.d13, by rw [wr_nk (by decide), c4.s16]; exact hS.2.2.2.1, wr_eq⟩
        obtain ⟨r, Ma, Ra, d1, d2, d3, d4, d5⟩ := hA (by omega) (i + 1) cs rs M1 _ hS1 (by omega) (by omega)
        rw [d1, d2]
        simp only []
        have fC : cW cs Ma M := d3.trans a3.w (Nat.le_refl _)
        have fM : mW9 rs Ra M' := d4.trans (w13r.trans c4.w (Nat.le_refl _)) (Nat.le_refl _)
        rcases d5 with ⟨er, j, x1, x2⟩ | ⟨er, j, cs', rs', g', x1, x2, x3, x4, x5, x6, x7⟩
        · subst er
          simp only [if_true]
          exact ⟨0, Ma, Ra, rfl, rfl, fC, fM, Or.inl ⟨rfl, j, x1, x2⟩⟩
        · subst er
          simp only [if_neg n10]
          have y1 := x6.1
          have y2 := x7.1
          have hpj := ps_len (tp := tp) j
          have e13 : Ra 208 13 - 1 = Int32.ofNat dep := by rw [x1.2.2.2.2]; exact i32_dn dep
          rw [e13]
          obtain ⟨Mb, f1, f2, f3, f4, f5⟩ := c_step (N := 20000) (x := 1274) (M := Ma) x1.2.1 (by omega)
          obtain ⟨Rb, h1, h2, h3, h4, h5, h6⟩ := m_emit (N := 20000) (a := 12) (b := 0) (M := wr Ra 208 13 (Int32.ofNat dep)) (rs := rs') (by rw [wr_nk (by decide)]; exact x1.2.2.2.1) (by omega)
          rw [f1, h1]
          simp only []
          refine ⟨1, Mb, Rb, rfl, rfl, f4.trans fC y1, (h4.trans w13r (Nat.le_refl _)).trans fM y2, Or.inr ⟨rfl, j, cs' + 1, rs' + 1, fun fx => !(g' fx), ⟨?_, f3, ?_, h3, ?_⟩, by omega, by omega, by omega, fun fx y => by show (!(g' (updF fx 8 y))) = _; rw [x5 fx y], ?_, ?_⟩⟩
          · exact x1.1.fr (f5 4 (by decide) (by decide)) (f5 5 (by decide) (by decide)) (f5 6 (by decide) (by decide)) (by rw [f5 3 (by decide) (by decide)]; exact x1.1.2.2.2.1) x1.1.2.2.2.2
          · exact (x1.2.2.1.d13 (v := Int32.ofNat dep)).f2 (h5 10 (by decide)) (h5 11 (by decide)) (h5 12 (by decide)) (h6 214 (by decide) (by decide))
          · rw [h5 13 (by decide), wr_eq]
          · refine semC.not ((x6.ex (fun j9 h1 h2 => ?_)).le (by omega)) f2
            rw [f4.2.2 j9 h2]
          · refine semM.not (x7.ex (fun j9 h1 h2 => ?_)) h2
            unfold rcM
            rw [h4.2.2 _ (by omega), h4.2.2 _ (by omega), wr_nrow (by decide)]
    · obtain ⟨R, c1, c2, c3⟩ := m_nopn (ga := ga) hT hS.2.2.1 k40 kn
      rw [c_79 hT hS.1 hd (Or.inr ⟨kn, k40⟩), c1]
      have hS0 := hS.e1 c2 c3
      have fin : (∃ r Mc Mr, f_X2_readsAtom_b_79 20000 31 fa M = some (r, Mc) ∧ kA9 20000 ga R = some (r, Mr) ∧ oC tp m i cs rs dep (2 * dep + 3) M R r Mc Mr) → ∃ r Mc Mr, f_X2_readsAtom_b_79 20000 31 fa M = some (r, Mc) ∧ kA9 20000 ga R = some (r, Mr) ∧ oC tp m i cs rs dep (2 * dep + 3) M M' r Mc Mr := fun ⟨r, Mc, Mr, h1, h2, h3, h4, h5⟩ => ⟨r, Mc, Mr, h1, h2, h3, h4.trans c3.w (Nat.le_refl _), h5⟩
      by_cases k1 : kd9 tp (ps9 tp i) = 259
      · exact fin (J_tag (a := 6) hT hS0 e1 e2 (Or.inl ⟨k1, rfl⟩))
      · by_cases k2 : kd9 tp (ps9 tp i) = 275
        · exact fin (J_tag (a := 7) hT hS0 e1 e2 (Or.inr ⟨k2, rfl⟩))
        · exact fin (J_cmp hT hS0 e1 e2 k1 k2)
theorem J_atom (hT : tX tp) : ∀ (n dep : Nat), dep ≤ 6 → 7 ≤ n + dep → aH tp m (2 * dep + 3) dep (f_X2_readsAtom 20000 31 n) (f_X11_readAtom 20000 n) := by
  intro n
  induction n with
  | zero => intro dep h1 h2; omega
  | succ n ih =>
    intro dep hd hn
    have hA : dep < 6 → aH tp m (2 * dep + 5) (dep + 1) (f_X2_readsAtom 20000 31 n) (f_X11_readAtom 20000 n) := fun h => ih (dep + 1) (by omega) (by omega)
    have hB := J_atomB (fa := f_X2_readsAtom 20000 31 n) (ga := f_X11_readAtom 20000 n) (m := m) hT hd hA (fun h => J_cond (B := 2 * dep + 3) hT (by omega) (J_all (B := 2 * dep + 4) hT (by omega) (hA h)))
    intro i cs rs M M' hS e1 e2
    obtain ⟨r, Mc, Mr, h1, h2, h3⟩ := hB i cs rs M M' hS e1 e2
    refine ⟨r, Mc, Mr, ?_, ?_, h3⟩
    · rw [f_X2_readsAtom]; exact h1
    · rw [f_X11_readAtom]; exact h2
end LE
