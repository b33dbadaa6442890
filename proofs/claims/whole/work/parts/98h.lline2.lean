/-! A line of a law's text, class and reference together. -/
section LM
variable {tp : List Nat} {M M' M1 M2 Mc Mr R : Mm} {i m cs rs dep B ln : Nat} {f : Nat → Ln9}
/-- what is known once a line was read -/
def lE (tp : List Nat) (m ln : Nat) (Mc Mr : Mm) : Prop := ∃ j cs rs f, cP tp m j Mc ∧ mA tp j Mr ∧ Mc 31 2 = Int32.ofNat cs ∧ Mc 31 1 = Int32.ofNat ln ∧ Mr 208 16 = Int32.ofNat rs ∧ cs ≤ ps9 tp j ∧ rs ≤ ps9 tp j ∧ lW9 f ln cs rs Mc Mr
theorem J_fin {Ma Ra : Mm} {j cs' rs' q K k : Nat} {g : Fx → Bool} (hln : ln < 12) (hK : K = 1259 + 4 * ln) (hk : Int32.ofNat k = 269 ∨ Int32.ofNat k = 270 ∨ Int32.ofNat k = 262) (hq : q ≤ 30) (hW : lW9 f ln cs rs M M') (a1 : cP tp m j Ma) (a2 : mA tp j Ra) (a3 : Ma 31 2 = Int32.ofNat cs') (a4 : Ma 31 1 = Int32.ofNat ln) (a6 : Ra 208 16 = Int32.ofNat rs') (a7 : cs ≤ cs') (a8 : rs ≤ rs') (a9 : cs' ≤ ps9 tp j) (a10 : rs' ≤ ps9 tp j) (b1 : ∀ x, (x = 32 ∨ x = 33 ∨ x = 34 ∨ x = 35) → ∀ y, Ma x y = M x y) (b2 : ∀ y, y < cs → Ma 36 y = M 36 y) (b3 : ∀ y, 1259 ≤ y → y < K → Ra 209 y = M' 209 y) (b4 : ∀ y, y < rs → rcM Ra y = rcM M' y) (b5 : Ra 209 K = kd (Int32.ofNat k)) (b6 : Ra 209 (K + 1) = Int32.ofNat q) (b7 : Ra 209 (K + 2) = Int32.ofNat rs) (b8 : (cs = cs' ∧ rs = rs' ∧ g = fun _ => true) ∨ (semC (Ma 36) cs cs' 1 g ∧ semM (rcM Ra) rs rs' g)) (b9 : inv8 g) : ∃ Mc Mr, f_X2_readsLine_78 20000 31 (Int32.ofNat k) (Int32.ofNat q) (Int32.ofNat cs) Ma = some (1, Mc) ∧ f_X11_readLawLine_128 20000 (Int32.ofNat K) Ra = some (1, Mr) ∧ cV Mc Ma ∧ mV Mr Ra ∧ Mc 31 0 = Ma 31 0 ∧ lE tp m (ln + 1) Mc Mr := by
  obtain ⟨Mc, c1, c2, c3, c4, c5, c6, c7, c8, c9, c10⟩ := c_addL (N := 20000) (v1 := Int32.ofNat k) (v2 := Int32.ofNat q) (v3 := Int32.ofNat cs) a4 hln
  have hx : ∀ y, y ≠ K + 3 → wr Ra 209 (K + 3) (Ra 208 16) 209 y = Ra 209 y := fun y hy => wr_nk hy
  have hrc : ∀ y, rcM (wr Ra 209 (K + 3) (Ra 208 16)) y = rcM Ra y := fun y => by
    unfold rcM
    rw [hx _ (by omega), hx _ (by omega)]
  refine ⟨Mc, wr Ra 209 (K + 3) (Ra 208 16), ?_, m_128 (by omega), fun x h1 h2 => c10 x (by omega), mV.w9 (by omega), c8, j, cs', rs', fun y => if y = ln then (Int32.ofNat k, Int32.ofNat q, g) else f y, ?_, ?_, by rw [c7, a3], c6, by rw [wr_ne (by decide)]; exact a6, a9, a10, fun y hy => ?_⟩
  · unfold f_X2_readsLine_78
    rw [c1]; rfl
  · exact a1.fr (c10 4 (by decide)) (c10 5 (by decide)) (c10 6 (by decide)) (by rw [c10 3 (by decide)]; exact a1.2.2.2.1) a1.2.2.2.2
  · exact a2.fr (wr_nrow (by decide)) (wr_nrow (by decide))
  · by_cases e : y = ln
    · subst e
      simp only [if_true]
      refine ⟨⟨hk, ⟨q, hq, rfl⟩, b9⟩, c2, c3, ?_, ?_, cs, cs', rs, rs', c4, by rw [c5, a3], a7, Nat.le_refl _, ?_, ?_, a8, Nat.le_refl _, ?_⟩
      · rw [hx _ (by omega), ← hK]; exact b5
      · rw [hx _ (by omega), show 1260 + 4 * y = K + 1 by omega]; exact b6
      · rw [hx _ (by omega), show 1261 + 4 * y = K + 2 by omega]; exact b7
      · rw [show 1262 + 4 * y = K + 3 by omega, wr_eq, a6]
      · rcases b8 with h | ⟨h1, h2⟩
        · exact Or.inl h
        · exact Or.inr ⟨by rw [c10 36 (by decide)]; exact h1, h2.ex (fun z _ _ => hrc z)⟩
    · simp only [if_neg e]
      exact lW9.ex (M := M) (M' := M') (ln := ln) (cs := cs) (rs := rs) hW (fun x hx2 z hz => by rw [c9 x hx2 z hz, b1 x hx2 z]) (fun z hz => by rw [c10 36 (by decide)]; exact b2 z hz) (fun z h1 h2 => by rw [hx _ (by omega)]; exact b3 z h1 (by omega)) (fun z hz => by rw [hrc z]; exact b4 z hz) a7 a8 y (by omega)
theorem J_lline (hT : tX tp) (hln : ln < 12) (hc : cP tp m i M) (h2 : M 31 2 = Int32.ofNat cs) (h1 : M 31 1 = Int32.ofNat ln) (hl : mL tp i M') (h16 : M' 208 16 = Int32.ofNat rs) (e1 : cs ≤ ps9 tp i) (e2 : rs ≤ ps9 tp i) (hW : lW9 f ln cs rs M M') : ∃ r Mc Mr, f_X2_readsLine 20000 31 M = some (r, Mc) ∧ f_X11_readLawLine 20000 (Int32.ofNat ln) M' = some (r, Mr) ∧ cV Mc M ∧ mV Mr M' ∧ Mc 31 0 = M 31 0 ∧ ((r = 0 ∧ ∃ j, cP tp m j Mc ∧ mB tp j Mr) ∨ (r = 1 ∧ lE tp m (ln + 1) Mc Mr)) := by
  have hl4 := hT.1
  have n10 : ¬ (1 : Int32) = 0 := by decide
  have nn1 : ¬ (0 : Int32) ≤ -1 := by decide
  by_cases hk : ∃ a, kL (kd9 tp (ps9 tp i)) a
  · obtain ⟨a, hk⟩ := hk
    obtain ⟨ha3, hw, hkk, hak, q9, hq9, ek⟩ := kL_w hT hk
    obtain ⟨M1, a1, a2, a3⟩ := c_e1 (N := 20000) hT hc rfl (by omega)
    rw [c_lineA hc hk, m_lineA hT hl hk]
    obtain ⟨K, hK⟩ : ∃ K, K = 1259 + 4 * ln := ⟨_, rfl⟩
    rw [← hK]
    unfold f_X2_readsLine_26
    rw [a1, bnd_s, if_neg n10]
    have hA15 : mA tp (i + 1) (wr M' 209 K (Int32.ofNat a)) := (hl.nx hT hq9 ek).fr (wr_nrow (by decide)) (wr_nrow (by decide))
    by_cases g : gNu tp 0 30 (ps9 tp (i + 1))
    · obtain ⟨M2, b1, b2, b3⟩ := c_n1 (N := 20000) hT a2 g (by decide)
      obtain ⟨R1, c1, c2, c3⟩ := m_n1 (N := 20000) (by decide) hT hA15 g (by decide) (by decide)
      have hq := g.2.2
      have hlt1 := kd_lt hT (q := ps9 tp (i + 1)) (by rw [g.1]; decide)
      have hgt1 := (ps_gt hlt1).2
      rw [show f_X9_eatsNumber 20000 0 30 M1 = some (Int32.ofNat (vl9 tp (ps9 tp (i + 1))), M2) from b1, bnd_s, if_neg (i32_nm1 (by omega)), lt_e, show M2 31 2 = Int32.ofNat cs by rw [b3 31 (by decide), a3 31 (by decide)]; exact h2, m_53a (N := 20000) (K := K) (a := a) (by omega) ha3 (show f_X11_number 20000 0 30 (wr M' 209 K (Int32.ofNat a)) = some (Int32.ofNat (vl9 tp (ps9 tp (i + 1))), R1) from c1), if_pos (i32_ge0 (by omega))]
      generalize hqv : vl9 tp (ps9 tp (i + 1)) = q at hq ⊢
      have r16 : R1 208 16 = Int32.ofNat rs := by rw [c3.s16, wr_ne (by decide)]; exact h16
      rw [r16]
      obtain ⟨R2, hR2⟩ : ∃ R2, R2 = wr (wr (wr R1 209 (K + 1) (Int32.ofNat q)) 209 (K + 2) (Int32.ofNat rs)) 208 13 0 := ⟨_, rfl⟩
      rw [← hR2]
      have hA2 : mA tp (i + 1 + 1) R2 := by
        rw [hR2]
        exact (c2.fr (M' := wr (wr R1 209 (K + 1) (Int32.ofNat q)) 209 (K + 2) (Int32.ofNat rs)) (by rw [wr_nrow (by decide), wr_nrow (by decide)]) (by rw [wr_nrow (by decide), wr_nrow (by decide)])).d13
      have h216 : R2 208 16 = Int32.ofNat rs := by rw [hR2, wr_nk (by decide), wr_ne (by decide), wr_ne (by decide)]; exact r16
      have h213 : R2 208 13 = Int32.ofNat 0 := by rw [hR2, wr_eq]; rfl
      have h29 : R2 209 = wr (wr R1 209 (K + 1) (Int32.ofNat q)) 209 (K + 2) (Int32.ofNat rs) 209 := by rw [hR2, wr_nrow (by decide)]
      have h29b : ∀ y, y ≠ K + 1 → y ≠ K + 2 → y ≠ K → R2 209 y = M' 209 y := fun y y1 y2 y3 => by
        rw [h29, wr_nk y2, wr_nk y1, c3.1 209 (by decide), wr_nk y3]
      have h29K : R2 209 K = Int32.ofNat a := by rw [h29, wr_nk (by omega), wr_nk (by omega), c3.1 209 (by decide), wr_eq]
      have h291 : R2 209 (K + 1) = Int32.ofNat q := by rw [h29, wr_nk (by omega), wr_eq]
      have h292 : R2 209 (K + 2) = Int32.ofNat rs := by rw [h29, wr_eq]
      have hrc2 : ∀ y, rcM R2 y = rcM M' y := fun y => by
        unfold rcM
        rw [h29b _ (by omega) (by omega) (by omega), h29b _ (by omega) (by omega) (by omega)]
      have vM2 : mV R2 M' := by
        rw [hR2]
        exact mV.w13.trans ((mV.w9 (by omega)).trans ((mV.w9 (by omega)).trans (c3.v.trans (mV.w9 (by omega)))))
      have vC2 : cV M2 M := b3.v.trans a3.v
      by_cases w : kd9 tp (ps9 tp (i + 1 + 1)) = 271
      · obtain ⟨-, -, -, lw, -⟩ := len_w
        have hw2 := ps_w (k := 15) hT (by decide) w
        rw [lw] at hw2
        have hps3 := ps_len (tp := tp) (i + 1 + 1 + 1)
        obtain ⟨M3, d1, d2, d3⟩ := c_e1 (N := 20000) (k := 271) hT b2 w (by decide)
        obtain ⟨R3, f1, f2, f3⟩ := m_p1 (N := 20000) (k := 15) (s := 27) (by decide) hT rfl (by decide) hA2 w
        rw [show f_X9_eats 20000 271 M2 = some (1, M3) from d1, bnd_s, if_neg n10, show f_X11_passes 20000 1000027 R2 = some (1, R3) from f1, bnd_s, if_neg n10]
        have hCo : aH tp m 1 0 (fun v M => f_X2_readsCondition 20000 31 (f_X2_readsAtom 20000 31 20) v M) (fun M => f_X11_readCond 20000 (f_X11_readAtom 20000 20) M) := J_cond (B := 1) hT (by decide) (J_all (B := 2) hT (by decide) (J_atom hT 20 0 (by decide) (by decide)))
        obtain ⟨r, Ma, Ra, x1, x2, x3, x4, x5⟩ := hCo (i + 1 + 1 + 1) cs rs M3 R3 ⟨d2, by rw [d3 31 (by decide), b3 31 (by decide), a3 31 (by decide)]; exact h2, f2, by rw [f3.s16]; exact h216, by rw [f3.s13]; exact h213⟩ (by omega) (by omega)
        rw [show f_X2_readsCondition 20000 31 (f_X2_readsAtom 20000 31 20) 0 M3 = some (r, Ma) from x1, bnd_s, show f_X11_readCond 20000 (f_X11_readAtom 20000 20) R3 = some (r, Ra) from x2, bnd_s]
        have vC : cV Ma M := x3.v.trans (d3.v.trans vC2)
        have vM : mV Ra M' := x4.v.trans (f3.v.trans vM2)
        have h310 : Ma 31 0 = M 31 0 := by rw [x3.2.1 0 (by decide), d3 31 (by decide), b3 31 (by decide), a3 31 (by decide)]
        rcases x5 with ⟨er, j, y1, y2⟩ | ⟨er, j, cs', rs', g', y1, y2, y3, y4, y5, y6, y7⟩
        · subst er
          rw [if_pos rfl, if_pos rfl]
          exact ⟨0, Ma, Ra, rfl, rfl, vC, vM, h310, Or.inl ⟨rfl, j, y1, y2⟩⟩
        · subst er
          rw [if_neg n10, if_neg n10]
          have z1 := y6.1
          have z2 := y7.1
          have e9 : ∀ y, y < 1307 + 2 * rs → Ra 209 y = R2 209 y := fun y hy => by rw [x4.2.2 y hy, f3.1 209 (by decide)]
          obtain ⟨Mc, Mr, u1, u2, u3, u4, u5, u6⟩ := J_fin (K := K) (q := q) (k := kd9 tp (ps9 tp i)) (g := g') hln hK hkk hq hW y1.1 y1.2.2.1 y1.2.1 (by rw [x3.2.1 1 (by decide), d3 31 (by decide), b3 31 (by decide), a3 31 (by decide)]; exact h1) y1.2.2.2.1 z1 z2 (by omega) (by omega) (fun x hx y => by rw [x3.1 x (by omega) (by omega) (by omega), d3 x (by omega), b3 x (by omega), a3 x (by omega)]) (fun y hy => by rw [x3.2.2 y hy, d3 36 (by decide), b3 36 (by decide), a3 36 (by decide)]) (fun y h8 h9 => by rw [e9 y (by omega), h29b y (by omega) (by omega) (by omega)]) (fun y hy => by rw [← hrc2 y]; unfold rcM; rw [e9 _ (by omega), e9 _ (by omega)]) (by rw [e9 K (by omega), h29K]; exact hak) (by rw [e9 _ (by omega)]; exact h291) (by rw [e9 _ (by omega)]; exact h292) (Or.inr ⟨y6, y7⟩) y5
          exact ⟨1, Mc, Mr, u1, u2, u3.trans vC, u4.trans vM, u5.trans h310, Or.inr ⟨rfl, u6⟩⟩
      · obtain ⟨R3, f1, f2, -, f3⟩ := m_p0 (N := 20000) (k := 15) (s := 27) (by decide) hT rfl (by decide) hA2 w
        rw [show f_X9_eats 20000 271 M2 = some (0, M2) from c_ne 20000 hT b2 271 w (by decide), bnd_s, if_pos rfl, show f_X11_passes 20000 1000027 R2 = some (0, R3) from f1, bnd_s, if_pos rfl]
        obtain ⟨Mc, Mr, u1, u2, u3, u4, u5, u6⟩ := J_fin (K := K) (q := q) (k := kd9 tp (ps9 tp i)) (g := fun _ => true) (Ma := M2) (Ra := R3) (cs' := cs) (rs' := rs) hln hK hkk hq hW b2 f2 (by rw [b3 31 (by decide), a3 31 (by decide)]; exact h2) (by rw [b3 31 (by decide), a3 31 (by decide)]; exact h1) (by rw [f3.s16]; exact h216) (Nat.le_refl _) (Nat.le_refl _) (by omega) (by omega) (fun x hx y => by rw [b3 x (by omega), a3 x (by omega)]) (fun y hy => by rw [b3 36 (by decide), a3 36 (by decide)]) (fun y h8 h9 => by rw [f3.1 209 (by decide), h29b y (by omega) (by omega) (by omega)]) (fun y hy => by rw [f3.rc]; exact hrc2 y) (by rw [f3.1 209 (by decide), h29K]; exact hak) (by rw [f3.1 209 (by decide)]; exact h291) (by rw [f3.1 209 (by decide)]; exact h292) (Or.inl ⟨rfl, rfl, rfl⟩) (fun _ _ => rfl)
        exact ⟨1, Mc, Mr, u1, u2, u3.trans vC2, u4.trans (f3.v.trans vM2), u5.trans (by rw [b3 31 (by decide), a3 31 (by decide)]), Or.inr ⟨rfl, u6⟩⟩
    · obtain ⟨R1, c1, c2, c3⟩ := m_n0 (N := 20000) (by decide) hT hA15 g (by decide) (by decide)
      rw [show f_X9_eatsNumber 20000 0 30 M1 = some (-1, M1) from c_n0 (lo := 0) (hi := 30) hT a2 g (by decide), bnd_s, if_pos rfl, m_53a (N := 20000) (K := K) (a := a) (by omega) ha3 (show f_X11_number 20000 0 30 (wr M' 209 K (Int32.ofNat a)) = some (-1, R1) from c1), if_neg nn1]
      exact ⟨0, M1, wr R1 209 (K + 1) (-1), rfl, rfl, a3.v, (mV.w9 (by omega)).trans (c3.v.trans (mV.w9 (by omega))), by rw [a3 31 (by decide)], Or.inl ⟨rfl, i + 1, a2, c2.fr (wr_nrow (by decide)) (wr_nrow (by decide))⟩⟩
  · have n1 : ¬ kd9 tp (ps9 tp i) = 269 := fun h9 => hk ⟨0, Or.inl ⟨h9, rfl⟩⟩
    have n2 : ¬ kd9 tp (ps9 tp i) = 270 := fun h9 => hk ⟨1, Or.inr (Or.inl ⟨h9, rfl⟩)⟩
    have n3 : ¬ kd9 tp (ps9 tp i) = 262 := fun h9 => hk ⟨2, Or.inr (Or.inr ⟨h9, rfl⟩)⟩
    rw [c_line0 hT hc n1 n2 n3, m_line0 hT hln hl n1 n2 n3]
    exact ⟨0, M, _, rfl, rfl, cV.rf, mV.w9 (by omega), rfl, Or.inl ⟨rfl, i, hc, hl.b.fr (wr_nrow (by decide)) (wr_nrow (by decide))⟩⟩
end LM
