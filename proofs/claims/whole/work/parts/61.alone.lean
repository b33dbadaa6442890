/-! Alone; the game of a diner and a cook. -/
section AL
variable {nd nc : Nat} {T : Tb} {L : List Row} {K : LwS} {W : Lw} {w : Nat → Int32}
theorem RW_has {d t k : Nat} {v : Int32} (hR : RW nd nc T L w) (hd : d < nd) (ht : t < 6) (hk : k ≤ 999) (hv : v = Int32.ofNat k) : RW nd nc (wr T 3 (6 * d + t) v) L (updF w (12 + 9 * d + 3 + t) v) := by
  obtain ⟨r0, r1, r2, r3, r4, r5, r6, r7⟩ := hR
  have hnd := r0.1
  have hnc := r0.2.1
  have hw : ∀ j, j ≠ 12 + 9 * d + 3 + t → updF w (12 + 9 * d + 3 + t) v j = w j := fun j hj => updF_ne hj
  have hrow : ∀ i, i ≠ 3 → wr T 3 (6 * d + t) v i = T i := fun i hi => wr_nrow hi
  refine ⟨?_, ?_, ?_, ?_, ?_, ?_, ?_, tz_wr r7 (show 6 * d + t < 48 by omega)⟩
  · unfold rHead; rw [hrow 0 (by decide), hw 0 (by omega), hw 1 (by omega)]; exact r0
  · unfold rScal
    rw [hrow 0 (by decide), hw 6 (by omega), hw 4 (by omega), hw 5 (by omega), hw 7 (by omega), hw 8 (by omega), hw 9 (by omega), hw 11 (by omega), hw 2 (by omega)]; exact r1
  · unfold rSeat
    rw [hrow 1 (by decide)]
    refine ⟨fun d' hd' => ?_, fun s hs => ?_⟩
    · rw [hw _ (by omega)]; exact r2.1 d' hd'
    · rcases r2.2 s hs with e | ⟨d', hd', e1, e2⟩
      · exact Or.inl e
      · exact Or.inr ⟨d', hd', e1, by rw [hw _ (by omega)]; exact e2⟩
  · intro d' hd'
    obtain ⟨b1, b2, b3⟩ := r3 d' hd'
    refine ⟨by rw [hrow 2 (by decide), hw _ (by omega)]; exact b1, ?_, fun t' ht' => ?_⟩
    · rw [hw _ (by omega), b2]
      unfold sDiet
      rw [hrow 0 (by decide)]
    · by_cases e : d' = d ∧ t' = t
      · obtain ⟨rfl, rfl⟩ := e
        rw [wr_eq, updF_eq]
      · rw [wr_nk (by omega), hw _ (by omega)]; exact b3 t' ht'
  · intro c hc k9 hk9
    rw [hw _ (by omega), hrow _ (by omega)]; exact r4 c hc k9 hk9
  · obtain ⟨a1, a2, a3⟩ := r5
    refine ⟨a1, by rw [hw 10 (by omega)]; exact a2, fun j hj => ?_⟩
    rw [hw _ (by omega), hw _ (by omega), hw _ (by omega), hw _ (by omega), hw _ (by omega)]; exact a3 j hj
  · obtain ⟨a1, a2, a3, a4, a5⟩ := r6
    unfold rB
    rw [hrow 0 (by decide), hrow 2 (by decide), hrow 4 (by decide), hrow 5 (by decide), hrow 6 (by decide), hrow 7 (by decide), hrow 8 (by decide)]
    refine ⟨a1, a2, a3, fun d' hd' => ⟨(a4 d' hd').1, fun t' ht' => ?_⟩, a5⟩
    by_cases e : d' = d ∧ t' = t
    · obtain ⟨rfl, rfl⟩ := e
      rw [wr_eq]; exact ⟨k, hk, hv⟩
    · rw [wr_nk (by omega)]; exact (a4 d' hd').2 t' ht'
def fxN (fx : Fx) (p : Int32) : Fx := updF (updF fx 3 (fx 3 - p)) 5 (if fx 5 + p < 999 then fx 5 + p else 999)
def sAlo (W : Lw) : Nat → Nat → Fx → Int32
  | 0, _, _ => -1
  | k + 1, n, fx => if 0 < fx 3 then (if 0 < sPinch W fx then sAlo W k (n + 1) (fxN fx (sPinch W fx)) else -1) else Int32.ofNat n
theorem c_alone_31 : ∀ (n k i : Nat) (M : Mm), cLaw 25 W M → i + k = 201 → k < n → ∃ M', f_X10_alone_31 20000 n (Int32.ofNat i) M = some (.inl (sAlo W k i (fxM M)), M') ∧ ∀ x, x ≠ 40 → M' x = M x := by
  intro n
  induction n with
  | zero => intro k i M _ _ h; omega
  | succ n ih =>
    intro k i M hW hik hk
    rw [f_X10_alone_31]
    match k with
    | 0 =>
      rw [if_pos (show (200 : Int32) < Int32.ofNat i from i32_ltn (k := 200) (by omega) (by omega))]
      exact ⟨M, rfl, fun _ _ => rfl⟩
    | k + 1 =>
      rw [if_neg (show ¬ (200 : Int32) < Int32.ofNat i from i32_nlt (n := 200) (by omega) (by omega)), sAlo, show fxM M 3 = M 40 3 from rfl]
      by_cases q1 : 0 < M 40 3
      · rw [if_pos q1, if_pos q1, c_pinch hW]
        simp only [bnd]
        by_cases q2 : 0 < sPinch W (fxM M)
        · rw [if_pos q2, if_pos q2]
          simp only [lt, i32_succ]
          rw [wr_nk (show (5 : Nat) ≠ 3 by decide)]
          obtain ⟨M', a1, a2⟩ := ih k (i + 1) (wr (wr M 40 3 (M 40 3 - sPinch W (fxM M))) 40 5 (if M 40 5 + sPinch W (fxM M) < 999 then M 40 5 + sPinch W (fxM M) else 999)) (hW.frame (fun j hj => by rw [wr_nrow (by omega), wr_nrow (by omega)])) (by omega) (by omega)
          have hfx : fxM (wr (wr M 40 3 (M 40 3 - sPinch W (fxM M))) 40 5 (if M 40 5 + sPinch W (fxM M) < 999 then M 40 5 + sPinch W (fxM M) else 999)) = fxN (fxM M) (sPinch W (fxM M)) := by
            have hf : ∀ (M9 : Mm) (j : Nat), j < 9 → fxM M9 j = M9 40 j := fun M9 j hj => if_pos hj
            funext j
            unfold fxN
            by_cases e5 : j = 5
            · subst e5; rw [updF_eq, hf _ 5 (by decide), wr_eq]; rfl
            · rw [updF_ne e5]
              by_cases e3 : j = 3
              · subst e3; rw [updF_eq, hf _ 3 (by decide), wr_nk (by decide), wr_eq]; rfl
              · rw [updF_ne e3]
                unfold fxM
                rw [wr_nk e5, wr_nk e3]
          rw [hfx] at a1
          exact ⟨M', a1, fun x hx => by rw [a2 x hx, wr_nrow hx, wr_nrow hx]⟩
        · rw [if_neg q2, if_neg q2]
          exact ⟨M, rfl, fun _ _ => rfl⟩
      · rw [if_neg q1, if_neg q1]
        exact ⟨M, rfl, fun _ _ => rfl⟩
theorem m_alone_163 {c tn : Nat} {d : Nat} {v6 s0 : Int32} {M M0 : Mm} (hc : c < 5) (hd : d < 8) (ht : tn < 6) (hM : ∀ j, j ≠ 84 + 5 * c + 2 → j ≠ 12 + 9 * d + 3 + tn → M 209 j = M0 209 j) : ∃ M', f_X11_alone_163 20000 (Int32.ofNat c) (Int32.ofNat (12 + 9 * d + 3 + tn)) (M0 209 (84 + 5 * c + 2)) (M0 209 (12 + 9 * d + 3 + tn)) v6 s0 M = some (if s0 = 0 then -1 else v6, M') ∧ M' 209 = M0 209 ∧ ∀ x, x ≠ 209 → M' x = M x := by
  have c1 : ((84 : Int32) + (5 : Int32) * Int32.ofNat c) + (2 : Int32) = Int32.ofNat (84 + 5 * c + 2) := m_cAt c 2
  unfold f_X11_alone_163 f_X11_cellarAt
  simp only [bnd, c1, grd, inb_ofNat (show 84 + 5 * c + 2 < 2107 by omega) (by omega), inb_ofNat (show 12 + 9 * d + 3 + tn < 2107 by omega) (by omega), if_true, lt, i32_clampN (show 84 + 5 * c + 2 < 2147483648 by omega), i32_clampN (show 12 + 9 * d + 3 + tn < 2147483648 by omega)]
  refine ⟨wr (wr M 209 (84 + 5 * c + 2) (M0 209 (84 + 5 * c + 2))) 209 (12 + 9 * d + 3 + tn) (M0 209 (12 + 9 * d + 3 + tn)), by split <;> rfl, ?_, fun x hx => by rw [wr_nrow hx, wr_nrow hx]⟩
  funext j
  by_cases e1 : j = 12 + 9 * d + 3 + tn
  · subst e1; rw [wr_eq]
  · rw [wr_nk e1]
    by_cases e2 : j = 84 + 5 * c + 2
    · subst e2; rw [wr_eq]
    · rw [wr_nk e2]; exact hM j e2 e1
theorem m_alone_142 {c d tn i : Nat} {M M0 : Mm} {T' : Tb} (hR : RW nd nc T' L (M 209)) (hc : c < nc) (hd : d < nd) (ht : tn < 6) (hi : i ≤ 202) (hM : ∀ j, j ≠ 84 + 5 * c + 2 → j ≠ 12 + 9 * d + 3 + tn → M 209 j = M0 209 j) : ∃ M', f_X11_alone_142 20000 (Int32.ofNat c) (Int32.ofNat (12 + 9 * d + 3 + tn)) (M0 209 (84 + 5 * c + 2)) (M0 209 (12 + 9 * d + 3 + tn)) (Int32.ofNat i) M = some (if T' 6 c ≤ 0 ∧ i ≤ 200 then Int32.ofNat i else -1, M') ∧ M' 209 = M0 209 ∧ ∀ x, x ≠ 209 → M' x = M x := by
  have hnc := hR.1.2.1
  have hnd := hR.1.1
  unfold f_X11_alone_142 f_X11_alone_162
  rw [m_free01 hR hc]
  simp only [bnd]
  obtain ⟨M1, a1, a2, a3⟩ := m_alone_163 (v6 := Int32.ofNat i) (s0 := 0) (M := M) (M0 := M0) (show c < 5 by omega) (show d < 8 by omega) ht hM
  obtain ⟨M2, b1, b2, b3⟩ := m_alone_163 (v6 := Int32.ofNat i) (s0 := 1) (M := M) (M0 := M0) (show c < 5 by omega) (show d < 8 by omega) ht hM
  by_cases q1 : T' 6 c ≤ 0
  · rw [if_pos q1, if_neg (show ¬ (1 : Int32) = 0 by decide)]
    by_cases q2 : i ≤ 200
    · rw [if_neg (show ¬ (200 : Int32) < Int32.ofNat i from i32_nlt (n := 200) q2 (by omega)), if_pos ⟨q1, q2⟩]
      exact ⟨M2, b1, b2, b3⟩
    · rw [if_pos (show (200 : Int32) < Int32.ofNat i from i32_ltn (k := 200) (by omega) (by omega)), if_neg (fun h9 => q2 h9.2)]
      exact ⟨M1, a1, a2, a3⟩
  · rw [if_neg q1, if_pos rfl, if_neg (fun h9 => q1 h9.1)]
    exact ⟨M1, a1, a2, a3⟩
theorem m_alone_71 {c d tn : Nat} {M0 : Mm} (hO : lwOK W) (hW0 : wLaw W M0) (hc : c < nc) (hd : d < nd) (ht : tn < 6) : ∀ (n k i : Nat) (v7 : Int32) (T' : Tb) (M : Mm), RW nd nc T' L (M 209) → T' 5 c = Int32.ofNat tn → (∀ j, j ≠ 84 + 5 * c + 2 → j ≠ 12 + 9 * d + 3 + tn → M 209 j = M0 209 j) → 0 < v7 → i + k = 201 → k + 1 < n → ∃ M', f_X11_alone_71 20000 n (Int32.ofNat c) (Int32.ofNat d) (Int32.ofNat (12 + 9 * d + 3 + tn)) (M0 209 (84 + 5 * c + 2)) (M0 209 (12 + 9 * d + 3 + tn)) (Int32.ofNat i) v7 M = some (sAlo W k i (sFx T' (Int32.ofNat c) (Int32.ofNat d)), M') ∧ M' 209 = M0 209 ∧ ∀ x, x ≠ 209 → x ≠ 216 → M' x = M x := by
  intro n
  induction n with
  | zero => intro k i v7 T' M _ _ _ _ _ h; omega
  | succ n ih =>
    intro k i v7 T' M hR h5 hM hv hik hk
    have hnc := hR.1.2.1
    have hnd := hR.1.1
    obtain ⟨N1, f1, f2, f3⟩ := m_alone_142 (i := i) (M := M) (M0 := M0) hR hc hd ht (by omega) hM
    rw [f_X11_alone_71, if_neg (Int32.not_le.mpr hv)]
    match k with
    | 0 =>
      rw [if_pos (show (200 : Int32) < Int32.ofNat i from i32_ltn (k := 200) (by omega) (by omega)), f1, if_neg (by omega)]
      exact ⟨N1, rfl, f2, fun x h1 _ => f3 x h1⟩
    | k + 1 =>
      rw [if_neg (show ¬ (200 : Int32) < Int32.ofNat i from i32_nlt (n := 200) (by omega) (by omega)), m_free01 hR hc, sAlo, sFx_3 (show c < 5 by omega)]
      simp only [bnd]
      by_cases q1 : T' 6 c ≤ 0
      · rw [if_pos q1, if_neg (show ¬ (1 : Int32) = 0 by decide), f1, if_pos ⟨q1, by omega⟩, if_neg (Int32.not_lt.mpr q1)]
        exact ⟨N1, rfl, f2, fun x h1 _ => f3 x h1⟩
      · have hWM : wLaw W M := hW0.frame (hM 3 (by omega) (by omega)) (fun j h1 _ => hM j (by omega) (by omega)) hO
        obtain ⟨M1, a1, a2⟩ := m_pinchOf (c := c) (d := d) hO hc hd hR hWM
        have c1 : ((84 : Int32) + (5 : Int32) * Int32.ofNat c) + (2 : Int32) = Int32.ofNat (84 + 5 * c + 2) := m_cAt c 2
        have e9 : M1 209 = M 209 := a2 209 (by decide)
        have w2 : M 209 (84 + 5 * c + 2) = T' 6 c := hR.2.2.2.2.1 c hc 2 (by decide)
        have w3 : M 209 (12 + 9 * d + 3 + tn) = T' 3 (6 * d + tn) := (hR.2.2.2.1 d hd).2.2 tn ht
        rw [if_neg q1, if_pos rfl, if_pos (Int32.not_le.mp q1), a1]
        simp only [bnd, f_X11_cellarAt, c1, grd, inb_ofNat (show 84 + 5 * c + 2 < 2107 by omega) (by omega), inb_ofNat (show 12 + 9 * d + 3 + tn < 2107 by omega) (by omega), if_true, lt, i32_clampN (show 84 + 5 * c + 2 < 2147483648 by omega), i32_clampN (show 12 + 9 * d + 3 + tn < 2147483648 by omega), i32_succ]
        rw [wr_nk (show 12 + 9 * d + 3 + tn ≠ 84 + 5 * c + 2 by omega), e9, w2, w3]
        generalize hp : sPinch W (sFx T' (Int32.ofNat c) (Int32.ofNat d)) = p at a1 ⊢
        obtain ⟨-, -, ⟨g, hg, eg⟩, -⟩ := hR.2.2.2.2.2.2.1.2.2.2.2 c hc
        have hp0 : 0 ≤ p ∧ p ≤ T' 6 c := by
          rw [← hp, sPinch_t]
          split
          · unfold sTaken
            rw [sFx_3 (by omega)]
            exact sCut_le (by rw [eg]; exact i32_ge0 (by omega))
          · exact ⟨by decide, by rw [eg]; exact i32_ge0 (by omega)⟩
        have hR2 := RW_cel (c := c) (k := 2) (v := T' 6 c - p) hR hc (by decide) ⟨fun h => by omega, fun h => by omega, fun _ => i32_sub_ex eg hg hp0.1 hp0.2, fun h => by omega, fun h => by omega⟩
        obtain ⟨kh, hkh, ekh⟩ := (hR.2.2.2.2.2.2.1.2.2.2.1 d hd).2 tn ht
        obtain ⟨q9, hq9, eq9⟩ := i32_min_ex (x := T' 3 (6 * d + tn)) (p := p) (m := 999) ekh hkh (by omega) hp0.1 (by
          refine Int32.le_trans hp0.2 ?_
          rw [eg]; exact i32_len (n := 100000) (by omega) (by omega))
        have hR3 := RW_has (d := d) (t := tn) (k := q9) hR2 hd ht hq9 eq9
        have hfx : sFx (wr (wr T' (4 + 2) c (T' 6 c - p)) 3 (6 * d + tn) (if T' 3 (6 * d + tn) + p < Int32.ofNat 999 then T' 3 (6 * d + tn) + p else Int32.ofNat 999)) (Int32.ofNat c) (Int32.ofNat d) = fxN (sFx T' (Int32.ofNat c) (Int32.ofNat d)) p := by
          have hh : sFx T' (Int32.ofNat c) (Int32.ofNat d) 5 = T' 3 (6 * d + tn) := by
            show sHasOf T' (Int32.ofNat d) (T' 5 (Int32.ofNat c).toNatClampNeg) = _
            rw [i32_clampN (by omega), h5, sHasOf_eq (by omega) ht]
          funext j
          unfold fxN
          rw [hh, sFx_3 (show c < 5 by omega)]
          match j with
          | 0 | 1 => rfl
          | 2 =>
            rw [updF_ne (by decide), updF_ne (by decide)]
            show wr _ _ _ _ 2 _ = T' 2 _
            rw [wr_ne (by decide), wr_ne (by decide)]
          | 3 =>
            rw [updF_ne (by decide), updF_eq]
            show wr _ _ _ _ 6 (Int32.ofNat c).toNatClampNeg = _
            rw [i32_clampN (by omega), wr_ne (by decide), wr_eq]
          | 4 =>
            rw [updF_ne (by decide), updF_ne (by decide)]
            show wr _ _ _ _ 7 _ = T' 7 _
            rw [wr_ne (by decide), wr_ne (by decide)]
          | 5 =>
            rw [updF_eq]
            show sHasOf _ (Int32.ofNat d) (wr _ _ _ _ 5 (Int32.ofNat c).toNatClampNeg) = _
            rw [i32_clampN (by omega), wr_ne (by decide), wr_ne (by decide), h5, sHasOf_eq (by omega) ht, wr_eq]; rfl
          | 6 =>
            rw [updF_ne (by decide), updF_ne (by decide)]
            show wr _ _ _ _ 0 4 = T' 0 4
            rw [wr_ne (by decide), wr_ne (by decide)]
          | 7 =>
            rw [updF_ne (by decide), updF_ne (by decide)]
            show sDiet _ _ = sDiet T' _
            unfold sDiet
            rw [wr_ne (by decide), wr_ne (by decide)]
          | 8 =>
            rw [updF_ne (by decide), updF_ne (by decide)]
            show sSweet _ = sSweet T'
            unfold sSweet
            rw [wr_ne (by decide), wr_ne (by decide), wr_ne (by decide), wr_ne (by decide)]
          | j + 9 => rw [updF_ne (by omega), updF_ne (by omega)]; rfl
        have hM2 : ∀ v v' : Int32, ∀ j, j ≠ 84 + 5 * c + 2 → j ≠ 12 + 9 * d + 3 + tn → wr (wr M1 209 (84 + 5 * c + 2) v) 209 (12 + 9 * d + 3 + tn) v' 209 j = M0 209 j := fun v v' j h1 h2 => by rw [wr_nk h2, wr_nk h1, e9]; exact hM j h1 h2
        have hR4 : RW nd nc (wr (wr T' (4 + 2) c (T' 6 c - p)) 3 (6 * d + tn) (if T' 3 (6 * d + tn) + p < Int32.ofNat 999 then T' 3 (6 * d + tn) + p else Int32.ofNat 999)) L (wr (wr M1 209 (84 + 5 * c + 2) (T' 6 c - p)) 209 (12 + 9 * d + 3 + tn) (if T' 3 (6 * d + tn) + p < 999 then T' 3 (6 * d + tn) + p else 999) 209) := by
          rw [wr_row, wr_row, e9]; exact hR3
        by_cases q2 : 0 < p
        · rw [if_pos q2]
          obtain ⟨M', b1, b2, b3⟩ := ih k (i + 1) p _ _ hR4 (by rw [wr_ne (by decide), wr_ne (by decide)]; exact h5) (hM2 _ _) q2 (by omega) (by omega)
          rw [hfx] at b1
          exact ⟨M', b1, b2, fun x h1 h2 => by rw [b3 x h1 h2, wr_nrow h1, wr_nrow h1, a2 x h2]⟩
        · rw [if_neg q2]
          have hpz : p = 0 := Int32.le_antisymm (Int32.not_lt.mp q2) hp0.1
          obtain ⟨n', rfl⟩ : ∃ n', n = n' + 1 := ⟨n - 1, by omega⟩
          rw [f_X11_alone_71, if_pos (by rw [hpz]; decide)]
          obtain ⟨N2, g1, g2, g3⟩ := m_alone_142 (i := i + 1) (M0 := M0) hR4 hc hd ht (by omega) (hM2 _ _)
          rw [g1]
          refine ⟨N2, ?_, g2, fun x h1 h2 => by rw [g3 x h1, wr_nrow h1, wr_nrow h1, a2 x h2]⟩
          rw [if_neg]
          intro h9
          apply q1
          have h8 := h9.1
          rw [wr_ne (by decide), show (4 + 2 : Nat) = 6 from rfl, wr_eq, hpz, Int32.sub_zero] at h8
          exact h8
theorem P_alone {M : Mm} (h : InvM M) (v1 v2 : Int32) : Kd (fun M => f_L_alone 20000 v1 v2 M) (fun M => f_X11_alone 20000 v1 v2 M) M := by
  obtain ⟨nd, nc, T, L, K, ms, im, tp, ft, h, hR, hs, hz, h70, h71, hnd, hnc⟩ := Ix h
  have hO : lwOK K.2 := h.2.2.1
  rcases i32_rng v1 (n := nc) (by omega) with ⟨c, hc, rfl⟩ | hb
  · rcases i32_rng v2 (n := nd) (by omega) with ⟨d, hd, rfl⟩ | hb2
    · obtain ⟨M1, t1, t2, t3⟩ := c_tell (N := 20000) (a := 7) (c := Int32.ofNat c) (d := Int32.ofNat d) (M := M) (by omega) (i32_nn (by omega)) (i32_nle (n := 5) (by omega) (by omega)) (i32_nn (by omega)) (i32_ltn (n := 8) (by omega) (by omega))
      rw [hs] at t3
      obtain ⟨M2, a1, a2⟩ := c_alone_31 (W := K.2) 20000 201 0 M1 (h.1.2.2.1.1.frame (fun j hj => t2 _ (by omega))) (by omega) (by omega)
      rw [t3] at a1
      obtain ⟨-, ⟨tn, ht, h5⟩, -⟩ := hR.2.2.2.2.2.2.1.2.2.2.2 c hc
      refine Kr (F := fun M => f_X10_alone 20000 (Int32.ofNat c) (Int32.ofNat d) M) (r := sAlo K.2 201 0 (sFx T (Int32.ofNat c) (Int32.ofNat d))) (M1 := M2) (fun M => rfl) h ?_ (cQ40 (fun x hx => by rw [a2 x hx, t2 x hx]) h.1.2.2.2.2.2.2.2) (fun M' hm => ?_)
      · simp only [f_X10_alone, c_nC h71 hc (show nc ≤ 8 by omega), bnx, c_nD h70 hd hnd, t1, bnd]
        exact a1
      · obtain ⟨M3, b1, b2, b3⟩ := m_alone_71 (nd := nd) (nc := nc) (L := L) (W := K.2) (c := c) (d := d) (tn := tn) (M0 := wr M' 208 0 0) hO (mWl hm) hc hd ht 20000 201 0 1 T (wr M' 208 0 0) (mW hm) h5 (fun _ _ _ => rfl) (by decide) (by omega) (by omega)
        have e1 : f_X11_dinerAt 20000 (Int32.ofNat d) (3 + Int32.ofNat tn) (wr M' 208 0 0) = some (Int32.ofNat (12 + 9 * d + 3 + tn), wr M' 208 0 0) := by
          unfold f_X11_dinerAt
          rw [show (3 : Int32) + Int32.ofNat tn = Int32.ofNat (3 + tn) from i32_addN 3 tn, m_dAt, show 12 + 9 * d + (3 + tn) = 12 + 9 * d + 3 + tn from by omega]
        have e2 : (wr M' 208 0 0) 209 (84 + 5 * c + 2) = T 6 c := (mW hm).2.2.2.2.1 c hc 2 (by decide)
        refine ⟨M3, ?_, (mQs b2 (fun x h1 h2 _ _ => ?_)).trans mQ.t208, by rw [b3 208 (by decide) (by decide), wr_eq]⟩
        · simp only [f_X11_alone, f_X11_alone_27, lt, m_noC (mW hm).1.2.2.2.2.2 hc (show nc ≤ 8 by omega), m_noD (mW hm).1.2.2.2.2.1 hd hnd, bnd, if_true, m_th0, m_cel1 (mW hm) hc, h5, e1, m_cel2 (mW hm) hc, grd, inb_ofNat (show 12 + 9 * d + 3 + tn < 2107 by omega) (by omega), i32_clampN (show 12 + 9 * d + 3 + tn < 2147483648 by omega)]
          rw [← e2]
          exact b1
        · by_cases q : x = 209
          · subst q; exact b2
          · exact b3 x q h2
    · refine Kx (F := fun M => f_X10_alone 20000 (Int32.ofNat c) v2 M) (e := "java/lang/IndexOutOfBoundsException") (code := 1) (M1 := M) (fun M => rfl) h ?_ hz (fun M => by simp) (by decide) (fun M' hm => ⟨wr (wr M' 208 0 0) 208 0 1, ?_, mQ.t208.trans mQ.t208, wr_eq⟩)
      · simp only [f_X10_alone, c_nC h71 hc (show nc ≤ 8 by omega), bnx, c_nDx h70 hb2]
      · simp only [f_X11_alone, lt, m_noC (mW hm).1.2.2.2.2.2 hc (show nc ≤ 8 by omega), bnd, if_true, m_noDx (mW hm).1.2.2.2.2.1 hb2 hnd, f_X11_alone_27, f_X11_alone_22, m_th1, show ¬ (1 : Int32) = 0 from by decide, if_false]
  · refine Kx (F := fun M => f_X10_alone 20000 v1 v2 M) (e := "java/lang/IndexOutOfBoundsException") (code := 1) (M1 := M) (fun M => rfl) h ?_ hz (fun M => by simp) (by decide) (fun M' hm => ⟨wr (wr M' 208 0 0) 208 0 1, ?_, mQ.t208.trans mQ.t208, wr_eq⟩)
    · simp only [f_X10_alone, c_nCx h71 hb, bnx]
    · simp only [f_X11_alone, lt, m_noCx (mW hm).1.2.2.2.2.2 hb (show nc ≤ 8 by omega), bnd, f_X11_alone_27, f_X11_alone_22, m_th1, show ¬ (1 : Int32) = 0 from by decide, if_false]
end AL
