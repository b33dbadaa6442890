/-! Which cellar to ask of: both sides' loops. -/
section AL
variable {nd nc : Nat} {T : Tb} {L : List Row} {K : LwS} {ms : List TbS} {im : Option (TbS × LwS)} {tp : List Nat} {ft : Int32} {W : Lw} {M : Mm} {f : Nat → Nat} {nr : Nat}
def asS (part : Nat → Nat) (st : Int32 × Nat) (c : Nat) : Int32 × Nat := if st.2 ≤ part c then st else (Int32.ofNat c, part c)
def asL (part : Nat → Nat) : Nat → Nat → Int32 × Nat → Int32 × Nat
  | 0, _, st => st
  | k + 1, c, st => asL part k (c + 1) (asS part st c)
theorem as_eq {part : Nat → Nat} {p0 p1 : Nat} {b : Int32} (k : Nat) (h0 : part 0 < p0) (h1 : part 0 < p1) : (asL part k 0 (b, p0)).1 = (asL part k 0 (b, p1)).1 := by
  match k with
  | 0 => rfl
  | k + 1 =>
    rw [asL, asL]
    have e0 : asS part (b, p0) 0 = (Int32.ofNat 0, part 0) := if_neg (by dsimp only; omega)
    have e1 : asS part (b, p1) 0 = (Int32.ofNat 0, part 0) := if_neg (by dsimp only; omega)
    rw [e0, e1]
def pt9 (W : Lw) (nd nc : Nat) (T : Tb) (L : List Row) (f : Nat → Nat) (nr t c : Nat) : Nat := (gpI (fitB W nc T L f nr) (fun s => gN W nc T L s t c) (2 ^ nd)).2
theorem pt_b {t c : Nat} (hnd : nd ≤ 8) : pt9 W nd nc T L f nr t c ≤ ckN (fitB W nc T L f nr) (2 ^ nd) ∧ ckN (fitB W nc T L f nr) (2 ^ nd) ≤ 37 := by
  have hN : 2 ^ nd ≤ 256 := Nat.pow_le_pow_right (n := 2) (by decide) hnd
  exact ⟨(gp_bI _).2, Nat.le_trans (ck_le (fun s h => fit_two h) _) (ck_37 hN)⟩
def c62 (W : Lw) (nc : Nat) (T : Tb) (L : List Row) (f : Nat → Nat) (nr t i : Nat) (M : Mm) : Prop := ∀ s, s < i → fitB W nc T L f nr s = true → ∀ c, c < nc → M 62 (5 * ckN (fitB W nc T L f nr) s + c) = gB W nc T L s t c
theorem c_ask20 {M0 : Mm} {t : Nat} (h : cH nd nc T L K ms im tp ft f nr M0) (ht : t ≤ 24) : ∀ (n k i : Nat) (M : Mm), cQ M M0 → cTold f nr M → c62 K.2 nc T L f nr t i M → i + k = 2 ^ nd → k < n → ∃ M', f_X10_ask_20 20000 n (Int32.ofNat t) (Int32.ofNat (ckN (fitB K.2 nc T L f nr) i)) (Int32.ofNat i) M = (if 2 ≤ ckN (fitB K.2 nc T L f nr) (2 ^ nd) then f_X10_ask_77 20000 20000 (Int32.ofNat (ckN (fitB K.2 nc T L f nr) (2 ^ nd))) (-1) (Int32.ofNat (ckN (fitB K.2 nc T L f nr) (2 ^ nd) + 1)) 0 M' else some (.inl (-1), M')) ∧ cQ M' M0 ∧ c62 K.2 nc T L f nr t (2 ^ nd) M' := by
  obtain ⟨hnd, hnc, t0, t1⟩ := h.n
  obtain ⟨hC, ⟨Mx, hm⟩, hO, hf, hv, hnr⟩ := h
  have hN : 2 ^ nd ≤ 256 := Nat.pow_le_pow_right (n := 2) (by decide) hnd
  intro n
  induction n with
  | zero => intro k i M _ _ _ _ h; omega
  | succ n ih =>
    intro k i M hq hT h62 hik hk
    have h70 : M 7 0 = Int32.ofNat nd := by
      rw [show M 7 0 = T 0 0 from slE (hC.q hq).1 (i := 0) (by decide)]; exact t0
    have hcb : ckN (fitB K.2 nc T L f nr) i ≤ ckN two9 i := ck_le (fun s h => fit_two h) _
    rw [f_X10_ask_20, h70, (fl_v hnd).1]
    match k with
    | 0 =>
      obtain rfl : i = 2 ^ nd := by omega
      have hb := (pt_b (W := K.2) (T := T) (L := L) (f := f) (nr := nr) (nc := nc) (t := 0) (c := 0) hnd).2
      rw [if_pos (i32_len (by omega) (by omega))]
      refine ⟨M, ?_, hq, h62⟩
      simp only [lt, i32_succ]
      by_cases q : 2 ≤ ckN (fitB K.2 nc T L f nr) (2 ^ nd)
      · rw [if_pos q, if_pos (show (2 : Int32) ≤ Int32.ofNat _ from i32_len (k := 2) q (by omega))]
      · rw [if_neg q, if_neg (show ¬ (2 : Int32) ≤ Int32.ofNat _ from i32_nle (n := 2) (by omega) (by omega))]
    | k + 1 =>
      have hb := bc_N (s := i) (by omega)
      rw [if_neg (i32_nle (by omega) (by omega)), j_bc, hb.1]
      simp only [bnd]
      by_cases q : bcN i ≤ 2
      · have h36 := ck_36 (i := i) (by omega) (show two9 i = true from decide_eq_true q)
        rw [if_neg (show ¬ (2 : Int32) < Int32.ofNat (bcN i) from i32_nlt (n := 2) q (by omega))]
        obtain ⟨M1, a1, a2, a3, a4, a5⟩ := c_fits (nd := nd) (s := i) (w := ckN (fitB K.2 nc T L f nr) i) (at9 := t) hC hm hO hq hT hf hv hnr (by omega) ht
        rw [a1]
        simp only [i32_succ]
        have hold : ∀ s, s < i → fitB K.2 nc T L f nr s = true → ∀ c, c < nc → M1 62 (5 * ckN (fitB K.2 nc T L f nr) s + c) = gB K.2 nc T L s t c := fun s h1 h2 c hc => by
          have := ck_lt (j := i) h1 h2
          rw [a5 _ (by omega)]; exact h62 s h1 h2 c hc
        by_cases q2 : fitR (gB K.2 nc T L i) f nr 0 = true
        · have hB : fitB K.2 nc T L f nr i = true := by unfold fitB; rw [decide_eq_true q, q2]; rfl
          rw [if_pos q2, if_neg (show ¬ (1 : Int32) = 0 by decide), show ckN (fitB K.2 nc T L f nr) i + 1 = ckN (fitB K.2 nc T L f nr) (i + 1) from by rw [ckN, if_pos hB]]
          exact ih k (i + 1) M1 a2 a3 (fun s h1 h2 c hc => by
            by_cases e : s = i
            · subst e; exact a4 q2 c hc
            · exact hold s (by omega) h2 c hc) (by omega) (by omega)
        · have hB : ¬ fitB K.2 nc T L f nr i = true := by unfold fitB; rw [Bool.and_eq_true]; exact fun h9 => q2 h9.2
          rw [if_neg q2, if_pos rfl, show ckN (fitB K.2 nc T L f nr) i = ckN (fitB K.2 nc T L f nr) (i + 1) from by rw [ckN, if_neg hB, Nat.add_zero]]
          exact ih k (i + 1) M1 a2 a3 (fun s h1 h2 c hc => by
            by_cases e : s = i
            · subst e; exact absurd h2 hB
            · exact hold s (by omega) h2 c hc) (by omega) (by omega)
      · have hB : ¬ fitB K.2 nc T L f nr i = true := by unfold fitB; rw [Bool.and_eq_true]; exact fun h9 => q (of_decide_eq_true h9.1)
        rw [if_pos (show (2 : Int32) < Int32.ofNat (bcN i) from i32_ltn (k := 2) (by omega) (by omega)), i32_succ, show ckN (fitB K.2 nc T L f nr) i = ckN (fitB K.2 nc T L f nr) (i + 1) from by rw [ckN, if_neg hB, Nat.add_zero]]
        exact ih k (i + 1) M hq hT (fun s h1 h2 c hc => by
          by_cases e : s = i
          · subst e; exact absurd h2 hB
          · exact h62 s (by omega) h2 c hc) (by omega) (by omega)
theorem c_gpt {t c : Nat} {N : Nat} (hN0 : 300 < N) (hO : lwOK W) (hg : gdE nd nc W 0 (T, (fun _ => 0), 0, L)) (hnd : nd ≤ 8) (hnc : nc ≤ 5) (hc : c < nc) (h : c62 W nc T L f nr t (2 ^ nd) M) : ∃ M2, f_X10_greatestPart N (Int32.ofNat c) (Int32.ofNat (ckN (fitB W nc T L f nr) (2 ^ nd))) M = some (Int32.ofNat (pt9 W nd nc T L f nr t c), M2) ∧ ∀ x, x ≠ 63 → M2 x = M x := by
  have hb := (pt_b (W := W) (T := T) (L := L) (f := f) (nr := nr) (nc := nc) (t := t) (c := c) hnd)
  have hv : ∀ s, s < 2 ^ nd → fitB W nc T L f nr s = true → (fun j => (M 62 (5 * j + c)).toNatClampNeg) (ckN (fitB W nc T L f nr) s) = (fun s => gN W nc T L s t c) s := fun s h1 h2 => by
    show (M 62 (5 * ckN (fitB W nc T L f nr) s + c)).toNatClampNeg = gN W nc T L s t c
    rw [h s h1 h2 c hc]; rfl
  obtain ⟨M2, a1, a2⟩ := c_gp (N := N) (M := M) (v := fun j => (M 62 (5 * j + c)).toNatClampNeg) hN0 (show c < 5 by omega) hb.2 (fun j hj => by
    obtain ⟨s, h1, h2, h3⟩ := ck_ex hj
    obtain ⟨p1, p2⟩ := gN_p (s := s) (t := t) hO hg hc
    have e : M 62 (5 * j + c) = Int32.ofNat (gN W nc T L s t c) := by rw [← h3, h s h1 h2 c hc]; exact p1
    refine ⟨?_, ?_⟩
    · show _ = Int32.ofNat (M 62 (5 * j + c)).toNatClampNeg
      rw [e, i32_clampN (by omega)]
    · show (M 62 (5 * j + c)).toNatClampNeg ≤ 200
      rw [e, i32_clampN (by omega)]; exact p2)
  rw [← gp_eq (2 ^ nd) hv] at a1
  exact ⟨M2, a1, a2⟩
theorem c_ask77 {M0 : Mm} {t : Nat} (h : cH nd nc T L K ms im tp ft f nr M0) : ∀ (n k c : Nat) (st : Int32 × Nat) (M : Mm), cQ M M0 → c62 K.2 nc T L f nr t (2 ^ nd) M → st.2 ≤ 1000000 → c + k = nc → k < n → ∃ M', f_X10_ask_77 20000 n (Int32.ofNat (ckN (fitB K.2 nc T L f nr) (2 ^ nd))) st.1 (Int32.ofNat st.2) (Int32.ofNat c) M = some (.inl (asL (pt9 K.2 nd nc T L f nr t) k c st).1, M') ∧ cQ M' M0 := by
  obtain ⟨hnd, hnc, t0, t1⟩ := h.n
  obtain ⟨hC, ⟨Mx, hm⟩, hO, hf, hv, hnr⟩ := h
  intro n
  induction n with
  | zero => intro k c st M _ _ _ _ h; omega
  | succ n ih =>
    intro k c st M hq h62 hst hik hk
    have h71 : M 7 1 = Int32.ofNat nc := by
      rw [show M 7 1 = T 0 1 from slE (hC.q hq).1 (i := 0) (by decide)]; exact t1
    rw [f_X10_ask_77, h71]
    match k with
    | 0 =>
      rw [if_pos (i32_len (by omega) (by omega))]
      exact ⟨M, rfl, hq⟩
    | k + 1 =>
      have hb := (pt_b (W := K.2) (T := T) (L := L) (f := f) (nr := nr) (nc := nc) (t := t) (c := c) hnd)
      obtain ⟨M1, a1, a2⟩ := c_gpt (N := 20000) (t := t) (c := c) (M := M) (by decide) hO (gd_I hm _ _) hnd hnc (by omega) h62
      rw [if_neg (i32_nle (by omega) (by omega)), a1]
      simp only [bnd, i32_succ]
      rw [asL]
      have hq1 : cQ M1 M0 := by
        obtain ⟨q1, q2, q3⟩ := hq
        refine ⟨fun x hx => ?_, fun j hj => by rw [a2 0 (by decide)]; exact q2 j hj, ?_⟩
        · have hx' := hx
          unfold sc9 at hx'
          rw [a2 x (by omega)]; exact q1 x hx
        · rw [show slc 16 M1 = slc 16 M from slc_ex (fun i hi => a2 _ (by omega))]; exact q3
      have h62' : c62 K.2 nc T L f nr t (2 ^ nd) M1 := fun s h1 h2 c hc => by rw [a2 62 (by decide)]; exact h62 s h1 h2 c hc
      by_cases q : st.2 ≤ pt9 K.2 nd nc T L f nr t c
      · rw [if_pos (i32_len q (by omega)), show asS (pt9 K.2 nd nc T L f nr t) st c = st from if_pos q]
        exact ih k (c + 1) st M1 hq1 h62' hst (by omega) (by omega)
      · rw [if_neg (i32_nle (by omega) (by omega)), show asS (pt9 K.2 nd nc T L f nr t) st c = (Int32.ofNat c, pt9 K.2 nd nc T L f nr t c) from if_neg q]
        exact ih k (c + 1) (Int32.ofNat c, pt9 K.2 nd nc T L f nr t c) M1 hq1 h62' (show pt9 K.2 nd nc T L f nr t c ≤ 1000000 by omega) (by omega) (by omega)
/-! the reference -/
theorem m_hmf : ∀ (n k i : Nat) (M : Mm), mH nd nc T L W f nr M → i + k = 2 ^ nd → k < n → ∃ M', f_X11_howManyFit_4 20000 n (Int32.ofNat (ckN (fitB W nc T L f nr) i)) (Int32.ofNat i) M = some (Int32.ofNat (ckN (fitB W nc T L f nr) (2 ^ nd)), M') ∧ mH nd nc T L W f nr M' ∧ ∀ x, x ≠ 212 → x ≠ 216 → M' x = M x := by
  intro n
  induction n with
  | zero => intro k i M _ _ h; omega
  | succ n ih =>
    intro k i M hH hik hk
    have hR := hH.1
    have hnd := hR.1.1
    have hN : 2 ^ nd ≤ 256 := Nat.pow_le_pow_right (n := 2) (by decide) hnd
    rw [f_X11_howManyFit_4, m_diners]
    simp only [bnd]
    rw [hR.1.2.2.2.2.1, (fl_v hnd).1]
    match k with
    | 0 =>
      obtain rfl : i = 2 ^ nd := by omega
      rw [if_pos (i32_len (by omega) (by omega))]
      exact ⟨M, rfl, hH, fun x _ _ => rfl⟩
    | k + 1 =>
      rw [if_neg (i32_nle (by omega) (by omega))]
      obtain ⟨M1, a1, a2, a3⟩ := m_fitsH (s := i) hH (by omega)
      rw [a1]
      simp only [lt, i32_succ, Int32.add_zero]
      by_cases hB : fitB W nc T L f nr i = true
      · rw [if_pos hB, if_neg (show ¬ (1 : Int32) = 0 by decide), show ckN (fitB W nc T L f nr) i + 1 = ckN (fitB W nc T L f nr) (i + 1) from by rw [ckN, if_pos hB]]
        obtain ⟨M2, b1, b2, b3⟩ := ih k (i + 1) M1 a2 (by omega) (by omega)
        exact ⟨M2, b1, b2, fun x h1 h2 => by rw [b3 x h1 h2, a3 x h1 h2]⟩
      · rw [if_neg hB, if_pos rfl, show ckN (fitB W nc T L f nr) i = ckN (fitB W nc T L f nr) (i + 1) from by rw [ckN, if_neg hB, Nat.add_zero]]
        obtain ⟨M2, b1, b2, b3⟩ := ih k (i + 1) M1 a2 (by omega) (by omega)
        exact ⟨M2, b1, b2, fun x h1 h2 => by rw [b3 x h1 h2, a3 x h1 h2]⟩
theorem m_gp27 {t c : Nat} (ht : t ≤ 24) (hc : c < nc) : ∀ (n k i : Nat) (M : Mm), mH nd nc T L W f nr M → (∀ y, y < 201 → M 218 y = Int32.ofNat ((gpI (fitB W nc T L f nr) (fun s => gN W nc T L s t c) i).1 y)) → i + k = 2 ^ nd → k < n → ∃ M', f_X11_greatestPart_27 20000 n (Int32.ofNat c) (Int32.ofNat t) (Int32.ofNat (gpI (fitB W nc T L f nr) (fun s => gN W nc T L s t c) i).2) (Int32.ofNat i) M = some (Int32.ofNat (pt9 W nd nc T L f nr t c), M') ∧ mH nd nc T L W f nr M' ∧ ∀ x, x ≠ 212 → x ≠ 216 → x ≠ 218 → M' x = M x := by
  intro n
  induction n with
  | zero => intro k i M _ _ _ h; omega
  | succ n ih =>
    intro k i M hH h218 hik hk
    have hR := hH.1
    have hnd := hR.1.1
    have hN : 2 ^ nd ≤ 256 := Nat.pow_le_pow_right (n := 2) (by decide) hnd
    rw [f_X11_greatestPart_27, m_diners]
    simp only [bnd]
    rw [hR.1.2.2.2.2.1, (fl_v hnd).1]
    match k with
    | 0 =>
      obtain rfl : i = 2 ^ nd := by omega
      rw [if_pos (i32_len (by omega) (by omega))]
      exact ⟨M, rfl, hH, fun x _ _ _ => rfl⟩
    | k + 1 =>
      rw [if_neg (i32_nle (by omega) (by omega))]
      obtain ⟨M1, a1, a2, a3⟩ := m_fitsH (s := i) hH (by omega)
      rw [a1]
      simp only []
      have hb := gp_bI (ok := fitB W nc T L f nr) (g := fun s => gN W nc T L s t c) i
      have hck : ckN (fitB W nc T L f nr) i ≤ 37 := Nat.le_trans (ck_le (fun s h => fit_two h) _) (ck_37 (by omega))
      by_cases hB : fitB W nc T L f nr i = true
      · obtain ⟨m1, m2, m3, m4, m5, m6⟩ := a2
        obtain ⟨M2, b1, b2, b3⟩ := m_grainsIn (M := wr M1 208 18 (Int32.ofNat i)) (c := c) (n := t) (nd := nd) (T := T) (L := L) m5 (by rw [wr_nrow (by decide)]; exact m1) (m2.cg (by rw [wr_nrow (by decide)])) hc (by omega) (fun _ => 0) 0
        rw [wr_eq] at b1
        obtain ⟨p1, p2⟩ := gN_p (nd := nd) (s := i) (t := t) (W := W) (T := T) (L := L) m5 ⟨M1, m1, m2, m4⟩ hc
        rw [show (sGo W (Int32.ofNat i) nc t (T, (fun _ => 0), 0, L)).1 6 c = Int32.ofNat (gN W nc T L i t c) from p1] at b1
        have hb1 := hb.1 (gN W nc T L i t c)
        have e218 : M2 218 = M 218 := by rw [b3 218 (by decide) (by decide), wr_nrow (by decide), a3 218 (by decide) (by decide)]
        rw [if_pos hB, if_neg (show ¬ (1 : Int32) = 0 by decide)]
        simp only [lt]
        rw [b1]
        simp only [grd, inb_ofNat (show gN W nc T L i t c < 201 by omega) (by omega), if_true, i32_clampN (show gN W nc T L i t c < 2147483648 by omega), wr_eq, i32_succ]
        rw [wr_nrow (show (218 : Nat) ≠ 208 by decide), e218, h218 _ (by omega), i32_succ]
        have eS : gpI (fitB W nc T L f nr) (fun s => gN W nc T L s t c) (i + 1) = gpS (gpI (fitB W nc T L f nr) (fun s => gN W nc T L s t c) i) (gN W nc T L i t c) := by rw [gpI, if_pos hB]
        have hb2 := hb.2
        have e9 : (if Int32.ofNat (gpI (fitB W nc T L f nr) (fun s => gN W nc T L s t c) i).2 < Int32.ofNat ((gpI (fitB W nc T L f nr) (fun s => gN W nc T L s t c) i).1 (gN W nc T L i t c) + 1) then Int32.ofNat ((gpI (fitB W nc T L f nr) (fun s => gN W nc T L s t c) i).1 (gN W nc T L i t c) + 1) else Int32.ofNat (gpI (fitB W nc T L f nr) (fun s => gN W nc T L s t c) i).2) = Int32.ofNat (gpI (fitB W nc T L f nr) (fun s => gN W nc T L s t c) (i + 1)).2 := by
          rw [eS]
          show _ = Int32.ofNat (if (gpI (fitB W nc T L f nr) (fun s => gN W nc T L s t c) i).2 < (gpI (fitB W nc T L f nr) (fun s => gN W nc T L s t c) i).1 (gN W nc T L i t c) + 1 then (gpI (fitB W nc T L f nr) (fun s => gN W nc T L s t c) i).1 (gN W nc T L i t c) + 1 else (gpI (fitB W nc T L f nr) (fun s => gN W nc T L s t c) i).2)
          by_cases q : (gpI (fitB W nc T L f nr) (fun s => gN W nc T L s t c) i).2 < (gpI (fitB W nc T L f nr) (fun s => gN W nc T L s t c) i).1 (gN W nc T L i t c) + 1
          · rw [if_pos q, if_pos (i32_ltn q (by omega))]
          · rw [if_neg q, if_neg (i32_nlt (by omega) (by omega))]
        rw [e9]
        have k208 : (wr (wr M2 208 18 0) 218 (gN W nc T L i t c) (Int32.ofNat ((gpI (fitB W nc T L f nr) (fun s => gN W nc T L s t c) i).1 (gN W nc T L i t c) + 1))) 208 = M1 208 := by
          rw [wr_nrow (by decide)]
          funext j
          by_cases e2 : j = 18
          · subst e2; rw [wr_eq, m4]
          · rw [wr_nk e2, b3 208 (by decide) (by decide), wr_nk e2]
        have kx : ∀ x, x ≠ 208 → x ≠ 212 → x ≠ 216 → x ≠ 218 → (wr (wr M2 208 18 0) 218 (gN W nc T L i t c) (Int32.ofNat ((gpI (fitB W nc T L f nr) (fun s => gN W nc T L s t c) i).1 (gN W nc T L i t c) + 1))) x = M1 x := fun x x1 x2 x3 x4 => by
          rw [wr_nrow x4, wr_nrow x1, b3 x x2 x3, wr_nrow x1]
        obtain ⟨M3, c1, c2, c3⟩ := ih k (i + 1) _ (mH.k (M := M1) ⟨m1, m2, m3, m4, m5, m6⟩ (kx 209 (by decide) (by decide) (by decide) (by decide)) k208 (kx 214 (by decide) (by decide) (by decide) (by decide))) (fun y hy => by
          rw [eS]
          show _ = Int32.ofNat (if y = gN W nc T L i t c then (gpI (fitB W nc T L f nr) (fun s => gN W nc T L s t c) i).1 (gN W nc T L i t c) + 1 else (gpI (fitB W nc T L f nr) (fun s => gN W nc T L s t c) i).1 y)
          by_cases q : y = gN W nc T L i t c
          · rw [if_pos q, q, wr_eq]
          · rw [if_neg q, wr_nk q, wr_nrow (by decide), e218]; exact h218 y hy) (by omega) (by omega)
        refine ⟨M3, c1, c2, fun x x1 x2 x3 => ?_⟩
        rw [c3 x x1 x2 x3]
        by_cases e : x = 208
        · subst e; rw [k208, a3 208 x1 x2]
        · rw [kx x e x1 x2 x3, a3 x x1 x2]
      · rw [if_neg hB, if_pos rfl, i32_succ]
        have eS : gpI (fitB W nc T L f nr) (fun s => gN W nc T L s t c) (i + 1) = gpI (fitB W nc T L f nr) (fun s => gN W nc T L s t c) i := by rw [gpI, if_neg hB]
        rw [← eS]
        obtain ⟨M2, b1, b2, b3⟩ := ih k (i + 1) M1 a2 (fun y hy => by rw [eS, a3 218 (by decide) (by decide)]; exact h218 y hy) (by omega) (by omega)
        exact ⟨M2, b1, b2, fun x h1 h2 h3 => by rw [b3 x h1 h2 h3, a3 x h1 h2]⟩
theorem m_gp2 {N : Nat} {v1 v2 : Int32} : ∀ (n k i : Nat) (M : Mm), (∀ y, y < i → M 218 y = 0) → i + k = 201 → k < n → ∃ M', f_X11_greatestPart_2 N n v1 v2 (Int32.ofNat i) M = f_X11_greatestPart_27 N N v1 v2 0 0 M' ∧ (∀ y, y < 201 → M' 218 y = 0) ∧ ∀ x, x ≠ 218 → M' x = M x := by
  intro n
  induction n with
  | zero => intro k i M _ _ h; omega
  | succ n ih =>
    intro k i M h0 hik hk
    rw [f_X11_greatestPart_2]
    match k with
    | 0 =>
      rw [if_pos (show (200 : Int32) < Int32.ofNat i from i32_ltn (k := 200) (by omega) (by omega))]
      exact ⟨M, rfl, fun y hy => h0 y (by omega), fun x _ => rfl⟩
    | k + 1 =>
      rw [if_neg (show ¬ (200 : Int32) < Int32.ofNat i from i32_nlt (n := 200) (by omega) (by omega))]
      simp only [grd, lt, inb_ofNat (show i < 201 by omega) (by omega), if_true, i32_clampN (show i < 2147483648 by omega), i32_succ]
      obtain ⟨M', a1, a2, a3⟩ := ih k (i + 1) (wr M 218 i 0) (fun y hy => by
        by_cases e : y = i
        · subst e; rw [wr_eq]
        · rw [wr_nk e]; exact h0 y (by omega)) (by omega) (by omega)
      exact ⟨M', a1, a2, fun x hx => by rw [a3 x hx, wr_nrow hx]⟩
theorem m_gpU {N : Nat} (hN : 300 < N) (v1 v2 : Int32) (M : Mm) : ∃ M', f_X11_greatestPart N v1 v2 M = f_X11_greatestPart_27 N N v1 v2 0 0 M' ∧ (∀ y, y < 201 → M' 218 y = 0) ∧ ∀ x, x ≠ 218 → M' x = M x := m_gp2 N 201 0 M (fun y hy => by omega) (by omega) (by omega)
theorem m_gp {t c : Nat} (ht : t ≤ 24) (hc : c < nc) (hH : mH nd nc T L W f nr M) : ∃ M', f_X11_greatestPart 20000 (Int32.ofNat c) (Int32.ofNat t) M = some (Int32.ofNat (pt9 W nd nc T L f nr t c), M') ∧ mH nd nc T L W f nr M' ∧ ∀ x, x ≠ 212 → x ≠ 216 → x ≠ 218 → M' x = M x := by
  have hnd := hH.1.1.1
  have hN : 2 ^ nd ≤ 256 := Nat.pow_le_pow_right (n := 2) (by decide) hnd
  obtain ⟨M1, a1, a2, a3⟩ := m_gpU (N := 20000) (by decide) (Int32.ofNat c) (Int32.ofNat t) M
  obtain ⟨M2, b1, b2, b3⟩ := m_gp27 (nd := nd) (T := T) (L := L) (W := W) (f := f) (nr := nr) ht hc 20000 (2 ^ nd) 0 M1 (hH.k (a3 209 (by decide)) (a3 208 (by decide)) (a3 214 (by decide))) (fun y hy => by rw [a2 y hy]; rfl) (by omega) (by omega)
  exact ⟨M2, by rw [a1]; exact b1, b2, fun x x1 x2 x3 => by rw [b3 x x1 x2 x3, a3 x x3]⟩
theorem m_ask55 {t : Nat} (ht : t ≤ 24) : ∀ (n k c : Nat) (st : Int32 × Nat) (M : Mm), mH nd nc T L W f nr M → st.2 ≤ 1000000 → c + k = nc → k < n → ∃ M', f_X11_ask_55 20000 n (Int32.ofNat t) st.1 (Int32.ofNat st.2) (Int32.ofNat c) M = some ((asL (pt9 W nd nc T L f nr t) k c st).1, M') ∧ ∀ x, x ≠ 212 → x ≠ 216 → x ≠ 218 → M' x = M x := by
  intro n
  induction n with
  | zero => intro k c st M _ _ _ h; omega
  | succ n ih =>
    intro k c st M hH hst hik hk
    have hR := hH.1
    have hnc := hR.1.2.1
    have hnd := hR.1.1
    rw [f_X11_ask_55, m_cellars]
    simp only [bnd]
    rw [hR.1.2.2.2.2.2]
    match k with
    | 0 =>
      rw [if_pos (i32_len (by omega) (by omega))]
      exact ⟨M, rfl, fun x _ _ _ => rfl⟩
    | k + 1 =>
      have hb := (pt_b (W := W) (T := T) (L := L) (f := f) (nr := nr) (nc := nc) (t := t) (c := c) hnd)
      obtain ⟨M1, a1, a2, a3⟩ := m_gp (t := t) (c := c) ht (by omega) hH
      rw [if_neg (i32_nle (by omega) (by omega)), a1]
      simp only [f_X11_ask_85, lt, i32_succ]
      rw [asL]
      by_cases q : st.2 ≤ pt9 W nd nc T L f nr t c
      · rw [if_pos (i32_len q (by omega)), if_neg (i32_nlt q (by omega)), show asS (pt9 W nd nc T L f nr t) st c = st from if_pos q]
        obtain ⟨M2, b1, b2⟩ := ih k (c + 1) st M1 a2 hst (by omega) (by omega)
        exact ⟨M2, b1, fun x x1 x2 x3 => by rw [b2 x x1 x2 x3, a3 x x1 x2 x3]⟩
      · rw [if_neg (i32_nle (by omega) (by omega)), if_pos (i32_ltn (by omega) (by omega)), show asS (pt9 W nd nc T L f nr t) st c = (Int32.ofNat c, pt9 W nd nc T L f nr t c) from if_neg q]
        obtain ⟨M2, b1, b2⟩ := ih k (c + 1) (Int32.ofNat c, pt9 W nd nc T L f nr t c) M1 a2 (show pt9 W nd nc T L f nr t c ≤ 1000000 by omega) (by omega) (by omega)
        exact ⟨M2, b1, fun x x1 x2 x3 => by rw [b2 x x1 x2 x3, a3 x x1 x2 x3]⟩
end AL
