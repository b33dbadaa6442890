/-! A new diner, a new cellar: the table and the world. -/
def tSit (T : Tb) (nd s : Nat) (v x : Int32) : Tb := wr (wr (wr (wr T 1 s (Int32.ofNat nd)) 2 nd v) 0 2 x) 0 0 (Int32.ofNat (nd + 1))
def tStd (T : Tb) (nc : Nat) (v1 v2 v3 v4 v5 : Int32) : Tb := wr (wr (wr (wr (wr (wr T 4 nc v1) 5 nc v2) 6 nc v3) 7 nc v4) 8 nc v5) 0 1 (Int32.ofNat (nc + 1))
section SI
variable {nd nc : Nat} {T : Tb} {L : List Row} {w w' : Nat → Int32} {M : Mm}
theorem tSit_10 {s : Nat} {v x : Int32} : tSit T nd s v x 0 10 = T 0 10 := by
  unfold tSit; rw [wr_nk (by decide), wr_nk (by decide), wr_ne (by decide), wr_ne (by decide)]
theorem tStd_10 {v1 v2 v3 v4 v5 : Int32} : tStd T nc v1 v2 v3 v4 v5 0 10 = T 0 10 := by
  unfold tStd; rw [wr_nk (by decide), wr_ne (by decide), wr_ne (by decide), wr_ne (by decide), wr_ne (by decide), wr_ne (by decide)]
theorem RW_sit {s tv : Nat} {is : Int32} (hR : RW nd nc T L w) (hz : hz6 nd T) (hnd8 : nd < 8) (hs : s < 10) (hfree : T 1 s = -1) (htv : tv ≤ 9) (his : is = 0 ∨ is = 1) (hw0 : w' 0 = Int32.ofNat (nd + 1)) (hwS : w' (12 + 9 * nd) = Int32.ofNat s) (hwT : w' (12 + 9 * nd + 1) = Int32.ofNat tv) (hwD : w' (12 + 9 * nd + 2) = is) (hwH : ∀ t, t < 6 → w' (12 + 9 * nd + 3 + t) = 0) (hwO : ∀ j, j ≠ 0 → (j < 12 + 9 * nd ∨ 12 + 9 * nd + 9 ≤ j) → w' j = w j) : RW (nd + 1) nc (tSit T nd s (Int32.ofNat tv) (dSet (T 0 2) nd is)) L w' := by
  obtain ⟨r0, r1, r2, r3, r4, r5, r6, r7⟩ := hR
  have hnc := r0.2.1
  have h0j : ∀ j, j ≠ 0 → j ≠ 2 → tSit T nd s (Int32.ofNat tv) (dSet (T 0 2) nd is) 0 j = T 0 j := fun j h0 h2 => by
    unfold tSit; rw [wr_nk h0, wr_nk h2, wr_ne (by decide), wr_ne (by decide)]
  have h02 : tSit T nd s (Int32.ofNat tv) (dSet (T 0 2) nd is) 0 2 = dSet (T 0 2) nd is := by
    unfold tSit; rw [wr_nk (by decide), wr_eq]
  have h1s : tSit T nd s (Int32.ofNat tv) (dSet (T 0 2) nd is) 1 s = Int32.ofNat nd := by
    unfold tSit; rw [wr_ne (by decide), wr_ne (by decide), wr_ne (by decide), wr_eq]
  have h1j : ∀ j, j ≠ s → tSit T nd s (Int32.ofNat tv) (dSet (T 0 2) nd is) 1 j = T 1 j := fun j hj => by
    unfold tSit; rw [wr_ne (by decide), wr_ne (by decide), wr_ne (by decide), wr_nk hj]
  have h2n : tSit T nd s (Int32.ofNat tv) (dSet (T 0 2) nd is) 2 nd = Int32.ofNat tv := by
    unfold tSit; rw [wr_ne (by decide), wr_ne (by decide), wr_eq]
  have h2j : ∀ j, j ≠ nd → tSit T nd s (Int32.ofNat tv) (dSet (T 0 2) nd is) 2 j = T 2 j := fun j hj => by
    unfold tSit; rw [wr_ne (by decide), wr_ne (by decide), wr_nk hj, wr_ne (by decide)]
  have hk : ∀ i, 3 ≤ i → tSit T nd s (Int32.ofNat tv) (dSet (T 0 2) nd is) i = T i := fun i hi => by
    unfold tSit; rw [wr_nrow (by omega), wr_nrow (by omega), wr_nrow (by omega), wr_nrow (by omega)]
  have hdi : ∀ d, d < 32 → sDiet (tSit T nd s (Int32.ofNat tv) (dSet (T 0 2) nd is)) (Int32.ofNat d) = if (if d = nd then decide (is ≠ 0) else hb9 (T 0 2) d) = true then 1 else 0 := fun d hd => by
    rw [sDiet_b hd, h02, hB_dSet (by omega) hd]
  refine ⟨⟨by omega, hnc, ?_, ?_, hw0, ?_⟩, ?_, ⟨?_, ?_⟩, ?_, ?_, ?_, ?_, ?_⟩
  · unfold tSit; rw [wr_eq]
  · rw [h0j 1 (by decide) (by decide)]; exact r0.2.2.2.1
  · rw [hwO 1 (by decide) (by omega)]; exact r0.2.2.2.2.2
  · obtain ⟨s1, s2, s3, s4, s5, s6, s7, s8⟩ := r1
    exact ⟨by rw [hwO 6 (by decide) (by omega), h0j 3 (by decide) (by decide)]; exact s1, by rw [hwO 4 (by decide) (by omega), h0j 4 (by decide) (by decide)]; exact s2, by rw [hwO 5 (by decide) (by omega), h0j 5 (by decide) (by decide)]; exact s3, by rw [hwO 7 (by decide) (by omega), h0j 6 (by decide) (by decide)]; exact s4, by rw [hwO 8 (by decide) (by omega), h0j 7 (by decide) (by decide)]; exact s5, by rw [hwO 9 (by decide) (by omega), h0j 8 (by decide) (by decide)]; exact s6, by rw [hwO 11 (by decide) (by omega), h0j 9 (by decide) (by decide)]; exact s7, by rw [hwO 2 (by decide) (by omega), h0j 10 (by decide) (by decide)]; exact s8⟩
  · intro d hd
    by_cases e : d = nd
    · subst e; exact ⟨s, hs, hwS, h1s⟩
    · obtain ⟨s', hs', e1, e2⟩ := r2.1 d (by omega)
      have hne : s' ≠ s := fun h9 => by
        rw [h9, hfree] at e2
        exact i32_nm1 (k := d) (by omega) e2.symm
      exact ⟨s', hs', by rw [hwO _ (by omega) (by omega)]; exact e1, by rw [h1j s' hne]; exact e2⟩
  · intro s' hs'
    by_cases e : s' = s
    · subst e; exact Or.inr ⟨nd, by omega, h1s, hwS⟩
    · rw [h1j s' e]
      rcases r2.2 s' hs' with e1 | ⟨d, hd, e1, e2⟩
      · exact Or.inl e1
      · exact Or.inr ⟨d, by omega, e1, by rw [hwO _ (by omega) (by omega)]; exact e2⟩
  · intro d hd
    by_cases e : d = nd
    · subst e
      refine ⟨by rw [hwT, h2n], ?_, fun t ht => ?_⟩
      · rw [hwD, hdi d (by omega), if_pos rfl]
        rcases his with rfl | rfl <;> rfl
      · rw [hwH t ht, hk 3 (by decide), hz _ (by omega)]
    · obtain ⟨b1, b2, b3⟩ := r3 d (by omega)
      refine ⟨by rw [hwO _ (by omega) (by omega), h2j d e]; exact b1, ?_, fun t ht => by rw [hwO _ (by omega) (by omega), hk 3 (by decide)]; exact b3 t ht⟩
      rw [hwO _ (by omega) (by omega), hdi d (by omega), if_neg e, b2, sDiet_b (by omega)]
  · intro c hc k hk5
    rw [hwO _ (by omega) (by omega), hk _ (by omega)]; exact r4 c hc k hk5
  · obtain ⟨a1, a2, a3⟩ := r5
    refine ⟨a1, by rw [hwO 10 (by decide) (by omega)]; exact a2, fun k hk9 => ?_⟩
    rw [hwO _ (by omega) (by omega), hwO _ (by omega) (by omega), hwO _ (by omega) (by omega), hwO _ (by omega) (by omega), hwO _ (by omega) (by omega)]; exact a3 k hk9
  · obtain ⟨b1, b2, b3, b4, b5⟩ := r6
    refine ⟨by rw [h0j 4 (by decide) (by decide)]; exact b1, by rw [h0j 5 (by decide) (by decide)]; exact b2, by rw [h0j 8 (by decide) (by decide)]; exact b3, fun d hd => ?_, fun c hc => by rw [hk 4 (by decide), hk 5 (by decide), hk 6 (by decide), hk 7 (by decide), hk 8 (by decide)]; exact b5 c hc⟩
    rw [hk 3 (by decide)]
    by_cases e : d = nd
    · subst e
      exact ⟨⟨tv, htv, h2n⟩, fun t ht => ⟨0, by decide, by rw [hz _ (by omega)]; rfl⟩⟩
    · rw [h2j d e]; exact b4 d (by omega)
  · unfold tSit
    exact tz_wr (tz_wr (tz_wr (tz_wr r7 (show s < 10 from hs)) (show nd < 8 from hnd8)) (by decide)) (by decide)
theorem ok_sit {s : Nat} {v is : Int32} (hnd8 : nd < 8) (h : okA (nd, nc, T, L)) : okA (nd + 1, nc, tSit T nd s v (dSet (T 0 2) nd is), L) := by
  obtain ⟨h1, ⟨k, hk, e⟩, h3, q, hq, e10⟩ := h
  have e' : T 0 2 = Int32.ofNat k := e
  refine ⟨h1, ?_, fun j hj => ?_, q, hq, ?_⟩
  rotate_left 2
  · exact (tSit_10 (T := T) (nd := nd) (s := s) (v := v) (x := dSet (T 0 2) nd is)).trans e10
  · show ∃ k, k < 2 ^ (nd + 1) ∧ tSit T nd s v (dSet (T 0 2) nd is) 0 2 = Int32.ofNat k
    unfold tSit
    rw [wr_nk (by decide), wr_eq]
    refine hB_ex (by omega) (fun i hi h32 => ?_)
    rw [hB_dSet (by omega) h32, if_neg (by omega), e']
    exact hB_lt (by omega) hk (by omega)
  · show tSit T nd s v (dSet (T 0 2) nd is) 3 j = 0
    unfold tSit
    rw [wr_ne (by decide), wr_ne (by decide), wr_ne (by decide), wr_ne (by decide)]
    exact h3 j (Nat.le_trans (show 6 * nd ≤ 6 * (nd + 1) by omega) hj)
/-- nobody's bit is no bit -/
theorem dSet_0 {k : Nat} (hnd8 : nd < 8) (hk : k < 2 ^ nd) (e : T 0 2 = Int32.ofNat k) : dSet (T 0 2) nd 0 = T 0 2 := by
  unfold dSet
  rw [if_pos rfl]
  refine (and_b (by omega)).mpr ?_
  rw [e]
  exact hB_lt (by omega) hk (Nat.le_refl _)
theorem RW_std {s t g z b : Nat} (hR : RW nd nc T L w) (hnc5 : nc < 5) (hs : s < 10) (ht : t < 6) (hg : g ≤ 200) (hz : z ≤ 9) (hb : b ≤ 9) (hw1 : w' 1 = Int32.ofNat (nc + 1)) (hwS : w' (84 + 5 * nc + 0) = Int32.ofNat s) (hwT : w' (84 + 5 * nc + 1) = Int32.ofNat t) (hwG : w' (84 + 5 * nc + 2) = Int32.ofNat g) (hwZ : w' (84 + 5 * nc + 3) = Int32.ofNat z) (hwB : w' (84 + 5 * nc + 4) = Int32.ofNat b) (hwO : ∀ j, j ≠ 1 → (j < 84 + 5 * nc ∨ 84 + 5 * nc + 5 ≤ j) → w' j = w j) : RW nd (nc + 1) (tStd T nc (Int32.ofNat s) (Int32.ofNat t) (Int32.ofNat g) (Int32.ofNat z) (Int32.ofNat b)) L w' := by
  obtain ⟨r0, r1, r2, r3, r4, r5, r6, r7⟩ := hR
  have hnd := r0.1
  have h0j : ∀ j, j ≠ 1 → tStd T nc (Int32.ofNat s) (Int32.ofNat t) (Int32.ofNat g) (Int32.ofNat z) (Int32.ofNat b) 0 j = T 0 j := fun j h0 => by
    unfold tStd; rw [wr_nk h0, wr_ne (by decide), wr_ne (by decide), wr_ne (by decide), wr_ne (by decide), wr_ne (by decide)]
  have hk : ∀ i, 1 ≤ i → i < 4 → tStd T nc (Int32.ofNat s) (Int32.ofNat t) (Int32.ofNat g) (Int32.ofNat z) (Int32.ofNat b) i = T i := fun i h1 h4 => by
    unfold tStd; rw [wr_nrow (by omega), wr_nrow (by omega), wr_nrow (by omega), wr_nrow (by omega), wr_nrow (by omega), wr_nrow (by omega)]
  have hn : ∀ i c, 4 ≤ i → c ≠ nc → tStd T nc (Int32.ofNat s) (Int32.ofNat t) (Int32.ofNat g) (Int32.ofNat z) (Int32.ofNat b) i c = T i c := fun i c h1 h4 => by
    unfold tStd; rw [wr_ne (by omega), wr_nk h4, wr_nk h4, wr_nk h4, wr_nk h4, wr_nk h4]
  have e4 : tStd T nc (Int32.ofNat s) (Int32.ofNat t) (Int32.ofNat g) (Int32.ofNat z) (Int32.ofNat b) 4 nc = Int32.ofNat s := by
    unfold tStd; rw [wr_ne (by decide), wr_ne (by decide), wr_ne (by decide), wr_ne (by decide), wr_ne (by decide), wr_eq]
  have e5 : tStd T nc (Int32.ofNat s) (Int32.ofNat t) (Int32.ofNat g) (Int32.ofNat z) (Int32.ofNat b) 5 nc = Int32.ofNat t := by
    unfold tStd; rw [wr_ne (by decide), wr_ne (by decide), wr_ne (by decide), wr_ne (by decide), wr_eq]
  have e6 : tStd T nc (Int32.ofNat s) (Int32.ofNat t) (Int32.ofNat g) (Int32.ofNat z) (Int32.ofNat b) 6 nc = Int32.ofNat g := by
    unfold tStd; rw [wr_ne (by decide), wr_ne (by decide), wr_ne (by decide), wr_eq]
  have e7 : tStd T nc (Int32.ofNat s) (Int32.ofNat t) (Int32.ofNat g) (Int32.ofNat z) (Int32.ofNat b) 7 nc = Int32.ofNat z := by
    unfold tStd; rw [wr_ne (by decide), wr_ne (by decide), wr_eq]
  have e8 : tStd T nc (Int32.ofNat s) (Int32.ofNat t) (Int32.ofNat g) (Int32.ofNat z) (Int32.ofNat b) 8 nc = Int32.ofNat b := by
    unfold tStd; rw [wr_ne (by decide), wr_eq]
  have hdi : ∀ d, sDiet (tStd T nc (Int32.ofNat s) (Int32.ofNat t) (Int32.ofNat g) (Int32.ofNat z) (Int32.ofNat b)) d = sDiet T d := fun d => by
    unfold sDiet; rw [h0j 2 (by decide)]
  refine ⟨⟨hnd, by omega, ?_, ?_, ?_, hw1⟩, ?_, ⟨?_, ?_⟩, ?_, ?_, ?_, ?_, ?_⟩
  · rw [h0j 0 (by decide)]; exact r0.2.2.1
  · unfold tStd; rw [wr_eq]
  · rw [hwO 0 (by decide) (by omega)]; exact r0.2.2.2.2.1
  · obtain ⟨s1, s2, s3, s4, s5, s6, s7, s8⟩ := r1
    exact ⟨by rw [hwO 6 (by decide) (by omega), h0j 3 (by decide)]; exact s1, by rw [hwO 4 (by decide) (by omega), h0j 4 (by decide)]; exact s2, by rw [hwO 5 (by decide) (by omega), h0j 5 (by decide)]; exact s3, by rw [hwO 7 (by decide) (by omega), h0j 6 (by decide)]; exact s4, by rw [hwO 8 (by decide) (by omega), h0j 7 (by decide)]; exact s5, by rw [hwO 9 (by decide) (by omega), h0j 8 (by decide)]; exact s6, by rw [hwO 11 (by decide) (by omega), h0j 9 (by decide)]; exact s7, by rw [hwO 2 (by decide) (by omega), h0j 10 (by decide)]; exact s8⟩
  · intro d hd
    rw [hk 1 (by decide) (by decide), hwO _ (by omega) (by omega)]; exact r2.1 d hd
  · intro s' hs'
    rw [hk 1 (by decide) (by decide)]
    rcases r2.2 s' hs' with e1 | ⟨d, hd, e1, e2⟩
    · exact Or.inl e1
    · exact Or.inr ⟨d, hd, e1, by rw [hwO _ (by omega) (by omega)]; exact e2⟩
  · intro d hd
    obtain ⟨b1, b2, b3⟩ := r3 d hd
    exact ⟨by rw [hwO _ (by omega) (by omega), hk 2 (by decide) (by decide)]; exact b1, by rw [hwO _ (by omega) (by omega), hdi]; exact b2, fun t ht => by rw [hwO _ (by omega) (by omega), hk 3 (by decide) (by decide)]; exact b3 t ht⟩
  · intro c hc k hk5
    by_cases e : c = nc
    · subst e
      match k, hk5 with
      | 0, _ => exact hwS.trans e4.symm
      | 1, _ => exact hwT.trans e5.symm
      | 2, _ => exact hwG.trans e6.symm
      | 3, _ => exact hwZ.trans e7.symm
      | 4, _ => exact hwB.trans e8.symm
    · rw [hwO _ (by omega) (by omega), hn _ _ (by omega) e]; exact r4 c (by omega) k hk5
  · obtain ⟨a1, a2, a3⟩ := r5
    refine ⟨a1, by rw [hwO 10 (by decide) (by omega)]; exact a2, fun k hk9 => ?_⟩
    rw [hwO _ (by omega) (by omega), hwO _ (by omega) (by omega), hwO _ (by omega) (by omega), hwO _ (by omega) (by omega), hwO _ (by omega) (by omega)]; exact a3 k hk9
  · obtain ⟨b1, b2, b3, b4, b5⟩ := r6
    refine ⟨by rw [h0j 4 (by decide)]; exact b1, by rw [h0j 5 (by decide)]; exact b2, by rw [h0j 8 (by decide)]; exact b3, fun d hd => by rw [hk 2 (by decide) (by decide), hk 3 (by decide) (by decide)]; exact b4 d hd, fun c hc => ?_⟩
    by_cases e : c = nc
    · subst e
      exact ⟨⟨s, hs, e4⟩, ⟨t, ht, e5⟩, ⟨g, hg, e6⟩, ⟨z, hz, e7⟩, ⟨b, hb, e8⟩⟩
    · rw [hn 4 c (by decide) e, hn 5 c (by decide) e, hn 6 c (by decide) e, hn 7 c (by decide) e, hn 8 c (by decide) e]
      exact b5 c (by omega)
  · unfold tStd
    exact tz_wr (tz_wr (tz_wr (tz_wr (tz_wr (tz_wr r7 (show nc < 5 from hnc5)) (show nc < 5 from hnc5)) (show nc < 5 from hnc5)) (show nc < 5 from hnc5)) (show nc < 5 from hnc5)) (by decide)
theorem ok_std {v1 v2 v3 v4 v5 : Int32} (h : okA (nd, nc, T, L)) : okA (nd, nc + 1, tStd T nc v1 v2 v3 v4 v5, L) := by
  obtain ⟨h1, ⟨k, hk, e⟩, h3, q, hq, e10⟩ := h
  refine ⟨h1, ⟨k, hk, ?_⟩, fun j hj => ?_, q, hq, ?_⟩
  rotate_left 2
  · exact (tStd_10 (T := T) (nc := nc) (v1 := v1) (v2 := v2) (v3 := v3) (v4 := v4) (v5 := v5)).trans e10
  · show tStd T nc v1 v2 v3 v4 v5 0 2 = Int32.ofNat k
    unfold tStd; rw [wr_nk (by decide), wr_ne (by decide), wr_ne (by decide), wr_ne (by decide), wr_ne (by decide), wr_ne (by decide)]; exact e
  · show tStd T nc v1 v2 v3 v4 v5 3 j = 0
    unfold tStd; rw [wr_ne (by decide), wr_ne (by decide), wr_ne (by decide), wr_ne (by decide), wr_ne (by decide), wr_ne (by decide)]; exact h3 j hj
theorem ok_sc {k : Nat} {v : Int32} (hk : k ≠ 2) (hk10 : k ≠ 10) (h : okA (nd, nc, T, L)) : okA (nd, nc, wr T 0 k v, L) := by
  obtain ⟨h1, ⟨q, hq, e⟩, h3, q2, hq2, e10⟩ := h
  refine ⟨h1, ⟨q, hq, ?_⟩, fun j hj => ?_, q2, hq2, ?_⟩
  rotate_left 2
  · exact (show wr T 0 k v 0 10 = T 0 10 from wr_nk (Ne.symm hk10)).trans e10
  · show wr T 0 k v 0 2 = Int32.ofNat q
    rw [wr_nk (Ne.symm hk)]; exact e
  · show wr T 0 k v 3 j = 0
    rw [wr_ne (by decide)]; exact h3 j hj
/-! the class's own -/
theorem c_sits {N a s : Nat} {v2 v3 : Int32} (h0 : M a 0 = Int32.ofNat nd) (hnd : nd < 8) (hs : s < 10) : ∃ M', f_X6_sits N a (Int32.ofNat s) v2 v3 M = some (0, M') ∧ slc a M' = tSit (slc a M) nd s v2 (if v3 = 0 then slc a M 0 2 else slc a M 0 2 ||| ((1 : Int32) <<< (Int32.ofNat nd &&& 31))) ∧ ∀ x, (x < a ∨ a + 8 < x) → M' x = M x := by
  have e02 : slc a M 0 2 = M a 2 := slc_at (i := 0) (by decide)
  have n1 : a ≠ a + 1 := by omega
  have n2 : a ≠ a + 2 := by omega
  rw [e02]
  unfold f_X6_sits f_X6_sits_63 tSit
  rw [h0, if_neg (show ¬ (8 : Int32) ≤ Int32.ofNat nd from i32_nle (n := 8) hnd (by omega)), if_neg (i32_nn (by omega)), if_pos (show Int32.ofNat s < (10 : Int32) from i32_ltn (n := 10) hs (by omega))]
  simp only [grd, lt, inb_ofNat hs (show s < 2147483648 by omega), if_true, i32_clampN (show s < 2147483648 by omega), wr_ne n1, wr_ne n2, h0, inb_ofNat hnd (show nd < 2147483648 by omega), i32_clampN (show nd < 2147483648 by omega), wr_nk (show (0 : Nat) ≠ 2 by decide), i32_succ]
  by_cases q : v3 = 0
  · rw [if_pos q, if_pos q]
    refine ⟨_, rfl, ?_, fun x hx => by rw [wr_nrow (by omega), wr_nrow (by omega), wr_nrow (by omega), wr_nrow (by omega)]⟩
    rw [slc_w0, slc_w0, slc_wi (i := 2) (by decide), slc_wi (i := 1) (by decide)]
  · rw [if_neg q, if_neg q]
    refine ⟨_, rfl, ?_, fun x hx => by rw [wr_nrow (by omega), wr_nrow (by omega), wr_nrow (by omega), wr_nrow (by omega)]⟩
    rw [slc_w0, slc_w0, slc_wi (i := 2) (by decide), slc_wi (i := 1) (by decide)]
theorem c_stands {N a : Nat} {v1 v2 v3 v4 v5 : Int32} (h1 : M a 1 = Int32.ofNat nc) (hnc : nc < 5) : ∃ M', f_X6_stands N a v1 v2 v3 v4 v5 M = some (0, M') ∧ slc a M' = tStd (slc a M) nc v1 v2 v3 v4 v5 ∧ ∀ x, (x < a ∨ a + 8 < x) → M' x = M x := by
  have n4 : a ≠ a + 4 := by omega
  have n5 : a ≠ a + 5 := by omega
  have n6 : a ≠ a + 6 := by omega
  have n7 : a ≠ a + 7 := by omega
  have n8 : a ≠ a + 8 := by omega
  unfold f_X6_stands tStd
  rw [h1, if_pos (show Int32.ofNat nc < (5 : Int32) from i32_ltn (n := 5) hnc (by omega))]
  simp only [grd, lt, h1, inb_ofNat hnc (show nc < 2147483648 by omega), if_true, i32_clampN (show nc < 2147483648 by omega), wr_ne n4, wr_ne n5, wr_ne n6, wr_ne n7, wr_ne n8, i32_succ]
  refine ⟨_, rfl, ?_, fun x hx => by rw [wr_nrow (by omega), wr_nrow (by omega), wr_nrow (by omega), wr_nrow (by omega), wr_nrow (by omega), wr_nrow (by omega)]⟩
  rw [slc_w0, slc_wi (i := 8) (by decide), slc_wi (i := 7) (by decide), slc_wi (i := 6) (by decide), slc_wi (i := 5) (by decide), slc_wi (i := 4) (by decide)]
theorem c_serves {N a c : Nat} {v2 : Int32} : ∃ M', f_X6_serves N a (Int32.ofNat c) v2 M = some (0, M') ∧ slc a M' = wr (slc a M) 0 3 (dSet (slc a M 0 3) c v2) ∧ ∀ x, x ≠ a → M' x = M x := by
  have e03 : slc a M 0 3 = M a 3 := slc_at (i := 0) (by decide)
  rw [e03]
  unfold f_X6_serves dSet
  simp only [lt]
  by_cases q : v2 = 0
  · rw [if_pos q, if_pos q]
    exact ⟨_, rfl, slc_w0, fun x hx => wr_nrow hx⟩
  · rw [if_neg q, if_neg q]
    exact ⟨_, rfl, slc_w0, fun x hx => wr_nrow hx⟩
end SI
