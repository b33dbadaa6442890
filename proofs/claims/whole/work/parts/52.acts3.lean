/-! Seats changed about; diets; sweet courses. -/
def sSwap (T : Tb) (a b : Nat) : Tb := wr (wr T 1 a (T 1 b)) 1 b (T 1 a)
section SW
variable {nd nc : Nat} {T T' : Tb} {L : List Row} {w w' : Nat → Int32} {M : Mm}
theorem RW_seat (hR : RW nd nc T L w) (hT : ∀ i, i ≠ 1 → T' i = T i) (hw : ∀ j, (∀ d, d < nd → j ≠ 12 + 9 * d) → w' j = w j) (hS : rSeat nd T' w') (hz : tz T') : RW nd nc T' L w' := by
  obtain ⟨r0, r1, r2, r3, r4, r5, r6, r7⟩ := hR
  have hnd := r0.1
  have hnc := r0.2.1
  have hw2 : ∀ j, j < 12 ∨ 84 ≤ j ∨ (j - 12) % 9 ≠ 0 → w' j = w j := fun j hj => hw j (fun d hd h9 => by omega)
  refine ⟨?_, ?_, hS, ?_, ?_, ?_, ?_, hz⟩
  · unfold rHead; rw [hT 0 (by decide), hw2 0 (by omega), hw2 1 (by omega)]; exact r0
  · unfold rScal
    rw [hT 0 (by decide), hw2 6 (by omega), hw2 4 (by omega), hw2 5 (by omega), hw2 7 (by omega), hw2 8 (by omega), hw2 9 (by omega), hw2 11 (by omega), hw2 2 (by omega)]; exact r1
  · intro d hd
    obtain ⟨b1, b2, b3⟩ := r3 d hd
    refine ⟨by rw [hT 2 (by decide), hw2 _ (by omega)]; exact b1, ?_, fun t ht => by rw [hT 3 (by decide), hw2 _ (by omega)]; exact b3 t ht⟩
    rw [hw2 _ (by omega), b2]
    unfold sDiet
    rw [hT 0 (by decide)]
  · intro c hc k hk
    rw [hw2 _ (by omega), hT _ (by omega)]; exact r4 c hc k hk
  · obtain ⟨a1, a2, a3⟩ := r5
    refine ⟨a1, by rw [hw2 10 (by omega)]; exact a2, fun k hk => ?_⟩
    rw [hw2 _ (by omega), hw2 _ (by omega), hw2 _ (by omega), hw2 _ (by omega), hw2 _ (by omega)]; exact a3 k hk
  · unfold rB
    rw [hT 0 (by decide), hT 2 (by decide), hT 3 (by decide), hT 4 (by decide), hT 5 (by decide), hT 6 (by decide), hT 7 (by decide), hT 8 (by decide)]; exact r6
theorem c_changes {N p a b : Nat} (ha : a < 10) (hb : b < 10) : ∃ M', f_X6_changesAbout N p (Int32.ofNat a) (Int32.ofNat b) M = some (0, M') ∧ slc p M' = sSwap (slc p M) a b ∧ ∀ x, x ≠ p + 1 → M' x = M x := by
  unfold f_X6_changesAbout
  rw [if_neg (i32_nn (by omega)), if_neg (show ¬ (10 : Int32) ≤ Int32.ofNat a from i32_nle (n := 10) ha (by omega)), if_neg (i32_nn (by omega)), if_pos (show Int32.ofNat b < (10 : Int32) from i32_ltn (n := 10) hb (by omega))]
  simp only [grd, lt, inb_ofNat ha (show a < 2147483648 by omega), inb_ofNat hb (show b < 2147483648 by omega), if_true, i32_clampN (show a < 2147483648 by omega), i32_clampN (show b < 2147483648 by omega)]
  refine ⟨_, rfl, ?_, fun x hx => by rw [wr_nrow hx, wr_nrow hx]⟩
  rw [slc_wi (by decide), slc_wi (by decide)]
  unfold sSwap
  rw [slc_at (by decide), slc_at (by decide)]
theorem sw_at {a b s : Nat} : sSwap T a b 1 s = if s = b then T 1 a else if s = a then T 1 b else T 1 s := by
  unfold sSwap
  by_cases h1 : s = b
  · subst h1; rw [wr_eq, if_pos rfl]
  · rw [wr_nk h1, if_neg h1]
    by_cases h2 : s = a
    · subst h2; rw [wr_eq, if_pos rfl]
    · rw [wr_nk h2, if_neg h2]
theorem sw_row {a b i : Nat} (h : i ≠ 1) : sSwap T a b i = T i := by
  unfold sSwap; rw [wr_nrow h, wr_nrow h]
theorem sw_tz {a b : Nat} (h : tz T) (ha : a < 10) (hb : b < 10) : tz (sSwap T a b) := tz_wr (tz_wr h ha) hb
theorem sw_sw {a b : Nat} (hab : a ≠ b) : sSwap (sSwap T a b) a b = T := by
  funext i j
  by_cases hi : i = 1
  · subst hi
    rw [sw_at, sw_at, sw_at, sw_at, if_pos rfl, if_neg hab, if_pos rfl]
    by_cases h1 : j = b
    · rw [if_pos h1, h1]
    · rw [if_neg h1, if_neg h1]
      by_cases h2 : j = a
      · rw [if_pos h2, h2]
      · rw [if_neg h2, if_neg h2]
  · rw [sw_row hi, sw_row hi]
theorem m_exch {a b : Nat} (hR : RW nd nc T L (M 209)) (ha : a < 10) (hb : b < 10) (hab : a ≠ b) : ∃ M', f_X11_exchanges 20000 (Int32.ofNat a) (Int32.ofNat b) M = some (0, M') ∧ RW nd nc (sSwap T a b) L (M' 209) ∧ M' 209 3 = M 209 3 ∧ (∀ j, 409 ≤ j → M' 209 j = M 209 j) ∧ ∀ x, x ≠ 209 → M' x = M x := by
  have hnd := hR.1.1
  obtain ⟨s1, s2⟩ := hR.2.2.1
  have hd0 : ∀ d, ((12 : Int32) + (9 : Int32) * Int32.ofNat d) + (0 : Int32) = Int32.ofNat (12 + 9 * d) := fun d => m_dAt d 0
  have uq : ∀ d d' s, d < nd → d' < nd → T 1 s = Int32.ofNat d → T 1 s = Int32.ofNat d' → d = d' := fun d d' s h1 h2 e1 e2 => by
    rw [e1] at e2; exact (i32_eqN (by omega) (by omega)).mp e2
  have sx9 : ∀ d s, d < nd → s < 10 → T 1 s = Int32.ofNat d → M 209 (12 + 9 * d) = Int32.ofNat s := fun d s h1 h2 e => by
    rcases s2 s h2 with e4 | ⟨d', hd', e5, e6⟩
    · rw [e] at e4; exact absurd e4 (i32_nm1 (by omega))
    · rw [uq d d' s h1 hd' e e5]; exact e6
  have fin : ∀ w' : Nat → Int32, (∀ j, (∀ d, d < nd → j ≠ 12 + 9 * d) → w' j = M 209 j) → (∀ d, d < nd → w' (12 + 9 * d) = if T 1 b = Int32.ofNat d then Int32.ofNat a else if T 1 a = Int32.ofNat d then Int32.ofNat b else M 209 (12 + 9 * d)) → RW nd nc (sSwap T a b) L w' := fun w' h1 h2 => by
    refine RW_seat hR (fun i hi => sw_row hi) h1 ⟨fun d hd => ?_, fun s hs => ?_⟩ (sw_tz hR.2.2.2.2.2.2.2 ha hb)
    · rw [h2 d hd]
      by_cases q1 : T 1 b = Int32.ofNat d
      · exact ⟨a, ha, by rw [if_pos q1], by rw [sw_at, if_neg hab, if_pos rfl]; exact q1⟩
      · by_cases q2 : T 1 a = Int32.ofNat d
        · exact ⟨b, hb, by rw [if_neg q1, if_pos q2], by rw [sw_at, if_pos rfl]; exact q2⟩
        · obtain ⟨s, hs, e1, e2⟩ := s1 d hd
          have n1 : s ≠ a := fun h9 => q2 (h9 ▸ e2)
          have n2 : s ≠ b := fun h9 => q1 (h9 ▸ e2)
          exact ⟨s, hs, by rw [if_neg q1, if_neg q2]; exact e1, by rw [sw_at, if_neg n2, if_neg n1]; exact e2⟩
    · rw [sw_at]
      by_cases q1 : s = b
      · subst q1
        rw [if_pos rfl]
        rcases s2 a ha with e | ⟨d, hd, e1, e2⟩
        · exact Or.inl e
        · refine Or.inr ⟨d, hd, e1, ?_⟩
          rw [h2 d hd, if_neg (fun h9 => ?_), if_pos e1]
          have f1 := sx9 d s hd hb h9
          rw [e2] at f1
          exact hab ((i32_eqN (by omega) (by omega)).mp f1)
      · rw [if_neg q1]
        by_cases q2 : s = a
        · subst q2
          rw [if_pos rfl]
          rcases s2 b hb with e | ⟨d, hd, e1, e2⟩
          · exact Or.inl e
          · exact Or.inr ⟨d, hd, e1, by rw [h2 d hd, if_pos e1]⟩
        · rw [if_neg q2]
          rcases s2 s hs with e | ⟨d, hd, e1, e2⟩
          · exact Or.inl e
          · refine Or.inr ⟨d, hd, e1, ?_⟩
            rw [h2 d hd, if_neg (fun h9 => ?_), if_neg (fun h9 => ?_)]
            · exact e2
            · have f1 := sx9 d a hd ha h9
              rw [e2] at f1
              exact q2 ((i32_eqN (by omega) (by omega)).mp f1)
            · have f1 := sx9 d b hd hb h9
              rw [e2] at f1
              exact q1 ((i32_eqN (by omega) (by omega)).mp f1)
  have nm : ∀ d : Nat, d < nd → ¬ (-1 : Int32) = Int32.ofNat d := fun d hd h9 => i32_nm1 (k := d) (by omega) h9.symm
  have h29 : ∀ (M9 : Mm), ∃ M', f_X11_exchanges_29 20000 (Int32.ofNat a) (T 1 b) M9 = some (0, M') ∧ (∀ j, (∀ d, d < nd → j ≠ 12 + 9 * d) → M' 209 j = M9 209 j) ∧ (∀ d, d < nd → M' 209 (12 + 9 * d) = if T 1 b = Int32.ofNat d then Int32.ofNat a else M9 209 (12 + 9 * d)) ∧ ∀ x, x ≠ 209 → M' x = M9 x := fun M9 => by
    unfold f_X11_exchanges_29
    rcases s2 b hb with e | ⟨d, hd, e1, e2⟩
    · rw [e, if_pos rfl]
      exact ⟨M9, rfl, fun _ _ => rfl, fun d hd => by rw [if_neg (nm d hd)], fun _ _ => rfl⟩
    · rw [e1, if_neg (i32_nm1 (by omega))]
      simp only [f_X11_dinerAt, bnd, hd0, grd, lt, inb_ofNat (show 12 + 9 * d < 2107 by omega) (by omega), if_true, i32_clampN (show 12 + 9 * d < 2147483648 by omega)]
      refine ⟨_, rfl, fun j hj => wr_nk (hj d hd), fun d' hd' => ?_, fun x hx => wr_nrow hx⟩
      by_cases q : d' = d
      · subst q; rw [wr_eq, if_pos rfl]
      · rw [wr_nk (by omega), if_neg (fun h9 => q ((i32_eqN (by omega) (by omega)).mp h9).symm)]
  unfold f_X11_exchanges
  rw [m_dinerIn hR.1 hR.2.2.1 ha]
  simp only [bnd]
  rw [m_dinerIn hR.1 hR.2.2.1 hb]
  simp only []
  rcases s2 a ha with e | ⟨d, hd, e1, e2⟩
  · rw [e, if_pos rfl]
    obtain ⟨M', g1, g2, g3, g4⟩ := h29 M
    refine ⟨M', g1, fin _ g2 (fun d hd => ?_), g2 3 (fun d _ => by omega), fun j hj => g2 j (fun d _ => by omega), g4⟩
    rw [g3 d hd, e, if_neg (nm d hd)]
  · rw [e1, if_neg (i32_nm1 (by omega))]
    simp only [f_X11_dinerAt, hd0, grd, lt, inb_ofNat (show 12 + 9 * d < 2107 by omega) (by omega), if_true, i32_clampN (show 12 + 9 * d < 2147483648 by omega)]
    obtain ⟨M', g1, g2, g3, g4⟩ := h29 (wr M 209 (12 + 9 * d) (Int32.ofNat b))
    refine ⟨M', g1, fin _ (fun j hj => by rw [g2 j hj, wr_nk (hj d hd)]) (fun d' hd' => ?_), by rw [g2 3 (fun d _ => by omega), wr_nk (by omega)], fun j hj => by rw [g2 j (fun d _ => by omega), wr_nk (by omega)], fun x hx => by rw [g4 x hx, wr_nrow hx]⟩
    rw [g3 d' hd']
    by_cases q : d' = d
    · subst q; rw [wr_eq, e1, if_pos (show Int32.ofNat d' = Int32.ofNat d' from rfl)]
    · rw [wr_nk (by omega), e1, if_neg (show ¬ Int32.ofNat d = Int32.ofNat d' from fun h9 => q ((i32_eqN (by omega) (by omega)).mp h9).symm)]
/-- other diets -/
theorem RW_di {v : Int32} (hR : RW nd nc T L w) (h1 : ∀ d, d < nd → w' (12 + 9 * d + 2) = sDiet (wr T 0 2 v) (Int32.ofNat d)) (h2 : ∀ j, (∀ d, d < nd → j ≠ 12 + 9 * d + 2) → w' j = w j) : RW nd nc (wr T 0 2 v) L w' := by
  obtain ⟨r0, r1, r2, r3, r4, r5, r6, r7⟩ := hR
  have hnd := r0.1
  have hnc := r0.2.1
  have hw2 : ∀ j, j < 12 ∨ 84 ≤ j ∨ (j - 12) % 9 ≠ 2 → w' j = w j := fun j hj => h2 j (fun d hd h9 => by omega)
  have hT : ∀ i, i ≠ 0 → wr T 0 2 v i = T i := fun i hi => wr_nrow hi
  refine ⟨?_, ?_, ?_, ?_, ?_, ?_, ?_, tz_wr r7 (by decide)⟩
  · unfold rHead; rw [wr_nk (by decide), wr_nk (by decide), hw2 0 (by omega), hw2 1 (by omega)]; exact r0
  · unfold rScal
    rw [hw2 6 (by omega), hw2 4 (by omega), hw2 5 (by omega), hw2 7 (by omega), hw2 8 (by omega), hw2 9 (by omega), hw2 11 (by omega), hw2 2 (by omega), wr_nk (by decide), wr_nk (by decide), wr_nk (by decide), wr_nk (by decide), wr_nk (by decide), wr_nk (by decide), wr_nk (by decide), wr_nk (by decide)]; exact r1
  · unfold rSeat
    rw [hT 1 (by decide)]
    refine ⟨fun d hd => ?_, fun s hs => ?_⟩
    · rw [hw2 _ (by omega)]; exact r2.1 d hd
    · rcases r2.2 s hs with e | ⟨d, hd, e1, e2⟩
      · exact Or.inl e
      · exact Or.inr ⟨d, hd, e1, by rw [hw2 _ (by omega)]; exact e2⟩
  · intro d hd
    obtain ⟨b1, b2, b3⟩ := r3 d hd
    exact ⟨by rw [hT 2 (by decide), hw2 _ (by omega)]; exact b1, h1 d hd, fun t ht => by rw [hT 3 (by decide), hw2 _ (by omega)]; exact b3 t ht⟩
  · intro c hc k hk
    rw [hw2 _ (by omega), hT _ (by omega)]; exact r4 c hc k hk
  · obtain ⟨a1, a2, a3⟩ := r5
    refine ⟨a1, by rw [hw2 10 (by omega)]; exact a2, fun k hk => ?_⟩
    rw [hw2 _ (by omega), hw2 _ (by omega), hw2 _ (by omega), hw2 _ (by omega), hw2 _ (by omega)]; exact a3 k hk
  · unfold rB
    rw [wr_nk (by decide), wr_nk (by decide), wr_nk (by decide), hT 2 (by decide), hT 3 (by decide), hT 4 (by decide), hT 5 (by decide), hT 6 (by decide), hT 7 (by decide), hT 8 (by decide)]; exact r6
def dSet (x : Int32) (d : Nat) (is : Int32) : Int32 := if is = 0 then x &&& (((1 : Int32) <<< (Int32.ofNat d &&& 31)) ^^^ (-1 : Int32)) else x ||| ((1 : Int32) <<< (Int32.ofNat d &&& 31))
theorem hB_dSet {x is : Int32} {d i : Nat} (hd : d < 32) (hi : i < 32) : hb9 (dSet x d is) i = if i = d then decide (is ≠ 0) else hb9 x i := by
  unfold dSet
  by_cases q : is = 0
  · rw [if_pos q, hB_and, hB_not hi, hB_one hd]
    by_cases e : i = d
    · rw [if_pos e, decide_eq_true e]; simp [q]
    · rw [if_neg e, decide_eq_false e]; simp
  · rw [if_neg q, hB_or, hB_one hd]
    by_cases e : i = d
    · rw [if_pos e, decide_eq_true e]; simp [q]
    · rw [if_neg e, decide_eq_false e]; simp
theorem RW_diet {d : Nat} {is : Int32} (hR : RW nd nc T L w) (hd : d < nd) (his : is = 0 ∨ is = 1) : RW nd nc (wr T 0 2 (dSet (T 0 2) d is)) L (updF w (12 + 9 * d + 2) is) := by
  have hnd := hR.1.1
  refine RW_di hR (fun d' hd' => ?_) (fun j hj => updF_ne (hj d hd))
  rw [sDiet_b (by omega), wr_eq, hB_dSet (by omega) (by omega)]
  by_cases e : d' = d
  · subst e
    rw [updF_eq, if_pos rfl]
    rcases his with rfl | rfl <;> rfl
  · rw [updF_ne (by omega), if_neg e, (hR.2.2.2.1 d' hd').2.1, sDiet_b (by omega)]
theorem ok_dSet {d : Nat} {is : Int32} (hnd : nd ≤ 8) (hd : d < nd) (h : okA (nd, nc, T, L)) : okA (nd, nc, wr T 0 2 (dSet (T 0 2) d is), L) := by
  refine ⟨h.1, ?_, fun j hj => by show wr T 0 2 (dSet (T 0 2) d is) 3 j = 0; rw [wr_ne (by decide)]; exact h.2.2.1 j hj, by obtain ⟨q, hq, e⟩ := h.2.2.2; exact ⟨q, hq, by show wr T 0 2 (dSet (T 0 2) d is) 0 10 = _; rw [wr_nk (by decide)]; exact e⟩⟩
  obtain ⟨k, hk, e⟩ := h.2.1
  have e' : T 0 2 = Int32.ofNat k := e
  show ∃ k, k < 2 ^ nd ∧ wr T 0 2 (dSet (T 0 2) d is) 0 2 = Int32.ofNat k
  rw [wr_eq]
  refine hB_ex (by omega) (fun i hi h32 => ?_)
  rw [hB_dSet (by omega) h32, if_neg (by omega), e']
  exact hB_lt (by omega) hk hi
end SW
section PB
variable {M : Mm}
theorem P_change (h : InvM M) (v1 v2 : Int32) : Kd (fun M => f_L_change 20000 v1 v2 M) (fun M => f_X11_change 20000 v1 v2 M) M := by
  obtain ⟨nd, nc, T, L, K, ms, im, tp, ft, h, hR, hs, hz, h70, h71, hnd, hnc⟩ := Ix h
  rcases i32_rng v1 (n := 10) (by omega) with ⟨a, ha, rfl⟩ | hb
  · rcases i32_rng v2 (n := 10) (by omega) with ⟨b, hb, rfl⟩ | hb2
    · by_cases hab : a = b
      · subst hab
        refine Kx (F := fun M => f_X10_change 20000 (Int32.ofNat a) (Int32.ofNat a) M) (e := "java/lang/IllegalArgumentException") (code := 2) (M1 := M) (fun M => rfl) h ?_ hz (fun M => by simp) (by decide) (fun M' hm => ⟨wr (wr M' 208 0 0) 208 0 2, ?_, mQ.t208.trans mQ.t208, wr_eq⟩)
        · simp only [f_X10_change, c_nS ha, bnx, if_true]
        · simp only [f_X11_change, f_X11_change_25, f_X11_change_43, lt, m_noS ha, bnd, if_true, m_th0, m_th1, show ¬ (1 : Int32) = 0 from by decide, if_false]
      · have hne : ¬ Int32.ofNat a = Int32.ofNat b := fun h9 => hab ((i32_eqN (by omega) (by omega)).mp h9)
        obtain ⟨M1, a1, a2, a3⟩ := c_remember h.1 hR.2.2.2.2.2.2.2
        obtain ⟨M2, b1, b2, b3⟩ := c_changes (N := 20000) (p := 7) (M := M1) ha hb
        have s1 : slc 7 M1 = T := a2.1
        rw [s1] at b2
        refine Ka (F := fun M => f_X10_change 20000 (Int32.ofNat a) (Int32.ofNat b) M) (r := sSwap T a b 1 a) (M1 := M2) (A' := (nd, nc, sSwap T a b, L)) (K' := K) (ms' := ((nd, nc, T, L) :: ms).take 12) (im' := im) (tp' := tp) (ft' := ft) (fun M => rfl) h ?_ ?_ (fun x hx => by rw [b3 x (by omega), a3 x (by omega) (by omega)]) (h.2.2.rem.up ⟨h.2.2.2.1.1, ?_, fun j hj => by show sSwap T a b 3 j = 0; unfold sSwap; rw [wr_ne (by decide), wr_ne (by decide)]; exact h.2.2.2.1.2.2.1 j hj, by obtain ⟨q, hq, e⟩ := h.2.2.2.1.2.2.2; exact ⟨q, hq, by show sSwap T a b 0 10 = _; unfold sSwap; rw [wr_ne (by decide), wr_ne (by decide)]; exact e⟩⟩) (fun M' hm => ?_)
        · simp only [f_X10_change, c_nS ha, c_nS hb, bnx, hne, if_false, a1, bnd, b1, c_dinerAt, b2, sDinerAt_eq ha]
        · refine a2.up (A' := (nd, nc, sSwap T a b, L)) b2 (a2.2.1.frame (b3 _ (by decide)) (b3 _ (by decide))) (fun x _ h1 _ _ _ => b3 x (by omega)) (fun j9 _ => by rw [b3 0 (by decide)]) ?_
          rw [slc_ex (fun i hi => b3 _ (by omega))]; exact a2.2.2.2.2.2.2.2
        · obtain ⟨k, hk, e⟩ := h.2.2.2.1.2.1
          exact ⟨k, hk, by show sSwap T a b 0 2 = _; rw [sw_row (by decide)]; exact e⟩
        · obtain ⟨M3, c1, c2, c3, c4, c5⟩ := m_remember (hm.th (c := 0)) h.1.2.2.2.1.1
          have hR3 : RW nd nc T L (M3 209) := by rw [c3]; exact mW hm
          obtain ⟨M4, d1, d2, d3, d4, d5⟩ := m_exch hR3 ha hb hab
          refine ⟨M4, ?_, c2.up (A' := (nd, nc, sSwap T a b, L)) h.2.2.1 d2 d3 d4 (d5 _ (by decide)) (d5 _ (by decide)) (d5 _ (by decide)) (fun j _ => by rw [d5 208 (by decide)]), fun x hx => by rw [d5 x (by omega), c5 x (by omega) (by omega), wr_nrow (by omega)], by rw [d5 208 (by decide), c4 0 (by decide), wr_eq]⟩
          simp only [f_X11_change, f_X11_change_25, f_X11_change_43, lt, m_noS ha, m_noS hb, bnd, if_true, m_th0, hne, if_false, c1, d1, m_dinerIn d2.1 d2.2.2.1 ha]
    · refine Kx (F := fun M => f_X10_change 20000 (Int32.ofNat a) v2 M) (e := "java/lang/IndexOutOfBoundsException") (code := 1) (M1 := M) (fun M => rfl) h ?_ hz (fun M => by simp) (by decide) (fun M' hm => ⟨wr (wr M' 208 0 0) 208 0 1, ?_, mQ.t208.trans mQ.t208, wr_eq⟩)
      · simp only [f_X10_change, c_nS ha, bnx, c_nSx hb2]
      · simp only [f_X11_change, lt, m_noS ha, bnd, if_true, m_noSx hb2, f_X11_change_25, f_X11_change_20, m_th1, show ¬ (1 : Int32) = 0 from by decide, if_false]
  · refine Kx (F := fun M => f_X10_change 20000 v1 v2 M) (e := "java/lang/IndexOutOfBoundsException") (code := 1) (M1 := M) (fun M => rfl) h ?_ hz (fun M => by simp) (by decide) (fun M' hm => ⟨wr (wr M' 208 0 0) 208 0 1, ?_, mQ.t208.trans mQ.t208, wr_eq⟩)
    · simp only [f_X10_change, c_nSx hb, bnx]
    · simp only [f_X11_change, lt, m_noSx hb, bnd, f_X11_change_25, f_X11_change_20, m_th1, show ¬ (1 : Int32) = 0 from by decide, if_false]
theorem P_diet (h : InvM M) (v1 v2 : Int32) (hv : v2 = 0 ∨ v2 = 1) : Bd9 (fun M => f_L_diet 20000 v1 v2 M) (fun M => f_X11_diet 20000 v1 v2 M) M := by
  obtain ⟨nd, nc, T, L, K, ms, im, tp, ft, h, hR, hs, hz, h70, h71, hnd, hnc⟩ := Ix h
  rcases i32_rng v1 (n := nd) (by omega) with ⟨d, hd, rfl⟩ | hb
  · obtain ⟨M1, a1, a2, a3, a4⟩ := c_act (i := 0) (j := 2) (v := dSet (T 0 2) d v2) h.1 hR.2.2.2.2.2.2.2 (by decide)
    have e7 : M1 7 = M 7 := (a2 0).resolve_right (by decide)
    have e72 : M1 7 2 = T 0 2 := by rw [e7]; exact slE hs (i := 0) (by decide)
    have s1 : sDiet (slc 7 M1) (Int32.ofNat d) = sDiet T (Int32.ofNat d) := by
      unfold sDiet
      rw [slc_at (by decide), show M1 (7 + 0) 2 = T 0 2 from e72]
    refine Ba (F := fun M => f_X10_diet 20000 (Int32.ofNat d) v2 M) (r := if sDiet T (Int32.ofNat d) = v2 then 0 else 1) (fun M => rfl) h ?_ a3 a4 (h.2.2.rem.up (ok_dSet hnd hd h.2.2.2.1)) (fun M' hm => ?_)
    · simp only [f_X10_diet, c_nD h70 hd hnd, bnx, a1, bnd, c_isOnDiet, s1, f_X10_diet_53, lt, e72, dSet]
      rcases hv with rfl | rfl
      · rw [if_pos rfl, if_pos rfl]; split <;> rfl
      · rw [if_neg (show ¬ (1 : Int32) = 0 by decide), if_neg (show ¬ (1 : Int32) = 0 by decide)]; split <;> rfl
    · obtain ⟨M2, b1, b2, b3, b4, b5⟩ := m_act (M := wr M' 208 0 0) (hm.th (c := 0)) h.2.2.1 h.1.2.2.2.1.1 (RW_diet (d := d) (is := v2) (mW hm (c := 0)) hd hv) (by omega) (by omega)
      have c1 : ((12 : Int32) + (9 : Int32) * Int32.ofNat d) + (2 : Int32) = Int32.ofNat (12 + 9 * d + 2) := m_dAt d 2
      have c0 : f_X11_onDiet 20000 (Int32.ofNat d) M2 = some (sDiet T (Int32.ofNat d), M2) := by
        rw [m_onDiet (by omega), b2, ((mW hm).2.2.2.1 d hd).2.1]
        rcases sDiet_01 (T := T) (d := Int32.ofNat d) with e | e <;> rw [e] <;> rfl
      refine ⟨_, ?_, b4, fun x hx => by rw [b5 x hx, wr_nrow (by omega)], ?_⟩
      · simp only [f_X11_diet, f_X11_diet_48, lt, m_noD (mW hm).1.2.2.2.2.1 hd hnd, bnd, if_true, m_th0, b1, c0, f_X11_dinerAt, c1, grd, inb_ofNat (show 12 + 9 * d + 2 < 2107 by omega) (by omega), i32_clampN (show 12 + 9 * d + 2 < 2147483648 by omega)]
        rcases hv with rfl | rfl
        · rw [if_pos rfl]; split <;> rfl
        · rw [if_neg (show ¬ (1 : Int32) = 0 by decide)]; split <;> rfl
      · rw [wr_ne (by decide), b3, wr_eq]
  · refine Bx (F := fun M => f_X10_diet 20000 v1 v2 M) (e := "java/lang/IndexOutOfBoundsException") (code := 1) (M1 := M) (fun M => rfl) h ?_ hz (fun M => by simp) (by decide) (fun M' hm => ⟨wr (wr M' 208 0 0) 208 0 1, ?_, mQ.t208.trans mQ.t208, wr_eq⟩)
    · simp only [f_X10_diet, c_nDx h70 hb, bnx]
    · simp only [f_X11_diet, lt, m_noDx (mW hm).1.2.2.2.2.1 hb hnd, bnd, m_th1, show ¬ (1 : Int32) = 0 from by decide, if_false]
theorem P_sweet (h : InvM M) (v1 v2 : Int32) (hv : v2 = 0 ∨ v2 = 1) : Bd9 (fun M => f_L_sweet 20000 v1 v2 M) (fun M => f_X11_sweet 20000 v1 v2 M) M := by
  obtain ⟨nd, nc, T, L, K, ms, im, tp, ft, h, hR, hs, hz, h70, h71, hnd, hnc⟩ := Ix h
  rcases i32_rng v1 (n := 12) (by omega) with ⟨c, hc, rfl⟩ | hb
  · obtain ⟨M1, a1, a2, a3, a4⟩ := c_act (i := 0) (j := 3) (v := dSet (T 0 3) c v2) h.1 hR.2.2.2.2.2.2.2 (by decide)
    have e73 : M1 7 3 = T 0 3 := by rw [show M1 7 = M 7 from (a2 0).resolve_right (by decide)]; exact slE hs (i := 0) (by decide)
    have hr : (if dSet (T 0 3) c v2 = T 0 3 then (0 : Int32) else 1) = if (if ((T 0 3 >>> (Int32.ofNat c &&& 31)) &&& 1) = 1 then (1 : Int32) else 0) = v2 then 0 else 1 := by
      unfold dSet
      rcases hv with rfl | rfl
      · rw [if_pos rfl]
        by_cases q : hb9 (T 0 3) c = true
        · rw [if_pos ((hB_sh (by omega)).mpr q), if_neg (fun h9 => by rw [(and_b (by omega)).mp h9] at q; exact absurd q (by decide)), if_neg (show ¬ (1 : Int32) = 0 by decide)]
        · rw [if_neg (fun h9 => q ((hB_sh (by omega)).mp h9)), if_pos ((and_b (by omega)).mpr (by simpa using q)), if_pos rfl]
      · rw [if_neg (show ¬ (1 : Int32) = 0 by decide)]
        by_cases q : hb9 (T 0 3) c = true
        · rw [if_pos ((hB_sh (by omega)).mpr q), if_pos ((or_b (by omega)).mpr q), if_pos rfl]
        · rw [if_neg (fun h9 => q ((hB_sh (by omega)).mp h9)), if_neg (fun h9 => q ((or_b (by omega)).mp h9)), if_neg (show ¬ (0 : Int32) = 1 by decide)]
    have hM9 : ∀ M9 : Mm, M9 7 3 = T 0 3 → f_X6_serves 20000 7 (Int32.ofNat c) v2 M9 = some (0, wr M9 7 3 (dSet (T 0 3) c v2)) := fun M9 e => by
      unfold f_X6_serves dSet lt
      rw [e]
      rcases hv with rfl | rfl
      · rw [if_pos rfl, if_pos rfl]
      · rw [if_neg (show ¬ (1 : Int32) = 0 by decide), if_neg (show ¬ (1 : Int32) = 0 by decide)]
    refine Ba (F := fun M => f_X10_sweet 20000 (Int32.ofNat c) v2 M) (r := if dSet (T 0 3) c v2 = T 0 3 then 0 else 1) (fun M => rfl) h ?_ a3 a4 (h.2.2.rem.up ⟨h.2.2.2.1.1, ?_, fun j hj => by show wr T 0 3 (dSet (T 0 3) c v2) 3 j = 0; rw [wr_ne (by decide)]; exact h.2.2.2.1.2.2.1 j hj, by obtain ⟨q, hq, e⟩ := h.2.2.2.1.2.2.2; exact ⟨q, hq, by show wr T 0 3 (dSet (T 0 3) c v2) 0 10 = _; rw [wr_nk (by decide)]; exact e⟩⟩) (fun M' hm => ?_)
    · simp only [f_X10_sweet, show ¬ Int32.ofNat c < (0 : Int32) from i32_nn (by omega), show Int32.ofNat c < (12 : Int32) from i32_ltn (n := 12) hc (by omega), if_true, if_false, a1, bnd, lt, e73, hM9 M1 e73, wr_eq]
      split <;> rfl
    · obtain ⟨k, hk, e⟩ := h.2.2.2.1.2.1
      refine ⟨k, hk, ?_⟩
      show wr T 0 3 (dSet (T 0 3) c v2) 0 2 = Int32.ofNat k
      rw [wr_nk (by decide)]; exact e
    · obtain ⟨M2, b1, b2, b3, b4, b5⟩ := m_act (M := wr M' 208 0 0) (hm.th (c := 0)) h.2.2.1 h.1.2.2.2.1.1 (RW_sc (j := 3) (v := dSet (T 0 3) c v2) (mW hm (c := 0)) (by omega) ⟨fun h => by omega, fun h => by omega, fun h => by omega⟩) (by decide) (by decide)
      have w6 : M2 209 6 = T 0 3 := by rw [b2]; exact (mW hm).2.1.1
      have hin : f_X11_in 20000 (Int32.ofNat c) 0 11 = fun M => some (1, M) := by funext M9; exact m_in (lo := 0) (m := 11) (by omega) (by omega) (by omega)
      refine ⟨_, ?_, b4, fun x hx => by rw [b5 x hx, wr_nrow (by omega)], ?_⟩
      · rw [hr]
        simp only [f_X11_sweet, f_X11_sweet_21, f_X11_sweet_83, lt, hin, bnd, if_true, show ¬ (1 : Int32) = 0 from by decide, if_false, m_th0, b1, grd, show inb (6 : Int32) 2107 = true from by decide, show (6 : Int32).toNatClampNeg = 6 from by decide, w6, f_X11_holds, ix, dSet]
        by_cases q : ((T 0 3 >>> (Int32.ofNat c &&& 31)) &&& 1) = 1
        · simp only [if_pos q, w6]
          rcases hv with rfl | rfl <;> rfl
        · simp only [if_neg q, w6]
          rcases hv with rfl | rfl <;> rfl
      · rw [wr_ne (by decide), b3, wr_eq]
  · refine Bx (F := fun M => f_X10_sweet 20000 v1 v2 M) (e := "java/lang/IndexOutOfBoundsException") (code := 1) (M1 := M) (fun M => rfl) h ?_ hz (fun M => by simp) (by decide) (fun M' hm => ⟨wr (wr M' 208 0 0) 208 0 1, ?_, mQ.t208.trans mQ.t208, wr_eq⟩)
    · show f_X10_sweet 20000 v1 v2 M = _
      unfold f_X10_sweet f_X10_sweet_10
      rcases hb with hb | hb
      · rw [if_pos hb]
      · rw [if_neg (show ¬ v1 < 12 from Int32.not_lt.mpr hb)]; split <;> rfl
    · have hin : f_X11_in 20000 v1 0 11 = fun M => some (0, M) := by funext M9; exact m_inx (lo := 0) (m := 11) hb (by omega)
      simp only [f_X11_sweet, f_X11_sweet_21, lt, hin, bnd, if_true, m_th1, show ¬ (1 : Int32) = 0 from by decide, if_false]
end PB
