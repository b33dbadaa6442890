/-! Courses; the image; acts undone. -/
theorem c_courses_24 {nc m : Nat} {W : Lw} (hm : m < 2147483648) (hnc : nc ≤ 5) : ∀ (n k i : Nat) (v : Int32) (M : Mm) (e : Es), cLaw 25 W M → slc 7 M = e.1 → M 41 = e.2.1 → cLog 37 e.2.2.2 M → whoOK e.1 → e.1 0 1 = Int32.ofNat nc → i + k = m → k < n →
    ∃ M', f_X10_courses_24 20000 n (Int32.ofNat m) v (Int32.ofNat i) M = some (.inl (sSumB W (M 39 2) nc k e v), M') ∧ slc 7 M' = (sBys W (M 39 2) nc k e).1 ∧ cLog 37 (sBys W (M 39 2) nc k e).2.2.2 M' ∧ ∀ x, (x < 7 ∨ 15 < x) → x ≠ 37 → x ≠ 38 → x ≠ 40 → x ≠ 41 → M' x = M x := by
  intro n
  induction n with
  | zero => intro k i v M e _ _ _ _ _ _ _ h; omega
  | succ n ih =>
    intro k i v M e hW h1 h2 hL hO hn hik hk
    rw [f_X10_courses_24]
    match k with
    | 0 =>
      rw [if_pos ((i32_leN (by omega) (by omega)).mpr (by omega))]
      exact ⟨M, rfl, h1, hL, fun _ _ _ _ _ _ => rfl⟩
    | k + 1 =>
      rw [if_neg (fun h9 => by have := (i32_leN (by omega) (by omega)).mp h9; omega)]
      have hM : M 7 1 = Int32.ofNat nc := by
        rw [← hn, ← h1]; exact (slc_at (i := 0) (by decide)).symm
      obtain ⟨M1, g1, g2, g3, g4, g5⟩ := c_goesBy_l (a := 7) (nc := nc) (W := W) (M := M) (by omega) hnc hW (by rw [h1]; exact hO) hM e.2.2.1 e.2.2.2 hL
      rw [h1, h2] at g1 g2 g3 g4
      rw [g1]
      simp only [bnd, lt, i32_succ]
      obtain ⟨M', k1, k2, k3, k4⟩ := ih k (i + 1) (v + (sCourse W (M 39 2) nc e).2.2.1) M1 (sCourse W (M 39 2) nc e) (hW.frame (fun j hj => g5 _ (by omega) (by omega) (by omega) (by omega) (by omega))) g2 g3 g4 (fun s hs => by rw [sCourse_row (by decide) (by decide) (by decide) (by decide) (by decide)]; exact hO s hs) (by rw [sCourse_n (by decide) (by decide) (by decide) (by decide)]; exact hn) (by omega) (by omega)
      rw [g5 39 (by omega) (by omega) (by omega) (by omega) (by omega)] at k1 k2 k3
      exact ⟨M', k1, k2, k3, fun x x1 x2 x3 x4 x5 => (k4 x x1 x2 x3 x4 x5).trans (g5 x x1 x2 x3 x4 x5)⟩
theorem whoOK_RW {nd nc : Nat} {T : Tb} {L : List Row} {w : Nat → Int32} (hR : RW nd nc T L w) : whoOK T := fun s hs => by
  have hnd := hR.1.1
  rcases hR.2.2.1.2 s hs with e | ⟨d, hd, e, -⟩
  · exact Or.inl e
  · exact Or.inr ⟨by rw [e]; exact i32_nn (by omega), by rw [e]; exact i32_ltn (n := 8) (by omega) (by omega)⟩
theorem lg_eat {nd nc : Nat} {W : Lw} {br : Int32} {e : Es} {w : Nat → Int32} (hR : RW nd nc e.1 e.2.2.2 w) (hl : lgOK e.2.2.2) {c : Nat} (hc : c < nc) : lgOK (sEat W br c e).2.2.2 := by
  have hnd := hR.1.1
  have hnc := hR.1.2.1
  obtain ⟨b1, b2, -, -, b5⟩ := hR.2.2.2.2.2.2.1
  obtain ⟨-, -, ⟨g, hg, eg⟩, -⟩ := b5 c hc
  unfold sEat
  rcases sWho_ex ⟨_, hR⟩ hc with e9 | ⟨d, hd, e9⟩
  · rw [if_pos (by rw [e9]; decide)]; exact hl
  · rw [if_neg (by rw [e9]; exact i32_nn (by omega)), if_neg (by rw [e9]; exact i32_nle (n := 8) (by omega) (by omega))]
    split
    · exact hl
    · dsimp only
      split
      · exact hl
      · intro r hr
        rcases List.mem_cons.mp (List.mem_of_mem_take hr) with e1 | e1
        · subst e1
          refine ⟨b2, b1, ⟨d, by omega, e9⟩, ⟨c, by omega, rfl⟩, ?_⟩
          have h9 := sP_le (W := W) (br := br) (T := e.1) (c := c) (d := sWho e.1 c) (by omega) (by rw [eg]; exact i32_ge0 (by omega))
          obtain ⟨k, hk, ek⟩ := i32_ex (n := 201) h9.1 (Int32.lt_of_le_of_lt h9.2 (by rw [eg]; exact i32_ltn (by omega) (by omega))) (by omega)
          exact ⟨k, by omega, ek⟩
        · exact hl r e1
theorem lg_all {nd nc : Nat} {W : Lw} (hO : lwOK W) : ∀ (k i : Nat) (e : Es) (M : Mm), RW nd nc e.1 e.2.2.2 (M 209) → wLaw W M → lgOK e.2.2.2 → i + k = nc → lgOK (sAll W (M 208 18) k i e).2.2.2 := by
  intro k
  induction k with
  | zero => intro i e M _ _ h _; exact h
  | succ k ih =>
    intro i e M hR hW hl hik
    obtain ⟨M1, a1, a2, -, a3, a4, a5, a6⟩ := m_eats (T := e.1) (tk := e.2.1) (sm := e.2.2.1) (L := e.2.2.2) (W := W) (c := i) hO (show i < nc by omega) hR hW
    have k1 : mK M1 M := ⟨a4, a5, a6⟩
    have h9 := ih (i + 1) (sEat W (M 208 18) i e) M1 a3 (k1.law hW hO) (lg_eat hR hl (by omega)) (by omega)
    rw [k1.2.2 208 (by decide) (by decide)] at h9
    exact h9
theorem lg_bys {nd nc : Nat} {W : Lw} (hO : lwOK W) : ∀ (k : Nat) (e : Es) (M : Mm), RW nd nc e.1 e.2.2.2 (M 209) → wLaw W M → lgOK e.2.2.2 → lgOK (sBys W (M 208 18) nc k e).2.2.2 := by
  intro k
  induction k with
  | zero => intro e M _ _ h; exact h
  | succ k ih =>
    intro e M hR hW hl
    obtain ⟨M1, a1, a2, a3⟩ := m_byc (e := e) hO hR hW
    have h9 := ih (sCourse W (M 208 18) nc e) M1 a2 (a3.law hW hO) (lg_all hO nc 0 (e.1, e.2.1, 0, e.2.2.2) M hR hW hl (by omega))
    rw [a3.2.2 208 (by decide) (by decide)] at h9
    exact h9
/-- who does not sit has nothing -/
def hz6 (nd : Nat) (T : Tb) : Prop := ∀ j, 6 * nd ≤ j → T 3 j = 0
theorem hz_eat {nd nc : Nat} {W : Lw} {br : Int32} {e : Es} {w : Nat → Int32} (hR : RW nd nc e.1 e.2.2.2 w) (hz : hz6 nd e.1) {c : Nat} (hc : c < nc) : hz6 nd (sEat W br c e).1 := by
  have hnd := hR.1.1
  obtain ⟨-, ⟨t, ht, et⟩, -⟩ := hR.2.2.2.2.2.2.1.2.2.2.2 c hc
  intro j hj
  have h0 := hz j hj
  unfold sEat
  rcases sWho_ex ⟨_, hR⟩ hc with e9 | ⟨d, hd, e9⟩
  · rw [if_pos (by rw [e9]; decide)]; exact h0
  · rw [if_neg (by rw [e9]; exact i32_nn (by omega)), if_neg (by rw [e9]; exact i32_nle (n := 8) (by omega) (by omega))]
    have ei : sWho e.1 c * 6 + e.1 5 c = Int32.ofNat (d * 6 + t) := by
      rw [e9, et, show (6 : Int32) = Int32.ofNat 6 from rfl, i32_mulN, i32_addN]
    split
    · exact h0
    · show sTake e.1 c (sWho e.1 c) (sP W br e.1 c (sWho e.1 c)) 3 j = 0
      unfold sTake sGain
      rw [ei, if_neg (i32_nn (by omega)), if_neg (show ¬ (48 : Int32) ≤ Int32.ofNat (d * 6 + t) from i32_nle (n := 48) (by omega) (by omega)), i32_clampN (by omega), wr_nk (by omega), wr_ne (by decide)]
      exact h0
theorem hz_all {nd nc : Nat} {W : Lw} (hO : lwOK W) : ∀ (k i : Nat) (e : Es) (M : Mm), RW nd nc e.1 e.2.2.2 (M 209) → wLaw W M → hz6 nd e.1 → i + k = nc → hz6 nd (sAll W (M 208 18) k i e).1 := by
  intro k
  induction k with
  | zero => intro i e M _ _ h _; exact h
  | succ k ih =>
    intro i e M hR hW hl hik
    obtain ⟨M1, a1, a2, -, a3, a4, a5, a6⟩ := m_eats (T := e.1) (tk := e.2.1) (sm := e.2.2.1) (L := e.2.2.2) (W := W) (c := i) hO (show i < nc by omega) hR hW
    have k1 : mK M1 M := ⟨a4, a5, a6⟩
    have h9 := ih (i + 1) (sEat W (M 208 18) i e) M1 a3 (k1.law hW hO) (hz_eat hR hl (by omega)) (by omega)
    rw [k1.2.2 208 (by decide) (by decide)] at h9
    exact h9
theorem hz_bys {nd nc : Nat} {W : Lw} (hO : lwOK W) : ∀ (k : Nat) (e : Es) (M : Mm), RW nd nc e.1 e.2.2.2 (M 209) → wLaw W M → hz6 nd e.1 → hz6 nd (sBys W (M 208 18) nc k e).1 := by
  intro k
  induction k with
  | zero => intro e M _ _ h; exact h
  | succ k ih =>
    intro e M hR hW hl
    obtain ⟨M1, a1, a2, a3⟩ := m_byc (e := e) hO hR hW
    have h8 := hz_all hO nc 0 (e.1, e.2.1, 0, e.2.2.2) M hR hW hl (by omega)
    have h9 := ih (sCourse W (M 208 18) nc e) M1 a2 (a3.law hW hO) (fun j hj => by
      show sPass nc (sDamps W nc (sSpillL nc 0 (sAll W (M 208 18) nc 0 (e.1, e.2.1, 0, e.2.2.2)).1)) 3 j = 0
      rw [sPass_row (by decide) (by decide), sDamps_row (by decide) (by decide), sSpillL_row (by decide) (by decide)]
      exact h8 j hj)
    rw [a3.2.2 208 (by decide) (by decide)] at h9
    exact h9
theorem sBys_n {W : Lw} {br : Int32} {nc j : Nat} (h4 : j ≠ 4) (h5 : j ≠ 5) (h8 : j ≠ 8) (h9 : j ≠ 9) : ∀ (k : Nat) (e : Es), (sBys W br nc k e).1 0 j = e.1 0 j := by
  intro k
  induction k with
  | zero => intro e; rfl
  | succ k ih => intro e; rw [sBys, ih, sCourse_n h4 h5 h8 h9]
theorem P_courses {M : Mm} (h : InvM M) (v1 : Int32) : Kd (fun M => f_L_courses 20000 v1 M) (fun M => f_X11_courses 20000 v1 M) M := by
  obtain ⟨nd, nc, T, L, K, ms, im, tp, ft, h, hR, hs, hz, h70, h71, hnd, hnc⟩ := Ix h
  have hO : lwOK K.2 := h.2.2.1
  rcases i32_rng1 v1 (lo := 1) (n := 101) (by omega) (by omega) with ⟨m, hm1, hm2, rfl⟩ | hb
  · obtain ⟨M1, a1, a2, a3⟩ := c_remember h.1 hR.2.2.2.2.2.2.2
    obtain ⟨M2, b1, b2, b3, b4, b5⟩ := c_opens (N := 20000) (by decide) (v := 0) (M := M1)
    have s2 : slc 7 M2 = T := by rw [slc_ex (M := M1) (fun i hi => b5 _ (by omega) (by omega))]; exact a2.1
    obtain ⟨M3, c1, c2, c3, c4⟩ := c_courses_24 (nc := nc) (m := m) (W := K.2) (by omega) hnc 20000 m 0 0 M2 (T, clr (M1 41), 0, L) (a2.2.2.1.1.frame (fun i hi => b5 _ (by omega) (by omega))) s2 b2 (a2.2.1.frame (b5 _ (by decide) (by decide)) (b5 _ (by decide) (by decide))) (whoOK_RW hR) hR.1.2.2.2.1 (by omega) (by omega)
    rw [b3] at c1 c2 c3
    refine Ka (F := fun M => f_X10_courses 20000 (Int32.ofNat m) M) (r := sSumB K.2 0 nc m (T, clr (M1 41), 0, L) 0) (M1 := M3) (A' := (nd, nc, (sBys K.2 0 nc m (T, clr (M1 41), 0, L)).1, (sBys K.2 0 nc m (T, clr (M1 41), 0, L)).2.2.2)) (K' := K) (ms' := ((nd, nc, T, L) :: ms).take 12) (im' := im) (tp' := tp) (ft' := ft) (fun M => rfl) h ?_ ?_ (fun x hx => by rw [c4 x (by omega) (by omega) (by omega) (by omega) (by omega), b5 x (by omega) (by omega), a3 x (by omega) (by omega)]) (h.2.2.rem.up ⟨?_, ?_, ?_, ?_⟩) (fun M' hm => ?_)
    · have hwi : f_X10_needsWithin 20000 (Int32.ofNat m) 1 100 M = some (.inl 0, M) := c_nI (lo := 1) (m := 100) hm1 (by omega) (by omega)
      simp only [f_X10_courses, hwi, bnx, a1, bnd, b1]
      exact c1
    · refine a2.up (A' := (nd, nc, (sBys K.2 0 nc m (T, clr (M1 41), 0, L)).1, (sBys K.2 0 nc m (T, clr (M1 41), 0, L)).2.2.2)) c2 c3 (fun x hx h1 h2 h3 h4 => ?_) (fun j9 _ => by rw [c4 0 (by omega) (by omega) (by omega) (by omega) (by omega), b5 0 (by omega) (by omega)]) ?_
      · have : x ≠ 39 ∧ x ≠ 40 ∧ x ≠ 41 := by unfold sc9 at h4; omega
        rw [c4 x h1 h2 h3 (by omega) (by omega), b5 x (by omega) (by omega)]
      · rw [slc_ex (M := M1) (fun i hi => by rw [c4 _ (by omega) (by omega) (by omega) (by omega) (by omega), b5 _ (by omega) (by omega)])]; exact a2.2.2.2.2.2.2.2
    · have h9 := lg_bys hO m (T, clr (M1 41), 0, L) M hR h.2.1.2.1.1 h.2.2.2.1.1
      rw [h.2.1.2.2.2.2.2.2] at h9
      exact h9
    · obtain ⟨k, hk, e⟩ := h.2.2.2.1.2.1
      exact ⟨k, hk, by show (sBys K.2 0 nc m (T, clr (M1 41), 0, L)).1 0 2 = _; rw [sBys_n (by decide) (by decide) (by decide) (by decide)]; exact e⟩
    · have h9 := hz_bys hO m (T, clr (M1 41), 0, L) M hR h.2.1.2.1.1 h.2.2.2.1.2.2.1
      rw [h.2.1.2.2.2.2.2.2] at h9
      exact h9
    · obtain ⟨q, hq, e⟩ := h.2.2.2.1.2.2.2
      exact ⟨q, hq, by show (sBys K.2 0 nc m (T, clr (M1 41), 0, L)).1 0 10 = _; rw [sBys_n (by decide) (by decide) (by decide) (by decide)]; exact e⟩
    · obtain ⟨M4, d1, d2, d3, d4, d5⟩ := m_remember (hm.th (c := 0)) h.1.2.2.2.1.1
      have hR4 : RW nd nc T L (M4 209) := by rw [d3]; exact mW hm
      obtain ⟨M5, e1, e2, e3⟩ := m_goesOn_b (nd := nd) (nc := nc) (m := m) hO (by omega) 20000 m 0 0 (T, clr (M1 41), 0, L) M4 hR4 d2.2.1.1 (by omega) (by omega)
      rw [d2.2.2.2.2.2.2] at e1 e2
      have hin : f_X11_in 20000 (Int32.ofNat m) 1 100 = fun M => some (1, M) := by funext M9; exact m_in (lo := 1) (m := 100) hm1 (by omega) (by omega)
      have hgo : f_X11_goesOn 20000 (Int32.ofNat m) 0 M4 = some (sSumB K.2 0 nc m (T, clr (M1 41), 0, L) 0, M5) := e1
      refine ⟨M5, ?_, d2.up (A' := (nd, nc, (sBys K.2 0 nc m (T, clr (M1 41), 0, L)).1, (sBys K.2 0 nc m (T, clr (M1 41), 0, L)).2.2.2)) hO e2 e3.1 e3.2.1 (e3.2.2 _ (by decide) (by decide)) (e3.2.2 _ (by decide) (by decide)) (e3.2.2 _ (by decide) (by decide)) (fun j _ => by rw [e3.2.2 208 (by decide) (by decide)]), fun x hx => by rw [e3.2.2 x (by omega) (by omega), d5 x (by omega) (by omega), wr_nrow (by omega)], by rw [e3.2.2 208 (by decide) (by decide), d4 0 (by decide), wr_eq]⟩
      simp only [f_X11_courses, f_X11_courses_21, lt, hin, bnd, show ¬ (1 : Int32) = 0 from by decide, if_false, m_th0, if_true, d1, hgo]
  · refine Kx (F := fun M => f_X10_courses 20000 v1 M) (e := "java/lang/IllegalArgumentException") (code := 1) (M1 := M) (fun M => rfl) h ?_ hz (fun M => by simp) (by decide) (fun M' hm => ⟨wr (wr M' 208 0 0) 208 0 1, ?_, mQ.t208.trans mQ.t208, wr_eq⟩)
    · have hwi : f_X10_needsWithin 20000 v1 1 100 M = some (.inr "java/lang/IllegalArgumentException", M) := c_nIx (lo := 1) (m := 100) hb (by omega)
      simp only [f_X10_courses, hwi, bnx]
    · have hin : f_X11_in 20000 v1 1 100 = fun M => some (0, M) := by funext M9; exact m_inx (lo := 1) (m := 100) hb (by omega)
      simp only [f_X11_courses, f_X11_courses_21, lt, hin, bnd, if_true, m_th1, show ¬ (1 : Int32) = 0 from by decide, if_false]
/-! Undone. -/
section UN
variable {A A' : TbS} {K : LwS} {ms : List TbS} {im : Option (TbS × LwS)} {tp : List Nat} {ft : Int32} {M : Mm}
theorem c_undo0 (h : cI A K [] im tp ft M) : f_X10_undo 20000 M = some (0, M) := by
  unfold f_X10_undo lt
  rw [h.2.2.2.1.2.1]
  simp
theorem c_undo {B : TbS} (h : cI A K (B :: ms) im tp ft M) (ht : tz A.2.2.1) : ∃ M1, f_X10_undo 20000 M = some (1, M1) ∧ cI B K ms im tp ft M1 ∧ ∀ x, 208 ≤ x → M1 x = M x := by
  obtain ⟨a1, a2, ⟨a3, a4⟩, ⟨b1, b2, b3, nm, b4, b5, b6⟩, a6, a7, a8, a9⟩ := h
  have hl : ms.length + 1 ≤ 12 := b1
  have e1 : (Int32.ofNat nm + 12 - 1) - (Int32.ofNat nm + 12 - 1) / 12 * 12 = Int32.ofNat ((nm + 11) % 12) := by
    rw [show Int32.ofNat nm + 12 - 1 = Int32.ofNat (nm + 11) from by
      rw [show Int32.ofNat (nm + 11) = Int32.ofNat nm + 11 from (i32_addN nm 11).symm]; grind]
    exact i32_remN (m := 12) (by omega) (by omega)
  have h12 : (nm + 11) % 12 < 12 := Nat.mod_lt _ (by decide)
  obtain ⟨c0, c00⟩ := b6 0 (by simp)
  rw [List.getElem_cons_zero] at c0 c00
  rw [show (nm + 11 - 0) % 12 = (nm + 11) % 12 from by omega] at c0 c00
  obtain ⟨M1, c1, c2, c3, c4⟩ := c_returns (N := 20000) (a := 12 * ((nm + 11) % 12) + 64) (L := B.2.2.2) (M := M) (by omega) (by rw [show 12 * ((nm + 11) % 12) + 64 + 1 = 65 + 12 * ((nm + 11) % 12) from by omega]; exact b3 _ h12) (by rw [a1]; exact ht) (by rw [show 12 * ((nm + 11) % 12) + 64 + 10 = 74 + 12 * ((nm + 11) % 12) from by omega]; exact c00)
  have h00 : M1 0 = M 0 := c4 0 (by omega) (by omega) (by omega)
  unfold f_X10_undo
  simp only [lt]
  rw [b5, e1, b2, if_neg (show ¬ Int32.ofNat (B :: ms).length ≤ 0 from i32_nle (k := 0) (by simp) (by rw [List.length_cons]; omega)), if_neg (i32_nn (by omega))]
  simp only [grd, inb_ofNat h12 (show (nm + 11) % 12 < 2147483648 by omega), if_true, i32_clampN (show (nm + 11) % 12 < 2147483648 by omega), c1, bnd]
  rw [wr_nk (show (10 : Nat) ≠ 9 by decide), h00, b2, show Int32.ofNat (B :: ms).length - 1 = Int32.ofNat ms.length from by
    rw [List.length_cons, ← i32_succ]; grind]
  have h0 : ∀ v v' : Int32, ∀ x, x ≠ 0 → wr (wr M1 0 9 v) 0 10 v' x = M1 x := fun v v' x hx => by rw [wr_nrow hx, wr_nrow hx]
  have hx : ∀ v v' : Int32, ∀ x, x ≠ 0 → (x < 7 ∨ 15 < x) → x ≠ 37 → x ≠ 38 → wr (wr M1 0 9 v) 0 10 v' x = M x := fun v v' x h1 h2 h3 h4 => by rw [h0 _ _ x h1, c4 x h2 h3 h4]
  refine ⟨_, rfl, ⟨?_, ?_, ⟨?_, ?_⟩, ⟨?_, wr_eq, ?_, (nm + 11) % 12, h12, ?_, ?_⟩, ?_, ?_, ?_, ?_⟩, fun x h9 => hx _ _ x (by omega) (by omega) (by omega) (by omega)⟩
  · rw [slc_ex (M := M1) (fun i hi => h0 _ _ _ (by omega)), c2, show 12 * ((nm + 11) % 12) + 64 + 1 = 65 + 12 * ((nm + 11) % 12) from by omega]; exact c0
  · exact c3.frame (h0 _ _ _ (by omega)) (h0 _ _ _ (by omega))
  · exact a3.frame (fun i hi => hx _ _ _ (by omega) (by omega) (by omega) (by omega))
  · rw [hx _ _ 25 (by omega) (by omega) (by omega) (by omega)]; exact a4
  · omega
  · intro j hj
    rw [slc_ex (M := M) (fun i hi => hx _ _ _ (by omega) (by omega) (by omega) (by omega))]; exact b3 j hj
  · rw [wr_nk (by decide), wr_eq]
  · intro i hi
    obtain ⟨d1, d2⟩ := b6 (i + 1) (by rw [List.length_cons]; omega)
    rw [List.getElem_cons_succ] at d1 d2
    rw [show (nm + 11 - (i + 1)) % 12 = ((nm + 11) % 12 + 11 - i) % 12 from by omega] at d1 d2
    have h13 : ((nm + 11) % 12 + 11 - i) % 12 < 12 := Nat.mod_lt _ (by decide)
    refine ⟨?_, d2.frame (hx _ _ _ (by omega) (by omega) (by omega) (by omega)) (hx _ _ _ (by omega) (by omega) (by omega) (by omega))⟩
    rw [slc_ex (M := M) (fun i hi => hx _ _ _ (by omega) (by omega) (by omega) (by omega))]; exact d1
  · exact a6.fr (fun x h1 h2 => hx _ _ _ (by omega) (by omega) (by omega) (by omega)) (by rw [wr_nk (by decide), wr_nk (by decide), h00])
  · exact a7.fr (hx _ _ _ (by omega) (by omega) (by omega) (by omega)) (hx _ _ _ (by omega) (by omega) (by omega) (by omega))
  · rw [wr_nk (by decide), wr_nk (by decide), h00]; exact a8
  · rw [slc_ex (M := M) (fun i hi => hx _ _ _ (by omega) (by omega) (by omega) (by omega))]; exact a9
theorem m_undo_26 {r : Nat} (hr : r < 12) : ∀ (n k i : Nat) (M : Mm), M 208 7 = Int32.ofNat r → i + k = 409 → k < n → ∃ M', f_X11_undo_26 20000 n (Int32.ofNat i) M = some (1, M') ∧ (∀ j, M' 209 j = if i ≤ j ∧ j < 409 then M 213 (409 * r + j) else M 209 j) ∧ ∀ x, x ≠ 209 → M' x = M x := by
  intro n
  induction n with
  | zero => intro k i M _ _ h; omega
  | succ n ih =>
    intro k i M hM hik hk
    rw [f_X11_undo_26]
    match k with
    | 0 =>
      rw [if_pos (show (409 : Int32) ≤ Int32.ofNat i from i32_len (k := 409) (by omega) (by omega))]
      exact ⟨M, rfl, fun j => by rw [if_neg (by omega)], fun _ _ => rfl⟩
    | k + 1 =>
      have e1 : (409 : Int32) * Int32.ofNat r + Int32.ofNat i = Int32.ofNat (409 * r + i) := by
        show Int32.ofNat 409 * Int32.ofNat r + _ = _
        rw [i32_mulN, i32_addN]
      rw [if_neg (show ¬ (409 : Int32) ≤ Int32.ofNat i from i32_nle (n := 409) (by omega) (by omega)), hM, e1]
      simp only [grd, lt, inb_ofNat (show i < 2107 by omega) (by omega), inb_ofNat (show 409 * r + i < 4908 by omega) (by omega), if_true, i32_clampN (show i < 2147483648 by omega), i32_clampN (show 409 * r + i < 2147483648 by omega), i32_succ]
      obtain ⟨M', a1, a2, a3⟩ := ih k (i + 1) (wr M 209 i (M 213 (409 * r + i))) (by rw [wr_ne (by decide)]; exact hM) (by omega) (by omega)
      refine ⟨M', a1, fun j => ?_, fun x hx => by rw [a3 x hx, wr_nrow hx]⟩
      rw [a2 j, wr_nrow (show (213 : Nat) ≠ 209 by decide)]
      by_cases e : j = i
      · subst e; rw [if_neg (by omega), if_pos (by omega), wr_eq]
      · rw [wr_nk e]
        by_cases e2 : i + 1 ≤ j ∧ j < 409
        · rw [if_pos e2, if_pos (by omega)]
        · rw [if_neg e2, if_neg (by omega)]
theorem m_undo {B : TbS} (h : mI A K (B :: ms) im tp ft M) (hO : lwOK K.2) (hl : ms.length < 12) : ∃ M2, f_X11_undo 20000 M = some (1, M2) ∧ mI B K ms im tp ft M2 ∧ (∀ x, (x < 208 ∨ 218 < x) → M2 x = M x) ∧ M2 208 0 = 0 := by
  obtain ⟨a1, ⟨a2, a3⟩, ⟨b1, b2⟩, a5, a6, a7, a8⟩ := h
  unfold f_X11_undo lt
  have e7 : (wr M 208 0 0) 208 7 = Int32.ofNat (ms.length + 1) := by rw [wr_nk (by decide)]; exact b1
  dsimp only
  rw [e7, if_neg (show ¬ Int32.ofNat (ms.length + 1) = 0 from fun h9 => by have := (i32_eqN (b := 0) (by omega) (by omega)).mp h9; omega), show Int32.ofNat (ms.length + 1) - 1 = Int32.ofNat ms.length from by
    rw [← i32_succ]; grind]
  obtain ⟨M', c1, c2, c3⟩ := m_undo_26 hl 20000 409 0 (wr (wr M 208 0 0) 208 7 (Int32.ofNat ms.length)) wr_eq (by omega) (by omega)
  have hx : ∀ x, x ≠ 209 → x ≠ 208 → M' x = M x := fun x h1 h2 => by rw [c3 x h1, wr_nrow h2, wr_nrow h2]
  have h8 : ∀ j, j ≠ 7 → j ≠ 0 → M' 208 j = M 208 j := fun j h1 h2 => by rw [c3 208 (by decide), wr_nk h1, wr_nk h2]
  obtain ⟨d1, d2⟩ := b2 0 (by simp)
  rw [List.getElem_cons_zero] at d1
  have hlen : (B :: ms).length - 1 - 0 = ms.length := by rw [List.length_cons]; omega
  rw [hlen] at d1 d2
  have hw : ∀ j, j < 409 → M' 209 j = M 213 (409 * ms.length + j) := fun j hj => by
    rw [c2 j, if_pos (by omega), wr_nrow (by decide), wr_nrow (by decide)]
  have hw2 : ∀ j, 409 ≤ j → M' 209 j = M 209 j := fun j hj => by
    rw [c2 j, if_neg (by omega), wr_nrow (by decide), wr_nrow (by decide)]
  have h3 : M' 209 3 = M 209 3 := by rw [hw 3 (by decide), d2, a3]
  refine ⟨M', c1, ⟨RW.cg d1 hw, ⟨a2.frame h3 (fun j x _ => hw2 j x) hO, h3.trans a3⟩, ⟨?_, fun i hi => ?_⟩, a5.fr (h8 6 (by decide) (by decide)) (hx 210 (by decide) (by decide)), a6.fr (h8 9 (by decide) (by decide)) (hx 214 (by decide) (by decide)), by rw [h8 14 (by decide) (by decide)]; exact a7, by rw [h8 18 (by decide) (by decide)]; exact a8⟩, fun x h9 => hx x (by omega) (by omega), by rw [c3 208 (by decide), wr_nk (by decide), wr_eq]⟩
  · rw [c3 208 (by decide), wr_eq]
  · obtain ⟨f1, f2⟩ := b2 (i + 1) (by rw [List.length_cons]; omega)
    rw [List.getElem_cons_succ] at f1
    rw [show (B :: ms).length - 1 - (i + 1) = ms.length - 1 - i from by rw [List.length_cons]; omega] at f1 f2
    rw [hx 213 (by decide) (by decide)]
    exact ⟨f1, f2⟩
end UN
theorem P_undo {M : Mm} (h : InvM M) : Cd (fun M => f_X10_undo 20000 M) (fun M => f_X11_undo 20000 M) M := by
  obtain ⟨nd, nc, T, L, K, ms, im, tp, ft, h, hR, hs, hz, h70, h71, hnd, hnc⟩ := Ix h
  match ms with
  | [] =>
    refine Cr (r := 0) (M1 := M) h (c_undo0 h.1) hz (fun M' hm => ⟨wr M' 208 0 0, ?_, mQ.t208⟩)
    have e7 : (wr M' 208 0 0) 208 7 = 0 := by rw [wr_nk (by decide)]; exact hm.2.2.1.1
    simp only [f_X11_undo, lt, e7, if_true]
  | B :: ms =>
    obtain ⟨M1, a1, a2, a3⟩ := c_undo h.1 hR.2.2.2.2.2.2.2
    have hl : (B :: ms).length ≤ 12 := h.1.2.2.2.1.1
    rw [List.length_cons] at hl
    exact Ca h a1 a2 a3 ⟨h.2.2.1, h.2.2.2.2.1 B List.mem_cons_self, fun C hC => h.2.2.2.2.1 C (List.mem_cons_of_mem _ hC), h.2.2.2.2.2⟩ ⟨0, fun M' hm => m_undo hm h.2.2.1 (by omega)⟩
