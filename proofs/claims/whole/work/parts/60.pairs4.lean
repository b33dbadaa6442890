/-! Pairs: meets, least, trial, span. -/
section PM
variable {nd nc : Nat} {T : Tb} {L : List Row} {K : LwS} {ms : List TbS} {im : Option (TbS × LwS)} {tp : List Nat} {ft : Int32}
theorem m_meetsU (N : Nat) (v1 : Int32) (M M3 : Mm) (h1 : f_X11_noDiner N v1 (wr M 208 0 0) = some (0, wr M 208 0 0)) (h2 : f_X11_keepsAll N (wr M 208 0 0) = some (0, M3)) : f_X11_meets N v1 M = f_X11_meets_28 N N v1 0 0 M3 := by
  unfold f_X11_meets
  simp only [lt, h1, bnd, m_th0, if_true, h2]
theorem m_meetsX (N : Nat) (v1 : Int32) (M : Mm) (h1 : f_X11_noDiner N v1 (wr M 208 0 0) = some (1, wr M 208 0 0)) : f_X11_meets N v1 M = some (0, wr (wr M 208 0 0) 208 0 1) := by
  unfold f_X11_meets
  simp only [lt, h1, bnd, m_th1, show ¬ (1 : Int32) = 0 from by decide, if_false]
theorem c_meetsU (N : Nat) (v1 s : Int32) (M M1 : Mm) (h1 : f_X10_needsDiner N v1 M = some (.inl 0, M)) (h2 : f_X10_looksAhead N M = some (0, M1)) (h3 : f_X6_seatOf N 7 v1 M1 = some (s, M1)) : f_X10_meets N v1 M = f_X10_meets_23 N N s 0 0 M1 := by
  unfold f_X10_meets
  simp only [h1, h2, h3, bnx, bnd]
theorem c_meets0 {W : Lw} {s : Int32} {N : Nat} (hN : 12 < N) (hO : lwOK W) (M : Mm) (e : Es) (h1 : gdE nd nc W (M 39 2) e) (h2 : cLaw 25 W M) (h3 : slc 16 M = e.1) (h4 : M 41 = e.2.1) : ∃ M', f_X10_meets_23 20000 N s 0 0 M = some (.inl (sMeet W (M 39 2) nc s 12 0 e), M') ∧ tz (slc 16 M') ∧ ∀ x, (x < 16 ∨ 24 < x) → x ≠ 40 → x ≠ 41 → M' x = M x := c_meets_23 hO N 12 0 0 M e h1 h2 h3 h4 (by omega) hN
theorem m_meets0 {W : Lw} {br : Int32} {d s N : Nat} {M0 : Mm} (hN : 12 < N) (hO : lwOK W) (hs : s < 10) (hd : d < nd) (e : Es) (M : Mm) (h1 : RW nd nc e.1 e.2.2.2 (M 209)) (h2 : wLaw W M) (h3 : kBk M M0) (h4 : e.1 1 s = Int32.ofNat d) (h5 : M 208 18 = br) : ∃ M', f_X11_meets_28 20000 N (Int32.ofNat d) 0 0 M = some (sMeet W br nc (Int32.ofNat s) 12 0 e, M') ∧ M' 209 = M0 209 ∧ ∀ x, x ≠ 209 → x ≠ 216 → M' x = M x := m_meets_28 hO hs hd N 12 0 0 e M h1 h2 h3 h4 h5 (by omega) hN
theorem P_meets {M : Mm} (h : InvM M) (v1 : Int32) : Kd (fun M => f_L_meets 20000 v1 M) (fun M => f_X11_meets 20000 v1 M) M := by
  obtain ⟨nd, nc, T, L, K, ms, im, tp, ft, h, hR, hs, hz, h70, h71, hnd, hnc⟩ := Ix h
  have hO : lwOK K.2 := h.2.2.1
  rcases i32_rng v1 (n := nd) (by omega) with ⟨d, hd, rfl⟩ | hb
  · obtain ⟨s, hs10, ews, ets⟩ := hR.2.2.1.1 d hd
    obtain ⟨M1, a1, a2, a3, a4, a5, a6⟩ := c_looksAhead (M := M) h.1.2.2.2.2.2.2.2 (by rw [hs]; exact hR.2.2.2.2.2.2.2)
    have hw : rSeat nd (slc 7 M1) (M 209) := by rw [slc_ex (M := M) (fun i hi => a6 _ (by omega) (by omega) (by omega)), hs]; exact hR.2.2.1
    have hse : f_X6_seatOf 20000 7 (Int32.ofNat d) M1 = some (Int32.ofNat s, M1) := by rw [c_seatOf hnd hw hd, ews]
    obtain ⟨M2, b1, b2, b3⟩ := c_meets0 (nd := nd) (nc := nc) (W := K.2) (s := Int32.ofNat s) (N := 20000) (by decide) hO M1 (T, M1 41, 0, L) (by rw [a4]; exact gd_I h.2.1 _ _) (h.1.2.2.1.1.frame (fun i hi => a6 _ (by omega) (by omega) (by omega))) (a2.trans hs) rfl
    rw [a4] at b1
    refine Kr (F := fun M => f_X10_meets 20000 (Int32.ofNat d) M) (r := sMeet K.2 0 nc (Int32.ofNat s) 12 0 (T, M1 41, 0, L)) (M1 := M2) (fun M => rfl) h ?_ (cQs (fun x h1 h2 h3 h4 => by rw [b3 x h1 h3 h4, a6 x h1 h2 h4]) b2) (fun M' hm => ?_)
    · show f_X10_meets 20000 (Int32.ofNat d) M = _
      rw [c_meetsU 20000 _ _ M M1 (c_nD h70 hd hnd) a1 hse]
      exact b1
    · obtain ⟨M3, c1, c2, c3⟩ := m_keepsAll (M := wr M' 208 0 0)
      have e9 : M3 209 = (wr M' 208 0 0) 209 := c3 209 (by decide)
      obtain ⟨M4, d1, d2, d3⟩ := m_meets0 (nd := nd) (nc := nc) (W := K.2) (br := 0) (N := 20000) (M0 := wr M' 208 0 0) (by decide) hO hs10 hd (T, M1 41, 0, L) M3 (by rw [e9]; exact mW hm) ((mWl hm).cg e9) ⟨c2, fun j _ => by rw [e9]⟩ ets (by rw [c3 208 (by decide), wr_nk (by decide)]; exact hm.2.2.2.2.2.2)
      refine ⟨M4, ?_, (mQs d2 (fun x h1 h2 _ _ => ?_)).trans mQ.t208, by rw [d3 208 (by decide) (by decide), c3 208 (by decide), wr_eq]⟩
      · show f_X11_meets 20000 (Int32.ofNat d) M' = _
        rw [m_meetsU 20000 _ M' M3 (m_noD (mW hm).1.2.2.2.2.1 hd hnd) c1]
        exact d1
      · by_cases q : x = 209
        · subst q; exact d2
        · rw [d3 x q h2, c3 x h1]
  · refine Kx (F := fun M => f_X10_meets 20000 v1 M) (e := "java/lang/IndexOutOfBoundsException") (code := 1) (M1 := M) (fun M => rfl) h ?_ hz (fun M => by simp) (by decide) (fun M' hm => ⟨wr (wr M' 208 0 0) 208 0 1, ?_, mQ.t208.trans mQ.t208, wr_eq⟩)
    · simp only [f_X10_meets, c_nDx h70 hb, bnx]
    · exact m_meetsX 20000 v1 M' (m_noDx (mW hm).1.2.2.2.2.1 hb hnd)
theorem P_least {M : Mm} (h : InvM M) (v1 : Int32) : Kd (fun M => f_L_least 20000 v1 M) (fun M => f_X11_least 20000 v1 M) M := by
  obtain ⟨nd, nc, T, L, K, ms, im, tp, ft, h, hR, hs, hz, h70, h71, hnd, hnc⟩ := Ix h
  have hO : lwOK K.2 := h.2.2.1
  rcases i32_rng v1 (n := 61) (by omega) with ⟨m, hm60, rfl⟩ | hb2
  · obtain ⟨M1, a1, a2, a3, a4, a5, a6⟩ := c_looksAhead (M := M) h.1.2.2.2.2.2.2.2 (by rw [hs]; exact hR.2.2.2.2.2.2.2)
    have hg : gdE nd nc K.2 0 (T, M1 41, 0, L) := gd_I h.2.1 _ _
    have hW1 : cLaw 25 K.2 M1 := h.1.2.2.1.1.frame (fun i hi => a6 _ (by omega) (by omega) (by omega))
    obtain ⟨M2, b1, b2, b3, b4, b5⟩ := c_ahead (e := (T, M1 41, 0, L)) hnc hW1 (a2.trans hs) rfl hR.1.2.2.2.1
    rw [a4] at b1 b2 b3
    have e39 : M2 39 2 = 0 := by rw [b5 39 (by omega) (by omega) (by omega)]; exact a4
    obtain ⟨M3, c1, c2, c3⟩ := c_least_33 (nd := nd) (nc := nc) (W := K.2) (m := m) (by omega) hO 20000 m 1 0 (sCalm K.2 0 nc (T, M1 41, 0, L)).2.2.1 M2 (sCalm K.2 0 nc (T, M1 41, 0, L)) (by rw [e39]; exact gd_calm hO hg) (hW1.frame (fun i hi => b5 _ (by omega) (by omega) (by omega))) b2 b3 (by omega) (by omega)
    rw [e39] at c1
    obtain ⟨s9, hs9, es9, -⟩ := calm_p hO hg
    have hL : sLea K.2 0 nc (m + 1) 0 0 1000000 (T, M1 41, 0, L) = sLea K.2 0 nc m 1 0 (sCalm K.2 0 nc (T, M1 41, 0, L)).2.2.1 (sCalm K.2 0 nc (T, M1 41, 0, L)) := by
      rw [sLea, if_neg (show ¬ (1000000 : Int32) ≤ (sCalm K.2 0 nc (T, M1 41, 0, L)).2.2.1 from by rw [es9]; exact i32_nle (n := 1000000) (by omega) (by omega))]; rfl
    refine Kr (F := fun M => f_X10_least 20000 (Int32.ofNat m) M) (r := sLea K.2 0 nc (m + 1) 0 0 1000000 (T, M1 41, 0, L)) (M1 := M3) (fun M => rfl) h ?_ (cQs (fun x h1 h2 h3 h4 => by rw [c3 x h1 h3 h4, b5 x h1 h3 h4, a6 x h1 h2 h4]) c2) (fun M' hm => ?_)
    · have hwi : f_X10_needsWithin 20000 (Int32.ofNat m) 0 60 M = some (.inl 0, M) := c_nI (lo := 0) (m := 60) (by omega) (by omega) (by omega)
      rw [hL]
      simp only [f_X10_least, bnx, hwi, a1, bnd, b1]
      exact c1
    · obtain ⟨M4, d1, d2, d3⟩ := m_keepsAll (M := wr M' 208 0 0)
      have e9 : M4 209 = (wr M' 208 0 0) 209 := d3 209 (by decide)
      obtain ⟨M5, f1, f2, f3⟩ := m_least_43 (nd := nd) (nc := nc) (W := K.2) (br := 0) (m := m) (M0 := wr M' 208 0 0) (by omega) hO 20000 (m + 1) 0 0 1000000 (T, M1 41, 0, L) M4 (by rw [e9]; exact mW hm) ((mWl hm).cg e9) ⟨d2, fun j _ => by rw [e9]⟩ (by rw [d3 208 (by decide), wr_nk (by decide)]; exact hm.2.2.2.2.2.2) (by omega) (by omega)
      have hin : f_X11_in 20000 (Int32.ofNat m) 0 60 = fun M => some (1, M) := by funext M9; exact m_in (lo := 0) (m := 60) (by omega) (by omega) (by omega)
      refine ⟨M5, ?_, (mQs f2 (fun x h1 h2 _ _ => ?_)).trans mQ.t208, by rw [f3 208 (by decide) (by decide), d3 208 (by decide), wr_eq]⟩
      · simp only [f_X11_least, f_X11_least_21, lt, hin, bnd, show ¬ (1 : Int32) = 0 from by decide, if_false, m_th0, if_true, d1]
        exact f1
      · by_cases q : x = 209
        · subst q; exact f2
        · rw [f3 x q h2, d3 x h1]
  · refine Kx (F := fun M => f_X10_least 20000 v1 M) (e := "java/lang/IllegalArgumentException") (code := 1) (M1 := M) (fun M => rfl) h ?_ hz (fun M => by simp) (by decide) (fun M' hm => ⟨wr (wr M' 208 0 0) 208 0 1, ?_, mQ.t208.trans mQ.t208, wr_eq⟩)
    · have hwi : f_X10_needsWithin 20000 v1 0 60 M = some (.inr "java/lang/IllegalArgumentException", M) := c_nIx (lo := 0) (m := 60) hb2 (by omega)
      simp only [f_X10_least, bnx, hwi]
    · have hin : f_X11_in 20000 v1 0 60 = fun M => some (0, M) := by funext M9; exact m_inx (lo := 0) (m := 60) hb2 (by omega)
      simp only [f_X11_least, f_X11_least_21, lt, hin, bnd, if_true, m_th1, show ¬ (1 : Int32) = 0 from by decide, if_false]
/-! trials -/
theorem gd_by {W : Lw} {br : Int32} {e : Es} (hO : lwOK W) (h : gdE nd nc W br e) : gdE nd nc W br (sCourse W br nc e) := by
  obtain ⟨M, h1, h2, h3⟩ := h
  obtain ⟨M1, a1, a2, a3⟩ := m_byc (e := e) hO h1 h2
  rw [h3] at a2
  exact ⟨M1, a2, a3.law h2 hO, by rw [a3.2.2 208 (by decide) (by decide)]; exact h3⟩
theorem gd_bys {W : Lw} {br : Int32} (hO : lwOK W) : ∀ (k : Nat) (e : Es), gdE nd nc W br e → gdE nd nc W br (sBys W br nc k e) := by
  intro k
  induction k with
  | zero => intro e h; exact h
  | succ k ih => intro e h; exact ih _ (gd_by hO h)
theorem gd_sd {W : Lw} {br sd : Int32} {tk : Nat → Int32} {v : Int32} (hO : lwOK W) (h : gdE nd nc W br (T, tk, v, L)) : gdE nd nc W br (wr T 0 9 sd, tk, v, L) := by
  obtain ⟨M, h1, h2, h3⟩ := h
  refine ⟨wr M 209 11 sd, ?_, h2.frame (wr_nk (by decide)) (fun j x _ => wr_nk (by omega)) hO, by rw [wr_ne (by decide)]; exact h3⟩
  rw [wr_row]
  exact RW_sc (j := 9) h1 (by omega) ⟨fun h => by omega, fun h => by omega, fun h => by omega⟩
theorem P_trial {M : Mm} (h : InvM M) (v1 v2 : Int32) : Kd (fun M => f_L_trial 20000 v1 v2 M) (fun M => f_X11_trial 20000 v1 v2 M) M := by
  obtain ⟨nd, nc, T, L, K, ms, im, tp, ft, h, hR, hs, hz, h70, h71, hnd, hnc⟩ := Ix h
  have hO : lwOK K.2 := h.2.2.1
  rcases i32_rng v1 (n := 201) (by omega) with ⟨m, hm2, rfl⟩ | hb2
  · obtain ⟨M1, a1, a2, a4⟩ := c_tries (nc := nc) (m := m) (W := K.2) (sd := T 0 9) (by omega) hnc h.1.2.2.1.1 h.1.2.2.2.2.2.2.2 (by rw [hs]; exact hR.2.2.2.2.2.2.2) (by rw [hs]; exact whoOK_RW hR) (by rw [hs]; exact hR.1.2.2.2.1) 0 L
    rw [hs, ← wr_same (M := T) (a := 0) (k := 9) rfl] at a2
    have hg : gdE nd nc K.2 0 (sBys K.2 0 nc m (T, clr (M 41), 0, L)) := gd_bys hO m _ (gd_I h.2.1 _ _)
    have h161 : M1 16 1 = Int32.ofNat nc := by
      rw [show M1 16 1 = (sBys K.2 0 nc m (T, clr (M 41), 0, L)).1 0 1 from slE a2 (i := 0) (by decide), sBys_n (by decide) (by decide) (by decide) (by decide)]; exact hR.1.2.2.2.1
    refine Kr (F := fun M => f_X10_trial 20000 (Int32.ofNat m) v2 M) (r := if v2 = 0 then (sBys K.2 0 nc m (T, clr (M 41), 0, L)).1 0 8 else sHeld nc (sBys K.2 0 nc m (T, clr (M 41), 0, L)).1) (M1 := M1) (fun M => rfl) h ?_ (cQs a4 (by rw [a2]; exact gd_tz hg)) (fun M' hm => ?_)
    · have hwi : f_X10_needsWithin 20000 (Int32.ofNat m) 0 200 M = some (.inl 0, M) := c_nI (lo := 0) (m := 200) (by omega) (by omega) (by omega)
      simp only [f_X10_trial, bnx, hwi, show M 7 9 = T 0 9 from slE hs (i := 0) (by decide), a1, bnd, c_held hnc h161, a2]
      rw [show M1 16 8 = (sBys K.2 0 nc m (T, clr (M 41), 0, L)).1 0 8 from slE a2 (i := 0) (by decide)]
      split <;> rfl
    · obtain ⟨M3, c1, c2, c3⟩ := m_keepsAll (M := wr M' 208 0 0)
      have e9 : M3 209 = (wr M' 208 0 0) 209 := c3 209 (by decide)
      obtain ⟨M4, d1, d2, d3⟩ := m_goesOn_b (nd := nd) (nc := nc) (m := m) hO (by omega) 20000 m 0 0 (T, clr (M 41), 0, L) M3 (by rw [e9]; exact mW hm) ((mWl hm).cg e9) (by omega) (by omega)
      rw [show M3 208 18 = 0 from by rw [c3 208 (by decide), wr_nk (by decide)]; exact hm.2.2.2.2.2.2] at d1 d2
      obtain ⟨M5, f1, f2, f3⟩ := m_bringsBack (M0 := wr M' 208 0 0) (M := M4) (fun j hj => by rw [d3.2.2 212 (by decide) (by decide)]; exact c2 j hj) (fun j hj => by rw [d3.2.1 j hj, e9])
      have hgo : f_X11_goesOn 20000 (Int32.ofNat m) 0 M3 = some (sSumB K.2 0 nc m (T, clr (M 41), 0, L) 0, M4) := d1
      refine ⟨M5, ?_, (mQs f2 (fun x h1 h2 _ _ => ?_)).trans mQ.t208, by rw [f3 208 (by decide), d3.2.2 208 (by decide) (by decide), c3 208 (by decide), wr_eq]⟩
      · simp only [f_X11_trial, f_X11_trial_48, lt, bnd, m_noA hm2, m_th0, if_true, c1, hgo, m_heldOnes d2, f1, grd, show inb (9 : Int32) 2107 = true from by decide, show (9 : Int32).toNatClampNeg = 9 from by decide, d2.2.1.2.2.2.2.2.1]
        split <;> rfl
      · by_cases q : x = 209
        · subst q; exact f2
        · rw [f3 x q, d3.2.2 x q h2, c3 x h1]
  · refine Kx (F := fun M => f_X10_trial 20000 v1 v2 M) (e := "java/lang/IllegalArgumentException") (code := 1) (M1 := M) (fun M => rfl) h ?_ hz (fun M => by simp) (by decide) (fun M' hm => ⟨wr (wr M' 208 0 0) 208 0 1, ?_, mQ.t208.trans mQ.t208, wr_eq⟩)
    · have hwi : f_X10_needsWithin 20000 v1 0 200 M = some (.inr "java/lang/IllegalArgumentException", M) := c_nIx (lo := 0) (m := 200) hb2 (by omega)
      simp only [f_X10_trial, bnx, hwi]
    · simp only [f_X11_trial, lt, bnd, m_noAx hb2, m_th1, show ¬ (1 : Int32) = 0 from by decide, if_false]
/-! spans -/
def spl (W : Lw) (nc m : Nat) (T : Tb) (L : List Row) (sd : Nat) : Int32 := (sBys W 0 nc m (wr T 0 9 (Int32.ofNat sd), (fun _ => 0), 0, L)).1 0 8
theorem bys_tk {W : Lw} {br : Int32} : ∀ (k : Nat) (e e' : Es), e.1 = e'.1 → e.2.2.2 = e'.2.2.2 → (sBys W br nc k e).1 = (sBys W br nc k e').1 := by
  have hEat : ∀ (c : Nat) (e e' : Es), e.1 = e'.1 → e.2.2.2 = e'.2.2.2 → (sEat W br c e).1 = (sEat W br c e').1 ∧ (sEat W br c e).2.2.2 = (sEat W br c e').2.2.2 := by
    intro c e e' h1 h2
    unfold sEat
    rw [h1, h2]
    split
    · exact ⟨h1, h2⟩
    · split
      · exact ⟨h1, h2⟩
      · split
        · exact ⟨h1, h2⟩
        · exact ⟨rfl, rfl⟩
  have hAll : ∀ (k i : Nat) (e e' : Es), e.1 = e'.1 → e.2.2.2 = e'.2.2.2 → (sAll W br k i e).1 = (sAll W br k i e').1 ∧ (sAll W br k i e).2.2.2 = (sAll W br k i e').2.2.2 := by
    intro k
    induction k with
    | zero => intro i e e' h1 h2; exact ⟨h1, h2⟩
    | succ k ih =>
      intro i e e' h1 h2
      obtain ⟨a1, a2⟩ := hEat i e e' h1 h2
      exact ih (i + 1) _ _ a1 a2
  intro k
  induction k with
  | zero => intro e e' h1 _; exact h1
  | succ k ih =>
    intro e e' h1 h2
    obtain ⟨a1, a2⟩ := hAll nc 0 (e.1, e.2.1, 0, e.2.2.2) (e'.1, e'.2.1, 0, e'.2.2.2) h1 h2
    exact ih _ _ (by show sPass nc _ = sPass nc _; rw [a1]) a2
theorem spl_b {W : Lw} {m sd : Nat} (hO : lwOK W) (h : gdE nd nc W 0 (T, (fun _ => 0), 0, L)) : ∃ k, k ≤ 9999 ∧ spl W nc m T L sd = Int32.ofNat k := by
  obtain ⟨M, hR, -⟩ := gd_bys hO m _ (gd_sd (sd := Int32.ofNat sd) hO h)
  exact hR.2.2.2.2.2.2.1.2.2.1
def spC (W : Lw) (nc m : Nat) (T : Tb) (L : List Row) : Nat → Nat → Int32 × Int32 → Int32 × Int32
  | 0, _, v => v
  | k + 1, sd, v => spC W nc m T L k (sd + 1) (if spl W nc m T L sd < v.1 then spl W nc m T L sd else v.1, if v.2 < spl W nc m T L sd then spl W nc m T L sd else v.2)
def spM (W : Lw) (nc m : Nat) (T : Tb) (L : List Row) (v2 : Int32) : Nat → Nat → Int32 → Int32
  | 0, _, v => v
  | k + 1, sd, v => spM W nc m T L v2 k (sd + 1) (if 0 ≤ v then (if v2 = 0 then (if spl W nc m T L sd < v then spl W nc m T L sd else v) else (if v < spl W nc m T L sd then spl W nc m T L sd else v)) else spl W nc m T L sd)
theorem c_span_19 {m : Nat} {v2 : Int32} {M0 : Mm} (hm : m ≤ 200) (hO : lwOK K.2) (h : InvS (nd, nc, T, L) K ms im tp ft M0) : ∀ (n k i : Nat) (v : Int32 × Int32) (M : Mm), cQ M M0 → i + k = 7 → k < n → ∃ M', f_X10_span_19 20000 n (Int32.ofNat m) v2 v.1 v.2 (Int32.ofNat i) M = some (.inl (if v2 = 0 then (spC K.2 nc m T L k i v).1 else (spC K.2 nc m T L k i v).2), M') ∧ cQ M' M0 := by
  have hR : RW nd nc T L (M0 209) := h.2.1.1
  have hnc := hR.1.2.1
  intro n
  induction n with
  | zero => intro k i v M _ _ h; omega
  | succ n ih =>
    intro k i v M hq hik hk
    rw [f_X10_span_19]
    match k with
    | 0 =>
      rw [if_pos (show (6 : Int32) < Int32.ofNat i from i32_ltn (k := 6) (by omega) (by omega))]
      refine ⟨M, ?_, hq⟩
      rw [spC]
      split <;> rfl
    | k + 1 =>
      rw [if_neg (show ¬ (6 : Int32) < Int32.ofNat i from i32_nlt (n := 6) (by omega) (by omega))]
      have hI := h.1.q hq
      obtain ⟨M1, a1, a2, a4⟩ := c_tries (nc := nc) (m := m) (W := K.2) (M := M) (sd := Int32.ofNat i) hm hnc hI.2.2.1.1 hI.2.2.2.2.2.2.2 (by rw [hI.1]; exact hR.2.2.2.2.2.2.2) (by rw [hI.1]; exact whoOK_RW hR) (by rw [hI.1]; exact hR.1.2.2.2.1) 0 L
      rw [hI.1] at a2
      have e8 : M1 16 8 = spl K.2 nc m T L i := by
        rw [show M1 16 8 = (sBys K.2 0 nc m (wr T 0 9 (Int32.ofNat i), clr (M 41), 0, L)).1 0 8 from slE a2 (i := 0) (by decide)]
        unfold spl
        rw [bys_tk m (wr T 0 9 (Int32.ofNat i), clr (M 41), 0, L) (wr T 0 9 (Int32.ofNat i), (fun _ => 0), 0, L) rfl rfl]
      rw [a1]
      simp only [bnd, lt, e8, i32_succ]
      have hz1 : tz (slc 16 M1) := by
        rw [a2]
        exact gd_tz (gd_bys hO m _ (gd_sd (sd := Int32.ofNat i) hO (gd_I h.2.1 (clr (M 41)) 0)))
      have hq1 : cQ M1 M0 := by
        obtain ⟨q1, q2, -⟩ := hq
        obtain ⟨p1, p2, -⟩ := cQs a4 hz1
        exact ⟨fun x hx => (p1 x hx).trans (q1 x hx), fun j hj => (p2 j hj).trans (q2 j hj), hz1⟩
      exact ih k (i + 1) (if spl K.2 nc m T L i < v.1 then spl K.2 nc m T L i else v.1, if v.2 < spl K.2 nc m T L i then spl K.2 nc m T L i else v.2) M1 hq1 (by omega) (by omega)
theorem m_span_28 {m : Nat} {v2 : Int32} {M0 : Mm} (hm : m ≤ 200) (hO : lwOK K.2) (hR0 : RW nd nc T L (M0 209)) (hW0 : wLaw K.2 M0) : ∀ (n k i : Nat) (v : Int32) (M : Mm), M 209 = M0 209 → (∀ j, j < 409 → M 212 j = M0 209 j) → M 208 18 = 0 → i + k = 7 → k < n → ∃ M', f_X11_span_28 20000 n (Int32.ofNat m) v2 v (Int32.ofNat i) M = some (spM K.2 nc m T L v2 k i v, M') ∧ M' 209 = M0 209 ∧ ∀ x, x ≠ 209 → x ≠ 216 → M' x = M x := by
  intro n
  induction n with
  | zero => intro k i v M _ _ _ _ h; omega
  | succ n ih =>
    intro k i v M h9 h212 hbr hik hk
    rw [f_X11_span_28]
    match k with
    | 0 =>
      rw [if_pos (show (6 : Int32) < Int32.ofNat i from i32_ltn (k := 6) (by omega) (by omega))]
      exact ⟨M, rfl, h9, fun _ _ _ => rfl⟩
    | k + 1 =>
      rw [if_neg (show ¬ (6 : Int32) < Int32.ofNat i from i32_nlt (n := 6) (by omega) (by omega))]
      have hR1 : RW nd nc (wr T 0 9 (Int32.ofNat i)) L ((wr M 209 11 (Int32.ofNat i)) 209) := by
        rw [wr_row, h9]
        exact RW_sc (j := 9) hR0 (by omega) ⟨fun h => by omega, fun h => by omega, fun h => by omega⟩
      have hW1 : wLaw K.2 (wr M 209 11 (Int32.ofNat i)) := hW0.frame (by rw [wr_nk (by decide), h9]) (fun j x _ => by rw [wr_nk (by omega), h9]) hO
      obtain ⟨M4, d1, d2, d3⟩ := m_goesOn_b (nd := nd) (nc := nc) (m := m) hO (by omega) 20000 m 0 0 (wr T 0 9 (Int32.ofNat i), (fun _ => 0), 0, L) (wr M 209 11 (Int32.ofNat i)) hR1 hW1 (by omega) (by omega)
      rw [show (wr M 209 11 (Int32.ofNat i)) 208 18 = 0 from by rw [wr_ne (by decide)]; exact hbr] at d1 d2
      obtain ⟨M5, f1, f2, f3⟩ := m_bringsBack (M0 := M0) (M := M4) (fun j hj => by rw [d3.2.2 212 (by decide) (by decide), wr_ne (by decide)]; exact h212 j hj) (fun j hj => by rw [d3.2.1 j hj, wr_nk (by omega), h9])
      have hgo : f_X11_goesOn 20000 (Int32.ofNat m) 0 (wr M 209 11 (Int32.ofNat i)) = some (sSumB K.2 0 nc m (wr T 0 9 (Int32.ofNat i), (fun _ => 0), 0, L) 0, M4) := d1
      have e9 : M4 209 9 = spl K.2 nc m T L i := d2.2.1.2.2.2.2.2.1
      have hx : ∀ x, x ≠ 209 → x ≠ 216 → M5 x = M x := fun x h1 h2 => by rw [f3 x h1, d3.2.2 x h1 h2, wr_nrow h1]
      simp only [grd, lt, show inb (11 : Int32) 2107 = true from by decide, show (11 : Int32).toNatClampNeg = 11 from by decide, show inb (9 : Int32) 2107 = true from by decide, show (9 : Int32).toNatClampNeg = 9 from by decide, if_true, hgo, bnd, f1, e9, i32_succ]
      have fin : ∀ v', ∃ M', f_X11_span_28 20000 n (Int32.ofNat m) v2 v' (Int32.ofNat (i + 1)) M5 = some (spM K.2 nc m T L v2 k (i + 1) v', M') ∧ M' 209 = M0 209 ∧ ∀ x, x ≠ 209 → x ≠ 216 → M' x = M x := fun v' => by
        obtain ⟨M', b1, b2, b3⟩ := ih k (i + 1) v' M5 f2 (fun j hj => by rw [hx 212 (by decide) (by decide)]; exact h212 j hj) (by rw [hx 208 (by decide) (by decide)]; exact hbr) (by omega) (by omega)
        exact ⟨M', b1, b2, fun x h1 h2 => (b3 x h1 h2).trans (hx x h1 h2)⟩
      rw [spM]
      by_cases q1 : 0 ≤ v
      · simp only [if_pos q1]
        by_cases q2 : v2 = 0
        · simp only [if_pos q2]; exact fin _
        · simp only [if_neg q2]; exact fin _
      · simp only [if_neg q1]; exact fin _
theorem sp_eq {m : Nat} {W : Lw} {v2 : Int32} (hb : ∀ sd, ∃ k, k ≤ 9999 ∧ spl W nc m T L sd = Int32.ofNat k) : ∀ (k i : Nat) (a : Int32 × Int32) (b : Int32), ((∃ q, q ≤ 9999 ∧ a.1 = Int32.ofNat q) ∧ (∃ q, q ≤ 9999 ∧ a.2 = Int32.ofNat q) ∧ b = if v2 = 0 then a.1 else a.2) → (if v2 = 0 then (spC W nc m T L k i a).1 else (spC W nc m T L k i a).2) = spM W nc m T L v2 k i b := by
  intro k
  induction k with
  | zero => intro i a b h; rw [spC, spM]; exact h.2.2.symm
  | succ k ih =>
    intro i a b ⟨⟨q1, hq1, e1⟩, ⟨q2, hq2, e2⟩, hbb⟩
    rw [spC, spM]
    obtain ⟨q3, hq3, e3⟩ := hb i
    have hb0 : 0 ≤ b := by
      rw [hbb]
      split
      · rw [e1]; exact i32_ge0 (by omega)
      · rw [e2]; exact i32_ge0 (by omega)
    rw [if_pos hb0]
    apply ih
    refine ⟨?_, ?_, ?_⟩
    · dsimp only
      split
      · exact ⟨q3, hq3, e3⟩
      · exact ⟨q1, hq1, e1⟩
    · dsimp only
      split
      · exact ⟨q3, hq3, e3⟩
      · exact ⟨q2, hq2, e2⟩
    · dsimp only
      by_cases q : v2 = 0
      · rw [if_pos q, if_pos q, hbb, if_pos q]
      · rw [if_neg q, if_neg q, hbb, if_neg q]
theorem P_span {M : Mm} (h : InvM M) (v1 v2 : Int32) : Kd (fun M => f_L_span 20000 v1 v2 M) (fun M => f_X11_span 20000 v1 v2 M) M := by
  obtain ⟨nd, nc, T, L, K, ms, im, tp, ft, h, hR, hs, hz, h70, h71, hnd, hnc⟩ := Ix h
  have hO : lwOK K.2 := h.2.2.1
  rcases i32_rng v1 (n := 201) (by omega) with ⟨m, hm2, rfl⟩ | hb2
  · obtain ⟨M1, a1, a2⟩ := c_span_19 (m := m) (v2 := v2) (by omega) hO h 20000 6 1 (9999, 0) M hz (by omega) (by omega)
    have hb : ∀ sd, ∃ k, k ≤ 9999 ∧ spl K.2 nc m T L sd = Int32.ofNat k := fun sd => spl_b hO (gd_I h.2.1 (fun _ => 0) 0)
    have hE : (if v2 = 0 then (spC K.2 nc m T L 6 1 (9999, 0)).1 else (spC K.2 nc m T L 6 1 (9999, 0)).2) = spM K.2 nc m T L v2 6 1 (-1) := by
      rw [spC, spM, if_neg (show ¬ (0 : Int32) ≤ -1 by decide)]
      obtain ⟨q3, hq3, e3⟩ := hb 1
      have x1 : (if spl K.2 nc m T L 1 < 9999 then spl K.2 nc m T L 1 else 9999) = spl K.2 nc m T L 1 := by
        by_cases q : spl K.2 nc m T L 1 < 9999
        · rw [if_pos q]
        · rw [if_neg q]
          have h8 : (9999 : Int32) ≤ spl K.2 nc m T L 1 := Int32.not_lt.mp q
          refine Int32.le_antisymm h8 ?_
          rw [e3]; exact i32_len (n := 9999) hq3 (by omega)
      have x2 : (if (0 : Int32) < spl K.2 nc m T L 1 then spl K.2 nc m T L 1 else 0) = spl K.2 nc m T L 1 := by
        by_cases q : (0 : Int32) < spl K.2 nc m T L 1
        · rw [if_pos q]
        · rw [if_neg q]
          refine Int32.le_antisymm ?_ (Int32.not_lt.mp q)
          rw [e3]; exact i32_ge0 (by omega)
      dsimp only
      rw [x1, x2]
      exact sp_eq hb 5 2 _ _ ⟨⟨q3, hq3, e3⟩, ⟨q3, hq3, e3⟩, by split <;> rfl⟩
    rw [hE] at a1
    refine Kr (F := fun M => f_X10_span 20000 (Int32.ofNat m) v2 M) (r := spM K.2 nc m T L v2 6 1 (-1)) (M1 := M1) (fun M => rfl) h ?_ a2 (fun M' hm => ?_)
    · have hwi : f_X10_needsWithin 20000 (Int32.ofNat m) 0 200 M = some (.inl 0, M) := c_nI (lo := 0) (m := 200) (by omega) (by omega) (by omega)
      simp only [f_X10_span, bnx, hwi]
      exact a1
    · obtain ⟨M3, c1, c2, c3⟩ := m_keepsAll (M := wr M' 208 0 0)
      obtain ⟨M4, d1, d2, d3⟩ := m_span_28 (nd := nd) (nc := nc) (T := T) (L := L) (K := K) (m := m) (v2 := v2) (M0 := wr M' 208 0 0) (by omega) hO (mW hm) (mWl hm) 20000 6 1 (-1) M3 (c3 209 (by decide)) c2 (by rw [c3 208 (by decide), wr_nk (by decide)]; exact hm.2.2.2.2.2.2) (by omega) (by omega)
      refine ⟨M4, ?_, (mQs d2 (fun x h1 h2 _ _ => ?_)).trans mQ.t208, by rw [d3 208 (by decide) (by decide), c3 208 (by decide), wr_eq]⟩
      · simp only [f_X11_span, lt, bnd, m_noA hm2, m_th0, if_true, c1]
        exact d1
      · by_cases q : x = 209
        · subst q; exact d2
        · rw [d3 x q h2, c3 x h1]
  · refine Kx (F := fun M => f_X10_span 20000 v1 v2 M) (e := "java/lang/IllegalArgumentException") (code := 1) (M1 := M) (fun M => rfl) h ?_ hz (fun M => by simp) (by decide) (fun M' hm => ⟨wr (wr M' 208 0 0) 208 0 1, ?_, mQ.t208.trans mQ.t208, wr_eq⟩)
    · have hwi : f_X10_needsWithin 20000 v1 0 200 M = some (.inr "java/lang/IllegalArgumentException", M) := c_nIx (lo := 0) (m := 200) hb2 (by omega)
      simp only [f_X10_span, bnx, hwi]
    · simp only [f_X11_span, lt, bnd, m_noAx hb2, m_th1, show ¬ (1 : Int32) = 0 from by decide, if_false]
end PM
