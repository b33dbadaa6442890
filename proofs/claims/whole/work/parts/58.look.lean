/-! Looking ahead: takes, keenest, ahead, meets, least, trial, span. -/
section LK
variable {nd nc : Nat} {T : Tb} {L : List Row} {K : LwS} {W : Lw} {br : Int32} {M : Mm}
/-- what a loop over courses in the reference's world keeps of where it began -/
def kBk (M M0 : Mm) : Prop := (∀ j, j < 409 → M 212 j = M0 209 j) ∧ (∀ j, 409 ≤ j → M 209 j = M0 209 j)
theorem kBk.st {M M0 M1 : Mm} (h : kBk M M0) (hk : mK M1 M) : kBk M1 M0 := ⟨fun j hj => by rw [hk.2.2 212 (by decide) (by decide)]; exact h.1 j hj, fun j hj => by rw [hk.2.1 j hj]; exact h.2 j hj⟩
theorem m_grainsIn {c n : Nat} (hO : lwOK W) (hR : RW nd nc T L (M 209)) (hW : wLaw W M) (hc : c < nc) (hn : n ≤ 200) (tk : Nat → Int32) (v : Int32) : ∃ M', f_X11_grainsIn 20000 (Int32.ofNat c) (Int32.ofNat n) M = some ((sGo W (M 208 18) nc n (T, tk, v, L)).1 6 c, M') ∧ M' 209 = M 209 ∧ ∀ x, x ≠ 212 → x ≠ 216 → M' x = M x := by
  obtain ⟨M1, a1, a2, a3⟩ := m_keepsAll (M := M)
  have e9 : M1 209 = M 209 := a3 209 (by decide)
  obtain ⟨M2, b1, b2, b3⟩ := m_goesOn_c (nd := nd) (nc := nc) (m := n) hO (by omega) 20000 n 0 0 (T, tk, v, L) M1 (by rw [e9]; exact hR) (hW.cg e9) (by omega) (by omega)
  rw [show M1 208 = M 208 from a3 208 (by decide)] at b1 b2
  obtain ⟨M3, c1, c2, c3⟩ := m_bringsBack (M0 := M) (M := M2) (fun j hj => by rw [b3.2.2 212 (by decide) (by decide)]; exact a2 j hj) (fun j hj => by rw [b3.2.1 j hj, e9])
  have hg : f_X11_goesOn 20000 (Int32.ofNat n) 1 M1 = some (sSumG W (M 208 18) nc n (T, tk, v, L) 0, M2) := b1
  refine ⟨M3, ?_, c2, fun x h1 h2 => ?_⟩
  · unfold f_X11_grainsIn
    rw [a1]
    simp only [bnd]
    rw [hg]
    simp only []
    rw [m_cel2 b2 hc]
    simp only []
    rw [c1]
  · by_cases q : x = 209
    · subst q; exact c2
    · rw [c3 x q, b3.2.2 x q h2, a3 x h1]
theorem mQs {M M' : Mm} (h1 : M' 209 = M 209) (h2 : ∀ x, x ≠ 212 → x ≠ 216 → x ≠ 217 → x ≠ 218 → M' x = M x) : mQ M' M := ⟨fun x hx => h2 x (by omega) (by omega) (by omega) (by omega), h1, h2 _ (by decide) (by decide) (by decide) (by decide), h2 _ (by decide) (by decide) (by decide) (by decide), h2 _ (by decide) (by decide) (by decide) (by decide), fun j _ => by rw [h2 208 (by decide) (by decide) (by decide) (by decide)]⟩
theorem cQs {M M' : Mm} (h : ∀ x, (x < 16 ∨ 24 < x) → x ≠ 39 → x ≠ 40 → x ≠ 41 → M' x = M x) (hz : tz (slc 16 M')) : cQ M' M := ⟨fun x hx => by
    unfold sc9 at hx
    exact h x (by omega) (by omega) (by omega) (by omega), fun j _ => by rw [h 0 (by omega) (by omega) (by omega) (by omega)], hz⟩
theorem P_ahead {M : Mm} (h : InvM M) (v1 v2 : Int32) : Kd (fun M => f_L_ahead 20000 v1 v2 M) (fun M => f_X11_ahead 20000 v1 v2 M) M := by
  obtain ⟨nd, nc, T, L, K, ms, im, tp, ft, h, hR, hs, hz, h70, h71, hnd, hnc⟩ := Ix h
  have hO : lwOK K.2 := h.2.2.1
  rcases i32_rng v1 (n := nc) (by omega) with ⟨c, hc, rfl⟩ | hb
  · rcases i32_rng v2 (n := 201) (by omega) with ⟨t, ht, rfl⟩ | hb2
    · obtain ⟨M1, a1, a2, a3, a4⟩ := c_looksAheadBy (nc := nc) (m := t) (W := K.2) (M := M) (by omega) hnc h.1.2.2.1.1 h.1.2.2.2.2.2.2.2 (by rw [hs]; exact hR.2.2.2.2.2.2.2) (by rw [hs]; exact hR.1.2.2.2.1) 0 L
      rw [hs] at a2 a3
      have hg := gd_go hO t _ (gd_I h.2.1 (clr (M 41)) 0)
      refine Kr (F := fun M => f_X10_ahead 20000 (Int32.ofNat c) (Int32.ofNat t) M) (r := (sGo K.2 0 nc t (T, clr (M 41), 0, L)).1 6 c) (M1 := M1) (fun M => rfl) h ?_ (cQs a4 (by rw [a2]; exact gd_tz hg)) (fun M' hm => ?_)
      · have hwi : f_X10_needsWithin 20000 (Int32.ofNat t) 0 200 M = some (.inl 0, M) := c_nI (lo := 0) (m := 200) (by omega) (by omega) (by omega)
        simp only [f_X10_ahead, c_nC h71 hc (show nc ≤ 8 by omega), bnx, hwi, a1, bnd, grd, inb_ofNat (show c < 5 by omega) (by omega), if_true, i32_clampN (show c < 2147483648 by omega)]
        rw [show M1 22 c = (sGo K.2 0 nc t (T, clr (M 41), 0, L)).1 6 c from slE a2 (i := 6) (by decide)]
      · obtain ⟨M2, b1, b2, b3⟩ := m_grainsIn (c := c) (n := t) hO (mW hm (c := 0)) (mWl hm) hc (by omega) (clr (M 41)) 0
        rw [show (wr M' 208 0 0) 208 18 = 0 from by rw [wr_nk (by decide)]; exact hm.2.2.2.2.2.2] at b1
        refine ⟨M2, ?_, (mQs b2 (fun x h1 h2 _ _ => b3 x h1 h2)).trans mQ.t208, by rw [b3 208 (by decide) (by decide), wr_eq]⟩
        simp only [f_X11_ahead, lt, m_noC (mW hm).1.2.2.2.2.2 hc (show nc ≤ 8 by omega), bnd, if_true, m_noA ht, m_th0, b1]
    · refine Kx (F := fun M => f_X10_ahead 20000 (Int32.ofNat c) v2 M) (e := "java/lang/IllegalArgumentException") (code := 2) (M1 := M) (fun M => rfl) h ?_ hz (fun M => by simp) (by decide) (fun M' hm => ⟨wr (wr M' 208 0 0) 208 0 2, ?_, mQ.t208.trans mQ.t208, wr_eq⟩)
      · have hwi : f_X10_needsWithin 20000 v2 0 200 M = some (.inr "java/lang/IllegalArgumentException", M) := c_nIx (lo := 0) (m := 200) hb2 (by omega)
        simp only [f_X10_ahead, c_nC h71 hc (show nc ≤ 8 by omega), bnx, hwi]
      · simp only [f_X11_ahead, f_X11_ahead_30, lt, m_noC (mW hm).1.2.2.2.2.2 hc (show nc ≤ 8 by omega), bnd, if_true, m_noAx hb2, m_th0, m_th1, show ¬ (1 : Int32) = 0 from by decide, if_false]
  · refine Kx (F := fun M => f_X10_ahead 20000 v1 v2 M) (e := "java/lang/IndexOutOfBoundsException") (code := 1) (M1 := M) (fun M => rfl) h ?_ hz (fun M => by simp) (by decide) (fun M' hm => ⟨wr (wr M' 208 0 0) 208 0 1, ?_, mQ.t208.trans mQ.t208, wr_eq⟩)
    · simp only [f_X10_ahead, c_nCx h71 hb, bnx]
    · simp only [f_X11_ahead, f_X11_ahead_30, lt, m_noCx (mW hm).1.2.2.2.2.2 hb (show nc ≤ 8 by omega), bnd, m_th1, show ¬ (1 : Int32) = 0 from by decide, if_false]
/-! what each diner takes -/
def tkE (e : Es) (M : Mm) : Prop := ∀ d, d < 8 → M 217 d = e.2.1 d
theorem m_lays_34 {k27 : Int32 → Int32 → Mm → Option (Int32 × Mm)} {v1 v2 : Int32} {M0 : Mm} (hO : lwOK W) : ∀ (n k i : Nat) (e : Es) (M : Mm), RW nd nc e.1 e.2.2.2 (M 209) → wLaw W M → kBk M M0 → tkE e M → M 208 18 = br → i + k = nc → k < n → ∃ M', f_X11_laysTakes_34 20000 k27 n v1 v2 (Int32.ofNat i) M = k27 v1 (v2 + 1) M' ∧ RW nd nc (sPass nc (sAll W br k i e).1) (sAll W br k i e).2.2.2 (M' 209) ∧ wLaw W M' ∧ kBk M' M0 ∧ tkE (sAll W br k i e) M' ∧ ∀ x, x ≠ 209 → x ≠ 216 → x ≠ 217 → M' x = M x := by
  intro n
  induction n with
  | zero => intro k i e M _ _ _ _ _ _ h; omega
  | succ n ih =>
    intro k i e M hR hW hB hT hbr hik hk
    have hnc := hR.1.2.1
    have hnd := hR.1.1
    rw [f_X11_laysTakes_34, m_cellars]
    simp only [bnd]
    rw [hR.1.2.2.2.2.2]
    match k with
    | 0 =>
      rw [if_pos (i32_len (by omega) (by omega))]
      obtain ⟨M1, a1, a2, a3, a4, a5⟩ := m_passesOn hR
      rw [a1]
      have k1 : mK M1 M := ⟨a3, a4, fun x h1 _ => a5 x h1⟩
      exact ⟨M1, rfl, a2, k1.law hW hO, hB.st k1, fun d hd => by rw [a5 217 (by decide)]; exact hT d hd, fun x h1 _ _ => a5 x h1⟩
    | k + 1 =>
      have hi : i < nc := by omega
      rw [if_neg (i32_nle hi (by omega)), m_eaterOf hR hi]
      simp only []
      obtain ⟨M1, a1, a2, at2, a3, a4, a5, a6⟩ := m_eats (T := e.1) (tk := e.2.1) (sm := e.2.2.1) (L := e.2.2.2) (W := W) (c := i) hO hi hR hW
      have k1 : mK M1 M := ⟨a4, a5, a6⟩
      rw [hbr] at a1 at2 a3
      rw [a1]
      simp only []
      have e208 : M1 208 18 = br := by rw [k1.2.2 208 (by decide) (by decide)]; exact hbr
      rcases sWho_ex ⟨_, hR⟩ hi with e9 | ⟨d, hd, e9⟩
      · rw [if_pos e9] at at2
        rw [e9, if_pos rfl, i32_succ]
        obtain ⟨M', b1, b2, b3, b4, b5, b6⟩ := ih k (i + 1) (sEat W br i e) M1 a3 (k1.law hW hO) (hB.st k1) (fun d hd => by
          rw [k1.2.2 217 (by decide) (by decide), hT d hd]
          show _ = (sEat W br i e).2.1 d
          rw [show (sEat W br i e).2.1 = e.2.1 from at2]) e208 (by omega) (by omega)
        exact ⟨M', b1, b2, b3, b4, b5, fun x h1 h2 h3 => (b6 x h1 h2 h3).trans (k1.2.2 x h1 h2)⟩
      · have hne : ¬ sWho e.1 i = -1 := by rw [e9]; exact i32_nm1 (by omega)
        rw [if_neg hne, e9, i32_clampN (show d < 2147483648 by omega)] at at2
        rw [if_neg hne, e9]
        simp only [grd, inb_ofNat (show d < 8 by omega) (by omega), if_true, i32_clampN (show d < 2147483648 by omega), lt, i32_succ]
        have hM2 : ∀ x, x ≠ 217 → wr M1 217 d (M1 217 d + pE W br e.1 i) x = M1 x := fun x hx => wr_nrow hx
        obtain ⟨M', b1, b2, b3, b4, b5, b6⟩ := ih k (i + 1) (sEat W br i e) (wr M1 217 d (M1 217 d + pE W br e.1 i)) (by rw [hM2 209 (by decide)]; exact a3) ((k1.law hW hO).cg (hM2 209 (by decide))) ⟨fun j hj => by rw [hM2 212 (by decide)]; exact (hB.st k1).1 j hj, fun j hj => by rw [hM2 209 (by decide)]; exact (hB.st k1).2 j hj⟩ (fun d' hd' => by
          show _ = (sEat W br i e).2.1 d'
          rw [show (sEat W br i e).2.1 = updF e.2.1 d (e.2.1 d + pE W br e.1 i) from at2]
          have e217 : M1 217 = M 217 := k1.2.2 217 (by decide) (by decide)
          by_cases q : d' = d
          · subst q; rw [wr_eq, updF_eq, e217, hT d' hd']
          · rw [wr_nk q, updF_ne q, e217, hT d' hd']) (by rw [hM2 208 (by decide)]; exact e208) (by omega) (by omega)
        exact ⟨M', b1, b2, b3, b4, b5, fun x h1 h2 h3 => (b6 x h1 h2 h3).trans ((hM2 x h3).trans (k1.2.2 x h1 h2))⟩
theorem m_lays_27 {m : Nat} {M0 : Mm} (hm : m < 2147483648) (hO : lwOK W) : ∀ (n k i : Nat) (e : Es) (M : Mm), RW nd nc e.1 e.2.2.2 (M 209) → wLaw W M → kBk M M0 → tkE e M → M 208 18 = br → i + k = m → k < n → ∃ M', f_X11_laysTakes_27 20000 n (Int32.ofNat m) (Int32.ofNat i) M = some (0, M') ∧ M' 209 = M0 209 ∧ tkE (sGo W br nc k e) M' ∧ ∀ x, x ≠ 209 → x ≠ 216 → x ≠ 217 → M' x = M x := by
  intro n
  induction n with
  | zero => intro k i e M _ _ _ _ _ _ h; omega
  | succ n ih =>
    intro k i e M hR hW hB hT hbr hik hk
    have hnc := hR.1.2.1
    rw [f_X11_laysTakes_27]
    match k with
    | 0 =>
      rw [if_pos (i32_len (by omega) (by omega))]
      obtain ⟨M1, a1, a2, a3⟩ := m_bringsBack hB.1 hB.2
      rw [a1]
      exact ⟨M1, rfl, a2, fun d hd => by rw [a3 217 (by decide)]; exact hT d hd, fun x h1 _ _ => a3 x h1⟩
    | k + 1 =>
      rw [if_neg (i32_nle (by omega) (by omega))]
      obtain ⟨M1, a1, a2, a3, a4, a5, a6⟩ := m_lays_34 (nd := nd) (nc := nc) (W := W) (br := br) (k27 := fun v1 v2 M => f_X11_laysTakes_27 20000 n v1 v2 M) (v1 := Int32.ofNat m) (v2 := Int32.ofNat i) (M0 := M0) hO 20000 nc 0 (e.1, e.2.1, 0, e.2.2.2) M hR hW hB hT hbr (by omega) (by omega)
      rw [show (0 : Int32) = Int32.ofNat 0 from rfl, a1, i32_succ]
      obtain ⟨M', b1, b2, b3, b4⟩ := ih k (i + 1) (sCalm W br nc e) M1 a2 a3 a4 a5 (by rw [a6 208 (by decide) (by decide) (by decide)]; exact hbr) (by omega) (by omega)
      exact ⟨M', b1, b2, b3, fun x h1 h2 h3 => (b4 x h1 h2 h3).trans (a6 x h1 h2 h3)⟩
theorem m_lays_6 {v1 : Int32} : ∀ (n k i : Nat) (M : Mm), i + k = 8 → k < n → ∃ M', f_X11_laysTakes_6 20000 n v1 (Int32.ofNat i) M = f_X11_laysTakes_27 20000 20000 v1 0 M' ∧ (∀ j, i ≤ j → j < 8 → M' 217 j = 0) ∧ (∀ j, j < i → M' 217 j = M 217 j) ∧ ∀ x, x ≠ 217 → M' x = M x := by
  intro n
  induction n with
  | zero => intro k i M _ h; omega
  | succ n ih =>
    intro k i M hik hk
    rw [f_X11_laysTakes_6]
    match k with
    | 0 =>
      rw [if_pos (show (8 : Int32) ≤ Int32.ofNat i from i32_len (k := 8) (by omega) (by omega))]
      exact ⟨M, rfl, fun j h1 h2 => by omega, fun _ _ => rfl, fun _ _ => rfl⟩
    | k + 1 =>
      rw [if_neg (show ¬ (8 : Int32) ≤ Int32.ofNat i from i32_nle (n := 8) (by omega) (by omega))]
      simp only [grd, inb_ofNat (show i < 8 by omega) (by omega), if_true, lt, i32_clampN (show i < 2147483648 by omega), i32_succ]
      obtain ⟨M', a1, a2, a3, a4⟩ := ih k (i + 1) (wr M 217 i 0) (by omega) (by omega)
      refine ⟨M', a1, fun j h1 h2 => ?_, fun j hj => by rw [a3 j (by omega), wr_nk (by omega)], fun x hx => by rw [a4 x hx, wr_nrow hx]⟩
      by_cases q : j = i
      · subst q; rw [a3 j (by omega), wr_eq]
      · exact a2 j (by omega) h2
theorem m_lays_60 {N : Nat} {v1 : Int32} (hN : 8 < N) (M : Mm) : ∃ M', f_X11_laysTakes_6 20000 N v1 0 M = f_X11_laysTakes_27 20000 20000 v1 0 M' ∧ (∀ j, 0 ≤ j → j < 8 → M' 217 j = 0) ∧ (∀ j, j < 0 → M' 217 j = M 217 j) ∧ ∀ x, x ≠ 217 → M' x = M x := m_lays_6 N 8 0 M (by omega) hN
theorem m_laysU (N : Nat) (v1 : Int32) (M : Mm) : f_X11_laysTakes N v1 M = bnd (f_X11_keepsAll N M) (fun _ M2 => f_X11_laysTakes_6 N N v1 0 M2) := rfl
theorem m_laysN {m N : Nat} (hN : N = 20000) (hO : lwOK W) (hR : RW nd nc T L (M 209)) (hW : wLaw W M) (hm : m ≤ 200) (v : Int32) {tk : Nat → Int32} (htk : ∀ d, d < 8 → tk d = 0) : ∃ M', f_X11_laysTakes N (Int32.ofNat m) M = some (0, M') ∧ M' 209 = M 209 ∧ tkE (sGo W (M 208 18) nc m (T, tk, v, L)) M' ∧ ∀ x, x ≠ 212 → x ≠ 216 → x ≠ 217 → M' x = M x := by
  obtain ⟨M1, a1, a2, a3⟩ := m_keepsAll (M := M)
  obtain ⟨M2, b1, b2, b3, b4⟩ := m_lays_60 (N := 20000) (v1 := Int32.ofNat m) (by decide) M1
  have e9 : M2 209 = M 209 := by rw [b4 209 (by decide), a3 209 (by decide)]
  obtain ⟨M3, c1, c2, c3, c4⟩ := m_lays_27 (nd := nd) (nc := nc) (W := W) (br := M 208 18) (m := m) (M0 := M) (by omega) hO 20000 m 0 (T, tk, v, L) M2 (by rw [e9]; exact hR) (hW.cg e9) ⟨fun j hj => by rw [b4 212 (by decide)]; exact a2 j hj, fun j hj => by rw [e9]⟩ (fun d hd => by rw [b2 d (by omega) hd]; exact (htk d hd).symm) (by rw [b4 208 (by decide), a3 208 (by decide)]) (by omega) (by omega)
  refine ⟨M3, ?_, c2, c3, fun x h1 h2 h3 => ?_⟩
  · rw [← hN] at a1 b1 c1
    rw [m_laysU, a1]
    simp only [bnd]
    rw [b1]
    exact c1
  · by_cases q : x = 209
    · subst q; exact c2
    · rw [c4 x q h2 h3, b4 x h3, a3 x h1]
theorem m_lays {m : Nat} (hO : lwOK W) (hR : RW nd nc T L (M 209)) (hW : wLaw W M) (hm : m ≤ 200) (v : Int32) {tk : Nat → Int32} (htk : ∀ d, d < 8 → tk d = 0) : ∃ M', f_X11_laysTakes 20000 (Int32.ofNat m) M = some (0, M') ∧ M' 209 = M 209 ∧ tkE (sGo W (M 208 18) nc m (T, tk, v, L)) M' ∧ ∀ x, x ≠ 212 → x ≠ 216 → x ≠ 217 → M' x = M x := m_laysN rfl hO hR hW hm v htk
theorem P_takes {M : Mm} (h : InvM M) (v1 v2 : Int32) : Kd (fun M => f_L_takes 20000 v1 v2 M) (fun M => f_X11_takes 20000 v1 v2 M) M := by
  obtain ⟨nd, nc, T, L, K, ms, im, tp, ft, h, hR, hs, hz, h70, h71, hnd, hnc⟩ := Ix h
  have hO : lwOK K.2 := h.2.2.1
  rcases i32_rng v1 (n := nd) (by omega) with ⟨d, hd, rfl⟩ | hb
  · rcases i32_rng v2 (n := 201) (by omega) with ⟨t, ht, rfl⟩ | hb2
    · obtain ⟨M1, a1, a2, a3, a4⟩ := c_looksAheadBy (nc := nc) (m := t) (W := K.2) (M := M) (by omega) hnc h.1.2.2.1.1 h.1.2.2.2.2.2.2.2 (by rw [hs]; exact hR.2.2.2.2.2.2.2) (by rw [hs]; exact hR.1.2.2.2.1) 0 L
      rw [hs] at a2 a3
      have hg := gd_go hO t _ (gd_I h.2.1 (clr (M 41)) 0)
      refine Kr (F := fun M => f_X10_takes 20000 (Int32.ofNat d) (Int32.ofNat t) M) (r := (sGo K.2 0 nc t (T, clr (M 41), 0, L)).2.1 d) (M1 := M1) (fun M => rfl) h ?_ (cQs a4 (by rw [a2]; exact gd_tz hg)) (fun M' hm => ?_)
      · have hwi : f_X10_needsWithin 20000 (Int32.ofNat t) 0 200 M = some (.inl 0, M) := c_nI (lo := 0) (m := 200) (by omega) (by omega) (by omega)
        simp only [f_X10_takes, c_nD h70 hd hnd, bnx, hwi, a1, bnd, grd, inb_ofNat (show d < 8 by omega) (by omega), if_true, i32_clampN (show d < 2147483648 by omega), a3]
      · obtain ⟨M2, b1, b2, b3, b4⟩ := m_lays (m := t) hO (mW hm (c := 0)) (mWl hm) (by omega) 0 (tk := clr (M 41)) (fun d hd => if_pos hd)
        rw [show (wr M' 208 0 0) 208 18 = 0 from by rw [wr_nk (by decide)]; exact hm.2.2.2.2.2.2] at b3
        refine ⟨M2, ?_, (mQs b2 (fun x h1 h2 h3 _ => b4 x h1 h2 h3)).trans mQ.t208, by rw [b4 208 (by decide) (by decide) (by decide), wr_eq]⟩
        simp only [f_X11_takes, lt, m_noD (mW hm).1.2.2.2.2.1 hd hnd, bnd, if_true, m_noA ht, m_th0, b1, grd, inb_ofNat (show d < 8 by omega) (by omega), i32_clampN (show d < 2147483648 by omega), b3 d (by omega)]
    · refine Kx (F := fun M => f_X10_takes 20000 (Int32.ofNat d) v2 M) (e := "java/lang/IllegalArgumentException") (code := 2) (M1 := M) (fun M => rfl) h ?_ hz (fun M => by simp) (by decide) (fun M' hm => ⟨wr (wr M' 208 0 0) 208 0 2, ?_, mQ.t208.trans mQ.t208, wr_eq⟩)
      · have hwi : f_X10_needsWithin 20000 v2 0 200 M = some (.inr "java/lang/IllegalArgumentException", M) := c_nIx (lo := 0) (m := 200) hb2 (by omega)
        simp only [f_X10_takes, c_nD h70 hd hnd, bnx, hwi]
      · simp only [f_X11_takes, lt, m_noD (mW hm).1.2.2.2.2.1 hd hnd, bnd, if_true, m_noAx hb2, m_th0, m_th1, show ¬ (1 : Int32) = 0 from by decide, if_false]
  · refine Kx (F := fun M => f_X10_takes 20000 v1 v2 M) (e := "java/lang/IndexOutOfBoundsException") (code := 1) (M1 := M) (fun M => rfl) h ?_ hz (fun M => by simp) (by decide) (fun M' hm => ⟨wr (wr M' 208 0 0) 208 0 1, ?_, mQ.t208.trans mQ.t208, wr_eq⟩)
    · simp only [f_X10_takes, c_nDx h70 hb, bnx]
    · simp only [f_X11_takes, lt, m_noDx (mW hm).1.2.2.2.2.1 hb hnd, bnd, m_th1, show ¬ (1 : Int32) = 0 from by decide, if_false]
end LK
