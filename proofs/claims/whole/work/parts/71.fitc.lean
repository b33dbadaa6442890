/-! The class: does what was told fit? -/
section FC
variable {nd nc : Nat} {T : Tb} {L : List Row} {K : LwS} {ms : List TbS} {im : Option (TbS × LwS)} {tp : List Nat} {ft : Int32} {W : Lw} {M : Mm} {A : TbS} {f : Nat → Nat} {br : Int32}
theorem c_asTold1 (N n : Nat) (t v2 x3 x5 : Int32) (M : Mm) (h1 : ¬ M 0 16 ≤ v2 + 2) (h2 : inb v2 12 = true) (h3 : inb (v2 + 1) 12 = true) (h4 : inb (v2 + 2) 12 = true) (e1 : M 61 v2.toNatClampNeg = x3) (e2 : M 61 (v2 + 1).toNatClampNeg = x5) (h5 : ¬ x3 < 0) (h6 : ¬ (5 : Int32) ≤ x3) (h7 : inb x3 5 = true) : f_X10_asTold_2 N (n + 1) t v2 M = if x5 = t then (if M 22 x3.toNatClampNeg = M 61 (v2 + 2).toNatClampNeg then f_X10_asTold_2 N n t (v2 + 3) M else some (0, M)) else f_X10_asTold_2 N n t (v2 + 3) M := by
  rw [f_X10_asTold_2, if_neg h1]
  simp only [grd, h2, if_true, lt, h3, e1, e2, if_neg h5, if_neg h6, h7, h4]
theorem c_asTold2 {nr N t : Nat} {g : Nat → Int32} (h : cTold f nr M) (hg : ∀ c, c < nc → M 22 c = g c) (hf : ∀ j, j < 3 * nr → f j < 256) (hv : vRows f nc nr 0 = true) (hnc : nc ≤ 5) (hnr : nr ≤ 4) (ht : t < 256) : ∀ (n k r : Nat), r + k = nr → k < n → f_X10_asTold_2 N n (Int32.ofNat t) (Int32.ofNat (3 * r)) M = some (if tAt g f t k r = true then 1 else 0, M) := by
  intro n
  induction n with
  | zero => intro k r _ h; omega
  | succ n ih =>
    intro k r hik hk
    have e1 : Int32.ofNat (3 * r) + 1 = Int32.ofNat (3 * r + 1) := i32_addN _ 1
    have e2 : Int32.ofNat (3 * r) + 2 = Int32.ofNat (3 * r + 2) := i32_addN _ 2
    have e3 : Int32.ofNat (3 * r) + 3 = Int32.ofNat (3 * (r + 1)) := i32_addN _ 3
    match k with
    | 0 =>
      rw [f_X10_asTold_2, h.1, e2, if_pos (i32_len (by omega) (by omega)), tAt, if_pos rfl]
    | k + 1 =>
      obtain ⟨v1, v2⟩ := vRows_all nr 0 hv r (by omega) (by omega)
      have b1 := hf (3 * r + 1) (by omega)
      have b2 := hf (3 * r + 2) (by omega)
      rw [c_asTold1 N n (Int32.ofNat t) (Int32.ofNat (3 * r)) (Int32.ofNat (f (3 * r))) (Int32.ofNat (f (3 * r + 1))) M (by rw [h.1, e2]; exact i32_nle (by omega) (by omega)) (inb_ofNat (by omega) (by omega)) (by rw [e1]; exact inb_ofNat (by omega) (by omega)) (by rw [e2]; exact inb_ofNat (by omega) (by omega)) (by rw [i32_clampN (by omega), h.2 _ (by omega)]) (by rw [e1, i32_clampN (by omega), h.2 _ (by omega)]) (i32_nn (by omega)) (show ¬ (5 : Int32) ≤ _ from i32_nle (n := 5) (by omega) (by omega)) (inb_ofNat (by omega) (by omega)), e3, ih k (r + 1) (by omega) (by omega), e2, i32_clampN (by omega), i32_clampN (by omega), h.2 _ (by omega), hg _ v1, tAt]
      by_cases q1 : f (3 * r + 1) = t
      · rw [if_pos (by rw [q1]), if_pos q1]
        by_cases q2 : g (f (3 * r)) = Int32.ofNat (f (3 * r + 2))
        · rw [if_pos q2, decide_eq_true q2, Bool.true_and]
        · rw [if_neg q2, decide_eq_false q2, Bool.false_and, if_neg (show ¬ false = true by decide)]
      · rw [if_neg (fun h9 => q1 ((i32_eqN (by omega) (by omega)).mp h9)), if_neg q1, Bool.true_and]
def lat (f : Nat → Nat) : Nat → Nat → Nat → Nat
  | 0, _, v => v
  | k + 1, r, v => lat f k (r + 1) (if v < f (3 * r + 1) then f (3 * r + 1) else v)
theorem lat_p {m : Nat} : ∀ (k r v : Nat), v ≤ m → (∀ j, r ≤ j → j < r + k → f (3 * j + 1) ≤ m) → v ≤ lat f k r v ∧ lat f k r v ≤ m ∧ ∀ j, r ≤ j → j < r + k → f (3 * j + 1) ≤ lat f k r v := by
  intro k
  induction k with
  | zero => intro r v h1 _; exact ⟨Nat.le_refl _, h1, fun j h1 h2 => by omega⟩
  | succ k ih =>
    intro r v h1 h2
    have h3 := h2 r (Nat.le_refl _) (by omega)
    have hx : v ≤ (if v < f (3 * r + 1) then f (3 * r + 1) else v) ∧ f (3 * r + 1) ≤ (if v < f (3 * r + 1) then f (3 * r + 1) else v) ∧ (if v < f (3 * r + 1) then f (3 * r + 1) else v) ≤ m := by split <;> omega
    obtain ⟨a1, a2, a3⟩ := ih (r + 1) _ hx.2.2 (fun j h4 h5 => h2 j (by omega) (by omega))
    refine ⟨Nat.le_trans hx.1 a1, a2, fun j h4 h5 => ?_⟩
    by_cases e : j = r
    · subst e; exact Nat.le_trans hx.2.1 a1
    · exact a3 j (by omega) (by omega)
theorem c_lat {nr N : Nat} (h : cTold f nr M) (hf : ∀ j, j < 3 * nr → f j < 256) (hnr : nr ≤ 4) : ∀ (n k r v : Nat), v < 256 → r + k = nr → k < n → f_X10_latestTold_4 N n (Int32.ofNat v) (Int32.ofNat (3 * r)) M = some (Int32.ofNat (lat f k r v), M) := by
  intro n
  induction n with
  | zero => intro k r v _ _ h; omega
  | succ n ih =>
    intro k r v hv hik hk
    have e1 : Int32.ofNat (3 * r) + 1 = Int32.ofNat (3 * r + 1) := i32_addN _ 1
    have e2 : Int32.ofNat (3 * r) + 2 = Int32.ofNat (3 * r + 2) := i32_addN _ 2
    have e3 : Int32.ofNat (3 * r) + 3 = Int32.ofNat (3 * (r + 1)) := i32_addN _ 3
    rw [f_X10_latestTold_4, h.1, e1, e2, e3]
    match k with
    | 0 => rw [if_pos (i32_len (by omega) (by omega))]; rfl
    | k + 1 =>
      have b1 := hf (3 * r + 1) (by omega)
      rw [if_neg (i32_nle (by omega) (by omega))]
      simp only [grd, inb_ofNat (show 3 * r + 1 < 12 by omega) (by omega), if_true, i32_clampN (show 3 * r + 1 < 2147483648 by omega), lt, h.2 (3 * r + 1) (by omega)]
      rw [lat]
      by_cases q : v < f (3 * r + 1)
      · rw [if_pos (i32_ltn q (by omega)), if_pos q]
        exact ih k (r + 1) _ b1 (by omega) (by omega)
      · rw [if_neg (i32_nlt (by omega) (by omega)), if_neg q]
        exact ih k (r + 1) _ hv (by omega) (by omega)
theorem c_kp13 {N w : Nat} (hw : w < 37) (hnc : nc ≤ 5) : ∀ (n k i : Nat) (M : Mm), M 16 1 = Int32.ofNat nc → i + k = nc → k < n → ∃ M', f_X10_keepsParted_13 N n (Int32.ofNat w) (Int32.ofNat i) M = some (0, M') ∧ (∀ c, i ≤ c → c < nc → M' 62 (5 * w + c) = M 22 c) ∧ (∀ y, y < 5 * w + i ∨ 5 * w + nc ≤ y → M' 62 y = M 62 y) ∧ ∀ x, x ≠ 62 → M' x = M x := by
  intro n
  induction n with
  | zero => intro k i M _ _ h; omega
  | succ n ih =>
    intro k i M h1 hik hk
    rw [f_X10_keepsParted_13, h1]
    match k with
    | 0 =>
      rw [if_pos (i32_len (by omega) (by omega))]
      exact ⟨M, rfl, fun c h1 h2 => by omega, fun y _ => rfl, fun x _ => rfl⟩
    | k + 1 =>
      have ei : Int32.ofNat w * 5 + Int32.ofNat i = Int32.ofNat (5 * w + i) := by
        rw [show Int32.ofNat w * 5 = Int32.ofNat (w * 5) from i32_mulN w 5, i32_addN, Nat.mul_comm]
      rw [if_neg (i32_nle (by omega) (by omega)), ei]
      simp only [grd, inb_ofNat (show i < 5 by omega) (by omega), inb_ofNat (show 5 * w + i < 185 by omega) (by omega), if_true, i32_clampN (show i < 2147483648 by omega), i32_clampN (show 5 * w + i < 2147483648 by omega), lt, i32_succ]
      obtain ⟨M', a1, a2, a3, a4⟩ := ih k (i + 1) (wr M 62 (5 * w + i) (M 22 i)) (by rw [wr_nrow (by decide)]; exact h1) (by omega) (by omega)
      refine ⟨M', a1, fun c h2 h3 => ?_, fun y hy => ?_, fun x hx => by rw [a4 x hx, wr_nrow hx]⟩
      · by_cases e : c = i
        · subst e; rw [a3 _ (by omega), wr_eq]
        · rw [a2 c (by omega) h3, wr_nrow (by decide)]
      · rw [a3 y (by omega), wr_nk (by omega)]
theorem c_kp {w : Nat} (hw : w < 37) (hnc : nc ≤ 5) (h1 : M 16 1 = Int32.ofNat nc) : ∃ M', f_X10_keepsParted 20000 (Int32.ofNat w) M = some (0, M') ∧ (∀ c, c < nc → M' 62 (5 * w + c) = M 22 c) ∧ (∀ y, y < 5 * w ∨ 5 * w + 5 ≤ y → M' 62 y = M 62 y) ∧ ∀ x, x ≠ 62 → M' x = M x := by
  obtain ⟨M', a1, a2, a3, a4⟩ := c_kp13 (N := 20000) hw hnc 20000 nc 0 M h1 (by omega) (by omega)
  refine ⟨M', ?_, fun c hc => a2 c (by omega) hc, fun y hy => a3 y (by omega), a4⟩
  unfold f_X10_keepsParted
  rw [if_neg (i32_nn (by omega)), if_pos (show Int32.ofNat w < (37 : Int32) from i32_ltn (n := 37) hw (by omega))]
  exact a1
theorem c_fits25 {nr s w at9 la : Nat} {e0 : Es} (hO : lwOK W) (hg : gdE nd nc W (Int32.ofNat s) e0) (hf : ∀ j, j < 3 * nr → f j < 256) (hv : vRows f nc nr 0 = true) (hnr : nr ≤ 4) (hw : w < 37) (hla : la ≤ 24) (hat : at9 ≤ la) : ∀ (n k t : Nat) (M : Mm), cLaw 25 W M → cTold f nr M → M 39 2 = Int32.ofNat s → slc 16 M = (sGo W (Int32.ofNat s) nc t e0).1 → M 41 = (sGo W (Int32.ofNat s) nc t e0).2.1 → t + k = la + 1 → k < n → ∃ M', f_X10_fits_25 20000 n (Int32.ofNat at9) (Int32.ofNat w) (Int32.ofNat la) (Int32.ofNat t) M = some (if tAll (fun u c => (sGo W (Int32.ofNat s) nc u e0).1 6 c) f nr k t = true then 1 else 0, M') ∧ (tAll (fun u c => (sGo W (Int32.ofNat s) nc u e0).1 6 c) f nr k t = true → t ≤ at9 → ∀ c, c < nc → M' 62 (5 * w + c) = (sGo W (Int32.ofNat s) nc at9 e0).1 6 c) ∧ (at9 < t → M' 62 = M 62) ∧ (∀ y, y < 5 * w ∨ 5 * w + 5 ≤ y → M' 62 y = M 62 y) ∧ tz (slc 16 M') ∧ ∀ x, (x < 16 ∨ 24 < x) → x ≠ 40 → x ≠ 41 → x ≠ 62 → M' x = M x := by
  have hnc : nc ≤ 5 := by obtain ⟨M, hR, -⟩ := hg; exact hR.1.2.1
  intro n
  induction n with
  | zero => intro k t M _ _ _ _ _ _ h; omega
  | succ n ih =>
    intro k t M hW hT h39 h16 h41 htk hk
    have hgt := gd_go hO t e0 hg
    have htz : tz (slc 16 M) := by rw [h16]; exact gd_tz hgt
    have hn1 : (sGo W (Int32.ofNat s) nc t e0).1 0 1 = Int32.ofNat nc := by obtain ⟨M, hR, -⟩ := hgt; exact hR.1.2.2.2.1
    rw [f_X10_fits_25]
    match k with
    | 0 =>
      rw [if_pos (i32_ltn (by omega) (by omega)), tAll, if_pos rfl]
      exact ⟨M, rfl, fun _ h => by omega, fun _ => rfl, fun y _ => rfl, htz, fun x _ _ _ _ => rfl⟩
    | k + 1 =>
      have ha := c_asTold2 (N := 20000) (t := t) (g := fun c => (sGo W (Int32.ofNat s) nc t e0).1 6 c) hT (fun c _ => slE h16 (i := 6) (by decide)) hf hv hnc hnr (by omega) 20000 nr 0 (by omega) (by omega)
      rw [if_neg (i32_nlt (by omega) (by omega)), show f_X10_asTold 20000 (Int32.ofNat t) M = _ from ha]
      simp only [bnd]
      rw [tAll]
      by_cases q : tAt (fun c => (sGo W (Int32.ofNat s) nc t e0).1 6 c) f t nr 0 = true
      · rw [if_pos q, if_neg (show ¬ (1 : Int32) = 0 by decide), q, Bool.true_and]
        -- from here on: kept or not, then a course ahead
        have key : ∀ M1 : Mm, (∀ x, x ≠ 62 → M1 x = M x) → (∀ y, y < 5 * w ∨ 5 * w + 5 ≤ y → M1 62 y = M 62 y) → (at9 = t → ∀ c, c < nc → M1 62 (5 * w + c) = (sGo W (Int32.ofNat s) nc at9 e0).1 6 c) → (at9 ≠ t → M1 62 = M 62) → ∃ M', f_X10_fits_54 20000 (fun v2 v3 v4 v5 M => f_X10_fits_25 20000 n v2 v3 v4 v5 M) (Int32.ofNat at9) (Int32.ofNat w) (Int32.ofNat la) (Int32.ofNat t) M1 = some (if tAll (fun u c => (sGo W (Int32.ofNat s) nc u e0).1 6 c) f nr k (t + 1) = true then 1 else 0, M') ∧ (tAll (fun u c => (sGo W (Int32.ofNat s) nc u e0).1 6 c) f nr k (t + 1) = true → t ≤ at9 → ∀ c, c < nc → M' 62 (5 * w + c) = (sGo W (Int32.ofNat s) nc at9 e0).1 6 c) ∧ (at9 < t → M' 62 = M 62) ∧ (∀ y, y < 5 * w ∨ 5 * w + 5 ≤ y → M' 62 y = M 62 y) ∧ tz (slc 16 M') ∧ ∀ x, (x < 16 ∨ 24 < x) → x ≠ 40 → x ≠ 41 → x ≠ 62 → M' x = M x := by
          intro M1 k1 k2 k3 k4
          have s1 : slc 16 M1 = slc 16 M := slc_ex (fun i hi => k1 _ (by omega))
          have hW1 : cLaw 25 W M1 := hW.frame (fun i hi => k1 _ (by omega))
          unfold f_X10_fits_54
          by_cases ql : la ≤ t
          · rw [if_pos (i32_len ql (by omega)), i32_succ]
            obtain ⟨n, rfl⟩ : ∃ m, n = m + 1 := ⟨n - 1, by omega⟩
            obtain rfl : k = 0 := by omega
            have ea : f_X10_fits_25 20000 (n + 1) (Int32.ofNat at9) (Int32.ofNat w) (Int32.ofNat la) (Int32.ofNat (t + 1)) M1 = some (1, M1) := by
              rw [f_X10_fits_25, if_pos (i32_ltn (by omega) (by omega))]
            rw [tAll, if_pos rfl]
            refine ⟨M1, ea, fun _ h9 => ?_, fun h9 => k4 (by omega), k2, by rw [s1]; exact htz, fun x _ _ _ h9 => k1 x h9⟩
            exact k3 (by omega)
          · rw [if_neg (i32_nle (by omega) (by omega))]
            obtain ⟨M2, c1, c2, c3, c4, c5⟩ := c_ahead (nc := nc) (W := W) (M := M1) (e := sGo W (Int32.ofNat s) nc t e0) hnc hW1 (s1.trans h16) (by rw [k1 41 (by decide)]; exact h41) hn1
            rw [show M1 39 2 = Int32.ofNat s from by rw [k1 39 (by decide)]; exact h39] at c1 c2 c3
            rw [c1]
            simp only [bnd, i32_succ]
            have e62 : M2 62 = M1 62 := c5 62 (by omega) (by decide) (by decide)
            obtain ⟨M3, d1, d2, d3, d4, d5, d6⟩ := ih k (t + 1) M2 (hW1.frame (fun i hi => c5 _ (by omega) (by omega) (by omega))) ⟨by rw [c5 0 (by omega) (by decide) (by decide), k1 0 (by decide)]; exact hT.1, fun j hj => by rw [c5 61 (by omega) (by decide) (by decide), k1 61 (by decide)]; exact hT.2 j hj⟩ (by rw [c5 39 (by omega) (by decide) (by decide), k1 39 (by decide)]; exact h39) (by rw [c2, sGo_s]) (by rw [c3, sGo_s]) (by omega) (by omega)
            refine ⟨M3, d1, fun h8 h9 => ?_, fun h9 => by rw [d3 (by omega), e62, k4 (by omega)], fun y hy => by rw [d4 y hy, e62, k2 y hy], d5, fun x h1 h2 h3 h4 => by rw [d6 x h1 h2 h3 h4, c5 x h1 h2 h3, k1 x h4]⟩
            by_cases e : at9 = t
            · intro c hc
              rw [d3 (by omega), e62]; exact k3 e c hc
            · exact d2 h8 (by omega)
        by_cases qa : t = at9
        · rw [if_pos (by rw [qa])]
          obtain ⟨M1, b1, b2, b3, b4⟩ := c_kp (M := M) hw hnc (by rw [show M 16 1 = (sGo W (Int32.ofNat s) nc t e0).1 0 1 from slE h16 (i := 0) (by decide)]; exact hn1)
          rw [b1]
          simp only []
          refine key M1 b4 b3 (fun h9 c hc => ?_) (fun h9 => absurd qa.symm h9)
          rw [b2 c hc, h9]; exact slE h16 (i := 6) (by decide)
        · rw [if_neg (fun h9 => qa ((i32_eqN (by omega) (by omega)).mp h9))]
          exact key M (fun x _ => rfl) (fun y _ => rfl) (fun h9 => absurd h9.symm qa) (fun _ => rfl)
      · rw [if_neg q, if_pos rfl, Bool.eq_false_iff.mpr q, Bool.false_and, if_neg (show ¬ false = true by decide)]
        exact ⟨M, rfl, fun h9 => (nomatch h9), fun _ => rfl, fun y _ => rfl, htz, fun x _ _ _ _ => rfl⟩
theorem c_fits {nr s w at9 : Nat} {M0 Mx : Mm} {tp2 : List Nat} (hC : cI (nd, nc, T, L) K ms im tp2 ft M0) (hm : mI (nd, nc, T, L) K ms im tp ft Mx) (hO : lwOK K.2) (hq : cQ M M0) (hT : cTold f nr M) (hf : ∀ j, j < 3 * nr → f j < 256) (hv : vRows f nc nr 0 = true) (hnr : nr ≤ 4) (hw : w < 37) (hat : at9 ≤ 24) : ∃ M', f_X10_fits 20000 (Int32.ofNat s) (Int32.ofNat at9) (Int32.ofNat w) M = some (if fitR (gB K.2 nc T L s) f nr 0 = true then 1 else 0, M') ∧ cQ M' M0 ∧ cTold f nr M' ∧ (fitR (gB K.2 nc T L s) f nr 0 = true → ∀ c, c < nc → M' 62 (5 * w + c) = gB K.2 nc T L s at9 c) ∧ ∀ y, y < 5 * w ∨ 5 * w + 5 ≤ y → M' 62 y = M 62 y := by
  have hR : RW nd nc T L (Mx 209) := hm.1
  have hI := hC.q hq
  have hs : slc 7 M = T := hI.1
  obtain ⟨M1, a1, a2, a3, a4, a5, a6⟩ := c_looksAhead (M := M) hI.2.2.2.2.2.2.2 (by rw [hs]; exact hR.2.2.2.2.2.2.2)
  obtain ⟨M2, b1, b2, b3, b4, b5⟩ := c_opens (N := 20000) (by decide) (v := Int32.ofNat s) (M := M1)
  have hT2 : cTold f nr M2 := ⟨by rw [b5 0 (by decide) (by decide), a6 0 (by omega) (by decide) (by decide)]; exact hT.1, fun j hj => by rw [b5 61 (by decide) (by decide), a6 61 (by omega) (by decide) (by decide)]; exact hT.2 j hj⟩
  have hla := c_lat (N := 20000) (M := M2) hT2 hf hnr 20000 nr 0 0 (by omega) (by omega) (by omega)
  obtain ⟨l1, l2, l3⟩ := lat_p (f := f) (m := 24) nr 0 0 (by omega) (fun j h1 h2 => (vRows_all nr 0 hv j h1 h2).2)
  obtain ⟨la, hla9⟩ : ∃ la, la = if at9 < lat f nr 0 0 then lat f nr 0 0 else at9 := ⟨_, rfl⟩
  have hl4 : at9 ≤ la ∧ lat f nr 0 0 ≤ la ∧ la ≤ 24 := by rw [hla9]; split <;> omega
  have s2 : slc 16 M2 = T := by rw [show slc 16 M2 = slc 16 M1 from slc_ex (fun i hi => b5 _ (by omega) (by omega)), a2, hs]
  obtain ⟨M3, c1, c2, c3, c4, c5, c6⟩ := c_fits25 (nd := nd) (nc := nc) (W := K.2) (f := f) (nr := nr) (s := s) (w := w) (at9 := at9) (la := la) (e0 := (T, M2 41, 0, L)) hO (gd_br (gd_I hm _ _)) hf hv hnr hw hl4.2.2 hl4.1 20000 (la + 1) 0 M2 (hI.2.2.1.1.frame (fun i hi => by rw [b5 _ (by omega) (by omega), a6 _ (by omega) (by omega) (by omega)])) hT2 b3 s2 rfl (by omega) (by omega)
  have hG : (fun u c => (sGo K.2 (Int32.ofNat s) nc u (T, M2 41, 0, L)).1 6 c) = gB K.2 nc T L s := by
    funext u c
    unfold gB
    rw [sgo_tk9 u (T, M2 41, 0, L) (T, (fun _ => 0), 0, L) rfl]
  rw [hG, all_fit (fun r hr => Nat.le_trans (l3 r (by omega) (by omega)) hl4.2.1)] at c1 c2
  refine ⟨M3, ?_, ?_, ⟨by rw [c6 0 (by omega) (by decide) (by decide) (by decide)]; exact hT2.1, fun j hj => by rw [c6 61 (by omega) (by decide) (by decide) (by decide)]; exact hT2.2 j hj⟩, fun h9 c hc => ?_, fun y hy => by rw [c4 y hy, b5 62 (by decide) (by decide), a6 62 (by omega) (by decide) (by decide)]⟩
  · unfold f_X10_fits
    rw [a1]
    simp only [bnd]
    rw [b1]
    simp only []
    rw [show f_X10_latestTold 20000 M2 = _ from hla]
    simp only [lt]
    have e : (if Int32.ofNat at9 < Int32.ofNat (lat f nr 0 0) then Int32.ofNat (lat f nr 0 0) else Int32.ofNat at9) = Int32.ofNat la := by
      rw [hla9]
      by_cases q : at9 < lat f nr 0 0
      · rw [if_pos q, if_pos (i32_ltn q (by omega))]
      · rw [if_neg q, if_neg (i32_nlt (by omega) (by omega))]
    rw [e]
    exact c1
  · obtain ⟨q1, q2, -⟩ := hq
    refine ⟨fun x hx => ?_, fun j hj => ?_, c5⟩
    · have hx' := hx
      unfold sc9 at hx'
      rw [c6 x (by omega) (by omega) (by omega) (by omega), b5 x (by omega) (by omega), a6 x (by omega) (by omega) (by omega)]; exact q1 x hx
    · rw [c6 0 (by omega) (by decide) (by decide) (by decide), b5 0 (by decide) (by decide), a6 0 (by omega) (by decide) (by decide)]; exact q2 j hj
  · rw [c2 h9 (by omega) c hc]
    unfold gB
    rw [sgo_tk9 at9 (T, M2 41, 0, L) (T, (fun _ => 0), 0, L) rfl]
end FC
