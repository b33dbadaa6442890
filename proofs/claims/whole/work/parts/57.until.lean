/-! Until free: class and reference alike. -/
def orN (x : Int32) : Int32 := if x < 1000000 then x else -1
theorem orN_far : orN 1000000 = -1 := by decide
theorem m_orN {N : Nat} {v : Int32} {M : Mm} : f_X11_orNone N v M = some (orN v, M) := by
  unfold f_X11_orNone orN
  split <;> rfl
section UE
variable {nd nc : Nat} {W : Lw} {br mask : Int32}
theorem heldL_row : ∀ (k i : Nat) (v : Int32) (T T' : Tb), T 6 = T' 6 → sHeldL k i v T = sHeldL k i v T' := by
  intro k
  induction k with
  | zero => intro i v T T' _; rfl
  | succ k ih => intro i v T T' h; rw [sHeldL, sHeldL, h]; exact ih _ _ _ _ h
theorem held_row {T T' : Tb} (h : T 6 = T' 6) : sHeld nc T = sHeld nc T' := heldL_row _ _ _ _ _ h
theorem itP_row6 : ∀ (k : Nat) (T : Tb), itP nc k T 6 = T 6 := by
  intro k
  induction k with
  | zero => intro T; rfl
  | succ k ih => intro T; rw [itP, ih, sPass_row (by decide) (by decide)]
theorem freed_far : ∀ (q g : Nat) (e : Es), (∀ j, ¬ (sHeld nc (sGo W br nc j e).1 &&& mask) = 0) → sFreed W br nc mask q g e = 1000000 := by
  intro q
  induction q with
  | zero => intro g e _; rfl
  | succ q ih =>
    intro g e h
    rw [sFreed, if_neg (show ¬ (sHeld nc e.1 &&& mask) = 0 from h 0)]
    exact ih (g + 1) _ (fun j => h (j + 1))
theorem until_eq (hO : lwOK W) : ∀ (n p g : Nat) (idle : Int32) (e : Es), (∃ k e0, k ≤ 60 ∧ idle = Int32.ofNat k ∧ gdE nd nc W br e0 ∧ e = sGo W br nc k e0 ∧ ∀ i, i < k → (sGo W br nc (i + 1) e0).2.2.1 ≤ 0) → g ≤ p → p ≤ 201 → p - g < n → sUntil W br nc mask (Int32.ofNat p - 1) n idle (Int32.ofNat g) e = orN (sFreed W br nc mask (p - g) g e) := by
  intro n
  induction n with
  | zero => intro p g idle e _ _ _ h; omega
  | succ n ih =>
    intro p g idle e hI hgp hp hn
    obtain ⟨k, e0, hk, ek, hg0, ee, hsum⟩ := hI
    have hge : gdE nd nc W br e := by rw [ee]; exact gd_go hO k e0 hg0
    rw [sUntil]
    by_cases q0 : p = g
    · subst q0
      rw [if_pos ((i32_m1 (by omega)).mpr (Int32.le_refl _)), Nat.sub_self, sFreed]; exact orN_far.symm
    · obtain ⟨q, hq⟩ : ∃ q, p - g = q + 1 := ⟨p - g - 1, by omega⟩
      rw [if_neg (fun h9 => absurd ((i32_m1 (by omega)).mp h9) (i32_nle (by omega) (by omega))), hq, sFreed]
      by_cases q1 : (sHeld nc e.1 &&& mask) = 0
      · rw [if_pos q1, if_pos q1]
        unfold orN
        rw [if_pos (show Int32.ofNat g < 1000000 from i32_ltn (n := 1000000) (by omega) (by omega))]
      · rw [if_neg q1, if_neg q1]
        have ep : Int32.ofNat p - 1 = Int32.ofNat (g + q) := by
          rw [show p = (g + q) + 1 from by omega, ← i32_succ]; grind
        rw [ep]
        by_cases q2 : q = 0
        · subst q2
          rw [if_pos (show Int32.ofNat g = Int32.ofNat (g + 0) from rfl), sFreed]; exact orN_far.symm
        · rw [if_neg (fun h9 => q2 (by have := (i32_eqN (by omega) (by omega)).mp h9; omega))]
          by_cases q3 : k < 60
          · rw [ek, if_pos (show Int32.ofNat k < 60 from i32_ltn (n := 60) q3 (by omega)), i32_succ, i32_succ, ← ep]
            have hq' : p - (g + 1) = q := by omega
            by_cases q4 : (sCalm W br nc e).2.2.1 ≤ 0
            · rw [if_pos q4, ih p (g + 1) _ (sCalm W br nc e) ⟨k + 1, e0, by omega, rfl, hg0, by rw [sGo_s, ← ee], fun i hi => ?_⟩ (by omega) hp (by omega), hq']
              by_cases q5 : i = k
              · subst q5; rw [sGo_s, ← ee]; exact q4
              · exact hsum i (by omega)
            · rw [if_neg q4, show (0 : Int32) = Int32.ofNat 0 from rfl, ih p (g + 1) _ (sCalm W br nc e) ⟨0, sCalm W br nc e, by omega, rfl, gd_calm hO hge, rfl, fun i hi => by omega⟩ (by omega) hp (by omega), hq']
          · have hk60 : k = 60 := by omega
            subst hk60
            rw [ek, if_neg (show ¬ Int32.ofNat 60 < 60 by decide)]
            have hev := idle_ever hO hg0 hsum
            rw [freed_far]
            · exact orN_far.symm
            · intro j
              have h1 : (sGo W br nc (j + 1) e).1 6 = e.1 6 := by
                rw [ee, ← sGo_add, (hev _).1, (hev _).1, itP_row6, itP_row6]
              rw [show sGo W br nc j (sCalm W br nc e) = sGo W br nc (j + 1) e from rfl, held_row h1]
              exact q1
/-! bits of what is held -/
theorem nF_bit {hb : Nat → Bool} : ∀ (k i : Nat) (v : Int32) (j : Nat), i + k ≤ 31 → j < 32 → hb9 (nF (fun v c => if hb c = true then v ||| ((1 : Int32) <<< (Int32.ofNat c &&& 31)) else v) k i v) j = (hb9 v j || (decide (i ≤ j ∧ j < i + k) && hb j)) := by
  intro k
  induction k with
  | zero => intro i v j _ _; rw [nF, decide_eq_false (by omega)]; simp
  | succ k ih =>
    intro i v j hik hj
    rw [nF, ih (i + 1) _ j (by omega) hj]
    by_cases q : hb i = true
    · rw [if_pos q, hB_or, hB_one (by omega)]
      by_cases e : j = i
      · subst e
        rw [decide_eq_true rfl, decide_eq_true (show j ≤ j ∧ j < j + (k + 1) by omega), q]; simp
      · rw [decide_eq_false e]
        by_cases e2 : i + 1 ≤ j ∧ j < i + 1 + k
        · rw [decide_eq_true e2, decide_eq_true (show i ≤ j ∧ j < i + (k + 1) by omega)]; simp
        · rw [decide_eq_false e2, decide_eq_false (show ¬ (i ≤ j ∧ j < i + (k + 1)) by omega)]; simp
    · rw [if_neg q]
      by_cases e : j = i
      · subst e
        have q' : hb j = false := by simpa using q
        rw [q']; simp
      · by_cases e2 : i + 1 ≤ j ∧ j < i + 1 + k
        · rw [decide_eq_true e2, decide_eq_true (show i ≤ j ∧ j < i + (k + 1) by omega)]
        · rw [decide_eq_false e2, decide_eq_false (show ¬ (i ≤ j ∧ j < i + (k + 1)) by omega)]
theorem held_mk {T : Tb} : sHeld nc T = mkB (fun c => !(decide (T 6 c ≤ 0))) nc := by
  have h : ∀ (k i : Nat) (v : Int32), sHeldL k i v T = nF (fun v c => if (!(decide (T 6 c ≤ 0))) = true then v ||| ((1 : Int32) <<< (Int32.ofNat c &&& 31)) else v) k i v := by
    intro k
    induction k with
    | zero => intro i v; rfl
    | succ k ih =>
      intro i v
      rw [sHeldL, nF, ih]
      by_cases q : T 6 i ≤ 0
      · rw [if_pos q, decide_eq_true q, i32_or0]; rfl
      · rw [if_neg q, decide_eq_false q]; rfl
  exact h _ _ _
theorem hb_held {T : Tb} (hnc : nc ≤ 5) {j : Nat} (hj : j < 32) : hb9 (sHeld nc T) j = (decide (j < nc) && !(decide (T 6 j ≤ 0))) := by
  rw [held_mk]
  unfold mkB
  rw [nF_bit nc 0 0 j (by omega) hj, hB_0, Bool.false_or]
  congr 1
  simp
theorem and_0 {x y : Int32} : (x &&& y) = 0 ↔ ∀ i, i < 32 → hb9 x i = true → hb9 y i = false := by
  constructor
  · intro h i hi hx
    have h1 : hb9 (x &&& y) i = false := by rw [h]; exact hB_0 i
    rw [hB_and, hx, Bool.true_and] at h1
    exact h1
  · intro h
    apply hB_ext
    intro i hi
    rw [hB_and, hB_0]
    cases q : hb9 x i
    · rfl
    · rw [h i hi q]; rfl
theorem held_all (hnc : nc ≤ 5) {T T0 : Tb} (h : ∀ j, j < nc → T 6 j ≤ T0 6 j) : (sHeld nc T &&& sHeld nc T0) = 0 ↔ (sHeld nc T &&& 31) = 0 := by
  have h31 : ∀ i, i < 32 → hb9 31 i = decide (i < 5) := by decide
  rw [and_0, and_0]
  constructor
  · intro h1 i hi hx
    exfalso
    have h2 := h1 i hi hx
    rw [hb_held hnc hi] at hx h2
    have hx' : i < nc ∧ ¬ T 6 i ≤ 0 := by simpa using hx
    have h2' : i < nc → T0 6 i ≤ 0 := by simpa using h2
    exact hx'.2 (Int32.le_trans (h i hx'.1) (h2' hx'.1))
  · intro h1 i hi hx
    exfalso
    have h2 := h1 i hi hx
    rw [hb_held hnc hi] at hx
    rw [h31 i hi] at h2
    have hx' : i < nc ∧ ¬ T 6 i ≤ 0 := by simpa using hx
    have h2' : ¬ i < 5 := by simpa using h2
    omega
theorem freed_all (hO : lwOK W) {T0 : Tb} : ∀ (q g : Nat) (e : Es), gdE nd nc W br e → (∀ j, j < nc → e.1 6 j ≤ T0 6 j) → sFreed W br nc (sHeld nc T0) q g e = sFreed W br nc 31 q g e := by
  intro q
  induction q with
  | zero => intro g e _ _; rfl
  | succ q ih =>
    intro g e hg h
    have hnc : nc ≤ 5 := by obtain ⟨M, hR, -⟩ := hg; exact hR.1.2.1
    rw [sFreed, sFreed]
    by_cases q1 : (sHeld nc e.1 &&& 31) = 0
    · rw [if_pos q1, if_pos ((held_all hnc h).mpr q1)]
    · rw [if_neg q1, if_neg (fun h9 => q1 ((held_all hnc h).mp h9))]
      obtain ⟨s, -, -, -, h4⟩ := calm_p hO hg
      exact ih (g + 1) _ (gd_calm hO hg) (fun j hj => Int32.le_trans (h4 j hj) (h j hj))
end UE
section UP
variable {nd nc : Nat} {T : Tb} {L : List Row} {K : LwS} {ms : List TbS} {im : Option (TbS × LwS)} {tp : List Nat} {ft : Int32} {M : Mm}
theorem gd_I (h : mI (nd, nc, T, L) K ms im tp ft M) (tk : Nat → Int32) (v : Int32) : gdE nd nc K.2 0 (T, tk, v, L) := ⟨M, h.1, h.2.1.1, h.2.2.2.2.2.2⟩
theorem gd_tz {W : Lw} {br : Int32} {e : Es} (h : gdE nd nc W br e) : tz e.1 := by obtain ⟨M, hR, -⟩ := h; exact hR.2.2.2.2.2.2.2
/-- the work table as the live one, with what is asked until it is free -/
theorem c_until {p : Nat} {mask : Int32} {M1 : Mm} {T' : Tb} (hO : lwOK K.2) (hW : cLaw 25 K.2 M1) (hp : p ≤ 201) (hg : gdE nd nc K.2 (M1 39 2) (T', M1 41, 0, L)) (hs : slc 16 M1 = T') : ∃ M2, f_X10_untilFree 20000 mask (Int32.ofNat p - 1) M1 = some (orN (sFreed K.2 (M1 39 2) nc mask p 0 (T', M1 41, 0, L)), M2) ∧ tz (slc 16 M2) ∧ ∀ x, (x < 16 ∨ 24 < x) → x ≠ 40 → x ≠ 41 → M2 x = M1 x := by
  have hnc : nc ≤ 5 := by obtain ⟨M, hR, -⟩ := hg; exact hR.1.2.1
  have hn1 : T' 0 1 = Int32.ofNat nc := by obtain ⟨M, hR, -⟩ := hg; exact hR.1.2.2.2.1
  have hmo : Int32.ofNat p - 1 < Int32.ofNat 201 := (i32_m1 (by omega)).mpr (i32_len hp (by omega))
  obtain ⟨M2, a1, ⟨e', a2, k, a3⟩, a4⟩ := c_untilFree_5 (mask := mask) (most := Int32.ofNat p - 1) hnc hmo 20000 0 0 (T', M1 41, 0, L) M1 hW hs rfl hn1 (by omega) (by omega)
  refine ⟨M2, ?_, ?_, a4⟩
  · have h9 := until_eq (nd := nd) (nc := nc) (W := K.2) (br := M1 39 2) (mask := mask) hO 20000 p 0 0 (T', M1 41, 0, L) ⟨0, _, by omega, rfl, hg, rfl, fun i hi => by omega⟩ (by omega) hp (by omega)
    unfold f_X10_untilFree
    rw [show (0 : Int32) = Int32.ofNat 0 from rfl] at a1 h9 ⊢
    rw [a1, h9, Nat.sub_zero]
  · rw [a2, a3]; exact gd_tz (gd_go hO k _ hg)
theorem P_frees {M : Mm} (h : InvM M) (v1 : Int32) : Kd (fun M => f_L_frees 20000 v1 M) (fun M => f_X11_frees 20000 v1 M) M := by
  obtain ⟨nd, nc, T, L, K, ms, im, tp, ft, h, hR, hs, hz, h70, h71, hnd, hnc⟩ := Ix h
  have hO : lwOK K.2 := h.2.2.1
  rcases i32_rng v1 (n := nc) (by omega) with ⟨c, hc, rfl⟩ | hb
  · obtain ⟨M1, a1, a2, a3, a4, a5, a6⟩ := c_looksAhead (M := M) h.1.2.2.2.2.2.2.2 (by rw [hs]; exact hR.2.2.2.2.2.2.2)
    obtain ⟨M2, b1, b2, b3⟩ := c_until (nd := nd) (nc := nc) (L := L) (K := K) (p := 201) (mask := (1 : Int32) <<< (Int32.ofNat c &&& 31)) (M1 := M1) (T' := T) hO (h.1.2.2.1.1.frame (fun i hi => a6 _ (by omega) (by omega) (by omega))) (by omega) (by rw [a4]; exact gd_I h.2.1 _ _) (a2.trans hs)
    rw [a4] at b1
    have hq : cQ M2 M := ⟨fun x hx => by
      unfold sc9 at hx
      rw [b3 x (by omega) (by omega) (by omega), a6 x (by omega) (by omega) (by omega)], fun j _ => by rw [b3 0 (by omega) (by omega) (by omega), a6 0 (by omega) (by omega) (by omega)], b2⟩
    refine Kr (F := fun M => f_X10_frees 20000 (Int32.ofNat c) M) (r := orN (sFreed K.2 0 nc ((1 : Int32) <<< (Int32.ofNat c &&& 31)) 201 0 (T, M1 41, 0, L))) (M1 := M2) (fun M => rfl) h ?_ hq (fun M' hm => ?_)
    · simp only [f_X10_frees, c_nC h71 hc (show nc ≤ 8 by omega), bnx, a1, bnd]
      rw [show (200 : Int32) = Int32.ofNat 201 - 1 from by decide, b1]
    · obtain ⟨M3, c1, c2, c3⟩ := m_freedIn (N := 20000) (mask := (1 : Int32) <<< (Int32.ofNat c &&& 31)) (e := (T, M1 41, 0, L)) rfl hO (mW hm (c := 0)) (mWl hm)
      rw [show (wr M' 208 0 0) 208 18 = 0 from by rw [wr_nk (by decide)]; exact hm.2.2.2.2.2.2] at c1
      refine ⟨M3, ?_, ?_, by rw [c3 208 (by decide) (by decide), wr_eq]⟩
      · simp only [f_X11_frees, lt, m_noC (mW hm).1.2.2.2.2.2 hc (show nc ≤ 8 by omega), bnd, if_true, m_th0, c1, m_orN]
      · exact mQ.trans ⟨fun x hx => c3 x (by omega) (by omega), c2, c3 _ (by decide) (by decide), c3 _ (by decide) (by decide), c3 _ (by decide) (by decide), fun j _ => by rw [c3 208 (by decide) (by decide)]⟩ mQ.t208
  · refine Kx (F := fun M => f_X10_frees 20000 v1 M) (e := "java/lang/IndexOutOfBoundsException") (code := 1) (M1 := M) (fun M => rfl) h ?_ hz (fun M => by simp) (by decide) (fun M' hm => ⟨wr (wr M' 208 0 0) 208 0 1, ?_, mQ.t208.trans mQ.t208, wr_eq⟩)
    · simp only [f_X10_frees, c_nCx h71 hb, bnx]
    · simp only [f_X11_frees, lt, m_noCx (mW hm).1.2.2.2.2.2 hb (show nc ≤ 8 by omega), bnd, m_th1, show ¬ (1 : Int32) = 0 from by decide, if_false]
theorem P_all {M : Mm} (h : InvM M) : Cd (fun M => f_X10_all 20000 M) (fun M => f_X11_all 20000 M) M := by
  obtain ⟨nd, nc, T, L, K, ms, im, tp, ft, h, hR, hs, hz, h70, h71, hnd, hnc⟩ := Ix h
  have hO : lwOK K.2 := h.2.2.1
  obtain ⟨M1, a1, a2, a3, a4, a5, a6⟩ := c_looksAhead (M := M) h.1.2.2.2.2.2.2.2 (by rw [hs]; exact hR.2.2.2.2.2.2.2)
  have s16 : slc 16 M1 = T := a2.trans hs
  have h161 : M1 16 1 = Int32.ofNat nc := (slE s16 (i := 0) (by decide)).trans hR.1.2.2.2.1
  have hg : gdE nd nc K.2 0 (T, M1 41, 0, L) := gd_I h.2.1 _ _
  obtain ⟨M2, b1, b2, b3⟩ := c_until (nd := nd) (nc := nc) (L := L) (K := K) (p := 201) (mask := sHeld nc T) (M1 := M1) (T' := T) hO (h.1.2.2.1.1.frame (fun i hi => a6 _ (by omega) (by omega) (by omega))) (by omega) (by rw [a4]; exact hg) s16
  rw [a4, freed_all hO 201 0 _ hg (fun j _ => Int32.le_refl _)] at b1
  have hq : cQ M2 M := ⟨fun x hx => by
    unfold sc9 at hx
    rw [b3 x (by omega) (by omega) (by omega), a6 x (by omega) (by omega) (by omega)], fun j _ => by rw [b3 0 (by omega) (by omega) (by omega), a6 0 (by omega) (by omega) (by omega)], b2⟩
  refine Cr (r := orN (sFreed K.2 0 nc 31 201 0 (T, M1 41, 0, L))) (M1 := M2) h ?_ hq (fun M' hm => ?_)
  · simp only [f_X10_all, a1, bnd, c_held hnc h161, s16]
    rw [show (200 : Int32) = Int32.ofNat 201 - 1 from by decide, b1]
  · obtain ⟨M3, c1, c2, c3⟩ := m_freedIn (N := 20000) (mask := 31) (e := (T, M1 41, 0, L)) rfl hO (mW hm (c := 0)) (mWl hm)
    rw [show (wr M' 208 0 0) 208 18 = 0 from by rw [wr_nk (by decide)]; exact hm.2.2.2.2.2.2] at c1
    refine ⟨M3, ?_, ?_⟩
    · simp only [f_X11_all, lt, bnd, c1, m_orN]
    · exact mQ.trans ⟨fun x hx => c3 x (by omega) (by omega), c2, c3 _ (by decide) (by decide), c3 _ (by decide) (by decide), c3 _ (by decide) (by decide), fun j _ => by rw [c3 208 (by decide) (by decide)]⟩ mQ.t208
end UP
