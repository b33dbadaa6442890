/-! One cellar's eater takes, in the reference's world. -/
theorem tellW_ne {w : Nat → Int32} {d c p : Int32} {j : Nat} (h : j < 109 ∨ 408 < j) (h10 : j ≠ 10) : tellW w d c p j = w j := by
  unfold tellW
  rw [if_neg h10, if_neg (by omega), if_neg (by omega), if_neg (by omega), if_neg (by omega), if_neg (by omega), if_neg (by omega)]
theorem updF_ne {f : Nat → Int32} {k j : Nat} {v : Int32} (h : j ≠ k) : updF f k v j = f j := by unfold updF; rw [if_neg h]
theorem updF_eq {f : Nat → Int32} {k : Nat} {v : Int32} : updF f k v k = v := by unfold updF; rw [if_pos rfl]
theorem i32_sub_ex {x p : Int32} {g : Nat} (hx : x = Int32.ofNat g) (hg : g ≤ 200) (h0 : 0 ≤ p) (h1 : p ≤ x) : ∃ k, k ≤ 200 ∧ x - p = Int32.ofNat k := by
  subst hx
  have h2 : 0 ≤ Int32.ofNat g - p := by
    have := Int32.le_iff_toInt_le.mp h1
    have h4 := Int32.le_iff_toInt_le.mp h0
    rw [i32_nat (by omega)] at this
    rw [show (0 : Int32).toInt = 0 from by decide] at h4
    apply Int32.le_iff_toInt_le.mpr
    rw [i32_sub (by rw [i32_nat (by omega)]; omega) (by rw [i32_nat (by omega)]; omega), i32_nat (by omega), show (0 : Int32).toInt = 0 from by decide]
    omega
  have h3 : Int32.ofNat g - p < Int32.ofNat 201 := by
    have := Int32.le_iff_toInt_le.mp h1
    have h4 := Int32.le_iff_toInt_le.mp h0
    rw [i32_nat (by omega)] at this
    rw [show (0 : Int32).toInt = 0 from by decide] at h4
    apply Int32.lt_iff_toInt_lt.mpr
    rw [i32_sub (by rw [i32_nat (by omega)]; omega) (by rw [i32_nat (by omega)]; omega), i32_nat (by omega), i32_nat (by omega)]
    omega
  obtain ⟨k, hk, e⟩ := i32_ex h2 h3 (by decide)
  exact ⟨k, by omega, e⟩
theorem i32_min_ex {x p : Int32} {h : Nat} {m : Nat} (hx : x = Int32.ofNat h) (hh : h ≤ m) (hm : m ≤ 100000) (h0 : 0 ≤ p) (h1 : p ≤ 100000) : ∃ k, k ≤ m ∧ (if x + p < Int32.ofNat m then x + p else Int32.ofNat m) = Int32.ofNat k := by
  subst hx
  by_cases e : Int32.ofNat h + p < Int32.ofNat m
  · rw [if_pos e]
    obtain ⟨q, hq, rfl⟩ := i32_ex (n := 100001) h0 (show p < Int32.ofNat 100001 by
      apply Int32.lt_iff_toInt_lt.mpr
      have h9 := Int32.le_iff_toInt_le.mp h1
      rw [i32_nat (by omega)]
      rw [show (100000 : Int32).toInt = 100000 from by decide] at h9
      omega) (by decide)
    rw [i32_addN] at e ⊢
    have := (i32_ltN (by omega) (by omega)).mp e
    exact ⟨h + q, by omega, rfl⟩
  · rw [if_neg e]; exact ⟨m, Nat.le_refl _, rfl⟩
set_option maxHeartbeats 4000000 in
theorem RW_take {nd nc : Nat} {T : Tb} {L : List Row} {w : Nat → Int32} {c dn tn g : Nat} {p : Int32} (hR : RW nd nc T L w) (hc : c < nc) (hd : dn < nd) (ht : tn < 6) (h5 : T 5 c = Int32.ofNat tn) (hg : g ≤ 200) (h6 : T 6 c = Int32.ofNat g) (hp0 : 0 ≤ p) (hp1 : p ≤ T 6 c) :
    RW nd nc (sTake T c (Int32.ofNat dn) p) (((T 0 5, T 0 4, Int32.ofNat dn, Int32.ofNat c, p) :: L).take 60) (tellW (updF (updF w (84 + 5 * c + 2) (T 6 c - p)) (12 + 9 * dn + 3 + tn) (if T 3 (6 * dn + tn) + p < 999 then T 3 (6 * dn + tn) + p else 999)) (Int32.ofNat dn) (Int32.ofNat c) p) := by
  obtain ⟨r0, r1, r2, r3, r4, r5, r6, r7⟩ := hR
  have hnd := r0.1
  have hnc := r0.2.1
  rw [sTake_eq (by omega) ht h5]
  generalize hhv : (if T 3 (6 * dn + tn) + p < 999 then T 3 (6 * dn + tn) + p else 999) = hv
  have hvb : ∃ k, k ≤ 999 ∧ hv = Int32.ofNat k := by
    obtain ⟨k, hk, e⟩ := (r6.2.2.2.1 dn hd).2 tn ht
    obtain ⟨q, hq, e2⟩ := i32_min_ex (x := T 3 (6 * dn + tn)) (p := p) (m := 999) e hk (by omega) hp0 (by
      refine Int32.le_trans hp1 ?_
      rw [h6]; exact (i32_leN (b := 100000) (by omega) (by omega)).mpr (by omega))
    exact ⟨q, hq, by rw [← hhv]; exact e2⟩
  have hlow : ∀ j, j < 12 → j ≠ 10 → tellW (updF (updF w (84 + 5 * c + 2) (T 6 c - p)) (12 + 9 * dn + 3 + tn) hv) (Int32.ofNat dn) (Int32.ofNat c) p j = w j := fun j hj h10 => by
    rw [tellW_ne (by omega) h10, updF_ne (by omega), updF_ne (by omega)]
  have hmid : ∀ j, 12 ≤ j → j < 109 → j ≠ 84 + 5 * c + 2 → j ≠ 12 + 9 * dn + 3 + tn → tellW (updF (updF w (84 + 5 * c + 2) (T 6 c - p)) (12 + 9 * dn + 3 + tn) hv) (Int32.ofNat dn) (Int32.ofNat c) p j = w j := fun j hj h10 h8 h9 => by
    rw [tellW_ne (by omega) (by omega), updF_ne h9, updF_ne h8]
  have hrow : ∀ i, i ≠ 3 → i ≠ 6 → (wr (wr T 6 c (T 6 c - p)) 3 (6 * dn + tn) hv) i = T i := fun i x y => by rw [wr_nrow x, wr_nrow y]
  refine ⟨?_, ?_, ?_, ?_, ?_, ?_, ?_, ?_⟩
  · obtain ⟨a1, a2, a3, a4, a5, a6⟩ := r0
    exact ⟨a1, a2, by rw [hrow 0 (by decide) (by decide)]; exact a3, by rw [hrow 0 (by decide) (by decide)]; exact a4, by rw [hlow 0 (by decide) (by decide)]; exact a5, by rw [hlow 1 (by decide) (by decide)]; exact a6⟩
  · unfold rScal
    rw [hrow 0 (by decide) (by decide), hlow 6 (by decide) (by decide), hlow 4 (by decide) (by decide), hlow 5 (by decide) (by decide), hlow 7 (by decide) (by decide), hlow 8 (by decide) (by decide), hlow 9 (by decide) (by decide), hlow 11 (by decide) (by decide), hlow 2 (by decide) (by decide)]
    exact r1
  · unfold rSeat
    rw [hrow 1 (by decide) (by decide)]
    refine ⟨fun d hd9 => ?_, fun s hs => ?_⟩
    · rw [hmid _ (by omega) (by omega) (by omega) (by omega)]; exact r2.1 d hd9
    · rcases r2.2 s hs with e | ⟨d, hd9, e1, e2⟩
      · exact Or.inl e
      · exact Or.inr ⟨d, hd9, e1, by rw [hmid _ (by omega) (by omega) (by omega) (by omega)]; exact e2⟩
  · intro d hd9
    obtain ⟨b1, b2, b3⟩ := r3 d hd9
    refine ⟨by rw [hrow 2 (by decide) (by decide), hmid _ (by omega) (by omega) (by omega) (by omega)]; exact b1, ?_, fun t ht9 => ?_⟩
    · rw [hmid _ (by omega) (by omega) (by omega) (by omega), b2]
      unfold sDiet
      rw [hrow 0 (by decide) (by decide)]
    · by_cases e : d = dn ∧ t = tn
      · obtain ⟨rfl, rfl⟩ := e
        rw [wr_eq, tellW_ne (by omega) (by omega), updF_eq]
      · rw [wr_nk (by omega), wr_ne (by decide), hmid _ (by omega) (by omega) (by omega) (by omega)]
        exact b3 t ht9
  · intro c9 hc9 k hk
    by_cases e : c9 = c ∧ k = 2
    · obtain ⟨rfl, rfl⟩ := e
      rw [wr_ne (by decide), wr_eq, tellW_ne (by omega) (by omega), updF_ne (by omega), updF_eq]
    · rw [hmid _ (by omega) (by omega) (by omega) (by omega), wr_ne (by omega)]
      by_cases e2 : k = 2
      · rw [wr_nk (by omega)]; exact r4 c9 hc9 k hk
      · rw [wr_ne (by omega)]; exact r4 c9 hc9 k hk
  · obtain ⟨a1, a2, a3⟩ := r5
    have hl : ∀ j, 109 ≤ j → j < 409 → updF (updF w (84 + 5 * c + 2) (T 6 c - p)) (12 + 9 * dn + 3 + tn) hv j = w j := fun j x y => by rw [updF_ne (by omega), updF_ne (by omega)]
    have hl2 : ∀ j, j < 12 → updF (updF w (84 + 5 * c + 2) (T 6 c - p)) (12 + 9 * dn + 3 + tn) hv j = w j := fun j x => by rw [updF_ne (by omega), updF_ne (by omega)]
    refine ⟨by rw [List.length_take]; omega, ?_, fun k hk => ?_⟩
    · rw [List.length_take, List.length_cons]
      unfold tellW
      rw [if_pos rfl, hl2 10 (by decide), a2, i32_succ]
      by_cases h60 : L.length + 1 < 60
      · rw [if_pos (show Int32.ofNat (L.length + 1) < (60 : Int32) from (i32_ltN (b := 60) (by omega) (by omega)).mpr h60), Nat.min_eq_right (by omega)]
      · rw [if_neg (show ¬ Int32.ofNat (L.length + 1) < (60 : Int32) from fun h9 => h60 ((i32_ltN (b := 60) (by omega) (by omega)).mp h9)), Nat.min_eq_left (by omega)]; rfl
    · have hk60 : k < 60 ∧ k < L.length + 1 := by
        rw [List.length_take, List.length_cons] at hk; omega
      rw [List.getElem_take]
      match k with
      | 0 =>
        unfold tellW
        rw [List.getElem_cons_zero]
        refine ⟨?_, ?_, ?_, ?_, ?_⟩
        · show updF _ _ _ 5 = _; rw [hl2 5 (by decide)]; exact r1.2.2.1
        · show updF _ _ _ 4 = _; rw [hl2 4 (by decide)]; exact r1.2.1
        · rfl
        · rfl
        · rfl
      | k + 1 =>
        rw [List.getElem_cons_succ]
        obtain ⟨b1, b2, b3, b4, b5⟩ := a3 k (by omega)
        have hs : ∀ j, 114 ≤ j → j ≤ 408 → tellW (updF (updF w (84 + 5 * c + 2) (T 6 c - p)) (12 + 9 * dn + 3 + tn) hv) (Int32.ofNat dn) (Int32.ofNat c) p j = w (j - 5) := fun j x y => by
          unfold tellW
          rw [if_neg (by omega), if_neg (by omega), if_neg (by omega), if_neg (by omega), if_neg (by omega), if_neg (by omega), if_pos ⟨x, y⟩, hl _ (by omega) (by omega)]
        refine ⟨?_, ?_, ?_, ?_, ?_⟩
        · rw [hs _ (by omega) (by omega), ← b1]; congr 1
        · rw [hs _ (by omega) (by omega), ← b2]; congr 1
        · rw [hs _ (by omega) (by omega), ← b3]; congr 1
        · rw [hs _ (by omega) (by omega), ← b4]; congr 1
        · rw [hs _ (by omega) (by omega), ← b5]; congr 1
  · obtain ⟨a1, a2, a3, a4, a5⟩ := r6
    unfold rB
    rw [hrow 0 (by decide) (by decide), hrow 2 (by decide) (by decide), hrow 4 (by decide) (by decide), hrow 5 (by decide) (by decide), hrow 7 (by decide) (by decide), hrow 8 (by decide) (by decide)]
    refine ⟨a1, a2, a3, fun d hd9 => ⟨(a4 d hd9).1, fun t ht9 => ?_⟩, fun c9 hc9 => ?_⟩
    · by_cases e : d = dn ∧ t = tn
      · obtain ⟨rfl, rfl⟩ := e
        rw [wr_eq]; exact hvb
      · rw [wr_nk (by omega), wr_ne (by decide)]; exact (a4 d hd9).2 t ht9
    · obtain ⟨b1, b2, b3, b4, b5⟩ := a5 c9 hc9
      refine ⟨b1, b2, ?_, b4, b5⟩
      rw [wr_ne (by decide)]
      by_cases e : c9 = c
      · subst e; rw [wr_eq]
        exact i32_sub_ex h6 hg hp0 hp1
      · rw [wr_nk e]; exact b3
  · exact tz_wr (tz_wr r7 (show c < 5 by omega)) (show 6 * dn + tn < 48 by omega)
/-- a pinch of nothing changes nothing -/
theorem sTake_0 {nd nc : Nat} {T : Tb} {c dn tn : Nat} (h6 : rB nd nc T) (hnd : nd ≤ 8) (hd : dn < nd) (ht : tn < 6) (h5 : T 5 c = Int32.ofNat tn) : sTake T c (Int32.ofNat dn) 0 = T := by
  rw [sTake_eq (by omega) ht h5]
  obtain ⟨k, hk, e⟩ := (h6.2.2.2.1 dn hd).2 tn ht
  have e0 : (if T 3 (6 * dn + tn) + 0 < 999 then T 3 (6 * dn + tn) + 0 else 999) = T 3 (6 * dn + tn) := by
    rw [Int32.add_zero]
    by_cases q : T 3 (6 * dn + tn) < 999
    · rw [if_pos q]
    · rw [if_neg q, e]
      have : ¬ k < 999 := fun h9 => q (by rw [e]; exact (i32_ltN (b := 999) (by omega) (by omega)).mpr h9)
      rw [show k = 999 from by omega]; rfl
  rw [e0, Int32.sub_zero, ← wr_same (M := T) (a := 6) (k := c) rfl, ← wr_same (M := T) (a := 3) (k := 6 * dn + tn) rfl]
def pE (W : Lw) (br : Int32) (T : Tb) (c : Nat) : Int32 := if sWho T c < 0 then 0 else if 8 ≤ sWho T c then 0 else if T 6 c ≤ 0 then 0 else sP W br T c (sWho T c)
theorem updF_same {f : Nat → Int32} {k : Nat} : updF f k (f k) = f := by
  funext j; unfold updF; split
  · rename_i h; rw [h]
  · rfl
theorem m_eats {nd nc : Nat} {T : Tb} {tk : Nat → Int32} {L : List Row} {W : Lw} {c : Nat} {M : Mm} {sm : Int32} (hO : lwOK W) (hc : c < nc) (hR : RW nd nc T L (M 209)) (hW : wLaw W M) :
    ∃ M', f_X11_eats 20000 (Int32.ofNat c) M = some (pE W (M 208 18) T c, M') ∧ (sEat W (M 208 18) c (T, tk, sm, L)).2.2.1 = sm + pE W (M 208 18) T c ∧
      (sEat W (M 208 18) c (T, tk, sm, L)).2.1 = (if sWho T c = -1 then tk else updF tk (sWho T c).toNatClampNeg (tk (sWho T c).toNatClampNeg + pE W (M 208 18) T c)) ∧
      RW nd nc (sEat W (M 208 18) c (T, tk, sm, L)).1 (sEat W (M 208 18) c (T, tk, sm, L)).2.2.2 (M' 209) ∧ M' 209 3 = M 209 3 ∧ (∀ j, 409 ≤ j → M' 209 j = M 209 j) ∧ ∀ x, x ≠ 209 → x ≠ 216 → M' x = M x := by
  have hR0 := hR
  obtain ⟨r0, r1, r2, r3, r4, r5, r6, r7⟩ := hR
  have hnd := r0.1
  have hnc := r0.2.1
  obtain ⟨⟨pl, hpl, epl⟩, ⟨tn, ht, h5⟩, ⟨g, hg, h6⟩, -⟩ := r6.2.2.2.2 c hc
  have hw : sWho T c = -1 ∨ ∃ dn, dn < nd ∧ sWho T c = Int32.ofNat dn := by
    rw [sWho_pl hpl epl]
    rcases r2.2 pl hpl with e | ⟨d, hd, e1, -⟩
    · exact Or.inl e
    · exact Or.inr ⟨d, hd, e1⟩
  have hg0 : 0 ≤ T 6 c := by rw [h6]; exact i32_ge0 (by omega)
  unfold f_X11_eats
  rw [m_eaterOf hR0 hc]
  simp only [bnd]
  rcases hw with e | ⟨dn, hdn, e⟩
  · rw [e, if_pos rfl]
    unfold f_X11_eats_21 f_X11_eats_46 pE sEat
    simp only [e, if_true, show ((-1 : Int32) < 0) = True from by decide]
    exact ⟨M, rfl, by rw [Int32.add_zero], trivial, hR0, rfl, fun _ _ => rfl, fun _ _ _ => rfl⟩
  · have hne : ¬ sWho T c = -1 := fun h9 => by
      rw [e] at h9
      have := i32_nn (k := dn) (by omega)
      rw [h9] at this
      exact this (by decide)
    rw [if_neg hne, if_neg hne]
    obtain ⟨M1, a1, a2⟩ := m_pinchOf (c := c) (d := dn) hO hc hdn hR0 hW
    rw [e, a1]
    dsimp only
    have hR1 : RW nd nc T L (M1 209) := by rw [a2 209 (by decide)]; exact hR0
    have hpE : pE W (M 208 18) T c = sP W (M 208 18) T c (Int32.ofNat dn) := by
      unfold pE
      rw [e, if_neg (i32_nn (by omega)), if_neg (show ¬ (8 : Int32) ≤ Int32.ofNat dn from fun h9 => by have := (i32_leN (a := 8) (by omega) (by omega)).mp h9; omega)]
      by_cases q : T 6 c ≤ 0
      · rw [if_pos q]
        have h9 := sP_le (W := W) (br := M 208 18) (T := T) (c := c) (d := Int32.ofNat dn) (by omega) hg0
        exact (Int32.le_antisymm (Int32.le_trans h9.2 q) h9.1).symm
      · rw [if_neg q]
    have h46 : ∀ p, p = sP W (M 208 18) T c (Int32.ofNat dn) → ∃ M', f_X11_eats_46 20000 (Int32.ofNat c) (Int32.ofNat dn) p M1 = some (p, M') ∧
        (if p = 0 then M' = M1 else (M' 209 = tellW (updF (updF (M 209) (84 + 5 * c + 2) (T 6 c - p)) (12 + 9 * dn + 3 + tn) (if T 3 (6 * dn + tn) + p < 999 then T 3 (6 * dn + tn) + p else 999)) (Int32.ofNat dn) (Int32.ofNat c) p ∧ ∀ x, x ≠ 209 → M' x = M1 x)) := fun p hp => by
      unfold f_X11_eats_46
      by_cases q : p = 0
      · rw [if_pos q]
        exact ⟨M1, by rw [q], by rw [if_pos q]⟩
      · rw [if_neg q]
        rw [show (1 : Int32) = Int32.ofNat 1 from rfl, m_ofCellar (by omega) (by decide), hR1.2.2.2.2.1 c hc 1 (by decide)]
        simp only [bnd]
        unfold f_X11_dinerAt f_X11_cellarAt
        simp only [bnd]
        rw [show T (4 + 1) c = T 5 c from rfl, h5, show (3 : Int32) + Int32.ofNat tn = Int32.ofNat (3 + tn) from i32_addN 3 tn, m_dAt, show (2 : Int32) = Int32.ofNat 2 from rfl, m_cAt]
        simp only [grd, lt, inb_ofNat (show 12 + 9 * dn + (3 + tn) < 2107 by omega) (by omega), inb_ofNat (show 84 + 5 * c + 2 < 2107 by omega) (by omega), if_true, i32_clampN (show 12 + 9 * dn + (3 + tn) < 2147483648 by omega), i32_clampN (show 84 + 5 * c + 2 < 2147483648 by omega)]
        rw [wr_nk (show 12 + 9 * dn + (3 + tn) ≠ 84 + 5 * c + 2 by omega)]
        have w1 : M1 209 (84 + 5 * c + 2) = T 6 c := hR1.2.2.2.2.1 c hc 2 (by decide)
        have w2 : M1 209 (12 + 9 * dn + (3 + tn)) = T 3 (6 * dn + tn) := by
          rw [← (hR1.2.2.2.1 dn hdn).2.2 tn ht]; congr 1; omega
        rw [w1, w2]
        obtain ⟨M2, b1, b2, b3⟩ := m_tells (d := Int32.ofNat dn) (c := Int32.ofNat c) (p := p) (M := wr (wr M1 209 (84 + 5 * c + 2) (T 6 c - p)) 209 (12 + 9 * dn + (3 + tn)) (if T 3 (6 * dn + tn) + p < 999 then T 3 (6 * dn + tn) + p else 999))
        rw [b1]
        refine ⟨M2, rfl, ?_⟩
        rw [if_neg q]
        refine ⟨?_, fun x hx => by rw [b3 x hx, wr_nrow hx, wr_nrow hx]⟩
        rw [b2, wr_row, wr_row, a2 209 (by decide), show 12 + 9 * dn + (3 + tn) = 12 + 9 * dn + 3 + tn from by omega]
    have h21 : ∃ M', f_X11_eats_21 20000 (Int32.ofNat c) (Int32.ofNat dn) (sPinch W (sFx T (Int32.ofNat c) (Int32.ofNat dn))) M1 = some (sP W (M 208 18) T c (Int32.ofNat dn), M') ∧
        (if sP W (M 208 18) T c (Int32.ofNat dn) = 0 then M' = M1 else (M' 209 = tellW (updF (updF (M 209) (84 + 5 * c + 2) (T 6 c - sP W (M 208 18) T c (Int32.ofNat dn))) (12 + 9 * dn + 3 + tn) (if T 3 (6 * dn + tn) + sP W (M 208 18) T c (Int32.ofNat dn) < 999 then T 3 (6 * dn + tn) + sP W (M 208 18) T c (Int32.ofNat dn) else 999)) (Int32.ofNat dn) (Int32.ofNat c) (sP W (M 208 18) T c (Int32.ofNat dn)) ∧ ∀ x, x ≠ 209 → M' x = M1 x)) := by
      rw [e] at hne
      have hp0 : 0 ≤ sPinch W (sFx T (Int32.ofNat c) (Int32.ofNat dn)) := by
        rw [sPinch_t]
        split
        · unfold sTaken
          rw [sFx_3 (by omega)]; exact (sCut_le hg0).1
        · decide
      unfold f_X11_eats_21 f_X11_holds
      rw [if_neg hne, a2 208 (by decide)]
      by_cases q : ((M 208 18 >>> (Int32.ofNat dn &&& 31)) &&& 1) = 1
      · rw [if_pos q]
        simp only [bnd, lt]
        rw [if_neg (show ¬ (1 : Int32) = 0 by decide)]
        have hsp : (if 0 < sPinch W (sFx T (Int32.ofNat c) (Int32.ofNat dn)) - 1 then sPinch W (sFx T (Int32.ofNat c) (Int32.ofNat dn)) - 1 else 0) = sP W (M 208 18) T c (Int32.ofNat dn) := by
          unfold sP
          rw [if_pos q]
          generalize sPinch W (sFx T (Int32.ofNat c) (Int32.ofNat dn)) = z at hp0
          grind
        rw [hsp]
        exact h46 _ rfl
      · rw [if_neg q]
        simp only [bnd]
        rw [if_pos trivial]
        have hsp : sPinch W (sFx T (Int32.ofNat c) (Int32.ofNat dn)) = sP W (M 208 18) T c (Int32.ofNat dn) := by
          unfold sP
          rw [if_neg q]
          split <;> rfl
        rw [hsp]
        exact h46 _ rfl
    obtain ⟨M2, b1, b2⟩ := h21
    have hEq : sEat W (M 208 18) c (T, tk, sm, L) = (sTake T c (Int32.ofNat dn) (sP W (M 208 18) T c (Int32.ofNat dn)), updF tk dn (tk dn + sP W (M 208 18) T c (Int32.ofNat dn)), sm + sP W (M 208 18) T c (Int32.ofNat dn), if sP W (M 208 18) T c (Int32.ofNat dn) ≤ 0 then L else ((T 0 5, T 0 4, Int32.ofNat dn, Int32.ofNat c, sP W (M 208 18) T c (Int32.ofNat dn)) :: L).take 60) := by
      unfold sEat
      simp only [e]
      rw [if_neg (i32_nn (by omega)), if_neg (show ¬ (8 : Int32) ≤ Int32.ofNat dn from fun h9 => by have := (i32_leN (a := 8) (by omega) (by omega)).mp h9; omega), i32_clampN (by omega)]
      by_cases q : T 6 c ≤ 0
      · rw [if_pos q]
        have h9 := sP_le (W := W) (br := M 208 18) (T := T) (c := c) (d := Int32.ofNat dn) (by omega) hg0
        have hz : sP W (M 208 18) T c (Int32.ofNat dn) = 0 := Int32.le_antisymm (Int32.le_trans h9.2 q) h9.1
        rw [hz, sTake_0 r6 hnd hdn ht h5, Int32.add_zero, Int32.add_zero, updF_same, if_pos (by decide)]
      · rw [if_neg q]
    rw [hEq, hpE]
    have h9 := sP_le (W := W) (br := M 208 18) (T := T) (c := c) (d := Int32.ofNat dn) (by omega) hg0
    generalize sP W (M 208 18) T c (Int32.ofNat dn) = p at b1 b2 h9 ⊢
    by_cases q : p = 0
    · rw [if_pos q] at b2
      subst b2
      refine ⟨M2, b1, rfl, by rw [i32_clampN (by omega)], ?_, by rw [a2 209 (by decide)], fun j _ => by rw [a2 209 (by decide)], fun x _ x2 => a2 x x2⟩
      dsimp only
      rw [q, sTake_0 r6 hnd hdn ht h5, if_pos (by decide)]
      exact hR1
    · rw [if_neg q] at b2
      obtain ⟨c1, c2⟩ := b2
      refine ⟨M2, b1, rfl, by rw [i32_clampN (by omega)], ?_, ?_, fun j hj => ?_, fun x x1 x2 => (c2 x x1).trans (a2 x x2)⟩
      · dsimp only
        rw [if_neg (fun h8 => q (Int32.le_antisymm h8 h9.1)), c1]
        exact RW_take hR0 hc hdn ht h5 hg h6 h9.1 h9.2
      · rw [c1, tellW_ne (by omega) (by omega), updF_ne (by omega), updF_ne (by omega)]
      · rw [c1, tellW_ne (by omega) (by omega), updF_ne (by omega), updF_ne (by omega)]
