/-! The fewest diners: the class and the reference. -/
section FY
variable {nd nc : Nat} {T : Tb} {L : List Row} {K : LwS} {ms : List TbS} {im : Option (TbS × LwS)} {tp : List Nat} {ft : Int32} {W : Lw} {br mask : Int32}
def fl9 (nd : Nat) : Int32 := ((1 : Int32) <<< (Int32.ofNat nd &&& 31)) - 1
def dS (nd : Nat) (v : Int32) : Int32 := fl9 nd &&& (v ^^^ (-1 : Int32))
theorem fl_v (h : nd ≤ 8) : ((1 : Int32) <<< (Int32.ofNat nd &&& 31)) = Int32.ofNat (2 ^ nd) ∧ fl9 nd = Int32.ofNat (2 ^ nd - 1) := by
  have h9 : ∀ n, n < 9 → ((1 : Int32) <<< (Int32.ofNat n &&& 31)) = Int32.ofNat (2 ^ n) ∧ ((1 : Int32) <<< (Int32.ofNat n &&& 31)) - 1 = Int32.ofNat (2 ^ n - 1) := by decide +kernel
  exact h9 nd (by omega)
theorem fl_b (h : nd ≤ 8) {i : Nat} (hi : i < 32) : hb9 (fl9 nd) i = decide (i < nd) := by
  have h9 : ∀ n, n < 9 → ∀ i, i < 32 → hb9 (((1 : Int32) <<< (Int32.ofNat n &&& 31)) - 1) i = decide (i < n) := by decide +kernel
  exact h9 nd (by omega) i hi
def fwR (o : Option Nat) : Int32 := match o with
  | none => -1
  | some s => Int32.ofNat s
def fwK (W : Lw) (nd nc : Nat) (T : Tb) (L : List Row) (c t : Nat) (s : Nat) : Bool := decide ((sGo W 0 nc t (wr T 0 2 (dS nd (Int32.ofNat s)), (fun _ => 0), 0, L)).1 6 c ≤ 0)
theorem wr_w2 {x y : Int32} : wr (wr T 0 2 x) 0 2 y = wr T 0 2 y := by
  funext i j
  by_cases h : i = 0
  · subst h
    by_cases h2 : j = 2
    · subst h2; rw [wr_eq, wr_eq]
    · rw [wr_nk h2, wr_nk h2, wr_nk h2]
  · rw [wr_nrow h, wr_nrow h, wr_nrow h]
theorem wr_s2 : wr T 0 2 (T 0 2) = T := by
  funext i j
  by_cases h : i = 0
  · subst h
    by_cases h2 : j = 2
    · subst h2; rw [wr_eq]
    · rw [wr_nk h2]
  · rw [wr_nrow h]
theorem c_few43 {M0 : Mm} {c t z : Nat} {k28 : Int32 → Int32 → Int32 → Int32 → Mm → Option ((Int32 ⊕ String) × Mm)} (h : InvS (nd, nc, T, L) K ms im tp ft M0) (hc : c < nc) (ht : t ≤ 24) (hz9 : z ≤ 8) : ∀ (n k i : Nat) (M : Mm), cQ M M0 → i + k = 2 ^ nd → k < n → ∃ M', f_X10_fewest_43 20000 k28 n (Int32.ofNat c) (Int32.ofNat t) (fl9 nd) (Int32.ofNat z) (Int32.ofNat i) M = (match fwI (fwK K.2 nd nc T L c t) z k i with | none => k28 (Int32.ofNat c) (Int32.ofNat t) (fl9 nd) (Int32.ofNat (z + 1)) M' | some s => some (.inl (Int32.ofNat s), M')) ∧ cQ M' M0 := by
  have hR : RW nd nc T L (M0 209) := h.2.1.1
  have hO : lwOK K.2 := h.2.2.1
  have hnc := hR.1.2.1
  have hnd := hR.1.1
  have hN : 2 ^ nd ≤ 256 := Nat.pow_le_pow_right (n := 2) (by decide) hnd
  have hN1 : 1 ≤ 2 ^ nd := Nat.one_le_two_pow
  intro n
  induction n with
  | zero => intro k i M _ _ h; omega
  | succ n ih =>
    intro k i M hq hik hk
    rw [f_X10_fewest_43]
    match k with
    | 0 =>
      rw [if_pos (by rw [(fl_v hnd).2]; exact i32_ltn (by omega) (by omega)), i32_succ]
      exact ⟨M, rfl, hq⟩
    | k + 1 =>
      have hb := bc_N (s := i) (by omega)
      rw [if_neg (by rw [(fl_v hnd).2]; exact i32_nlt (by omega) (by omega)), j_bc, hb.1]
      simp only [bnd]
      rw [fwI]
      by_cases qz : bcN i = z
      · rw [if_pos (by rw [qz])]
        have hI := h.1.q hq
        have hs : slc 7 M = T := hI.1
        obtain ⟨M1, a1, a2, a3, a4, a5, a6⟩ := c_looksAhead (M := M) hI.2.2.2.2.2.2.2 (by rw [hs]; exact hR.2.2.2.2.2.2.2)
        rw [a1]
        simp only [lt]
        have s2 : slc 16 (wr M1 16 2 (fl9 nd &&& (Int32.ofNat i ^^^ (-1 : Int32)))) = wr T 0 2 (dS nd (Int32.ofNat i)) := by rw [slc_w0, a2, hs]; rfl
        have hgd : gdE nd nc K.2 0 (wr T 0 2 (dS nd (Int32.ofNat i)), (wr M1 16 2 (fl9 nd &&& (Int32.ofNat i ^^^ (-1 : Int32)))) 41, 0, L) := gd_diet hO (gd_I h.2.1 _ _)
        have e39 : (wr M1 16 2 (fl9 nd &&& (Int32.ofNat i ^^^ (-1 : Int32)))) 39 2 = 0 := by rw [wr_nrow (by decide)]; exact a4
        obtain ⟨M3, c1, c2, c3⟩ := c_until (nd := nd) (nc := nc) (L := L) (K := K) (p := t + 1) (mask := (1 : Int32) <<< (Int32.ofNat c &&& 31)) (M1 := wr M1 16 2 (fl9 nd &&& (Int32.ofNat i ^^^ (-1 : Int32)))) hO (hI.2.2.1.1.frame (fun i hi => by rw [wr_nrow (by omega), a6 _ (by omega) (by omega) (by omega)])) (by omega) (by rw [e39]; exact hgd) s2
        rw [e39, fr_N, fr_tk (t + 1) 0 (wr T 0 2 (dS nd (Int32.ofNat i)), (wr M1 16 2 (fl9 nd &&& (Int32.ofNat i ^^^ (-1 : Int32)))) 41, 0, L) (wr T 0 2 (dS nd (Int32.ofNat i)), (fun _ => 0), 0, L) rfl, show Int32.ofNat (t + 1) - 1 = Int32.ofNat t from by rw [← i32_succ]; exact Int32.add_sub_cancel _ _] at c1
        have hfo := fr_ok (nd := nd) (br := 0) hO hc t 0 (wr T 0 2 (dS nd (Int32.ofNat i)), (fun _ => 0), 0, L) (by omega) (gd_diet hO (gd_I h.2.1 _ _))
        have hfb := fr_b (W := K.2) (br := 0) (nc := nc) (mask := (1 : Int32) <<< (Int32.ofNat c &&& 31)) (t + 1) 0 (wr T 0 2 (dS nd (Int32.ofNat i)), (fun _ => 0), 0, L)
        rw [c1]
        simp only []
        have hq3 : cQ M3 M0 := by
          obtain ⟨q1, q2, -⟩ := hq
          refine ⟨fun x hx => ?_, fun j hj => ?_, c2⟩
          · have hx' := hx
            unfold sc9 at hx'
            rw [c3 x (by omega) (by omega) (by omega), wr_nrow (by omega), a6 x (by omega) (by omega) (by omega)]; exact q1 x hx
          · rw [c3 0 (by omega) (by omega) (by omega), wr_nrow (by omega), a6 0 (by omega) (by omega) (by omega)]; exact q2 j hj
        by_cases qo : fwK K.2 nd nc T L c t i = true
        · have hle := of_decide_eq_true qo
          have hne : ¬ frN K.2 0 nc ((1 : Int32) <<< (Int32.ofNat c &&& 31)) (t + 1) 0 (wr T 0 2 (dS nd (Int32.ofNat i)), (fun _ => 0), 0, L) = 1000000 := fun h9 => hfo.mp h9 hle
          have ho : orN (Int32.ofNat (frN K.2 0 nc ((1 : Int32) <<< (Int32.ofNat c &&& 31)) (t + 1) 0 (wr T 0 2 (dS nd (Int32.ofNat i)), (fun _ => 0), 0, L))) = Int32.ofNat (frN K.2 0 nc ((1 : Int32) <<< (Int32.ofNat c &&& 31)) (t + 1) 0 (wr T 0 2 (dS nd (Int32.ofNat i)), (fun _ => 0), 0, L)) := by
            unfold orN; rw [if_pos (show _ < (1000000 : Int32) from i32_ltn (n := 1000000) (by omega) (by omega))]
          rw [ho, if_neg (i32_nm1 (by omega)), if_pos ⟨qz, qo⟩]
          exact ⟨M3, rfl, hq3⟩
        · have he : frN K.2 0 nc ((1 : Int32) <<< (Int32.ofNat c &&& 31)) (t + 1) 0 (wr T 0 2 (dS nd (Int32.ofNat i)), (fun _ => 0), 0, L) = 1000000 := hfo.mpr (fun h9 => qo (decide_eq_true h9))
          rw [he, show Int32.ofNat 1000000 = (1000000 : Int32) from rfl, orN_far, if_pos rfl, if_neg (fun h9 => qo h9.2), i32_succ]
          exact ih k (i + 1) M3 hq3 (by omega) (by omega)
      · rw [if_neg (fun h9 => qz ((i32_eqN (by omega) (by omega)).mp h9)), if_neg (fun h9 => qz h9.1), i32_succ]
        exact ih k (i + 1) M hq (by omega) (by omega)
theorem c_few28 {M0 : Mm} {c t : Nat} (h : InvS (nd, nc, T, L) K ms im tp ft M0) (hc : c < nc) (ht : t ≤ 24) : ∀ (n k z : Nat) (M : Mm), cQ M M0 → z + k = nd + 1 → k < n → ∃ M', f_X10_fewest_28 20000 n (Int32.ofNat c) (Int32.ofNat t) (fl9 nd) (Int32.ofNat z) M = some (.inl (fwR (fwO (fwK K.2 nd nc T L c t) (2 ^ nd) k z)), M') ∧ cQ M' M0 := by
  have hR : RW nd nc T L (M0 209) := h.2.1.1
  have hnd := hR.1.1
  have hN : 2 ^ nd ≤ 256 := Nat.pow_le_pow_right (n := 2) (by decide) hnd
  intro n
  induction n with
  | zero => intro k z M _ _ h; omega
  | succ n ih =>
    intro k z M hq hik hk
    have h70 : M 7 0 = Int32.ofNat nd := by
      rw [show M 7 0 = T 0 0 from slE (h.1.q hq).1 (i := 0) (by decide)]; exact hR.1.2.2.1
    rw [f_X10_fewest_28, h70]
    match k with
    | 0 =>
      rw [if_pos (i32_ltn (by omega) (by omega))]
      exact ⟨M, rfl, hq⟩
    | k + 1 =>
      rw [if_neg (i32_nlt (by omega) (by omega))]
      obtain ⟨M1, a1, a2⟩ := c_few43 (k28 := fun v1 v2 v3 v4 M => f_X10_fewest_28 20000 n v1 v2 v3 v4 M) h hc ht (show z ≤ 8 by omega) 20000 (2 ^ nd) 0 M hq (by omega) (by omega)
      rw [show (0 : Int32) = Int32.ofNat 0 from rfl, a1, fwO]
      cases q : fwI (fwK K.2 nd nc T L c t) z (2 ^ nd) 0 with
      | none => exact ih k (z + 1) M1 a2 (by omega) (by omega)
      | some s => exact ⟨M1, rfl, a2⟩
/-! the reference -/
def sd9 (v : Int32) (d : Nat) : Int32 := if ((v >>> (Int32.ofNat d &&& 31)) &&& 1) = 1 then 0 else 1
theorem m_sets2 {v : Int32} (hnd : nd ≤ 8) : ∀ (n k i : Nat) (M : Mm), M 209 0 = Int32.ofNat nd → i + k = nd → k < n → ∃ M', f_X11_setsDiets_2 20000 n v (Int32.ofNat i) M = some (0, M') ∧ (∀ d, i ≤ d → d < nd → M' 209 (12 + 9 * d + 2) = sd9 v d) ∧ (∀ j, (∀ d, i ≤ d → d < nd → j ≠ 12 + 9 * d + 2) → M' 209 j = M 209 j) ∧ ∀ x, x ≠ 209 → M' x = M x := by
  intro n
  induction n with
  | zero => intro k i M _ _ h; omega
  | succ n ih =>
    intro k i M h0 hik hk
    rw [f_X11_setsDiets_2, m_diners]
    simp only [bnd]
    rw [h0]
    match k with
    | 0 =>
      rw [if_pos (i32_len (by omega) (by omega))]
      exact ⟨M, rfl, fun d h1 h2 => by omega, fun j _ => rfl, fun x _ => rfl⟩
    | k + 1 =>
      have hat : f_X11_dinerAt 20000 (Int32.ofNat i) 2 M = some (Int32.ofNat (12 + 9 * i + 2), M) := by
        show some (((12 : Int32) + 9 * Int32.ofNat i) + 2, M) = _
        rw [show ((12 : Int32) + 9 * Int32.ofNat i) + 2 = Int32.ofNat 12 + Int32.ofNat 9 * Int32.ofNat i + Int32.ofNat 2 from rfl, i32_mulN, i32_addN, i32_addN]
      rw [if_neg (i32_nle (by omega) (by omega)), hat]
      simp only [f_X11_holds]
      have key : ∀ u : Int32, u = sd9 v i → ∃ M', f_X11_setsDiets_2 20000 n v (Int32.ofNat (i + 1)) (wr M 209 (12 + 9 * i + 2) u) = some (0, M') ∧ (∀ d, i ≤ d → d < nd → M' 209 (12 + 9 * d + 2) = sd9 v d) ∧ (∀ j, (∀ d, i ≤ d → d < nd → j ≠ 12 + 9 * d + 2) → M' 209 j = M 209 j) ∧ ∀ x, x ≠ 209 → M' x = M x := by
        intro u hu
        obtain ⟨M', a1, a2, a3, a4⟩ := ih k (i + 1) (wr M 209 (12 + 9 * i + 2) u) (by rw [wr_nk (by omega)]; exact h0) (by omega) (by omega)
        refine ⟨M', a1, fun d h1 h2 => ?_, fun j hj => ?_, fun x hx => by rw [a4 x hx, wr_nrow hx]⟩
        · by_cases e : d = i
          · subst e
            rw [a3 _ (fun d' h3 h4 => by omega), wr_eq, hu]
          · exact a2 d (by omega) h2
        · rw [a3 j (fun d h1 h2 => hj d (by omega) h2), wr_nk (hj i (Nat.le_refl _) (by omega))]
      by_cases q : ((v >>> (Int32.ofNat i &&& 31)) &&& 1) = 1
      · rw [if_pos q]
        simp only [show ¬ (1 : Int32) = 0 from by decide, if_false, grd, lt, inb_ofNat (show 12 + 9 * i + 2 < 2107 by omega) (by omega), if_true, i32_clampN (show 12 + 9 * i + 2 < 2147483648 by omega), i32_succ]
        exact key 0 (by unfold sd9; rw [if_pos q])
      · rw [if_neg q]
        simp only [if_true, grd, lt, inb_ofNat (show 12 + 9 * i + 2 < 2107 by omega) (by omega), i32_clampN (show 12 + 9 * i + 2 < 2147483648 by omega), i32_succ]
        exact key 1 (by unfold sd9; rw [if_neg q])
theorem m_sets {x v : Int32} {M M0 : Mm} (h : mR nd nc (wr T 0 2 x) L M M0) : ∃ M', f_X11_setsDiets 20000 v M = some (0, M') ∧ mR nd nc (wr T 0 2 (dS nd v)) L M' M0 := by
  obtain ⟨h1, h2, h3, h4⟩ := h
  have hnd := h1.1.1
  obtain ⟨M1, a1, a2, a3, a4⟩ := m_sets2 (v := v) hnd 20000 nd 0 M h1.1.2.2.2.2.1 (by omega) (by omega)
  refine ⟨M1, a1, ?_, ?_, fun j hj => ?_, fun x x1 x2 x3 => by rw [a4 x x1]; exact h4 x x1 x2 x3⟩
  · rw [← wr_w2 (T := T) (x := x) (y := dS nd v)]
    refine RW_di h1 (fun d hd => ?_) (fun j hj => a3 j (fun d _ h9 => hj d h9))
    rw [a2 d (by omega) hd, sDiet_b (by omega), wr_eq]
    unfold dS sd9
    rw [hB_and, fl_b hnd (by omega), hB_not (by omega), decide_eq_true hd]
    by_cases q : hb9 v d = true
    · rw [if_pos ((hB_sh (by omega)).mpr q), q]; rfl
    · rw [if_neg (fun h9 => q ((hB_sh (by omega)).mp h9)), Bool.eq_false_iff.mpr q]; rfl
  · rw [a3 3 (fun d _ _ => by omega)]; exact h2
  · rw [a3 j (fun d _ hd => by omega)]; exact h3 j hj
theorem dS_back {k : Nat} (hnd : nd ≤ 8) (hk : k < 2 ^ nd) (e : T 0 2 = Int32.ofNat k) : dS nd (T 0 2 ^^^ (-1 : Int32)) = T 0 2 := by
  refine hB_ext (fun i hi => ?_)
  unfold dS
  rw [hB_and, hB_not hi, hB_not hi, fl_b hnd hi, Bool.not_not]
  by_cases q : i < nd
  · rw [decide_eq_true q, Bool.true_and]
  · rw [decide_eq_false q, e, hB_lt (by omega) hk (by omega)]; rfl
theorem m_few58 {M0 : Mm} {c t kd : Nat} (hO : lwOK W) (hW0 : wLaw W M0) (hbr : M0 208 18 = 0) (hc : c < nc) (ht : t ≤ 24) (hkd : kd < 2 ^ nd) (ekd : T 0 2 = Int32.ofNat kd) : ∀ (n k i : Nat) (o : Option Nat) (x : Int32) (M : Mm), mR nd nc (wr T 0 2 x) L M M0 → i + k = 2 ^ nd → k < n → fwL o ≤ 9 → ∃ M', f_X11_fewest_58 20000 n (Int32.ofNat c) (Int32.ofNat t) (fwR o) (Int32.ofNat (fwL o)) (T 0 2) (Int32.ofNat i) M = some (fwR (fwM (fwK W nd nc T L c t) k i o), M') ∧ mR nd nc T L M' M0 := by
  intro n
  induction n with
  | zero => intro k i o x M _ _ h; omega
  | succ n ih =>
    intro k i o x M hq hik hk ho
    have hR := hq.1
    have hnd := hR.1.1
    have hN : 2 ^ nd ≤ 256 := Nat.pow_le_pow_right (n := 2) (by decide) hnd
    rw [f_X11_fewest_58, m_diners]
    simp only [bnd]
    rw [hR.1.2.2.2.2.1, (fl_v hnd).1]
    match k with
    | 0 =>
      obtain ⟨M1, a1, a2⟩ := m_sets (v := T 0 2 ^^^ (-1 : Int32)) hq
      rw [if_pos (i32_len (by omega) (by omega)), a1]
      rw [dS_back hnd hkd ekd, wr_s2] at a2
      exact ⟨M1, rfl, a2⟩
    | k + 1 =>
      have hb := bc_N (s := i) (by omega)
      rw [if_neg (i32_nle (by omega) (by omega)), j_bc, hb.1]
      simp only []
      rw [fwM]
      by_cases q : bcN i < fwL o
      · rw [if_pos (i32_ltn q (by omega))]
        obtain ⟨M1, a1, a2⟩ := m_sets (v := Int32.ofNat i) hq
        rw [a1]
        simp only []
        obtain ⟨M2, b1, b2, b3⟩ := m_grainsIn (c := c) (n := t) (M := M1) hO a2.1 (hW0.frame a2.2.1 (fun j x _ => a2.2.2.1 j x) hO) hc (by omega) (fun _ => 0) 0
        rw [show M1 208 18 = 0 from by rw [a2.2.2.2 208 (by decide) (by decide) (by decide)]; exact hbr] at b1
        rw [b1]
        simp only []
        have hq2 : mR nd nc (wr T 0 2 (dS nd (Int32.ofNat i))) L M2 M0 := ⟨by rw [b2]; exact a2.1, by rw [b2]; exact a2.2.1, fun j hj => by rw [b2]; exact a2.2.2.1 j hj, fun x x1 x2 x3 => by rw [b3 x x2 x3]; exact a2.2.2.2 x x1 x2 x3⟩
        have hg0 : 0 ≤ (sGo W 0 nc t (wr T 0 2 (dS nd (Int32.ofNat i)), (fun _ => 0), 0, L)).1 6 c := by
          have hgd : gdE nd nc W 0 (wr T 0 2 (dS nd (Int32.ofNat i)), (fun _ => 0), 0, L) := ⟨M1, a2.1, hW0.frame a2.2.1 (fun j x _ => a2.2.2.1 j x) hO, by rw [a2.2.2.2 208 (by decide) (by decide) (by decide)]; exact hbr⟩
          obtain ⟨M9, hR9, -⟩ := gd_go hO t _ hgd
          obtain ⟨-, -, ⟨g, hg, h6⟩, -⟩ := hR9.2.2.2.2.2.2.1.2.2.2.2 c hc
          rw [h6]; exact i32_ge0 (by omega)
        by_cases qo : fwK W nd nc T L c t i = true
        · have hle := of_decide_eq_true qo
          rw [if_pos (Int32.le_antisymm hle hg0), if_pos ⟨q, qo⟩]
          simp only [f_X11_fewest_102, f_X11_fewest_115, f_X11_fewest_131, show ¬ (1 : Int32) = 0 from by decide, if_false, j_bc, bnd, hb.1, i32_succ]
          exact ih k (i + 1) (some i) _ M2 hq2 (by omega) (by omega) (show bcN i ≤ 9 by omega)
        · have hne : ¬ (sGo W 0 nc t (wr T 0 2 (dS nd (Int32.ofNat i)), (fun _ => 0), 0, L)).1 6 c = 0 := fun h9 => qo (decide_eq_true (by rw [h9]; exact Int32.le_refl _))
          rw [if_neg hne, if_neg (fun h9 => qo h9.2)]
          simp only [f_X11_fewest_102, f_X11_fewest_115, f_X11_fewest_131, if_true, i32_succ]
          exact ih k (i + 1) o _ M2 hq2 (by omega) (by omega) ho
      · rw [if_neg (i32_nlt (by omega) (by omega)), if_neg (fun h9 => q h9.1), i32_succ]
        exact ih k (i + 1) o _ M hq (by omega) (by omega) ho
end FY
