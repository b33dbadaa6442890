/-! Courses that go by; copies of a table; looking ahead. -/
theorem c_goesBy_n {a nc : Nat} {W : Lw} {M : Mm} (ha : a + 8 < 25) (hnc : nc ≤ 5) (hW : cLaw 25 W M) (hO : whoOK (slc a M)) (hM : M a 1 = Int32.ofNat nc) (v : Int32) (L : List Row) : ∃ M', f_X5_goesBy_n 20000 a 25 M = some ((sCourse W (M 39 2) nc (slc a M, M 41, v, L)).2.2.1, M') ∧ slc a M' = (sCourse W (M 39 2) nc (slc a M, M 41, v, L)).1 ∧ M' 41 = (sCourse W (M 39 2) nc (slc a M, M 41, v, L)).2.1 ∧ ∀ x, (x < a ∨ a + 8 < x) → x ≠ 40 → x ≠ 41 → M' x = M x := by
  obtain ⟨M1, h1, h2, h3, h4⟩ := c_allTake_n (a := a) (nc := nc) (W := W) ha hnc L 20000 nc 0 0 M hW hM (by omega) (by omega)
  have r1 : ∀ i, i ≠ 3 → i ≠ 6 → slc a M1 i = slc a M i := fun i x y => by rw [h2]; exact sAll_row x y _ _ _
  have n1 : M1 a 1 = Int32.ofNat nc := by
    have h8 : slc a M1 0 1 = slc a M 0 1 := by rw [r1 0 (by decide) (by decide)]
    rw [slc_at (by decide), slc_at (by decide)] at h8
    exact h8.trans hM
  obtain ⟨M2, k1, k2, k3⟩ := c_spills hnc n1
  have n2 : M2 a 1 = Int32.ofNat nc := by
    have h8 : slc a M2 0 1 = slc a M1 0 1 := by rw [k2]; exact sSpillL_n (by decide) (by decide) _ _ _
    rw [slc_at (by decide), slc_at (by decide)] at h8
    exact h8.trans n1
  have o2 : whoOK (slc a M2) := fun s hs => by
    rw [k2, sSpillL_row (by decide) (by decide), r1 1 (by decide) (by decide)]; exact hO s hs
  have W2 : cLaw 25 W M2 := hW.frame (fun j hj => by rw [k3 _ (by omega), h4 _ (by omega) (by omega) (by omega)])
  obtain ⟨M3, l1, l2, l3⟩ := c_damps ha hnc W2 o2 n2
  have n3 : M3 a 1 = Int32.ofNat nc := by
    have h8 : slc a M3 0 1 = slc a M2 0 1 := by rw [l2]; exact sDamps_n (by decide)
    rw [slc_at (by decide), slc_at (by decide)] at h8
    exact h8.trans n2
  obtain ⟨M4, m1, m2, m3⟩ := c_passesOn hnc n3
  unfold f_X5_goesBy_n f_X5_allTake_n
  rw [show (0 : Int32) = Int32.ofNat 0 from rfl] at h1 ⊢
  rw [h1]
  simp only [bnd, k1, l1, m1]
  exact ⟨M4, rfl, by rw [m2, l2, k2, h2]; rfl, by rw [m3 41 (by omega), l3 41 (by omega) (by omega), k3 41 (by omega), h3]; rfl, fun x x1 x2 x3 => by rw [m3 x x1, l3 x x1 x2, k3 x x1, h4 x x1 x2 x3]⟩
theorem c_goesBy_l {a nc : Nat} {W : Lw} {M : Mm} (ha : a + 8 < 25) (hnc : nc ≤ 5) (hW : cLaw 25 W M) (hO : whoOK (slc a M)) (hM : M a 1 = Int32.ofNat nc) (v : Int32) (L : List Row) (hL : cLog 37 L M) : ∃ M', f_X5_goesBy_l 20000 a 25 37 M = some ((sCourse W (M 39 2) nc (slc a M, M 41, v, L)).2.2.1, M') ∧ slc a M' = (sCourse W (M 39 2) nc (slc a M, M 41, v, L)).1 ∧ M' 41 = (sCourse W (M 39 2) nc (slc a M, M 41, v, L)).2.1 ∧ cLog 37 (sCourse W (M 39 2) nc (slc a M, M 41, v, L)).2.2.2 M' ∧ ∀ x, (x < a ∨ a + 8 < x) → x ≠ 37 → x ≠ 38 → x ≠ 40 → x ≠ 41 → M' x = M x := by
  obtain ⟨M1, h1, h2, h3, h5, h4⟩ := c_allTake_l (a := a) (nc := nc) (W := W) ha hnc 20000 nc 0 0 M L hW hL hM (by omega) (by omega)
  have r1 : ∀ i, i ≠ 3 → i ≠ 6 → slc a M1 i = slc a M i := fun i x y => by rw [h2]; exact sAll_row x y _ _ _
  have n1 : M1 a 1 = Int32.ofNat nc := by
    have h8 : slc a M1 0 1 = slc a M 0 1 := by rw [r1 0 (by decide) (by decide)]
    rw [slc_at (by decide), slc_at (by decide)] at h8
    exact h8.trans hM
  obtain ⟨M2, k1, k2, k3⟩ := c_spills hnc n1
  have n2 : M2 a 1 = Int32.ofNat nc := by
    have h8 : slc a M2 0 1 = slc a M1 0 1 := by rw [k2]; exact sSpillL_n (by decide) (by decide) _ _ _
    rw [slc_at (by decide), slc_at (by decide)] at h8
    exact h8.trans n1
  have o2 : whoOK (slc a M2) := fun s hs => by
    rw [k2, sSpillL_row (by decide) (by decide), r1 1 (by decide) (by decide)]; exact hO s hs
  have W2 : cLaw 25 W M2 := hW.frame (fun j hj => by rw [k3 _ (by omega), h4 _ (by omega) (by omega) (by omega) (by omega) (by omega)])
  obtain ⟨M3, l1, l2, l3⟩ := c_damps ha hnc W2 o2 n2
  have n3 : M3 a 1 = Int32.ofNat nc := by
    have h8 : slc a M3 0 1 = slc a M2 0 1 := by rw [l2]; exact sDamps_n (by decide)
    rw [slc_at (by decide), slc_at (by decide)] at h8
    exact h8.trans n2
  obtain ⟨M4, m1, m2, m3⟩ := c_passesOn hnc n3
  unfold f_X5_goesBy_l f_X5_allTake_l
  rw [show (0 : Int32) = Int32.ofNat 0 from rfl] at h1 ⊢
  rw [h1]
  simp only [bnd, k1, l1, m1]
  have e37 : ∀ x, (x < a ∨ a + 8 < x) → x ≠ 40 → M4 x = M1 x := fun x x1 x2 => by rw [m3 x x1, l3 x x1 x2, k3 x x1]
  exact ⟨M4, rfl, by rw [m2, l2, k2, h2]; rfl, by rw [e37 41 (by omega) (by omega), h3]; rfl, h5.frame (e37 37 (by omega) (by omega)) (e37 38 (by omega) (by omega)), fun x x1 x4 x5 x2 x3 => by rw [e37 x x1 x2, h4 x x1 x4 x5 x2 x3]⟩
/-- how many slots each part of a table has -/
def wd (i : Nat) : Nat := match i with
  | 0 => 11
  | 1 => 10
  | 2 => 8
  | 3 => 48
  | _ => 5
def tz (T : Tb) : Prop := ∀ i j, wd i ≤ j → T i j = 0
theorem tz_wr {T : Tb} {i k : Nat} {v : Int32} (h : tz T) (hk : k < wd i) : tz (wr T i k v) := fun x j hj => by
  unfold wr
  by_cases e : x = i ∧ j = k
  · obtain ⟨rfl, rfl⟩ := e; omega
  · rw [if_neg e]; exact h x j hj
theorem cpy_ne {M : Mm} {a b n x j : Nat} (h : x ≠ b) : cpy M a b n x j = M x j := by unfold cpy; rw [if_neg (fun h9 => h h9.1)]
theorem cpy_in {M : Mm} {a b n j : Nat} (h : j < n) : cpy M a b n b j = M a j := by unfold cpy; rw [if_pos ⟨rfl, h⟩]
theorem cpy_out {M : Mm} {a b n j : Nat} (h : n ≤ j) : cpy M a b n b j = M b j := by unfold cpy; rw [if_neg (fun h9 => by omega)]
set_option maxHeartbeats 4000000 in
theorem c_copies {N a0 a1 : Nat} {M : Mm} (ha : a0 + 8 < a1 ∨ a1 + 8 < a0) (h0 : tz (slc a0 M)) (h1 : tz (slc a1 M)) : ∃ M', f_X6_copies N a0 a1 M = some (0, M') ∧ slc a0 M' = slc a1 M ∧ ∀ x, (x < a0 ∨ a0 + 8 < x) → M' x = M x := by
  unfold f_X6_copies
  simp only [lt]
  refine ⟨_, rfl, ?_, fun x hx => ?_⟩
  · funext i j
    match i with
    | 0 =>
      rw [slc_at (by decide)]
      by_cases hj : 11 ≤ j
      · rw [h1 0 j hj]
        have h9 := h0 0 j hj
        rw [slc_at (by decide)] at h9
        simp (disch := omega) only [cpy_ne, wr_nk, Nat.add_zero] at h9 ⊢
        exact h9
      · rw [slc_at (by decide)]
        have hj' : j = 0 ∨ j = 1 ∨ j = 2 ∨ j = 3 ∨ j = 4 ∨ j = 5 ∨ j = 6 ∨ j = 7 ∨ j = 8 ∨ j = 9 ∨ j = 10 := by omega
        rcases hj' with rfl | rfl | rfl | rfl | rfl | rfl | rfl | rfl | rfl | rfl | rfl <;> simp (disch := omega) only [cpy_ne, wr_nk, wr_ne, wr_eq, Nat.add_zero]
    | 1 =>
      rw [slc_at (by decide)]
      by_cases hj : 10 ≤ j
      · rw [h1 1 j hj]
        have h9 := h0 1 j hj
        rw [slc_at (by decide)] at h9
        simp (disch := omega) only [cpy_ne, cpy_out, wr_ne] at h9 ⊢
        exact h9
      · rw [slc_at (by decide)]
        simp (disch := omega) only [cpy_ne, cpy_in, wr_ne]
    | 2 =>
      rw [slc_at (by decide)]
      by_cases hj : 8 ≤ j
      · rw [h1 2 j hj]
        have h9 := h0 2 j hj
        rw [slc_at (by decide)] at h9
        simp (disch := omega) only [cpy_ne, cpy_out, wr_ne] at h9 ⊢
        exact h9
      · rw [slc_at (by decide)]
        simp (disch := omega) only [cpy_ne, cpy_in, wr_ne]
    | 3 =>
      rw [slc_at (by decide)]
      by_cases hj : 48 ≤ j
      · rw [h1 3 j hj]
        have h9 := h0 3 j hj
        rw [slc_at (by decide)] at h9
        simp (disch := omega) only [cpy_ne, cpy_out, wr_ne] at h9 ⊢
        exact h9
      · rw [slc_at (by decide)]
        simp (disch := omega) only [cpy_ne, cpy_in, wr_ne]
    | 4 =>
      rw [slc_at (by decide)]
      by_cases hj : 5 ≤ j
      · rw [h1 4 j hj]
        have h9 := h0 4 j hj
        rw [slc_at (by decide)] at h9
        simp (disch := omega) only [cpy_ne, cpy_out, wr_ne] at h9 ⊢
        exact h9
      · rw [slc_at (by decide)]
        simp (disch := omega) only [cpy_ne, cpy_in, wr_ne]
    | 5 =>
      rw [slc_at (by decide)]
      by_cases hj : 5 ≤ j
      · rw [h1 5 j hj]
        have h9 := h0 5 j hj
        rw [slc_at (by decide)] at h9
        simp (disch := omega) only [cpy_ne, cpy_out, wr_ne] at h9 ⊢
        exact h9
      · rw [slc_at (by decide)]
        simp (disch := omega) only [cpy_ne, cpy_in, wr_ne]
    | 6 =>
      rw [slc_at (by decide)]
      by_cases hj : 5 ≤ j
      · rw [h1 6 j hj]
        have h9 := h0 6 j hj
        rw [slc_at (by decide)] at h9
        simp (disch := omega) only [cpy_ne, cpy_out, wr_ne] at h9 ⊢
        exact h9
      · rw [slc_at (by decide)]
        simp (disch := omega) only [cpy_ne, cpy_in, wr_ne]
    | 7 =>
      rw [slc_at (by decide)]
      by_cases hj : 5 ≤ j
      · rw [h1 7 j hj]
        have h9 := h0 7 j hj
        rw [slc_at (by decide)] at h9
        simp (disch := omega) only [cpy_ne, cpy_out, wr_ne] at h9 ⊢
        exact h9
      · rw [slc_at (by decide)]
        simp (disch := omega) only [cpy_ne, cpy_in, wr_ne]
    | 8 =>
      rw [slc_at (by decide)]
      by_cases hj : 5 ≤ j
      · rw [h1 8 j hj]
        have h9 := h0 8 j hj
        rw [slc_at (by decide)] at h9
        simp (disch := omega) only [cpy_ne, cpy_out, wr_ne] at h9 ⊢
        exact h9
      · rw [slc_at (by decide)]
        simp (disch := omega) only [cpy_ne, cpy_in, wr_ne]
    | i + 9 => unfold slc; rw [if_neg (by omega), if_neg (by omega)]
  · funext j
    simp (disch := omega) only [cpy_ne, wr_ne]
theorem c_fill {N a0 n0 : Nat} {v : Int32} (hn0 : n0 < 2147483648) : ∀ (n k i : Nat) (M : Mm), i + k = n0 → k < n → ∃ M', f_J7_fill_53178_5 N a0 n0 n v (Int32.ofNat i) (Int32.ofNat n0) M = some (0, M') ∧ (∀ x, x ≠ a0 → M' x = M x) ∧ ∀ j, M' a0 j = if i ≤ j ∧ j < n0 then v else M a0 j := by
  intro n
  induction n with
  | zero => intro k i M _ h; omega
  | succ n ih =>
    intro k i M hik hn
    rw [f_J7_fill_53178_5]
    match k with
    | 0 =>
      rw [if_pos ((i32_leN (by omega) (by omega)).mpr (by omega))]
      exact ⟨M, rfl, fun _ _ => rfl, fun j => by rw [if_neg (by omega)]⟩
    | k + 1 =>
      rw [if_neg (fun h9 => by have := (i32_leN (by omega) (by omega)).mp h9; omega)]
      simp only [grd, inb_ofNat (show i < n0 by omega) (by omega), if_true, i32_clampN (show i < 2147483648 by omega), lt, i32_succ]
      obtain ⟨M', h1, h2, h3⟩ := ih k (i + 1) (wr M a0 i v) (by omega) (by omega)
      refine ⟨M', h1, fun x hx => by rw [h2 x hx, wr_nrow hx], fun j => ?_⟩
      rw [h3 j]
      by_cases e : j = i
      · subst e; rw [if_neg (by omega), if_pos (by omega), wr_eq]
      · rw [wr_nk e]
        by_cases e2 : i + 1 ≤ j ∧ j < n0
        · rw [if_pos e2, if_pos (by omega)]
        · rw [if_neg e2, if_neg (by omega)]
def clr (f : Nat → Int32) : Nat → Int32 := fun j => if j < 8 then 0 else f j
theorem c_opens {N : Nat} (hN : 8 < N) {v : Int32} {M : Mm} : ∃ M', f_X5_opens N v M = some (0, M') ∧ M' 41 = clr (M 41) ∧ M' 39 2 = v ∧ (∀ j, j ≠ 2 → M' 39 j = M 39 j) ∧ ∀ x, x ≠ 39 → x ≠ 41 → M' x = M x := by
  obtain ⟨M1, h1, h2, h3⟩ := c_fill (N := N) (a0 := 41) (n0 := 8) (v := 0) (by decide) N 8 0 M (by omega) (by omega)
  have h1' : f_J7_fill_53178 N 41 8 0 M = some (0, M1) := by
    unfold f_J7_fill_53178 lt
    rw [show (0 : Int32) = Int32.ofNat 0 from rfl] at h1 ⊢
    exact h1
  unfold f_X5_opens
  rw [h1']
  simp only [bnd, lt]
  refine ⟨_, rfl, ?_, wr_eq, fun j hj => ?_, fun x x1 x2 => ?_⟩
  · rw [wr_nrow (by decide)]; funext j; rw [h3]; unfold clr
    by_cases h : j < 8
    · rw [if_pos h, if_pos (by omega)]
    · rw [if_neg h, if_neg (by omega)]
  · rw [wr_nk hj, h2 39 (by decide)]
  · rw [wr_nrow x1, h2 x x2]
theorem c_looksAhead {M : Mm} (h0 : tz (slc 16 M)) (h1 : tz (slc 7 M)) : ∃ M', f_X10_looksAhead 20000 M = some (0, M') ∧ slc 16 M' = slc 7 M ∧ M' 41 = clr (M 41) ∧ M' 39 2 = 0 ∧ (∀ j, j ≠ 2 → M' 39 j = M 39 j) ∧ ∀ x, (x < 16 ∨ 24 < x) → x ≠ 39 → x ≠ 41 → M' x = M x := by
  obtain ⟨M1, a1, a2, a3⟩ := c_copies (N := 20000) (a0 := 16) (a1 := 7) (M := M) (by omega) h0 h1
  obtain ⟨M2, b1, b2, b3, b4, b5⟩ := c_opens (N := 20000) (by decide) (v := 0) (M := M1)
  unfold f_X10_looksAhead
  rw [a1]
  simp only [bnd, b1]
  refine ⟨M2, rfl, ?_, by rw [b2, a3 41 (by omega)], b3, fun j hj => by rw [b4 j hj, a3 39 (by omega)], fun x x1 x2 x3 => by rw [b5 x x2 x3, a3 x (by omega)]⟩
  rw [← a2]; exact slc_ex (fun i hi => b5 _ (by omega) (by omega))
