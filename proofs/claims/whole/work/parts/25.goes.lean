/-! A course goes by: the log's case of taking, passing on, spilling, damp. -/
theorem c_allTake_l {a nc : Nat} {W : Lw} (ha : a + 8 < 25) (hnc : nc ≤ 5) : ∀ (n k i : Nat) (v : Int32) (M : Mm) (L : List Row), cLaw 25 W M → cLog 37 L M → M a 1 = Int32.ofNat nc → i + k = nc → k < n →
    ∃ M', f_X5_allTake_l_6 20000 a 25 37 n v (Int32.ofNat i) M = some ((sAll W (M 39 2) k i (slc a M, M 41, v, L)).2.2.1, M') ∧ slc a M' = (sAll W (M 39 2) k i (slc a M, M 41, v, L)).1 ∧ M' 41 = (sAll W (M 39 2) k i (slc a M, M 41, v, L)).2.1 ∧ cLog 37 (sAll W (M 39 2) k i (slc a M, M 41, v, L)).2.2.2 M' ∧ ∀ x, (x < a ∨ a + 8 < x) → x ≠ 37 → x ≠ 38 → x ≠ 40 → x ≠ 41 → M' x = M x := by
  intro n
  induction n with
  | zero => intro k i v M L _ _ _ _ h; omega
  | succ n ih =>
    intro k i v M L hW hL hM hik hn
    rw [f_X5_allTake_l_6, hM]
    match k with
    | 0 =>
      rw [if_pos ((i32_leN (by omega) (by omega)).mpr (by omega))]
      exact ⟨M, rfl, rfl, rfl, hL, fun _ _ _ _ _ _ => rfl⟩
    | k + 1 =>
      have hin : inb (Int32.ofNat i) 5 = true := inb_ofNat (by omega) (by omega)
      have hcl : (Int32.ofNat i).toNatClampNeg = i := i32_clampN (by omega)
      rw [if_neg (fun h9 => by have := (i32_leN (by omega) (by omega)).mp h9; omega), if_neg (fun h9 => by have := (i32_leN (a := 5) (by omega) (by omega)).mp h9; omega)]
      simp only [grd, hin, if_true, hcl, c_dinerAt, bnd, i32_succ, lt]
      have e4 : M (a + 4) i = slc a M 4 i := (slc_at (by decide)).symm
      have e6 : M (a + 6) i = slc a M 6 i := (slc_at (by decide)).symm
      rw [e4, e6, show sDinerAt (slc a M) (slc a M 4 i) = sWho (slc a M) i from rfl]
      simp only [sAll, sEat]
      by_cases q1 : sWho (slc a M) i < 0
      · simp only [if_pos q1]; exact ih k (i + 1) v M L hW hL hM (by omega) (by omega)
      · simp only [if_neg q1]
        by_cases q2 : 8 ≤ sWho (slc a M) i
        · simp only [if_pos q2]; exact ih k (i + 1) v M L hW hL hM (by omega) (by omega)
        · simp only [if_neg q2]
          by_cases q3 : slc a M 6 i ≤ 0
          · simp only [if_pos q3]; exact ih k (i + 1) v M L hW hL hM (by omega) (by omega)
          · simp only [if_neg q3]
            obtain ⟨M1, r1, r2, r3, r4⟩ := c_pinchOf (a := a) (c := i) (d := sWho (slc a M) i) (W := W) (M := M) hW ha (by omega) q1 (Int32.not_le.mp q2)
            have hrow : slc a M1 0 = slc a M 0 := by rw [r2, sTake_row (by decide) (by decide)]
            have h1 : M1 a 1 = Int32.ofNat nc := by
              have h2 : slc a M1 0 1 = slc a M 0 1 := by rw [hrow]
              rw [slc_at (by decide), slc_at (by decide)] at h2
              exact h2.trans hM
            have h5 : ∀ j, M1 a j = slc a M 0 j := fun j => by
              rw [← hrow]; exact (slc_at (i := 0) (by decide)).symm
            rw [r1]
            have hL1 : cLog 37 L M1 := hL.frame (r4 37 (by omega) (by omega) (by omega)) (r4 38 (by omega) (by omega) (by omega))
            have hW1 : cLaw 25 W M1 := hW.frame (fun j hj => r4 _ (by omega) (by omega) (by omega))
            by_cases q4 : sP W (M 39 2) (slc a M) i (sWho (slc a M) i) ≤ 0
            · simp only [if_pos q4]
              obtain ⟨M', s1, s2, s3, s5, s4⟩ := ih k (i + 1) (v + sP W (M 39 2) (slc a M) i (sWho (slc a M) i)) M1 L hW1 hL1 h1 (by omega) (by omega)
              rw [show M1 39 = M 39 from r4 39 (by omega) (by omega) (by omega), r2, r3] at s1 s2 s3 s5
              exact ⟨M', s1, s2, s3, s5, fun x x1 x4 x5 x2 x3 => (s4 x x1 x4 x5 x2 x3).trans (r4 x x1 x2 x3)⟩
            · simp only [if_neg q4]
              obtain ⟨M2, t1, t2, t3⟩ := c_adds (N := 20000) (t := a) (d := sWho (slc a M) i) (c := Int32.ofNat i) (p := sP W (M 39 2) (slc a M) i (sWho (slc a M) i)) hL1
              rw [h5 5, h5 4] at t2
              rw [t1]
              have hs2 : slc a M2 = slc a M1 := slc_ex (fun j hj => t3 _ (by omega) (by omega))
              obtain ⟨M', s1, s2, s3, s5, s4⟩ := ih k (i + 1) (v + sP W (M 39 2) (slc a M) i (sWho (slc a M) i)) M2 _ (hW1.frame (fun j hj => t3 _ (by omega) (by omega))) t2 (by rw [t3 a (by omega) (by omega)]; exact h1) (by omega) (by omega)
              rw [t3 39 (by omega) (by omega), t3 41 (by omega) (by omega), show M1 39 = M 39 from r4 39 (by omega) (by omega) (by omega), hs2, r2, r3] at s1 s2 s3 s5
              exact ⟨M', s1, s2, s3, s5, fun x x1 x4 x5 x2 x3 => (s4 x x1 x4 x5 x2 x3).trans ((t3 x x4 x5).trans (r4 x x1 x2 x3))⟩
def sPass1 (T : Tb) (c : Nat) : Tb := wr T 4 c ((T 4 c + T 8 c) - (T 4 c + T 8 c) / 10 * 10)
def sPassL : Nat → Nat → Tb → Tb
  | 0, _, T => T
  | k + 1, c, T => sPassL k (c + 1) (sPass1 T c)
def sTick (T : Tb) : Tb := if T 0 4 + 1 < 12 then wr T 0 4 (T 0 4 + 1) else wr (wr (wr T 0 4 (T 0 4 + 1)) 0 4 0) 0 5 (if T 0 5 + 1 < 9999 then T 0 5 + 1 else 9999)
theorem c_passesOn_43 {N a : Nat} {M : Mm} : ∃ M', f_X6_passesOn_43 N a M = some (0, M') ∧ slc a M' = sTick (slc a M) ∧ ∀ x, x ≠ a → M' x = M x := by
  have hw : ∀ (M9 : Mm) (k : Nat) (v : Int32), slc a (wr M9 a k v) = wr (slc a M9) 0 k v := fun M9 k v => slc_wi (i := 0) (by decide)
  have h0 : ∀ k, slc a M 0 k = M a k := fun k => slc_at (by decide)
  unfold f_X6_passesOn_43 sTick
  simp only [lt, wr_eq, h0, wr_nk (show (5 : Nat) ≠ 4 by decide)]
  by_cases h : M a 4 + 1 < 12
  · rw [if_pos h, if_pos h]
    exact ⟨_, rfl, hw _ _ _, fun x hx => wr_nrow hx⟩
  · rw [if_neg h, if_neg h]
    refine ⟨_, rfl, by rw [hw, hw, hw], fun x hx => by rw [wr_nrow hx, wr_nrow hx, wr_nrow hx]⟩
theorem c_passesOn_2 {a nc : Nat} (hnc : nc ≤ 5) : ∀ (n k i : Nat) (M : Mm), M a 1 = Int32.ofNat nc → i + k = nc → k < n → ∃ M', f_X6_passesOn_2 20000 a n (Int32.ofNat i) M = some (0, M') ∧ slc a M' = sTick (sPassL k i (slc a M)) ∧ ∀ x, (x < a ∨ a + 8 < x) → M' x = M x := by
  intro n
  induction n with
  | zero => intro k i M _ _ h; omega
  | succ n ih =>
    intro k i M hM hik hn
    rw [f_X6_passesOn_2, hM]
    match k with
    | 0 =>
      rw [if_pos ((i32_leN (by omega) (by omega)).mpr (by omega))]
      obtain ⟨M', h1, h2, h3⟩ := c_passesOn_43 (N := 20000) (a := a) (M := M)
      exact ⟨M', h1, h2, fun x hx => h3 x (by omega)⟩
    | k + 1 =>
      have hin : inb (Int32.ofNat i) 5 = true := inb_ofNat (by omega) (by omega)
      have hcl : (Int32.ofNat i).toNatClampNeg = i := i32_clampN (by omega)
      rw [if_neg (fun h9 => by have := (i32_leN (by omega) (by omega)).mp h9; omega), if_neg (fun h9 => by have := (i32_leN (a := 5) (by omega) (by omega)).mp h9; omega)]
      simp only [grd, hin, if_true, hcl, lt, i32_succ]
      obtain ⟨M', h1, h2, h3⟩ := ih k (i + 1) (wr M (a + 4) i (M (a + 4) i + M (a + 8) i - (M (a + 4) i + M (a + 8) i) / 10 * 10)) (by rw [wr_ne (by omega)]; exact hM) (by omega) (by omega)
      refine ⟨M', h1, ?_, fun x hx => by rw [h3 x hx, wr_nrow (by omega)]⟩
      rw [h2, slc_wi (by decide)]
      show _ = sTick (sPassL k (i + 1) (sPass1 (slc a M) i))
      unfold sPass1
      rw [slc_at (by decide), slc_at (by decide)]
def sPass (nc : Nat) (T : Tb) : Tb := sTick (sPassL nc 0 T)
theorem c_passesOn {a nc : Nat} {M : Mm} (hnc : nc ≤ 5) (hM : M a 1 = Int32.ofNat nc) : ∃ M', f_X6_passesOn 20000 a M = some (0, M') ∧ slc a M' = sPass nc (slc a M) ∧ ∀ x, (x < a ∨ a + 8 < x) → M' x = M x :=
  c_passesOn_2 hnc 20000 nc 0 M hM (by omega) (by omega)
def sSeed (x : Int32) : Int32 := 1103515245 * x + 12345
def sDraw (x : Int32) : Int32 := ((x.toUInt32 >>> ((16 : Int32).toUInt32 &&& Int32.toUInt32 31)).toInt32 &&& (32767 : Int32))
def sNext (T : Tb) : Tb := wr T 0 9 (sSeed (T 0 9))
def sRoll (T : Tb) : Int32 := sDraw (sSeed (T 0 9)) - sDraw (sSeed (T 0 9)) / 100 * 100
theorem c_draws {N a : Nat} {M : Mm} : f_X6_draws N a M = some (sDraw (sSeed (M a 9)), wr M a 9 (sSeed (M a 9))) := by
  unfold f_X6_draws lt
  simp only [wr_eq]; rfl
def sSpill1 (T : Tb) (c : Nat) : Tb := if T 6 c ≤ 0 then T else if T 0 6 ≤ sRoll T then sNext T else wr (wr (sNext T) 6 c (T 6 c - 1)) 0 8 (if T 0 8 + 1 < 9999 then T 0 8 + 1 else 9999)
def sSpillL : Nat → Nat → Tb → Tb
  | 0, _, T => T
  | k + 1, c, T => sSpillL k (c + 1) (sSpill1 T c)
theorem slc_w0 {a k : Nat} {M : Mm} {v : Int32} : slc a (wr M a k v) = wr (slc a M) 0 k v := slc_wi (i := 0) (by decide)
theorem c_spills_2 {a nc : Nat} (hnc : nc ≤ 5) : ∀ (n k i : Nat) (M : Mm), M a 1 = Int32.ofNat nc → i + k = nc → k < n → ∃ M', f_X5_spills_2 20000 a n (Int32.ofNat i) M = some (0, M') ∧ slc a M' = sSpillL k i (slc a M) ∧ ∀ x, (x < a ∨ a + 8 < x) → M' x = M x := by
  intro n
  induction n with
  | zero => intro k i M _ _ h; omega
  | succ n ih =>
    intro k i M hM hik hn
    rw [f_X5_spills_2, hM]
    match k with
    | 0 =>
      rw [if_pos ((i32_leN (by omega) (by omega)).mpr (by omega))]
      exact ⟨M, rfl, rfl, fun x hx => rfl⟩
    | k + 1 =>
      have hin : inb (Int32.ofNat i) 5 = true := inb_ofNat (by omega) (by omega)
      have hcl : (Int32.ofNat i).toNatClampNeg = i := i32_clampN (by omega)
      rw [if_neg (fun h9 => by have := (i32_leN (by omega) (by omega)).mp h9; omega), if_neg (fun h9 => by have := (i32_leN (a := 5) (by omega) (by omega)).mp h9; omega)]
      have e6 : slc a M 6 i = M (a + 6) i := slc_at (by decide)
      have e0 : ∀ j, slc a M 0 j = M a j := fun j => slc_at (i := 0) (by decide)
      simp only [grd, hin, if_true, hcl, lt, i32_succ, c_draws, bnd]
      show ∃ M', _ ∧ slc a M' = sSpillL k (i + 1) (sSpill1 (slc a M) i) ∧ _
      unfold sSpill1 sRoll sNext
      rw [e6, e0, e0, e0]
      by_cases q1 : M (a + 6) i ≤ 0
      · rw [if_pos q1, if_pos q1]; exact ih k (i + 1) M hM (by omega) (by omega)
      · rw [if_neg q1, if_neg q1, wr_nk (show (6 : Nat) ≠ 9 by decide)]
        by_cases q2 : M a 6 ≤ sDraw (sSeed (M a 9)) - sDraw (sSeed (M a 9)) / 100 * 100
        · rw [if_pos q2, if_pos q2]
          obtain ⟨M', h1, h2, h3⟩ := ih k (i + 1) (wr M a 9 (sSeed (M a 9))) (by rw [wr_nk (by decide)]; exact hM) (by omega) (by omega)
          exact ⟨M', h1, by rw [h2, slc_w0], fun x hx => by rw [h3 x hx, wr_nrow (by omega)]⟩
        · rw [if_neg q2, if_neg q2]
          simp only [wr_ne (show a + 6 ≠ a by omega), wr_ne (show a ≠ a + 6 by omega), wr_nk (show (8 : Nat) ≠ 9 by decide)]
          obtain ⟨M', h1, h2, h3⟩ := ih k (i + 1) (wr (wr (wr M a 9 (sSeed (M a 9))) (a + 6) i (M (a + 6) i - 1)) a 8 (if M a 8 + 1 < 9999 then M a 8 + 1 else 9999)) (by rw [wr_nk (by decide), wr_ne (by omega), wr_nk (by decide)]; exact hM) (by omega) (by omega)
          exact ⟨M', h1, by rw [h2, slc_w0, slc_wi (by decide), slc_w0], fun x hx => by rw [h3 x hx, wr_nrow (by omega), wr_nrow (by omega), wr_nrow (by omega)]⟩
theorem c_spills {a nc : Nat} {M : Mm} (hnc : nc ≤ 5) (hM : M a 1 = Int32.ofNat nc) : ∃ M', f_X5_spills 20000 a M = some (0, M') ∧ slc a M' = sSpillL nc 0 (slc a M) ∧ ∀ x, (x < a ∨ a + 8 < x) → M' x = M x :=
  c_spills_2 hnc 20000 nc 0 M hM (by omega) (by omega)
