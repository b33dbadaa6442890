/-! Damp; whole courses of the class. -/
def whoOK (T : Tb) : Prop := ∀ s, s < 10 → T 1 s = -1 ∨ (¬ T 1 s < 0 ∧ T 1 s < 8)
theorem sWho_cases {T : Tb} {c : Nat} (h : whoOK T) : sWho T c = -1 ∨ (¬ sWho T c < 0 ∧ sWho T c < 8) := by
  unfold sWho sDinerAt
  by_cases h0 : T 4 c < 0
  · rw [if_pos h0]; exact Or.inl rfl
  · rw [if_neg h0]
    by_cases h1 : 10 ≤ T 4 c
    · rw [if_pos h1]; exact Or.inl rfl
    · rw [if_neg h1]
      obtain ⟨k, hk, e⟩ := i32_ex (n := 10) (Int32.not_lt.mp h0) (Int32.not_le.mp h1) (by decide)
      rw [e, i32_clampN (by omega)]
      exact h k hk
def sBy (W : Lw) (T : Tb) (c : Nat) : Int32 := if sWho T c = -1 then 1 else sSetsBy W (sFx T (Int32.ofNat c) (sWho T c))
def sDamp1 (W : Lw) (T : Tb) (c : Nat) : Tb := if T 6 c ≤ 0 then T else wr T 7 c (if T 7 c + sBy W T c < 9 then T 7 c + sBy W T c else 9)
def sDampL (W : Lw) : Nat → Nat → Tb → Tb
  | 0, _, T => T
  | k + 1, c, T => sDampL W k (c + 1) (sDamp1 W T c)
theorem c_damps_17 {a nc : Nat} {W : Lw} (ha : a + 8 < 25) (hnc : nc ≤ 5) : ∀ (n k i : Nat) (M : Mm), cLaw 25 W M → whoOK (slc a M) → M a 1 = Int32.ofNat nc → i + k = nc → k < n → ∃ M', f_X5_damps_17 20000 a 25 n (Int32.ofNat i) M = some (0, M') ∧ slc a M' = sDampL W k i (slc a M) ∧ ∀ x, (x < a ∨ a + 8 < x) → x ≠ 40 → M' x = M x := by
  intro n
  induction n with
  | zero => intro k i M _ _ _ _ h; omega
  | succ n ih =>
    intro k i M hW hO hM hik hn
    rw [f_X5_damps_17, hM]
    match k with
    | 0 =>
      rw [if_pos ((i32_leN (by omega) (by omega)).mpr (by omega))]
      exact ⟨M, rfl, rfl, fun x hx _ => rfl⟩
    | k + 1 =>
      have hin : inb (Int32.ofNat i) 5 = true := inb_ofNat (by omega) (by omega)
      have hcl : (Int32.ofNat i).toNatClampNeg = i := i32_clampN (by omega)
      rw [if_neg (fun h9 => by have := (i32_leN (by omega) (by omega)).mp h9; omega), if_neg (fun h9 => by have := (i32_leN (a := 5) (by omega) (by omega)).mp h9; omega)]
      have e6 : M (a + 6) i = slc a M 6 i := (slc_at (by decide)).symm
      have e4 : M (a + 4) i = slc a M 4 i := (slc_at (by decide)).symm
      simp only [grd, hin, if_true, hcl, c_dinerAt, bnd]
      rw [e6, e4, show sDinerAt (slc a M) (slc a M 4 i) = sWho (slc a M) i from rfl]
      show ∃ M', _ ∧ slc a M' = sDampL W k (i + 1) (sDamp1 W (slc a M) i) ∧ _
      have h81 : ∀ (M1 : Mm) (by9 : Int32), slc a M1 = slc a M → (∀ x, x ≠ 40 → M1 x = M x) → ∃ M', f_X5_damps_81 20000 a 25 (fun v3 M => f_X5_damps_17 20000 a 25 n v3 M) (Int32.ofNat i) by9 M1 = some (0, M') ∧ slc a M' = sDampL W k (i + 1) (wr (slc a M) 7 i (if slc a M 7 i + by9 < 9 then slc a M 7 i + by9 else 9)) ∧ ∀ x, (x < a ∨ a + 8 < x) → x ≠ 40 → M' x = M x := fun M1 by9 hs hf => by
        unfold f_X5_damps_81
        simp only [grd, hin, if_true, hcl, lt, i32_succ]
        have e7 : M1 (a + 7) i = slc a M 7 i := by rw [← hs]; exact (slc_at (by decide)).symm
        rw [e7]
        have hs9 : slc a (wr M1 (a + 7) i (if slc a M 7 i + by9 < 9 then slc a M 7 i + by9 else 9)) = wr (slc a M) 7 i (if slc a M 7 i + by9 < 9 then slc a M 7 i + by9 else 9) := by rw [slc_wi (by decide), hs]
        obtain ⟨M', h1, h2, h3⟩ := ih k (i + 1) (wr M1 (a + 7) i (if slc a M 7 i + by9 < 9 then slc a M 7 i + by9 else 9)) (hW.frame (fun j hj => by rw [wr_nrow (by omega), hf _ (by omega)])) (by
          rw [hs9]; intro s hs8; rw [wr_nrow (by decide)]; exact hO s hs8) (by rw [wr_ne (by omega), hf _ (by omega)]; exact hM) (by omega) (by omega)
        exact ⟨M', h1, by rw [h2, hs9], fun x hx hx4 => by rw [h3 x hx hx4, wr_nrow (by omega), hf x hx4]⟩
      unfold sDamp1 sBy
      by_cases q1 : slc a M 6 i ≤ 0
      · rw [if_pos q1, if_pos q1, i32_succ]; exact ih k (i + 1) M hW hO hM (by omega) (by omega)
      · rw [if_neg q1, if_neg q1]
        by_cases q2 : sWho (slc a M) i = -1
        · simp only [if_pos q2]; exact h81 M 1 rfl (fun _ _ => rfl)
        · simp only [if_neg q2]
          obtain ⟨d0, d8⟩ := (sWho_cases (c := i) hO).resolve_left q2
          obtain ⟨M1, t1, t2, t3⟩ := c_tell (N := 20000) (a := a) (c := Int32.ofNat i) (d := sWho (slc a M) i) (M := M) (by omega) (i32_nn (by omega)) (fun h9 => by have := (i32_leN (a := 5) (by omega) (by omega)).mp h9; omega) d0 d8
          rw [t1]
          have hW1 : cLaw 25 W M1 := hW.frame (fun j hj => t2 _ (by omega))
          simp only [c_setsBy hW1, t3]
          exact h81 M1 _ (slc_ex (fun j hj => t2 _ (by omega))) t2
def sDamps (W : Lw) (nc : Nat) (T : Tb) : Tb := if sRoll T < T 0 7 then sDampL W nc 0 (sNext T) else sNext T
theorem c_damps {a nc : Nat} {W : Lw} {M : Mm} (ha : a + 8 < 25) (hnc : nc ≤ 5) (hW : cLaw 25 W M) (hO : whoOK (slc a M)) (hM : M a 1 = Int32.ofNat nc) : ∃ M', f_X5_damps 20000 a 25 M = some (0, M') ∧ slc a M' = sDamps W nc (slc a M) ∧ ∀ x, (x < a ∨ a + 8 < x) → x ≠ 40 → M' x = M x := by
  unfold f_X5_damps sDamps sRoll sNext
  have e0 : ∀ j, slc a M 0 j = M a j := fun j => slc_at (i := 0) (by decide)
  rw [c_draws, e0, e0]
  simp only [bnd]
  rw [wr_nk (show (7 : Nat) ≠ 9 by decide)]
  by_cases h : sDraw (sSeed (M a 9)) - sDraw (sSeed (M a 9)) / 100 * 100 < M a 7
  · rw [if_pos h, if_pos h]
    obtain ⟨M', h1, h2, h3⟩ := c_damps_17 (a := a) (nc := nc) (W := W) ha hnc 20000 nc 0 (wr M a 9 (sSeed (M a 9))) (hW.frame (fun j hj => wr_nrow (by omega))) (by
      rw [slc_w0]; intro s hs; rw [wr_nrow (by decide)]; exact hO s hs) (by rw [wr_nk (by decide)]; exact hM) (by omega) (by omega)
    exact ⟨M', h1, by rw [h2, slc_w0], fun x hx hx4 => by rw [h3 x hx hx4, wr_nrow (by omega)]⟩
  · rw [if_neg h, if_neg h]
    exact ⟨_, rfl, slc_w0, fun x hx hx4 => wr_nrow (by omega)⟩
/-! rows that a course leaves as they are -/
theorem sEat_row {W : Lw} {br : Int32} {c : Nat} {e : Es} {i : Nat} (h : i ≠ 3) (h6 : i ≠ 6) : (sEat W br c e).1 i = e.1 i := by
  unfold sEat
  split
  · rfl
  · split
    · rfl
    · split
      · rfl
      · exact sTake_row h h6
theorem sAll_row {W : Lw} {br : Int32} {i : Nat} (h : i ≠ 3) (h6 : i ≠ 6) : ∀ (k c : Nat) (e : Es), (sAll W br k c e).1 i = e.1 i := by
  intro k
  induction k with
  | zero => intro c e; rfl
  | succ k ih => intro c e; rw [sAll, ih, sEat_row h h6]
theorem sSpill1_row {T : Tb} {c i : Nat} (h : i ≠ 0) (h6 : i ≠ 6) : sSpill1 T c i = T i := by
  unfold sSpill1 sNext
  split
  · rfl
  · split
    · exact wr_nrow h
    · rw [wr_nrow h, wr_nrow h6, wr_nrow h]
theorem sSpill1_n {T : Tb} {c : Nat} {j : Nat} (h9 : j ≠ 9) (h8 : j ≠ 8) : sSpill1 T c 0 j = T 0 j := by
  unfold sSpill1 sNext
  split
  · rfl
  · split
    · exact wr_nk h9
    · rw [wr_nk h8, wr_ne (by decide), wr_nk h9]
theorem sSpillL_row {i : Nat} (h : i ≠ 0) (h6 : i ≠ 6) : ∀ (k c : Nat) (T : Tb), sSpillL k c T i = T i := by
  intro k
  induction k with
  | zero => intro c T; rfl
  | succ k ih => intro c T; rw [sSpillL, ih, sSpill1_row h h6]
theorem sSpillL_n {j : Nat} (h9 : j ≠ 9) (h8 : j ≠ 8) : ∀ (k c : Nat) (T : Tb), sSpillL k c T 0 j = T 0 j := by
  intro k
  induction k with
  | zero => intro c T; rfl
  | succ k ih => intro c T; rw [sSpillL, ih, sSpill1_n h9 h8]
theorem sDampL_row {W : Lw} {i : Nat} (h : i ≠ 7) : ∀ (k c : Nat) (T : Tb), sDampL W k c T i = T i := by
  intro k
  induction k with
  | zero => intro c T; rfl
  | succ k ih =>
    intro c T; rw [sDampL, ih]; unfold sDamp1
    split
    · rfl
    · exact wr_nrow h
theorem sDamps_row {W : Lw} {nc i : Nat} {T : Tb} (h : i ≠ 7) (h0 : i ≠ 0) : sDamps W nc T i = T i := by
  unfold sDamps sNext
  split
  · rw [sDampL_row h, wr_nrow h0]
  · exact wr_nrow h0
theorem sDamps_n {W : Lw} {nc j : Nat} {T : Tb} (h : j ≠ 9) : sDamps W nc T 0 j = T 0 j := by
  unfold sDamps sNext
  split
  · rw [sDampL_row (by decide), wr_nk h]
  · exact wr_nk h
/-- a course with the calm, and one with spilling and damp; table, taken, sum, log -/
def sCalm (W : Lw) (br : Int32) (nc : Nat) (e : Es) : Es := (sPass nc (sAll W br nc 0 (e.1, e.2.1, 0, e.2.2.2)).1, (sAll W br nc 0 (e.1, e.2.1, 0, e.2.2.2)).2.1, (sAll W br nc 0 (e.1, e.2.1, 0, e.2.2.2)).2.2.1, (sAll W br nc 0 (e.1, e.2.1, 0, e.2.2.2)).2.2.2)
def sCourse (W : Lw) (br : Int32) (nc : Nat) (e : Es) : Es := (sPass nc (sDamps W nc (sSpillL nc 0 (sAll W br nc 0 (e.1, e.2.1, 0, e.2.2.2)).1)), (sAll W br nc 0 (e.1, e.2.1, 0, e.2.2.2)).2.1, (sAll W br nc 0 (e.1, e.2.1, 0, e.2.2.2)).2.2.1, (sAll W br nc 0 (e.1, e.2.1, 0, e.2.2.2)).2.2.2)
theorem c_goesAhead {a nc : Nat} {W : Lw} {M : Mm} (ha : a + 8 < 25) (hnc : nc ≤ 5) (hW : cLaw 25 W M) (hM : M a 1 = Int32.ofNat nc) (v : Int32) (L : List Row) : ∃ M', f_X5_goesAhead 20000 a 25 M = some ((sCalm W (M 39 2) nc (slc a M, M 41, v, L)).2.2.1, M') ∧ slc a M' = (sCalm W (M 39 2) nc (slc a M, M 41, v, L)).1 ∧ M' 41 = (sCalm W (M 39 2) nc (slc a M, M 41, v, L)).2.1 ∧ ∀ x, (x < a ∨ a + 8 < x) → x ≠ 40 → x ≠ 41 → M' x = M x := by
  obtain ⟨M1, h1, h2, h3, h4⟩ := c_allTake_n (a := a) (nc := nc) (W := W) ha hnc L 20000 nc 0 0 M hW hM (by omega) (by omega)
  have e1 : M1 a 1 = Int32.ofNat nc := by
    have h9 : slc a M1 0 = slc a M 0 := by rw [h2]; exact sAll_row (by decide) (by decide) _ _ _
    have h8 : slc a M1 0 1 = slc a M 0 1 := by rw [h9]
    rw [slc_at (by decide), slc_at (by decide)] at h8
    exact h8.trans hM
  obtain ⟨M2, k1, k2, k3⟩ := c_passesOn hnc e1
  unfold f_X5_goesAhead f_X5_allTake_n
  rw [show (0 : Int32) = Int32.ofNat 0 from rfl] at h1 ⊢
  rw [h1]
  simp only [bnd, k1]
  exact ⟨M2, rfl, by rw [k2, h2]; rfl, by rw [k3 41 (by omega), h3]; rfl, fun x x1 x2 x3 => by rw [k3 x x1, h4 x x1 x2 x3]⟩
