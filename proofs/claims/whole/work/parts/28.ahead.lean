/-! Looking ahead by n courses, and until cellars are free (class). -/
theorem sPassL_row {i : Nat} (h : i ≠ 4) : ∀ (k c : Nat) (T : Tb), sPassL k c T i = T i := by
  intro k
  induction k with
  | zero => intro c T; rfl
  | succ k ih => intro c T; rw [sPassL, ih]; exact wr_nrow h
theorem sPass_row {nc i : Nat} {T : Tb} (h : i ≠ 4) (h0 : i ≠ 0) : sPass nc T i = T i := by
  unfold sPass sTick
  split
  · rw [wr_nrow h0, sPassL_row h]
  · rw [wr_nrow h0, wr_nrow h0, wr_nrow h0, sPassL_row h]
theorem sPass_n {nc j : Nat} {T : Tb} (h4 : j ≠ 4) (h5 : j ≠ 5) : sPass nc T 0 j = T 0 j := by
  unfold sPass sTick
  split
  · rw [wr_nk h4, sPassL_row (by decide)]
  · rw [wr_nk h5, wr_nk h4, wr_nk h4, sPassL_row (by decide)]
theorem sCalm_n {W : Lw} {br : Int32} {nc j : Nat} {e : Es} (h4 : j ≠ 4) (h5 : j ≠ 5) : (sCalm W br nc e).1 0 j = e.1 0 j := by
  unfold sCalm; dsimp only
  rw [sPass_n h4 h5, sAll_row (by decide) (by decide)]
theorem sCalm_row {W : Lw} {br : Int32} {nc i : Nat} {e : Es} (h0 : i ≠ 0) (h3 : i ≠ 3) (h4 : i ≠ 4) (h6 : i ≠ 6) : (sCalm W br nc e).1 i = e.1 i := by
  unfold sCalm; dsimp only
  rw [sPass_row h4 h0, sAll_row h3 h6]
theorem sCourse_n {W : Lw} {br : Int32} {nc j : Nat} {e : Es} (h4 : j ≠ 4) (h5 : j ≠ 5) (h8 : j ≠ 8) (h9 : j ≠ 9) : (sCourse W br nc e).1 0 j = e.1 0 j := by
  unfold sCourse; dsimp only
  rw [sPass_n h4 h5, sDamps_n h9, sSpillL_n h9 h8, sAll_row (by decide) (by decide)]
theorem sCourse_row {W : Lw} {br : Int32} {nc i : Nat} {e : Es} (h0 : i ≠ 0) (h3 : i ≠ 3) (h4 : i ≠ 4) (h6 : i ≠ 6) (h7 : i ≠ 7) : (sCourse W br nc e).1 i = e.1 i := by
  unfold sCourse; dsimp only
  rw [sPass_row h4 h0, sDamps_row h7 h0, sSpillL_row h0 h6, sAll_row h3 h6]
theorem c_ahead {nc : Nat} {W : Lw} {M : Mm} {e : Es} (hnc : nc ≤ 5) (hW : cLaw 25 W M) (h1 : slc 16 M = e.1) (h2 : M 41 = e.2.1) (hn : e.1 0 1 = Int32.ofNat nc) :
    ∃ M', f_X5_goesAhead 20000 16 25 M = some ((sCalm W (M 39 2) nc e).2.2.1, M') ∧ slc 16 M' = (sCalm W (M 39 2) nc e).1 ∧ M' 41 = (sCalm W (M 39 2) nc e).2.1 ∧ (sCalm W (M 39 2) nc e).1 0 1 = Int32.ofNat nc ∧ ∀ x, (x < 16 ∨ 24 < x) → x ≠ 40 → x ≠ 41 → M' x = M x := by
  have hM : M 16 1 = Int32.ofNat nc := by
    rw [← hn, ← h1]; exact (slc_at (i := 0) (by decide)).symm
  obtain ⟨M', g1, g2, g3, g4⟩ := c_goesAhead (a := 16) (nc := nc) (W := W) (M := M) (by omega) hnc hW hM e.2.2.1 e.2.2.2
  rw [h1, h2] at g1 g2 g3
  exact ⟨M', g1, g2, g3, by rw [sCalm_n (by decide) (by decide)]; exact hn, g4⟩
theorem c_by {nc : Nat} {W : Lw} {M : Mm} {e : Es} (hnc : nc ≤ 5) (hW : cLaw 25 W M) (h1 : slc 16 M = e.1) (h2 : M 41 = e.2.1) (hO : whoOK e.1) (hn : e.1 0 1 = Int32.ofNat nc) :
    ∃ M', f_X5_goesBy_n 20000 16 25 M = some ((sCourse W (M 39 2) nc e).2.2.1, M') ∧ slc 16 M' = (sCourse W (M 39 2) nc e).1 ∧ M' 41 = (sCourse W (M 39 2) nc e).2.1 ∧ whoOK (sCourse W (M 39 2) nc e).1 ∧ (sCourse W (M 39 2) nc e).1 0 1 = Int32.ofNat nc ∧ ∀ x, (x < 16 ∨ 24 < x) → x ≠ 40 → x ≠ 41 → M' x = M x := by
  have hM : M 16 1 = Int32.ofNat nc := by
    rw [← hn, ← h1]; exact (slc_at (i := 0) (by decide)).symm
  obtain ⟨M', g1, g2, g3, g4⟩ := c_goesBy_n (a := 16) (nc := nc) (W := W) (M := M) (by omega) hnc hW (by rw [h1]; exact hO) hM e.2.2.1 e.2.2.2
  rw [h1, h2] at g1 g2 g3
  exact ⟨M', g1, g2, g3, fun s hs => by rw [sCourse_row (by decide) (by decide) (by decide) (by decide) (by decide)]; exact hO s hs, by rw [sCourse_n (by decide) (by decide) (by decide) (by decide)]; exact hn, g4⟩
def sGo (W : Lw) (br : Int32) (nc : Nat) : Nat → Es → Es
  | 0, e => e
  | n + 1, e => sGo W br nc n (sCalm W br nc e)
def sBys (W : Lw) (br : Int32) (nc : Nat) : Nat → Es → Es
  | 0, e => e
  | n + 1, e => sBys W br nc n (sCourse W br nc e)
theorem c_lookBy {nc m : Nat} {W : Lw} (hm : m < 2147483648) (hnc : nc ≤ 5) : ∀ (n k i : Nat) (M : Mm) (e : Es), cLaw 25 W M → slc 16 M = e.1 → M 41 = e.2.1 → e.1 0 1 = Int32.ofNat nc → i + k = m → k < n →
    ∃ M', f_X10_looksAheadBy_6 20000 n (Int32.ofNat m) (Int32.ofNat i) M = some (0, M') ∧ slc 16 M' = (sGo W (M 39 2) nc k e).1 ∧ M' 41 = (sGo W (M 39 2) nc k e).2.1 ∧ ∀ x, (x < 16 ∨ 24 < x) → x ≠ 40 → x ≠ 41 → M' x = M x := by
  intro n
  induction n with
  | zero => intro k i M e _ _ _ _ _ h; omega
  | succ n ih =>
    intro k i M e hW h1 h2 hn hik hk
    rw [f_X10_looksAheadBy_6]
    match k with
    | 0 =>
      rw [if_pos ((i32_leN (by omega) (by omega)).mpr (by omega))]
      exact ⟨M, rfl, h1, h2, fun _ _ _ _ => rfl⟩
    | k + 1 =>
      rw [if_neg (fun h9 => by have := (i32_leN (by omega) (by omega)).mp h9; omega)]
      obtain ⟨M1, g1, g2, g3, g4, g5⟩ := c_ahead hnc hW h1 h2 hn
      rw [g1]
      simp only [bnd, i32_succ]
      obtain ⟨M', k1, k2, k3, k4⟩ := ih k (i + 1) M1 _ (hW.frame (fun j hj => g5 _ (by omega) (by omega) (by omega))) g2 g3 g4 (by omega) (by omega)
      rw [g5 39 (by omega) (by omega) (by omega)] at k2 k3
      exact ⟨M', k1, k2, k3, fun x x1 x2 x3 => (k4 x x1 x2 x3).trans (g5 x x1 x2 x3)⟩
theorem c_looksAheadBy {nc m : Nat} {W : Lw} {M : Mm} (hm : m ≤ 200) (hnc : nc ≤ 5) (hW : cLaw 25 W M) (h0 : tz (slc 16 M)) (h1 : tz (slc 7 M)) (hn : slc 7 M 0 1 = Int32.ofNat nc) (v : Int32) (L : List Row) :
    ∃ M', f_X10_looksAheadBy 20000 (Int32.ofNat m) M = some (0, M') ∧ slc 16 M' = (sGo W 0 nc m (slc 7 M, clr (M 41), v, L)).1 ∧ M' 41 = (sGo W 0 nc m (slc 7 M, clr (M 41), v, L)).2.1 ∧ ∀ x, (x < 16 ∨ 24 < x) → x ≠ 39 → x ≠ 40 → x ≠ 41 → M' x = M x := by
  obtain ⟨M1, a1, a2, a3, a4, a5, a6⟩ := c_looksAhead h0 h1
  obtain ⟨M2, b1, b2, b3, b4⟩ := c_lookBy (nc := nc) (m := m) (W := W) (by omega) hnc 20000 m 0 M1 (slc 7 M, clr (M 41), v, L) (hW.frame (fun j hj => a6 _ (by omega) (by omega) (by omega))) a2 a3 hn (by omega) (by omega)
  unfold f_X10_looksAheadBy
  rw [a1]
  simp only [bnd]
  rw [a4] at b2 b3
  rw [show (0 : Int32) = Int32.ofNat 0 from rfl] at b1 b2 b3 ⊢
  exact ⟨M2, b1, b2, b3, fun x x1 x2 x3 x4 => (b4 x x1 x3 x4).trans (a6 x x1 x2 x4)⟩
theorem c_tries_14 {nc m : Nat} {W : Lw} (hm : m < 2147483648) (hnc : nc ≤ 5) : ∀ (n k i : Nat) (M : Mm) (e : Es), cLaw 25 W M → slc 16 M = e.1 → M 41 = e.2.1 → whoOK e.1 → e.1 0 1 = Int32.ofNat nc → i + k = m → k < n →
    ∃ M', f_X10_tries_14 20000 n (Int32.ofNat m) (Int32.ofNat i) M = some (0, M') ∧ slc 16 M' = (sBys W (M 39 2) nc k e).1 ∧ ∀ x, (x < 16 ∨ 24 < x) → x ≠ 40 → x ≠ 41 → M' x = M x := by
  intro n
  induction n with
  | zero => intro k i M e _ _ _ _ _ _ h; omega
  | succ n ih =>
    intro k i M e hW h1 h2 hO hn hik hk
    rw [f_X10_tries_14]
    match k with
    | 0 =>
      rw [if_pos ((i32_leN (by omega) (by omega)).mpr (by omega))]
      exact ⟨M, rfl, h1, fun _ _ _ _ => rfl⟩
    | k + 1 =>
      rw [if_neg (fun h9 => by have := (i32_leN (by omega) (by omega)).mp h9; omega)]
      obtain ⟨M1, g1, g2, g3, gO, g4, g5⟩ := c_by hnc hW h1 h2 hO hn
      rw [g1]
      simp only [bnd, i32_succ]
      obtain ⟨M', k1, k2, k4⟩ := ih k (i + 1) M1 _ (hW.frame (fun j hj => g5 _ (by omega) (by omega) (by omega))) g2 g3 gO g4 (by omega) (by omega)
      rw [g5 39 (by omega) (by omega) (by omega)] at k2
      exact ⟨M', k1, k2, fun x x1 x2 x3 => (k4 x x1 x2 x3).trans (g5 x x1 x2 x3)⟩
theorem c_tries {nc m : Nat} {W : Lw} {M : Mm} {sd : Int32} (hm : m ≤ 200) (hnc : nc ≤ 5) (hW : cLaw 25 W M) (h0 : tz (slc 16 M)) (h1 : tz (slc 7 M)) (hO : whoOK (slc 7 M)) (hn : slc 7 M 0 1 = Int32.ofNat nc) (v : Int32) (L : List Row) :
    ∃ M', f_X10_tries 20000 (Int32.ofNat m) sd M = some (0, M') ∧ slc 16 M' = (sBys W 0 nc m (wr (slc 7 M) 0 9 sd, clr (M 41), v, L)).1 ∧ ∀ x, (x < 16 ∨ 24 < x) → x ≠ 39 → x ≠ 40 → x ≠ 41 → M' x = M x := by
  obtain ⟨M1, a1, a2, a3, a4, a5, a6⟩ := c_looksAhead h0 h1
  obtain ⟨M2, b1, b2, b4⟩ := c_tries_14 (nc := nc) (m := m) (W := W) (by omega) hnc 20000 m 0 (wr M1 16 9 sd) (wr (slc 7 M) 0 9 sd, clr (M 41), v, L) (hW.frame (fun j hj => by rw [wr_nrow (by omega)]; exact a6 _ (by omega) (by omega) (by omega))) (by rw [slc_w0, a2]) (by rw [wr_nrow (by decide)]; exact a3) (fun s hs => by
    show wr (slc 7 M) 0 9 sd 1 s = -1 ∨ _
    rw [wr_nrow (by decide)]; exact hO s hs) (by show wr (slc 7 M) 0 9 sd 0 1 = _; rw [wr_nk (by decide)]; exact hn) (by omega) (by omega)
  unfold f_X10_tries
  rw [a1]
  simp only [bnd, lt]
  rw [wr_nrow (by decide), a4] at b2
  rw [show (0 : Int32) = Int32.ofNat 0 from rfl] at b1 b2 ⊢
  exact ⟨M2, b1, b2, fun x x1 x2 x3 x4 => (b4 x x1 x3 x4).trans (by rw [wr_nrow (by omega)]; exact a6 x x1 x2 x4)⟩
def sHeldL : Nat → Nat → Int32 → Tb → Int32
  | 0, _, v, _ => v
  | k + 1, c, v, T => sHeldL k (c + 1) (if T 6 c ≤ 0 then v ||| 0 else v ||| (1 <<< (Int32.ofNat c &&& 31))) T
def sHeld (nc : Nat) (T : Tb) : Int32 := sHeldL nc 0 0 T
theorem c_held_4 {a nc : Nat} {M : Mm} (hnc : nc ≤ 5) (hM : M a 1 = Int32.ofNat nc) : ∀ (n k i : Nat) (v : Int32), i + k = nc → k < n → f_X6_heldCellars_4 20000 a n v (Int32.ofNat i) M = some (sHeldL k i v (slc a M), M) := by
  intro n
  induction n with
  | zero => intro k i v _ h; omega
  | succ n ih =>
    intro k i v hik hk
    rw [f_X6_heldCellars_4, hM]
    match k with
    | 0 =>
      rw [if_pos ((i32_leN (by omega) (by omega)).mpr (by omega))]; rfl
    | k + 1 =>
      rw [if_neg (fun h9 => by have := (i32_leN (by omega) (by omega)).mp h9; omega), if_neg (fun h9 => by have := (i32_leN (a := 5) (by omega) (by omega)).mp h9; omega)]
      simp only [grd, inb_ofNat (show i < 5 by omega) (by omega), if_true, i32_clampN (show i < 2147483648 by omega), lt, i32_succ, ih k (i + 1) _ (show i + 1 + k = nc by omega) (by omega)]
      rw [sHeldL, slc_at (by decide)]
      split <;> rfl
theorem c_held {a nc : Nat} {M : Mm} (hnc : nc ≤ 5) (hM : M a 1 = Int32.ofNat nc) : f_X6_heldCellars 20000 a M = some (sHeld nc (slc a M), M) :=
  c_held_4 hnc hM 20000 nc 0 0 (by omega) (by omega)
