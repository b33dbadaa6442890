/-! Does what was told fit, if these were bribed? -/
section FT
variable {nd nc : Nat} {T : Tb} {L : List Row} {K : LwS} {ms : List TbS} {im : Option (TbS × LwS)} {tp : List Nat} {ft : Int32} {W : Lw} {M : Mm} {A : TbS} {f : Nat → Nat} {br : Int32}
theorem i32_lt0o {v : Int32} (h : v < 0) : v < Int32.ofNat 0 := h
theorem m_told1 (N n : Nat) (v2 : Int32) (M : Mm) (h1 : ¬ M 208 11 ≤ v2) (h2 : inb v2 400 = true) (h3 : inb (v2 + 1) 400 = true) (r7 : Int32) (h4 : f_X11_noCellar N (M 214 v2.toNatClampNeg) M = some (r7, M)) (r13 : Int32) (h5 : f_X11_in N (M 214 (v2 + 1).toNatClampNeg) 0 24 M = some (r13, M)) : f_X11_isTold_26 N (n + 1) 1 v2 M = if r7 = 0 then (if r13 = 0 then f_X11_isTold_26 N n 0 (v2 + 3) M else f_X11_isTold_26 N n 1 (v2 + 3) M) else f_X11_isTold_26 N n 0 (v2 + 3) M := by
  rw [f_X11_isTold_26, if_neg h1, if_neg (show ¬ (1 : Int32) = 0 by decide)]
  simp only [grd, h2, if_true, h4, bnd, h3, h5, f_X11_isTold_72]
theorem m_told0 (N n : Nat) (v2 : Int32) (M : Mm) : f_X11_isTold_26 N (n + 1) 0 v2 M = some (0, M) := by
  rw [f_X11_isTold_26, if_pos (show (0 : Int32) = 0 from rfl)]
  simp only [grd, show isb (0 : Int32) = true from by decide, if_true, ite_self]
theorem m_told2 (N n : Nat) (v2 : Int32) (M : Mm) (h1 : M 208 11 ≤ v2) : f_X11_isTold_26 N (n + 1) 1 v2 M = some (1, M) := by
  rw [f_X11_isTold_26, if_pos h1]
  simp only [grd, show isb (1 : Int32) = true from by decide, if_true]
theorem m_noCsx {N b : Nat} (h1 : M 209 1 = Int32.ofNat nc) (hnc : nc ≤ 5) (hb : b < 256) : f_X11_noCellar N (sx b) M = some (if b < nc then 0 else 1, M) := by
  by_cases q : b < nc
  · rw [if_pos q, sx_lo (by omega)]; exact m_noC h1 q (by omega)
  · rw [if_neg q]
    by_cases q3 : b < 128
    · rw [sx_lo q3]; exact m_noCx h1 (Or.inr (i32_len (by omega) (by omega))) (by omega)
    · exact m_noCx h1 (Or.inl (sx_hi (by omega) hb)) (by omega)
theorem m_inCsx {N b : Nat} (hb : b < 256) : f_X11_in N (sx b) 0 24 M = some (if b ≤ 24 then 1 else 0, M) := by
  by_cases q : b ≤ 24
  · rw [if_pos q, sx_lo (by omega)]; exact m_in (lo := 0) (m := 24) (by omega) (by omega) (by omega)
  · rw [if_neg q]
    by_cases q3 : b < 128
    · rw [sx_lo q3]; exact m_inx (lo := 0) (m := 24) (Or.inr (i32_len (by omega) (by omega))) (by omega)
    · exact m_inx (lo := 0) (m := 24) (Or.inl (i32_lt0o (sx_hi (by omega) hb))) (by omega)
theorem m_isTold26 {nr : Nat} {N : Nat} (h : mTold f nr M) (hf : ∀ j, j < 3 * nr → f j < 256) (h1 : M 209 1 = Int32.ofNat nc) (hnc : nc ≤ 5) (hnr : nr ≤ 4) : ∀ (n k r : Nat), r + k = nr → k < n → f_X11_isTold_26 N n 1 (Int32.ofNat (3 * r)) M = some (if vRows f nc k r = true then 1 else 0, M) := by
  intro n
  induction n with
  | zero => intro k r _ h; omega
  | succ n ih =>
    intro k r hik hk
    match k with
    | 0 => exact m_told2 N n _ M (by rw [h.1]; exact i32_len (by omega) (by omega))
    | k + 1 =>
      obtain ⟨n, rfl⟩ : ∃ m, n = m + 1 := ⟨n - 1, by omega⟩
      have e1 : Int32.ofNat (3 * r) + 1 = Int32.ofNat (3 * r + 1) := i32_addN _ 1
      have e3 : Int32.ofNat (3 * r) + 3 = Int32.ofNat (3 * (r + 1)) := i32_addN _ 3
      have b0 := hf (3 * r) (by omega)
      have b1 := hf (3 * r + 1) (by omega)
      have hu := m_told1 N (n + 1) (Int32.ofNat (3 * r)) M (by rw [h.1]; exact i32_nle (by omega) (by omega)) (inb_ofNat (by omega) (by omega)) (by rw [e1]; exact inb_ofNat (by omega) (by omega)) _ (by rw [i32_clampN (by omega), h.2 _ (by omega)]; exact m_noCsx h1 hnc b0) _ (by rw [e1, i32_clampN (by omega), h.2 _ (by omega)]; exact m_inCsx b1)
      rw [hu, m_told0, e3, ih k (r + 1) (by omega) (by omega), vRows]
      by_cases q1 : f (3 * r) < nc
      · rw [if_pos q1, if_pos rfl]
        by_cases q2 : f (3 * r + 1) ≤ 24
        · rw [if_pos q2, if_neg (show ¬ (1 : Int32) = 0 by decide), decide_eq_true ⟨q1, q2⟩, Bool.true_and]
        · rw [if_neg q2, if_pos rfl, decide_eq_false (fun h => q2 h.2), Bool.false_and, if_neg (show ¬ false = true by decide)]
      · rw [if_neg q1, if_neg (show ¬ (1 : Int32) = 0 by decide), decide_eq_false (fun h => q1 h.1), Bool.false_and, if_neg (show ¬ false = true by decide)]
/-- the grains of a cellar t courses on, if these were bribed -/
def gB (W : Lw) (nc : Nat) (T : Tb) (L : List Row) (s t c : Nat) : Int32 := (sGo W (Int32.ofNat s) nc t (T, (fun _ => 0), 0, L)).1 6 c
def fitR (g : Nat → Nat → Int32) (f : Nat → Nat) : Nat → Nat → Bool
  | 0, _ => true
  | k + 1, r => decide (g (f (3 * r + 1)) (f (3 * r)) = Int32.ofNat (f (3 * r + 2))) && fitR g f k (r + 1)
theorem fitR_iff {g : Nat → Nat → Int32} : ∀ (k r : Nat), fitR g f k r = true ↔ ∀ j, r ≤ j → j < r + k → g (f (3 * j + 1)) (f (3 * j)) = Int32.ofNat (f (3 * j + 2)) := by
  intro k
  induction k with
  | zero => intro r; exact ⟨fun _ j h1 h2 => by omega, fun _ => rfl⟩
  | succ k ih =>
    intro r
    rw [fitR, Bool.and_eq_true, ih (r + 1), decide_eq_true_iff]
    constructor
    · intro ⟨h1, h2⟩ j hj1 hj2
      by_cases e : j = r
      · subst e; exact h1
      · exact h2 j (by omega) (by omega)
    · intro h
      exact ⟨h r (Nat.le_refl _) (by omega), fun j h1 h2 => h j (by omega) (by omega)⟩
def tAt (g : Nat → Int32) (f : Nat → Nat) (t : Nat) : Nat → Nat → Bool
  | 0, _ => true
  | k + 1, r => (if f (3 * r + 1) = t then decide (g (f (3 * r)) = Int32.ofNat (f (3 * r + 2))) else true) && tAt g f t k (r + 1)
theorem tAt_iff {g : Nat → Int32} {t : Nat} : ∀ (k r : Nat), tAt g f t k r = true ↔ ∀ j, r ≤ j → j < r + k → f (3 * j + 1) = t → g (f (3 * j)) = Int32.ofNat (f (3 * j + 2)) := by
  intro k
  induction k with
  | zero => intro r; exact ⟨fun _ j h1 h2 => by omega, fun _ => rfl⟩
  | succ k ih =>
    intro r
    rw [tAt, Bool.and_eq_true, ih (r + 1)]
    constructor
    · intro ⟨h1, h2⟩ j hj1 hj2 hj3
      by_cases e : j = r
      · subst e
        rw [if_pos hj3] at h1
        exact of_decide_eq_true h1
      · exact h2 j (by omega) (by omega) hj3
    · intro h
      refine ⟨?_, fun j h1 h2 => h j (by omega) (by omega)⟩
      by_cases e : f (3 * r + 1) = t
      · rw [if_pos e]; exact decide_eq_true (h r (Nat.le_refl _) (by omega) e)
      · rw [if_neg e]
def tAll (g : Nat → Nat → Int32) (f : Nat → Nat) (nr : Nat) : Nat → Nat → Bool
  | 0, _ => true
  | k + 1, t => tAt (g t) f t nr 0 && tAll g f nr k (t + 1)
theorem tAll_iff {g : Nat → Nat → Int32} {nr : Nat} : ∀ (k t : Nat), tAll g f nr k t = true ↔ ∀ u, t ≤ u → u < t + k → tAt (g u) f u nr 0 = true := by
  intro k
  induction k with
  | zero => intro t; exact ⟨fun _ j h1 h2 => by omega, fun _ => rfl⟩
  | succ k ih =>
    intro t
    rw [tAll, Bool.and_eq_true, ih (t + 1)]
    constructor
    · intro ⟨h1, h2⟩ u hu1 hu2
      by_cases e : u = t
      · subst e; exact h1
      · exact h2 u (by omega) (by omega)
    · intro h
      exact ⟨h t (Nat.le_refl _) (by omega), fun u h1 h2 => h u (by omega) (by omega)⟩
theorem all_fit {g : Nat → Nat → Int32} {nr la : Nat} (h : ∀ r, r < nr → f (3 * r + 1) ≤ la) : tAll g f nr (la + 1) 0 = fitR g f nr 0 := by
  rw [Bool.eq_iff_iff, tAll_iff, fitR_iff]
  constructor
  · intro h1 j _ hj
    have h2 := h1 (f (3 * j + 1)) (by omega) (by have := h j (by omega); omega)
    rw [tAt_iff] at h2
    exact h2 j (by omega) hj rfl
  · intro h1 u _ hu
    rw [tAt_iff]
    intro j h2 h3 h4
    rw [← h4]
    exact h1 j h2 h3
theorem sgo_tk9 : ∀ (t : Nat) (e e' : Es), e.1 = e'.1 → (sGo W br nc t e).1 = (sGo W br nc t e').1 := by
  intro t
  induction t with
  | zero => intro e e' h; exact h
  | succ t ih =>
    intro e e' h
    rw [sGo_s, sGo_s]
    exact calm_tk (ih e e' h)
theorem gd_br {v : Int32} {tk : Nat → Int32} {z : Int32} (h : gdE nd nc W br (T, tk, z, L)) : gdE nd nc W v (T, tk, z, L) := by
  obtain ⟨M, h1, h2, h3⟩ := h
  exact ⟨wr M 208 18 v, by rw [wr_nrow (by decide)]; exact h1, h2.cg (by rw [wr_nrow (by decide)]), wr_eq⟩
theorem m_fits19 {nr s : Nat} (hO : lwOK W) (hnr : nr ≤ 4) (hf : ∀ j, j < 3 * nr → f j < 256) (hv : vRows f nc nr 0 = true) : ∀ (n k r : Nat) (M : Mm), RW nd nc T L (M 209) → wLaw W M → mTold f nr M → M 208 18 = Int32.ofNat s → r + k = nr → k < n → ∃ M', f_X11_fits_19 20000 n 1 (Int32.ofNat (3 * r)) M = some (if fitR (gB W nc T L s) f k r = true then 1 else 0, M') ∧ M' 209 = M 209 ∧ ∀ x, x ≠ 212 → x ≠ 216 → M' x = wr M 208 18 0 x := by
  have h0 : ∀ n v M, f_X11_fits_19 20000 (n + 1) 0 v M = some (0, wr M 208 18 0) := fun n v M => by
    rw [f_X11_fits_19, if_pos (show (0 : Int32) = 0 from rfl)]
    simp only [grd, lt, show isb (0 : Int32) = true from by decide, if_true, ite_self]
  intro n
  induction n with
  | zero => intro k r M _ _ _ _ _ h; omega
  | succ n ih =>
    intro k r M hR hW hT hs hik hk
    have hnc := hR.1.2.1
    rw [f_X11_fits_19, hT.1]
    rw [show Int32.ofNat (3 * r) + 1 = Int32.ofNat (3 * r + 1) from i32_addN _ 1, show Int32.ofNat (3 * r) + 2 = Int32.ofNat (3 * r + 2) from i32_addN _ 2, show Int32.ofNat (3 * r) + 3 = Int32.ofNat (3 * (r + 1)) from i32_addN _ 3]
    match k with
    | 0 =>
      rw [if_pos (i32_len (by omega) (by omega))]
      exact ⟨_, rfl, by rw [wr_nrow (by decide)], fun x _ _ => rfl⟩
    | k + 1 =>
      obtain ⟨n, rfl⟩ : ∃ m, n = m + 1 := ⟨n - 1, by omega⟩
      obtain ⟨v1, v2⟩ := vRows_all nr 0 hv r (by omega) (by omega)
      have b2 := hf (3 * r + 2) (by omega)
      rw [if_neg (i32_nle (by omega) (by omega)), if_neg (show ¬ (1 : Int32) = 0 by decide)]
      simp only [grd, inb_ofNat (show 3 * r < 400 by omega) (by omega), inb_ofNat (show 3 * r + 1 < 400 by omega) (by omega), inb_ofNat (show 3 * r + 2 < 400 by omega) (by omega), if_true, i32_clampN (show 3 * r < 2147483648 by omega), i32_clampN (show 3 * r + 1 < 2147483648 by omega), i32_clampN (show 3 * r + 2 < 2147483648 by omega), hT.2 (3 * r) (by omega), hT.2 (3 * r + 1) (by omega)]
      rw [sx_lo (show f (3 * r) < 128 by omega), sx_lo (show f (3 * r + 1) < 128 by omega)]
      obtain ⟨M1, a1, a2, a3⟩ := m_grainsIn (c := f (3 * r)) (n := f (3 * r + 1)) hO hR hW v1 (by omega) (fun _ => 0) 0
      rw [hs] at a1
      rw [a1]
      simp only [bnd]
      rw [a3 214 (by decide) (by decide), hT.2 (3 * r + 2) (by omega), sx_255 b2, fitR]
      by_cases q : gB W nc T L s (f (3 * r + 1)) (f (3 * r)) = Int32.ofNat (f (3 * r + 2))
      · rw [if_pos (show (sGo W (Int32.ofNat s) nc (f (3 * r + 1)) (T, (fun _ => 0), 0, L)).1 6 (f (3 * r)) = _ from q), decide_eq_true q, Bool.true_and]
        obtain ⟨M2, c1, c2, c3⟩ := ih k (r + 1) M1 (by rw [a2]; exact hR) (hW.cg a2) ⟨by rw [a3 208 (by decide) (by decide)]; exact hT.1, fun j hj => by rw [a3 214 (by decide) (by decide)]; exact hT.2 j hj⟩ (by rw [a3 208 (by decide) (by decide)]; exact hs) (by omega) (by omega)
        refine ⟨M2, c1, by rw [c2, a2], fun x h1 h2 => ?_⟩
        rw [c3 x h1 h2]
        by_cases e : x = 208
        · subst e
          funext j
          by_cases e2 : j = 18
          · subst e2; rw [wr_eq, wr_eq]
          · rw [wr_nk e2, wr_nk e2, a3 208 h1 h2]
        · rw [wr_nrow e, wr_nrow e, a3 x h1 h2]
      · rw [if_neg (show ¬ (sGo W (Int32.ofNat s) nc (f (3 * r + 1)) (T, (fun _ => 0), 0, L)).1 6 (f (3 * r)) = _ from q), decide_eq_false q, Bool.false_and, h0, if_neg (by decide)]
        refine ⟨_, rfl, by rw [wr_nrow (by decide), a2], fun x h1 h2 => ?_⟩
        by_cases e : x = 208
        · subst e
          funext j
          by_cases e2 : j = 18
          · subst e2; rw [wr_eq, wr_eq]
          · rw [wr_nk e2, wr_nk e2, a3 208 h1 h2]
        · rw [wr_nrow e, wr_nrow e, a3 x h1 h2]
/-- a set of at most two that fits -/
def fitB (W : Lw) (nc : Nat) (T : Tb) (L : List Row) (f : Nat → Nat) (nr s : Nat) : Bool := decide (bcN s ≤ 2) && fitR (gB W nc T L s) f nr 0
theorem m_fits {nr s : Nat} (hO : lwOK W) (hnr : nr ≤ 4) (hf : ∀ j, j < 3 * nr → f j < 256) (hv : vRows f nc nr 0 = true) (hR : RW nd nc T L (M 209)) (hW : wLaw W M) (hT : mTold f nr M) (h18 : M 208 18 = 0) (hs : s < 256) : ∃ M', f_X11_fits 20000 (Int32.ofNat s) M = some (if fitB W nc T L f nr s = true then 1 else 0, M') ∧ ∀ x, x ≠ 212 → x ≠ 216 → M' x = M x := by
  have hb := bc_N hs
  unfold f_X11_fits fitB
  rw [j_bc, hb.1]
  simp only [bnd, lt]
  by_cases q : bcN s ≤ 2
  · rw [if_pos (show Int32.ofNat (bcN s) ≤ (2 : Int32) from i32_len (n := 2) q (by omega)), decide_eq_true q, Bool.true_and]
    obtain ⟨M1, a1, a2, a3⟩ := m_fits19 (nd := nd) (nc := nc) (T := T) (L := L) (s := s) hO hnr hf hv 20000 nr 0 (wr M 208 18 (Int32.ofNat s)) (by rw [wr_nrow (by decide)]; exact hR) (hW.cg (by rw [wr_nrow (by decide)])) ⟨by rw [wr_nk (by decide)]; exact hT.1, fun j hj => by rw [wr_nrow (by decide)]; exact hT.2 j hj⟩ wr_eq (by omega) (by omega)
    refine ⟨M1, a1, fun x h1 h2 => ?_⟩
    rw [a3 x h1 h2]
    by_cases e : x = 208
    · subst e
      funext j
      by_cases e2 : j = 18
      · subst e2; rw [wr_eq, h18]
      · rw [wr_nk e2, wr_nk e2]
    · rw [wr_nrow e, wr_nrow e]
  · rw [if_neg (show ¬ Int32.ofNat (bcN s) ≤ (2 : Int32) from i32_nle (k := 2) (by omega) (by omega)), decide_eq_false q, Bool.false_and, if_neg (by decide)]
    exact ⟨M, rfl, fun x _ _ => rfl⟩
end FT
