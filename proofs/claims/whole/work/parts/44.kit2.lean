/-! Loops, and what calls need. -/
def nF {β : Type} (st : β → Nat → β) : Nat → Nat → β → β
  | 0, _, v => v
  | k + 1, i, v => nF st k (i + 1) (st v i)
theorem lp_n {β ρ : Type} {f : Nat → β → Int32 → Option ρ} {fin : β → Option ρ} {st : β → Nat → β} {m : Nat} (h0 : ∀ n v, f (n + 1) v (Int32.ofNat m) = fin v) (h1 : ∀ n v i, i < m → f (n + 1) v (Int32.ofNat i) = f n (st v i) (Int32.ofNat (i + 1))) : ∀ (n k i : Nat) (v : β), i + k = m → k < n → f n v (Int32.ofNat i) = fin (nF st k i v) := by
  intro n
  induction n with
  | zero => intro k i v _ h; omega
  | succ n ih =>
    intro k i v hik hk
    match k with
    | 0 =>
      obtain rfl : i = m := by omega
      exact h0 n v
    | k + 1 =>
      rw [h1 n v i (by omega), ih k (i + 1) _ (by omega) (by omega)]; rfl
theorem nF_cg {β : Type} {st st' : β → Nat → β} {m : Nat} (h : ∀ v i, i < m → st v i = st' v i) : ∀ (k i : Nat) (v : β), i + k ≤ m → nF st k i v = nF st' k i v := by
  intro k
  induction k with
  | zero => intro i v _; rfl
  | succ k ih => intro i v hk; rw [nF, nF, h v i (by omega), ih (i + 1) _ (by omega)]
def xF {β ρ : Type} (st : β → Nat → β ⊕ ρ) (fin : β → ρ) : Nat → Nat → β → ρ
  | 0, _, v => fin v
  | k + 1, i, v => match st v i with
    | .inl v' => xF st fin k (i + 1) v'
    | .inr r => r
theorem lp_x {β ρ : Type} {f : Nat → β → Int32 → ρ} {fin : β → ρ} {st : β → Nat → β ⊕ ρ} {m : Nat} (h0 : ∀ n v, f (n + 1) v (Int32.ofNat m) = fin v) (h1 : ∀ n v i, i < m → f (n + 1) v (Int32.ofNat i) = match st v i with
    | .inl v' => f n v' (Int32.ofNat (i + 1))
    | .inr r => r) : ∀ (n k i : Nat) (v : β), i + k = m → k < n → f n v (Int32.ofNat i) = xF st fin k i v := by
  intro n
  induction n with
  | zero => intro k i v _ h; omega
  | succ n ih =>
    intro k i v hik hk
    match k with
    | 0 =>
      obtain rfl : i = m := by omega
      exact h0 n v
    | k + 1 =>
      rw [h1 n v i (by omega), xF]
      cases st v i with
      | inl v' => exact ih k (i + 1) _ (by omega) (by omega)
      | inr r => rfl
theorem xF_cg {β ρ : Type} {st st' : β → Nat → β ⊕ ρ} {fin : β → ρ} {m : Nat} (h : ∀ v i, i < m → st v i = st' v i) : ∀ (k i : Nat) (v : β), i + k ≤ m → xF st fin k i v = xF st' fin k i v := by
  intro k
  induction k with
  | zero => intro i v _; rfl
  | succ k ih =>
    intro i v hk; rw [xF, xF, h v i (by omega)]
    cases st' v i with
    | inl v' => exact ih (i + 1) _ (by omega)
    | inr r => rfl
/-- a memory changed step by step -/
def mF (up : Nat → Mm → Mm) : Nat → Nat → Mm → Mm
  | 0, _, M => M
  | k + 1, i, M => mF up k (i + 1) (up i M)
theorem lp_m {ρ : Type} {f : Nat → Int32 → Mm → Option ρ} {fin : Mm → ρ} {up : Nat → Mm → Mm} {m : Nat} {P : Mm → Prop} (hP : ∀ i M, i < m → P M → P (up i M)) (h0 : ∀ n M, P M → f (n + 1) (Int32.ofNat m) M = some (fin M)) (h1 : ∀ n i M, i < m → P M → f (n + 1) (Int32.ofNat i) M = f n (Int32.ofNat (i + 1)) (up i M)) : ∀ (n k i : Nat) (M : Mm), P M → i + k = m → k < n → f n (Int32.ofNat i) M = some (fin (mF up k i M)) ∧ P (mF up k i M) := by
  intro n
  induction n with
  | zero => intro k i M _ _ h; omega
  | succ n ih =>
    intro k i M hM hik hk
    match k with
    | 0 =>
      obtain rfl : i = m := by omega
      exact ⟨h0 n M hM, hM⟩
    | k + 1 =>
      rw [h1 n i M (by omega) hM]
      exact ih k (i + 1) _ (hP i M (by omega) hM) (by omega) (by omega)
/-- copying, from a row b + i to a row a + i -/
theorem mF_cp {d s a b : Nat} (hds : d ≠ s) : ∀ (k i : Nat) (M : Mm), (∀ x, x ≠ d → mF (fun i M => wr M d (a + i) (M s (b + i))) k i M x = M x) ∧ ∀ j, mF (fun i M => wr M d (a + i) (M s (b + i))) k i M d j = if a + i ≤ j ∧ j < a + i + k then M s (b + (j - a)) else M d j := by
  intro k
  induction k with
  | zero => intro i M; exact ⟨fun _ _ => rfl, fun j => by rw [if_neg (by omega)]; rfl⟩
  | succ k ih =>
    intro i M
    obtain ⟨h1, h2⟩ := ih (i + 1) (wr M d (a + i) (M s (b + i)))
    refine ⟨fun x hx => by rw [mF, h1 x hx, wr_nrow hx], fun j => ?_⟩
    rw [mF, h2 j, wr_nrow (Ne.symm hds)]
    by_cases e : j = a + i
    · subst e
      rw [if_neg (by omega), wr_eq, if_pos (by omega)]
      congr 1; omega
    · rw [wr_nk e]
      by_cases e2 : a + (i + 1) ≤ j ∧ j < a + (i + 1) + k
      · rw [if_pos e2, if_pos (by omega)]
      · rw [if_neg e2, if_neg (by omega)]
theorem i32_rng (v : Int32) {n : Nat} (hn : n < 2147483648) : (∃ k, k < n ∧ v = Int32.ofNat k) ∨ (v < 0 ∨ Int32.ofNat n ≤ v) := by
  by_cases h0 : v < 0
  · exact Or.inr (Or.inl h0)
  · by_cases h1 : Int32.ofNat n ≤ v
    · exact Or.inr (Or.inr h1)
    · exact Or.inl (i32_ex (Int32.not_lt.mp h0) (Int32.not_le.mp h1) hn)
theorem i32_rng1 (v : Int32) {lo n : Nat} (hl : lo ≤ n) (hn : n < 2147483648) : (∃ k, lo ≤ k ∧ k < n ∧ v = Int32.ofNat k) ∨ (v < Int32.ofNat lo ∨ Int32.ofNat n ≤ v) := by
  by_cases h0 : v < Int32.ofNat lo
  · exact Or.inr (Or.inl h0)
  · by_cases h1 : Int32.ofNat n ≤ v
    · exact Or.inr (Or.inr h1)
    · have h2 : (0 : Int32) ≤ v := Int32.le_trans (i32_ge0 (k := lo) (by omega)) (Int32.not_lt.mp h0)
      obtain ⟨k, hk, rfl⟩ := i32_ex h2 (Int32.not_le.mp h1) hn
      refine Or.inl ⟨k, ?_, hk, rfl⟩
      have := (i32_leN (by omega) (by omega)).mp (Int32.not_lt.mp h0)
      omega
theorem slE {a : Nat} {M : Mm} {T : Tb} (h : slc a M = T) {i j : Nat} (hi : i < 9) : M (a + i) j = T i j := by rw [← h, slc_at hi]
theorem i32_ltn {k n : Nat} (h : k < n) (hn : n < 2147483648) : Int32.ofNat k < Int32.ofNat n := (i32_ltN (by omega) hn).mpr h
theorem i32_nle {k n : Nat} (h : k < n) (hn : n < 2147483648) : ¬ Int32.ofNat n ≤ Int32.ofNat k := Int32.not_le.mpr (i32_ltn h hn)
theorem i32_len {k n : Nat} (h : k ≤ n) (hn : n < 2147483648) : Int32.ofNat k ≤ Int32.ofNat n := (i32_leN (by omega) hn).mpr h
theorem i32_nlt {k n : Nat} (h : k ≤ n) (hn : n < 2147483648) : ¬ Int32.ofNat n < Int32.ofNat k := Int32.not_lt.mpr (i32_len h hn)
theorem i32_m1 {n : Nat} {v : Int32} (hn : n < 2147483647) : Int32.ofNat n - 1 < v ↔ Int32.ofNat n ≤ v := by
  have h1 : (1 : Int32).toInt = 1 := by decide
  have h2 : (Int32.ofNat n).toInt = n := i32_nat (by omega)
  have h3 : (Int32.ofNat n - 1).toInt = n - 1 := by
    rw [i32_sub (by omega) (by omega)]; omega
  rw [Int32.lt_iff_toInt_lt, Int32.le_iff_toInt_le]; omega
section ND
variable {M : Mm} {N n k : Nat} {v : Int32}
theorem c_nD (hM : M 7 0 = Int32.ofNat n) (hk : k < n) (hn : n ≤ 8) : f_X10_needsDiner N (Int32.ofNat k) M = some (.inl 0, M) := by
  unfold f_X10_needsDiner
  rw [if_neg (i32_nn (by omega)), hM, if_pos (i32_ltn hk (by omega))]
theorem c_nDx (hM : M 7 0 = Int32.ofNat n) (h : v < 0 ∨ Int32.ofNat n ≤ v) : f_X10_needsDiner N v M = some (.inr "java/lang/IndexOutOfBoundsException", M) := by
  unfold f_X10_needsDiner f_X10_needsDiner_15
  rw [hM]
  rcases h with h | h
  · rw [if_pos h]
  · rw [if_neg (Int32.not_lt.mpr h)]; split <;> rfl
theorem c_nC (hM : M 7 1 = Int32.ofNat n) (hk : k < n) (hn : n ≤ 8) : f_X10_needsCellar N (Int32.ofNat k) M = some (.inl 0, M) := by
  unfold f_X10_needsCellar
  rw [if_neg (i32_nn (by omega)), hM, if_pos (i32_ltn hk (by omega))]
theorem c_nCx (hM : M 7 1 = Int32.ofNat n) (h : v < 0 ∨ Int32.ofNat n ≤ v) : f_X10_needsCellar N v M = some (.inr "java/lang/IndexOutOfBoundsException", M) := by
  unfold f_X10_needsCellar f_X10_needsCellar_15
  rw [hM]
  rcases h with h | h
  · rw [if_pos h]
  · rw [if_neg (Int32.not_lt.mpr h)]; split <;> rfl
theorem c_nS (hk : k < 10) : f_X10_needsSeat N (Int32.ofNat k) M = some (.inl 0, M) := by
  unfold f_X10_needsSeat
  rw [if_neg (i32_nn (by omega)), if_pos (show Int32.ofNat k < 10 from i32_ltn (n := 10) hk (by omega))]
theorem c_nSx (h : v < 0 ∨ Int32.ofNat 10 ≤ v) : f_X10_needsSeat N v M = some (.inr "java/lang/IndexOutOfBoundsException", M) := by
  unfold f_X10_needsSeat f_X10_needsSeat_10
  rcases h with h | h
  · rw [if_pos h]
  · rw [if_neg (show ¬ v < 10 from Int32.not_lt.mpr h)]; split <;> rfl
theorem c_nT (hk : k < 6) : f_X10_needsTrait N (Int32.ofNat k) M = some (.inl 0, M) := by
  unfold f_X10_needsTrait
  rw [if_neg (i32_nn (by omega)), if_pos (show Int32.ofNat k < 6 from i32_ltn (n := 6) hk (by omega))]
theorem c_nTx (h : v < 0 ∨ Int32.ofNat 6 ≤ v) : f_X10_needsTrait N v M = some (.inr "java/lang/IndexOutOfBoundsException", M) := by
  unfold f_X10_needsTrait f_X10_needsTrait_10
  rcases h with h | h
  · rw [if_pos h]
  · rw [if_neg (show ¬ v < 6 from Int32.not_lt.mpr h)]; split <;> rfl
theorem c_nW {m : Nat} (hk : k < m + 1) (hm : m < 1000) : f_X10_needsWhat N (Int32.ofNat k) (Int32.ofNat m) M = some (.inl 0, M) := by
  unfold f_X10_needsWhat
  rw [if_neg (i32_nn (by omega)), if_pos (i32_len (by omega) (by omega))]
theorem c_nWx {m : Nat} (h : v < 0 ∨ Int32.ofNat (m + 1) ≤ v) (hm : m < 1000) : f_X10_needsWhat N v (Int32.ofNat m) M = some (.inr "java/util/NoSuchElementException", M) := by
  unfold f_X10_needsWhat f_X10_needsWhat_9
  rcases h with h | h
  · rw [if_pos h]
  · rw [if_neg (show ¬ v ≤ Int32.ofNat m from fun h9 => absurd (Int32.le_trans h h9) (i32_nle (by omega) (by omega)))]; split <;> rfl
theorem c_nI {lo m : Nat} (hl : lo ≤ k) (hk : k < m + 1) (hm : m < 1000) : f_X10_needsWithin N (Int32.ofNat k) (Int32.ofNat lo) (Int32.ofNat m) M = some (.inl 0, M) := by
  unfold f_X10_needsWithin
  rw [if_neg (i32_nlt hl (by omega)), if_pos (i32_len (by omega) (by omega))]
theorem c_nIx {lo m : Nat} (h : v < Int32.ofNat lo ∨ Int32.ofNat (m + 1) ≤ v) (hm : m < 1000) : f_X10_needsWithin N v (Int32.ofNat lo) (Int32.ofNat m) M = some (.inr "java/lang/IllegalArgumentException", M) := by
  unfold f_X10_needsWithin f_X10_needsWithin_10
  rcases h with h | h
  · rw [if_pos h]
  · rw [if_neg (show ¬ v ≤ Int32.ofNat m from fun h9 => absurd (Int32.le_trans h h9) (i32_nle (by omega) (by omega)))]; split <;> rfl
theorem m_in {lo m : Nat} (hl : lo ≤ k) (hk : k < m + 1) (hm : m < 1000) : f_X11_in N (Int32.ofNat k) (Int32.ofNat lo) (Int32.ofNat m) M = some (1, M) := by
  unfold f_X11_in
  rw [if_neg (i32_nlt hl (by omega)), if_neg (i32_nlt (by omega) (by omega))]
theorem m_inx {lo m : Nat} (h : v < Int32.ofNat lo ∨ Int32.ofNat (m + 1) ≤ v) (hm : m < 1000) : f_X11_in N v (Int32.ofNat lo) (Int32.ofNat m) M = some (0, M) := by
  unfold f_X11_in f_X11_in_14
  rcases h with h | h
  · rw [if_pos h]
  · rw [if_pos (show Int32.ofNat m < v from Int32.lt_of_lt_of_le (i32_ltn (by omega) (by omega)) h)]; split <;> rfl
theorem m_noD (hM : M 209 0 = Int32.ofNat n) (hk : k < n) (hn : n ≤ 8) : f_X11_noDiner N (Int32.ofNat k) M = some (0, M) := by
  unfold f_X11_noDiner
  rw [m_diners, hM]
  simp only [bnd]
  unfold f_X11_in
  rw [if_neg (i32_nn (by omega)), if_neg (fun h9 => absurd ((i32_m1 (by omega)).mp h9) (i32_nle hk (by omega)))]
  rfl
theorem m_noDx (hM : M 209 0 = Int32.ofNat n) (h : v < 0 ∨ Int32.ofNat n ≤ v) (hn : n ≤ 8) : f_X11_noDiner N v M = some (1, M) := by
  unfold f_X11_noDiner
  rw [m_diners, hM]
  simp only [bnd]
  unfold f_X11_in f_X11_in_14
  rcases h with h | h
  · rw [if_pos h]; rfl
  · rw [if_pos ((i32_m1 (by omega)).mpr h), ite_self]; rfl
theorem m_noC (hM : M 209 1 = Int32.ofNat n) (hk : k < n) (hn : n ≤ 8) : f_X11_noCellar N (Int32.ofNat k) M = some (0, M) := by
  unfold f_X11_noCellar
  rw [m_cellars, hM]
  simp only [bnd]
  unfold f_X11_in
  rw [if_neg (i32_nn (by omega)), if_neg (fun h9 => absurd ((i32_m1 (by omega)).mp h9) (i32_nle hk (by omega)))]
  rfl
theorem m_noCx (hM : M 209 1 = Int32.ofNat n) (h : v < 0 ∨ Int32.ofNat n ≤ v) (hn : n ≤ 8) : f_X11_noCellar N v M = some (1, M) := by
  unfold f_X11_noCellar
  rw [m_cellars, hM]
  simp only [bnd]
  unfold f_X11_in f_X11_in_14
  rcases h with h | h
  · rw [if_pos h]; rfl
  · rw [if_pos ((i32_m1 (by omega)).mpr h), ite_self]; rfl
theorem m_noS (hk : k < 10) : f_X11_noSeat N (Int32.ofNat k) M = some (0, M) := by
  unfold f_X11_noSeat
  rw [show (0 : Int32) = Int32.ofNat 0 from rfl, show (9 : Int32) = Int32.ofNat 9 from rfl, m_in (by omega) (by omega) (by omega)]; rfl
theorem m_noSx (h : v < 0 ∨ Int32.ofNat 10 ≤ v) : f_X11_noSeat N v M = some (1, M) := by
  unfold f_X11_noSeat
  rw [show (9 : Int32) = Int32.ofNat 9 from rfl, show f_X11_in N v 0 (Int32.ofNat 9) M = some (0, M) from m_inx (lo := 0) h (by omega)]; rfl
theorem m_noT (hk : k < 6) : f_X11_noTrait N (Int32.ofNat k) M = some (0, M) := by
  unfold f_X11_noTrait
  rw [show (0 : Int32) = Int32.ofNat 0 from rfl, show (5 : Int32) = Int32.ofNat 5 from rfl, m_in (by omega) (by omega) (by omega)]; rfl
theorem m_noTx (h : v < 0 ∨ Int32.ofNat 6 ≤ v) : f_X11_noTrait N v M = some (1, M) := by
  unfold f_X11_noTrait
  rw [show (5 : Int32) = Int32.ofNat 5 from rfl, show f_X11_in N v 0 (Int32.ofNat 5) M = some (0, M) from m_inx (lo := 0) h (by omega)]; rfl
theorem m_noA (hk : k < 201) : f_X11_noAhead N (Int32.ofNat k) M = some (0, M) := by
  unfold f_X11_noAhead
  rw [show (0 : Int32) = Int32.ofNat 0 from rfl, show (200 : Int32) = Int32.ofNat 200 from rfl, m_in (by omega) (by omega) (by omega)]; rfl
theorem m_noAx (h : v < 0 ∨ Int32.ofNat 201 ≤ v) : f_X11_noAhead N v M = some (1, M) := by
  unfold f_X11_noAhead
  rw [show (200 : Int32) = Int32.ofNat 200 from rfl, show f_X11_in N v 0 (Int32.ofNat 200) M = some (0, M) from m_inx (lo := 0) h (by omega)]; rfl
theorem m_th0 {c : Int32} : f_X11_throwsIf N 0 c M = some (0, M) := rfl
theorem m_th1 {c : Int32} : f_X11_throwsIf N 1 c M = some (1, wr M 208 0 c) := rfl
end ND
/-! A pair whose calls change nothing, and one whose calls throw. -/
section KQ
variable {A : TbS} {K : LwS} {ms : List TbS} {im : Option (TbS × LwS)} {tp : List Nat} {ft : Int32} {M M1 M2 : Mm} {F : Mm → Option ((Int32 ⊕ String) × Mm)} {f g : Mm → Option (Int32 × Mm)} {kx : String → Mm → Option (Int32 × Mm)} {r : Int32}
theorem Kq (hf : ∀ M, f M = bnx (F M) (fun r M2 => grd (inb (0 : Int32) 1) (lt (wr M2 219 ((0 : Int32)).toNatClampNeg r) (fun M5 => some ((0 : Int32), M5)))) kx) (h : InvS A K ms im tp ft M) (h1 : F M = some (.inl r, M1)) (q1 : cQ M1 M) (h2 : g (wr M1 219 0 r) = some (r, M2)) (q2 : mQ M2 (wr M1 219 0 r)) (h3 : M2 208 0 = 0) : Kd f g M := by
  refine ⟨0, r, wr M1 219 0 r, M2, ?_, h2, h3, fun _ => ?_, A, K, ms, im, tp, ft, h.o q1 q2⟩
  · rw [hf M, h1]; rfl
  · rw [q2.1 219 (by omega), wr_eq]
/-- the same, the reference reading off a world alone -/
theorem Kr (hf : ∀ M, f M = bnx (F M) (fun r M2 => grd (inb (0 : Int32) 1) (lt (wr M2 219 ((0 : Int32)).toNatClampNeg r) (fun M5 => some ((0 : Int32), M5)))) kx) (h : InvS A K ms im tp ft M) (h1 : F M = some (.inl r, M1)) (q1 : cQ M1 M) (h2 : ∀ M, mI A K ms im tp ft M → ∃ M2, g M = some (r, M2) ∧ mQ M2 M ∧ M2 208 0 = 0) : Kd f g M := by
  obtain ⟨M2, a1, a2, a3⟩ := h2 (wr M1 219 0 r) (h.2.1.c (fun x hx h9 => by rw [wr_nrow (by omega)]; exact q1.hi hx))
  exact Kq hf h h1 q1 a1 a2 a3
theorem Kx {e : String} {code : Int32} (hf : ∀ M, f M = bnx (F M) (fun r M2 => grd (inb (0 : Int32) 1) (lt (wr M2 219 ((0 : Int32)).toNatClampNeg r) (fun M5 => some ((0 : Int32), M5)))) kx) (h : InvS A K ms im tp ft M) (h1 : F M = some (.inr e, M1)) (q1 : cQ M1 M) (hk : ∀ M, kx e M = some (code, M)) (hc : code ≠ 0) (h2 : ∀ M, mI A K ms im tp ft M → ∃ M2, g M = some (0, M2) ∧ mQ M2 M ∧ M2 208 0 = code) : Kd f g M := by
  obtain ⟨M2, a1, a2, a3⟩ := h2 M1 (h.2.1.c (fun x hx _ => q1.hi hx))
  refine ⟨code, 0, M1, M2, ?_, a1, a3, fun h9 => absurd h9 hc, A, K, ms, im, tp, ft, h.q q1 a2⟩
  rw [hf M, h1]; exact hk M1
theorem Cr {F g : Mm → Option (Int32 × Mm)} (h : InvS A K ms im tp ft M) (h1 : F M = some (r, M1)) (q1 : cQ M1 M) (h2 : ∀ M, mI A K ms im tp ft M → ∃ M2, g M = some (r, M2) ∧ mQ M2 M) : Cd F g M := by
  obtain ⟨M2, a1, a2⟩ := h2 M1 (h.2.1.c (fun x hx _ => q1.hi hx))
  exact ⟨r, M1, M2, h1, a1, A, K, ms, im, tp, ft, h.q q1 a2⟩
end KQ
