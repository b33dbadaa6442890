/-! The reference's world kept and brought back; many courses; what is held. -/
theorem m_keeps_2 : ∀ (n k i : Nat) (M : Mm), i + k = 409 → k < n → ∃ M', f_X11_keepsAll_2 20000 n (Int32.ofNat i) M = some (0, M') ∧ (∀ j, M' 212 j = if i ≤ j ∧ j < 409 then M 209 j else M 212 j) ∧ ∀ x, x ≠ 212 → M' x = M x := by
  intro n
  induction n with
  | zero => intro k i M _ h; omega
  | succ n ih =>
    intro k i M hik hk
    rw [f_X11_keepsAll_2]
    match k with
    | 0 =>
      rw [if_pos (show (409 : Int32) ≤ Int32.ofNat i from (i32_leN (a := 409) (by omega) (by omega)).mpr (by omega))]
      exact ⟨M, rfl, fun j => by rw [if_neg (by omega)], fun _ _ => rfl⟩
    | k + 1 =>
      rw [if_neg (show ¬ (409 : Int32) ≤ Int32.ofNat i from fun h9 => by have := (i32_leN (a := 409) (by omega) (by omega)).mp h9; omega)]
      simp only [grd, lt, inb_ofNat (show i < 2107 by omega) (by omega), inb_ofNat (show i < 409 by omega) (by omega), if_true, i32_clampN (show i < 2147483648 by omega), i32_succ]
      obtain ⟨M', a1, a2, a3⟩ := ih k (i + 1) (wr M 212 i (M 209 i)) (by omega) (by omega)
      refine ⟨M', a1, fun j => ?_, fun x hx => by rw [a3 x hx, wr_nrow hx]⟩
      rw [a2 j, wr_ne (show (209 : Nat) ≠ 212 by decide)]
      by_cases e : j = i
      · subst e; rw [if_neg (by omega), if_pos (by omega), wr_eq]
      · rw [wr_nk e]
        by_cases e2 : i + 1 ≤ j ∧ j < 409
        · rw [if_pos e2, if_pos (by omega)]
        · rw [if_neg e2, if_neg (by omega)]
theorem m_keepsAll {M : Mm} : ∃ M', f_X11_keepsAll 20000 M = some (0, M') ∧ (∀ j, j < 409 → M' 212 j = M 209 j) ∧ ∀ x, x ≠ 212 → M' x = M x := by
  obtain ⟨M', a1, a2, a3⟩ := m_keeps_2 20000 409 0 M (by omega) (by omega)
  refine ⟨M', ?_, fun j hj => by rw [a2 j, if_pos (by omega)], a3⟩
  unfold f_X11_keepsAll
  rw [show (0 : Int32) = Int32.ofNat 0 from rfl] at a1 ⊢
  exact a1
theorem m_brings_2 : ∀ (n k i : Nat) (M : Mm), i + k = 409 → k < n → ∃ M', f_X11_bringsBack_2 20000 n (Int32.ofNat i) M = some (0, M') ∧ (∀ j, M' 209 j = if i ≤ j ∧ j < 409 then M 212 j else M 209 j) ∧ ∀ x, x ≠ 209 → M' x = M x := by
  intro n
  induction n with
  | zero => intro k i M _ h; omega
  | succ n ih =>
    intro k i M hik hk
    rw [f_X11_bringsBack_2]
    match k with
    | 0 =>
      rw [if_pos (show (409 : Int32) ≤ Int32.ofNat i from (i32_leN (a := 409) (by omega) (by omega)).mpr (by omega))]
      exact ⟨M, rfl, fun j => by rw [if_neg (by omega)], fun _ _ => rfl⟩
    | k + 1 =>
      rw [if_neg (show ¬ (409 : Int32) ≤ Int32.ofNat i from fun h9 => by have := (i32_leN (a := 409) (by omega) (by omega)).mp h9; omega)]
      simp only [grd, lt, inb_ofNat (show i < 2107 by omega) (by omega), inb_ofNat (show i < 409 by omega) (by omega), if_true, i32_clampN (show i < 2147483648 by omega), i32_succ]
      obtain ⟨M', a1, a2, a3⟩ := ih k (i + 1) (wr M 209 i (M 212 i)) (by omega) (by omega)
      refine ⟨M', a1, fun j => ?_, fun x hx => by rw [a3 x hx, wr_nrow hx]⟩
      rw [a2 j, wr_ne (show (212 : Nat) ≠ 209 by decide)]
      by_cases e : j = i
      · subst e; rw [if_neg (by omega), if_pos (by omega), wr_eq]
      · rw [wr_nk e]
        by_cases e2 : i + 1 ≤ j ∧ j < 409
        · rw [if_pos e2, if_pos (by omega)]
        · rw [if_neg e2, if_neg (by omega)]
/-- what was kept comes back whole -/
theorem m_bringsBack {M0 M : Mm} (hk : ∀ j, j < 409 → M 212 j = M0 209 j) (hh : ∀ j, 409 ≤ j → M 209 j = M0 209 j) : ∃ M', f_X11_bringsBack 20000 M = some (0, M') ∧ M' 209 = M0 209 ∧ ∀ x, x ≠ 209 → M' x = M x := by
  obtain ⟨M', a1, a2, a3⟩ := m_brings_2 20000 409 0 M (by omega) (by omega)
  refine ⟨M', ?_, ?_, a3⟩
  · unfold f_X11_bringsBack
    rw [show (0 : Int32) = Int32.ofNat 0 from rfl] at a1 ⊢
    exact a1
  · funext j
    rw [a2 j]
    by_cases e : j < 409
    · rw [if_pos (by omega), hk j e]
    · rw [if_neg (by omega), hh j (by omega)]
def sSumG (W : Lw) (br : Int32) (nc : Nat) : Nat → Es → Int32 → Int32
  | 0, _, v => v
  | n + 1, e, v => sSumG W br nc n (sCalm W br nc e) (v + (sCalm W br nc e).2.2.1)
def sSumB (W : Lw) (br : Int32) (nc : Nat) : Nat → Es → Int32 → Int32
  | 0, _, v => v
  | n + 1, e, v => sSumB W br nc n (sCourse W br nc e) (v + (sCourse W br nc e).2.2.1)
theorem m_goesOn_c {nd nc m : Nat} {W : Lw} (hO : lwOK W) (hm : m < 2147483648) : ∀ (n k i : Nat) (v : Int32) (e : Es) (M : Mm), RW nd nc e.1 e.2.2.2 (M 209) → wLaw W M → i + k = m → k < n → ∃ M', f_X11_goesOn_5 20000 n (Int32.ofNat m) 1 v (Int32.ofNat i) M = some (sSumG W (M 208 18) nc k e v, M') ∧ RW nd nc (sGo W (M 208 18) nc k e).1 (sGo W (M 208 18) nc k e).2.2.2 (M' 209) ∧ mK M' M := by
  intro n
  induction n with
  | zero => intro k i v e M _ _ _ h; omega
  | succ n ih =>
    intro k i v e M hR hW hik hk
    rw [f_X11_goesOn_5]
    match k with
    | 0 =>
      rw [if_pos ((i32_leN (by omega) (by omega)).mpr (by omega))]
      exact ⟨M, rfl, hR, mK.rf⟩
    | k + 1 =>
      rw [if_neg (fun h9 => by have := (i32_leN (by omega) (by omega)).mp h9; omega)]
      obtain ⟨M1, a1, a2, a3⟩ := m_calm hO hR hW
      rw [a1]
      simp only [bnd, lt, i32_succ]
      obtain ⟨M', b1, b2, b3⟩ := ih k (i + 1) (v + (sCalm W (M 208 18) nc e).2.2.1) (sCalm W (M 208 18) nc e) M1 a2 (a3.law hW hO) (by omega) (by omega)
      rw [a3.2.2 208 (by decide) (by decide)] at b1 b2
      exact ⟨M', b1, b2, b3.trans a3⟩
theorem m_goesOn_b {nd nc m : Nat} {W : Lw} (hO : lwOK W) (hm : m < 2147483648) : ∀ (n k i : Nat) (v : Int32) (e : Es) (M : Mm), RW nd nc e.1 e.2.2.2 (M 209) → wLaw W M → i + k = m → k < n → ∃ M', f_X11_goesOn_5 20000 n (Int32.ofNat m) 0 v (Int32.ofNat i) M = some (sSumB W (M 208 18) nc k e v, M') ∧ RW nd nc (sBys W (M 208 18) nc k e).1 (sBys W (M 208 18) nc k e).2.2.2 (M' 209) ∧ mK M' M := by
  intro n
  induction n with
  | zero => intro k i v e M _ _ _ h; omega
  | succ n ih =>
    intro k i v e M hR hW hik hk
    rw [f_X11_goesOn_5]
    match k with
    | 0 =>
      rw [if_pos ((i32_leN (by omega) (by omega)).mpr (by omega))]
      exact ⟨M, rfl, hR, mK.rf⟩
    | k + 1 =>
      rw [if_neg (fun h9 => by have := (i32_leN (by omega) (by omega)).mp h9; omega)]
      obtain ⟨M1, a1, a2, a3⟩ := m_byc hO hR hW
      rw [a1]
      simp only [bnd, lt, i32_succ]
      obtain ⟨M', b1, b2, b3⟩ := ih k (i + 1) (v + (sCourse W (M 208 18) nc e).2.2.1) (sCourse W (M 208 18) nc e) M1 a2 (a3.law hW hO) (by omega) (by omega)
      rw [a3.2.2 208 (by decide) (by decide)] at b1 b2
      exact ⟨M', b1, b2, b3.trans a3⟩
theorem m_held_4 {nd nc : Nat} {L : List Row} {T : Tb} {M : Mm} (hR : RW nd nc T L (M 209)) : ∀ (n k i : Nat) (v : Int32), i + k = nc → k < n → f_X11_heldOnes_4 20000 n v (Int32.ofNat i) M = some (sHeldL k i v T, M) := by
  have hnc := hR.1.2.1
  intro n
  induction n with
  | zero => intro k i v _ h; omega
  | succ n ih =>
    intro k i v hik hk
    rw [f_X11_heldOnes_4, m_cellars]
    simp only [bnd]
    rw [hR.1.2.2.2.2.2]
    match k with
    | 0 =>
      rw [if_pos ((i32_leN (by omega) (by omega)).mpr (by omega))]; rfl
    | k + 1 =>
      rw [if_neg (fun h9 => by have := (i32_leN (by omega) (by omega)).mp h9; omega), m_isFree (by omega), hR.2.2.2.2.1 i (by omega) 2 (by decide), show T (4 + 2) i = T 6 i from rfl]
      simp only [lt, i32_succ, ih k (i + 1) _ (show i + 1 + k = nc by omega) (by omega)]
      rw [sHeldL]
      obtain ⟨-, -, ⟨g, hg, eg⟩, -⟩ := hR.2.2.2.2.2.2.1.2.2.2.2 i (by omega)
      by_cases q : T 6 i = 0
      · rw [if_pos q, if_neg (show ¬ (1 : Int32) = 0 by decide), if_pos (by rw [q]; decide)]
      · rw [if_neg q, if_pos rfl, if_neg (fun h9 => q (Int32.le_antisymm h9 (by rw [eg]; exact i32_ge0 (by omega))))]
theorem m_heldOnes {nd nc : Nat} {L : List Row} {T : Tb} {M : Mm} (hR : RW nd nc T L (M 209)) : f_X11_heldOnes 20000 M = some (sHeld nc T, M) :=
  m_held_4 hR 20000 nc 0 0 (by omega) (by have := hR.1.2.1; omega)
