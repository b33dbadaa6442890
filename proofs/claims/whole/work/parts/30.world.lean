/-! The reference's world, and how it stands to a table. -/
theorem m_dAt (d k : Nat) : ((12 : Int32) + (9 : Int32) * Int32.ofNat d) + Int32.ofNat k = Int32.ofNat (12 + 9 * d + k) := by
  show Int32.ofNat 12 + Int32.ofNat 9 * Int32.ofNat d + Int32.ofNat k = _
  rw [i32_mulN, i32_addN, i32_addN]
theorem m_cAt (c k : Nat) : ((84 : Int32) + (5 : Int32) * Int32.ofNat c) + Int32.ofNat k = Int32.ofNat (84 + 5 * c + k) := by
  show Int32.ofNat 84 + Int32.ofNat 5 * Int32.ofNat c + Int32.ofNat k = _
  rw [i32_mulN, i32_addN, i32_addN]
theorem m_diners {N : Nat} {M : Mm} : f_X11_diners N M = some (M 209 0, M) := rfl
theorem m_cellars {N : Nat} {M : Mm} : f_X11_cellars N M = some (M 209 1, M) := rfl
theorem m_of {N d k : Nat} {M : Mm} (hd : d < 8) (hk : k < 9) : f_X11_of N (Int32.ofNat d) (Int32.ofNat k) M = some (M 209 (12 + 9 * d + k), M) := by
  unfold f_X11_of f_X11_dinerAt
  simp only [bnd]
  rw [m_dAt]
  simp only [grd, inb_ofNat (show 12 + 9 * d + k < 2107 by omega) (by omega), if_true, i32_clampN (show 12 + 9 * d + k < 2147483648 by omega)]
theorem m_ofCellar {N c k : Nat} {M : Mm} (hc : c < 5) (hk : k < 5) : f_X11_ofCellar N (Int32.ofNat c) (Int32.ofNat k) M = some (M 209 (84 + 5 * c + k), M) := by
  unfold f_X11_ofCellar f_X11_cellarAt
  simp only [bnd]
  rw [m_cAt]
  simp only [grd, inb_ofNat (show 84 + 5 * c + k < 2107 by omega) (by omega), if_true, i32_clampN (show 84 + 5 * c + k < 2147483648 by omega)]
theorem m_isFree {N c : Nat} {M : Mm} (hc : c < 5) : f_X11_isFree N (Int32.ofNat c) M = some (if M 209 (84 + 5 * c + 2) = 0 then 1 else 0, M) := by
  unfold f_X11_isFree
  rw [show (2 : Int32) = Int32.ofNat 2 from rfl, m_ofCellar hc (by decide)]
  simp only [bnd]
  split <;> rfl
theorem m_onDiet {N d : Nat} {M : Mm} (hd : d < 8) : f_X11_onDiet N (Int32.ofNat d) M = some (if M 209 (12 + 9 * d + 2) = 1 then 1 else 0, M) := by
  unfold f_X11_onDiet
  rw [show (2 : Int32) = Int32.ofNat 2 from rfl, m_of hd (by decide)]
  simp only [bnd]
  split <;> rfl
/-- table and world alike -/
def rHead (nd nc : Nat) (T : Tb) (w : Nat → Int32) : Prop := nd ≤ 8 ∧ nc ≤ 5 ∧ T 0 0 = Int32.ofNat nd ∧ T 0 1 = Int32.ofNat nc ∧ w 0 = Int32.ofNat nd ∧ w 1 = Int32.ofNat nc
def rScal (T : Tb) (w : Nat → Int32) : Prop := w 6 = T 0 3 ∧ w 4 = T 0 4 ∧ w 5 = T 0 5 ∧ w 7 = T 0 6 ∧ w 8 = T 0 7 ∧ w 9 = T 0 8 ∧ w 11 = T 0 9 ∧ w 2 = T 0 10
def rSeat (nd : Nat) (T : Tb) (w : Nat → Int32) : Prop := (∀ d, d < nd → ∃ s, s < 10 ∧ w (12 + 9 * d) = Int32.ofNat s ∧ T 1 s = Int32.ofNat d) ∧ ∀ s, s < 10 → T 1 s = -1 ∨ ∃ d, d < nd ∧ T 1 s = Int32.ofNat d ∧ w (12 + 9 * d) = Int32.ofNat s
def rDin (nd : Nat) (T : Tb) (w : Nat → Int32) : Prop := ∀ d, d < nd → w (12 + 9 * d + 1) = T 2 d ∧ w (12 + 9 * d + 2) = sDiet T (Int32.ofNat d) ∧ ∀ t, t < 6 → w (12 + 9 * d + 3 + t) = T 3 (6 * d + t)
def rCel (nc : Nat) (T : Tb) (w : Nat → Int32) : Prop := ∀ c, c < nc → ∀ k, k < 5 → w (84 + 5 * c + k) = T (4 + k) c
def rLog (L : List Row) (w : Nat → Int32) : Prop := L.length ≤ 60 ∧ w 10 = Int32.ofNat L.length ∧ ∀ k (h : k < L.length), w (109 + 5 * k) = (L[k]'h).1 ∧ w (110 + 5 * k) = (L[k]'h).2.1 ∧ w (111 + 5 * k) = (L[k]'h).2.2.1 ∧ w (112 + 5 * k) = (L[k]'h).2.2.2.1 ∧ w (113 + 5 * k) = (L[k]'h).2.2.2.2
/-- what is between what -/
def rB (nd nc : Nat) (T : Tb) : Prop := (∃ k, k < 12 ∧ T 0 4 = Int32.ofNat k) ∧ (∃ k, k ≤ 9999 ∧ T 0 5 = Int32.ofNat k) ∧ (∃ k, k ≤ 9999 ∧ T 0 8 = Int32.ofNat k) ∧ (∀ d, d < nd → (∃ k, k ≤ 9 ∧ T 2 d = Int32.ofNat k) ∧ ∀ t, t < 6 → ∃ k, k ≤ 999 ∧ T 3 (6 * d + t) = Int32.ofNat k) ∧
  ∀ c, c < nc → (∃ k, k < 10 ∧ T 4 c = Int32.ofNat k) ∧ (∃ k, k < 6 ∧ T 5 c = Int32.ofNat k) ∧ (∃ k, k ≤ 200 ∧ T 6 c = Int32.ofNat k) ∧ (∃ k, k ≤ 9 ∧ T 7 c = Int32.ofNat k) ∧ ∃ k, k ≤ 9 ∧ T 8 c = Int32.ofNat k
def RW (nd nc : Nat) (T : Tb) (L : List Row) (w : Nat → Int32) : Prop := rHead nd nc T w ∧ rScal T w ∧ rSeat nd T w ∧ rDin nd T w ∧ rCel nc T w ∧ rLog L w ∧ rB nd nc T ∧ tz T
theorem m_dinerIn_2 {nd nc : Nat} {T : Tb} {M : Mm} (h0 : rHead nd nc T (M 209)) (hs : rSeat nd T (M 209)) {s : Nat} (h : s < 10) : ∀ (n k i : Nat), i + k = nd → k < n → (∀ d, d < i → M 209 (12 + 9 * d) ≠ Int32.ofNat s) → f_X11_dinerIn_2 20000 n (Int32.ofNat s) (Int32.ofNat i) M = some (T 1 s, M) := by
  obtain ⟨hnd, -, -, -, hw0, -⟩ := h0
  obtain ⟨hs1, hs2⟩ := hs
  intro n
  induction n with
  | zero => intro k i _ h9; omega
  | succ n ih =>
    intro k i hik hk hlt
    rw [f_X11_dinerIn_2, m_diners]
    simp only [bnd]
    rw [hw0]
    match k with
    | 0 =>
      rw [if_pos ((i32_leN (by omega) (by omega)).mpr (by omega))]
      rcases hs2 s h with e | ⟨d, hd, e1, e2⟩
      · rw [e]
      · exact absurd e2 (hlt d (by omega))
    | k + 1 =>
      rw [if_neg (fun h9 => by have := (i32_leN (by omega) (by omega)).mp h9; omega)]
      rw [show (0 : Int32) = Int32.ofNat 0 from rfl, m_of (by omega) (by decide)]
      simp only [Nat.add_zero, i32_succ]
      by_cases e : M 209 (12 + 9 * i) = Int32.ofNat s
      · rw [if_pos e]
        obtain ⟨s', hs', e1, e2⟩ := hs1 i (by omega)
        rw [e] at e1
        have := (i32_eqN (by omega) (by omega)).mp e1
        subst this
        rw [e2]
      · rw [if_neg e]
        refine ih k (i + 1) (by omega) (by omega) (fun d hd => ?_)
        by_cases e9 : d = i
        · subst e9; exact e
        · exact hlt d (by omega)
theorem m_dinerIn {nd nc : Nat} {T : Tb} {M : Mm} (h0 : rHead nd nc T (M 209)) (hs : rSeat nd T (M 209)) {s : Nat} (h : s < 10) : f_X11_dinerIn 20000 (Int32.ofNat s) M = some (T 1 s, M) :=
  m_dinerIn_2 h0 hs h 20000 nd 0 (by omega) (by have := h0.1; omega) (fun d hd => absurd hd (by omega))
theorem sWho_pl {T : Tb} {c k : Nat} (hk : k < 10) (h : T 4 c = Int32.ofNat k) : sWho T c = T 1 k := by
  unfold sWho sDinerAt
  rw [h, if_neg (i32_nn (by omega)), if_neg (show ¬ (10 : Int32) ≤ Int32.ofNat k from fun h9 => by have := (i32_leN (a := 10) (by omega) (by omega)).mp h9; omega), i32_clampN (by omega)]
theorem m_eaterOf {nd nc : Nat} {T : Tb} {L : List Row} {M : Mm} (hR : RW nd nc T L (M 209)) {c : Nat} (hc : c < nc) : f_X11_eaterOf 20000 (Int32.ofNat c) M = some (sWho T c, M) := by
  obtain ⟨h0, h1, h2, h3, h4, h5, h6, h7⟩ := hR
  have hnc := h0.2.1
  obtain ⟨⟨k, hk, e⟩, -⟩ := h6.2.2.2.2 c hc
  unfold f_X11_eaterOf
  rw [show (0 : Int32) = Int32.ofNat 0 from rfl, m_ofCellar (by omega) (by decide)]
  simp only [bnd]
  rw [h4 c hc 0 (by decide)]
  show (match f_X11_dinerIn 20000 (T 4 c) M with | some (r, M) => some (r, M) | none => none) = _
  rw [e, m_dinerIn h0 h2 hk, sWho_pl hk e]
