/-! Words. -/
def wN (i : Nat) : List Nat := (am_bytS.getD i []).map Int32.toNatClampNeg
theorem wN_p : ∀ i, i < 33 → (wN i).length = am_lenS.getD i 0 ∧ ∀ j, j < 107 → j < (wN i).length → (am_bytS.getD i []).getD j 0 = Int32.ofNat ((wN i).getD j 0) ∧ (wN i).getD j 0 < 128 := by decide +kernel
theorem wN_l : ∀ i, i < 33 → (wN i).length ≤ 107 := by decide +kernel
section WD
variable {tp : List Nat} {M : Mm} {p b : Nat}
theorem s_len {i : Nat} (hi : i < 33) : f_slen (1000000 + i) M = some (Int32.ofNat (wN i).length, M) := by
  have h1 := (wN_p i hi).1
  unfold f_slen
  rw [show am_sb = 1000000 from rfl, show am_nS = 33 from rfl, show 1000000 + i - 1000000 = i by omega, decide_eq_true (show 1000000 ≤ 1000000 + i by omega), decide_eq_true hi, ← h1]
  rfl
theorem s_chr {i j : Nat} (hi : i < 33) (hj : j < (wN i).length) : f_schr (1000000 + i) (Int32.ofNat j) M = some (Int32.ofNat ((wN i).getD j 0), M) := by
  have h0 := wN_l i hi
  obtain ⟨h1, h2⟩ := wN_p i hi
  have h3 := (h2 j (by omega) hj).1
  unfold f_schr
  rw [show am_sb = 1000000 from rfl, show am_nS = 33 from rfl, show 1000000 + i - 1000000 = i by omega, decide_eq_true (show 1000000 ≤ 1000000 + i by omega), decide_eq_true hi, ← h1, i32_clampN (by omega), h3]
  simp only [grd, Bool.and_self, if_true, inb_ofNat hj (show j < 2147483648 by omega)]
/-- from its j-th letter on, the word i stands at q -/
def wQ (tp : List Nat) (i q : Nat) : Nat → Nat → Bool
  | 0, _ => true
  | k + 1, j => decide (tf tp (q + j) = (wN i).getD j 0) && wQ tp i q k (j + 1)
/-- the word i stands between q and e -/
def wE (tp : List Nat) (i q e : Nat) : Bool := decide (e = q + (wN i).length) && wQ tp i q (wN i).length 0
theorem sx_eq {b c : Nat} (hb : b < 256) (hc : c < 128) : sx b = Int32.ofNat c ↔ b = c := by
  by_cases q : b < 128
  · rw [sx_lo q]; exact i32_eqN (by omega) (by omega)
  · have h1 := sx_hi (b := b) (by omega) hb
    constructor
    · intro h9; rw [h9] at h1; exact absurd h1 (i32_nn (by omega))
    · intro h9; omega
theorem m_iw0 (N a : Nat) (n : Nat) (v : Int32) (M : Mm) : f_X11_isWord_24 N a (n + 1) 0 v M = some (0, M) := by
  rw [f_X11_isWord_24, if_pos rfl]
  simp only [grd, show isb (0 : Int32) = true from by decide, if_true]
theorem m_iwU (N a n : Nat) (v3 l c x : Int32) (M : Mm) (h1 : f_slen a M = some (l, M)) (h2 : ¬ l ≤ v3) (h3 : inb (M 208 12 + v3) 400 = true) (h4 : f_schr a v3 M = some (c, M)) (h5 : M 214 (M 208 12 + v3).toNatClampNeg = x) : f_X11_isWord_24 N a (n + 1) 1 v3 M = if x = c then f_X11_isWord_24 N a n 1 (v3 + 1) M else f_X11_isWord_24 N a n 0 (v3 + 1) M := by
  rw [f_X11_isWord_24, if_neg (show ¬ (1 : Int32) = 0 by decide)]
  simp only [h1, bnd, if_neg h2, grd, h3, if_true, h4, h5]
theorem m_iwE (N a n : Nat) (v3 l : Int32) (M : Mm) (h1 : f_slen a M = some (l, M)) (h2 : l ≤ v3) : f_X11_isWord_24 N a (n + 1) 1 v3 M = some (1, M) := by
  rw [f_X11_isWord_24, if_neg (show ¬ (1 : Int32) = 0 by decide)]
  simp only [h1, bnd, if_pos h2, grd, show isb (1 : Int32) = true from by decide, if_true]
theorem m_iw24 {N i q : Nat} (hT : tX tp) (hi : i < 33) (h : mX tp p q M) (hp : p = q + (wN i).length) : ∀ (n k j : Nat), j + k = (wN i).length → k + 1 < n → f_X11_isWord_24 N (1000000 + i) n 1 (Int32.ofNat j) M = some (if wQ tp i q k j = true then 1 else 0, M) := by
  have hl4 := hT.1
  have h5 := h.2.2.2.2
  have hw := wN_l i hi
  intro n
  induction n with
  | zero => intro k j _ h; omega
  | succ n ih =>
    intro k j hjk hk
    match k with
    | 0 =>
      rw [m_iwE N _ n _ _ M (s_len hi) (i32_len (by omega) (by omega)), wQ, if_pos rfl]
    | k + 1 =>
      obtain ⟨n, rfl⟩ : ∃ m, n = m + 1 := ⟨n - 1, by omega⟩
      have eq : M 208 12 + Int32.ofNat j = Int32.ofNat (q + j) := by rw [h.2.2.1]; exact i32_addN q j
      have hc := ((wN_p i hi).2 j (by omega) (by omega)).2
      rw [m_iwU N _ (n + 1) _ _ _ (sx (tf tp (q + j))) M (s_len hi) (i32_nle (by omega) (by omega)) (by rw [eq]; exact inb_ofNat (by omega) (by omega)) (s_chr hi (by omega)) (by rw [eq, i32_clampN (by omega)]; exact h.2.2.2.1 _ (by omega)), m_iw0, i32_succ, ih k (j + 1) (by omega) (by omega), wQ]
      by_cases c : tf tp (q + j) = (wN i).getD j 0
      · rw [if_pos ((sx_eq (hT.2 _) hc).mpr c), decide_eq_true c, Bool.true_and]
      · rw [if_neg (fun h9 => c ((sx_eq (hT.2 _) hc).mp h9)), decide_eq_false c, Bool.false_and, if_neg (show ¬ false = true by decide)]
theorem m_isWord {N i q : Nat} (hN : 200 < N) (hT : tX tp) (hi : i < 33) (h : mX tp p q M) (hq : q ≤ p) : f_X11_isWord N (1000000 + i) M = some (if wE tp i q p = true then 1 else 0, M) := by
  have hl4 := hT.1
  have h5 := h.2.2.2.2
  have hw := wN_l i hi
  unfold f_X11_isWord wE
  rw [s_len hi]
  simp only [bnd]
  rw [h.2.1, h.2.2.1, i32_subN hq]
  by_cases c : p = q + (wN i).length
  · rw [if_pos (by rw [show p - q = (wN i).length by omega]), decide_eq_true c, Bool.true_and]
    exact m_iw24 (N := N) hT hi h c N (wN i).length 0 (by omega) (by omega)
  · rw [if_neg (fun h9 => c (by have := (i32_eqN (by omega) (by omega)).mp h9; omega)), decide_eq_false c, Bool.false_and, if_neg (show ¬ false = true by decide)]
    obtain ⟨n, rfl⟩ : ∃ m, N = m + 1 := ⟨N - 1, by omega⟩
    exact m_iw0 (n + 1) _ n 0 M
/-- the end of the letters that begin behind the blanks -/
def le9 (tp : List Nat) (p : Nat) : Nat := rn isL9 tp (bl9 tp p)
theorem bl_le {q : Nat} : q ≤ bl9 tp q := (rn_le _ q rfl).1
theorem le_ge {q : Nat} : bl9 tp q ≤ le9 tp q := (rn_le _ _ rfl).1
theorem m_passes1 {N i : Nat} (hN : 401 < N) (hT : tX tp) (hi : i < 33) (h : mX tp p b M) (hw : wE tp i (bl9 tp p) (le9 tp p) = true) : ∃ M', f_X11_passes N (1000000 + i) M = some (1, M') ∧ mX tp (le9 tp p) (bl9 tp p) M' ∧ mE M' M := by
  obtain ⟨M1, a1, a2, a3⟩ := m_letters hN hT h
  refine ⟨M1, ?_, a2, a3⟩
  have hx := m_isWord (N := N) (by omega) hT hi a2 le_ge
  rw [show rn isL9 tp (bl9 tp p) = le9 tp p from rfl, if_pos hw] at hx
  unfold f_X11_passes
  simp only [a1, bnd, hx, if_neg (show ¬ (1 : Int32) = 0 by decide)]
theorem m_passes0 {N i : Nat} (hN : 401 < N) (hT : tX tp) (hi : i < 33) (h : mX tp p b M) (hw : ¬ wE tp i (bl9 tp p) (le9 tp p) = true) : ∃ M', f_X11_passes N (1000000 + i) M = some (0, M') ∧ mX tp (bl9 tp p) (bl9 tp p) M' ∧ mE M' M := by
  obtain ⟨M1, a1, a2, a3⟩ := m_letters hN hT h
  obtain ⟨b1, b2⟩ := a2.mv (p' := bl9 tp p) (Nat.le_trans le_ge a2.2.2.2.2)
  refine ⟨_, ?_, b1, b2.trans a3⟩
  have hx := m_isWord (N := N) (by omega) hT hi a2 le_ge
  rw [show rn isL9 tp (bl9 tp p) = le9 tp p from rfl, if_neg hw] at hx
  unfold f_X11_passes
  simp only [a1, bnd, hx, if_true, lt, a2.2.2.1]
theorem m_after1 {N i lo hi : Nat} (hN : 401 < N) (hT : tX tp) (hi9 : i < 33) (hlo : lo < 2147483648) (hhi : hi < 2147483648) (h : mX tp p b M) (hw : wE tp i (bl9 tp p) (le9 tp p) = true) : ∃ M', f_X11_after N (1000000 + i) (Int32.ofNat lo) (Int32.ofNat hi) M = some (nR tp lo hi (bl9 tp (le9 tp p)), M') ∧ mX tp (rn isD9 tp (bl9 tp (le9 tp p))) (bl9 tp (le9 tp p)) M' ∧ mE M' M := by
  obtain ⟨M1, a1, a2, a3⟩ := m_letters hN hT h
  have hx := m_isWord (N := N) (by omega) hT hi9 a2 le_ge
  rw [show rn isL9 tp (bl9 tp p) = le9 tp p from rfl, if_pos hw] at hx
  obtain ⟨M2, b1, b2, b3⟩ := m_number hN hT hlo hhi a2
  refine ⟨M2, ?_, b2, b3.trans a3⟩
  unfold f_X11_after
  simp only [a1, bnd, hx, if_neg (show ¬ (1 : Int32) = 0 by decide), b1]
  rfl
theorem m_after0 {N i : Nat} {lo hi : Int32} (hN : 401 < N) (hT : tX tp) (hi9 : i < 33) (h : mX tp p b M) (hw : ¬ wE tp i (bl9 tp p) (le9 tp p) = true) : ∃ M', f_X11_after N (1000000 + i) lo hi M = some (-1, M') ∧ mX tp (le9 tp p) (bl9 tp p) M' ∧ mE M' M := by
  obtain ⟨M1, a1, a2, a3⟩ := m_letters hN hT h
  have hx := m_isWord (N := N) (by omega) hT hi9 a2 le_ge
  rw [show rn isL9 tp (bl9 tp p) = le9 tp p from rfl, if_neg hw] at hx
  refine ⟨M1, ?_, a2, a3⟩
  unfold f_X11_after
  simp only [a1, bnd, hx, if_true]
end WD
