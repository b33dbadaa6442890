/-! The text on the tape: runs of signs, and how the reference reads them. -/
def rnF (pr : Nat → Bool) (tp : List Nat) : Nat → Nat → Nat
  | 0, p => p
  | k + 1, p => if p < tp.length ∧ pr (tf tp p) = true then rnF pr tp k (p + 1) else p
def rn (pr : Nat → Bool) (tp : List Nat) (p : Nat) : Nat := rnF pr tp (tp.length - p) p
def isB9 (b : Nat) : Bool := decide (b = 32)
def isL9 (b : Nat) : Bool := decide (97 ≤ b ∧ b ≤ 122)
def isD9 (b : Nat) : Bool := decide (48 ≤ b ∧ b ≤ 57)
def bl9 (tp : List Nat) (p : Nat) : Nat := rn isB9 tp p
section TK
variable {tp : List Nat} {pr : Nat → Bool} {M : Mm} {p b : Nat}
theorem rn_eq : rn pr tp p = if p < tp.length ∧ pr (tf tp p) = true then rn pr tp (p + 1) else p := by
  unfold rn
  by_cases h : p < tp.length
  · rw [show tp.length - p = (tp.length - (p + 1)) + 1 by omega, rnF]
  · rw [show tp.length - p = 0 by omega, rnF, if_neg (fun h9 => h h9.1)]
theorem rn_p (q : p < tp.length ∧ pr (tf tp p) = true) : rn pr tp p = rn pr tp (p + 1) := by rw [rn_eq, if_pos q]
theorem rn_n (q : ¬ (p < tp.length ∧ pr (tf tp p) = true)) : rn pr tp p = p := by rw [rn_eq, if_neg q]
theorem rn_le : ∀ (k p : Nat), tp.length - p = k → p ≤ rn pr tp p ∧ (p ≤ tp.length → rn pr tp p ≤ tp.length) := by
  intro k
  induction k with
  | zero =>
    intro p h
    rw [rn_n (fun h9 => by omega)]
    exact ⟨Nat.le_refl _, fun h => h⟩
  | succ k ih =>
    intro p h
    by_cases q : p < tp.length ∧ pr (tf tp p) = true
    · rw [rn_p q]
      obtain ⟨a1, a2⟩ := ih (p + 1) (by omega)
      exact ⟨by omega, fun _ => a2 (by omega)⟩
    · rw [rn_n q]; exact ⟨Nat.le_refl _, fun h => h⟩
def tX (tp : List Nat) : Prop := tp.length ≤ 400 ∧ ∀ j, tf tp j < 256
def mX (tp : List Nat) (p b : Nat) (M : Mm) : Prop := M 208 11 = Int32.ofNat tp.length ∧ M 208 10 = Int32.ofNat p ∧ M 208 12 = Int32.ofNat b ∧ (∀ j, j < tp.length → M 214 j = sx (tf tp j)) ∧ p ≤ tp.length
def mE (M' M : Mm) : Prop := (∀ x, x ≠ 208 → M' x = M x) ∧ ∀ j, j ≠ 10 → j ≠ 12 → M' 208 j = M 208 j
theorem mE.rf : mE M M := ⟨fun _ _ => rfl, fun _ _ _ => rfl⟩
theorem mE.trans {M1 M2 : Mm} (h2 : mE M2 M1) (h1 : mE M1 M) : mE M2 M := ⟨fun x hx => (h2.1 x hx).trans (h1.1 x hx), fun j a b => (h2.2 j a b).trans (h1.2 j a b)⟩
theorem mX.mv {p' : Nat} (h : mX tp p b M) (hp : p' ≤ tp.length) : mX tp p' b (wr M 208 10 (Int32.ofNat p')) ∧ mE (wr M 208 10 (Int32.ofNat p')) M := by
  obtain ⟨a1, a2, a3, a4, a5⟩ := h
  exact ⟨⟨by rw [wr_nk (by decide)]; exact a1, wr_eq, by rw [wr_nk (by decide)]; exact a3, fun j hj => by rw [wr_nrow (by decide)]; exact a4 j hj, hp⟩, fun x hx => wr_nrow hx, fun j h1 h2 => wr_nk h1⟩
theorem mX.bg {b' : Nat} (h : mX tp p b M) : mX tp p b' (wr M 208 12 (Int32.ofNat b')) ∧ mE (wr M 208 12 (Int32.ofNat b')) M := by
  obtain ⟨a1, a2, a3, a4, a5⟩ := h
  exact ⟨⟨by rw [wr_nk (by decide)]; exact a1, by rw [wr_nk (by decide)]; exact a2, wr_eq, fun j hj => by rw [wr_nrow (by decide)]; exact a4 j hj, a5⟩, fun x hx => wr_nrow hx, fun j h1 h2 => wr_nk h2⟩
theorem m_isAtU (N : Nat) (v1 v2 x : Int32) (p : Nat) (M : Mm) (h1 : M 208 10 = Int32.ofNat p) (hp : p < 400) (h2 : ¬ M 208 11 ≤ M 208 10) (h3 : M 214 p = x) : f_X11_isAt N v1 v2 M = if x < v1 then some (0, M) else if v2 < x then some (0, M) else some (1, M) := by
  unfold f_X11_isAt f_X11_isAt_41
  rw [if_neg h2, h1]
  simp only [grd, inb_ofNat hp (show p < 2147483648 by omega), if_true, i32_clampN (show p < 2147483648 by omega), h3]
theorem sx_cmp {b lo hi : Nat} (hb : b < 256) (hh : hi < 128) (hl : lo ≤ hi) {α : Type} (u v : α) : (if sx b < Int32.ofNat lo then u else if Int32.ofNat hi < sx b then u else v) = if lo ≤ b ∧ b ≤ hi then v else u := by
  by_cases q : b < 128
  · rw [sx_lo q]
    by_cases q1 : b < lo
    · rw [if_pos (i32_ltn q1 (by omega)), if_neg (by omega)]
    · rw [if_neg (i32_nlt (by omega) (by omega))]
      by_cases q2 : hi < b
      · rw [if_pos (i32_ltn q2 (by omega)), if_neg (by omega)]
      · rw [if_neg (i32_nlt (by omega) (by omega)), if_pos (by omega)]
  · have h1 := sx_hi (b := b) (by omega) hb
    rw [if_pos (Int32.lt_of_lt_of_le h1 (i32_ge0 (by omega))), if_neg (by omega)]
theorem m_isAt {N lo hi : Nat} (hT : tX tp) (h : mX tp p b M) (hh : hi < 128) (hl : lo ≤ hi) : f_X11_isAt N (Int32.ofNat lo) (Int32.ofNat hi) M = some (if p < tp.length ∧ lo ≤ tf tp p ∧ tf tp p ≤ hi then 1 else 0, M) := by
  obtain ⟨a1, a2, a3, a4, a5⟩ := h
  have hl4 := hT.1
  by_cases q : p < tp.length
  · rw [m_isAtU N _ _ (sx (tf tp p)) p M a2 (by omega) (by rw [a1, a2]; exact i32_nle q (by omega)) (a4 p q), sx_cmp (hT.2 p) hh hl]
    by_cases q2 : lo ≤ tf tp p ∧ tf tp p ≤ hi
    · rw [if_pos q2, if_pos ⟨q, q2⟩]
    · rw [if_neg q2, if_neg (fun h9 => q2 h9.2)]
  · unfold f_X11_isAt f_X11_isAt_41
    rw [if_pos (by rw [a1, a2]; exact i32_len (by omega) (by omega)), if_neg (fun h9 => q h9.1)]
theorem m_isAt1 {N lo hi : Nat} (hT : tX tp) (h : mX tp p b M) (hh : hi < 128) (hl : lo ≤ hi) (q : p < tp.length ∧ lo ≤ tf tp p ∧ tf tp p ≤ hi) : f_X11_isAt N (Int32.ofNat lo) (Int32.ofNat hi) M = some (1, M) := by
  rw [m_isAt hT h hh hl, if_pos q]
theorem m_isAt0 {N lo hi : Nat} (hT : tX tp) (h : mX tp p b M) (hh : hi < 128) (hl : lo ≤ hi) (q : ¬ (p < tp.length ∧ lo ≤ tf tp p ∧ tf tp p ≤ hi)) : f_X11_isAt N (Int32.ofNat lo) (Int32.ofNat hi) M = some (0, M) := by
  rw [m_isAt hT h hh hl, if_neg q]
theorem m_bl0 {N : Nat} (hT : tX tp) : ∀ (n k p b : Nat) (M : Mm), mX tp p b M → tp.length - p = k → k < n → ∃ M', f_X11_blanks_0 N n M = some (0, M') ∧ mX tp (bl9 tp p) (bl9 tp p) M' ∧ mE M' M := by
  have hl4 := hT.1
  intro n
  induction n with
  | zero => intro k p b M _ _ h; omega
  | succ n ih =>
    intro k p b M h hk hn
    rw [f_X11_blanks_0]
    by_cases q : p < tp.length ∧ isB9 (tf tp p) = true
    · have q2 : tf tp p = 32 := of_decide_eq_true q.2
      rw [show f_X11_isAt N 32 32 M = some (1, M) from m_isAt1 (lo := 32) (hi := 32) hT h (by decide) (by decide) ⟨q.1, by omega⟩]
      simp only [bnd, lt]
      rw [if_neg (show ¬ (1 : Int32) = 0 by decide), h.2.1, i32_succ]
      obtain ⟨b1, b2⟩ := h.mv (p' := p + 1) (by omega)
      obtain ⟨M', c1, c2, c3⟩ := ih (tp.length - (p + 1)) (p + 1) b _ b1 rfl (by omega)
      have e : bl9 tp p = bl9 tp (p + 1) := rn_p q
      rw [e]
      exact ⟨M', c1, c2, c3.trans b2⟩
    · have e : bl9 tp p = p := rn_n q
      rw [show f_X11_isAt N 32 32 M = some (0, M) from m_isAt0 (lo := 32) (hi := 32) hT h (by decide) (by decide) (fun h9 => q ⟨h9.1, decide_eq_true (by omega)⟩)]
      simp only [bnd, lt, if_true]
      rw [h.2.1, e]
      obtain ⟨b1, b2⟩ := h.bg (b' := p)
      exact ⟨_, rfl, b1, b2⟩
theorem m_blanks {N : Nat} (hN : 401 < N) (hT : tX tp) (h : mX tp p b M) : ∃ M', f_X11_blanks N M = some (0, M') ∧ mX tp (bl9 tp p) (bl9 tp p) M' ∧ mE M' M := m_bl0 hT N _ p b M h rfl (by have := hT.1; omega)
theorem m_let4 {N : Nat} (hT : tX tp) : ∀ (n k p b : Nat) (M : Mm), mX tp p b M → tp.length - p = k → k < n → ∃ M', f_X11_letters_4 N n M = some (0, M') ∧ mX tp (rn isL9 tp p) b M' ∧ mE M' M := by
  have hl4 := hT.1
  intro n
  induction n with
  | zero => intro k p b M _ _ h; omega
  | succ n ih =>
    intro k p b M h hk hn
    rw [f_X11_letters_4]
    by_cases q : p < tp.length ∧ isL9 (tf tp p) = true
    · have q2 : 97 ≤ tf tp p ∧ tf tp p ≤ 122 := of_decide_eq_true q.2
      rw [show f_X11_isAt N 97 122 M = some (1, M) from m_isAt1 (lo := 97) (hi := 122) hT h (by decide) (by decide) ⟨q.1, q2⟩]
      simp only [bnd, lt]
      rw [if_neg (show ¬ (1 : Int32) = 0 by decide), h.2.1, i32_succ]
      obtain ⟨b1, b2⟩ := h.mv (p' := p + 1) (by omega)
      obtain ⟨M', c1, c2, c3⟩ := ih (tp.length - (p + 1)) (p + 1) b _ b1 rfl (by omega)
      rw [rn_p q]
      exact ⟨M', c1, c2, c3.trans b2⟩
    · rw [show f_X11_isAt N 97 122 M = some (0, M) from m_isAt0 (lo := 97) (hi := 122) hT h (by decide) (by decide) (fun h9 => q ⟨h9.1, decide_eq_true h9.2⟩)]
      simp only [bnd, if_true]
      rw [rn_n q]
      exact ⟨M, rfl, h, mE.rf⟩
theorem m_letters {N : Nat} (hN : 401 < N) (hT : tX tp) (h : mX tp p b M) : ∃ M', f_X11_letters N M = some (0, M') ∧ mX tp (rn isL9 tp (bl9 tp p)) (bl9 tp p) M' ∧ mE M' M := by
  obtain ⟨M1, a1, a2, a3⟩ := m_blanks hN hT h
  obtain ⟨M2, b1, b2, b3⟩ := m_let4 (N := N) hT N _ (bl9 tp p) (bl9 tp p) M1 a2 rfl (by have := hT.1; omega)
  refine ⟨M2, ?_, b2, b3.trans a3⟩
  unfold f_X11_letters
  rw [a1]
  exact b1
/-- the value of a number's first three digits -/
def nvF (tp : List Nat) (q : Nat) : Nat → Nat → Nat → Nat
  | 0, _, v => v
  | k + 1, p, v => if p < tp.length ∧ isD9 (tf tp p) = true then nvF tp q k (p + 1) (if q + 3 ≤ p then v else 10 * v + (tf tp p - 48)) else v
def nv9 (tp : List Nat) (q p v : Nat) : Nat := nvF tp q (tp.length - p) p v
theorem nv_p {q p v : Nat} (h : p < tp.length ∧ isD9 (tf tp p) = true) : nv9 tp q p v = nv9 tp q (p + 1) (if q + 3 ≤ p then v else 10 * v + (tf tp p - 48)) := by
  unfold nv9
  rw [show tp.length - p = (tp.length - (p + 1)) + 1 by omega, nvF, if_pos h]
theorem nv_n {q p v : Nat} (h : ¬ (p < tp.length ∧ isD9 (tf tp p) = true)) : nv9 tp q p v = v := by
  unfold nv9
  by_cases h1 : p < tp.length
  · rw [show tp.length - p = (tp.length - (p + 1)) + 1 by omega, nvF, if_neg h]
  · rw [show tp.length - p = 0 by omega, nvF]
theorem i32_subN {a b : Nat} (h : b ≤ a) : Int32.ofNat a - Int32.ofNat b = Int32.ofNat (a - b) := by
  have e : a = (a - b) + b := by omega
  have h2 : Int32.ofNat a = Int32.ofNat (a - b) + Int32.ofNat b := by rw [i32_addN, ← e]
  rw [h2]
  exact Int32.add_sub_cancel _ _
/-- what a number that begins at q is to the reference -/
def nR (tp : List Nat) (lo hi q : Nat) : Int32 := if rn isD9 tp q = q then -1 else if q + 3 < rn isD9 tp q then -1 else if nv9 tp q q 0 < lo then -1 else if nv9 tp q q 0 ≤ hi then Int32.ofNat (nv9 tp q q 0) else -1
end TK
