/-! The reference's numbers, words and signs. -/
section TL
variable {tp : List Nat} {M : Mm} {p b : Nat}
def nQ (tp : List Nat) (lo hi q p v : Nat) : Int32 := if rn isD9 tp p = q then -1 else if q + 3 < rn isD9 tp p then -1 else if nv9 tp q p v < lo then -1 else if nv9 tp q p v ≤ hi then Int32.ofNat (nv9 tp q p v) else -1
theorem m_num6 {N lo hi : Nat} (hT : tX tp) (hlo : lo < 2147483648) (hhi : hi < 2147483648) : ∀ (n k p q v : Nat) (M : Mm), mX tp p q M → q ≤ p → ((p - q ≤ 3 ∧ v < 10 ^ (p - q)) ∨ (3 < p - q ∧ v < 1000)) → tp.length - p = k → k < n → ∃ M', f_X11_number_6 N n (Int32.ofNat lo) (Int32.ofNat hi) (Int32.ofNat v) M = some (nQ tp lo hi q p v, M') ∧ mX tp (rn isD9 tp p) q M' ∧ mE M' M := by
  have hl4 := hT.1
  intro n
  induction n with
  | zero => intro k p q v M _ _ _ _ h; omega
  | succ n ih =>
    intro k p q v M h hqp hv hk hn
    have hv3 : v < 1000 := by
      rcases hv with ⟨h1, h2⟩ | ⟨h1, h2⟩
      · have : 10 ^ (p - q) ≤ 10 ^ 3 := Nat.pow_le_pow_right (by decide) h1
        omega
      · exact h2
    have hd : Int32.ofNat p - Int32.ofNat q = Int32.ofNat (p - q) := i32_subN hqp
    have h5 := h.2.2.2.2
    rw [f_X11_number_6]
    by_cases c : p < tp.length ∧ isD9 (tf tp p) = true
    · have c2 : 48 ≤ tf tp p ∧ tf tp p ≤ 57 := of_decide_eq_true c.2
      rw [show f_X11_isAt N 48 57 M = some (1, M) from m_isAt1 (lo := 48) (hi := 57) hT h (by decide) (by decide) ⟨c.1, c2⟩]
      simp only [bnd, f_X11_number_51, lt]
      rw [if_neg (show ¬ (1 : Int32) = 0 by decide), h.2.1, h.2.2.1, hd]
      obtain ⟨b1, b2⟩ := h.mv (p' := p + 1) (by omega)
      have hQ : ∀ v', v' = (if q + 3 ≤ p then v else 10 * v + (tf tp p - 48)) → nQ tp lo hi q p v = nQ tp lo hi q (p + 1) v' := fun v' e => by
        unfold nQ
        rw [rn_p c, nv_p c, ← e]
      by_cases q3 : 3 ≤ p - q
      · rw [if_pos (show (3 : Int32) ≤ Int32.ofNat (p - q) from i32_len (k := 3) q3 (by omega)), i32_succ]
        obtain ⟨M', c1, c3, c4⟩ := ih (tp.length - (p + 1)) (p + 1) q v _ b1 (by omega) (Or.inr ⟨by omega, hv3⟩) rfl (by omega)
        rw [rn_p c, hQ v (by rw [if_pos (by omega)])]
        exact ⟨M', c1, c3, c4.trans b2⟩
      · have hv' : v < 10 ^ (p - q) := by
          rcases hv with ⟨h1, h2⟩ | ⟨h1, h2⟩
          · exact h2
          · omega
        rw [if_neg (show ¬ (3 : Int32) ≤ Int32.ofNat (p - q) from i32_nle (n := 3) (by omega) (by omega))]
        simp only [grd, inb_ofNat (show p < 400 by omega) (by omega), if_true, i32_clampN (show p < 2147483648 by omega)]
        rw [h.2.2.2.1 p c.1, sx_lo (show tf tp p < 128 by omega), show (10 : Int32) * Int32.ofNat v + Int32.ofNat (tf tp p) - 48 = Int32.ofNat (10 * v + (tf tp p - 48)) from by
          rw [show (10 : Int32) * Int32.ofNat v = Int32.ofNat (10 * v) from i32_mulN 10 v, i32_addN, show (48 : Int32) = Int32.ofNat 48 from rfl, i32_subN (by omega), show 10 * v + tf tp p - 48 = 10 * v + (tf tp p - 48) by omega], i32_succ]
        obtain ⟨M', c1, c3, c4⟩ := ih (tp.length - (p + 1)) (p + 1) q (10 * v + (tf tp p - 48)) _ b1 (by omega) (Or.inl ⟨by omega, by
          rw [show p + 1 - q = (p - q) + 1 by omega, Nat.pow_succ]; omega⟩) rfl (by omega)
        rw [rn_p c, hQ (10 * v + (tf tp p - 48)) (by rw [if_neg (by omega)])]
        exact ⟨M', c1, c3, c4.trans b2⟩
    · rw [show f_X11_isAt N 48 57 M = some (0, M) from m_isAt0 (lo := 48) (hi := 57) hT h (by decide) (by decide) (fun h9 => c ⟨h9.1, decide_eq_true h9.2⟩)]
      simp only [bnd, f_X11_number_99, if_true]
      rw [h.2.1, h.2.2.1, hd]
      unfold nQ
      rw [rn_n c, nv_n c]
      refine ⟨M, ?_, h, mE.rf⟩
      by_cases q1 : p = q
      · rw [if_pos q1, if_pos (by rw [q1])]
      · rw [if_neg q1, if_neg (fun h9 => q1 ((i32_eqN (by omega) (by omega)).mp h9))]
        by_cases q2 : q + 3 < p
        · rw [if_pos q2, if_pos (show (3 : Int32) < Int32.ofNat (p - q) from i32_ltn (k := 3) (by omega) (by omega))]
        · rw [if_neg q2, if_neg (show ¬ (3 : Int32) < Int32.ofNat (p - q) from i32_nlt (n := 3) (by omega) (by omega))]
          by_cases q3 : v < lo
          · rw [if_pos q3, if_pos (i32_ltn q3 hlo)]
          · rw [if_neg q3, if_neg (i32_nlt (by omega) (by omega))]
            by_cases q4 : v ≤ hi
            · rw [if_pos q4, if_pos (i32_len q4 hhi)]
            · rw [if_neg q4, if_neg (i32_nle (by omega) (by omega))]
theorem m_number {N lo hi : Nat} (hN : 401 < N) (hT : tX tp) (hlo : lo < 2147483648) (hhi : hi < 2147483648) (h : mX tp p b M) : ∃ M', f_X11_number N (Int32.ofNat lo) (Int32.ofNat hi) M = some (nR tp lo hi (bl9 tp p), M') ∧ mX tp (rn isD9 tp (bl9 tp p)) (bl9 tp p) M' ∧ mE M' M := by
  obtain ⟨M1, a1, a2, a3⟩ := m_blanks hN hT h
  obtain ⟨M2, b1, b2, b3⟩ := m_num6 (N := N) hT hlo hhi N _ (bl9 tp p) (bl9 tp p) 0 M1 a2 (Nat.le_refl _) (Or.inl ⟨by omega, by rw [Nat.sub_self]; decide⟩) rfl (by have := hT.1; omega)
  refine ⟨M2, ?_, b2, b3.trans a3⟩
  unfold f_X11_number
  rw [a1]
  exact b1
theorem m_sign1 {N c : Nat} (hN : 401 < N) (hT : tX tp) (h : mX tp p b M) (hc : c < 128) (q : bl9 tp p < tp.length ∧ tf tp (bl9 tp p) = c) : ∃ M', f_X11_sign N (Int32.ofNat c) M = some (1, M') ∧ mX tp (bl9 tp p + 1) (bl9 tp p) M' ∧ mE M' M := by
  obtain ⟨M1, a1, a2, a3⟩ := m_blanks hN hT h
  obtain ⟨b1, b2⟩ := a2.mv (p' := bl9 tp p + 1) (by omega)
  refine ⟨_, ?_, b1, b2.trans a3⟩
  unfold f_X11_sign
  rw [a1]
  simp only [bnd]
  rw [m_isAt1 hT a2 hc (Nat.le_refl _) ⟨q.1, by omega, by omega⟩]
  simp only [lt]
  rw [if_neg (show ¬ (1 : Int32) = 0 by decide), a2.2.1, i32_succ]
theorem m_sign0 {N c : Nat} (hN : 401 < N) (hT : tX tp) (h : mX tp p b M) (hc : c < 128) (q : ¬ (bl9 tp p < tp.length ∧ tf tp (bl9 tp p) = c)) : ∃ M', f_X11_sign N (Int32.ofNat c) M = some (0, M') ∧ mX tp (bl9 tp p) (bl9 tp p) M' ∧ mE M' M := by
  obtain ⟨M1, a1, a2, a3⟩ := m_blanks hN hT h
  refine ⟨M1, ?_, a2, a3⟩
  unfold f_X11_sign
  rw [a1]
  simp only [bnd]
  rw [m_isAt0 hT a2 hc (Nat.le_refl _) (fun h9 => q ⟨h9.1, by omega⟩)]
  simp only [if_true]
end TL
