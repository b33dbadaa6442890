/-! Eating in the reference's world: the log's rows move on. -/
theorem i32_pred (k : Nat) : Int32.ofNat (k + 1) + (-1 : Int32) = Int32.ofNat k := by
  rw [← i32_succ]; grind
def tellW (w : Nat → Int32) (d c p : Int32) : Nat → Int32 := fun j => if j = 10 then (if w 10 + 1 < 60 then w 10 + 1 else 60) else if j = 109 then w 5 else if j = 110 then w 4 else if j = 111 then d else if j = 112 then c else if j = 113 then p else if 114 ≤ j ∧ j ≤ 408 then w (j - 5) else w j
theorem m_tells_5 {w : Nat → Int32} {d c p : Int32} : ∀ (n k : Nat) (M : Mm), 4 ≤ k → k ≤ 299 → k - 4 < n → (∀ j, M 209 j = if 109 + k < j ∧ j ≤ 408 then w (j - 5) else w j) → ∃ M', f_X11_tells_5 20000 n d c p (Int32.ofNat k) M = some (0, M') ∧ M' 209 = tellW w d c p ∧ ∀ x, x ≠ 209 → M' x = M x := by
  intro n
  induction n with
  | zero => intro k M _ _ h; omega
  | succ n ih =>
    intro k M h4 h299 hn hM
    rw [f_X11_tells_5]
    by_cases e : k = 4
    · subst e
      rw [if_pos (show Int32.ofNat 4 < (5 : Int32) by decide)]
      simp only [grd, lt, show inb (5 : Int32) 2107 = true from by decide, show inb (4 : Int32) 2107 = true from by decide, show inb (10 : Int32) 2107 = true from by decide, show inb (109 : Int32) 2107 = true from by decide, show inb (110 : Int32) 2107 = true from by decide, show inb (111 : Int32) 2107 = true from by decide, show inb (112 : Int32) 2107 = true from by decide, show inb (113 : Int32) 2107 = true from by decide, if_true,
        show (5 : Int32).toNatClampNeg = 5 from by decide, show (4 : Int32).toNatClampNeg = 4 from by decide, show (10 : Int32).toNatClampNeg = 10 from by decide, show (109 : Int32).toNatClampNeg = 109 from by decide, show (110 : Int32).toNatClampNeg = 110 from by decide, show (111 : Int32).toNatClampNeg = 111 from by decide, show (112 : Int32).toNatClampNeg = 112 from by decide, show (113 : Int32).toNatClampNeg = 113 from by decide]
      have m5 : M 209 5 = w 5 := by rw [hM 5, if_neg (by omega)]
      have m4 : M 209 4 = w 4 := by rw [hM 4, if_neg (by omega)]
      have m10 : M 209 10 = w 10 := by rw [hM 10, if_neg (by omega)]
      refine ⟨_, rfl, ?_, fun x hx => by simp only [wr_nrow hx]⟩
      funext j
      unfold tellW
      simp (disch := decide) only [wr_nk, m5, m4, m10]
      by_cases j1 : j = 10
      · subst j1; rw [wr_eq, if_pos rfl]
      · rw [wr_nk j1, if_neg j1]
        by_cases j2 : j = 109
        · subst j2; simp (disch := decide) only [wr_nk, wr_eq, if_true]
        · rw [if_neg j2]
          by_cases j3 : j = 110
          · subst j3; simp (disch := decide) only [wr_nk, wr_eq, if_true]
          · rw [if_neg j3]
            by_cases j4 : j = 111
            · subst j4; simp (disch := decide) only [wr_nk, wr_eq, if_true]
            · rw [if_neg j4]
              by_cases j5 : j = 112
              · subst j5; simp (disch := decide) only [wr_nk, wr_eq, if_true]
              · rw [if_neg j5]
                by_cases j6 : j = 113
                · subst j6; simp (disch := decide) only [wr_eq, if_true]
                · rw [if_neg j6, wr_nk j6, wr_nk j5, wr_nk j4, wr_nk j3, wr_nk j2, hM j]
                  by_cases j7 : 114 ≤ j ∧ j ≤ 408
                  · rw [if_pos j7, if_pos (by omega)]
                  · rw [if_neg j7, if_neg (by omega)]
    · obtain ⟨k', rfl⟩ : ∃ k', k = k' + 1 := ⟨k - 1, by omega⟩
      rw [if_neg (show ¬ Int32.ofNat (k' + 1) < (5 : Int32) from fun h9 => by have := (i32_ltN (b := 5) (by omega) (by omega)).mp h9; omega)]
      have e1 : (109 : Int32) + Int32.ofNat (k' + 1) = Int32.ofNat (110 + k') := by
        show Int32.ofNat 109 + _ = _
        rw [i32_addN]; congr 1; omega
      have e2 : Int32.ofNat (110 + k') - (5 : Int32) = Int32.ofNat (105 + k') := by
        rw [show 110 + k' = (105 + k') + 5 from by omega, Int32.ofNat_add]
        show Int32.ofNat (105 + k') + (5 : Int32) - 5 = _
        grind
      rw [e1, e2, i32_pred]
      simp only [grd, lt, inb_ofNat (show 110 + k' < 2107 by omega) (by omega), inb_ofNat (show 105 + k' < 2107 by omega) (by omega), if_true, i32_clampN (show 110 + k' < 2147483648 by omega), i32_clampN (show 105 + k' < 2147483648 by omega)]
      obtain ⟨M', a1, a2, a3⟩ := ih k' (wr M 209 (110 + k') (M 209 (105 + k'))) (by omega) (by omega) (by omega) (fun j => by
        by_cases ej : j = 110 + k'
        · subst ej
          rw [wr_eq, hM, if_neg (by omega), if_pos (by omega)]
          congr 1; omega
        · rw [wr_nk ej, hM]
          by_cases q : 109 + (k' + 1) < j ∧ j ≤ 408
          · rw [if_pos q, if_pos (by omega)]
          · rw [if_neg q, if_neg (by omega)])
      exact ⟨M', a1, a2, fun x hx => by rw [a3 x hx, wr_nrow hx]⟩
theorem m_tells {d c p : Int32} {M : Mm} : ∃ M', f_X11_tells 20000 d c p M = some (0, M') ∧ M' 209 = tellW (M 209) d c p ∧ ∀ x, x ≠ 209 → M' x = M x := by
  obtain ⟨M', a1, a2, a3⟩ := m_tells_5 (w := M 209) (d := d) (c := c) (p := p) 20000 299 M (by omega) (by omega) (by omega) (fun j => by rw [if_neg (by omega)])
  refine ⟨M', ?_, a2, a3⟩
  unfold f_X11_tells
  rw [show (299 : Int32) = Int32.ofNat 299 from rfl]
  exact a1
theorem sP_le {W : Lw} {br : Int32} {T : Tb} {c : Nat} {d : Int32} (hc : c < 5) (hg : 0 ≤ T 6 c) : 0 ≤ sP W br T c d ∧ sP W br T c d ≤ T 6 c := by
  have h1 : 0 ≤ sPinch W (sFx T (Int32.ofNat c) d) ∧ sPinch W (sFx T (Int32.ofNat c) d) ≤ T 6 c := by
    rw [sPinch_t]
    split
    · unfold sTaken
      rw [sFx_3 hc]
      exact sCut_le hg
    · exact ⟨by decide, hg⟩
  unfold sP
  generalize sPinch W (sFx T (Int32.ofNat c) d) = p at h1
  obtain ⟨h2, h3⟩ := h1
  split
  · exact ⟨h2, h3⟩
  · split
    · constructor <;> grind
    · exact ⟨h2, h3⟩
/-- a pinch's table, in numbers -/
theorem sTake_eq {T : Tb} {c dn tn : Nat} {p : Int32} (hd : dn < 8) (ht : tn < 6) (h5 : T 5 c = Int32.ofNat tn) : sTake T c (Int32.ofNat dn) p = wr (wr T 6 c (T 6 c - p)) 3 (6 * dn + tn) (if T 3 (6 * dn + tn) + p < 999 then T 3 (6 * dn + tn) + p else 999) := by
  unfold sTake sGain
  have e : Int32.ofNat dn * 6 + T 5 c = Int32.ofNat (6 * dn + tn) := by
    rw [h5]
    show Int32.ofNat dn * Int32.ofNat 6 + Int32.ofNat tn = _
    rw [i32_mulN, i32_addN]; congr 1; omega
  rw [e, if_neg (i32_nn (by omega)), if_neg (show ¬ (48 : Int32) ≤ Int32.ofNat (6 * dn + tn) from fun h9 => by have := (i32_leN (a := 48) (by omega) (by omega)).mp h9; omega), i32_clampN (by omega), wr_ne (by decide)]
