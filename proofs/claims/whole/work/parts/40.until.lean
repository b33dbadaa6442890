/-! Until cellars are free (class). -/
def sUntil (W : Lw) (br : Int32) (nc : Nat) (mask most : Int32) : Nat → Int32 → Int32 → Es → Int32
  | 0, _, _, _ => -1
  | n + 1, idle, gone, e => if most < gone then -1 else if (sHeld nc e.1 &&& mask) = 0 then gone else if gone = most then -1 else if idle < 60 then (if (sCalm W br nc e).2.2.1 ≤ 0 then sUntil W br nc mask most n (idle + 1) (gone + 1) (sCalm W br nc e) else sUntil W br nc mask most n 0 (gone + 1) (sCalm W br nc e)) else -1
theorem c_untilFree_5 {nc : Nat} {W : Lw} {mask most : Int32} (hnc : nc ≤ 5) (hmo : most < Int32.ofNat 201) : ∀ (n g : Nat) (idle : Int32) (e : Es) (M : Mm), cLaw 25 W M → slc 16 M = e.1 → M 41 = e.2.1 → e.1 0 1 = Int32.ofNat nc → g ≤ 201 → 201 - g < n →
    ∃ M', f_X10_untilFree_5 20000 n mask most idle (Int32.ofNat g) M = some (sUntil W (M 39 2) nc mask most n idle (Int32.ofNat g) e, M') ∧ (∃ e' : Es, slc 16 M' = e'.1 ∧ ∃ k, e' = sGo W (M 39 2) nc k e) ∧ ∀ x, (x < 16 ∨ 24 < x) → x ≠ 40 → x ≠ 41 → M' x = M x := by
  intro n
  induction n with
  | zero => intro g idle e M _ _ _ _ _ h; omega
  | succ n ih =>
    intro g idle e M hW h1 h2 hn hg hk
    have hM : M 16 1 = Int32.ofNat nc := by
      rw [← hn, ← h1]; exact (slc_at (i := 0) (by decide)).symm
    rw [f_X10_untilFree_5, sUntil, c_held hnc hM, h1]
    simp only [bnd]
    by_cases q1 : most < Int32.ofNat g
    · rw [if_pos q1, if_pos q1]
      exact ⟨M, rfl, ⟨e, h1, 0, rfl⟩, fun _ _ _ _ => rfl⟩
    · rw [if_neg q1, if_neg q1]
      by_cases q2 : (sHeld nc e.1 &&& mask) = 0
      · rw [if_pos q2, if_pos q2]
        exact ⟨M, rfl, ⟨e, h1, 0, rfl⟩, fun _ _ _ _ => rfl⟩
      · rw [if_neg q2, if_neg q2]
        by_cases q3 : Int32.ofNat g = most
        · rw [if_pos q3, if_pos q3]
          exact ⟨M, rfl, ⟨e, h1, 0, rfl⟩, fun _ _ _ _ => rfl⟩
        · rw [if_neg q3, if_neg q3]
          by_cases q4 : idle < 60
          · rw [if_pos q4, if_pos q4]
            obtain ⟨M1, a1, a2, a3, a4, a5⟩ := c_ahead hnc hW h1 h2 hn
            rw [a1]
            simp only [lt, i32_succ]
            have hg9 : g ≤ 200 := by
              have h9 := Int32.not_lt.mp q1
              have h8 : Int32.ofNat g < Int32.ofNat 201 := Int32.lt_of_le_of_lt h9 hmo
              have := (i32_ltN (by omega) (by omega)).mp h8
              omega
            have hW1 : cLaw 25 W M1 := hW.frame (fun j hj => a5 _ (by omega) (by omega) (by omega))
            have e39 : M1 39 = M 39 := a5 39 (by omega) (by omega) (by omega)
            by_cases q5 : (sCalm W (M 39 2) nc e).2.2.1 ≤ 0
            · rw [if_pos q5, if_pos q5]
              obtain ⟨M', b1, ⟨e', b2, k, b3⟩, b4⟩ := ih (g + 1) (idle + 1) _ M1 hW1 a2 a3 a4 (by omega) (by omega)
              rw [e39] at b1 b3
              exact ⟨M', b1, ⟨e', b2, k + 1, b3⟩, fun x x1 x2 x3 => (b4 x x1 x2 x3).trans (a5 x x1 x2 x3)⟩
            · rw [if_neg q5, if_neg q5]
              obtain ⟨M', b1, ⟨e', b2, k, b3⟩, b4⟩ := ih (g + 1) 0 _ M1 hW1 a2 a3 a4 (by omega) (by omega)
              rw [e39] at b1 b3
              exact ⟨M', b1, ⟨e', b2, k + 1, b3⟩, fun x x1 x2 x3 => (b4 x x1 x2 x3).trans (a5 x x1 x2 x3)⟩
          · rw [if_neg q4, if_neg q4]
            exact ⟨M, rfl, ⟨e, h1, 0, rfl⟩, fun _ _ _ _ => rfl⟩
