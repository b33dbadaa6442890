/-! A diner's seat (class), and sums over the traits. -/
theorem c_seatOf_2 {a nd : Nat} {M : Mm} {w : Nat → Int32} (hnd : nd ≤ 8) (hs : rSeat nd (slc a M) w) {d : Nat} (hd : d < nd) : ∀ (n k i : Nat), i + k = 10 → k < n → (∀ s, s < i → w (12 + 9 * d) ≠ Int32.ofNat s) → f_X6_seatOf_2 20000 a n (Int32.ofNat d) (Int32.ofNat i) M = some (w (12 + 9 * d), M) := by
  intro n
  induction n with
  | zero => intro k i _ h; omega
  | succ n ih =>
    intro k i hik hk hlt
    obtain ⟨s, hs10, e1, e2⟩ := hs.1 d hd
    rw [f_X6_seatOf_2]
    match k with
    | 0 => exact absurd e1 (hlt s (by omega))
    | k + 1 =>
      rw [if_neg (show ¬ (10 : Int32) ≤ Int32.ofNat i from fun h9 => by have := (i32_leN (a := 10) (by omega) (by omega)).mp h9; omega)]
      simp only [grd, inb_ofNat (show i < 10 by omega) (by omega), if_true, i32_clampN (show i < 2147483648 by omega), i32_succ]
      have e3 : M (a + 1) i = slc a M 1 i := (slc_at (by decide)).symm
      rw [e3]
      by_cases e : slc a M 1 i = Int32.ofNat d
      · rw [if_pos e]
        rcases hs.2 i (by omega) with e4 | ⟨d', hd', e5, e6⟩
        · exfalso
          rw [e] at e4
          have h9 := i32_nn (k := d) (by omega)
          rw [e4] at h9
          exact h9 (by decide)
        · rw [e] at e5
          have := (i32_eqN (by omega) (by omega)).mp e5
          subst this
          rw [e6]
      · rw [if_neg e]
        refine ih k (i + 1) (by omega) (by omega) (fun s9 hs9 => ?_)
        by_cases e4 : s9 = i
        · subst e4
          intro h9
          rw [e1] at h9
          have := (i32_eqN (by omega) (by omega)).mp h9
          subst this
          exact e e2
        · exact hlt s9 (by omega)
theorem c_seatOf {a nd : Nat} {M : Mm} {w : Nat → Int32} (hnd : nd ≤ 8) (hs : rSeat nd (slc a M) w) {d : Nat} (hd : d < nd) : f_X6_seatOf 20000 a (Int32.ofNat d) M = some (w (12 + 9 * d), M) :=
  c_seatOf_2 hnd hs hd 20000 10 0 (by omega) (by omega) (fun s h => absurd h (by omega))
