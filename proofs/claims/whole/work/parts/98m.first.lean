/-! The first memory keeps the invariant. -/
section FI
theorem MI_z {b j : Nat} (h1 : ¬ (b = 209 ∧ j = 11)) (h2 : ¬ (b = 208 ∧ j = 14)) (h3 : ¬ (b = 0 ∧ j = 14)) (hb : 10 ≤ j ∨ (b ≠ 8 ∧ b ≠ 17 ∧ b ≠ 45 ∧ (b < 66 ∨ 199 ≤ b ∨ (b - 66) % 12 ≠ 0))) (hc : j ≠ 9 ∨ (b ≠ 7 ∧ b ≠ 16 ∧ b ≠ 44 ∧ (b < 65 ∨ 198 ≤ b ∨ (b - 65) % 12 ≠ 0))) : MI b j = 0 := by
  unfold MI MI1 wr mt6
  rw [if_neg h1, if_neg h2]
  rw [if_neg (by omega), if_neg (by omega), if_neg (by omega), if_neg (by omega), if_neg (by omega), if_neg (by omega), if_neg (by omega), if_neg (by omega), if_neg (by omega), if_neg (by omega), if_neg (by omega), if_neg (by omega), if_neg (by omega), if_neg (by omega), if_neg (by omega), if_neg (by omega), if_neg (by omega), if_neg (by omega), if_neg (by omega), if_neg (by omega), if_neg (by omega), if_neg (by omega), if_neg (by omega), if_neg (by omega)]
  dsimp only
  rw [if_neg h3]
  rw [if_neg (by omega), if_neg (by omega), if_neg (by omega), if_neg (by omega), if_neg (by omega), if_neg (by omega)]
theorem MI_8 : ∀ s, s < 10 → MI 8 s = -1 := by decide
theorem MI_tz {a : Nat} (ha : a = 7 ∨ a = 16 ∨ a = 44 ∨ (65 ≤ a ∧ a ≤ 197 ∧ (a - 65) % 12 = 0)) : tz (slc a MI) := by
  intro i j hj
  unfold slc
  by_cases hi : i < 9
  · rw [if_pos hi]
    match i, hi with
    | 0, _ =>
      have hj' : 11 ≤ j := hj
      exact MI_z (by omega) (by omega) (by omega) (by omega) (by omega)
    | 1, _ =>
      have hj' : 10 ≤ j := hj
      exact MI_z (by omega) (by omega) (by omega) (by omega) (by omega)
    | 2, _ => exact MI_z (by omega) (by omega) (by omega) (by omega) (by omega)
    | 3, _ => exact MI_z (by omega) (by omega) (by omega) (by omega) (by omega)
    | 4, _ => exact MI_z (by omega) (by omega) (by omega) (by omega) (by omega)
    | 5, _ => exact MI_z (by omega) (by omega) (by omega) (by omega) (by omega)
    | 6, _ => exact MI_z (by omega) (by omega) (by omega) (by omega) (by omega)
    | 7, _ => exact MI_z (by omega) (by omega) (by omega) (by omega) (by omega)
    | 8, _ => exact MI_z (by omega) (by omega) (by omega) (by omega) (by omega)
  · rw [if_neg hi]
theorem MI_w {j : Nat} (h : j ≠ 11) : MI 209 j = 0 := MI_z (by omega) (by omega) (by omega) (by omega) (by omega)
theorem MI_r {b j : Nat} (h : b = 208 ∨ b = 1 ∨ b = 25 ∨ b = 37) (hj : j ≠ 14) : MI b j = 0 := MI_z (by omega) (by omega) (by omega) (by omega) (by omega)
theorem MI_0 {j : Nat} (hj : j ≠ 14) : MI 0 j = 0 := MI_z (by omega) (by omega) (by omega) (by omega) (by omega)
theorem MI_t {j : Nat} (hj : j ≠ 9) : slc 7 MI 0 j = 0 := (slc_at (a := 7) (i := 0) (M := MI) (by decide)).trans (MI_z (b := 7 + 0) (by omega) (by omega) (by omega) (by omega) (by omega))
theorem first_RW : RW 0 0 (slc 7 MI) [] (MI 209) := by
  refine ⟨⟨by omega, by omega, MI_t (by decide), MI_t (by decide), MI_w (by decide), MI_w (by decide)⟩, ⟨?_, ?_, ?_, ?_, ?_, ?_, ?_, ?_⟩, ⟨fun d hd => absurd hd (Nat.not_lt_zero d), fun s hs => Or.inl (MI_8 s hs)⟩, fun d hd => absurd hd (Nat.not_lt_zero d), fun c hc => absurd hc (Nat.not_lt_zero c), ⟨by decide, MI_w (by decide), fun k hk => absurd hk (Nat.not_lt_zero k)⟩, ⟨⟨0, by decide, MI_t (by decide)⟩, ⟨0, by decide, MI_t (by decide)⟩, ⟨0, by decide, MI_t (by decide)⟩, fun d hd => absurd hd (Nat.not_lt_zero d), fun c hc => absurd hc (Nat.not_lt_zero c)⟩, MI_tz (Or.inl rfl)⟩
  · rw [MI_w (by decide), MI_t (by decide)]
  · rw [MI_w (by decide), MI_t (by decide)]
  · rw [MI_w (by decide), MI_t (by decide)]
  · rw [MI_w (by decide), MI_t (by decide)]
  · rw [MI_w (by decide), MI_t (by decide)]
  · rw [MI_w (by decide), MI_t (by decide)]
  · decide
  · rw [MI_w (by decide), MI_t (by decide)]
theorem first_cI : cI (0, 0, slc 7 MI, []) (false, []) [] none [] (-1) MI := by
  refine ⟨rfl, ⟨by decide, MI_r (by decide) (by decide), 0, by decide, MI_r (by decide) (by decide), fun k hk => absurd hk (Nat.not_lt_zero k)⟩, ⟨⟨by decide, MI_r (by decide) (by decide), fun i hi => absurd hi (Nat.not_lt_zero i)⟩, MI_r (by decide) (by decide)⟩, ⟨by decide, MI_0 (by decide), fun j hj => MI_tz (by omega), 0, by decide, MI_0 (by decide), fun i hi => absurd hi (Nat.not_lt_zero i)⟩, ⟨MI_tz (by omega), MI_0 (by decide)⟩, ⟨by decide, MI_r (by decide) (by decide), fun j hj => absurd hj (Nat.not_lt_zero j)⟩, by decide, MI_tz (by omega)⟩
theorem first_mI : mI (0, 0, slc 7 MI, []) (false, []) [] none [] (-1) MI := by
  refine ⟨first_RW, ⟨Or.inl ⟨by rw [MI_w (by decide)]; decide, rfl⟩, MI_w (by decide)⟩, ⟨MI_r (by decide) (by decide), fun i hi => absurd hi (Nat.not_lt_zero i)⟩, MI_r (by decide) (by decide), ⟨MI_r (by decide) (by decide), fun j hj => absurd hj (Nat.not_lt_zero j)⟩, by decide, MI_r (by decide) (by decide)⟩
theorem first_Inv : InvM MI := by
  refine ⟨(0, 0, slc 7 MI, []), (false, []), [], none, [], -1, first_cI, first_mI, ⟨by decide, fun i hi => absurd hi (Nat.not_lt_zero i)⟩, ⟨fun r hr => absurd hr (by simp), ⟨0, by decide, MI_t (j := 2) (by decide)⟩, fun j _ => ?_, 0, by decide, MI_t (j := 10) (by decide)⟩, fun B hB => absurd hB (by simp), fun x hx => nomatch hx⟩
  show slc 7 MI 3 j = 0
  exact (slc_at (a := 7) (i := 3) (M := MI) (by decide)).trans (MI_z (b := 7 + 3) (by omega) (by omega) (by omega) (by omega) (by omega))
end FI
/-! The whole run. -/
theorem lp_lt9 {L i : Nat} (hL : L ≤ 3072) (hi : 6 * i ≤ 4000) : (Int32.ofNat L - (6 : Int32)) < Int32.ofNat (6 * i) ↔ L < 6 * i + 6 := by
  by_cases h : L < 6
  · have hn : ∀ L, L < 6 → (Int32.ofNat L - (6 : Int32)) < 0 := by decide
    exact ⟨fun _ => by omega, fun _ => Int32.lt_of_lt_of_le (hn L h) (i32_ge0 (by omega))⟩
  · rw [show Int32.ofNat L - (6 : Int32) = Int32.ofNat (L - 6) from i32_subN (b := 6) (by omega), i32_ltN (by omega) (by omega)]
    omega
theorem law_run {L : Nat} (xs : Nat → Int32) (hL : L ≤ 3072) : ∀ (n i : Nat) (M : Mm), InvM M → 6 * i ≤ L → L < 6 * (i + n) → ∃ MF, f_L_loop 20000 L xs n (Int32.ofNat (6 * i)) M = some MF := by
  intro n
  induction n with
  | zero => intro i M _ h1 h2; omega
  | succ n ih =>
    intro i M hM h1 h2
    rw [f_L_loop]
    by_cases c : L < 6 * i + 6
    · rw [if_pos ((lp_lt9 hL (by omega)).mpr c)]
      exact ⟨M, rfl⟩
    · rw [if_neg (fun h9 => c ((lp_lt9 hL (by omega)).mp h9)), grd_t (inb_ofNat (show 6 * i < L by omega) (by omega))]
      have g : ∀ k, k < 6 → inb (Int32.ofNat (6 * i) + Int32.ofNat k) L = true := fun k hk => by
        rw [i32_addN]; exact inb_ofNat (by omega) (by omega)
      obtain ⟨M2, a1, a2⟩ := L_sw9 (xs := xs) (Ln := L) hM ⟨g 1 (by decide), g 2 (by decide), g 3 (by decide), g 4 (by decide), g 5 (by decide)⟩
      rw [a1]
      show ∃ MF, f_L_loop 20000 L xs n (Int32.ofNat (6 * i) + (6 : Int32)) M2 = some MF
      rw [show Int32.ofNat (6 * i) + (6 : Int32) = Int32.ofNat (6 * (i + 1)) from i32_addN (6 * i) 6]
      exact ih (i + 1) M2 a2 (by omega) (by omega)
theorem law_pure {L : Nat} (xs : Nat → Int32) (hL : L ≤ 3072) : ∃ MF, f_L_loop 20000 L xs 600 (0 : Int32) MI = some MF := law_run xs hL 600 0 MI first_Inv (by omega) (by omega)
