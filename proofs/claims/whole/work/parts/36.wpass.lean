/-! Drawing, spilling, damp and passing on in the reference's world. -/
theorem draw_eq (x : Int32) : ((x >>> ((16 : Int32) &&& 31)) &&& (32767 : Int32)) = sDraw x := by
  unfold sDraw
  apply Int32.toBitVec_inj.mp
  simp only [Int32.toBitVec_and, Int32.toBitVec_shiftRight, UInt32.toBitVec_shiftRight, Int32.toBitVec_toUInt32, UInt32.toBitVec_toInt32]
  apply BitVec.eq_of_getElem_eq
  intro i hi
  simp
  by_cases h : i < 15
  · rw [BitVec.getElem_sshiftRight, dif_pos (by omega), BitVec.getLsbD_eq_getElem (by omega)]
  · have h9 : ∀ (i : Nat) (h : i < 32), 15 ≤ i → (32767#32)[i]'h = false := by decide
    rw [h9 i hi (by omega), Bool.and_false, Bool.and_false]
theorem m_pass_2 {nd nc : Nat} {L : List Row} : ∀ (n k i : Nat) (T : Tb) (M : Mm), RW nd nc T L (M 209) → i + k = nc → k < n → ∃ M', f_X11_passesOn_2 20000 n (Int32.ofNat i) M = some (0, M') ∧ RW nd nc (sTick (sPassL k i T)) L (M' 209) ∧ M' 209 3 = M 209 3 ∧ (∀ j, 409 ≤ j → M' 209 j = M 209 j) ∧ ∀ x, x ≠ 209 → M' x = M x := by
  intro n
  induction n with
  | zero => intro k i T M _ _ h; omega
  | succ n ih =>
    intro k i T M hR hik hk
    have hnc := hR.1.2.1
    rw [f_X11_passesOn_2, m_cellars]
    simp only [bnd]
    rw [hR.1.2.2.2.2.2]
    match k with
    | 0 =>
      rw [if_pos ((i32_leN (by omega) (by omega)).mpr (by omega))]
      simp only [grd, lt, show inb (4 : Int32) 2107 = true from by decide, show inb (5 : Int32) 2107 = true from by decide, if_true, show (4 : Int32).toNatClampNeg = 4 from by decide, show (5 : Int32).toNatClampNeg = 5 from by decide]
      obtain ⟨⟨co, hco, eco⟩, ⟨di, hdi, edi⟩, -⟩ := hR.2.2.2.2.2.2.1
      have w4 : M 209 4 = Int32.ofNat co := hR.2.1.2.1.trans eco
      have w5 : M 209 5 = Int32.ofNat di := hR.2.1.2.2.1.trans edi
      have e12 : Int32.ofNat co + 1 - (Int32.ofNat co + 1) / 12 * 12 = Int32.ofNat ((co + 1) % 12) := by
        rw [i32_succ]; exact i32_remN (m := 12) (by omega) (by omega)
      rw [w4, e12, wr_eq]
      show ∃ M', _ ∧ RW nd nc (sTick T) L _ ∧ _
      unfold sTick
      rw [eco, i32_succ]
      have hR1 : RW nd nc (wr T 0 4 (Int32.ofNat ((co + 1) % 12))) L (updF (M 209) 4 (Int32.ofNat ((co + 1) % 12))) := RW_sc (j := 4) hR (by omega) ⟨fun _ => ⟨(co + 1) % 12, Nat.mod_lt _ (by decide), rfl⟩, fun h => by omega, fun h => by omega⟩
      by_cases q : co + 1 < 12
      · rw [if_pos (show Int32.ofNat (co + 1) < (12 : Int32) from (i32_ltN (b := 12) (by omega) (by omega)).mpr q)]
        rw [Nat.mod_eq_of_lt q] at hR1 ⊢
        rw [if_neg (show ¬ Int32.ofNat (co + 1) = (0 : Int32) from fun h9 => by have := (i32_eqN (b := 0) (by omega) (by omega)).mp h9; omega)]
        exact ⟨_, rfl, by rw [wr_row]; exact hR1, wr_nk (by decide), fun j hj => wr_nk (by omega), fun x hx => wr_nrow hx⟩
      · rw [if_neg (show ¬ Int32.ofNat (co + 1) < (12 : Int32) from fun h9 => q ((i32_ltN (b := 12) (by omega) (by omega)).mp h9))]
        rw [show (co + 1) % 12 = 0 from by omega] at hR1 ⊢
        rw [if_pos (show Int32.ofNat 0 = (0 : Int32) from rfl), wr_nk (show (5 : Nat) ≠ 4 by decide), w5, edi]
        have hT : wr (wr T 0 4 (Int32.ofNat (co + 1))) 0 4 0 = wr T 0 4 (Int32.ofNat 0) := by
          funext x y; unfold wr
          by_cases h9 : x = 0 ∧ y = 4
          · rw [if_pos h9, if_pos h9]; rfl
          · rw [if_neg h9, if_neg h9, if_neg h9]
        rw [hT]
        have hmin : ∃ q9, q9 ≤ 9999 ∧ (if Int32.ofNat di + 1 < 9999 then Int32.ofNat di + 1 else 9999) = Int32.ofNat q9 := i32_min_ex (m := 9999) rfl hdi (by omega) (by decide) (by decide)
        have hR2 := RW_sc (j := 5) (v := (if Int32.ofNat di + 1 < 9999 then Int32.ofNat di + 1 else 9999)) hR1 (by omega) ⟨fun h => by omega, fun _ => hmin, fun h => by omega⟩
        exact ⟨_, rfl, by rw [wr_row, wr_row]; exact hR2, by rw [wr_nk (by decide), wr_nk (by decide)], fun j hj => by rw [wr_nk (by omega), wr_nk (by omega)], fun x hx => by rw [wr_nrow hx, wr_nrow hx]⟩
    | k + 1 =>
      rw [if_neg (fun h9 => by have := (i32_leN (by omega) (by omega)).mp h9; omega)]
      unfold f_X11_cellarAt
      simp only [bnd]
      rw [show (0 : Int32) = Int32.ofNat 0 from rfl, show (4 : Int32) = Int32.ofNat 4 from rfl, m_cAt, m_ofCellar (by omega) (by decide)]
      dsimp only
      rw [m_ofCellar (by omega) (by decide)]
      dsimp only
      have c0 := hR.2.2.2.2.1 i (by omega) 0 (by decide)
      have c4 := hR.2.2.2.2.1 i (by omega) 4 (by decide)
      obtain ⟨⟨pl, hpl, epl⟩, -, -, -, ⟨st, hst, est⟩⟩ := hR.2.2.2.2.2.2.1.2.2.2.2 i (by omega)
      rw [c0, c4, show T (4 + 0) i = T 4 i from rfl, show T (4 + 4) i = T 8 i from rfl]
      simp only [grd, lt, inb_ofNat (show 84 + 5 * i + 0 < 2107 by omega) (by omega), if_true, i32_clampN (show 84 + 5 * i + 0 < 2147483648 by omega), i32_succ]
      have hv : ∃ q9, q9 < 10 ∧ T 4 i + T 8 i - (T 4 i + T 8 i) / 10 * 10 = Int32.ofNat q9 := by
        rw [epl, est, i32_addN]
        exact ⟨(pl + st) % 10, Nat.mod_lt _ (by decide), i32_remN (m := 10) (by omega) (by omega)⟩
      have hR1 := RW_cel (c := i) (k := 0) (v := T 4 i + T 8 i - (T 4 i + T 8 i) / 10 * 10) hR (by omega) (by decide) ⟨fun _ => hv, fun h => by omega, fun h => by omega, fun h => by omega, fun h => by omega⟩
      obtain ⟨M', a1, a2, a3, a4, a5⟩ := ih k (i + 1) (sPass1 T i) (wr M 209 (84 + 5 * i + 0) (T 4 i + T 8 i - (T 4 i + T 8 i) / 10 * 10)) (by rw [wr_row]; exact hR1) (by omega) (by omega)
      exact ⟨M', a1, a2, a3.trans (wr_nk (by omega)), fun j hj => (a4 j hj).trans (wr_nk (by omega)), fun x hx => (a5 x hx).trans (wr_nrow hx)⟩
theorem m_passesOn {nd nc : Nat} {L : List Row} {T : Tb} {M : Mm} (hR : RW nd nc T L (M 209)) : ∃ M', f_X11_passesOn 20000 M = some (0, M') ∧ RW nd nc (sPass nc T) L (M' 209) ∧ M' 209 3 = M 209 3 ∧ (∀ j, 409 ≤ j → M' 209 j = M 209 j) ∧ ∀ x, x ≠ 209 → M' x = M x :=
  m_pass_2 20000 nc 0 T M hR (by omega) (by have := hR.1.2.1; omega)
theorem m_drawn {nd nc : Nat} {L : List Row} {T : Tb} {M : Mm} (hR : RW nd nc T L (M 209)) : ∃ M', f_X11_drawn 20000 100 M = some (sRoll T, M') ∧ RW nd nc (sNext T) L (M' 209) ∧ M' 209 3 = M 209 3 ∧ (∀ j, 409 ≤ j → M' 209 j = M 209 j) ∧ ∀ x, x ≠ 209 → M' x = M x := by
  unfold f_X11_drawn
  simp only [grd, lt, show inb (11 : Int32) 2107 = true from by decide, show nz (100 : Int32) = true from by decide, if_true, show (11 : Int32).toNatClampNeg = 11 from by decide, wr_eq, draw_eq]
  have w11 : M 209 11 = T 0 9 := hR.2.1.2.2.2.2.2.2.1
  rw [w11]
  refine ⟨_, rfl, ?_, wr_nk (by decide), fun j hj => wr_nk (by omega), fun x hx => wr_nrow hx⟩
  rw [wr_row]
  exact RW_sc (j := 9) hR (by omega) ⟨fun h => by omega, fun h => by omega, fun h => by omega⟩
theorem m_spills {nd nc : Nat} {L : List Row} {T : Tb} {M : Mm} {c : Nat} (hR : RW nd nc T L (M 209)) (hc : c < nc) : ∃ M', f_X11_spills 20000 (Int32.ofNat c) M = some (0, M') ∧ RW nd nc (sSpill1 T c) L (M' 209) ∧ M' 209 3 = M 209 3 ∧ (∀ j, 409 ≤ j → M' 209 j = M 209 j) ∧ ∀ x, x ≠ 209 → M' x = M x := by
  have hnc := hR.1.2.1
  obtain ⟨-, -, ⟨g, hg, eg⟩, -⟩ := hR.2.2.2.2.2.2.1.2.2.2.2 c hc
  obtain ⟨sp, hsp, esp⟩ := hR.2.2.2.2.2.2.1.2.2.1
  unfold f_X11_spills sSpill1
  rw [m_isFree (by omega), hR.2.2.2.2.1 c hc 2 (by decide), show T (4 + 2) c = T 6 c from rfl]
  simp only [bnd]
  by_cases q : T 6 c = 0
  · rw [if_pos q, if_neg (show ¬ (1 : Int32) = 0 by decide), if_pos (by rw [q]; decide)]
    exact ⟨M, rfl, hR, rfl, fun _ _ => rfl, fun _ _ => rfl⟩
  · have q' : ¬ T 6 c ≤ 0 := fun h9 => q (Int32.le_antisymm h9 (by rw [eg]; exact i32_ge0 (by omega)))
    rw [if_neg q, if_pos rfl, if_neg q']
    obtain ⟨M1, a1, a2, a3, a4, a5⟩ := m_drawn hR
    rw [a1]
    simp only [grd, show inb (7 : Int32) 2107 = true from by decide, show inb (9 : Int32) 2107 = true from by decide, if_true, show (7 : Int32).toNatClampNeg = 7 from by decide, show (9 : Int32).toNatClampNeg = 9 from by decide]
    have w7 : M1 209 7 = T 0 6 := by
      rw [a2.2.1.2.2.2.1]; exact wr_nk (by decide)
    rw [w7]
    by_cases q2 : T 0 6 ≤ sRoll T
    · rw [if_neg (Int32.not_lt.mpr q2), if_pos q2]
      exact ⟨M1, rfl, a2, a3, a4, a5⟩
    · rw [if_pos (Int32.not_le.mp q2), if_neg q2]
      unfold f_X11_cellarAt
      simp only [bnd, lt]
      rw [show (2 : Int32) = Int32.ofNat 2 from rfl, m_cAt]
      simp only [inb_ofNat (show 84 + 5 * c + 2 < 2107 by omega) (by omega), if_true, i32_clampN (show 84 + 5 * c + 2 < 2147483648 by omega)]
      have wg : M1 209 (84 + 5 * c + 2) = T 6 c := by
        rw [a2.2.2.2.2.1 c hc 2 (by decide)]; exact wr_ne (by decide)
      have w9 : M1 209 9 = T 0 8 := by
        rw [a2.2.1.2.2.2.2.2.1]; exact wr_nk (by decide)
      rw [wg, wr_nk (show (9 : Nat) ≠ 84 + 5 * c + 2 by omega), w9]
      have hR1 := RW_cel (c := c) (k := 2) (v := T 6 c - 1) a2 hc (by decide) ⟨fun h => by omega, fun h => by omega, fun _ => i32_sub_ex eg hg (by decide) (by
        have := Int32.not_le.mp q'
        grind), fun h => by omega, fun h => by omega⟩
      have hR2 := RW_sc (j := 8) (v := (if T 0 8 + 1 < 9999 then T 0 8 + 1 else 9999)) hR1 (by omega) ⟨fun h => by omega, fun h => by omega, fun _ => i32_min_ex (m := 9999) esp hsp (by omega) (by decide) (by decide)⟩
      exact ⟨_, rfl, by rw [wr_row, wr_row]; exact hR2, by rw [wr_nk (by omega), wr_nk (by omega)]; exact a3, fun j hj => by rw [wr_nk (by omega), wr_nk (by omega)]; exact a4 j hj, fun x hx => by rw [wr_nrow hx, wr_nrow hx]; exact a5 x hx⟩
