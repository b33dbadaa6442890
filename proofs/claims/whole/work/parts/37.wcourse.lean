/-! Damp and whole courses in the reference's world. -/
theorem sSet_b {fx : Fx} : ∀ (W : Lw) (v : Int32) (q0 : Nat), (∀ ln ∈ W, ∃ q, q ≤ 30 ∧ ln.2.1 = Int32.ofNat q) → v = Int32.ofNat q0 → ∃ q, q0 ≤ q ∧ q ≤ q0 + 30 * W.length ∧ W.foldl (sSetLine fx) v = Int32.ofNat q := by
  intro W
  induction W with
  | nil => intro v q0 _ h; exact ⟨q0, Nat.le_refl _, by omega, h⟩
  | cons x W ih =>
    intro v q0 hb hv
    obtain ⟨n, hn, en⟩ := hb x List.mem_cons_self
    rw [List.foldl_cons]
    have hx : ∃ q1, q0 ≤ q1 ∧ q1 ≤ q0 + 30 ∧ sSetLine fx v x = Int32.ofNat q1 := by
      unfold sSetLine
      split
      · split
        · exact ⟨q0 + n, by omega, by omega, by rw [hv, en, i32_addN]⟩
        · exact ⟨q0, by omega, by omega, hv⟩
      · exact ⟨q0, by omega, by omega, hv⟩
    obtain ⟨q1, h1, h2, h3⟩ := hx
    obtain ⟨q, g1, g2, g3⟩ := ih _ q1 (fun ln hl => hb ln (List.mem_cons_of_mem _ hl)) h3
    exact ⟨q, by omega, by rw [List.length_cons]; omega, g3⟩
theorem sSetsBy_b {W : Lw} {fx : Fx} (hO : lwOK W) : ∃ q, q ≤ 361 ∧ sSetsBy W fx = Int32.ofNat q := by
  obtain ⟨q, -, h2, h3⟩ := sSet_b (fx := fx) W 1 1 (fun ln hl => by
    obtain ⟨i, hi, e⟩ := List.mem_iff_getElem.mp hl
    rw [← e]; exact (hO.2 i hi).2.1) rfl
  have := hO.1
  exact ⟨q, by omega, h3⟩
def mK (M' M : Mm) : Prop := M' 209 3 = M 209 3 ∧ (∀ j, 409 ≤ j → M' 209 j = M 209 j) ∧ ∀ x, x ≠ 209 → x ≠ 216 → M' x = M x
theorem mK.rf {M : Mm} : mK M M := ⟨rfl, fun _ _ => rfl, fun _ _ _ => rfl⟩
theorem mK.trans {M1 M2 M3 : Mm} (h2 : mK M3 M2) (h1 : mK M2 M1) : mK M3 M1 := ⟨h2.1.trans h1.1, fun j hj => (h2.2.1 j hj).trans (h1.2.1 j hj), fun x a b => (h2.2.2 x a b).trans (h1.2.2 x a b)⟩
theorem mK.law {W : Lw} {M M' : Mm} (h : mK M' M) (hW : wLaw W M) (hO : lwOK W) : wLaw W M' := hW.frame h.1 (fun j x _ => h.2.1 j x) hO
theorem m_dampens {nd nc : Nat} {L : List Row} {T : Tb} {W : Lw} {M : Mm} {c : Nat} (hO : lwOK W) (hR : RW nd nc T L (M 209)) (hW : wLaw W M) (hc : c < nc) : ∃ M', f_X11_dampens 20000 (Int32.ofNat c) M = some (0, M') ∧ RW nd nc (sDamp1 W T c) L (M' 209) ∧ mK M' M := by
  have hnc := hR.1.2.1
  have hnd := hR.1.1
  obtain ⟨⟨pl, hpl, epl⟩, -, ⟨g, hg, eg⟩, ⟨z, hz, ez⟩, -⟩ := hR.2.2.2.2.2.2.1.2.2.2.2 c hc
  have hw : sWho T c = -1 ∨ ∃ dn, dn < nd ∧ sWho T c = Int32.ofNat dn := by
    rw [sWho_pl hpl epl]
    rcases hR.2.2.1.2 pl hpl with e | ⟨d, hd, e1, -⟩
    · exact Or.inl e
    · exact Or.inr ⟨d, hd, e1⟩
  have h47 : ∀ (b9 : Int32) (q : Nat) (M1 : Mm), q ≤ 361 → b9 = Int32.ofNat q → (∀ x, x ≠ 216 → M1 x = M x) → ∃ M', f_X11_dampens_47 20000 (Int32.ofNat (84 + 5 * c + 3)) 9 (T 7 c) b9 M1 = some (0, M') ∧ RW nd nc (wr T 7 c (if T 7 c + b9 < 9 then T 7 c + b9 else 9)) L (M' 209) ∧ mK M' M := fun b9 q M1 hq e9 hM1 => by
    unfold f_X11_dampens_47
    simp only [grd, lt, inb_ofNat (show 84 + 5 * c + 3 < 2107 by omega) (by omega), if_true, i32_clampN (show 84 + 5 * c + 3 < 2147483648 by omega)]
    have hR1 := RW_cel (c := c) (k := 3) (v := (if T 7 c + b9 < 9 then T 7 c + b9 else 9)) hR hc (by decide) ⟨fun h => by omega, fun h => by omega, fun h => by omega, fun _ => i32_min_ex (m := 9) ez hz (by omega) (by rw [e9]; exact i32_ge0 (by omega)) (by rw [e9]; exact (i32_leN (b := 100000) (by omega) (by omega)).mpr (by omega)), fun h => by omega⟩
    refine ⟨_, rfl, by rw [wr_row, hM1 209 (by decide)]; exact hR1, ?_, fun j hj => ?_, fun x x1 x2 => by rw [wr_nrow x1, hM1 x x2]⟩
    · rw [wr_nk (by omega), hM1 209 (by decide)]
    · rw [wr_nk (by omega), hM1 209 (by decide)]
  unfold f_X11_dampens sDamp1 sBy
  rw [m_isFree (by omega), hR.2.2.2.2.1 c hc 2 (by decide), show T (4 + 2) c = T 6 c from rfl]
  simp only [bnd]
  by_cases q : T 6 c = 0
  · rw [if_pos q, if_neg (show ¬ (1 : Int32) = 0 by decide), if_pos (by rw [q]; decide)]
    exact ⟨M, rfl, hR, mK.rf⟩
  · have q' : ¬ T 6 c ≤ 0 := fun h9 => q (Int32.le_antisymm h9 (by rw [eg]; exact i32_ge0 (by omega)))
    rw [if_neg q, if_pos rfl, if_neg q', m_eaterOf hR hc]
    unfold f_X11_cellarAt
    dsimp only
    rw [show (3 : Int32) = Int32.ofNat 3 from rfl, m_cAt, m_ofCellar (by omega) (by decide), hR.2.2.2.2.1 c hc 3 (by decide), show T (4 + 3) c = T 7 c from rfl]
    dsimp only
    rcases hw with e | ⟨dn, hdn, e⟩
    · rw [e, if_pos rfl, if_pos rfl]
      exact h47 1 1 M (by omega) rfl (fun _ _ => rfl)
    · have hne : ¬ Int32.ofNat dn = -1 := fun h9 => by
        have := i32_nn (k := dn) (by omega)
        rw [h9] at this
        exact this (by decide)
      rw [e, if_neg hne, if_neg hne]
      obtain ⟨M1, a1, a2⟩ := m_setsBy (c := c) (d := dn) hO hc hdn hR hW
      rw [a1]
      obtain ⟨q9, h9, e9⟩ := sSetsBy_b (W := W) (fx := sFx T (Int32.ofNat c) (Int32.ofNat dn)) hO
      exact h47 _ q9 M1 h9 e9 a2
theorem m_course_80 {nd nc : Nat} {L : List Row} {W : Lw} (hO : lwOK W) {v : Int32} : ∀ (n k i : Nat) (T : Tb) (M : Mm), RW nd nc T L (M 209) → wLaw W M → i + k = nc → k < n → ∃ M', f_X11_oneCourse_80 20000 n v 1 (Int32.ofNat i) M = some (v, M') ∧ RW nd nc (sPass nc (sDampL W k i T)) L (M' 209) ∧ mK M' M := by
  intro n
  induction n with
  | zero => intro k i T M _ _ _ h; omega
  | succ n ih =>
    intro k i T M hR hW hik hk
    have hnc := hR.1.2.1
    rw [f_X11_oneCourse_80, m_cellars]
    simp only [bnd]
    rw [hR.1.2.2.2.2.2]
    match k with
    | 0 =>
      rw [if_pos ((i32_leN (by omega) (by omega)).mpr (by omega))]
      obtain ⟨M', a1, a2, a3, a4, a5⟩ := m_passesOn hR
      unfold f_X11_oneCourse_105
      rw [a1]
      exact ⟨M', rfl, a2, a3, a4, fun x x1 _ => a5 x x1⟩
    | k + 1 =>
      rw [if_neg (fun h9 => by have := (i32_leN (by omega) (by omega)).mp h9; omega), if_neg (show ¬ (1 : Int32) = 0 by decide)]
      obtain ⟨M1, a1, a2, a3⟩ := m_dampens hO hR hW (show i < nc by omega)
      rw [a1]
      simp only [i32_succ]
      obtain ⟨M', b1, b2, b3⟩ := ih k (i + 1) (sDamp1 W T i) M1 a2 (a3.law hW hO) (by omega) (by omega)
      exact ⟨M', b1, b2, b3.trans a3⟩
theorem m_course_75 {nd nc : Nat} {L : List Row} {T : Tb} {v : Int32} {M : Mm} (hR : RW nd nc T L (M 209)) : ∃ M', f_X11_oneCourse_75 20000 v M = some (v, M') ∧ RW nd nc (sPass nc T) L (M' 209) ∧ mK M' M := by
  obtain ⟨M', a1, a2, a3, a4, a5⟩ := m_passesOn hR
  have h105 : f_X11_oneCourse_105 20000 v M = some (v, M') := by
    unfold f_X11_oneCourse_105
    rw [a1]; rfl
  refine ⟨M', ?_, a2, a3, a4, fun x x1 _ => a5 x x1⟩
  unfold f_X11_oneCourse_75
  have hs : ∀ n, f_X11_oneCourse_80 20000 (n + 1) v 0 0 M = some (v, M') := fun n => by
    rw [f_X11_oneCourse_80, m_cellars]
    simp only [bnd]
    rw [if_pos trivial, h105]
    split <;> rfl
  exact hs 19999
theorem m_course_51c {nd nc : Nat} {L : List Row} {T : Tb} {v : Int32} {M : Mm} (hR : RW nd nc T L (M 209)) : ∃ M', f_X11_oneCourse_51 20000 1 v M = some (v, M') ∧ RW nd nc (sPass nc T) L (M' 209) ∧ mK M' M := by
  unfold f_X11_oneCourse_51
  rw [if_neg (show ¬ (1 : Int32) = 0 by decide)]
  exact m_course_75 hR
theorem m_course_51b {nd nc : Nat} {L : List Row} {T : Tb} {W : Lw} {v : Int32} {M : Mm} (hO : lwOK W) (hR : RW nd nc T L (M 209)) (hW : wLaw W M) : ∃ M', f_X11_oneCourse_51 20000 0 v M = some (v, M') ∧ RW nd nc (sPass nc (sDamps W nc T)) L (M' 209) ∧ mK M' M := by
  have hnc := hR.1.2.1
  unfold f_X11_oneCourse_51 sDamps
  rw [if_pos rfl]
  obtain ⟨M1, a1, a2, a3, a4, a5⟩ := m_drawn hR
  have k1 : mK M1 M := ⟨a3, a4, fun x x1 _ => a5 x x1⟩
  rw [a1]
  simp only [bnd, grd, show inb (8 : Int32) 2107 = true from by decide, if_true, show (8 : Int32).toNatClampNeg = 8 from by decide]
  have w8 : M1 209 8 = T 0 7 := by
    rw [a2.2.1.2.2.2.2.1]; exact wr_nk (by decide)
  rw [w8]
  by_cases q : T 0 7 ≤ sRoll T
  · rw [if_pos q, if_neg (Int32.not_lt.mpr q)]
    obtain ⟨M', b1, b2, b3⟩ := m_course_75 (v := v) a2
    exact ⟨M', b1, b2, b3.trans k1⟩
  · rw [if_neg q, if_pos (Int32.not_le.mp q)]
    obtain ⟨M', b1, b2, b3⟩ := m_course_80 (v := v) hO 20000 nc 0 (sNext T) M1 a2 (k1.law hW hO) (by omega) (by omega)
    rw [show (0 : Int32) = Int32.ofNat 0 from rfl]
    exact ⟨M', b1, b2, b3.trans k1⟩
theorem m_course_28b {nd nc : Nat} {L : List Row} {W : Lw} (hO : lwOK W) {v : Int32} : ∀ (n k i : Nat) (T : Tb) (M : Mm), RW nd nc T L (M 209) → wLaw W M → i + k = nc → k < n → ∃ M', f_X11_oneCourse_28 20000 n 0 v (Int32.ofNat i) M = some (v, M') ∧ RW nd nc (sPass nc (sDamps W nc (sSpillL k i T))) L (M' 209) ∧ mK M' M := by
  intro n
  induction n with
  | zero => intro k i T M _ _ _ h; omega
  | succ n ih =>
    intro k i T M hR hW hik hk
    have hnc := hR.1.2.1
    rw [f_X11_oneCourse_28, m_cellars]
    simp only [bnd]
    rw [hR.1.2.2.2.2.2]
    match k with
    | 0 =>
      rw [if_pos ((i32_leN (by omega) (by omega)).mpr (by omega))]
      exact m_course_51b hO hR hW
    | k + 1 =>
      rw [if_neg (fun h9 => by have := (i32_leN (by omega) (by omega)).mp h9; omega), if_pos trivial]
      obtain ⟨M1, a1, a2, a3, a4, a5⟩ := m_spills hR (show i < nc by omega)
      have k1 : mK M1 M := ⟨a3, a4, fun x x1 _ => a5 x x1⟩
      rw [a1]
      simp only [i32_succ]
      obtain ⟨M', b1, b2, b3⟩ := ih k (i + 1) (sSpill1 T i) M1 a2 (k1.law hW hO) (by omega) (by omega)
      exact ⟨M', b1, b2, b3.trans k1⟩
theorem m_course_28c {nd nc : Nat} {L : List Row} {T : Tb} {v : Int32} {M : Mm} (hR : RW nd nc T L (M 209)) (n : Nat) : ∃ M', f_X11_oneCourse_28 20000 (n + 1) 1 v 0 M = some (v, M') ∧ RW nd nc (sPass nc T) L (M' 209) ∧ mK M' M := by
  obtain ⟨M', a1, a2, a3⟩ := m_course_51c (v := v) hR
  refine ⟨M', ?_, a2, a3⟩
  rw [f_X11_oneCourse_28, m_cellars]
  simp only [bnd]
  rw [if_neg (show ¬ (1 : Int32) = 0 by decide), a1]
  split <;> rfl
