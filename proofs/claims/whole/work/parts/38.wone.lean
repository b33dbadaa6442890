/-! One course in the reference's world. -/
theorem m_course_4 {nd nc : Nat} {W : Lw} (hO : lwOK W) {v1 : Int32} (hv1 : v1 = 0 ∨ v1 = 1) : ∀ (n k i : Nat) (e : Es) (M : Mm), RW nd nc e.1 e.2.2.2 (M 209) → wLaw W M → i + k = nc → k < n →
    ∃ M', f_X11_oneCourse_4 20000 n v1 e.2.2.1 (Int32.ofNat i) M = some ((sAll W (M 208 18) k i e).2.2.1, M') ∧ RW nd nc (if v1 = 0 then sPass nc (sDamps W nc (sSpillL nc 0 (sAll W (M 208 18) k i e).1)) else sPass nc (sAll W (M 208 18) k i e).1) (sAll W (M 208 18) k i e).2.2.2 (M' 209) ∧ mK M' M := by
  intro n
  induction n with
  | zero => intro k i e M _ _ _ h; omega
  | succ n ih =>
    intro k i e M hR hW hik hk
    have hnc := hR.1.2.1
    rw [f_X11_oneCourse_4, m_cellars]
    simp only [bnd]
    rw [hR.1.2.2.2.2.2]
    match k with
    | 0 =>
      rw [if_pos ((i32_leN (by omega) (by omega)).mpr (by omega))]
      show ∃ M', _ = some (e.2.2.1, M') ∧ RW nd nc (if v1 = 0 then sPass nc (sDamps W nc (sSpillL nc 0 e.1)) else sPass nc e.1) e.2.2.2 _ ∧ _
      rcases hv1 with rfl | rfl
      · rw [if_pos rfl]
        obtain ⟨M', b1, b2, b3⟩ := m_course_28b (v := e.2.2.1) hO 20000 nc 0 e.1 M hR hW (by omega) (by omega)
        exact ⟨M', b1, b2, b3⟩
      · rw [if_neg (show ¬ (1 : Int32) = 0 by decide)]
        exact m_course_28c (v := e.2.2.1) hR 19999
    | k + 1 =>
      rw [if_neg (fun h9 => by have := (i32_leN (by omega) (by omega)).mp h9; omega)]
      obtain ⟨M1, a1, a2, -, a3, a4, a5, a6⟩ := m_eats (T := e.1) (tk := e.2.1) (sm := e.2.2.1) (L := e.2.2.2) (W := W) (c := i) hO (show i < nc by omega) hR hW
      have k1 : mK M1 M := ⟨a4, a5, a6⟩
      rw [a1]
      simp only [i32_succ, lt]
      obtain ⟨M', b1, b2, b3⟩ := ih k (i + 1) (sEat W (M 208 18) i e) M1 a3 (k1.law hW hO) (by omega) (by omega)
      rw [k1.2.2 208 (by decide) (by decide)] at b1 b2
      rw [show (sEat W (M 208 18) i e).2.2.1 = e.2.2.1 + pE W (M 208 18) e.1 i from a2] at b1
      exact ⟨M', b1, b2, b3.trans k1⟩
theorem m_calm {nd nc : Nat} {W : Lw} {e : Es} {M : Mm} (hO : lwOK W) (hR : RW nd nc e.1 e.2.2.2 (M 209)) (hW : wLaw W M) : ∃ M', f_X11_oneCourse 20000 1 M = some ((sCalm W (M 208 18) nc e).2.2.1, M') ∧ RW nd nc (sCalm W (M 208 18) nc e).1 (sCalm W (M 208 18) nc e).2.2.2 (M' 209) ∧ mK M' M := by
  have hnc := hR.1.2.1
  obtain ⟨M', b1, b2, b3⟩ := m_course_4 (v1 := 1) hO (Or.inr rfl) 20000 nc 0 (e.1, e.2.1, 0, e.2.2.2) M hR hW (by omega) (by omega)
  rw [if_neg (show ¬ (1 : Int32) = 0 by decide)] at b2
  exact ⟨M', b1, b2, b3⟩
theorem m_byc {nd nc : Nat} {W : Lw} {e : Es} {M : Mm} (hO : lwOK W) (hR : RW nd nc e.1 e.2.2.2 (M 209)) (hW : wLaw W M) : ∃ M', f_X11_oneCourse 20000 0 M = some ((sCourse W (M 208 18) nc e).2.2.1, M') ∧ RW nd nc (sCourse W (M 208 18) nc e).1 (sCourse W (M 208 18) nc e).2.2.2 (M' 209) ∧ mK M' M := by
  have hnc := hR.1.2.1
  obtain ⟨M', b1, b2, b3⟩ := m_course_4 (v1 := 0) hO (Or.inl rfl) 20000 nc 0 (e.1, e.2.1, 0, e.2.2.2) M hR hW (by omega) (by omega)
  rw [if_pos rfl] at b2
  exact ⟨M', b1, b2, b3⟩
