/-! A line of the reference's law holds, or not. -/
section ML
variable {M : Mm} {c : Nat → Int32 × Int32} {nd nc : Nat} {T : Tb} {L : List Row}
theorem m_hV0 (N n : Nat) (v2 v3 v5 v6 z : Int32) (M : Mm) (h1 : inb (v5 + 3) 2107 = true) (h2 : M 209 (v5 + 3).toNatClampNeg = z) (h3 : z ≤ v6) : f_X11_holdsLine_23 N (n + 1) v2 v3 0 v5 v6 M = some (1, M) := by
  rw [f_X11_holdsLine_23, grd_t h1, h2, if_pos h3, if_pos rfl]
  rfl
theorem m_hV1 (N n : Nat) (v2 v3 v4 v5 v6 z v : Int32) (M : Mm) (h1 : inb (v5 + 3) 2107 = true) (h2 : M 209 (v5 + 3).toNatClampNeg = z) (h3 : z ≤ v6) (h4 : ¬ v4 = 0) (hv : M 216 0 = v) : f_X11_holdsLine_23 N (n + 1) v2 v3 v4 v5 v6 M = some (if v = 1 then 1 else 0, M) := by
  rw [f_X11_holdsLine_23, grd_t h1, h2, if_pos h3, if_neg h4, grd_t (show inb (0 : Int32) 400 = true by decide), show (0 : Int32).toNatClampNeg = 0 by decide, hv]
  by_cases q : v = 1
  · rw [if_pos q, if_pos q]; rfl
  · rw [if_neg q, if_neg q]
theorem m_runM {N cl d K e : Nat} (hc : cl < nc) (hd : d < nd) (hK : K < 2000) (he : e ≤ 400) : ∀ (n k i : Nat) (st : List Int32) (v : Int32) (M : Mm), RW nd nc T L (M 209) → M 209 (K + 3) = Int32.ofNat e → i + k = e → k < n → st.length + k ≤ 400 → stk st M → (∀ j, i ≤ j → j < e → M 209 (458 + 2 * j) = (c j).1 ∧ M 209 (459 + 2 * j) = (c j).2) → mRun c (sFx T (Int32.ofNat cl) (Int32.ofNat d)) k i st = some [v] → ∃ M', f_X11_holdsLine_23 N n (Int32.ofNat cl) (Int32.ofNat d) (Int32.ofNat st.length) (Int32.ofNat K) (Int32.ofNat i) M = some (if v = 1 then 1 else 0, M') ∧ ∀ x, x ≠ 216 → M' x = M x := by
  intro n
  induction n with
  | zero => intro k i st v M _ _ _ h; omega
  | succ n ih =>
    intro k i st v M hR h3 hik hk hl hs hcd hrun
    match k with
    | 0 =>
      rw [mRun] at hrun
      injection hrun with hrun
      subst hrun
      have k3 : Int32.ofNat K + 3 = Int32.ofNat (K + 3) := i32_addN K 3
      refine ⟨M, ?_, fun _ _ => rfl⟩
      exact m_hV1 N n _ _ _ _ _ (Int32.ofNat e) v M (by rw [k3]; exact inb_ofNat (by omega) (by omega)) (by rw [k3, i32_clampN (by omega)]; exact h3) (i32_len (by omega) (by omega)) (show ¬ Int32.ofNat 1 = 0 by decide) (hs 0 (Nat.zero_lt_succ _))
    | k + 1 =>
      rw [mRun] at hrun
      obtain ⟨x1, x2⟩ := hcd i (Nat.le_refl _) (by omega)
      cases e1 : mStp (sFx T (Int32.ofNat cl) (Int32.ofNat d)) (c i).1 (c i).2 st with
      | none => rw [e1] at hrun; exact nomatch hrun
      | some st' =>
        rw [e1] at hrun
        obtain ⟨M1, a1, a2, a3, a4⟩ := m_stp (N := N) (n := n) hR hc hd hK h3 (show i < e by omega) he x1 x2 hs (by omega) e1
        have e9 : M1 209 = M 209 := a3 209 (by decide)
        obtain ⟨M2, b1, b2⟩ := ih k (i + 1) st' v M1 (by rw [e9]; exact hR) (by rw [e9]; exact h3) (by omega) (by omega) (by omega) a2 (fun j h1 h2 => by rw [e9]; exact hcd j (by omega) h2) hrun
        exact ⟨M2, a1.trans b1, fun x hx => (b2 x hx).trans (a3 x hx)⟩
theorem m_hlU (N : Nat) (v1 v2 v3 s : Int32) (M : Mm) (h1 : inb (((410 : Int32) + (4 : Int32) * v1) + 2) 2107 = true) (h2 : M 209 (((410 : Int32) + (4 : Int32) * v1) + 2).toNatClampNeg = s) : f_X11_holdsLine N v1 v2 v3 M = f_X11_holdsLine_23 N N v2 v3 0 ((410 : Int32) + (4 : Int32) * v1) s M := by
  unfold f_X11_holdsLine
  rw [lt_e, grd_t h1, h2, lt_e]
/-- a line without a condition, and one with -/
theorem m_hl0 {N ln cl d s : Nat} (hN : 0 < N) (hln : ln < 12) (h2 : M 209 (412 + 4 * ln) = Int32.ofNat s) (h3 : M 209 (413 + 4 * ln) = Int32.ofNat s) : f_X11_holdsLine N (Int32.ofNat ln) (Int32.ofNat cl) (Int32.ofNat d) M = some (1, M) := by
  have k0 := m_lineAt ln
  have k2 : Int32.ofNat (410 + 4 * ln) + 2 = Int32.ofNat (412 + 4 * ln) := by rw [show Int32.ofNat (410 + 4 * ln) + 2 = Int32.ofNat (410 + 4 * ln + 2) from i32_addN _ 2, show 410 + 4 * ln + 2 = 412 + 4 * ln by omega]
  have k3 : Int32.ofNat (410 + 4 * ln) + 3 = Int32.ofNat (413 + 4 * ln) := by rw [show Int32.ofNat (410 + 4 * ln) + 3 = Int32.ofNat (410 + 4 * ln + 3) from i32_addN _ 3, show 410 + 4 * ln + 3 = 413 + 4 * ln by omega]
  rw [m_hlU N _ _ _ (Int32.ofNat s) M (by rw [k0, k2]; exact inb_ofNat (by omega) (by omega)) (by rw [k0, k2, i32_clampN (by omega)]; exact h2), k0]
  obtain ⟨n, rfl⟩ : ∃ n, N = n + 1 := ⟨N - 1, by omega⟩
  exact m_hV0 (n + 1) n _ _ _ _ (Int32.ofNat s) M (by rw [k3]; exact inb_ofNat (by omega) (by omega)) (by rw [k3, i32_clampN (by omega)]; exact h3) (Int32.le_refl _)
theorem m_hl1 {N ln cl d s e : Nat} {v : Int32} (hN : 401 < N) (hln : ln < 12) (hR : RW nd nc T L (M 209)) (hc : cl < nc) (hd : d < nd) (hse : s ≤ e) (he : e ≤ 400) (h2 : M 209 (412 + 4 * ln) = Int32.ofNat s) (h3 : M 209 (413 + 4 * ln) = Int32.ofNat e) (hcd : ∀ j, s ≤ j → j < e → M 209 (458 + 2 * j) = (c j).1 ∧ M 209 (459 + 2 * j) = (c j).2) (hrun : mRun c (sFx T (Int32.ofNat cl) (Int32.ofNat d)) (e - s) s [] = some [v]) : ∃ M', f_X11_holdsLine N (Int32.ofNat ln) (Int32.ofNat cl) (Int32.ofNat d) M = some (if v = 1 then 1 else 0, M') ∧ ∀ x, x ≠ 216 → M' x = M x := by
  have k0 := m_lineAt ln
  have k2 : Int32.ofNat (410 + 4 * ln) + 2 = Int32.ofNat (412 + 4 * ln) := by rw [show Int32.ofNat (410 + 4 * ln) + 2 = Int32.ofNat (410 + 4 * ln + 2) from i32_addN _ 2, show 410 + 4 * ln + 2 = 412 + 4 * ln by omega]
  rw [m_hlU N _ _ _ (Int32.ofNat s) M (by rw [k0, k2]; exact inb_ofNat (by omega) (by omega)) (by rw [k0, k2, i32_clampN (by omega)]; exact h2), k0]
  exact m_runM (N := N) (K := 410 + 4 * ln) hc hd (by omega) he N (e - s) s [] v M hR (by rw [show 410 + 4 * ln + 3 = 413 + 4 * ln by omega]; exact h3) (by omega) (by omega) (by rw [List.length_nil]; omega) (fun k hk => absurd hk (Nat.not_lt_zero k)) hcd hrun
end ML
