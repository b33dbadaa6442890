/-! A word of the list stands where the reference finds it. -/
section WX
variable {tp : List Nat} {q e : Nat}
theorem wM_iff : ∀ (wd : List Nat) (s : Nat), wM tp e wd s = true ↔ e = s + wd.length ∧ ∀ j, j < wd.length → tf tp (s + j) = wd.getD j 0 := by
  intro wd
  induction wd with
  | nil =>
    intro s
    rw [wM]
    constructor
    · intro h
      exact ⟨(of_decide_eq_true h).symm, fun j hj => absurd hj (Nat.not_lt_zero j)⟩
    · intro h
      exact decide_eq_true h.1.symm
  | cons c wd ih =>
    intro s
    rw [wM, Bool.and_eq_true, ih (s + 1)]
    constructor
    · intro ⟨h1, h2, h3⟩
      have h0 := of_decide_eq_true h1
      refine ⟨by rw [List.length_cons]; omega, fun j hj => ?_⟩
      match j with
      | 0 => exact h0.2
      | j + 1 =>
        rw [show s + (j + 1) = s + 1 + j by omega]
        exact h3 j (by rw [List.length_cons] at hj; omega)
    · intro ⟨h1, h2⟩
      rw [List.length_cons] at h1 h2
      refine ⟨decide_eq_true ⟨by omega, h2 0 (by omega)⟩, by omega, fun j hj => ?_⟩
      rw [show s + 1 + j = s + (j + 1) by omega]
      exact h2 (j + 1) (by omega)
theorem wQ_iff {i : Nat} : ∀ (k j : Nat), wQ tp i q k j = true ↔ ∀ x, j ≤ x → x < j + k → tf tp (q + x) = (wN i).getD x 0 := by
  intro k
  induction k with
  | zero => intro j; exact ⟨fun _ x h1 h2 => by omega, fun _ => rfl⟩
  | succ k ih =>
    intro j
    rw [wQ, Bool.and_eq_true, ih (j + 1)]
    constructor
    · intro ⟨h1, h2⟩ x hx1 hx2
      by_cases c : x = j
      · subst c; exact of_decide_eq_true h1
      · exact h2 x (by omega) (by omega)
    · intro h
      exact ⟨decide_eq_true (h j (Nat.le_refl _) (by omega)), fun x h1 h2 => h x (by omega) (by omega)⟩
theorem wM_wE {i : Nat} : wM tp e (wN i) q = wE tp i q e := by
  rw [Bool.eq_iff_iff, wM_iff]
  unfold wE
  rw [Bool.and_eq_true, wQ_iff, decide_eq_true_iff]
  constructor
  · intro ⟨h1, h2⟩
    exact ⟨h1, fun x _ hx => h2 x (by omega)⟩
  · intro ⟨h1, h2⟩
    exact ⟨h1, fun j hj => h2 j (by omega) (by omega)⟩
end WX
