/-! Which word stands at a place: its kind is its number in the list. -/
theorem ixs_d : ∀ a, a < 21 → ∀ b, b < 21 → wN (ixs.getD a 0) = wN (ixs.getD b 0) → a = b := by decide +kernel
theorem ixs_l : ∀ k, k < 21 → 2 ≤ (wN (ixs.getD k 0)).length := by decide +kernel
section KI
variable {tp : List Nat} {q e : Nat}
theorem wF_ge : ∀ (l : List Nat) (w : Nat), wF tp q e l w = 302 ∨ (w ≤ wF tp q e l w ∧ wF tp q e l w < w + l.length) := by
  intro l
  induction l with
  | nil => intro w; exact Or.inl rfl
  | cons i r ih =>
    intro w
    rw [wF, List.length_cons]
    by_cases c : wE tp i q e = true
    · rw [if_pos c]; exact Or.inr ⟨Nat.le_refl _, by omega⟩
    · rw [if_neg c]
      rcases ih (w + 1) with h | h
      · exact Or.inl h
      · exact Or.inr ⟨by omega, by omega⟩
theorem wF_inv : ∀ (l : List Nat) (w k : Nat), k < l.length → w + l.length ≤ 302 → wF tp q e l w = w + k → wE tp (l.getD k 0) q e = true := by
  intro l
  induction l with
  | nil => intro w k h; exact absurd h (Nat.not_lt_zero k)
  | cons i r ih =>
    intro w k hk hw h
    rw [List.length_cons] at hk hw
    rw [wF] at h
    by_cases c : wE tp i q e = true
    · rw [if_pos c] at h
      have e0 : k = 0 := by omega
      subst e0
      rw [List.getD_cons_zero]
      exact c
    · rw [if_neg c] at h
      match k with
      | 0 =>
        rcases wF_ge (tp := tp) (q := q) (e := e) r (w + 1) with h2 | h2
        · omega
        · omega
      | k + 1 =>
        rw [List.getD_cons_succ]
        exact ih (w + 1) k (by omega) (by omega) (by omega)
theorem wF_hit : ∀ (l : List Nat) (w k : Nat), k < l.length → wE tp (l.getD k 0) q e = true → (∀ j, j < k → ¬ wE tp (l.getD j 0) q e = true) → wF tp q e l w = w + k := by
  intro l
  induction l with
  | nil => intro w k h; exact absurd h (Nat.not_lt_zero k)
  | cons i r ih =>
    intro w k hk h1 h2
    rw [List.length_cons] at hk
    rw [wF]
    match k with
    | 0 =>
      rw [List.getD_cons_zero] at h1
      rw [if_pos h1, Nat.add_zero]
    | k + 1 =>
      rw [List.getD_cons_succ] at h1
      have h0 := h2 0 (by omega)
      rw [List.getD_cons_zero] at h0
      rw [if_neg h0, ih (w + 1) k (by omega) h1 (fun j hj => by
        have h9 := h2 (j + 1) (by omega)
        rw [List.getD_cons_succ] at h9
        exact h9)]
      omega
theorem wE_len {i : Nat} (h : wE tp i q e = true) : e = q + (wN i).length := by
  rw [← wM_wE, wM_iff] at h
  exact h.1
theorem wE_eq {i j : Nat} (h1 : wE tp i q e = true) (h2 : wE tp j q e = true) : wN i = wN j := by
  rw [← wM_wE, wM_iff] at h1 h2
  obtain ⟨a1, a2⟩ := h1
  obtain ⟨b1, b2⟩ := h2
  refine List.ext_getElem (by omega) (fun n hn hm => ?_)
  have x1 := a2 n hn
  have x2 := b2 n hm
  rw [x1, List.getD_eq_getElem?_getD, List.getD_eq_getElem?_getD, List.getElem?_eq_getElem hn, List.getElem?_eq_getElem hm, Option.getD_some, Option.getD_some] at x2
  exact x2
theorem kW {k : Nat} (hT : tX tp) (hk : k < 21) : kd9 tp q = 256 + k ↔ wE tp (ixs.getD k 0) q (rn isL9 tp q) = true := by
  have hl4 := hT.1
  have h2 := ixs_l k hk
  have hlen : wE tp (ixs.getD k 0) q (rn isL9 tp q) = true → rn isL9 tp q = q + (wN (ixs.getD k 0)).length := wE_len
  by_cases c1 : q < tp.length
  · by_cases c2 : isL9 (tf tp q) = true
    · obtain ⟨k1, -, -⟩ := ev_L c1 c2
      rw [k1]
      by_cases c3 : rn isL9 tp q = q + 1 ∧ tf tp q < 103
      · rw [if_pos c3]
        constructor
        · intro h; omega
        · intro h; have := hlen h; omega
      · rw [if_neg c3, wo_eq (Nat.le_trans ((rn_le (tp := tp) (pr := isL9) _ q rfl).2 (by omega)) hl4)]
        constructor
        · intro h; exact wF_inv ixs 256 k hk (by decide) h
        · intro h
          refine wF_hit ixs 256 k hk h (fun j hj h9 => ?_)
          have := ixs_d j (by omega) k hk (wE_eq h9 h)
          omega
    · have e : rn isL9 tp q = q := rn_n (fun h9 => c2 h9.2)
      have hn : ¬ kd9 tp q = 256 + k := by
        by_cases c3 : isD9 (tf tp q) = true
        · obtain ⟨k1, -, -⟩ := ev_D c1 c3
          rw [k1]
          by_cases c4 : rn isD9 tp q ≤ q + 3
          · rw [if_pos c4]; omega
          · rw [if_neg c4]; omega
        · obtain ⟨k1, -, -⟩ := ev_S c1 c2 c3
          rw [k1]
          have := hT.2 q; omega
      constructor
      · intro h; exact absurd h hn
      · intro h; have := hlen h; omega
  · have e : rn isL9 tp q = q := rn_n (fun h9 => c1 h9.1)
    constructor
    · intro h
      unfold kd9 at h
      rw [if_pos (by omega)] at h
      omega
    · intro h; have := hlen h; omega
/-- no kind is above 303, and 303 is the end -/
theorem kd_le (hT : tX tp) : kd9 tp q ≤ 303 ∧ (kd9 tp q = 303 ↔ tp.length ≤ q) := by
  have hl4 := hT.1
  by_cases c1 : q < tp.length
  · have hx : kd9 tp q ≤ 302 := by
      by_cases c2 : isL9 (tf tp q) = true
      · obtain ⟨k1, -, -⟩ := ev_L c1 c2
        rw [k1]
        by_cases c3 : rn isL9 tp q = q + 1 ∧ tf tp q < 103
        · rw [if_pos c3]; omega
        · rw [if_neg c3, wo_eq (Nat.le_trans ((rn_le (tp := tp) (pr := isL9) _ q rfl).2 (by omega)) hl4)]
          have e21 : ixs.length = 21 := rfl
          rcases wF_ge (tp := tp) (q := q) (e := rn isL9 tp q) ixs 256 with h | h
          · omega
          · omega
      · by_cases c3 : isD9 (tf tp q) = true
        · obtain ⟨k1, -, -⟩ := ev_D c1 c3
          rw [k1]
          by_cases c4 : rn isD9 tp q ≤ q + 3
          · rw [if_pos c4]; omega
          · rw [if_neg c4]; omega
        · obtain ⟨k1, -, -⟩ := ev_S c1 c2 c3
          rw [k1]
          have := hT.2 q; omega
    exact ⟨by omega, by omega, by omega⟩
  · have hx : kd9 tp q = 303 := by
      unfold kd9
      rw [if_pos (by omega)]
    exact ⟨by omega, by omega, by omega⟩
/-- a letter's kind -/
theorem kd_300 (hT : tX tp) : kd9 tp q = 300 ↔ (q < tp.length ∧ isL9 (tf tp q) = true ∧ rn isL9 tp q = q + 1 ∧ tf tp q < 103) := by
  have hl4 := hT.1
  by_cases c1 : q < tp.length
  · by_cases c2 : isL9 (tf tp q) = true
    · obtain ⟨k1, -, -⟩ := ev_L c1 c2
      rw [k1]
      by_cases c3 : rn isL9 tp q = q + 1 ∧ tf tp q < 103
      · rw [if_pos c3]
        exact ⟨fun _ => ⟨c1, c2, c3⟩, fun _ => rfl⟩
      · rw [if_neg c3, wo_eq (Nat.le_trans ((rn_le (tp := tp) (pr := isL9) _ q rfl).2 (by omega)) hl4)]
        have e21 : ixs.length = 21 := rfl
        constructor
        · intro h
          rcases wF_ge (tp := tp) (q := q) (e := rn isL9 tp q) ixs 256 with h9 | h9
          · omega
          · omega
        · intro h; exact absurd h.2.2 c3
    · constructor
      · intro h
        by_cases c3 : isD9 (tf tp q) = true
        · obtain ⟨k1, -, -⟩ := ev_D c1 c3
          rw [k1] at h
          by_cases c4 : rn isD9 tp q ≤ q + 3
          · rw [if_pos c4] at h; omega
          · rw [if_neg c4] at h; omega
        · obtain ⟨k1, -, -⟩ := ev_S c1 c2 c3
          rw [k1] at h
          have := hT.2 q; omega
      · intro h; exact absurd h.2.1 c2
  · constructor
    · intro h
      unfold kd9 at h
      rw [if_pos (by omega)] at h
      omega
    · intro h; exact absurd h.1 c1
/-- a number's kind -/
theorem kd_301 (hT : tX tp) : kd9 tp q = 301 ↔ (q < tp.length ∧ isD9 (tf tp q) = true ∧ rn isD9 tp q ≤ q + 3) := by
  have hl4 := hT.1
  by_cases c1 : q < tp.length
  · by_cases c3 : isD9 (tf tp q) = true
    · obtain ⟨k1, -, -⟩ := ev_D c1 c3
      rw [k1]
      by_cases c4 : rn isD9 tp q ≤ q + 3
      · rw [if_pos c4]; exact ⟨fun _ => ⟨c1, c3, c4⟩, fun _ => rfl⟩
      · rw [if_neg c4]
        constructor
        · intro h; omega
        · intro h; exact absurd h.2.2 c4
    · constructor
      · intro h
        by_cases c2 : isL9 (tf tp q) = true
        · obtain ⟨k1, -, -⟩ := ev_L c1 c2
          rw [k1] at h
          have e21 : ixs.length = 21 := rfl
          by_cases c5 : rn isL9 tp q = q + 1 ∧ tf tp q < 103
          · rw [if_pos c5] at h; omega
          · rw [if_neg c5, wo_eq (Nat.le_trans ((rn_le (tp := tp) (pr := isL9) _ q rfl).2 (by omega)) hl4)] at h
            rcases wF_ge (tp := tp) (q := q) (e := rn isL9 tp q) ixs 256 with h9 | h9
            · omega
            · omega
        · obtain ⟨k1, -, -⟩ := ev_S c1 c2 c3
          rw [k1] at h
          have := hT.2 q; omega
      · intro h; exact absurd h.2.1 c3
  · constructor
    · intro h
      unfold kd9 at h
      rw [if_pos (by omega)] at h
      omega
    · intro h; exact absurd h.1 c1
/-- a sign's kind -/
theorem kd_sign (hT : tX tp) {c : Nat} (hc : c < 128) (hl : ¬ isL9 c = true) (hd : ¬ isD9 c = true) : kd9 tp q = c ↔ (q < tp.length ∧ tf tp q = c) := by
  have hl4 := hT.1
  by_cases c1 : q < tp.length
  · by_cases c2 : isL9 (tf tp q) = true
    · have hne : ¬ tf tp q = c := fun h9 => hl (by rw [← h9]; exact c2)
      obtain ⟨k1, -, -⟩ := ev_L c1 c2
      have e21 : ixs.length = 21 := rfl
      constructor
      · intro h
        rw [k1] at h
        by_cases c5 : rn isL9 tp q = q + 1 ∧ tf tp q < 103
        · rw [if_pos c5] at h; omega
        · rw [if_neg c5, wo_eq (Nat.le_trans ((rn_le (tp := tp) (pr := isL9) _ q rfl).2 (by omega)) hl4)] at h
          rcases wF_ge (tp := tp) (q := q) (e := rn isL9 tp q) ixs 256 with h9 | h9
          · omega
          · omega
      · intro h; exact absurd h.2 hne
    · by_cases c3 : isD9 (tf tp q) = true
      · have hne : ¬ tf tp q = c := fun h9 => hd (by rw [← h9]; exact c3)
        obtain ⟨k1, -, -⟩ := ev_D c1 c3
        constructor
        · intro h
          rw [k1] at h
          by_cases c4 : rn isD9 tp q ≤ q + 3
          · rw [if_pos c4] at h; omega
          · rw [if_neg c4] at h; omega
        · intro h; exact absurd h.2 hne
      · obtain ⟨k1, -, -⟩ := ev_S c1 c2 c3
        rw [k1]
        exact ⟨fun h => ⟨c1, h⟩, fun h => h.2⟩
  · constructor
    · intro h
      unfold kd9 at h
      rw [if_pos (by omega)] at h
      omega
    · intro h; exact absurd h.1 c1
end KI
