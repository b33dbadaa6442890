/-! Changes of one number, in table and world at once. -/
theorem RW_cel {nd nc : Nat} {T : Tb} {L : List Row} {w : Nat → Int32} {c k : Nat} {v : Int32} (hR : RW nd nc T L w) (hc : c < nc) (hk : k < 5)
    (hb : (k = 0 → ∃ q, q < 10 ∧ v = Int32.ofNat q) ∧ (k = 1 → ∃ q, q < 6 ∧ v = Int32.ofNat q) ∧ (k = 2 → ∃ q, q ≤ 200 ∧ v = Int32.ofNat q) ∧ (k = 3 → ∃ q, q ≤ 9 ∧ v = Int32.ofNat q) ∧ (k = 4 → ∃ q, q ≤ 9 ∧ v = Int32.ofNat q)) :
    RW nd nc (wr T (4 + k) c v) L (updF w (84 + 5 * c + k) v) := by
  obtain ⟨r0, r1, r2, r3, r4, r5, r6, r7⟩ := hR
  have hnd := r0.1
  have hnc := r0.2.1
  have hlow : ∀ j, j < 84 → updF w (84 + 5 * c + k) v j = w j := fun j hj => updF_ne (by omega)
  have hrow : ∀ i, i < 4 → wr T (4 + k) c v i = T i := fun i hi => wr_nrow (by omega)
  refine ⟨?_, ?_, ?_, ?_, ?_, ?_, ?_, tz_wr r7 ?_⟩
  · unfold rHead
    rw [hrow 0 (by decide), hlow 0 (by decide), hlow 1 (by decide)]; exact r0
  · unfold rScal
    rw [hrow 0 (by decide), hlow 6 (by decide), hlow 4 (by decide), hlow 5 (by decide), hlow 7 (by decide), hlow 8 (by decide), hlow 9 (by decide), hlow 11 (by decide), hlow 2 (by decide)]; exact r1
  · unfold rSeat
    rw [hrow 1 (by decide)]
    refine ⟨fun d hd => ?_, fun s hs => ?_⟩
    · rw [hlow _ (by omega)]; exact r2.1 d hd
    · rcases r2.2 s hs with e | ⟨d, hd, e1, e2⟩
      · exact Or.inl e
      · exact Or.inr ⟨d, hd, e1, by rw [hlow _ (by omega)]; exact e2⟩
  · intro d hd
    obtain ⟨b1, b2, b3⟩ := r3 d hd
    refine ⟨by rw [hrow 2 (by decide), hlow _ (by omega)]; exact b1, ?_, fun t ht => by rw [hrow 3 (by decide), hlow _ (by omega)]; exact b3 t ht⟩
    rw [hlow _ (by omega), b2]
    unfold sDiet
    rw [hrow 0 (by decide)]
  · intro c9 hc9 k9 hk9
    by_cases e : c9 = c ∧ k9 = k
    · obtain ⟨rfl, rfl⟩ := e
      rw [wr_eq, updF_eq]
    · rw [updF_ne (by omega), r4 c9 hc9 k9 hk9]
      by_cases e2 : k9 = k
      · rw [wr_nk (by omega)]
      · rw [wr_ne (by omega)]
  · obtain ⟨a1, a2, a3⟩ := r5
    refine ⟨a1, by rw [hlow 10 (by decide)]; exact a2, fun j hj => ?_⟩
    rw [updF_ne (by omega), updF_ne (by omega), updF_ne (by omega), updF_ne (by omega), updF_ne (by omega)]
    exact a3 j hj
  · obtain ⟨a1, a2, a3, a4, a5⟩ := r6
    unfold rB
    rw [hrow 0 (by decide), hrow 2 (by decide), hrow 3 (by decide)]
    refine ⟨a1, a2, a3, a4, fun c9 hc9 => ?_⟩
    obtain ⟨b1, b2, b3, b4, b5⟩ := a5 c9 hc9
    by_cases e : c9 = c
    · subst e
      refine ⟨?_, ?_, ?_, ?_, ?_⟩
      · by_cases q : k = 0
        · subst q; rw [show 4 + 0 = 4 from rfl, wr_eq]; exact hb.1 rfl
        · rw [wr_ne (by omega)]; exact b1
      · by_cases q : k = 1
        · subst q; rw [show 4 + 1 = 5 from rfl, wr_eq]; exact hb.2.1 rfl
        · rw [wr_ne (by omega)]; exact b2
      · by_cases q : k = 2
        · subst q; rw [show 4 + 2 = 6 from rfl, wr_eq]; exact hb.2.2.1 rfl
        · rw [wr_ne (by omega)]; exact b3
      · by_cases q : k = 3
        · subst q; rw [show 4 + 3 = 7 from rfl, wr_eq]; exact hb.2.2.2.1 rfl
        · rw [wr_ne (by omega)]; exact b4
      · by_cases q : k = 4
        · subst q; rw [show 4 + 4 = 8 from rfl, wr_eq]; exact hb.2.2.2.2 rfl
        · rw [wr_ne (by omega)]; exact b5
    · rw [wr_nk e, wr_nk e, wr_nk e, wr_nk e, wr_nk e]
      exact ⟨b1, b2, b3, b4, b5⟩
  · match k, hk with
    | 0, _ | 1, _ | 2, _ | 3, _ | 4, _ => show c < 5; omega
def ix (j : Nat) : Nat := match j with
  | 3 => 6
  | 4 => 4
  | 5 => 5
  | 6 => 7
  | 7 => 8
  | 8 => 9
  | 9 => 11
  | _ => 2
theorem RW_sc {nd nc : Nat} {T : Tb} {L : List Row} {w : Nat → Int32} {j : Nat} {v : Int32} (hR : RW nd nc T L w) (hj : 3 ≤ j ∧ j ≤ 10)
    (hb : (j = 4 → ∃ q, q < 12 ∧ v = Int32.ofNat q) ∧ (j = 5 → ∃ q, q ≤ 9999 ∧ v = Int32.ofNat q) ∧ (j = 8 → ∃ q, q ≤ 9999 ∧ v = Int32.ofNat q)) :
    RW nd nc (wr T 0 j v) L (updF w (ix j) v) := by
  obtain ⟨r0, r1, r2, r3, r4, r5, r6, r7⟩ := hR
  have hnd := r0.1
  have hnc := r0.2.1
  have hj' : j = 3 ∨ j = 4 ∨ j = 5 ∨ j = 6 ∨ j = 7 ∨ j = 8 ∨ j = 9 ∨ j = 10 := by omega
  have hix : ix j = 2 ∨ ix j = 4 ∨ ix j = 5 ∨ ix j = 6 ∨ ix j = 7 ∨ ix j = 8 ∨ ix j = 9 ∨ ix j = 11 := by
    rcases hj' with rfl | rfl | rfl | rfl | rfl | rfl | rfl | rfl <;> decide
  have hhi : ∀ i, 12 ≤ i ∨ i = 0 ∨ i = 1 ∨ i = 10 ∨ i = 3 → updF w (ix j) v i = w i := fun i hi => updF_ne (by omega)
  have hrow : ∀ i, i ≠ 0 → wr T 0 j v i = T i := fun i hi => wr_nrow hi
  refine ⟨?_, ?_, ?_, ?_, ?_, ?_, ?_, tz_wr r7 (show j < 11 by omega)⟩
  · unfold rHead
    rw [wr_nk (by omega), wr_nk (by omega), hhi 0 (by omega), hhi 1 (by omega)]; exact r0
  · obtain ⟨s1, s2, s3, s4, s5, s6, s7, s8⟩ := r1
    unfold rScal
    rcases hj' with rfl | rfl | rfl | rfl | rfl | rfl | rfl | rfl <;> simp (disch := decide) only [ix, wr_eq, wr_nk, updF_eq, updF_ne, s1, s2, s3, s4, s5, s6, s7, s8, and_self]
  · unfold rSeat
    rw [hrow 1 (by decide)]
    refine ⟨fun d hd => ?_, fun s hs => ?_⟩
    · rw [hhi _ (by omega)]; exact r2.1 d hd
    · rcases r2.2 s hs with e | ⟨d, hd, e1, e2⟩
      · exact Or.inl e
      · exact Or.inr ⟨d, hd, e1, by rw [hhi _ (by omega)]; exact e2⟩
  · intro d hd
    obtain ⟨b1, b2, b3⟩ := r3 d hd
    refine ⟨by rw [hrow 2 (by decide), hhi _ (by omega)]; exact b1, ?_, fun t ht => by rw [hrow 3 (by decide), hhi _ (by omega)]; exact b3 t ht⟩
    rw [hhi _ (by omega), b2]
    unfold sDiet
    rw [wr_nk (by omega)]
  · intro c9 hc9 k9 hk9
    rw [hhi _ (by omega), hrow _ (by omega)]; exact r4 c9 hc9 k9 hk9
  · obtain ⟨a1, a2, a3⟩ := r5
    refine ⟨a1, by rw [hhi 10 (by omega)]; exact a2, fun i hi => ?_⟩
    rw [hhi _ (by omega), hhi _ (by omega), hhi _ (by omega), hhi _ (by omega), hhi _ (by omega)]
    exact a3 i hi
  · obtain ⟨a1, a2, a3, a4, a5⟩ := r6
    unfold rB
    rw [hrow 2 (by decide), hrow 3 (by decide), hrow 4 (by decide), hrow 5 (by decide), hrow 6 (by decide), hrow 7 (by decide), hrow 8 (by decide)]
    refine ⟨?_, ?_, ?_, a4, a5⟩
    · by_cases q : j = 4
      · subst q; rw [wr_eq]; exact hb.1 rfl
      · rw [wr_nk (by omega)]; exact a1
    · by_cases q : j = 5
      · subst q; rw [wr_eq]; exact hb.2.1 rfl
      · rw [wr_nk (by omega)]; exact a2
    · by_cases q : j = 8
      · subst q; rw [wr_eq]; exact hb.2.2 rfl
      · rw [wr_nk (by omega)]; exact a3
