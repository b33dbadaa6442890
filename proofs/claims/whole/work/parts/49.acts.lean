/-! Acts: what is remembered. -/
theorem c_logcopy {N a0 a1 : Nat} {L : List Row} {M : Mm} (h : cLog a1 L M) (ha : a0 + 1 < a1 ∨ a1 + 1 < a0) : ∃ M', f_X4_copies N a0 a1 M = some (0, M') ∧ cLog a0 L M' ∧ ∀ x, x ≠ a0 → x ≠ a0 + 1 → M' x = M x := by
  obtain ⟨g1, g2, nx, g3, g4, g5⟩ := h
  unfold f_X4_copies
  simp only [lt]
  refine ⟨_, rfl, ⟨g1, ?_, nx, g3, ?_, fun k hk => ?_⟩, fun x h1 h2 => ?_⟩
  · rw [wr_nk (by decide), wr_eq, cpy_ne (by omega)]; exact g2
  · rw [wr_eq, wr_ne (by omega), cpy_ne (by omega)]; exact g4
  · rw [wr_ne (by omega), wr_ne (by omega), cpy_in (Nat.mod_lt _ (by decide))]; exact g5 k hk
  · funext j
    rw [wr_ne h1, wr_ne h1, cpy_ne h2]
theorem c_keeps {N a : Nat} {L : List Row} {M : Mm} (ha : 40 ≤ a) (h0 : tz (slc (a + 1) M)) (h1 : tz (slc 7 M)) (hL : cLog 37 L M) : ∃ M', f_X3_keeps N a 7 37 M = some (0, M') ∧ slc (a + 1) M' = slc 7 M ∧ cLog (a + 10) L M' ∧ ∀ x, (x < a + 1 ∨ a + 11 < x) → M' x = M x := by
  obtain ⟨M1, b1, b2, b3⟩ := c_copies (N := N) (a0 := a + 1) (a1 := 7) (M := M) (by omega) h0 h1
  obtain ⟨M2, c1, c2, c3⟩ := c_logcopy (N := N) (a0 := a + 10) (a1 := 37) (M := M1) (hL.frame (b3 _ (by omega)) (b3 _ (by omega))) (by omega)
  unfold f_X3_keeps
  rw [b1]
  simp only [bnd]
  rw [c1]
  refine ⟨M2, rfl, ?_, c2, fun x hx => by rw [c3 x (by omega) (by omega), b3 x (by omega)]⟩
  rw [slc_ex (fun i hi => c3 _ (by omega) (by omega))]; exact b2
theorem c_returns {N a : Nat} {L : List Row} {M : Mm} (ha : 40 ≤ a) (h0 : tz (slc (a + 1) M)) (h1 : tz (slc 7 M)) (hL : cLog (a + 10) L M) : ∃ M', f_X3_returns N a 7 37 M = some (0, M') ∧ slc 7 M' = slc (a + 1) M ∧ cLog 37 L M' ∧ ∀ x, (x < 7 ∨ 15 < x) → x ≠ 37 → x ≠ 38 → M' x = M x := by
  obtain ⟨M1, b1, b2, b3⟩ := c_copies (N := N) (a0 := 7) (a1 := a + 1) (M := M) (by omega) h1 h0
  obtain ⟨M2, c1, c2, c3⟩ := c_logcopy (N := N) (a0 := 37) (a1 := a + 10) (M := M1) (hL.frame (b3 _ (by omega)) (b3 _ (by omega))) (by omega)
  unfold f_X3_returns
  rw [b1]
  simp only [bnd]
  rw [c1]
  refine ⟨M2, rfl, ?_, c2, fun x hx h2 h3 => by rw [c3 x (by omega) (by omega), b3 x (by omega)]⟩
  rw [slc_ex (fun i hi => c3 _ (by omega) (by omega))]; exact b2
section AC
variable {A A' : TbS} {K : LwS} {ms : List TbS} {im : Option (TbS × LwS)} {tp : List Nat} {ft : Int32} {M M' : Mm}
theorem cI.up (h : cI A K ms im tp ft M) (hs : slc 7 M' = A'.2.2.1) (hL : cLog 37 A'.2.2.2 M') (hf : ∀ x, x < 208 → (x < 7 ∨ 15 < x) → x ≠ 37 → x ≠ 38 → ¬ sc9 x → M' x = M x) (h0 : ∀ j, j ≠ 16 → M' 0 j = M 0 j) (hz : tz (slc 16 M')) : cI A' K ms im tp ft M' := by
  obtain ⟨a1, a2, ⟨a3, a4⟩, a5, a6, a7, a8, -⟩ := h
  refine ⟨hs, hL, ⟨a3.frame (fun i hi => hf _ (by omega) (by omega) (by omega) (by omega) (by unfold sc9; omega)), ?_⟩, a5.fr (fun x h1 h2 => hf x h2 (by omega) (by omega) (by omega) (by unfold sc9; omega)) (h0 9 (by decide)) (h0 10 (by decide)), a6.fr (fun x h1 h2 => hf x (by omega) (by omega) (by omega) (by omega) (by unfold sc9; omega)) (h0 13 (by decide)), a7.fr (hf 1 (by omega) (by omega) (by omega) (by omega) (by unfold sc9; omega)) (hf 2 (by omega) (by omega) (by omega) (by omega) (by unfold sc9; omega)), ?_, hz⟩
  · rw [hf 25 (by omega) (by omega) (by omega) (by omega) (by unfold sc9; omega)]; exact a4
  · rw [h0 14 (by decide)]; exact a8
theorem mI.up (h : mI A K ms im tp ft M) (hO : lwOK K.2) (hR : rOK A' (M' 209)) (h3 : M' 209 3 = M 209 3) (hj : ∀ j, 409 ≤ j → M' 209 j = M 209 j) (h210 : M' 210 = M 210) (h213 : M' 213 = M 213) (h214 : M' 214 = M 214) (h208 : ∀ j, (j = 6 ∨ j = 7 ∨ j = 9 ∨ j = 14 ∨ j = 18) → M' 208 j = M 208 j) : mI A' K ms im tp ft M' := by
  obtain ⟨a1, ⟨a2, a3⟩, a4, a5, a6, a7, a8⟩ := h
  exact ⟨hR, ⟨a2.frame h3 (fun j x _ => hj j x) hO, h3.trans a3⟩, a4.fr (h208 7 (by omega)) h213, a5.fr (h208 6 (by omega)) h210, a6.fr (h208 9 (by omega)) h214, (h208 14 (by omega)).trans a7, (h208 18 (by omega)).trans a8⟩
theorem c_remember (h : cI A K ms im tp ft M) (ht : tz A.2.2.1) : ∃ M1, f_X10_remember 20000 M = some (0, M1) ∧ cI A K ((A :: ms).take 12) im tp ft M1 ∧ ∀ x, (x < 64 ∨ 207 < x) → x ≠ 0 → M1 x = M x := by
  obtain ⟨a1, a2, ⟨a3, a4⟩, ⟨b1, b2, b3, nm, b4, b5, b6⟩, a6, a7, a8, a9⟩ := h
  obtain ⟨M1, c1, c2, c3, c4⟩ := c_keeps (N := 20000) (a := 12 * nm + 64) (L := A.2.2.2) (M := M) (by omega) (by rw [show 12 * nm + 64 + 1 = 65 + 12 * nm from by omega]; exact b3 nm b4) (by rw [a1]; exact ht) a2
  have e9 : M1 0 9 = Int32.ofNat nm := by rw [c4 0 (by omega)]; exact b5
  have e10 : M1 0 10 = Int32.ofNat ms.length := by rw [c4 0 (by omega)]; exact b2
  unfold f_X10_remember
  rw [b5, if_neg (i32_nn (by omega)), if_neg (show ¬ (12 : Int32) ≤ Int32.ofNat nm from i32_nle (n := 12) b4 (by omega))]
  simp only [grd, inb_ofNat b4 (show nm < 2147483648 by omega), if_true, i32_clampN (show nm < 2147483648 by omega), c1, bnd, lt]
  rw [wr_nk (show (10 : Nat) ≠ 9 by decide), e9, e10, i32_succ, i32_succ, show (12 : Int32) = Int32.ofNat 12 from rfl, i32_remN (m := 12) (by omega) (by omega)]
  have h0 : ∀ v v' : Int32, ∀ x, x ≠ 0 → wr (wr M1 0 9 v) 0 10 v' x = M1 x := fun v v' x hx => by rw [wr_nrow hx, wr_nrow hx]
  refine ⟨_, rfl, ⟨?_, ?_, ⟨?_, ?_⟩, ⟨?_, ?_, ?_, (nm + 1) % 12, Nat.mod_lt _ (by decide), ?_, ?_⟩, ?_, ?_, ?_, ?_⟩, fun x hx hx0 => by rw [h0 _ _ x hx0, c4 x (by omega)]⟩
  · rw [slc_ex (M := M) (fun i hi => by rw [h0 _ _ _ (by omega), c4 _ (by omega)])]; exact a1
  · exact a2.frame (by rw [h0 _ _ _ (by omega), c4 _ (by omega)]) (by rw [h0 _ _ _ (by omega), c4 _ (by omega)])
  · exact a3.frame (fun i hi => by rw [h0 _ _ _ (by omega), c4 _ (by omega)])
  · rw [h0 _ _ _ (by omega), c4 _ (by omega)]; exact a4
  · rw [List.length_take]; omega
  · rw [wr_eq, List.length_take, List.length_cons]
    by_cases q : ms.length + 1 < 12
    · rw [if_pos (i32_ltn q (by omega)), Nat.min_eq_right (by omega)]
    · rw [if_neg (fun h9 => q ((i32_ltN (by omega) (by omega)).mp h9)), Nat.min_eq_left (by omega)]
  · intro j hj
    by_cases e : j = nm
    · subst e
      rw [slc_ex (M := M1) (fun i hi => h0 _ _ _ (by omega)), show 65 + 12 * j = 12 * j + 64 + 1 from by omega, c2, a1]; exact ht
    · rw [slc_ex (M := M) (fun i hi => by rw [h0 _ _ _ (by omega), c4 _ (by omega)])]; exact b3 j hj
  · rw [wr_nk (by decide), wr_eq]
  · intro i hi
    have hi12 : i < 12 ∧ i < ms.length + 1 := by rw [List.length_take, List.length_cons] at hi; omega
    rw [List.getElem_take]
    match i with
    | 0 =>
      rw [show ((nm + 1) % 12 + 11 - 0) % 12 = nm from by omega]
      refine ⟨?_, ?_⟩
      · rw [slc_ex (M := M1) (fun i hi => h0 _ _ _ (by omega)), show 65 + 12 * nm = 12 * nm + 64 + 1 from by omega, c2, a1]; rfl
      · rw [show 74 + 12 * nm = 12 * nm + 64 + 10 from by omega]
        exact c3.frame (h0 _ _ _ (by omega)) (h0 _ _ _ (by omega))
    | i + 1 =>
      rw [show ((nm + 1) % 12 + 11 - (i + 1)) % 12 = (nm + 11 - i) % 12 from by omega, List.getElem_cons_succ]
      have hne : (nm + 11 - i) % 12 ≠ nm := by omega
      have hlt : (nm + 11 - i) % 12 < 12 := Nat.mod_lt _ (by decide)
      refine ⟨?_, ?_⟩
      · rw [slc_ex (M := M) (fun i9 hi => by rw [h0 _ _ _ (by omega), c4 _ (by omega)])]
        exact (b6 i (by omega)).1
      · exact (b6 i (by omega)).2.frame (by rw [h0 _ _ _ (by omega), c4 _ (by omega)]) (by rw [h0 _ _ _ (by omega), c4 _ (by omega)])
  · exact a6.fr (fun x h1 h2 => by rw [h0 _ _ _ (by omega), c4 _ (by omega)]) (by rw [wr_nk (by decide), wr_nk (by decide), c4 0 (by omega)])
  · exact a7.fr (by rw [h0 _ _ _ (by omega), c4 _ (by omega)]) (by rw [h0 _ _ _ (by omega), c4 _ (by omega)])
  · rw [wr_nk (by decide), wr_nk (by decide), c4 0 (by omega)]; exact a8
  · rw [slc_ex (M := M) (fun i hi => by rw [h0 _ _ _ (by omega), c4 _ (by omega)])]; exact a9
theorem RW.cg {nd nc : Nat} {T : Tb} {L : List Row} {w w' : Nat → Int32} (h : RW nd nc T L w) (hw : ∀ j, j < 409 → w' j = w j) : RW nd nc T L w' := by
  obtain ⟨r0, r1, r2, r3, r4, r5, r6, r7⟩ := h
  have hnd := r0.1
  have hnc := r0.2.1
  refine ⟨?_, ?_, ?_, ?_, ?_, ?_, r6, r7⟩
  · unfold rHead; rw [hw 0 (by decide), hw 1 (by decide)]; exact r0
  · unfold rScal
    rw [hw 6 (by decide), hw 4 (by decide), hw 5 (by decide), hw 7 (by decide), hw 8 (by decide), hw 9 (by decide), hw 11 (by decide), hw 2 (by decide)]; exact r1
  · refine ⟨fun d hd => ?_, fun s hs => ?_⟩
    · rw [hw _ (by omega)]; exact r2.1 d hd
    · rcases r2.2 s hs with e | ⟨d, hd, e1, e2⟩
      · exact Or.inl e
      · exact Or.inr ⟨d, hd, e1, by rw [hw _ (by omega)]; exact e2⟩
  · intro d hd
    obtain ⟨b1, b2, b3⟩ := r3 d hd
    exact ⟨by rw [hw _ (by omega)]; exact b1, by rw [hw _ (by omega)]; exact b2, fun t ht => by rw [hw _ (by omega)]; exact b3 t ht⟩
  · intro c hc k hk
    rw [hw _ (by omega)]; exact r4 c hc k hk
  · obtain ⟨a1, a2, a3⟩ := r5
    refine ⟨a1, by rw [hw 10 (by decide)]; exact a2, fun k hk => ?_⟩
    rw [hw _ (by omega), hw _ (by omega), hw _ (by omega), hw _ (by omega), hw _ (by omega)]; exact a3 k hk
theorem m_rem_sh : ∀ (n k i : Nat) (M : Mm), i + k = 4499 → k < n → ∃ M', f_X11_remembers_11 20000 n (Int32.ofNat i) M = f_X11_remembers_55 20000 20000 0 M' ∧ (∀ j, M' 213 j = if i ≤ j ∧ j < 4499 then M 213 (j + 409) else M 213 j) ∧ ∀ x, x ≠ 213 → M' x = M x := by
  intro n
  induction n with
  | zero => intro k i M _ h; omega
  | succ n ih =>
    intro k i M hik hk
    rw [f_X11_remembers_11]
    match k with
    | 0 =>
      rw [if_pos (show (4499 : Int32) ≤ Int32.ofNat i from i32_len (k := 4499) (by omega) (by omega))]
      exact ⟨M, rfl, fun j => by rw [if_neg (by omega)], fun _ _ => rfl⟩
    | k + 1 =>
      rw [if_neg (show ¬ (4499 : Int32) ≤ Int32.ofNat i from i32_nle (n := 4499) (by omega) (by omega)), show Int32.ofNat i + (409 : Int32) = Int32.ofNat (i + 409) from i32_addN i 409]
      simp only [grd, lt, inb_ofNat (show i < 4908 by omega) (by omega), inb_ofNat (show i + 409 < 4908 by omega) (by omega), if_true, i32_clampN (show i < 2147483648 by omega), i32_clampN (show i + 409 < 2147483648 by omega), i32_succ]
      obtain ⟨M', a1, a2, a3⟩ := ih k (i + 1) (wr M 213 i (M 213 (i + 409))) (by omega) (by omega)
      refine ⟨M', a1, fun j => ?_, fun x hx => by rw [a3 x hx, wr_nrow hx]⟩
      rw [a2 j]
      by_cases e : j = i
      · subst e; rw [if_neg (by omega), if_pos (by omega), wr_eq]
      · rw [wr_nk e]
        by_cases e2 : i + 1 ≤ j ∧ j < 4499
        · rw [if_pos e2, if_pos (by omega), wr_nk (by omega)]
        · rw [if_neg e2, if_neg (by omega)]
theorem m_rem_cp {r : Nat} (hr : r < 12) : ∀ (n k i : Nat) (M : Mm), M 208 7 = Int32.ofNat (r + 1) → i + k = 409 → k < n → ∃ M', f_X11_remembers_55 20000 n (Int32.ofNat i) M = some (0, M') ∧ (∀ j, M' 213 j = if 409 * r + i ≤ j ∧ j < 409 * r + 409 then M 209 (j - 409 * r) else M 213 j) ∧ ∀ x, x ≠ 213 → M' x = M x := by
  intro n
  induction n with
  | zero => intro k i M _ _ h; omega
  | succ n ih =>
    intro k i M hM hik hk
    rw [f_X11_remembers_55]
    match k with
    | 0 =>
      rw [if_pos (show (409 : Int32) ≤ Int32.ofNat i from i32_len (k := 409) (by omega) (by omega))]
      exact ⟨M, rfl, fun j => by rw [if_neg (by omega)], fun _ _ => rfl⟩
    | k + 1 =>
      have e1 : (409 : Int32) * (Int32.ofNat (r + 1) - 1) + Int32.ofNat i = Int32.ofNat (409 * r + i) := by
        rw [← i32_succ, show Int32.ofNat r + 1 - 1 = Int32.ofNat r from by grind]
        show Int32.ofNat 409 * Int32.ofNat r + _ = _
        rw [i32_mulN, i32_addN]
      rw [if_neg (show ¬ (409 : Int32) ≤ Int32.ofNat i from i32_nle (n := 409) (by omega) (by omega)), hM, e1]
      simp only [grd, lt, inb_ofNat (show i < 2107 by omega) (by omega), inb_ofNat (show 409 * r + i < 4908 by omega) (by omega), if_true, i32_clampN (show i < 2147483648 by omega), i32_clampN (show 409 * r + i < 2147483648 by omega), i32_succ]
      obtain ⟨M', a1, a2, a3⟩ := ih k (i + 1) (wr M 213 (409 * r + i) (M 209 i)) (by rw [wr_ne (by decide)]; exact hM) (by omega) (by omega)
      refine ⟨M', a1, fun j => ?_, fun x hx => by rw [a3 x hx, wr_nrow hx]⟩
      rw [a2 j, wr_nrow (show (209 : Nat) ≠ 213 by decide)]
      by_cases e : j = 409 * r + i
      · subst e; rw [if_neg (by omega), if_pos (by omega), wr_eq]; congr 1; omega
      · rw [wr_nk e]
        by_cases e2 : 409 * r + (i + 1) ≤ j ∧ j < 409 * r + 409
        · rw [if_pos e2, if_pos (by omega)]
        · rw [if_neg e2, if_neg (by omega)]
theorem m_remember (h : mI A K ms im tp ft M) (hl : ms.length ≤ 12) : ∃ M1, f_X11_remembers 20000 M = some (0, M1) ∧ mI A K ((A :: ms).take 12) im tp ft M1 ∧ M1 209 = M 209 ∧ (∀ j, j ≠ 7 → M1 208 j = M 208 j) ∧ ∀ x, x ≠ 208 → x ≠ 213 → M1 x = M x := by
  obtain ⟨a1, ⟨a2, a3⟩, ⟨b1, b2⟩, a5, a6, a7, a8⟩ := h
  unfold f_X11_remembers
  rw [b1]
  by_cases q : ms.length = 12
  · rw [q, if_pos (show Int32.ofNat 12 = (12 : Int32) from rfl)]
    obtain ⟨M1, c1, c2, c3⟩ := m_rem_sh 20000 4499 0 M (by omega) (by omega)
    obtain ⟨M2, d1, d2, d3⟩ := m_rem_cp (r := 11) (by omega) 20000 409 0 M1 (by rw [c3 208 (by decide), b1, q]) (by omega) (by omega)
    have hx : ∀ x, x ≠ 213 → M2 x = M x := fun x hx => by rw [d3 x hx, c3 x hx]
    have hlen : ((A :: ms).take 12).length = 12 := by rw [List.length_take, List.length_cons]; omega
    refine ⟨M2, ?_, ⟨by rw [hx 209 (by decide)]; exact a1, ⟨a2.cg (hx 209 (by decide)), by rw [hx 209 (by decide)]; exact a3⟩, ⟨?_, fun i hi => ?_⟩, a5.fr (by rw [hx 208 (by decide)]) (hx 210 (by decide)), a6.fr (by rw [hx 208 (by decide)]) (hx 214 (by decide)), by rw [hx 208 (by decide)]; exact a7, by rw [hx 208 (by decide)]; exact a8⟩, hx 209 (by decide), fun j _ => by rw [hx 208 (by decide)], fun x _ h2 => hx x h2⟩
    · rw [show (0 : Int32) = Int32.ofNat 0 from rfl] at c1 ⊢
      rw [c1]; exact d1
    · rw [hx 208 (by decide), b1, hlen, q]
    · rw [hlen] at hi ⊢
      rw [List.getElem_take]
      match i with
      | 0 =>
        rw [List.getElem_cons_zero]
        refine ⟨RW.cg a1 (fun j hj => ?_), ?_⟩
        · rw [d2, if_pos (by omega), c3 209 (by decide), show 409 * (12 - 1 - 0) + j - 409 * 11 = j from by omega]
        · rw [d2, if_pos (by omega), c3 209 (by decide)]; exact a3
      | i + 1 =>
        rw [List.getElem_cons_succ]
        obtain ⟨e1, e2⟩ := b2 i (by omega)
        refine ⟨RW.cg e1 (fun j hj => ?_), ?_⟩
        · rw [d2, if_neg (by omega), c2, if_pos (by omega), show 409 * (12 - 1 - (i + 1)) + j + 409 = 409 * (ms.length - 1 - i) + j from by omega]
        · rw [d2, if_neg (by omega), c2, if_pos (by omega), show 409 * (12 - 1 - (i + 1)) + 3 + 409 = 409 * (ms.length - 1 - i) + 3 from by omega]; exact e2
  · rw [if_neg (show ¬ Int32.ofNat ms.length = (12 : Int32) from fun h9 => q ((i32_eqN (b := 12) (by omega) (by omega)).mp h9))]
    simp only [lt]
    rw [i32_succ]
    obtain ⟨M2, d1, d2, d3⟩ := m_rem_cp (r := ms.length) (by omega) 20000 409 0 (wr M 208 7 (Int32.ofNat (ms.length + 1))) wr_eq (by omega) (by omega)
    have hx : ∀ x, x ≠ 208 → x ≠ 213 → M2 x = M x := fun x h1 h2 => by rw [d3 x h2, wr_nrow h1]
    have h8 : ∀ j, j ≠ 7 → M2 208 j = M 208 j := fun j hj => by rw [d3 208 (by decide), wr_nk hj]
    have hlen : ((A :: ms).take 12).length = ms.length + 1 := by rw [List.length_take, List.length_cons]; omega
    refine ⟨M2, d1, ⟨by rw [hx 209 (by decide) (by decide)]; exact a1, ⟨a2.cg (hx 209 (by decide) (by decide)), by rw [hx 209 (by decide) (by decide)]; exact a3⟩, ⟨?_, fun i hi => ?_⟩, a5.fr (h8 6 (by decide)) (hx 210 (by decide) (by decide)), a6.fr (h8 9 (by decide)) (hx 214 (by decide) (by decide)), by rw [h8 14 (by decide)]; exact a7, by rw [h8 18 (by decide)]; exact a8⟩, hx 209 (by decide) (by decide), h8, hx⟩
    · rw [d3 208 (by decide), wr_eq, hlen]
    · rw [hlen] at hi ⊢
      rw [List.getElem_take]
      match i with
      | 0 =>
        rw [List.getElem_cons_zero]
        refine ⟨RW.cg a1 (fun j hj => ?_), ?_⟩
        · rw [d2, if_pos (by omega), wr_nrow (by decide), show 409 * (ms.length + 1 - 1 - 0) + j - 409 * ms.length = j from by omega]
        · rw [d2, if_pos (by omega), wr_nrow (by decide), show 409 * (ms.length + 1 - 1 - 0) + 3 - 409 * ms.length = 3 from by omega]; exact a3
      | i + 1 =>
        rw [List.getElem_cons_succ]
        obtain ⟨e1, e2⟩ := b2 i (by omega)
        refine ⟨RW.cg e1 (fun j hj => ?_), ?_⟩
        · rw [d2, if_neg (by omega), wr_nrow (by decide), show 409 * (ms.length + 1 - 1 - (i + 1)) + j = 409 * (ms.length - 1 - i) + j from by omega]
        · rw [d2, if_neg (by omega), wr_nrow (by decide), show 409 * (ms.length + 1 - 1 - (i + 1)) + 3 = 409 * (ms.length - 1 - i) + 3 from by omega]; exact e2
end AC
