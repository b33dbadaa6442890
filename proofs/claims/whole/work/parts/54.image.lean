/-! A law copied; the image kept and gone back to. -/
theorem c_holds_tr {N b b' : Nat} {M M' : Mm} (hc : ∀ i, i < 400 → M' (b' + 5) i = M (b + 5) i) (hx : ∀ k, k < 9 → M' 40 k = M 40 k) : ∀ (n : Nat) (v2 v4 v5 v6 v7 r : Int32), f_X1_holds_16 N b n v2 v4 v5 v6 v7 M = some (r, M) → f_X1_holds_16 N b' n v2 v4 v5 v6 v7 M' = some (r, M') := by
  intro n
  induction n with
  | zero => intro v2 v4 v5 v6 v7 r h; cases h
  | succ n ih =>
    intro v2 v4 v5 v6 v7 r h
    have h307 : f_X1_holds_307 N b v4 M = some (r, M) → f_X1_holds_307 N b' v4 M' = some (r, M') := fun h9 => by
      unfold f_X1_holds_307 at h9 ⊢
      by_cases q : (v4 &&& (1 : Int32)) = 1
      · rw [if_pos q] at h9 ⊢
        cases h9; rfl
      · rw [if_neg q] at h9 ⊢
        cases h9; rfl
    rw [f_X1_holds_16] at h ⊢
    by_cases q1 : v2 ≤ v7
    · rw [if_pos q1] at h ⊢; exact h307 h
    · rw [if_neg q1] at h ⊢
      by_cases q2 : (400 : Int32) ≤ v7
      · rw [if_pos q2] at h ⊢; exact h307 h
      · rw [if_neg q2] at h ⊢
        by_cases q3 : inb v7 400 = true
        · have hlt : v7.toNatClampNeg < 400 := by
            unfold inb at q3
            simp at q3
            exact q3.2
          simp only [grd, q3, if_true, lt, hc _ hlt, hx 7 (by decide), hx 2 (by decide), hx 3 (by decide), f_X1_holds_158, f_X1_holds_183, f_X1_holds_208, f_X1_holds_234, f_X1_holds_271] at h ⊢
          by_cases c1 : (1000 : Int32) ≤ M (b + 5) v7.toNatClampNeg
          · simp only [if_pos c1] at h ⊢
            by_cases c2 : M (b + 5) v7.toNatClampNeg = 1001
            · simp only [if_pos c2] at h ⊢; exact ih _ _ _ _ _ _ h
            · simp only [if_neg c2] at h ⊢
              by_cases c3 : M (b + 5) v7.toNatClampNeg = 1002
              · simp only [if_pos c3] at h ⊢
                by_cases c4 : v6 ≤ v5
                · simp only [if_pos c4] at h ⊢; exact ih _ _ _ _ _ _ h
                · simp only [if_neg c4] at h ⊢; exact ih _ _ _ _ _ _ h
              · simp only [if_neg c3] at h ⊢
                by_cases c5 : M (b + 5) v7.toNatClampNeg = 1003
                · simp only [if_pos c5] at h ⊢
                  by_cases c4 : v5 ≤ v6
                  · simp only [if_pos c4] at h ⊢; exact ih _ _ _ _ _ _ h
                  · simp only [if_neg c4] at h ⊢; exact ih _ _ _ _ _ _ h
                · simp only [if_neg c5] at h ⊢
                  by_cases c6 : M (b + 5) v7.toNatClampNeg = 1259
                  · simp only [if_pos c6] at h ⊢
                    by_cases c4 : M 40 7 = 0
                    · simp only [if_pos c4] at h ⊢; exact ih _ _ _ _ _ _ h
                    · simp only [if_neg c4] at h ⊢; exact ih _ _ _ _ _ _ h
                  · simp only [if_neg c6] at h ⊢
                    by_cases c7 : M (b + 5) v7.toNatClampNeg = 1272
                    · simp only [if_pos c7] at h ⊢; exact ih _ _ _ _ _ _ h
                    · simp only [if_neg c7] at h ⊢
                      by_cases c8 : M (b + 5) v7.toNatClampNeg = 1273
                      · simp only [if_pos c8] at h ⊢
                        by_cases c4 : (v4 &&& (1 : Int32)) = 1
                        · simp only [if_pos c4] at h ⊢; exact ih _ _ _ _ _ _ h
                        · simp only [if_neg c4] at h ⊢; exact ih _ _ _ _ _ _ h
                      · simp only [if_neg c8] at h ⊢
                        by_cases c9 : M (b + 5) v7.toNatClampNeg = 1274
                        · simp only [if_pos c9] at h ⊢; exact ih _ _ _ _ _ _ h
                        · simp only [if_neg c9] at h ⊢
                          by_cases c10 : M (b + 5) v7.toNatClampNeg = 1275
                          · simp only [if_pos c10] at h ⊢
                            by_cases c4 : M 40 2 < M 40 3
                            · simp only [if_pos c4] at h ⊢; exact ih _ _ _ _ _ _ h
                            · simp only [if_neg c4] at h ⊢; exact ih _ _ _ _ _ _ h
                          · simp only [if_neg c10] at h ⊢
                            have hp : ∀ x6, ∃ z, f_X1_part N x6 M = some (z, M) ∧ f_X1_part N x6 M' = some (z, M') := fun x6 => by
                              unfold f_X1_part
                              rw [hx 0 (by decide), hx 2 (by decide), hx 1 (by decide), hx 3 (by decide), hx 6 (by decide), hx 5 (by decide)]
                              repeat (first | (split; exact ⟨_, rfl, rfl⟩) | exact ⟨_, rfl, rfl⟩)
                            obtain ⟨z, p1, p2⟩ := hp (M (b + 5) v7.toNatClampNeg)
                            rw [p1] at h
                            rw [p2]
                            simp only [bnd] at h ⊢
                            exact ih _ _ _ _ _ _ h
          · simp only [if_neg c1] at h ⊢; exact ih _ _ _ _ _ _ h
        · simp only [grd, if_neg q3] at h
          cases h
theorem c_law_tr {b b' : Nat} {W : Lw} {M M' : Mm} (h : cLaw b W M) (hb : b + 5 < 40) (h1 : M' b' 1 = M b 1) (ha : ∀ k, 1 ≤ k → k < 5 → ∀ i, i < 12 → M' (b' + k) i = M (b + k) i) (hc : ∀ i, i < 400 → M' (b' + 5) i = M (b + 5) i) : cLaw b' W M' := by
  obtain ⟨g1, g2, g3⟩ := h
  refine ⟨g1, h1.trans g2, fun i hi => ?_⟩
  obtain ⟨k1, k2, k3⟩ := g3 i hi
  refine ⟨by rw [ha 1 (by decide) (by decide) i (by omega)]; exact k1, by rw [ha 2 (by decide) (by decide) i (by omega)]; exact k2, fun M2 hM2 => ?_⟩
  have h9 := k3 (fun x => if x = 40 then M2 40 else M x) (if_neg (by omega))
  rw [ha 3 (by decide) (by decide) i (by omega), ha 4 (by decide) (by decide) i (by omega)]
  unfold f_X1_holds lt at h9 ⊢
  have hfx : fxM (fun x => if x = 40 then M2 40 else M x) = fxM M2 := by
    funext k; unfold fxM; simp
  rw [hfx] at h9
  exact c_holds_tr (b := b) (b' := b') (M := fun x => if x = 40 then M2 40 else M x) (M' := M2) (fun j hj => by
    rw [hM2, hc j hj, if_neg (by omega)]) (fun k _ => by rw [if_pos rfl]) _ _ _ _ _ _ _ h9
theorem c_lawcopy {N b b' : Nat} {W : Lw} {M : Mm} {tl : Bool} (h : cLaw b W M) (ht : M b 0 = b2i tl) (hb : b + 5 < 61 ∧ b + 5 ≠ 40 ∧ (b + 5 < 40 ∨ 40 < b)) (hbb : b + 5 < b' ∨ b' + 5 < b) : ∃ M', f_X1_copies N b' b M = some (0, M') ∧ cLaw b' W M' ∧ M' b' 0 = b2i tl ∧ ∀ x, (x < b' ∨ b' + 5 < x) → M' x = M x := by
  have hib : isb (M b 0) = true := by rw [ht]; cases tl <;> decide
  unfold f_X1_copies
  simp only [grd, hib, if_true, lt]
  refine ⟨_, rfl, ?_, ?_, fun x hx => ?_⟩
  · have ha : ∀ k, 1 ≤ k → k < 5 → ∀ i, i < 12 → (cpy (cpy (cpy (cpy (cpy (wr (wr (wr M b' 0 (M b 0)) b' 1 ((wr M b' 0 (M b 0)) b 1)) b' 2 ((wr (wr M b' 0 (M b 0)) b' 1 ((wr M b' 0 (M b 0)) b 1)) b 2)) (b + 1) (b' + 1) 12) (b + 2) (b' + 2) 12) (b + 3) (b' + 3) 12) (b + 4) (b' + 4) 12) (b + 5) (b' + 5) 400) (b' + k) i = M (b + k) i := fun k h1 h2 i hi => by
      have hk : k = 1 ∨ k = 2 ∨ k = 3 ∨ k = 4 := by omega
      rcases hk with rfl | rfl | rfl | rfl <;> simp (disch := omega) only [cpy_ne, cpy_in, wr_ne]
    obtain ⟨g1, g2, g3⟩ := h
    refine ⟨g1, ?_, fun i hi => ?_⟩
    · simp (disch := omega) only [cpy_ne, wr_nk, wr_ne, wr_eq]; exact g2
    · obtain ⟨k1, k2, k3⟩ := g3 i hi
      refine ⟨by rw [ha 1 (by decide) (by decide) i (by omega)]; exact k1, by rw [ha 2 (by decide) (by decide) i (by omega)]; exact k2, fun M2 hM2 => ?_⟩
      have h9 := k3 (fun x => if x = 40 then M2 40 else M x) (if_neg (by omega))
      rw [ha 3 (by decide) (by decide) i (by omega), ha 4 (by decide) (by decide) i (by omega)]
      unfold f_X1_holds lt at h9 ⊢
      have hfx : fxM (fun x => if x = 40 then M2 40 else M x) = fxM M2 := by
        funext k; unfold fxM; simp
      rw [hfx] at h9
      exact c_holds_tr (b := b) (b' := b') (M := fun x => if x = 40 then M2 40 else M x) (M' := M2) (fun j hj => by
        rw [hM2, if_neg (by omega), cpy_in hj]
        simp (disch := omega) only [cpy_ne, wr_ne]) (fun k _ => by rw [if_pos rfl]) _ _ _ _ _ _ _ h9
  · simp (disch := omega) only [cpy_ne, wr_nk, wr_eq]; exact ht
  · funext j
    simp (disch := omega) only [cpy_ne, wr_ne]
section IM
variable {A : TbS} {K : LwS} {ms : List TbS} {im : Option (TbS × LwS)} {tp : List Nat} {ft : Int32} {M : Mm}
theorem c_image (h : cI A K ms im tp ft M) (ht : tz A.2.2.1) : ∃ M1, f_X10_image 20000 M = some (0, M1) ∧ cI A K ms (some (A, K)) tp ft M1 ∧ ∀ x, 208 ≤ x → M1 x = M x := by
  obtain ⟨a1, a2, ⟨a3, a4⟩, a5, a6, a7, a8, a9⟩ := h
  obtain ⟨M1, c1, c2, c3, c4⟩ := c_keeps (N := 20000) (a := 43) (L := A.2.2.2) (M := M) (by omega) a6.1 (by rw [a1]; exact ht) a2
  obtain ⟨M2, d1, d2, d3, d4⟩ := c_lawcopy (N := 20000) (b := 25) (b' := 55) (W := K.2) (M := M1) (tl := K.1) (a3.frame (fun i hi => c4 _ (by omega))) (by rw [c4 25 (by omega)]; exact a4) (by omega) (by omega)
  unfold f_X10_image
  rw [c1]
  simp only [bnd]
  rw [d1]
  simp only [lt]
  have hx : ∀ x, x ≠ 0 → (x < 44 ∨ 60 < x) → wr M2 0 13 1 x = M x := fun x h1 h2 => by rw [wr_nrow h1, d4 x (by omega), c4 x (by omega)]
  have h0 : ∀ j, j ≠ 13 → wr M2 0 13 1 0 j = M 0 j := fun j hj => by rw [wr_nk hj, d4 0 (by omega), c4 0 (by omega)]
  have s44 : slc 44 (wr M2 0 13 1) = A.2.2.1 := by
    rw [slc_ex (M := M1) (fun i hi => by rw [wr_nrow (by omega), d4 _ (by omega)])]
    exact c2.trans a1
  refine ⟨_, rfl, ⟨?_, a2.frame (hx _ (by omega) (by omega)) (hx _ (by omega) (by omega)), ⟨a3.frame (fun i hi => hx _ (by omega) (by omega)), by rw [hx 25 (by omega) (by omega)]; exact a4⟩, a5.fr (fun x h1 h2 => hx x (by omega) (by omega)) (h0 9 (by decide)) (h0 10 (by decide)), ⟨by rw [s44]; exact ht, wr_eq, s44, ?_, d2.frame (fun i hi => wr_nrow (by omega)), by rw [wr_ne (by decide)]; exact d3⟩, a7.fr (hx _ (by omega) (by omega)) (hx _ (by omega) (by omega)), by rw [h0 14 (by decide)]; exact a8, ?_⟩, fun x h1 => hx x (by omega) (by omega)⟩
  · rw [slc_ex (M := M) (fun i hi => hx _ (by omega) (by omega))]; exact a1
  · exact c3.frame (by rw [wr_nrow (by omega), d4 _ (by omega)]) (by rw [wr_nrow (by omega), d4 _ (by omega)])
  · rw [slc_ex (M := M) (fun i hi => hx _ (by omega) (by omega))]; exact a9
theorem c_back {x : TbS × LwS} (h : cI A K ms (some x) tp ft M) (ht : tz A.2.2.1) : ∃ M1, f_X10_back 20000 M = some (1, M1) ∧ cI x.1 x.2 [] (some x) tp ft M1 ∧ ∀ x, 208 ≤ x → M1 x = M x := by
  obtain ⟨a1, a2, ⟨a3, a4⟩, ⟨p1, p2, p3, nm, p4, p5, p6⟩, ⟨b0, b1, b2, b3, b4, b5⟩, a7, a8, a9⟩ := h
  obtain ⟨M1, c1, c2, c3, c4⟩ := c_returns (N := 20000) (a := 43) (L := x.1.2.2.2) (M := M) (by omega) b0 (by rw [a1]; exact ht) b3
  obtain ⟨M2, d1, d2, d3, d4⟩ := c_lawcopy (N := 20000) (b := 55) (b' := 25) (W := x.2.2) (M := M1) (tl := x.2.1) (b4.frame (fun i hi => c4 _ (by omega) (by omega) (by omega))) (by rw [c4 55 (by omega) (by omega) (by omega)]; exact b5) (by omega) (by omega)
  unfold f_X10_back
  rw [b1, if_neg (show ¬ (1 : Int32) = 0 by decide), c1]
  simp only [bnd]
  rw [d1]
  simp only [lt]
  have hx : ∀ x, x ≠ 0 → (x < 7 ∨ 15 < x) → (x < 25 ∨ 30 < x) → x ≠ 37 → x ≠ 38 → wr M2 0 10 0 x = M x := fun x h1 h2 h3 h4 h5 => by rw [wr_nrow h1, d4 x (by omega), c4 x (by omega) h4 h5]
  have h0 : ∀ j, j ≠ 10 → wr M2 0 10 0 0 j = M 0 j := fun j hj => by rw [wr_nk hj, d4 0 (by omega), c4 0 (by omega) (by omega) (by omega)]
  refine ⟨_, rfl, ⟨?_, ?_, ⟨d2.frame (fun i hi => wr_nrow (by omega)), by rw [wr_ne (by decide)]; exact d3⟩, ⟨by simp, wr_eq, fun j hj => ?_, nm, p4, by rw [h0 9 (by decide)]; exact p5, fun i hi => absurd hi (by simp)⟩, cImg.fr (im := some x) ⟨b0, b1, b2, b3, b4, b5⟩ (fun x h1 h2 => hx x (by omega) (by omega) (by omega) (by omega) (by omega)) (h0 13 (by decide)), a7.fr (hx _ (by omega) (by omega) (by omega) (by omega) (by omega)) (hx _ (by omega) (by omega) (by omega) (by omega) (by omega)), by rw [h0 14 (by decide)]; exact a8, ?_⟩, fun x h1 => hx x (by omega) (by omega) (by omega) (by omega) (by omega)⟩
  · rw [slc_ex (M := M1) (fun i hi => by rw [wr_nrow (by omega), d4 _ (by omega)]), c2]; exact b2
  · exact c3.frame (by rw [wr_nrow (by omega), d4 _ (by omega)]) (by rw [wr_nrow (by omega), d4 _ (by omega)])
  · rw [slc_ex (M := M) (fun i hi => hx _ (by omega) (by omega) (by omega) (by omega) (by omega))]; exact p3 j hj
  · rw [slc_ex (M := M) (fun i hi => hx _ (by omega) (by omega) (by omega) (by omega) (by omega))]; exact a9
theorem m_image_7 : ∀ (n k i : Nat) (M : Mm), i + k = 1258 → k < n → ∃ M', f_X11_image_7 20000 n (Int32.ofNat i) M = some (0, wr M' 208 6 1) ∧ (∀ j, M' 210 j = if i ≤ j ∧ j < 1258 then M 209 j else M 210 j) ∧ ∀ x, x ≠ 210 → M' x = M x := by
  intro n
  induction n with
  | zero => intro k i M _ h; omega
  | succ n ih =>
    intro k i M hik hk
    rw [f_X11_image_7]
    match k with
    | 0 =>
      rw [if_pos (show (1258 : Int32) ≤ Int32.ofNat i from i32_len (k := 1258) (by omega) (by omega))]
      exact ⟨M, rfl, fun j => by rw [if_neg (by omega)], fun _ _ => rfl⟩
    | k + 1 =>
      rw [if_neg (show ¬ (1258 : Int32) ≤ Int32.ofNat i from i32_nle (n := 1258) (by omega) (by omega))]
      simp only [grd, lt, inb_ofNat (show i < 2107 by omega) (by omega), inb_ofNat (show i < 1258 by omega) (by omega), if_true, i32_clampN (show i < 2147483648 by omega), i32_succ]
      obtain ⟨M', a1, a2, a3⟩ := ih k (i + 1) (wr M 210 i (M 209 i)) (by omega) (by omega)
      refine ⟨M', a1, fun j => ?_, fun x hx => by rw [a3 x hx, wr_nrow hx]⟩
      rw [a2 j, wr_nrow (show (209 : Nat) ≠ 210 by decide)]
      by_cases e : j = i
      · subst e; rw [if_neg (by omega), if_pos (by omega), wr_eq]
      · rw [wr_nk e]
        by_cases e2 : i + 1 ≤ j ∧ j < 1258
        · rw [if_pos e2, if_pos (by omega)]
        · rw [if_neg e2, if_neg (by omega)]
theorem m_back_16 : ∀ (n k i : Nat) (M : Mm), i + k = 1258 → k < n → ∃ M', f_X11_back_16 20000 n (Int32.ofNat i) M = some (1, wr M' 208 7 0) ∧ (∀ j, M' 209 j = if i ≤ j ∧ j < 1258 then M 210 j else M 209 j) ∧ ∀ x, x ≠ 209 → M' x = M x := by
  intro n
  induction n with
  | zero => intro k i M _ h; omega
  | succ n ih =>
    intro k i M hik hk
    rw [f_X11_back_16]
    match k with
    | 0 =>
      rw [if_pos (show (1258 : Int32) ≤ Int32.ofNat i from i32_len (k := 1258) (by omega) (by omega))]
      exact ⟨M, rfl, fun j => by rw [if_neg (by omega)], fun _ _ => rfl⟩
    | k + 1 =>
      rw [if_neg (show ¬ (1258 : Int32) ≤ Int32.ofNat i from i32_nle (n := 1258) (by omega) (by omega))]
      simp only [grd, lt, inb_ofNat (show i < 2107 by omega) (by omega), inb_ofNat (show i < 1258 by omega) (by omega), if_true, i32_clampN (show i < 2147483648 by omega), i32_succ]
      obtain ⟨M', a1, a2, a3⟩ := ih k (i + 1) (wr M 209 i (M 210 i)) (by omega) (by omega)
      refine ⟨M', a1, fun j => ?_, fun x hx => by rw [a3 x hx, wr_nrow hx]⟩
      rw [a2 j, wr_nrow (show (210 : Nat) ≠ 209 by decide)]
      by_cases e : j = i
      · subst e; rw [if_neg (by omega), if_pos (by omega), wr_eq]
      · rw [wr_nk e]
        by_cases e2 : i + 1 ≤ j ∧ j < 1258
        · rw [if_pos e2, if_pos (by omega)]
        · rw [if_neg e2, if_neg (by omega)]
theorem m_imgU (N : Nat) (M : Mm) : f_X11_image N M = f_X11_image_7 N N 0 (wr M 208 0 0) := rfl
theorem m_image0 {N : Nat} (hN : 1258 < N) (M : Mm) : ∃ M', f_X11_image_7 20000 N 0 M = some (0, wr M' 208 6 1) ∧ (∀ j, M' 210 j = if 0 ≤ j ∧ j < 1258 then M 209 j else M 210 j) ∧ ∀ x, x ≠ 210 → M' x = M x := m_image_7 N 1258 0 M (by omega) hN
theorem m_back0 {N : Nat} (hN : 1258 < N) (M : Mm) : ∃ M', f_X11_back_16 20000 N 0 M = some (1, wr M' 208 7 0) ∧ (∀ j, M' 209 j = if 0 ≤ j ∧ j < 1258 then M 210 j else M 209 j) ∧ ∀ x, x ≠ 209 → M' x = M x := m_back_16 N 1258 0 M (by omega) hN
theorem wLaw.cg2 {W : Lw} {w : Nat → Int32} (hO : lwOK W) (h : wLaw W (fun _ => w)) {M' : Mm} (h3 : M' 209 3 = w 3) (hj : ∀ j, 409 ≤ j → j < 1258 → M' 209 j = w j) : wLaw W M' := wLaw.frame (M := fun _ => w) h h3 hj hO
end IM
theorem P_image {M : Mm} (h : InvM M) : Cd (fun M => f_X10_image 20000 M) (fun M => f_X11_image 20000 M) M := by
  obtain ⟨nd, nc, T, L, K, ms, im, tp, ft, h, hR, hs, hz, h70, h71, hnd, hnc⟩ := Ix h
  obtain ⟨M1, a1, a2, a3⟩ := c_image h.1 hR.2.2.2.2.2.2.2
  refine Ca h a1 a2 a3 ⟨h.2.2.1, h.2.2.2.1, h.2.2.2.2.1, fun x hx => ?_⟩ ⟨0, fun M' hm => ?_⟩
  · cases hx; exact ⟨h.2.2.1, h.2.2.2.1⟩
  · obtain ⟨M2, b1, b2, b3⟩ := m_image0 (N := 20000) (by decide) (wr M' 208 0 0)
    have hx : ∀ x, x ≠ 208 → x ≠ 210 → wr M2 208 6 1 x = M' x := fun x h1 h2 => by rw [wr_nrow h1, b3 x h2, wr_nrow h1]
    have h8 : ∀ j, j ≠ 6 → j ≠ 0 → wr M2 208 6 1 208 j = M' 208 j := fun j h1 h2 => by rw [wr_nk h1, b3 208 (by decide), wr_nk h2]
    have hw : ∀ j, j < 1258 → wr M2 208 6 1 210 j = M' 209 j := fun j hj => by rw [wr_ne (by decide), b2 j, if_pos (by omega), wr_nrow (by decide)]
    obtain ⟨c1, ⟨c2, c3⟩, c4, c5, c6, c7, c8⟩ := hm
    refine ⟨wr M2 208 6 1, ?_, ⟨by rw [hx 209 (by decide) (by decide)]; exact c1, ⟨c2.cg (hx 209 (by decide) (by decide)), by rw [hx 209 (by decide) (by decide)]; exact c3⟩, c4.fr (h8 7 (by decide) (by decide)) (hx 213 (by decide) (by decide)), ⟨wr_eq, ?_, ?_, ?_⟩, c6.fr (h8 9 (by decide) (by decide)) (hx 214 (by decide) (by decide)), by rw [h8 14 (by decide) (by decide)]; exact c7, by rw [h8 18 (by decide) (by decide)]; exact c8⟩, fun x h9 => hx x (by omega) (by omega), by rw [wr_nk (by decide), b3 208 (by decide), wr_eq]⟩
    · show f_X11_image 20000 M' = _
      rw [m_imgU]
      exact b1
    · exact RW.cg c1 (fun j hj => hw j (by omega))
    · exact wLaw.frame (M := fun _ => M' 209) (M' := fun _ => wr M2 208 6 1 210) c2 (hw 3 (by decide)) (fun j h1 h2 => hw j h2) h.2.2.1
    · rw [hw 3 (by decide)]; exact c3
theorem P_back {M : Mm} (h : InvM M) : Cd (fun M => f_X10_back 20000 M) (fun M => f_X11_back 20000 M) M := by
  obtain ⟨nd, nc, T, L, K, ms, im, tp, ft, h, hR, hs, hz, h70, h71, hnd, hnc⟩ := Ix h
  match im with
  | none =>
    refine Cr (r := 0) (M1 := M) h ?_ hz (fun M' hm => ⟨wr M' 208 0 0, ?_, mQ.t208⟩)
    · have e13 : M 0 13 = 0 := h.1.2.2.2.2.1.2
      simp only [f_X10_back, e13, if_true]
    · have e6 : (wr M' 208 0 0) 208 6 = 0 := by rw [wr_nk (by decide)]; exact hm.2.2.2.1
      simp only [f_X11_back, lt, e6, if_true]
  | some x =>
    obtain ⟨M1, a1, a2, a3⟩ := c_back h.1 hR.2.2.2.2.2.2.2
    obtain ⟨o1, o2⟩ := h.2.2.2.2.2 x rfl
    refine Ca h a1 a2 a3 ⟨o1, o2, fun B hB => absurd hB (by simp), h.2.2.2.2.2⟩ ⟨0, fun M' hm => ?_⟩
    obtain ⟨M2, b1, b2, b3⟩ := m_back0 (N := 20000) (by decide) (wr M' 208 0 0)
    have hx : ∀ x, x ≠ 208 → x ≠ 209 → wr M2 208 7 0 x = M' x := fun x h1 h2 => by rw [wr_nrow h1, b3 x h2, wr_nrow h1]
    have h8 : ∀ j, j ≠ 7 → j ≠ 0 → wr M2 208 7 0 208 j = M' 208 j := fun j h1 h2 => by rw [wr_nk h1, b3 208 (by decide), wr_nk h2]
    have hw : ∀ j, j < 1258 → wr M2 208 7 0 209 j = M' 210 j := fun j hj => by rw [wr_ne (by decide), b2 j, if_pos (by omega), wr_nrow (by decide)]
    obtain ⟨c1, ⟨c2, c3⟩, c4, ⟨c5, c51, c52, c53⟩, c6, c7, c8⟩ := hm
    refine ⟨wr M2 208 7 0, ?_, ⟨RW.cg c51 (fun j hj => hw j (by omega)), ⟨wLaw.cg2 o1 c52 (hw 3 (by decide)) (fun j h1 h2 => hw j h2), by rw [hw 3 (by decide)]; exact c53⟩, ⟨wr_eq, fun i hi => absurd hi (by simp)⟩, mImg.fr (im := some x) ⟨c5, c51, c52, c53⟩ (h8 6 (by decide) (by decide)) (hx 210 (by decide) (by decide)), c6.fr (h8 9 (by decide) (by decide)) (hx 214 (by decide) (by decide)), by rw [h8 14 (by decide) (by decide)]; exact c7, by rw [h8 18 (by decide) (by decide)]; exact c8⟩, fun x h9 => hx x (by omega) (by omega), by rw [wr_nk (by decide), b3 208 (by decide), wr_eq]⟩
    have e6 : ¬ (wr M' 208 0 0) 208 6 = 0 := by rw [wr_nk (by decide), c5]; decide
    simp only [f_X11_back, lt, e6, if_false]
    exact b1
