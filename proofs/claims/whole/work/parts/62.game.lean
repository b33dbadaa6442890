/-! The game of a diner and a cook. -/
section GM
variable {nd nc : Nat} {T : Tb} {L : List Row} {K : LwS} {W : Lw}
theorem fold_8 {fx : Fx} {v : Int32} : ∀ (W : Lw) (z : Int32), (∀ ln ∈ W, ln.2.2 (updF fx 8 v) = ln.2.2 fx) → W.foldl (sLine (updF fx 8 v)) z = W.foldl (sLine fx) z := by
  intro W
  induction W with
  | nil => intro z _; rfl
  | cons x W ih =>
    intro z h
    rw [List.foldl_cons, List.foldl_cons, show sLine (updF fx 8 v) z x = sLine fx z x from by unfold sLine; rw [h x List.mem_cons_self]]
    exact ih _ (fun ln hl => h ln (List.mem_cons_of_mem _ hl))
theorem sTaken_8 {fx : Fx} {v : Int32} (hO : lwOK W) : sTaken W (updF fx 8 v) = sTaken W fx := by
  unfold sTaken
  rw [fold_8 W _ (fun ln hl => by
    obtain ⟨i, hi, e⟩ := List.mem_iff_getElem.mp hl
    rw [← e]; exact (hO.2 i hi).2.2 fx v)]
  rw [updF_ne (by decide), updF_ne (by decide), updF_ne (by decide), updF_ne (by decide)]
/-- what the cook has: salty (s) and eating (e), or not -/
def ckV (W : Lw) (fx : Fx) (s e : Nat) : Int32 := if s = 0 then 0 else sTaken W (updF fx 7 (if e = 0 then 1 else 0))
def dnV (W : Lw) (fx : Fx) (s e : Nat) : Int32 := if e = 0 then 2 else if ckV W fx s e ≤ 0 then 0 else fx 2
def rsV (W : Lw) (fx : Fx) (ch : Nat) : Bool := !(decide (ckV W fx (ch / 2) (ch % 2) < ckV W fx (1 - ch / 2) (ch % 2))) && !(decide (dnV W fx (ch / 2) (ch % 2) < dnV W fx (ch / 2) (1 - ch % 2)))
theorem c_cook {c d ch : Nat} {M : Mm} (hO : lwOK W) (hW : cLaw 25 W M) (hs : slc 7 M = T) (hc : c < 5) (hd : d < 8) (hch : ch < 4) : ∃ M', f_X10_cookHas 20000 (Int32.ofNat ch) (Int32.ofNat c) (Int32.ofNat d) M = some (ckV W (sFx T (Int32.ofNat c) (Int32.ofNat d)) (ch / 2) (ch % 2), M') ∧ ∀ x, x ≠ 40 → M' x = M x := by
  obtain ⟨M1, t1, t2, t3⟩ := c_tell (N := 20000) (a := 7) (c := Int32.ofNat c) (d := Int32.ofNat d) (M := M) (by omega) (i32_nn (by omega)) (i32_nle (n := 5) hc (by omega)) (i32_nn (by omega)) (i32_ltn (n := 8) hd (by omega))
  rw [hs] at t3
  have b2 : ∀ ch, ch < 4 → ((Int32.ofNat ch &&& 2) = 0 ↔ ch / 2 = 0) := by decide
  have b1 : ∀ ch, ch < 4 → ((Int32.ofNat ch &&& 1) = 0 ↔ ch % 2 = 0) := by decide
  have hf : ∀ (M9 : Mm) (j : Nat), j < 9 → fxM M9 j = M9 40 j := fun M9 j hj => if_pos hj
  have h49 : ∀ (di sw : Int32), (di = 0 ∨ di = 1) → ∃ M', f_X10_cookHas_49 20000 di (wr M1 40 8 sw) = some (sPinch W (updF (updF (fxM M1) 8 sw) 7 di), M') ∧ ∀ x, x ≠ 40 → M' x = M x := fun di sw hdi => by
    unfold f_X10_cookHas_49
    have hib : isb di = true := by rcases hdi with rfl | rfl <;> decide
    simp only [grd, hib, if_true, lt]
    have hW9 : cLaw 25 W (wr (wr M1 40 8 sw) 40 7 di) := hW.frame (fun j hj => by rw [wr_nrow (by omega), wr_nrow (by omega), t2 _ (by omega)])
    rw [c_pinch hW9]
    have hfx : fxM (wr (wr M1 40 8 sw) 40 7 di) = updF (updF (fxM M1) 8 sw) 7 di := by
      funext j
      by_cases e7 : j = 7
      · subst e7; rw [updF_eq, hf _ 7 (by decide), wr_eq]
      · rw [updF_ne e7]
        by_cases e8 : j = 8
        · subst e8; rw [updF_eq, hf _ 8 (by decide), wr_nk (by decide), wr_eq]
        · rw [updF_ne e8]
          unfold fxM
          rw [wr_nk e7, wr_nk e8]
    rw [hfx]
    exact ⟨_, rfl, fun x hx => by rw [wr_nrow hx, wr_nrow hx, t2 x hx]⟩
  have h33 : ∀ sw : Int32, (sw = 0 ∨ sw = 1) → ∃ M', f_X10_cookHas_33 20000 (Int32.ofNat ch) sw M1 = some (sPinch W (updF (updF (fxM M1) 8 sw) 7 (if ch % 2 = 0 then 1 else 0)), M') ∧ ∀ x, x ≠ 40 → M' x = M x := fun sw hsw => by
    unfold f_X10_cookHas_33
    have hib : isb sw = true := by rcases hsw with rfl | rfl <;> decide
    simp only [grd, hib, if_true, lt]
    by_cases q : ch % 2 = 0
    · rw [if_pos ((b1 ch hch).mpr q), if_pos q]; exact h49 1 sw (Or.inr rfl)
    · rw [if_neg (fun h9 => q ((b1 ch hch).mp h9)), if_neg q]; exact h49 0 sw (Or.inl rfl)
  unfold f_X10_cookHas ckV
  rw [t1]
  simp only [bnd]
  by_cases q : ch / 2 = 0
  · rw [if_pos ((b2 ch hch).mpr q), if_pos q]
    obtain ⟨M', a1, a2⟩ := h33 1 (Or.inr rfl)
    rw [sPinch_t, updF_ne (by decide), updF_eq, if_neg (by decide)] at a1
    exact ⟨M', a1, a2⟩
  · rw [if_neg (fun h9 => q ((b2 ch hch).mp h9)), if_neg q]
    obtain ⟨M', a1, a2⟩ := h33 0 (Or.inl rfl)
    have hsw : updF (updF (fxM M1) 8 0) 7 (if ch % 2 = 0 then 1 else 0) = updF (updF (fxM M1) 7 (if ch % 2 = 0 then 1 else 0)) 8 0 := by
      funext j
      by_cases e7 : j = 7
      · subst e7; rw [updF_eq, updF_ne (by decide), updF_eq]
      · rw [updF_ne e7]
        by_cases e8 : j = 8
        · subst e8; rw [updF_eq, updF_eq]
        · rw [updF_ne e8, updF_ne e8, updF_ne e7]
    rw [hsw, sPinch_t, updF_eq, if_pos rfl, sTaken_8 hO, t3] at a1
    exact ⟨M', a1, a2⟩
theorem c_dinH {c d ch : Nat} {M : Mm} (hO : lwOK W) (hW : cLaw 25 W M) (hs : slc 7 M = T) (hc : c < 5) (hd : d < 8) (hch : ch < 4) : ∃ M', f_X10_dinerHas 20000 (Int32.ofNat ch) (Int32.ofNat c) (Int32.ofNat d) M = some (dnV W (sFx T (Int32.ofNat c) (Int32.ofNat d)) (ch / 2) (ch % 2), M') ∧ ∀ x, x ≠ 40 → M' x = M x := by
  have b1 : ∀ ch, ch < 4 → ((Int32.ofNat ch &&& 1) = 0 ↔ ch % 2 = 0) := by decide
  unfold f_X10_dinerHas dnV
  by_cases q : ch % 2 = 0
  · rw [if_pos ((b1 ch hch).mpr q), if_pos q]
    exact ⟨M, rfl, fun _ _ => rfl⟩
  · rw [if_neg (fun h9 => q ((b1 ch hch).mp h9)), if_neg q]
    obtain ⟨M1, a1, a2⟩ := c_cook hO hW hs hc hd hch
    rw [a1]
    simp only [bnd, grd, inb_ofNat hd (by omega), if_true, i32_clampN (show d < 2147483648 by omega)]
    refine ⟨M1, ?_, a2⟩
    rw [sFx_2 hd, a2 9 (by decide), show M 9 d = T 2 d from slE hs (i := 2) (by decide)]
    split <;> rfl
theorem c_game_33 {c d : Nat} (hO : lwOK W) (hc : c < 5) (hd : d < 8) : ∀ (n k i : Nat) (v : Int32) (M : Mm), cLaw 25 W M → slc 7 M = T → i + k = 4 → k < n → ∃ M', f_X10_game_33 20000 n (Int32.ofNat d) (Int32.ofNat c) v (Int32.ofNat i) M = some (.inl (nF (fun v ch => if rsV W (sFx T (Int32.ofNat c) (Int32.ofNat d)) ch = true then v ||| ((1 : Int32) <<< (Int32.ofNat ch &&& 31)) else v) k i v), M') ∧ ∀ x, x ≠ 40 → M' x = M x := by
  have x2 : ∀ i, i < 4 → (Int32.ofNat i ^^^ 2) = Int32.ofNat (if i < 2 then i + 2 else i - 2) := by decide
  have x1 : ∀ i, i < 4 → (Int32.ofNat i ^^^ 1) = Int32.ofNat (if i % 2 = 0 then i + 1 else i - 1) := by decide
  intro n
  induction n with
  | zero => intro k i v M _ _ _ h; omega
  | succ n ih =>
    intro k i v M hW hs hik hk
    rw [f_X10_game_33]
    match k with
    | 0 =>
      rw [if_pos (show (4 : Int32) ≤ Int32.ofNat i from i32_len (k := 4) (by omega) (by omega))]
      exact ⟨M, rfl, fun _ _ => rfl⟩
    | k + 1 =>
      have hi : i < 4 := by omega
      have hfr : ∀ M9 : Mm, (∀ x, x ≠ 40 → M9 x = M x) → cLaw 25 W M9 ∧ slc 7 M9 = T := fun M9 h9 => ⟨hW.frame (fun j hj => h9 _ (by omega)), by rw [slc_ex (fun j hj => h9 _ (by omega))]; exact hs⟩
      rw [if_neg (show ¬ (4 : Int32) ≤ Int32.ofNat i from i32_nle (n := 4) hi (by omega))]
      obtain ⟨M1, a1, a2⟩ := c_cook (ch := i) hO hW hs hc hd hi
      obtain ⟨M2, b1, b2⟩ := c_cook (ch := if i < 2 then i + 2 else i - 2) (M := M1) hO (hfr M1 a2).1 (hfr M1 a2).2 hc hd (by split <;> omega)
      have f2 : ∀ x, x ≠ 40 → M2 x = M x := fun x hx => (b2 x hx).trans (a2 x hx)
      obtain ⟨M3, c1, c2⟩ := c_dinH (ch := i) (M := M2) hO (hfr M2 f2).1 (hfr M2 f2).2 hc hd hi
      have f3 : ∀ x, x ≠ 40 → M3 x = M x := fun x hx => (c2 x hx).trans (f2 x hx)
      obtain ⟨M4, d1, d2⟩ := c_dinH (ch := if i % 2 = 0 then i + 1 else i - 1) (M := M3) hO (hfr M3 f3).1 (hfr M3 f3).2 hc hd (by split <;> omega)
      have f4 : ∀ x, x ≠ 40 → M4 x = M x := fun x hx => (d2 x hx).trans (f3 x hx)
      rw [x2 i hi, a1]
      simp only [bnd]
      rw [b1]
      simp only [f_X10_game_65, f_X10_game_93, bnd, x1 i hi, c1, d1, lt, i32_succ]
      have e1 : (if i < 2 then i + 2 else i - 2) / 2 = 1 - i / 2 ∧ (if i < 2 then i + 2 else i - 2) % 2 = i % 2 := by split <;> omega
      have e2 : (if i % 2 = 0 then i + 1 else i - 1) / 2 = i / 2 ∧ (if i % 2 = 0 then i + 1 else i - 1) % 2 = 1 - i % 2 := by split <;> omega
      rw [e1.1, e1.2, e2.1, e2.2]
      obtain ⟨M', g1, g2⟩ := ih k (i + 1) (if rsV W (sFx T (Int32.ofNat c) (Int32.ofNat d)) i = true then v ||| ((1 : Int32) <<< (Int32.ofNat i &&& 31)) else v) M4 (hfr M4 f4).1 (hfr M4 f4).2 (by omega) (by omega)
      refine ⟨M', ?_, fun x hx => (g2 x hx).trans (f4 x hx)⟩
      rw [nF, ← g1]
      by_cases q1 : ckV W (sFx T (Int32.ofNat c) (Int32.ofNat d)) (i / 2) (i % 2) < ckV W (sFx T (Int32.ofNat c) (Int32.ofNat d)) (1 - i / 2) (i % 2)
      · have hr : rsV W (sFx T (Int32.ofNat c) (Int32.ofNat d)) i = false := by unfold rsV; rw [decide_eq_true q1]; rfl
        simp only [if_pos q1, hr, if_true, ite_self, Bool.false_eq_true, if_false]
      · by_cases q2 : dnV W (sFx T (Int32.ofNat c) (Int32.ofNat d)) (i / 2) (i % 2) < dnV W (sFx T (Int32.ofNat c) (Int32.ofNat d)) (i / 2) (1 - i % 2)
        · have hr : rsV W (sFx T (Int32.ofNat c) (Int32.ofNat d)) i = false := by unfold rsV; rw [decide_eq_false q1, decide_eq_true q2]; rfl
          simp only [if_neg q1, if_pos q2, hr, if_true, show ¬ (1 : Int32) = 0 from by decide, Bool.false_eq_true, if_false]
        · have hr : rsV W (sFx T (Int32.ofNat c) (Int32.ofNat d)) i = true := by unfold rsV; rw [decide_eq_false q1, decide_eq_false q2]; rfl
          simp only [if_neg q1, if_neg q2, hr, if_true, show ¬ (1 : Int32) = 0 from by decide, if_false]
theorem m_served {c d s e : Nat} {M : Mm} (hO : lwOK W) (hR : RW nd nc T L (M 209)) (hW : wLaw W M) (hc : c < nc) (hd : d < nd) (hs : s < 2) (he : e < 2) : ∃ M', f_X11_servedTo 20000 (Int32.ofNat c) (Int32.ofNat d) (Int32.ofNat s) (Int32.ofNat e) M = some (ckV W (sFx T (Int32.ofNat c) (Int32.ofNat d)) s e, M') ∧ M' 209 = M 209 ∧ ∀ x, x ≠ 209 → x ≠ 216 → M' x = M x := by
  have hnd := hR.1.1
  have hnc := hR.1.2.1
  have c1 : ((12 : Int32) + (9 : Int32) * Int32.ofNat d) + (2 : Int32) = Int32.ofNat (12 + 9 * d + 2) := m_dAt d 2
  have h2 : f_X11_of 20000 (Int32.ofNat d) 2 M = some (M 209 (12 + 9 * d + 2), M) := by
    rw [show (2 : Int32) = Int32.ofNat 2 from rfl, m_of (by omega) (by decide)]
  have e1 : (1 : Int32) - Int32.ofNat e = if e = 0 then 1 else 0 := by
    have h9 : ∀ e, e < 2 → (1 : Int32) - Int32.ofNat e = if e = 0 then 1 else 0 := by decide
    exact h9 e he
  have h01 : (if e = 0 then (1 : Int32) else 0) = 0 ∨ (if e = 0 then (1 : Int32) else 0) = 1 := by
    split
    · exact Or.inr rfl
    · exact Or.inl rfl
  generalize hdi : (if e = 0 then (1 : Int32) else 0) = di at e1 h01
  have hR1 : RW nd nc (wr T 0 2 (dSet (T 0 2) d di)) L ((wr M 209 (12 + 9 * d + 2) di) 209) := by
    rw [wr_row]; exact RW_diet hR hd h01
  have hW1 : wLaw W (wr M 209 (12 + 9 * d + 2) di) := hW.frame (wr_nk (by omega)) (fun j x _ => wr_nk (by omega)) hO
  have hfx : sFx (wr T 0 2 (dSet (T 0 2) d di)) (Int32.ofNat c) (Int32.ofNat d) = updF (sFx T (Int32.ofNat c) (Int32.ofNat d)) 7 di := by
    funext j
    match j with
    | 0 | 1 => rfl
    | 2 | 3 | 4 => rw [updF_ne (by decide)]; unfold sFx; simp (disch := decide) only [wr_ne]
    | 5 => rw [updF_ne (by decide)]; unfold sFx sHasOf; simp (disch := decide) only [wr_ne]
    | 6 => rw [updF_ne (by decide)]; unfold sFx; simp (disch := decide) only [wr_nk]
    | 7 =>
      rw [updF_eq]
      show sDiet _ (Int32.ofNat d) = di
      rw [sDiet_b (by omega), wr_eq, hB_dSet (by omega) (by omega), if_pos rfl]
      rcases h01 with h9 | h9 <;> rw [h9] <;> rfl
    | 8 => rw [updF_ne (by decide)]; unfold sFx sSweet; simp (disch := decide) only [wr_nk]
    | j + 9 =>
      rw [updF_ne (by omega)]
      show (0 : Int32) = 0
      rfl
  have h37 : ∀ (s0 : Int32) (M9 : Mm), (∀ x, x ≠ 216 → M9 x = wr M 209 (12 + 9 * d + 2) di x) → ∃ M', f_X11_servedTo_37 20000 (Int32.ofNat d) (M 209 (12 + 9 * d + 2)) s0 M9 = some (s0, M') ∧ M' 209 = M 209 ∧ ∀ x, x ≠ 209 → x ≠ 216 → M' x = M x := fun s0 M9 h9 => by
    unfold f_X11_servedTo_37 f_X11_dinerAt
    simp only [bnd, c1, grd, inb_ofNat (show 12 + 9 * d + 2 < 2107 by omega) (by omega), if_true, lt, i32_clampN (show 12 + 9 * d + 2 < 2147483648 by omega)]
    refine ⟨_, rfl, ?_, fun x x1 x2 => by rw [wr_nrow x1, h9 x x2, wr_nrow x1]⟩
    funext j
    by_cases q : j = 12 + 9 * d + 2
    · subst q; rw [wr_eq]
    · rw [wr_nk q, h9 209 (by decide), wr_nk q]
  unfold f_X11_servedTo f_X11_dinerAt ckV
  simp only [h2, bnd, c1, grd, inb_ofNat (show 12 + 9 * d + 2 < 2107 by omega) (by omega), if_true, lt, i32_clampN (show 12 + 9 * d + 2 < 2147483648 by omega), e1, hdi]
  by_cases q : s = 0
  · subst q
    rw [if_neg (show ¬ Int32.ofNat 0 = (1 : Int32) by decide), if_pos rfl]
    exact h37 0 _ (fun _ _ => rfl)
  · obtain rfl : s = 1 := by omega
    rw [if_pos (show Int32.ofNat 1 = (1 : Int32) from rfl), if_neg q]
    obtain ⟨M1, a1, a2⟩ := m_takenBy (c := c) (d := d) hO hc hd hR1 hW1
    rw [a1, hfx]
    exact h37 _ M1 a2
theorem m_dinH {c d s e : Nat} {M : Mm} (hO : lwOK W) (hR : RW nd nc T L (M 209)) (hW : wLaw W M) (hc : c < nc) (hd : d < nd) (hs : s < 2) (he : e < 2) : ∃ M', f_X11_dinerHas 20000 (Int32.ofNat c) (Int32.ofNat d) (Int32.ofNat s) (Int32.ofNat e) M = some (dnV W (sFx T (Int32.ofNat c) (Int32.ofNat d)) s e, M') ∧ M' 209 = M 209 ∧ ∀ x, x ≠ 209 → x ≠ 216 → M' x = M x := by
  have hnd := hR.1.1
  unfold f_X11_dinerHas dnV
  by_cases q : e = 0
  · subst q
    rw [if_pos (show Int32.ofNat 0 = (0 : Int32) from rfl), if_pos rfl]
    exact ⟨M, rfl, rfl, fun _ _ _ => rfl⟩
  · obtain rfl : e = 1 := by omega
    rw [if_neg (show ¬ Int32.ofNat 1 = (0 : Int32) by decide), if_neg q]
    obtain ⟨M1, a1, a2, a3⟩ := m_served hO hR hW hc hd hs he
    have ho : f_X11_of 20000 (Int32.ofNat d) 1 M1 = some (T 2 d, M1) := by
      rw [show (1 : Int32) = Int32.ofNat 1 from rfl, m_of (by omega) (by decide), a2, (hR.2.2.2.1 d hd).1]
    rw [a1]
    simp only [bnd, ho]
    refine ⟨M1, ?_, a2, a3⟩
    rw [sFx_2 (by omega)]
    split <;> rfl
theorem m_rests {c d i : Nat} {M : Mm} (hO : lwOK W) (hR : RW nd nc T L (M 209)) (hW : wLaw W M) (hc : c < nc) (hd : d < nd) (hi : i < 4) : ∃ M', f_X11_rests 20000 (Int32.ofNat c) (Int32.ofNat d) (Int32.ofNat (i / 2)) (Int32.ofNat (i % 2)) M = some (b2i (rsV W (sFx T (Int32.ofNat c) (Int32.ofNat d)) i), M') ∧ M' 209 = M 209 ∧ ∀ x, x ≠ 209 → x ≠ 216 → M' x = M x := by
  have e1 : ∀ a, a < 2 → (1 : Int32) - Int32.ofNat a = Int32.ofNat (1 - a) := by decide
  obtain ⟨M1, a1, a2, a3⟩ := m_served (s := i / 2) (e := i % 2) hO hR hW hc hd (by omega) (by omega)
  obtain ⟨M2, b1, b2, b3⟩ := m_served (M := M1) (s := 1 - i / 2) (e := i % 2) hO (by rw [a2]; exact hR) (hW.cg a2) hc hd (by omega) (by omega)
  have h2 : M2 209 = M 209 := b2.trans a2
  obtain ⟨M3, c1, c2, c3⟩ := m_dinH (M := M2) (s := i / 2) (e := i % 2) hO (by rw [h2]; exact hR) (hW.cg h2) hc hd (by omega) (by omega)
  have h3 : M3 209 = M 209 := c2.trans h2
  obtain ⟨M4, d1, d2, d3⟩ := m_dinH (M := M3) (s := i / 2) (e := 1 - i % 2) hO (by rw [h3]; exact hR) (hW.cg h3) hc hd (by omega) (by omega)
  unfold f_X11_rests f_X11_rests_50
  rw [e1 (i / 2) (by omega), e1 (i % 2) (by omega), a1]
  simp only [bnd]
  rw [b1]
  simp only [c1, d1]
  unfold rsV
  by_cases q1 : ckV W (sFx T (Int32.ofNat c) (Int32.ofNat d)) (i / 2) (i % 2) < ckV W (sFx T (Int32.ofNat c) (Int32.ofNat d)) (1 - i / 2) (i % 2)
  · rw [if_pos q1, decide_eq_true q1]
    exact ⟨M2, rfl, h2, fun x x1 x2 => (b3 x x1 x2).trans (a3 x x1 x2)⟩
  · rw [if_neg q1, decide_eq_false q1]
    refine ⟨M4, ?_, d2.trans h3, fun x x1 x2 => (d3 x x1 x2).trans ((c3 x x1 x2).trans ((b3 x x1 x2).trans (a3 x x1 x2)))⟩
    by_cases q2 : dnV W (sFx T (Int32.ofNat c) (Int32.ofNat d)) (i / 2) (i % 2) < dnV W (sFx T (Int32.ofNat c) (Int32.ofNat d)) (i / 2) (1 - i % 2)
    · rw [if_pos q2, decide_eq_true q2]; rfl
    · rw [if_neg q2, decide_eq_false q2]; rfl
theorem m_game_55 {c d : Nat} (hO : lwOK W) (hc : c < nc) (hd : d < nd) : ∀ (n k i : Nat) (v : Int32) (M : Mm), RW nd nc T L (M 209) → wLaw W M → i + k = 4 → k < n → ∃ M', f_X11_game_55 20000 n (Int32.ofNat d) (Int32.ofNat c) v (Int32.ofNat i) M = some (nF (fun v ch => if rsV W (sFx T (Int32.ofNat c) (Int32.ofNat d)) ch = true then v ||| ((1 : Int32) <<< (Int32.ofNat ch &&& 31)) else v) k i v, M') ∧ M' 209 = M 209 ∧ ∀ x, x ≠ 209 → x ≠ 216 → M' x = M x := by
  intro n
  induction n with
  | zero => intro k i v M _ _ _ h; omega
  | succ n ih =>
    intro k i v M hR hW hik hk
    rw [f_X11_game_55]
    match k with
    | 0 =>
      rw [if_pos (show (4 : Int32) ≤ Int32.ofNat i from i32_len (k := 4) (by omega) (by omega))]
      exact ⟨M, rfl, rfl, fun _ _ _ => rfl⟩
    | k + 1 =>
      have hi : i < 4 := by omega
      have e1 : Int32.ofNat i / 2 = Int32.ofNat (i / 2) := i32_divN (m := 2) (by omega) (by omega)
      have e2 : Int32.ofNat i - Int32.ofNat i / 2 * 2 = Int32.ofNat (i % 2) := i32_remN (m := 2) (by omega) (by omega)
      rw [if_neg (show ¬ (4 : Int32) ≤ Int32.ofNat i from i32_nle (n := 4) hi (by omega)), e2, e1]
      obtain ⟨M1, a1, a2, a3⟩ := m_rests (i := i) hO hR hW hc hd hi
      rw [a1]
      simp only [bnd, lt, i32_succ, i32_or0]
      obtain ⟨M', b1, b2, b3⟩ := ih k (i + 1) (if rsV W (sFx T (Int32.ofNat c) (Int32.ofNat d)) i = true then v ||| ((1 : Int32) <<< (Int32.ofNat i &&& 31)) else v) M1 (by rw [a2]; exact hR) (hW.cg a2) (by omega) (by omega)
      refine ⟨M', ?_, b2.trans a2, fun x x1 x2 => (b3 x x1 x2).trans (a3 x x1 x2)⟩
      rw [nF, ← b1]
      cases rsV W (sFx T (Int32.ofNat c) (Int32.ofNat d)) i <;> rfl
/-- the first cellar held at a diner's seat -/
def fHC (nc : Nat) (T : Tb) (s : Int32) : Option Nat := xF (fun (_ : Unit) c => if hAt T s c = true then .inr (some c) else .inl ()) (fun _ => none) nc 0 ()
theorem c_fHA {N a : Nat} {s : Int32} {M : Mm} (hN : 60 < N) (hnc : nc ≤ 5) (hM : M a 1 = Int32.ofNat nc) : f_X6_firstHeldAt N a s M = some (match fHC nc (slc a M) s with
    | some c => Int32.ofNat c
    | none => -1, M) := by
  unfold f_X6_firstHeldAt
  have h9 := lp_x (f := fun n (_ : Unit) i => f_X6_firstHeldAt_2 N a n s i M) (fin := fun _ => some ((-1 : Int32), M)) (st := fun (_ : Unit) c => if hAt (slc a M) s c = true then .inr (some (Int32.ofNat c, M)) else .inl ()) (m := nc) (fun n v => ?_) (fun n v i hi => ?_) N nc 0 () (by omega) (by omega)
  · refine h9.trans ?_
    unfold fHC
    have h8 : ∀ (k i : Nat), xF (ρ := Option (Int32 × Mm)) (fun (_ : Unit) c => if hAt (slc a M) s c = true then .inr (some (Int32.ofNat c, M)) else .inl ()) (fun _ => some ((-1 : Int32), M)) k i () = some (match xF (ρ := Option Nat) (fun (_ : Unit) c => if hAt (slc a M) s c = true then .inr (some c) else .inl ()) (fun _ => none) k i () with
        | some c => Int32.ofNat c
        | none => -1, M) := by
      intro k
      induction k with
      | zero => intro i; rfl
      | succ k ih =>
        intro i
        rw [xF, xF]
        by_cases q : hAt (slc a M) s i = true
        · rw [if_pos q, if_pos q]
        · rw [if_neg q, if_neg q]; exact ih (i + 1)
    exact h8 _ _
  · show f_X6_firstHeldAt_2 N a (n + 1) s (Int32.ofNat nc) M = _
    rw [f_X6_firstHeldAt_2, hM, if_pos (Int32.le_refl _)]
  · show f_X6_firstHeldAt_2 N a (n + 1) s (Int32.ofNat i) M = _
    rw [f_X6_firstHeldAt_2, hM, if_neg (i32_nle hi (by omega)), if_neg (show ¬ (5 : Int32) ≤ Int32.ofNat i from i32_nle (n := 5) (by omega) (by omega))]
    simp only [grd, inb_ofNat (show i < 5 by omega) (by omega), if_true, i32_clampN (show i < 2147483648 by omega), i32_succ]
    have e6 : slc a M 6 i = M (a + 6) i := slc_at (by decide)
    have e4 : slc a M 4 i = M (a + 4) i := slc_at (by decide)
    by_cases q1 : M (a + 6) i ≤ 0
    · have e : hAt (slc a M) s i = false := by unfold hAt; rw [e6, decide_eq_true q1]; rfl
      rw [if_pos q1, e, if_neg (by decide)]
    · rw [if_neg q1]
      by_cases q2 : M (a + 4) i = s
      · have e : hAt (slc a M) s i = true := by unfold hAt; rw [e6, e4, decide_eq_false q1, decide_eq_true q2]; rfl
        rw [if_pos q2, e, if_pos rfl]
      · have e : hAt (slc a M) s i = false := by unfold hAt; rw [e6, e4, decide_eq_false q1, decide_eq_false q2]; rfl
        rw [if_neg q2, e, if_neg (by decide)]
theorem fHC_lt {s : Int32} : ∀ (k i c : Nat), xF (ρ := Option Nat) (fun (_ : Unit) c => if hAt T s c = true then .inr (some c) else .inl ()) (fun _ => none) k i () = some c → c < i + k := by
  intro k
  induction k with
  | zero => intro i c h; cases h
  | succ k ih =>
    intro i c h
    rw [xF] at h
    by_cases q : hAt T s i = true
    · rw [if_pos q] at h
      cases h; omega
    · rw [if_neg q] at h
      have := ih (i + 1) c h
      omega
theorem m_game_22 {d s : Nat} {M : Mm} (hO : lwOK W) (hR : RW nd nc T L (M 209)) (hW : wLaw W M) (hd : d < nd) (hs : s < 10) (hsd : T 1 s = Int32.ofNat d) : ∀ (n k i : Nat), i + k = nc → k < n → ∃ M', f_X11_game_22 20000 n (Int32.ofNat d) (Int32.ofNat i) M = some (match xF (ρ := Option Nat) (fun (_ : Unit) c => if hAt T (Int32.ofNat s) c = true then .inr (some c) else .inl ()) (fun _ => none) k i () with
    | some c => nF (fun v ch => if rsV W (sFx T (Int32.ofNat c) (Int32.ofNat d)) ch = true then v ||| ((1 : Int32) <<< (Int32.ofNat ch &&& 31)) else v) 4 0 0
    | none => -1, M') ∧ M' 209 = M 209 ∧ ∀ x, x ≠ 209 → x ≠ 216 → M' x = M x := by
  have hnc := hR.1.2.1
  have hnd := hR.1.1
  intro n
  induction n with
  | zero => intro k i _ h; omega
  | succ n ih =>
    intro k i hik hk
    rw [f_X11_game_22, m_cellars]
    simp only [bnd]
    rw [hR.1.2.2.2.2.2]
    match k with
    | 0 =>
      rw [if_pos (i32_len (by omega) (by omega))]
      exact ⟨M, rfl, rfl, fun _ _ _ => rfl⟩
    | k + 1 =>
      have hi : i < nc := by omega
      obtain ⟨⟨pl, hpl, epl⟩, -⟩ := hR.2.2.2.2.2.2.1.2.2.2.2 i hi
      rw [if_neg (i32_nle hi (by omega)), m_free01 hR hi, xF]
      simp only [m_eaterOf hR hi, i32_succ]
      by_cases q1 : T 6 i ≤ 0
      · have e : hAt T (Int32.ofNat s) i = false := by unfold hAt; rw [decide_eq_true q1]; rfl
        rw [if_pos q1, e, if_neg (by decide), if_neg (by decide)]
        exact ih k (i + 1) (by omega) (by omega)
      · rw [if_neg q1, if_pos rfl]
        by_cases q2 : T 4 i = Int32.ofNat s
        · have e : hAt T (Int32.ofNat s) i = true := by unfold hAt; rw [decide_eq_false q1, decide_eq_true q2]; rfl
          have ew : sWho T i = Int32.ofNat d := by rw [sWho_pl hs q2]; exact hsd
          rw [e, if_pos rfl, if_pos ew]
          obtain ⟨M', b1, b2, b3⟩ := m_game_55 (c := i) (d := d) hO hi hd 20000 4 0 0 M hR hW (by omega) (by omega)
          exact ⟨M', b1, b2, b3⟩
        · have e : hAt T (Int32.ofNat s) i = false := by unfold hAt; rw [decide_eq_false q1, decide_eq_false q2]; rfl
          have ew : ¬ sWho T i = Int32.ofNat d := by
            rw [sWho_pl hpl epl]
            intro h9
            have h1 := RW_seatN hR hpl hd h9
            have h2 := RW_seatN hR hs hd hsd
            rw [h1] at h2
            exact q2 (epl.trans h2)
          rw [e, if_neg ew, if_neg (show ¬ (false = true) by decide)]
          exact ih k (i + 1) (by omega) (by omega)
theorem c_gameU (N : Nat) (v1 s : Int32) (M : Mm) (r : Int32) (h1 : f_X10_needsDiner N v1 M = some (.inl 0, M)) (h2 : f_X6_seatOf N 7 v1 M = some (s, M)) (h3 : f_X6_firstHeldAt N 7 s M = some (r, M)) : f_X10_game N v1 M = if r = -1 then some (.inl (-1), M) else f_X10_game_33 N N v1 r 0 0 M := by
  unfold f_X10_game
  simp only [h1, h2, h3, bnx, bnd]
theorem c_game0 {N c d : Nat} (hN : 4 < N) (hO : lwOK W) (hc : c < 5) (hd : d < 8) (M : Mm) (h1 : cLaw 25 W M) (h2 : slc 7 M = T) : ∃ M', f_X10_game_33 20000 N (Int32.ofNat d) (Int32.ofNat c) 0 0 M = some (.inl (nF (fun v ch => if rsV W (sFx T (Int32.ofNat c) (Int32.ofNat d)) ch = true then v ||| ((1 : Int32) <<< (Int32.ofNat ch &&& 31)) else v) 4 0 0), M') ∧ ∀ x, x ≠ 40 → M' x = M x := c_game_33 hO hc hd N 4 0 0 M h1 h2 (by omega) hN
theorem P_game {M : Mm} (h : InvM M) (v1 : Int32) : Kd (fun M => f_L_game 20000 v1 M) (fun M => f_X11_game 20000 v1 M) M := by
  obtain ⟨nd, nc, T, L, K, ms, im, tp, ft, h, hR, hs, hz, h70, h71, hnd, hnc⟩ := Ix h
  have hO : lwOK K.2 := h.2.2.1
  rcases i32_rng v1 (n := nd) (by omega) with ⟨d, hd, rfl⟩ | hb
  · obtain ⟨s, hs10, ews, ets⟩ := hR.2.2.1.1 d hd
    have hw : rSeat nd (slc 7 M) (M 209) := by rw [hs]; exact hR.2.2.1
    have hse : f_X6_seatOf 20000 7 (Int32.ofNat d) M = some (Int32.ofNat s, M) := by rw [c_seatOf hnd hw hd, ews]
    have hfh := c_fHA (N := 20000) (a := 7) (s := Int32.ofNat s) (by decide) hnc h71
    rw [hs] at hfh
    have hmod : ∀ M', mI (nd, nc, T, L) K ms im tp ft M' → ∃ M2, f_X11_game 20000 (Int32.ofNat d) M' = some (match fHC nc T (Int32.ofNat s) with
        | some c => nF (fun v ch => if rsV K.2 (sFx T (Int32.ofNat c) (Int32.ofNat d)) ch = true then v ||| ((1 : Int32) <<< (Int32.ofNat ch &&& 31)) else v) 4 0 0
        | none => -1, M2) ∧ mQ M2 M' ∧ M2 208 0 = 0 := fun M' hm => by
      obtain ⟨M2, b1, b2, b3⟩ := m_game_22 (s := s) hO (mW hm (c := 0)) (mWl hm) hd hs10 ets 20000 nc 0 (by omega) (by omega)
      refine ⟨M2, ?_, (mQs b2 (fun x x1 x2 _ _ => ?_)).trans mQ.t208, by rw [b3 208 (by decide) (by decide), wr_eq]⟩
      · simp only [f_X11_game, lt, m_noD (mW hm).1.2.2.2.2.1 hd hnd, bnd, if_true, m_th0]
        exact b1
      · by_cases q : x = 209
        · subst q; exact b2
        · exact b3 x q x2
    cases hq : fHC nc T (Int32.ofNat s) with
    | none =>
      rw [hq] at hfh hmod
      refine Kr (F := fun M => f_X10_game 20000 (Int32.ofNat d) M) (r := -1) (M1 := M) (fun M => rfl) h ?_ hz hmod
      show f_X10_game 20000 (Int32.ofNat d) M = _
      rw [c_gameU 20000 _ _ M _ (c_nD h70 hd hnd) hse hfh, if_pos rfl]
    | some c =>
      rw [hq] at hfh hmod
      have hc : c < nc := by have := fHC_lt nc 0 c hq; omega
      obtain ⟨M1, a1, a2⟩ := c_game0 (T := T) (N := 20000) (c := c) (d := d) (by decide) hO (by omega) (by omega) M h.1.2.2.1.1 hs
      refine Kr (F := fun M => f_X10_game 20000 (Int32.ofNat d) M) (r := nF (fun v ch => if rsV K.2 (sFx T (Int32.ofNat c) (Int32.ofNat d)) ch = true then v ||| ((1 : Int32) <<< (Int32.ofNat ch &&& 31)) else v) 4 0 0) (M1 := M1) (fun M => rfl) h ?_ (cQ40 a2 h.1.2.2.2.2.2.2.2) hmod
      show f_X10_game 20000 (Int32.ofNat d) M = _
      rw [c_gameU 20000 _ _ M _ (c_nD h70 hd hnd) hse hfh, if_neg (i32_nm1 (by omega))]
      exact a1
  · refine Kx (F := fun M => f_X10_game 20000 v1 M) (e := "java/lang/IndexOutOfBoundsException") (code := 1) (M1 := M) (fun M => rfl) h ?_ hz (fun M => by simp) (by decide) (fun M' hm => ⟨wr (wr M' 208 0 0) 208 0 1, ?_, mQ.t208.trans mQ.t208, wr_eq⟩)
    · simp only [f_X10_game, c_nDx h70 hb, bnx]
    · simp only [f_X11_game, lt, m_noDx (mW hm).1.2.2.2.2.1 hb hnd, bnd, m_th1, show ¬ (1 : Int32) = 0 from by decide, if_false]
end GM
