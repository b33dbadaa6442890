/-! The tape fed and cut. -/
def bI9 (v : Int32) (s : Nat) : Int32 := ((v.toUInt32 >>> ((Int32.ofNat s).toUInt32 &&& Int32.toUInt32 31)).toInt32 &&& (255 : Int32))
def bN9 (v : Int32) (s : Nat) : Nat := (bI9 v s).toNatClampNeg
theorem bI_ex {v : Int32} {s : Nat} : bN9 v s < 256 ∧ bI9 v s = Int32.ofNat (bN9 v s) := by
  obtain ⟨k, hk, e⟩ := hB_ex (x := bI9 v s) (n := 8) (by omega) (fun i h1 h2 => by
    unfold bI9
    rw [hB_and, hb_255 h2, decide_eq_false (by omega), Bool.and_false])
  have h : bN9 v s = k := by unfold bN9; rw [e, i32_clampN (by omega)]
  rw [h]
  exact ⟨by omega, e⟩
theorem to8_eq {a b : Int32} (h : ∀ i, i < 8 → hb9 a i = hb9 b i) : a.toInt8 = b.toInt8 := by
  apply Int8.toBitVec_inj.mp
  rw [Int32.toBitVec_toInt8, Int32.toBitVec_toInt8, BitVec.signExtend_eq_setWidth_of_le _ (by decide), BitVec.signExtend_eq_setWidth_of_le _ (by decide)]
  apply BitVec.eq_of_getLsbD_eq
  intro i hi
  rw [BitVec.getLsbD_setWidth, BitVec.getLsbD_setWidth]
  have := h i hi
  unfold hb9 at this
  rw [this]
theorem nar_eq {v : Int32} {s : Nat} (hs : s ≤ 24) : vp_nar .byte ((v >>> (Int32.ofNat s &&& 31)).toInt8.toInt32) = sx (bN9 v s) := by
  unfold sx
  rw [← bI_ex.2, vp_nar_byte, Int8.toInt8_toInt32, to8_eq (b := bI9 v s) (fun i hi => ?_)]
  unfold bI9
  rw [hb_shr (by omega) (by omega), hB_and, hb_shru (by omega), hb_255 (by omega), decide_eq_true hi, Bool.and_true]
section TP
variable {tp : List Nat} {M : Mm}
theorem cTape.add {b : Nat} (h : cTape tp M) (hl : tp.length < 400) (hb : b < 256) : cTape (tp ++ [b]) (wr (wr M 2 tp.length (Int32.ofNat b)) 1 1 (Int32.ofNat (tp.length + 1))) := by
  obtain ⟨a1, a2, a3⟩ := h
  refine ⟨by rw [List.length_append]; simp; omega, by rw [wr_eq, List.length_append]; rfl, fun j hj => ?_⟩
  rw [wr_ne (by decide)]
  rw [List.length_append] at hj
  by_cases q : j < tp.length
  · rw [List.getElem_append_left q, wr_nk (by omega)]
    exact a3 j q
  · have hj' : j = tp.length := by simp at hj; omega
    subst hj'
    rw [List.getElem_append_right (Nat.le_refl _), wr_eq]
    simp
    exact hb
theorem c_add1 {N n s : Nat} {v : Int32} (h : cTape tp M) (hl : tp.length < 400) (hs : s ≤ 24) : ∃ M', f_X8_adds_3 N (n + 1) v (Int32.ofNat s) M = f_X8_adds_3 N n v (Int32.ofNat s + (-8)) M' ∧ cTape (tp ++ [bN9 v s]) M' ∧ ∀ x, x ≠ 1 → x ≠ 2 → M' x = M x := by
  have h11 : M 1 1 = Int32.ofNat tp.length := h.2.1
  rw [f_X8_adds_3, if_neg (i32_nn (by omega)), h11, if_neg (show ¬ (400 : Int32) ≤ Int32.ofNat tp.length from i32_nle (n := 400) hl (by omega))]
  simp only [grd, inb_ofNat hl (show tp.length < 2147483648 by omega), if_true, lt, i32_clampN (show tp.length < 2147483648 by omega)]
  rw [wr_ne (show (1 : Nat) ≠ 2 by decide), h11, i32_succ]
  refine ⟨_, rfl, ?_, fun x h1 h2 => by rw [wr_nrow h1, wr_nrow h2]⟩
  rw [show ((v.toUInt32 >>> ((Int32.ofNat s).toUInt32 &&& Int32.toUInt32 31)).toInt32 &&& (255 : Int32)) = Int32.ofNat (bN9 v s) from bI_ex.2]
  exact h.add hl bI_ex.1
def by4 (v : Int32) : List Nat := [bN9 v 24, bN9 v 16, bN9 v 8, bN9 v 0]
theorem c_add4 {N : Nat} {v : Int32} (hN : 4 < N) (h : cTape tp M) (hl : tp.length + 4 ≤ 400) : ∃ M', f_X8_adds N v M = some (0, M') ∧ cTape (tp ++ by4 v) M' ∧ ∀ x, x ≠ 1 → x ≠ 2 → M' x = M x := by
  obtain ⟨n, rfl⟩ : ∃ n, N = n + 5 := ⟨N - 5, by omega⟩
  obtain ⟨M1, a1, a2, a3⟩ := c_add1 (N := n + 5) (n := n + 4) (s := 24) (v := v) h (by omega) (by omega)
  obtain ⟨M2, b1, b2, b3⟩ := c_add1 (N := n + 5) (n := n + 3) (s := 16) (v := v) a2 (by rw [List.length_append]; simp; omega) (by omega)
  obtain ⟨M3, c1, c2, c3⟩ := c_add1 (N := n + 5) (n := n + 2) (s := 8) (v := v) b2 (by rw [List.length_append, List.length_append]; simp; omega) (by omega)
  obtain ⟨M4, d1, d2, d3⟩ := c_add1 (N := n + 5) (n := n + 1) (s := 0) (v := v) c2 (by rw [List.length_append, List.length_append, List.length_append]; simp; omega) (by omega)
  refine ⟨M4, ?_, ?_, fun x h1 h2 => by rw [d3 x h1 h2, c3 x h1 h2, b3 x h1 h2, a3 x h1 h2]⟩
  · unfold f_X8_adds
    rw [show (24 : Int32) = Int32.ofNat 24 from rfl, a1, show Int32.ofNat 24 + (-8) = Int32.ofNat 16 from by decide, b1, show Int32.ofNat 16 + (-8) = Int32.ofNat 8 from by decide, c1, show Int32.ofNat 8 + (-8) = Int32.ofNat 0 from by decide, d1, f_X8_adds_3, if_pos (by decide)]
  · have e : tp ++ by4 v = tp ++ [bN9 v 24] ++ [bN9 v 16] ++ [bN9 v 8] ++ [bN9 v 0] := by unfold by4; simp
    rw [e]; exact d2
theorem c_feed {a b c d e : Int32} {N : Nat} (hN : 4 < N) (h : cTape tp M) (hl : tp.length + 20 ≤ 400) : ∃ M', f_X10_feed N a b c d e M = some (Int32.ofNat (tp.length + 20), M') ∧ cTape (tp ++ (by4 a ++ by4 b ++ by4 c ++ by4 d ++ by4 e)) M' ∧ ∀ x, x ≠ 1 → x ≠ 2 → M' x = M x := by
  have l4 : ∀ v, (by4 v).length = 4 := fun v => rfl
  obtain ⟨M1, a1, a2, a3⟩ := c_add4 (v := a) hN h (by omega)
  obtain ⟨M2, b1, b2, b3⟩ := c_add4 (v := b) hN a2 (by rw [List.length_append, l4]; omega)
  obtain ⟨M3, c1, c2, c3⟩ := c_add4 (v := c) hN b2 (by rw [List.length_append, List.length_append, l4, l4]; omega)
  obtain ⟨M4, d1, d2, d3⟩ := c_add4 (v := d) hN c2 (by rw [List.length_append, List.length_append, List.length_append, l4, l4, l4]; omega)
  obtain ⟨M5, e1, e2, e3⟩ := c_add4 (v := e) hN d2 (by rw [List.length_append, List.length_append, List.length_append, List.length_append, l4, l4, l4, l4]; omega)
  have el : tp ++ (by4 a ++ by4 b ++ by4 c ++ by4 d ++ by4 e) = tp ++ by4 a ++ by4 b ++ by4 c ++ by4 d ++ by4 e := by simp only [List.append_assoc]
  refine ⟨M5, ?_, by rw [el]; exact e2, fun x h1 h2 => by rw [e3 x h1 h2, d3 x h1 h2, c3 x h1 h2, b3 x h1 h2, a3 x h1 h2]⟩
  unfold f_X10_feed
  rw [h.2.1, show Int32.ofNat tp.length + (20 : Int32) = Int32.ofNat (tp.length + 20) from i32_addN _ 20, if_pos (show Int32.ofNat (tp.length + 20) ≤ (400 : Int32) from i32_len (n := 400) hl (by omega))]
  simp only [a1, bnd, b1, c1, d1, e1]
  rw [e2.2.1, ← el, List.length_append]
  rfl
def fv5 (a b c d e : Int32) (j : Nat) : Int32 := match j with
  | 0 => a
  | 1 => b
  | 2 => c
  | 3 => d
  | _ => e
def byAt9 (fv : Nat → Int32) (k : Nat) : Nat := bN9 (fv (k / 4)) (24 - 8 * (k % 4))
theorem bAt_ls {a b c d e : Int32} {k : Nat} (hk : k < 20) : (by4 a ++ by4 b ++ by4 c ++ by4 d ++ by4 e)[k]? = some (byAt9 (fv5 a b c d e) k) := by
  match k, hk with
  | 0, _ | 1, _ | 2, _ | 3, _ | 4, _ | 5, _ | 6, _ | 7, _ | 8, _ | 9, _ | 10, _ | 11, _ | 12, _ | 13, _ | 14, _ | 15, _ | 16, _ | 17, _ | 18, _ | 19, _ => rfl
  | k + 20, hk => omega
theorem m_feed_60 {l : Nat} {fv : Nat → Int32} (hl : l + 20 ≤ 400) : ∀ (n k i : Nat) (M : Mm), M 208 9 = Int32.ofNat l → (∀ j, j < 5 → M 215 j = fv j) → i + k = 20 → k < n → ∃ M', f_X11_feed_60 20000 n (Int32.ofNat i) M = some (Int32.ofNat (l + 20), M') ∧ (∀ j, M' 214 j = if l + i ≤ j ∧ j < l + 20 then sx (byAt9 fv (j - l)) else M 214 j) ∧ M' 208 9 = Int32.ofNat (l + 20) ∧ (∀ j, j ≠ 9 → M' 208 j = M 208 j) ∧ ∀ x, x ≠ 208 → x ≠ 214 → M' x = M x := by
  intro n
  induction n with
  | zero => intro k i M _ _ _ h; omega
  | succ n ih =>
    intro k i M h9 h5 hik hk
    rw [f_X11_feed_60]
    match k with
    | 0 =>
      rw [if_pos (show (20 : Int32) ≤ Int32.ofNat i from i32_len (k := 20) (by omega) (by omega))]
      simp only [lt]
      rw [h9, show Int32.ofNat l + (20 : Int32) = Int32.ofNat (l + 20) from i32_addN _ 20, wr_eq]
      exact ⟨_, rfl, fun j => by rw [if_neg (by omega), wr_ne (by decide)], wr_eq, fun j hj => wr_nk hj, fun x h1 h2 => wr_nrow h1⟩
    | k + 1 =>
      have e1 : Int32.ofNat i / 4 = Int32.ofNat (i / 4) := i32_divN (m := 4) (by omega) (by omega)
      have e2 : Int32.ofNat i - Int32.ofNat (i / 4) * 4 = Int32.ofNat (i % 4) := by
        rw [← e1]; exact i32_remN (m := 4) (by omega) (by omega)
      have e3 : (24 : Int32) - 8 * Int32.ofNat (i % 4) = Int32.ofNat (24 - 8 * (i % 4)) := by
        have h8 : ∀ r, r < 4 → (24 : Int32) - 8 * Int32.ofNat r = Int32.ofNat (24 - 8 * r) := by decide
        exact h8 _ (Nat.mod_lt _ (by decide))
      rw [if_neg (show ¬ (20 : Int32) ≤ Int32.ofNat i from i32_nle (n := 20) (by omega) (by omega)), h9, e1, e2, e3, i32_addN]
      simp only [grd, inb_ofNat (show i / 4 < 5 by omega) (by omega), inb_ofNat (show l + i < 400 by omega) (by omega), if_true, lt, i32_clampN (show i / 4 < 2147483648 by omega), i32_clampN (show l + i < 2147483648 by omega), h5 (i / 4) (by omega), nar_eq (show 24 - 8 * (i % 4) ≤ 24 by omega), i32_succ]
      obtain ⟨M', a1, a2, a3, a4, a5⟩ := ih k (i + 1) (wr M 214 (l + i) (sx (bN9 (fv (i / 4)) (24 - 8 * (i % 4))))) (by rw [wr_ne (by decide)]; exact h9) (fun j hj => by rw [wr_ne (by decide)]; exact h5 j hj) (by omega) (by omega)
      refine ⟨M', a1, fun j => ?_, a3, fun j hj => by rw [a4 j hj, wr_ne (by decide)], fun x h1 h2 => by rw [a5 x h1 h2, wr_nrow h2]⟩
      rw [a2 j]
      by_cases q : j = l + i
      · subst q
        rw [if_neg (by omega), if_pos (by omega), wr_eq, show l + i - l = i from by omega]; rfl
      · rw [wr_nk q]
        by_cases q2 : l + (i + 1) ≤ j ∧ j < l + 20
        · rw [if_pos q2, if_pos (by omega)]
        · rw [if_neg q2, if_neg (by omega)]
theorem m_feed0 {l N : Nat} {fv : Nat → Int32} (hN : 20 < N) (hl : l + 20 ≤ 400) (M : Mm) (h1 : M 208 9 = Int32.ofNat l) (h2 : ∀ j, j < 5 → M 215 j = fv j) : ∃ M', f_X11_feed_60 20000 N 0 M = some (Int32.ofNat (l + 20), M') ∧ (∀ j, M' 214 j = if l + 0 ≤ j ∧ j < l + 20 then sx (byAt9 fv (j - l)) else M 214 j) ∧ M' 208 9 = Int32.ofNat (l + 20) ∧ (∀ j, j ≠ 9 → M' 208 j = M 208 j) ∧ ∀ x, x ≠ 208 → x ≠ 214 → M' x = M x := m_feed_60 hl N 20 0 M h1 h2 (by omega) hN
end TP
theorem m_feedU (N : Nat) (a b c d e : Int32) (M : Mm) (h : ¬ (M 208 9 + 20 ≤ 400)) : f_X11_feed N a b c d e M = some (-1, wr M 208 0 0) := by
  unfold f_X11_feed lt
  dsimp only
  rw [if_neg (by rw [wr_nk (by decide)]; exact h)]
theorem m_feedV (N : Nat) (a b c d e : Int32) (M : Mm) (h : M 208 9 + 20 ≤ 400) : f_X11_feed N a b c d e M = f_X11_feed_60 N N 0 (wr (wr (wr (wr (wr (wr M 208 0 0) 215 0 a) 215 1 b) 215 2 c) 215 3 d) 215 4 e) := by
  unfold f_X11_feed
  simp only [lt]
  rw [if_pos (by rw [wr_nk (by decide)]; exact h)]
  simp only [grd, show inb (0 : Int32) 5 = true from by decide, show inb (1 : Int32) 5 = true from by decide, show inb (2 : Int32) 5 = true from by decide, show inb (3 : Int32) 5 = true from by decide, show inb (4 : Int32) 5 = true from by decide, if_true, show (0 : Int32).toNatClampNeg = 0 from by decide, show (1 : Int32).toNatClampNeg = 1 from by decide, show (2 : Int32).toNatClampNeg = 2 from by decide, show (3 : Int32).toNatClampNeg = 3 from by decide, show (4 : Int32).toNatClampNeg = 4 from by decide]
theorem P_feed {M : Mm} (h : InvM M) (a b c d e : Int32) : Cd (fun M => f_X10_feed 20000 a b c d e M) (fun M => f_X11_feed 20000 a b c d e M) M := by
  obtain ⟨nd, nc, T, L, K, ms, im, tp, ft, h, hR, hs, hz, h70, h71, hnd, hnc⟩ := Ix h
  have hT := h.1.2.2.2.2.2.1
  have h400 : tp.length ≤ 400 := hT.1
  by_cases q : tp.length + 20 ≤ 400
  · obtain ⟨M1, a1, a2, a3⟩ := c_feed (N := 20000) (a := a) (b := b) (c := c) (d := d) (e := e) (by decide) hT q
    refine Ca (A' := (nd, nc, T, L)) (K' := K) (ms' := ms) (im' := im) (tp' := tp ++ (by4 a ++ by4 b ++ by4 c ++ by4 d ++ by4 e)) (ft' := ft) h a1 ?_ (fun x hx => a3 x (by omega) (by omega)) h.2.2 ⟨0, fun M' hm => ?_⟩
    · obtain ⟨b1, b2, ⟨b3, b4⟩, b5, b6, b7, b8, b9⟩ := h.1
      refine ⟨by rw [slc_ex (M := M) (fun i hi => a3 _ (by omega) (by omega))]; exact b1, b2.frame (a3 _ (by omega) (by omega)) (a3 _ (by omega) (by omega)), ⟨b3.frame (fun i hi => a3 _ (by omega) (by omega)), by rw [a3 25 (by omega) (by omega)]; exact b4⟩, b5.fr (fun x h1 h2 => a3 x (by omega) (by omega)) (by rw [a3 0 (by omega) (by omega)]) (by rw [a3 0 (by omega) (by omega)]), b6.fr (fun x h1 h2 => a3 x (by omega) (by omega)) (by rw [a3 0 (by omega) (by omega)]), a2, by rw [a3 0 (by omega) (by omega)]; exact b8, by rw [slc_ex (M := M) (fun i hi => a3 _ (by omega) (by omega))]; exact b9⟩
    · have e9 : M' 208 9 = Int32.ofNat tp.length := hm.2.2.2.2.1.1
      obtain ⟨M2, c1, c2, c3, c4, c5⟩ := m_feed0 (N := 20000) (l := tp.length) (fv := fv5 a b c d e) (by decide) q (wr (wr (wr (wr (wr (wr M' 208 0 0) 215 0 a) 215 1 b) 215 2 c) 215 3 d) 215 4 e) (by
        rw [wr_ne (by decide), wr_ne (by decide), wr_ne (by decide), wr_ne (by decide), wr_ne (by decide), wr_nk (by decide)]; exact e9) (fun j hj => by
        match j, hj with
        | 0, _ | 1, _ | 2, _ | 3, _ | 4, _ => simp (disch := decide) only [wr_nk, wr_eq, fv5])
      have hx : ∀ x, x ≠ 208 → x ≠ 214 → x ≠ 215 → M2 x = M' x := fun x h1 h2 h3 => by rw [c5 x h1 h2, wr_nrow h3, wr_nrow h3, wr_nrow h3, wr_nrow h3, wr_nrow h3, wr_nrow h1]
      have h8 : ∀ j, j ≠ 9 → j ≠ 0 → M2 208 j = M' 208 j := fun j h1 h2 => by rw [c4 j h1, wr_ne (by decide), wr_ne (by decide), wr_ne (by decide), wr_ne (by decide), wr_ne (by decide), wr_nk h2]
      obtain ⟨d1, ⟨d2, d3⟩, d4, d5, ⟨d6, d61⟩, d7, d8⟩ := hm
      refine ⟨M2, ?_, ⟨by rw [hx 209 (by decide) (by decide) (by decide)]; exact d1, ⟨d2.cg (hx 209 (by decide) (by decide) (by decide)), by rw [hx 209 (by decide) (by decide) (by decide)]; exact d3⟩, d4.fr (h8 7 (by decide) (by decide)) (hx 213 (by decide) (by decide) (by decide)), d5.fr (h8 6 (by decide) (by decide)) (hx 210 (by decide) (by decide) (by decide)), ⟨?_, fun j hj => ?_⟩, by rw [h8 14 (by decide) (by decide)]; exact d7, by rw [h8 18 (by decide) (by decide)]; exact d8⟩, fun x h9 => hx x (by omega) (by omega) (by omega), by rw [c4 0 (by decide), wr_ne (by decide), wr_ne (by decide), wr_ne (by decide), wr_ne (by decide), wr_ne (by decide), wr_eq]⟩
      · show f_X11_feed 20000 a b c d e M' = _
        rw [m_feedV 20000 a b c d e M' (by rw [e9, show Int32.ofNat tp.length + (20 : Int32) = Int32.ofNat (tp.length + 20) from i32_addN _ 20]; exact i32_len (n := 400) q (by omega))]
        exact c1
      · rw [c3, List.length_append]; rfl
      · rw [c2 j]
        have hlen : (tp ++ (by4 a ++ by4 b ++ by4 c ++ by4 d ++ by4 e)).length = tp.length + 20 := by rw [List.length_append]; rfl
        rw [hlen] at hj
        by_cases qj : j < tp.length
        · rw [if_neg (by omega), wr_ne (by decide), wr_ne (by decide), wr_ne (by decide), wr_ne (by decide), wr_ne (by decide), wr_ne (by decide), List.getElem_append_left qj]
          exact d61 j qj
        · rw [if_pos (by omega), List.getElem_append_right (by omega)]
          have h9 := bAt_ls (a := a) (b := b) (c := c) (d := d) (e := e) (show j - tp.length < 20 by omega)
          rw [List.getElem?_eq_getElem (show j - tp.length < (by4 a ++ by4 b ++ by4 c ++ by4 d ++ by4 e).length from by show j - tp.length < 20; omega)] at h9
          rw [Option.some.inj h9]
  · refine Cr (r := -1) (M1 := M) h ?_ hz (fun M' hm => ⟨wr M' 208 0 0, ?_, mQ.t208⟩)
    · show f_X10_feed 20000 a b c d e M = _
      unfold f_X10_feed
      rw [hT.2.1, show Int32.ofNat tp.length + (20 : Int32) = Int32.ofNat (tp.length + 20) from i32_addN _ 20, if_neg (show ¬ Int32.ofNat (tp.length + 20) ≤ (400 : Int32) from i32_nle (k := 400) (by omega) (by omega))]
    · show f_X11_feed 20000 a b c d e M' = _
      rw [m_feedU]
      rw [hm.2.2.2.2.1.1, show Int32.ofNat tp.length + (20 : Int32) = Int32.ofNat (tp.length + 20) from i32_addN _ 20]
      exact i32_nle (k := 400) (by omega) (by omega)
theorem P_end {M : Mm} (h : InvM M) (v1 : Int32) : Cd (fun M => f_X10_end 20000 v1 M) (fun M => f_X11_end 20000 v1 M) M := by
  obtain ⟨nd, nc, T, L, K, ms, im, tp, ft, h, hR, hs, hz, h70, h71, hnd, hnc⟩ := Ix h
  have hT := h.1.2.2.2.2.2.1
  have h400 : tp.length ≤ 400 := hT.1
  rcases i32_rng v1 (n := tp.length + 1) (by omega) with ⟨n, hn, rfl⟩ | hb
  · have hlen : (tp.take n).length = n := by rw [List.length_take]; omega
    refine Ca (A' := (nd, nc, T, L)) (K' := K) (ms' := ms) (im' := im) (tp' := tp.take n) (ft' := ft) (r := 1) (M1 := wr M 1 1 (Int32.ofNat n)) h ?_ ?_ (fun x hx => wr_nrow (by omega)) h.2.2 ⟨0, fun M' hm => ?_⟩
    · show f_X10_end 20000 (Int32.ofNat n) M = _
      unfold f_X10_end
      rw [if_neg (i32_nn (by omega)), hT.2.1, if_pos (i32_len (by omega) (by omega))]; rfl
    · have hx : ∀ x, x ≠ 1 → wr M 1 1 (Int32.ofNat n) x = M x := fun x hx => wr_nrow hx
      obtain ⟨b1, b2, ⟨b3, b4⟩, b5, b6, ⟨t1, t2, t3⟩, b8, b9⟩ := h.1
      refine ⟨by rw [slc_ex (M := M) (fun i hi => hx _ (by omega))]; exact b1, b2.frame (hx _ (by omega)) (hx _ (by omega)), ⟨b3.frame (fun i hi => hx _ (by omega)), by rw [hx 25 (by omega)]; exact b4⟩, b5.fr (fun x h1 h2 => hx x (by omega)) (by rw [hx 0 (by omega)]) (by rw [hx 0 (by omega)]), b6.fr (fun x h1 h2 => hx x (by omega)) (by rw [hx 0 (by omega)]), ⟨by omega, by rw [wr_eq, hlen], fun j hj => ?_⟩, by rw [hx 0 (by omega)]; exact b8, by rw [slc_ex (M := M) (fun i hi => hx _ (by omega))]; exact b9⟩
      rw [hlen] at hj
      rw [List.getElem_take, hx 2 (by decide)]
      exact t3 j (by omega)
    · obtain ⟨d1, ⟨d2, d3⟩, d4, d5, ⟨d6, d61⟩, d7, d8⟩ := hm
      have hx : ∀ x, x ≠ 208 → wr (wr M' 208 0 0) 208 9 (Int32.ofNat n) x = M' x := fun x hx => by rw [wr_nrow hx, wr_nrow hx]
      have h8 : ∀ j, j ≠ 9 → j ≠ 0 → wr (wr M' 208 0 0) 208 9 (Int32.ofNat n) 208 j = M' 208 j := fun j h1 h2 => by rw [wr_nk h1, wr_nk h2]
      refine ⟨wr (wr M' 208 0 0) 208 9 (Int32.ofNat n), ?_, ⟨by rw [hx 209 (by decide)]; exact d1, ⟨d2.cg (hx 209 (by decide)), by rw [hx 209 (by decide)]; exact d3⟩, d4.fr (h8 7 (by decide) (by decide)) (hx 213 (by decide)), d5.fr (h8 6 (by decide) (by decide)) (hx 210 (by decide)), ⟨by rw [wr_eq, hlen], fun j hj => ?_⟩, by rw [h8 14 (by decide) (by decide)]; exact d7, by rw [h8 18 (by decide) (by decide)]; exact d8⟩, fun x h9 => hx x (by omega), by rw [wr_nk (by decide), wr_eq]⟩
      · show f_X11_end 20000 (Int32.ofNat n) M' = _
        unfold f_X11_end
        simp only [lt]
        rw [if_neg (i32_nn (by omega)), wr_nk (show (9 : Nat) ≠ 0 by decide), d6, if_pos (i32_len (by omega) (by omega))]
      · rw [hlen] at hj
        rw [List.getElem_take, hx 214 (by decide)]
        exact d61 j (by omega)
  · refine Cr (r := 0) (M1 := M) h ?_ hz (fun M' hm => ⟨wr M' 208 0 0, ?_, mQ.t208⟩)
    · show f_X10_end 20000 v1 M = _
      unfold f_X10_end
      rw [hT.2.1]
      rcases hb with hb | hb
      · rw [if_pos hb]
      · rw [if_neg (show ¬ v1 ≤ Int32.ofNat tp.length from fun h9 => absurd (Int32.le_trans hb h9) (i32_nle (by omega) (by omega)))]; split <;> rfl
    · show f_X11_end 20000 v1 M' = _
      unfold f_X11_end
      simp only [lt]
      rw [wr_nk (show (9 : Nat) ≠ 0 by decide), hm.2.2.2.2.1.1]
      rcases hb with hb | hb
      · rw [if_pos hb]
      · rw [if_neg (show ¬ v1 ≤ Int32.ofNat tp.length from fun h9 => absurd (Int32.le_trans hb h9) (i32_nle (by omega) (by omega)))]; split <;> rfl
theorem P_fault {M : Mm} (h : InvM M) : Cd (fun M => f_X10_fault 20000 M) (fun M => f_X11_fault 20000 M) M := by
  obtain ⟨nd, nc, T, L, K, ms, im, tp, ft, h, hR, hs, hz, h70, h71, hnd, hnc⟩ := Ix h
  refine Cr (r := ft) (M1 := M) h ?_ hz (fun M' hm => ⟨wr M' 208 0 0, ?_, mQ.t208⟩)
  · show some (M 0 14, M) = _
    rw [h.1.2.2.2.2.2.2.1]
  · show some ((wr M' 208 0 0) 208 14, _) = _
    rw [wr_nk (by decide), hm.2.2.2.2.2.1]
