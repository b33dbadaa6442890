/-! A line of a table's text. -/
section TN
variable {tp : List Nat} {M M' M1 M2 Mc Mr : Mm} {i m nd nc : Nat} {T : Tb} {L : List Row} {A A' : TbS}
theorem J_num {j hi : Nat} (hj : (j = 6 ∧ hi = 100) ∨ (j = 7 ∧ hi = 100) ∨ (j = 4 ∧ hi = 11)) (hT : tX tp) (hc : cP tp m i M) (ha : mA tp i M') (hs : slc 16 M = T) (hR : RW nd nc T L (M' 209)) (hO : okA (nd, nc, T, L)) : ∃ r Mc Mr, bnd (f_X9_eatsNumber 20000 (0 : Int32) (Int32.ofNat hi) M) (fun r28 M29 => lt (wr M29 16 j r28) (fun M31 => (if (M31 16 j) = (-1 : Int32) then some ((0 : Int32), M31) else some ((1 : Int32), M31)))) = some (r, Mc) ∧ f_X11_readNumber 20000 (Int32.ofNat (ix j)) (0 : Int32) (Int32.ofNat hi) M' = some (r, Mr) ∧ jO tp m (nd, nc, T, L) M M' r Mc Mr := by
  have hz : tz T := hR.2.2.2.2.2.2.2
  have hij : 4 ≤ ix j ∧ ix j ≤ 8 := by rcases hj with ⟨rfl, _⟩ | ⟨rfl, _⟩ | ⟨rfl, _⟩ <;> decide
  have hh : hi < 1000 := by omega
  have hi3 : ix j ≠ 3 := by omega
  unfold f_X11_readNumber
  by_cases g1 : gNu tp 0 hi (ps9 tp i)
  · obtain ⟨M1, b1, b2, b3⟩ := c_n1 (N := 20000) hT hc g1 (by omega)
    obtain ⟨R1, c1, c2, c3⟩ := m_n1 (N := 20000) (by decide) hT ha g1 (by decide) (by omega)
    have hv := g1.2.2
    rw [show f_X9_eatsNumber 20000 0 (Int32.ofNat hi) M = some (Int32.ofNat (vl9 tp (ps9 tp i)), M1) from b1, show f_X11_number 20000 0 (Int32.ofNat hi) M' = some (Int32.ofNat (vl9 tp (ps9 tp i)), R1) from c1]
    generalize hvv : vl9 tp (ps9 tp i) = v at hv ⊢
    simp only [bnd, lt, if_pos (i32_ge0 (show v < 2147483648 by omega)), f_X11_readNumber_29, grd, inb_ofNat (show ix j < 2107 by omega) (by omega), if_true, i32_clampN (show ix j < 2147483648 by omega), if_neg (i32_nn (show v < 2147483648 by omega))]
    rw [wr_eq, if_neg (i32_nm1 (by omega))]
    have hR1 : RW nd nc T L (R1 209) := by rw [c3.1 209 (by decide)]; exact hR
    refine ⟨1, _, _, rfl, rfl, jO.ok1 (i := i + 1) (A' := (nd, nc, wr T 0 j (Int32.ofNat v), L)) (cF.trans (fun x _ hx => wr_nrow (by omega)) b3.f) (mG9.trans ⟨fun x _ h9 => wr_nrow h9, fun j' _ _ => wr_ne (by decide), wr_nk (by omega), fun j' _ => wr_nk (by omega)⟩ c3.f) (b2.fr (wr_nrow (by decide)) (wr_nrow (by decide)) (wr_nrow (by decide)) (by rw [wr_ne (by decide)]; exact b2.2.2.2.1) b2.2.2.2.2) (c2.fr (wr_nrow (by decide)) (wr_nrow (by decide))) ?_ ?_ (ok_sc (by omega) (by omega) hO) ⟨rfl, show wr T 0 j (Int32.ofNat v) 0 10 = T 0 10 from wr_nk (by omega)⟩⟩
    · rw [slc_w0, b3.s, hs]
    · show RW nd nc (wr T 0 j (Int32.ofNat v)) L (wr R1 209 (ix j) (Int32.ofNat v) 209)
      rw [wr_row]
      exact RW_sc hR1 (by omega) ⟨fun e => ⟨v, by omega, rfl⟩, fun e => by omega, fun e => by omega⟩
  · obtain ⟨R1, c1, c2, c3⟩ := m_n0 (N := 20000) (by decide) hT ha g1 (by decide) (by omega)
    rw [show f_X9_eatsNumber 20000 0 (Int32.ofNat hi) M = some (-1, M) from c_n0 (lo := 0) hT hc g1 (by decide), show f_X11_number 20000 0 (Int32.ofNat hi) M' = some (-1, R1) from c1]
    simp only [bnd, lt, if_neg (show ¬ (0 : Int32) ≤ -1 by decide), f_X11_readNumber_29, grd, inb_ofNat (show ix j < 2107 by omega) (by omega), if_true, i32_clampN (show ix j < 2147483648 by omega), if_pos (show (-1 : Int32) < 0 by decide)]
    rw [wr_eq, if_pos rfl]
    refine ⟨0, _, _, rfl, rfl, jO.bad (i := i) (fun x _ hx => wr_nrow (by omega)) (mG9.trans ⟨fun x _ h9 => wr_nrow h9, fun j' _ _ => wr_ne (by decide), wr_nk (by omega), fun j' _ => wr_nk (by omega)⟩ c3.f) ?_ (hc.fr (wr_nrow (by decide)) (wr_nrow (by decide)) (wr_nrow (by decide)) (by rw [wr_ne (by decide)]; exact hc.2.2.2.1) hc.2.2.2.2) (c2.fr (wr_nrow (by decide)) (wr_nrow (by decide)))⟩
    rw [slc_w0, hs]
    exact tz_wr hz (show j < 11 by omega)
theorem J_menu {sw : Int32} (hT : tX tp) (hc : cP tp m i M) (ha : mA tp i M') (hs : slc 16 M = T) (hR : RW nd nc T L (M' 209)) (hO : okA (nd, nc, T, L)) : ∃ r Mc Mr, f_X7_readsServed 20000 16 sw M = some (r, Mc) ∧ f_X11_readMenu 20000 sw M' = some (r, Mr) ∧ jO tp m (nd, nc, T, L) M M' r Mc Mr := by
  have hz : tz T := hR.2.2.2.2.2.2.2
  unfold f_X7_readsServed f_X11_readMenu
  by_cases g1 : gNu tp 0 11 (ps9 tp i)
  · obtain ⟨M1, b1, b2, b3⟩ := c_n1 (N := 20000) hT hc g1 (by decide)
    obtain ⟨R1, c1, c2, c3⟩ := m_n1 (N := 20000) (by decide) hT ha g1 (by decide) (by decide)
    have hv := g1.2.2
    rw [show f_X9_eatsNumber 20000 0 11 M = some (Int32.ofNat (vl9 tp (ps9 tp i)), M1) from b1, show f_X11_number 20000 0 11 M' = some (Int32.ofNat (vl9 tp (ps9 tp i)), R1) from c1]
    generalize hvv : vl9 tp (ps9 tp i) = v at hv ⊢
    have hR1 : RW nd nc T L (R1 209) := by rw [c3.1 209 (by decide)]; exact hR
    have e6 : R1 209 6 = T 0 3 := hR1.2.1.1
    obtain ⟨M2, y1, y2, y3⟩ := c_serves (N := 20000) (a := 16) (c := v) (v2 := sw) (M := M1)
    simp only [bnd, lt, if_neg (i32_nm1 (show v < 2147483648 by omega)), if_pos (i32_ge0 (show v < 2147483648 by omega)), y1, grd, show inb (6 : Int32) 2107 = true from by decide, if_true, show (6 : Int32).toNatClampNeg = 6 from by decide, e6]
    have er : (if sw = (0 : Int32) then some ((1 : Int32), wr R1 209 6 ((T 0 3) &&& (((1 : Int32) <<< (Int32.ofNat v &&& 31)) ^^^ (-1 : Int32)))) else some ((1 : Int32), wr R1 209 6 ((T 0 3) ||| ((1 : Int32) <<< (Int32.ofNat v &&& 31))))) = some ((1 : Int32), wr R1 209 6 (dSet (T 0 3) v sw)) := by
      unfold dSet
      by_cases q : sw = 0
      · rw [if_pos q, if_pos q]
      · rw [if_neg q, if_neg q]
    refine ⟨1, M2, _, rfl, er, jO.ok1 (i := i + 1) (A' := (nd, nc, wr T 0 3 (dSet (T 0 3) v sw), L)) (cF.trans (fun x _ hx => y3 x (by omega)) b3.f) (mG9.trans ⟨fun x _ h9 => wr_nrow h9, fun j' _ _ => wr_ne (by decide), wr_nk (by decide), fun j' _ => wr_nk (by omega)⟩ c3.f) (b2.fr (y3 4 (by decide)) (y3 5 (by decide)) (y3 6 (by decide)) (by rw [y3 3 (by decide)]; exact b2.2.2.2.1) b2.2.2.2.2) (c2.fr (wr_nrow (by decide)) (wr_nrow (by decide))) ?_ ?_ (ok_sc (by decide) (by decide) hO) ⟨rfl, show wr T 0 3 (dSet (T 0 3) v sw) 0 10 = T 0 10 from wr_nk (by decide)⟩⟩
    · rw [y2, b3.s, hs]
    · show RW nd nc (wr T 0 3 (dSet (T 0 3) v sw)) L (wr R1 209 6 (dSet (T 0 3) v sw) 209)
      rw [wr_row]
      exact RW_sc (j := 3) hR1 (by decide) ⟨fun e => by omega, fun e => by omega, fun e => by omega⟩
  · obtain ⟨R1, c1, c2, c3⟩ := m_n0 (N := 20000) (by decide) hT ha g1 (by decide) (by decide)
    rw [show f_X9_eatsNumber 20000 0 11 M = some (-1, M) from c_n0 (lo := 0) (hi := 11) hT hc g1 (by decide), show f_X11_number 20000 0 11 M' = some (-1, R1) from c1]
    simp only [bnd, if_true, if_neg (show ¬ (0 : Int32) ≤ -1 by decide)]
    exact ⟨0, M, R1, rfl, rfl, jO.bad cF.rf c3.f (by rw [hs]; exact hz) hc c2⟩
theorem jO.isb {r : Int32} (h : jO tp m A M M' r Mc Mr) : isb r = true := by
  rcases h.2.2 with ⟨e, -⟩ | ⟨e, -⟩
  · rw [e]; decide
  · rw [e]; decide
theorem jO.le {r : Int32} (h : jO tp m A M1 M2 r Mc Mr) (h1 : cF M1 M) (h2 : mG9 M2 M') : jO tp m A M M' r Mc Mr := ⟨h.1.trans h1, h.2.1.trans h2, h.2.2⟩
theorem c_ne (N : Nat) (hT : tX tp) (hc : cP tp m i M) (k : Nat) (h : ¬ kd9 tp (ps9 tp i) = k) (hk : k < 2147483648) : f_X9_eats N (Int32.ofNat k) M = some (0, M) := c_e0 hT hc h hk
theorem c_L25 (hT : tX tp) (hc : cP tp m i M) (h : (8 : Int32) ≤ M 16 0 ∨ ¬ kd9 tp (ps9 tp i) = 256) : f_X7_readsLine 20000 16 M = f_X7_readsLine_25 20000 16 M := by
  unfold f_X7_readsLine
  by_cases c : (8 : Int32) ≤ M 16 0
  · rw [if_pos c]
  · rw [if_neg c, show f_X9_eats 20000 256 M = some (0, M) from c_ne 20000 hT hc 256 (h.resolve_left c) (by decide)]
    simp only [bnd, if_true]
theorem c_L49 (hT : tX tp) (hc : cP tp m i M) (h : (5 : Int32) ≤ M 16 1 ∨ ¬ kd9 tp (ps9 tp i) = 260) : f_X7_readsLine_25 20000 16 M = f_X7_readsLine_49 20000 16 M := by
  unfold f_X7_readsLine_25
  by_cases c : (5 : Int32) ≤ M 16 1
  · rw [if_pos c]
  · rw [if_neg c, show f_X9_eats 20000 260 M = some (0, M) from c_ne 20000 hT hc 260 (h.resolve_left c) (by decide)]
    simp only [bnd, if_true]
theorem c_no49 (hT : tX tp) (hc : cP tp m i M) (h : kd9 tp (ps9 tp i) < 264 ∨ 268 < kd9 tp (ps9 tp i)) : f_X7_readsLine_49 20000 16 M = some (0, M) := by
  unfold f_X7_readsLine_49
  rw [show f_X9_eats 20000 264 M = some (0, M) from c_ne 20000 hT hc 264 (by omega) (by decide)]
  simp only [bnd, if_true]
  rw [show f_X9_eats 20000 265 M = some (0, M) from c_ne 20000 hT hc 265 (by omega) (by decide)]
  simp only [if_true]
  rw [show f_X9_eats 20000 266 M = some (0, M) from c_ne 20000 hT hc 266 (by omega) (by decide)]
  simp only [if_true]
  rw [show f_X9_eats 20000 267 M = some (0, M) from c_ne 20000 hT hc 267 (by omega) (by decide)]
  simp only [if_true]
  rw [show f_X9_eats 20000 268 M = some (0, M) from c_ne 20000 hT hc 268 (by omega) (by decide)]
  simp only [if_true]
/-- one line, its first word's letters read -/
theorem J_line (hT : tX tp) (hc : cP tp m i M) (hl : mL tp i M') (hs : slc 16 M = T) (hR : RW nd nc T L (M' 209)) (hO : okA (nd, nc, T, L)) : ∃ r Mc Mr, f_X7_readsLine 20000 16 M = some (r, Mc) ∧ f_X11_readTableLine 20000 M' = some (r, Mr) ∧ jO tp m (nd, nc, T, L) M M' r Mc Mr := by
  have hz : tz T := hR.2.2.2.2.2.2.2
  have hnd := hR.1.1
  have hnc := hR.1.2.1
  have n10 : ¬ (1 : Int32) = 0 := by decide
  have h160 : M 16 0 = Int32.ofNat nd := by
    have : slc 16 M 0 0 = T 0 0 := by rw [hs]
    rw [slc_at (by decide)] at this
    exact this.trans hR.1.2.2.1
  have h161 : M 16 1 = Int32.ofNat nc := by
    have : slc 16 M 0 1 = T 0 1 := by rw [hs]
    rw [slc_at (by decide)] at this
    exact this.trans hR.1.2.2.2.1
  have W1 : ∀ k s, ixs.getD k 0 = s → k < 21 → kd9 tp (ps9 tp i) = 256 + k → f_X11_isWord 20000 (1000000 + s) M' = some (1, M') := fun k s h1 h2 h3 => m_w1 (by decide) hT h1 h2 hl h3
  have W0 : ∀ k s, ixs.getD k 0 = s → k < 21 → ¬ kd9 tp (ps9 tp i) = 256 + k → f_X11_isWord 20000 (1000000 + s) M' = some (0, M') := fun k s h1 h2 h3 => m_w0 (by decide) hT h1 h2 hl h3
  by_cases k0 : kd9 tp (ps9 tp i) = 256
  · have eW : f_X11_readTableLine 20000 M' = bnd (f_X11_readDiner 20000 M') (fun r53 M54 => grd (isb r53) (some (r53, M54))) := by
      unfold f_X11_readTableLine
      rw [show f_X11_isWord 20000 1000012 M' = some (1, M') from W1 0 12 rfl (by decide) k0]
      simp only [bnd, if_neg n10]
    rw [eW]
    by_cases c8 : nd = 8
    · rw [c_L25 hT hc (Or.inl (by rw [h160, c8]; decide)), c_L49 hT hc (Or.inr (by omega)), c_no49 hT hc (by omega)]
      have e8 : f_X11_readDiner 20000 M' = some (0, M') := by
        unfold f_X11_readDiner
        rw [m_diners, hR.1.2.2.2.2.1, c8]
        simp only [bnd]
        rw [if_pos (by decide)]
      rw [e8]
      exact ⟨0, M, M', rfl, rfl, jO.bad cF.rf mG9.rf (by rw [hs]; exact hz) hc hl.b⟩
    · obtain ⟨M1, a1, a2, a3⟩ := c_e1 (N := 20000) (k := 256) hT hc k0 (by decide)
      obtain ⟨r, Mc, Mr, b1, b2, b3⟩ := J_diner (L := L) (nd := nd) (nc := nc) hT a2 (hl.nx (k := 0) hT (by decide) k0) (by rw [a3.s]; exact hs) hR hO (by omega)
      have hb := b3.isb
      refine ⟨r, Mc, Mr, ?_, ?_, b3.le a3.f mG9.rf⟩
      · unfold f_X7_readsLine
        rw [h160, if_neg (show ¬ (8 : Int32) ≤ Int32.ofNat nd from i32_nle (n := 8) (by omega) (by omega)), show f_X9_eats 20000 256 M = some (1, M1) from a1]
        simp only [bnd, if_neg n10, b1, grd, hb, if_true]
      · rw [b2]
        simp only [bnd, grd, hb, if_true]
  · rw [c_L25 hT hc (Or.inr k0)]
    have e0 := W0 0 12 rfl (by decide) k0
    by_cases k4 : kd9 tp (ps9 tp i) = 260
    · have eW : f_X11_readTableLine 20000 M' = bnd (f_X11_readCellar 20000 M') (fun r49 M50 => grd (isb r49) (some (r49, M50))) := by
        unfold f_X11_readTableLine
        rw [show f_X11_isWord 20000 1000012 M' = some (0, M') from e0]
        simp only [bnd, if_true]
        rw [show f_X11_isWord 20000 1000016 M' = some (1, M') from W1 4 16 rfl (by decide) k4]
        simp only [if_neg n10]
      rw [eW]
      by_cases c5 : nc = 5
      · rw [c_L49 hT hc (Or.inl (by rw [h161, c5]; decide)), c_no49 hT hc (by omega)]
        have e8 : f_X11_readCellar 20000 M' = some (0, M') := by
          unfold f_X11_readCellar
          rw [m_cellars, hR.1.2.2.2.2.2, c5]
          simp only [bnd]
          rw [if_pos (by decide)]
        rw [e8]
        exact ⟨0, M, M', rfl, rfl, jO.bad cF.rf mG9.rf (by rw [hs]; exact hz) hc hl.b⟩
      · obtain ⟨M1, a1, a2, a3⟩ := c_e1 (N := 20000) (k := 260) hT hc k4 (by decide)
        obtain ⟨r, Mc, Mr, b1, b2, b3⟩ := J_cellar (L := L) (nd := nd) (nc := nc) hT a2 (hl.nx (k := 4) hT (by decide) k4) (by rw [a3.s]; exact hs) hR hO (by omega)
        have hb := b3.isb
        refine ⟨r, Mc, Mr, ?_, ?_, b3.le a3.f mG9.rf⟩
        · unfold f_X7_readsLine_25
          rw [h161, if_neg (show ¬ (5 : Int32) ≤ Int32.ofNat nc from i32_nle (n := 5) (by omega) (by omega)), show f_X9_eats 20000 260 M = some (1, M1) from a1]
          simp only [bnd, if_neg n10, b1, grd, hb, if_true]
        · rw [b2]
          simp only [bnd, grd, hb, if_true]
    · rw [c_L49 hT hc (Or.inr k4)]
      have e4 := W0 4 16 rfl (by decide) k4
      have eA : f_X11_readTableLine 20000 M' = (match f_X11_isWord 20000 1000020 M' with | some (r9, M10) => (if r9 = (0 : Int32) then bnd (f_X11_isWord 20000 1000021 M10) (fun r13 M14 => (if r13 = (0 : Int32) then bnd (f_X11_isWord 20000 1000022 M14) (fun r17 M18 => (if r17 = (0 : Int32) then bnd (f_X11_isWord 20000 1000023 M18) (fun r21 M22 => (if r21 = (0 : Int32) then bnd (f_X11_isWord 20000 1000024 M22) (fun r25 M26 => (if r25 = (0 : Int32) then f_X11_readTableLine_120 20000 M26 else bnd (f_X11_readNumber 20000 (4 : Int32) (0 : Int32) (11 : Int32) M26) (fun r29 M30 => (if r29 = (0 : Int32) then f_X11_readTableLine_120 20000 M30 else some ((1 : Int32), M30))))) else bnd (f_X11_readNumber 20000 (8 : Int32) (0 : Int32) (100 : Int32) M22) (fun r33 M34 => grd (isb r33) (some (r33, M34))))) else bnd (f_X11_readNumber 20000 (7 : Int32) (0 : Int32) (100 : Int32) M18) (fun r37 M38 => grd (isb r37) (some (r37, M38))))) else bnd (f_X11_readMenu 20000 (0 : Int32) M14) (fun r41 M42 => grd (isb r41) (some (r41, M42))))) else bnd (f_X11_readMenu 20000 (1 : Int32) M10) (fun r45 M46 => grd (isb r45) (some (r45, M46)))) | none => none) := by
        unfold f_X11_readTableLine
        rw [show f_X11_isWord 20000 1000012 M' = some (0, M') from e0]
        simp only [bnd, if_true]
        rw [show f_X11_isWord 20000 1000016 M' = some (0, M') from e4]
        simp only [if_true]
        rfl
      rw [eA]
      unfold f_X7_readsLine_49
      by_cases k8 : kd9 tp (ps9 tp i) = 264
      · obtain ⟨M1, a1, a2, a3⟩ := c_e1 (N := 20000) (k := 264) hT hc k8 (by decide)
        obtain ⟨r, Mc, Mr, b1, b2, b3⟩ := J_menu (sw := 1) (L := L) (nd := nd) (nc := nc) hT a2 (hl.nx (k := 8) hT (by decide) k8) (by rw [a3.s]; exact hs) hR hO
        have hb := b3.isb
        rw [show f_X9_eats 20000 264 M = some (1, M1) from a1, show f_X11_isWord 20000 1000020 M' = some (1, M') from W1 8 20 rfl (by decide) k8]
        simp only [bnd, if_neg n10, b1, b2, grd, hb, if_true]
        exact ⟨r, Mc, Mr, rfl, rfl, b3.le a3.f mG9.rf⟩
      · rw [show f_X9_eats 20000 264 M = some (0, M) from c_ne 20000 hT hc 264 k8 (by decide), show f_X11_isWord 20000 1000020 M' = some (0, M') from W0 8 20 rfl (by decide) k8]
        simp only [bnd, if_true]
        by_cases k9 : kd9 tp (ps9 tp i) = 265
        · obtain ⟨M1, a1, a2, a3⟩ := c_e1 (N := 20000) (k := 265) hT hc k9 (by decide)
          obtain ⟨r, Mc, Mr, b1, b2, b3⟩ := J_menu (sw := 0) (L := L) (nd := nd) (nc := nc) hT a2 (hl.nx (k := 9) hT (by decide) k9) (by rw [a3.s]; exact hs) hR hO
          have hb := b3.isb
          rw [show f_X9_eats 20000 265 M = some (1, M1) from a1, show f_X11_isWord 20000 1000021 M' = some (1, M') from W1 9 21 rfl (by decide) k9]
          simp only [if_neg n10, b1, b2, grd, hb, if_true]
          exact ⟨r, Mc, Mr, rfl, rfl, b3.le a3.f mG9.rf⟩
        · rw [show f_X9_eats 20000 265 M = some (0, M) from c_ne 20000 hT hc 265 k9 (by decide), show f_X11_isWord 20000 1000021 M' = some (0, M') from W0 9 21 rfl (by decide) k9]
          simp only [if_true]
          by_cases k10 : kd9 tp (ps9 tp i) = 266
          · obtain ⟨M1, a1, a2, a3⟩ := c_e1 (N := 20000) (k := 266) hT hc k10 (by decide)
            obtain ⟨r, Mc, Mr, b1, b2, b3⟩ := J_num (j := 6) (hi := 100) (L := L) (nd := nd) (nc := nc) (by decide) hT a2 (hl.nx (k := 10) hT (by decide) k10) (by rw [a3.s]; exact hs) hR hO
            have hb := b3.isb
            rw [show f_X9_eats 20000 266 M = some (1, M1) from a1, show f_X11_isWord 20000 1000022 M' = some (1, M') from W1 10 22 rfl (by decide) k10]
            have b2' : f_X11_readNumber 20000 7 0 100 M' = some (r, Mr) := b2
            simp only [if_neg n10, b2', grd, hb, if_true]
            exact ⟨r, Mc, Mr, b1, rfl, b3.le a3.f mG9.rf⟩
          · rw [show f_X9_eats 20000 266 M = some (0, M) from c_ne 20000 hT hc 266 k10 (by decide), show f_X11_isWord 20000 1000022 M' = some (0, M') from W0 10 22 rfl (by decide) k10]
            simp only [if_true]
            by_cases k11 : kd9 tp (ps9 tp i) = 267
            · obtain ⟨M1, a1, a2, a3⟩ := c_e1 (N := 20000) (k := 267) hT hc k11 (by decide)
              obtain ⟨r, Mc, Mr, b1, b2, b3⟩ := J_num (j := 7) (hi := 100) (L := L) (nd := nd) (nc := nc) (by decide) hT a2 (hl.nx (k := 11) hT (by decide) k11) (by rw [a3.s]; exact hs) hR hO
              have hb := b3.isb
              rw [show f_X9_eats 20000 267 M = some (1, M1) from a1, show f_X11_isWord 20000 1000023 M' = some (1, M') from W1 11 23 rfl (by decide) k11]
              have b2' : f_X11_readNumber 20000 8 0 100 M' = some (r, Mr) := b2
              simp only [if_neg n10, b2', grd, hb, if_true]
              exact ⟨r, Mc, Mr, b1, rfl, b3.le a3.f mG9.rf⟩
            · rw [show f_X9_eats 20000 267 M = some (0, M) from c_ne 20000 hT hc 267 k11 (by decide), show f_X11_isWord 20000 1000023 M' = some (0, M') from W0 11 23 rfl (by decide) k11]
              simp only [if_true]
              by_cases k12 : kd9 tp (ps9 tp i) = 268
              · obtain ⟨M1, a1, a2, a3⟩ := c_e1 (N := 20000) (k := 268) hT hc k12 (by decide)
                obtain ⟨r, Mc, Mr, b1, b2, b3⟩ := J_num (j := 4) (hi := 11) (L := L) (nd := nd) (nc := nc) (by decide) hT a2 (hl.nx (k := 12) hT (by decide) k12) (by rw [a3.s]; exact hs) hR hO
                rw [show f_X9_eats 20000 268 M = some (1, M1) from a1, show f_X11_isWord 20000 1000024 M' = some (1, M') from W1 12 24 rfl (by decide) k12]
                have b2' : f_X11_readNumber 20000 4 0 11 M' = some (r, Mr) := b2
                simp only [if_neg n10, b2']
                refine ⟨r, Mc, Mr, b1, ?_, b3.le a3.f mG9.rf⟩
                rcases b3.2.2 with ⟨e, -⟩ | ⟨e, -⟩
                · subst e; rw [if_pos rfl]; rfl
                · subst e; rw [if_neg n10]
              · rw [show f_X9_eats 20000 268 M = some (0, M) from c_ne 20000 hT hc 268 k12 (by decide), show f_X11_isWord 20000 1000024 M' = some (0, M') from W0 12 24 rfl (by decide) k12]
                simp only [if_true]
                exact ⟨0, M, M', rfl, rfl, jO.bad cF.rf mG9.rf (by rw [hs]; exact hz) hc hl.b⟩
end TN
