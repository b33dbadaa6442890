/-! The call table. -/
def kT9 (N : Nat) (M : Mm) : Option (Int32 × Mm) := bnd (f_X11_readAll N (1 : Int32) M) (fun r2 M3 => (if (0 : Int32) ≤ r2 then f_X11_table_46 N r2 (-1 : Int32) M3 else f_X11_table_46 N r2 (M3 208 12) M3))
theorem i32_any (x : Int32) : ∃ b, x = Int32.ofNat b := by
  refine ⟨x.toBitVec.toNat, ?_⟩
  apply Int32.toBitVec_inj.mp
  show _ = BitVec.ofNat 32 _
  apply BitVec.eq_of_toNat_eq
  rw [BitVec.toNat_ofNat, Nat.mod_eq_of_lt x.toBitVec.isLt]
theorem m_tab2 : ∀ (n k i : Nat) (M : Mm), i + k = 1258 → k < n → ∃ M', f_X11_table_2 20000 n (Int32.ofNat i) M = kT9 20000 M' ∧ (∀ j, M' 211 j = if i ≤ j ∧ j < 1258 then M 209 j else M 211 j) ∧ ∀ x, x ≠ 211 → M' x = M x := by
  intro n
  induction n with
  | zero => intro k i M _ h; omega
  | succ n ih =>
    intro k i M hik hk
    rw [f_X11_table_2]
    match k with
    | 0 =>
      rw [if_pos (show (1258 : Int32) ≤ Int32.ofNat i from i32_len (k := 1258) (by omega) (by omega))]
      exact ⟨M, rfl, fun j => by rw [if_neg (by omega)], fun _ _ => rfl⟩
    | k + 1 =>
      rw [if_neg (show ¬ (1258 : Int32) ≤ Int32.ofNat i from i32_nle (n := 1258) (by omega) (by omega))]
      simp only [grd, lt, inb_ofNat (show i < 2107 by omega) (by omega), inb_ofNat (show i < 1258 by omega) (by omega), if_true, i32_clampN (show i < 2147483648 by omega), i32_succ]
      obtain ⟨M', a1, a2, a3⟩ := ih k (i + 1) (wr M 211 i (M 209 i)) (by omega) (by omega)
      refine ⟨M', a1, fun j => ?_, fun x hx => by rw [a3 x hx, wr_nrow hx]⟩
      rw [a2 j, wr_nrow (show (209 : Nat) ≠ 211 by decide)]
      by_cases e : j = i
      · subst e; rw [if_neg (by omega), if_pos (by omega), wr_eq]
      · rw [wr_nk e]
        by_cases e2 : i + 1 ≤ j ∧ j < 1258
        · rw [if_pos e2, if_pos (by omega)]
        · rw [if_neg e2, if_neg (by omega)]
theorem m_tab92 : ∀ (n k i : Nat) (M : Mm), i + k = 1258 → k < n → ∃ M', f_X11_table_92 20000 n (Int32.ofNat i) M = some (0, M') ∧ (∀ j, M' 209 j = if i ≤ j ∧ j < 1258 then M 211 j else M 209 j) ∧ ∀ x, x ≠ 209 → M' x = M x := by
  intro n
  induction n with
  | zero => intro k i M _ h; omega
  | succ n ih =>
    intro k i M hik hk
    rw [f_X11_table_92]
    match k with
    | 0 =>
      rw [if_pos (show (1258 : Int32) ≤ Int32.ofNat i from i32_len (k := 1258) (by omega) (by omega))]
      exact ⟨M, rfl, fun j => by rw [if_neg (by omega)], fun _ _ => rfl⟩
    | k + 1 =>
      rw [if_neg (show ¬ (1258 : Int32) ≤ Int32.ofNat i from i32_nle (n := 1258) (by omega) (by omega))]
      simp only [grd, lt, inb_ofNat (show i < 2107 by omega) (by omega), inb_ofNat (show i < 1258 by omega) (by omega), if_true, i32_clampN (show i < 2147483648 by omega), i32_succ]
      obtain ⟨M', a1, a2, a3⟩ := ih k (i + 1) (wr M 209 i (M 211 i)) (by omega) (by omega)
      refine ⟨M', a1, fun j => ?_, fun x hx => by rw [a3 x hx, wr_nrow hx]⟩
      rw [a2 j, wr_nrow (show (211 : Nat) ≠ 209 by decide)]
      by_cases e : j = i
      · subst e; rw [if_neg (by omega), if_pos (by omega), wr_eq]
      · rw [wr_nk e]
        by_cases e2 : i + 1 ≤ j ∧ j < 1258
        · rw [if_pos e2, if_pos (by omega)]
        · rw [if_neg e2, if_neg (by omega)]
theorem m_tab20 {N : Nat} (hN : 1258 < N) (M : Mm) : ∃ M', f_X11_table_2 20000 N 0 M = kT9 20000 M' ∧ (∀ j, M' 211 j = if 0 ≤ j ∧ j < 1258 then M 209 j else M 211 j) ∧ ∀ x, x ≠ 211 → M' x = M x := m_tab2 N 1258 0 M (by omega) hN
theorem m_tab90 {N : Nat} (hN : 1258 < N) (M : Mm) : ∃ M', f_X11_table_92 20000 N 0 M = some (0, M') ∧ (∀ j, M' 209 j = if 0 ≤ j ∧ j < 1258 then M 211 j else M 209 j) ∧ ∀ x, x ≠ 209 → M' x = M x := m_tab92 N 1258 0 M (by omega) hN
section PT
variable {A A' : TbS} {K K' : LwS} {ms ms' : List TbS} {im : Option (TbS × LwS)} {tp : List Nat} {ft ft' : Int32} {M M' X : Mm} {m : Nat}
/-- the class's state behind a text that was read -/
theorem cI.nw (h : cI A K ms im tp ft M) (hs : slc 7 M' = A'.2.2.1) (hL : A'.2.2.2 = A.2.2.2) (hK : cLaw 25 K'.2 M' ∧ M' 25 0 = b2i K'.1) (hx : ∀ x, 37 ≤ x → x < 208 → M' x = M x) (h1 : M' 1 1 = 0) (h9 : M' 0 9 = M 0 9) (h13 : M' 0 13 = M 0 13) (h14 : M' 0 14 = ft') (h10 : (ms' = ms ∧ M' 0 10 = M 0 10) ∨ (ms' = [] ∧ M' 0 10 = 0)) (hz : tz (slc 16 M')) : cI A' K' ms' im [] ft' M' := by
  obtain ⟨a1, a2, a3, a4, a5, a6, a7, a8⟩ := h
  refine ⟨hs, by rw [hL]; exact a2.frame (hx 37 (by decide) (by decide)) (hx 38 (by decide) (by decide)), hK, ?_, a5.fr (fun x h1 h2 => hx x (by omega) (by omega)) h13, ⟨by simp, h1, fun j hj => by simp at hj⟩, h14, hz⟩
  rcases h10 with ⟨e1, e⟩ | ⟨e1, e⟩
  · rw [e1]; exact a4.fr (fun x h1 h2 => hx x (by omega) h2) h9 e
  · rw [e1]
    obtain ⟨-, -, b3, nm, b4, b5, -⟩ := a4
    refine ⟨by simp, e, fun j hj => ?_, nm, b4, h9.trans b5, fun i hi => by simp at hi⟩
    rw [slc_ex (M := M) (fun i hi => hx _ (by omega) (by omega))]; exact b3 j hj
theorem mI.nw (h : mI A K ms im tp ft M) (hR : rOK A' (M' 209)) (hK : wLaw K'.2 M' ∧ M' 209 3 = b2i K'.1) (h210 : M' 210 = M 210) (h213 : M' 213 = M 213) (h6 : M' 208 6 = M 208 6) (h7 : (ms' = ms ∧ K'.1 = K.1 ∧ M' 208 7 = M 208 7) ∨ (ms' = [] ∧ M' 208 7 = 0)) (h9 : M' 208 9 = 0) (h14 : M' 208 14 = ft') (h18 : M' 208 18 = M 208 18) : mI A' K' ms' im [] ft' M' := by
  obtain ⟨a1, a2, a3, a4, a5, a6, a7⟩ := h
  refine ⟨hR, hK, ?_, a4.fr h6 h210, ⟨h9, fun j hj => by simp at hj⟩, h14, h18.trans a7⟩
  rcases h7 with ⟨e1, e2, e⟩ | ⟨e1, e⟩
  · rw [e1, e2]; exact a3.fr e h213
  · rw [e1]; exact ⟨e, fun i hi => by simp at hi⟩
theorem uM_cg (h : M' 208 = M 208) : uM M' 208 = uM M 208 := by
  funext j
  unfold uM wr
  simp only [h]
theorem uM_10 : uM M 208 10 = 0 := by unfold uM; rw [wr_eq]
/-- the reference stands at its text's first sign -/
theorem m_atU (hcT : tX tp) (hm : mTape tp X) (h8 : M 208 = X 208) (h14 : M 214 = X 214) (v : Int32) : mA tp 0 (wr (uM M) 208 16 v) := by
  obtain ⟨b, hb⟩ := i32_any (wr (uM M) 208 16 v 208 12)
  refine ⟨0, b, ⟨?_, ?_, hb, fun j hj => ?_, by omega⟩, rfl⟩
  · rw [wr_nk (by decide), uM_11, h8]; exact hm.1
  · rw [wr_nk (by decide), uM_10]; rfl
  · rw [wr_nrow (by decide), uM_r (by decide), h14, tf_eq j hj]; exact hm.2 j hj
theorem m_readAllU (N : Nat) (v : Int32) (M : Mm) : f_X11_readAll N v M = bnd (f_X11_blanks N (wr (uM M) 208 16 0)) (fun r5 M6 => (if (M6 208 10) = (M6 208 11) then some ((0 : Int32), M6) else f_X11_readAll_28 N N v (0 : Int32) M6)) := by
  unfold f_X11_readAll
  rw [m_uses]
  simp only [bnd, lt]
/-- class and reference read one table's text -/
theorem J_tab (hT : tX tp) (hc : cP tp m 0 M) (hs : slc 16 M = A.2.2.1) (hX : mI A K ms im tp ft X) (hO : okA A) : ∃ r r' Mc Mr, f_X7_reads 20000 16 M = some (r, Mc) ∧ f_X11_table 20000 X = (if (0 : Int32) ≤ r' then f_X11_table_46 20000 r' (-1 : Int32) Mr else f_X11_table_46 20000 r' (Mr 208 12) Mr) ∧ cF Mc M ∧ (∀ x, x ≠ 208 → x ≠ 209 → x ≠ 211 → Mr x = X x) ∧ (∀ j, j < 1258 → Mr 211 j = X 209 j) ∧ (∀ j, j ≠ 10 → j ≠ 12 → j ≠ 16 → Mr 208 j = uM X 208 j) ∧ Mr 209 3 = X 209 3 ∧ (∀ j, 409 ≤ j → Mr 209 j = X 209 j) ∧ ((r = 0 ∧ r' = -1 ∧ tz (slc 16 Mc) ∧ ∃ i, cP tp m i Mc ∧ mB tp i Mr) ∨ (r = 1 ∧ ∃ q A', q ≤ 14 ∧ r' = Int32.ofNat q ∧ slc 16 Mc = A'.2.2.1 ∧ rOK A' (Mr 209) ∧ okA A' ∧ A'.2.2.2 = A.2.2.2 ∧ A'.2.2.1 0 10 = A.2.2.1 0 10)) := by
  obtain ⟨Xc, a1, a2, a3⟩ := m_tab20 (N := 20000) (by decide) X
  have e9 : wr (uM Xc) 208 16 0 209 = X 209 := by rw [wr_nrow (by decide), uM_r (by decide), a3 209 (by decide)]
  obtain ⟨r, r', Mc, Mr, b1, b2, b3, b4, b5⟩ := J_tread (A := A) hT hc (m_atU hT hX.2.2.2.2.1 (a3 208 (by decide)) (a3 214 (by decide)) 0) hs (by rw [e9]; exact hX.1) hO
  refine ⟨r, r', Mc, Mr, b1, ?_, b3, fun x h1 h2 h3 => ?_, fun j hj => ?_, fun j h1 h2 h3 => ?_, ?_, fun j hj => ?_, b5⟩
  · unfold f_X11_table
    rw [a1]
    unfold kT9
    rw [m_readAllU, b2]
    rfl
  · rw [b4.1 x h1 h2, wr_nrow h1, uM_r h1, a3 x h3]
  · rw [b4.1 211 (by decide) (by decide), wr_nrow (by decide), uM_r (by decide), a2 j, if_pos (by omega)]
  · rw [b4.2.1 j h1 h2, wr_nk h3, uM_cg (a3 208 (by decide))]
  · rw [b4.2.2.1, e9]
  · rw [b4.2.2.2 j hj, e9]
/-- the reference brings its world back -/
theorem m_tabX {c : Int32} {Mr : Mm} (hX : mI A K ms im tp ft X) (h1 : ∀ x, x ≠ 208 → x ≠ 209 → x ≠ 211 → Mr x = X x) (h2 : ∀ j, j < 1258 → Mr 211 j = X 209 j) (h3 : ∀ j, j ≠ 10 → j ≠ 12 → j ≠ 16 → Mr 208 j = uM X 208 j) (h5 : ∀ j, 409 ≤ j → Mr 209 j = X 209 j) : ∃ M2, f_X11_table_92 20000 20000 0 (wr (wr Mr 208 14 ft') 208 0 c) = some (0, M2) ∧ mI A K ms im [] ft' M2 ∧ (∀ x, (x < 208 ∨ 218 < x) → M2 x = X x) ∧ M2 208 0 = c := by
  obtain ⟨M2, a1, a2, a3⟩ := m_tab90 (N := 20000) (by decide) (wr (wr Mr 208 14 ft') 208 0 c)
  have e9 : M2 209 = X 209 := by
    funext j
    rw [a2 j, wr_nrow (by decide), wr_nrow (by decide), wr_nrow (by decide), wr_nrow (by decide)]
    by_cases q : j < 1258
    · rw [if_pos ⟨Nat.zero_le _, q⟩]; exact h2 j q
    · rw [if_neg (fun h9 => q h9.2)]; exact h5 j (by omega)
  have e8 : ∀ j, j ≠ 0 → j ≠ 14 → j ≠ 10 → j ≠ 12 → j ≠ 16 → M2 208 j = uM X 208 j := fun j n0 n14 n10 n12 n16 => by
    rw [a3 208 (by decide), wr_nk n0, wr_nk n14, h3 j n10 n12 n16]
  have ex : ∀ x, x ≠ 208 → x ≠ 209 → x ≠ 211 → M2 x = X x := fun x n8 n9 n11 => by
    rw [a3 x n9, wr_nrow n8, wr_nrow n8, h1 x n8 n9 n11]
  refine ⟨M2, a1, hX.nw (by rw [e9]; exact hX.1) ⟨hX.2.1.1.cg e9, by rw [e9]; exact hX.2.1.2⟩ (ex 210 (by decide) (by decide) (by decide)) (ex 213 (by decide) (by decide) (by decide)) ?_ (Or.inl ⟨rfl, rfl, ?_⟩) ?_ ?_ ?_, fun x hx => ex x (by omega) (by omega) (by omega), ?_⟩
  · rw [e8 6 (by decide) (by decide) (by decide) (by decide) (by decide), uM_208 (by decide) (by decide) (by decide) (by decide)]
  · rw [e8 7 (by decide) (by decide) (by decide) (by decide) (by decide), uM_208 (by decide) (by decide) (by decide) (by decide)]
  · rw [e8 9 (by decide) (by decide) (by decide) (by decide) (by decide), uM_9]
  · rw [a3 208 (by decide), wr_nk (by decide), wr_eq]
  · rw [e8 18 (by decide) (by decide) (by decide) (by decide) (by decide), uM_208 (by decide) (by decide) (by decide) (by decide)]
  · rw [a3 208 (by decide), wr_eq]
end PT
