/-! Who were bribed. -/
section BR
variable {nd nc : Nat} {T : Tb} {L : List Row} {K : LwS} {ms : List TbS} {im : Option (TbS × LwS)} {tp : List Nat} {ft : Int32} {W : Lw} {M : Mm} {A : TbS} {f : Nat → Nat} {nr : Nat}
def brS (ok : Nat → Bool) (st : Int32 × Int32) (s : Nat) : Int32 × Int32 := if ok s = true then (st.1 + 1, st.2 &&& Int32.ofNat s) else st
def brL (ok : Nat → Bool) : Nat → Nat → Int32 × Int32 → Int32 × Int32
  | 0, _, st => st
  | k + 1, i, st => brL ok k (i + 1) (brS ok st i)
def brR (v1 : Int32) (st : Int32 × Int32) : Int32 := if v1 = 0 then st.1 else if st.1 = 0 then 0 else st.2
/-- what holds of the class while it tries set after set -/
def cH (nd nc : Nat) (T : Tb) (L : List Row) (K : LwS) (ms : List TbS) (im : Option (TbS × LwS)) (tp : List Nat) (ft : Int32) (f : Nat → Nat) (nr : Nat) (M0 : Mm) : Prop := cI (nd, nc, T, L) K ms im [] ft M0 ∧ (∃ Mx, mI (nd, nc, T, L) K ms im tp ft Mx) ∧ lwOK K.2 ∧ (∀ j, j < 3 * nr → f j < 256) ∧ vRows f nc nr 0 = true ∧ nr ≤ 4
theorem cH.n (h : cH nd nc T L K ms im tp ft f nr M) : nd ≤ 8 ∧ nc ≤ 5 ∧ T 0 0 = Int32.ofNat nd ∧ T 0 1 = Int32.ofNat nc := by
  obtain ⟨-, ⟨Mx, hm⟩, -⟩ := h
  exact ⟨hm.1.1.1, hm.1.1.2.1, hm.1.1.2.2.1, hm.1.1.2.2.2.1⟩
theorem c_br25 {M0 : Mm} {v1 : Int32} (h : cH nd nc T L K ms im tp ft f nr M0) : ∀ (n k i : Nat) (st : Int32 × Int32) (M : Mm), cQ M M0 → cTold f nr M → i + k = 2 ^ nd → k < n → ∃ M', f_X10_bribes_25 20000 n v1 st.1 st.2 (Int32.ofNat i) M = some (.inl (brR v1 (brL (fitB K.2 nc T L f nr) k i st)), M') ∧ cQ M' M0 := by
  obtain ⟨hnd, hnc, t0, t1⟩ := h.n
  obtain ⟨hC, ⟨Mx, hm⟩, hO, hf, hv, hnr⟩ := h
  have hN : 2 ^ nd ≤ 256 := Nat.pow_le_pow_right (n := 2) (by decide) hnd
  intro n
  induction n with
  | zero => intro k i st M _ _ _ h; omega
  | succ n ih =>
    intro k i st M hq hT hik hk
    have h70 : M 7 0 = Int32.ofNat nd := by
      rw [show M 7 0 = T 0 0 from slE (hC.q hq).1 (i := 0) (by decide)]; exact t0
    rw [f_X10_bribes_25, h70, (fl_v hnd).1]
    match k with
    | 0 =>
      rw [if_pos (i32_len (by omega) (by omega)), brL]
      unfold brR
      refine ⟨M, ?_, hq⟩
      by_cases q1 : v1 = 0
      · rw [if_pos q1, if_pos q1]
      · rw [if_neg q1, if_neg q1]
        by_cases q2 : st.1 = 0
        · rw [if_pos q2, if_pos q2]
        · rw [if_neg q2, if_neg q2]
    | k + 1 =>
      have hb := bc_N (s := i) (by omega)
      rw [if_neg (i32_nle (by omega) (by omega)), j_bc, hb.1]
      simp only [bnd]
      rw [brL]
      by_cases q : bcN i ≤ 2
      · rw [if_neg (show ¬ (2 : Int32) < Int32.ofNat (bcN i) from i32_nlt (n := 2) q (by omega))]
        obtain ⟨M1, a1, a2, a3, -⟩ := c_fits (nd := nd) (s := i) (w := 0) (at9 := 0) hC hm hO hq hT hf hv hnr (by omega) (by omega)
        rw [show (0 : Int32) = Int32.ofNat 0 from rfl, a1]
        simp only [lt, i32_succ]
        by_cases q2 : fitR (gB K.2 nc T L i) f nr 0 = true
        · have hB : fitB K.2 nc T L f nr i = true := by unfold fitB; rw [decide_eq_true q, q2]; rfl
          rw [if_pos q2, if_neg (show ¬ (1 : Int32) = Int32.ofNat 0 by decide), show brS (fitB K.2 nc T L f nr) st i = (st.1 + 1, st.2 &&& Int32.ofNat i) from if_pos hB]
          exact ih k (i + 1) (st.1 + 1, st.2 &&& Int32.ofNat i) M1 a2 a3 (by omega) (by omega)
        · have hB : ¬ fitB K.2 nc T L f nr i = true := by unfold fitB; rw [Bool.and_eq_true]; exact fun h9 => q2 h9.2
          rw [if_neg q2, if_pos (show (0 : Int32) = Int32.ofNat 0 from rfl), show brS (fitB K.2 nc T L f nr) st i = st from if_neg hB]
          exact ih k (i + 1) st M1 a2 a3 (by omega) (by omega)
      · have hB : ¬ fitB K.2 nc T L f nr i = true := by unfold fitB; rw [Bool.and_eq_true]; exact fun h9 => q (of_decide_eq_true h9.1)
        rw [if_pos (show (2 : Int32) < Int32.ofNat (bcN i) from i32_ltn (k := 2) (by omega) (by omega)), i32_succ, show brS (fitB K.2 nc T L f nr) st i = st from if_neg hB]
        exact ih k (i + 1) st M hq hT (by omega) (by omega)
/-- what holds of the reference meanwhile -/
def mH (nd nc : Nat) (T : Tb) (L : List Row) (W : Lw) (f : Nat → Nat) (nr : Nat) (M : Mm) : Prop := RW nd nc T L (M 209) ∧ wLaw W M ∧ mTold f nr M ∧ M 208 18 = 0 ∧ lwOK W ∧ (∀ j, j < 3 * nr → f j < 256) ∧ vRows f nc nr 0 = true ∧ nr ≤ 4
theorem mH.k {M' : Mm} (h : mH nd nc T L W f nr M) (h1 : M' 209 = M 209) (h2 : M' 208 = M 208) (h3 : M' 214 = M 214) : mH nd nc T L W f nr M' := by
  obtain ⟨a1, a2, a3, a4, a5⟩ := h
  exact ⟨by rw [h1]; exact a1, a2.cg h1, ⟨by rw [h2]; exact a3.1, fun j hj => by rw [h3]; exact a3.2 j hj⟩, by rw [h2]; exact a4, a5⟩
theorem m_fitsH {s : Nat} (h : mH nd nc T L W f nr M) (hs : s < 256) : ∃ M', f_X11_fits 20000 (Int32.ofNat s) M = some (if fitB W nc T L f nr s = true then 1 else 0, M') ∧ mH nd nc T L W f nr M' ∧ ∀ x, x ≠ 212 → x ≠ 216 → M' x = M x := by
  have h' := h
  obtain ⟨a1, a2, a3, a4, a5, a6, a7, a8⟩ := h'
  obtain ⟨M', b1, b2⟩ := m_fits (s := s) a5 a8 a6 a7 a1 a2 a3 a4 hs
  exact ⟨M', b1, h.k (b2 209 (by decide) (by decide)) (b2 208 (by decide) (by decide)) (b2 214 (by decide) (by decide)), b2⟩
theorem m_br40 {v1 : Int32} : ∀ (n k i : Nat) (st : Int32 × Int32) (M : Mm), mH nd nc T L W f nr M → i + k = 2 ^ nd → k < n → ∃ M', f_X11_bribes_40 20000 n v1 st.1 st.2 (Int32.ofNat i) M = some (brR v1 (brL (fitB W nc T L f nr) k i st), M') ∧ ∀ x, x ≠ 212 → x ≠ 216 → M' x = M x := by
  intro n
  induction n with
  | zero => intro k i st M _ _ h; omega
  | succ n ih =>
    intro k i st M hH hik hk
    have hR := hH.1
    have hnd := hR.1.1
    have hN : 2 ^ nd ≤ 256 := Nat.pow_le_pow_right (n := 2) (by decide) hnd
    rw [f_X11_bribes_40, m_diners]
    simp only [bnd]
    rw [hR.1.2.2.2.2.1, (fl_v hnd).1]
    match k with
    | 0 =>
      rw [if_pos (i32_len (by omega) (by omega)), brL]
      unfold brR
      refine ⟨M, ?_, fun x _ _ => rfl⟩
      by_cases q1 : v1 = 0
      · rw [if_pos q1, if_pos q1]
      · rw [if_neg q1, if_neg q1]
        by_cases q2 : st.1 = 0
        · rw [if_pos q2, if_pos q2]
        · rw [if_neg q2, if_neg q2]
    | k + 1 =>
      rw [if_neg (i32_nle (by omega) (by omega)), brL]
      obtain ⟨M1, a1, a2, a3⟩ := m_fitsH (s := i) hH (by omega)
      rw [a1]
      simp only [lt, i32_succ]
      by_cases hB : fitB W nc T L f nr i = true
      · rw [if_pos hB, if_neg (show ¬ (1 : Int32) = 0 by decide), show brS (fitB W nc T L f nr) st i = (st.1 + 1, st.2 &&& Int32.ofNat i) from if_pos hB]
        obtain ⟨M2, b1, b2⟩ := ih k (i + 1) (st.1 + 1, st.2 &&& Int32.ofNat i) M1 a2 (by omega) (by omega)
        exact ⟨M2, b1, fun x h1 h2 => by rw [b2 x h1 h2, a3 x h1 h2]⟩
      · rw [if_neg hB, if_pos rfl, show brS (fitB W nc T L f nr) st i = st from if_neg hB]
        obtain ⟨M2, b1, b2⟩ := ih k (i + 1) st M1 a2 (by omega) (by omega)
        exact ⟨M2, b1, fun x h1 h2 => by rw [b2 x h1 h2, a3 x h1 h2]⟩
/-- the reference's memory once the tape is used -/
def uM (M : Mm) : Mm := wr (wr (wr (wr M 208 0 0) 208 11 (M 208 9)) 208 9 0) 208 10 0
theorem m_uses {N : Nat} : f_X11_uses N M = some (0, uM M) := by
  unfold f_X11_uses uM
  simp only [lt]
  rw [wr_nk (show (9 : Nat) ≠ 0 by decide)]
theorem uM_r {x : Nat} (h : x ≠ 208) : uM M x = M x := by unfold uM; rw [wr_nrow h, wr_nrow h, wr_nrow h, wr_nrow h]
theorem uM_208 {j : Nat} (h0 : j ≠ 0) (h9 : j ≠ 9) (h10 : j ≠ 10) (h11 : j ≠ 11) : uM M 208 j = M 208 j := by unfold uM; rw [wr_nk h10, wr_nk h9, wr_nk h11, wr_nk h0]
theorem uM_0 : uM M 208 0 = 0 := by unfold uM; rw [wr_nk (by decide), wr_nk (by decide), wr_nk (by decide), wr_eq]
theorem uM_9 : uM M 208 9 = 0 := by unfold uM; rw [wr_nk (by decide), wr_eq]
theorem uM_11 : uM M 208 11 = M 208 9 := by unfold uM; rw [wr_nk (by decide), wr_nk (by decide), wr_eq]
theorem mI.u (h : mI A K ms im tp ft M) : mI A K ms im [] ft (uM M) := by
  obtain ⟨a1, ⟨a2, a3⟩, a4, a5, a6, a7, a8⟩ := h
  exact ⟨by rw [uM_r (by decide)]; exact a1, ⟨a2.cg (uM_r (by decide)), by rw [uM_r (by decide)]; exact a3⟩, a4.fr (uM_208 (by decide) (by decide) (by decide) (by decide)) (uM_r (by decide)), a5.fr (uM_208 (by decide) (by decide) (by decide) (by decide)) (uM_r (by decide)), ⟨uM_9, fun j hj => by simp at hj⟩, by rw [uM_208 (by decide) (by decide) (by decide) (by decide)]; exact a7, by rw [uM_208 (by decide) (by decide) (by decide) (by decide)]; exact a8⟩
theorem m_told22 {N : Nat} (hN : 1 ≤ N) : f_X11_isTold_22 N M = some (0, M) := by
  obtain ⟨n, rfl⟩ : ∃ n, N = n + 1 := ⟨N - 1, by omega⟩
  exact m_told0 (n + 1) n 0 M
theorem m_toldU (N : Nat) (M : Mm) (h1 : (M 208 11 - M 208 11 / 3 * 3) = 0) (h2 : ¬ (12 : Int32) < M 208 11) : f_X11_isTold N M = f_X11_isTold_26 N N 1 0 M := by
  unfold f_X11_isTold
  rw [if_pos h1, if_neg h2]
theorem m_isTold {N : Nat} (hN : 10 ≤ N) (h11 : M 208 11 = Int32.ofNat tp.length) (h214 : ∀ j, j < tp.length → M 214 j = sx (tf tp j)) (hl : tp.length ≤ 400) (hf : ∀ j, tf tp j < 256) (h1 : M 209 1 = Int32.ofNat nc) (hnc : nc ≤ 5) : f_X11_isTold N M = some (if vTold tp nc = true then 1 else 0, M) := by
  have e3 : M 208 11 - M 208 11 / 3 * 3 = Int32.ofNat (tp.length % 3) := by rw [h11]; exact i32_remN (m := 3) (by omega) (by omega)
  by_cases q1 : tp.length % 3 = 0
  · have e0 : M 208 11 - M 208 11 / 3 * 3 = 0 := by rw [e3, q1]; rfl
    by_cases q2 : 12 < tp.length
    · have hv : vTold tp nc = false := by unfold vTold; rw [decide_eq_false (by omega), Bool.false_and]
      unfold f_X11_isTold
      rw [if_pos e0, if_pos (by rw [h11]; exact i32_ltn (k := 12) q2 (by omega)), m_told22 (by omega), hv, if_neg (show ¬ false = true by decide)]
    · have hv : vTold tp nc = vRows (tf tp) nc (tp.length / 3) 0 := by unfold vTold; rw [decide_eq_true ⟨q1, by omega⟩, Bool.true_and]
      have e9 : tp.length = 3 * (tp.length / 3) := by omega
      rw [m_toldU N M e0 (by rw [h11]; exact i32_nlt (n := 12) (by omega) (by omega)), hv]
      exact m_isTold26 (N := N) (f := tf tp) (nr := tp.length / 3) (nc := nc) ⟨by rw [← e9]; exact h11, fun j hj => h214 j (by omega)⟩ (fun j _ => hf j) h1 hnc (by omega) N (tp.length / 3) 0 (by omega) (by omega)
  · have hv : vTold tp nc = false := by unfold vTold; rw [decide_eq_false (by omega), Bool.false_and]
    unfold f_X11_isTold
    rw [if_neg (by rw [e3]; exact fun h9 => q1 ((i32_eqN (b := 0) (by omega) (by omega)).mp h9)), m_told22 (by omega), hv, if_neg (show ¬ false = true by decide)]
theorem m_told9 (h : cTape tp M) {M' : Mm} (hm : mI (nd, nc, T, L) K ms im tp ft M') (hnc : nc ≤ 5) : f_X11_isTold 20000 (uM M') = some (if vTold tp nc = true then 1 else 0, uM M') := by
  refine m_isTold (by decide) (by rw [uM_11]; exact hm.2.2.2.2.1.1) (fun j hj => by rw [uM_r (by decide), hm.2.2.2.2.1.2 j hj, tf_eq j hj]) h.1 (fun j => tf_lt h j) (by rw [uM_r (by decide)]; exact hm.1.1.2.2.2.2.2) hnc
theorem mH_u (h : cTape tp M) {M' : Mm} (hm : mI (nd, nc, T, L) K ms im tp ft M') (hO : lwOK K.2) (hv : vTold tp nc = true) : mH nd nc T L K.2 (tf tp) (tp.length / 3) (uM M') := by
  unfold vTold at hv
  rw [Bool.and_eq_true] at hv
  have h3 := of_decide_eq_true hv.1
  have e9 : tp.length = 3 * (tp.length / 3) := by omega
  exact ⟨by rw [uM_r (by decide)]; exact hm.1, hm.2.1.1.cg (uM_r (by decide)), ⟨by rw [uM_11, ← e9]; exact hm.2.2.2.2.1.1, fun j hj => by rw [uM_r (by decide), hm.2.2.2.2.1.2 j (by omega), tf_eq j (by omega)]⟩, by rw [uM_208 (by decide) (by decide) (by decide) (by decide)]; exact hm.2.2.2.2.2.2, hO, fun j _ => tf_lt h j, hv.2, by omega⟩
end BR
