/-! Class and reference at the same thing of the text. -/
def gNu (tp : List Nat) (lo hi q : Nat) : Prop := kd9 tp q = 301 ∧ lo ≤ vl9 tp q ∧ vl9 tp q ≤ hi
def cP (tp : List Nat) (m i : Nat) (M : Mm) : Prop := cCut tp (m + 1) M ∧ m ≤ 400 ∧ ps9 tp m = tp.length ∧ M 3 4 = Int32.ofNat i ∧ i ≤ m
def cK3 (M' M : Mm) : Prop := ∀ x, x ≠ 3 → M' x = M x
def mA (tp : List Nat) (i : Nat) (M : Mm) : Prop := ∃ p b, mX tp p b M ∧ bl9 tp p = ps9 tp i
def mB (tp : List Nat) (i : Nat) (M : Mm) : Prop := ∃ p, mX tp p (ps9 tp i) M
def mL (tp : List Nat) (i : Nat) (M : Mm) : Prop := mX tp (rn isL9 tp (ps9 tp i)) (ps9 tp i) M
theorem ixs_33 : ∀ k, k < 21 → ixs.getD k 0 < 33 := by decide +kernel
section AT
variable {tp : List Nat} {pr : Nat → Bool} {M M' : Mm} {i m q : Nat}
theorem en_le (hq : q ≤ tp.length) : q ≤ en9 tp q ∧ en9 tp q ≤ tp.length := by
  by_cases c : q < tp.length
  · have := en_gt c; omega
  · have e : en9 tp q = q := by unfold en9; rw [if_pos (by omega)]
    omega
theorem bl_len (hq : q ≤ tp.length) : bl9 tp q ≤ tp.length := (rn_le _ q rfl).2 hq
theorem ps_len : ∀ i, ps9 tp i ≤ tp.length := by
  intro i
  induction i with
  | zero => exact bl_len (Nat.zero_le _)
  | succ i ih => exact bl_len (en_le ih).2
theorem rn_end : ∀ (k p : Nat), tp.length - p = k → ¬ (rn pr tp p < tp.length ∧ pr (tf tp (rn pr tp p)) = true) := by
  intro k
  induction k with
  | zero =>
    intro p h
    rw [rn_n (fun h9 => by omega)]
    intro h9; omega
  | succ k ih =>
    intro p h
    by_cases c : p < tp.length ∧ pr (tf tp p) = true
    · rw [rn_p c]; exact ih (p + 1) (by omega)
    · rw [rn_n c]; exact c
theorem bl_ps : bl9 tp (ps9 tp i) = ps9 tp i := by
  have h : ∀ p, bl9 tp (bl9 tp p) = bl9 tp p := fun p => rn_n (rn_end _ p rfl)
  cases i with
  | zero => exact h _
  | succ i => exact h _
theorem ps_gt (h : ps9 tp i < tp.length) : en9 tp (ps9 tp i) ≤ ps9 tp (i + 1) ∧ ps9 tp i < ps9 tp (i + 1) := ⟨bl_le, Nat.lt_of_lt_of_le (en_gt h).1 bl_le⟩
theorem en_w {k : Nat} (hT : tX tp) (hk : k < 21) (h : kd9 tp q = 256 + k) : q < tp.length ∧ en9 tp q = rn isL9 tp q ∧ rn isL9 tp q = q + (wN (ixs.getD k 0)).length := by
  have e := wE_len ((kW hT hk).mp h)
  have h2 := ixs_l k hk
  have c : q < tp.length ∧ isL9 (tf tp q) = true := by
    by_cases c : q < tp.length ∧ isL9 (tf tp q) = true
    · exact c
    · rw [rn_n c] at e; omega
  exact ⟨c.1, (ev_L c.1 c.2).2.2, e⟩
/-- a word takes its letters -/
theorem ps_w {k : Nat} (hT : tX tp) (hk : k < 21) (h : kd9 tp (ps9 tp i) = 256 + k) : ps9 tp i + (wN (ixs.getD k 0)).length ≤ ps9 tp (i + 1) := by
  obtain ⟨a1, a2, a3⟩ := en_w hT hk h
  have := (ps_gt a1).1
  omega
theorem kd_lt (hT : tX tp) (h : ¬ kd9 tp q = 303) : q < tp.length := by
  by_cases c : q < tp.length
  · exact c
  · exact absurd ((kd_le hT).2.mpr (by omega)) h
theorem nv_lt : ∀ (k p v : Nat), tp.length - p = k → q ≤ p → ((p - q ≤ 3 ∧ v < 10 ^ (p - q)) ∨ (3 < p - q ∧ v < 1000)) → nv9 tp q p v < 1000 := by
  intro k
  induction k with
  | zero =>
    intro p v hk hqp hv
    rw [nv_n (fun h9 => by omega)]
    rcases hv with ⟨h1, h2⟩ | ⟨h1, h2⟩
    · have : 10 ^ (p - q) ≤ 10 ^ 3 := Nat.pow_le_pow_right (by decide) h1
      omega
    · exact h2
  | succ k ih =>
    intro p v hk hqp hv
    have hv3 : v < 1000 := by
      rcases hv with ⟨h1, h2⟩ | ⟨h1, h2⟩
      · have : 10 ^ (p - q) ≤ 10 ^ 3 := Nat.pow_le_pow_right (by decide) h1
        omega
      · exact h2
    by_cases c : p < tp.length ∧ isD9 (tf tp p) = true
    · have c2 : 48 ≤ tf tp p ∧ tf tp p ≤ 57 := of_decide_eq_true c.2
      rw [nv_p c]
      by_cases q3 : q + 3 ≤ p
      · rw [if_pos q3]
        exact ih (p + 1) v (by omega) (by omega) (Or.inr ⟨by omega, hv3⟩)
      · have hv' : v < 10 ^ (p - q) := by
          rcases hv with ⟨h1, h2⟩ | ⟨h1, h2⟩
          · exact h2
          · omega
        rw [if_neg q3]
        refine ih (p + 1) (10 * v + (tf tp p - 48)) (by omega) (by omega) (Or.inl ⟨by omega, ?_⟩)
        rw [show p + 1 - q = (p - q) + 1 by omega, Nat.pow_succ]; omega
    · rw [nv_n c]; exact hv3
theorem vl_lt : vl9 tp q < 1000 := by
  unfold vl9
  by_cases c1 : tp.length ≤ q
  · rw [if_pos c1]; omega
  · rw [if_neg c1]
    by_cases c2 : isL9 (tf tp q) = true
    · rw [if_pos c2]
      by_cases cK3 : rn isL9 tp q = q + 1 ∧ tf tp q < 103
      · rw [if_pos cK3]; omega
      · rw [if_neg cK3]; omega
    · rw [if_neg c2]
      by_cases cK3 : isD9 (tf tp q) = true
      · rw [if_pos cK3]
        exact nv_lt _ q 0 rfl (Nat.le_refl _) (Or.inl ⟨by omega, by rw [Nat.sub_self]; decide⟩)
      · rw [if_neg cK3]; omega
theorem nR_1 {lo hi : Nat} (hT : tX tp) (hg : gNu tp lo hi q) : nR tp lo hi q = Int32.ofNat (vl9 tp q) ∧ rn isD9 tp q = en9 tp q ∧ q < tp.length := by
  obtain ⟨g1, g2, g3⟩ := hg
  obtain ⟨k1, k2, k3⟩ := (kd_301 hT).mp g1
  obtain ⟨-, e2, e3⟩ := ev_D k1 k2
  have h1 : q + 1 ≤ rn isD9 tp q := by rw [rn_p ⟨k1, k2⟩]; exact (rn_le _ (q + 1) rfl).1
  refine ⟨?_, e3.symm, k1⟩
  rw [e2] at g2 g3 ⊢
  unfold nR
  rw [if_neg (by omega), if_neg (by omega), if_neg (by omega), if_pos g3]
theorem nR_0 {lo hi : Nat} (hT : tX tp) (hg : ¬ gNu tp lo hi q) : nR tp lo hi q = -1 := by
  unfold nR
  by_cases c1 : rn isD9 tp q = q
  · rw [if_pos c1]
  · rw [if_neg c1]
    by_cases c2 : q + 3 < rn isD9 tp q
    · rw [if_pos c2]
    · rw [if_neg c2]
      have c : q < tp.length ∧ isD9 (tf tp q) = true := by
        by_cases c : q < tp.length ∧ isD9 (tf tp q) = true
        · exact c
        · exact absurd (rn_n c) c1
      have e2 := (ev_D c.1 c.2).2.1
      by_cases cK3 : nv9 tp q q 0 < lo
      · rw [if_pos cK3]
      · rw [if_neg cK3]
        by_cases c4 : nv9 tp q q 0 ≤ hi
        · exact absurd ⟨(kd_301 hT).mpr ⟨c.1, c.2, by omega⟩, by rw [e2]; omega, by rw [e2]; exact c4⟩ hg
        · rw [if_neg c4]
/-! the class -/
theorem cP.fr {j : Nat} (h : cP tp m i M) (h4 : M' 4 = M 4) (h5 : M' 5 = M 5) (h6 : M' 6 = M 6) (h34 : M' 3 4 = Int32.ofNat j) (hj : j ≤ m) : cP tp m j M' := by
  obtain ⟨a1, a2, a3, a4, a5⟩ := h
  refine ⟨fun x hx => ?_, a2, a3, h34, hj⟩
  rw [h4, h5, h6]
  exact a1 x hx
theorem cP.lt (hT : tX tp) (h : cP tp m i M) (hk : ¬ kd9 tp (ps9 tp i) = 303) : i < m := by
  obtain ⟨a1, a2, a3, a4, a5⟩ := h
  by_cases c : i = m
  · exact absurd ((kd_le hT).2.mpr (by rw [c, a3]; exact Nat.le_refl _)) hk
  · omega
theorem cP.mv (hT : tX tp) (h : cP tp m i M) (hk : ¬ kd9 tp (ps9 tp i) = 303) : cP tp m (i + 1) (wr M 3 4 (Int32.ofNat (i + 1))) ∧ cK3 (wr M 3 4 (Int32.ofNat (i + 1))) M :=
  ⟨h.fr (wr_nrow (by decide)) (wr_nrow (by decide)) (wr_nrow (by decide)) wr_eq (h.lt hT hk), fun x hx => wr_nrow hx⟩
theorem c_e1 {N k : Nat} (hT : tX tp) (h : cP tp m i M) (hk : kd9 tp (ps9 tp i) = k) (h3 : k < 303) : ∃ M', f_X9_eats N (Int32.ofNat k) M = some (1, M') ∧ cP tp m (i + 1) M' ∧ cK3 M' M := by
  obtain ⟨b1, b2⟩ := h.mv hT (by omega)
  refine ⟨_, ?_, b1, b2⟩
  rw [c_eatT h.1 h.2.1 h.2.2.2.1 h.2.2.2.2, hk, if_pos rfl]
theorem c_e0 {N k : Nat} (hT : tX tp) (h : cP tp m i M) (hk : ¬ kd9 tp (ps9 tp i) = k) (h3 : k < 2147483648) : f_X9_eats N (Int32.ofNat k) M = some (0, M) := by
  have hb := (kd_le (q := ps9 tp i) hT).1
  rw [c_eatT h.1 h.2.1 h.2.2.2.1 h.2.2.2.2, if_neg (fun h9 => hk ((i32_eqN (by omega) h3).mp h9))]
theorem c_k (N : Nat) (h : cP tp m i M) : f_X9_kind N M = some (Int32.ofNat (kd9 tp (ps9 tp i)), M) := c_kindT h.1 h.2.1 h.2.2.2.1 h.2.2.2.2
theorem c_b (N : Nat) (h : cP tp m i M) : f_X9_begin N M = some (Int32.ofNat (ps9 tp i), M) := c_beginT h.1 h.2.1 h.2.2.2.1 h.2.2.2.2
theorem c_n1 {N lo hi : Nat} (hT : tX tp) (h : cP tp m i M) (hg : gNu tp lo hi (ps9 tp i)) (hhi : hi < 2147483648) : ∃ M', f_X9_eatsNumber N (Int32.ofNat lo) (Int32.ofNat hi) M = some (Int32.ofNat (vl9 tp (ps9 tp i)), M') ∧ cP tp m (i + 1) M' ∧ cK3 M' M := by
  have hv := vl_lt (tp := tp) (q := ps9 tp i)
  obtain ⟨b1, b2⟩ := h.mv hT (by rw [hg.1]; decide)
  refine ⟨_, ?_, b1, b2⟩
  rw [c_numT h.1 h.2.1 h.2.2.2.1 h.2.2.2.2, hg.1, if_pos (show Int32.ofNat 301 = (301 : Int32) from rfl), if_neg (i32_nlt hg.2.1 (by omega)), if_pos (i32_len hg.2.2 hhi)]
theorem c_n0 {N lo hi : Nat} (hT : tX tp) (h : cP tp m i M) (hg : ¬ gNu tp lo hi (ps9 tp i)) (hlo : lo < 2147483648) : f_X9_eatsNumber N (Int32.ofNat lo) (Int32.ofNat hi) M = some (-1, M) := by
  have hv := vl_lt (tp := tp) (q := ps9 tp i)
  have hb := (kd_le (q := ps9 tp i) hT).1
  rw [c_numT h.1 h.2.1 h.2.2.2.1 h.2.2.2.2]
  by_cases c1 : kd9 tp (ps9 tp i) = 301
  · rw [c1, if_pos (show Int32.ofNat 301 = (301 : Int32) from rfl)]
    by_cases c2 : vl9 tp (ps9 tp i) < lo
    · rw [if_pos (i32_ltn c2 hlo)]
    · rw [if_neg (i32_nlt (by omega) (by omega))]
      by_cases cK3 : vl9 tp (ps9 tp i) ≤ hi
      · exact absurd ⟨c1, by omega, cK3⟩ hg
      · rw [if_neg (i32_nle (by omega) (by omega))]
  · rw [if_neg (show ¬ Int32.ofNat (kd9 tp (ps9 tp i)) = (301 : Int32) from fun h9 => c1 ((i32_eqN (b := 301) (by omega) (by omega)).mp h9))]
theorem c_l1 {N : Nat} (hT : tX tp) (h : cP tp m i M) (hk : kd9 tp (ps9 tp i) = 300) : ∃ M', f_X9_eatsLetter N M = some (Int32.ofNat (vl9 tp (ps9 tp i)), M') ∧ cP tp m (i + 1) M' ∧ cK3 M' M := by
  obtain ⟨b1, b2⟩ := h.mv hT (by omega)
  refine ⟨_, ?_, b1, b2⟩
  rw [c_letT h.1 h.2.1 h.2.2.2.1 h.2.2.2.2, hk, if_pos (show Int32.ofNat 300 = (300 : Int32) from rfl)]
theorem c_l0 {N : Nat} (hT : tX tp) (h : cP tp m i M) (hk : ¬ kd9 tp (ps9 tp i) = 300) : f_X9_eatsLetter N M = some (-1, M) := by
  have hb := (kd_le (q := ps9 tp i) hT).1
  rw [c_letT h.1 h.2.1 h.2.2.2.1 h.2.2.2.2, if_neg (show ¬ Int32.ofNat (kd9 tp (ps9 tp i)) = (300 : Int32) from fun h9 => hk ((i32_eqN (b := 300) (by omega) (by omega)).mp h9))]
/-! the reference -/
theorem m_n1 {N lo hi : Nat} (hN : 401 < N) (hT : tX tp) (h : mA tp i M) (hg : gNu tp lo hi (ps9 tp i)) (hlo : lo < 2147483648) (hhi : hi < 2147483648) : ∃ M', f_X11_number N (Int32.ofNat lo) (Int32.ofNat hi) M = some (Int32.ofNat (vl9 tp (ps9 tp i)), M') ∧ mA tp (i + 1) M' ∧ mE M' M := by
  obtain ⟨p, b, hx, hp⟩ := h
  obtain ⟨M', a1, a2, a3⟩ := m_number hN hT hlo hhi hx
  obtain ⟨g1, g2, g3⟩ := nR_1 hT hg
  rw [hp] at a1 a2
  rw [g1] at a1
  rw [g2] at a2
  exact ⟨M', a1, ⟨_, _, a2, rfl⟩, a3⟩
theorem m_n0 {N lo hi : Nat} (hN : 401 < N) (hT : tX tp) (h : mA tp i M) (hg : ¬ gNu tp lo hi (ps9 tp i)) (hlo : lo < 2147483648) (hhi : hi < 2147483648) : ∃ M', f_X11_number N (Int32.ofNat lo) (Int32.ofNat hi) M = some (-1, M') ∧ mB tp i M' ∧ mE M' M := by
  obtain ⟨p, b, hx, hp⟩ := h
  obtain ⟨M', a1, a2, a3⟩ := m_number hN hT hlo hhi hx
  rw [hp] at a1 a2
  rw [nR_0 hT hg] at a1
  exact ⟨M', a1, ⟨_, a2⟩, a3⟩
theorem m_letA {N : Nat} (hN : 401 < N) (hT : tX tp) (h : mA tp i M) : ∃ M', f_X11_letters N M = some (0, M') ∧ mL tp i M' ∧ mE M' M := by
  obtain ⟨p, b, hx, hp⟩ := h
  obtain ⟨M', a1, a2, a3⟩ := m_letters hN hT hx
  rw [hp] at a2
  exact ⟨M', a1, a2, a3⟩
theorem mL.b (h : mL tp i M) : mB tp i M := ⟨_, h⟩
theorem mL.nx {k : Nat} (hT : tX tp) (hk : k < 21) (h : mL tp i M) (hw : kd9 tp (ps9 tp i) = 256 + k) : mA tp (i + 1) M := by
  obtain ⟨-, e2, -⟩ := en_w hT hk hw
  unfold mL at h
  rw [← e2] at h
  exact ⟨_, _, h, rfl⟩
theorem m_w1 {N k s : Nat} (hN : 401 < N) (hT : tX tp) (hs : ixs.getD k 0 = s) (hk : k < 21) (h : mL tp i M) (hw : kd9 tp (ps9 tp i) = 256 + k) : f_X11_isWord N (1000000 + s) M = some (1, M) := by
  have h33 := ixs_33 k hk
  have hx := (kW hT hk).mp hw
  rw [hs] at h33 hx
  rw [m_isWord (by omega) hT h33 h (rn_le _ _ rfl).1, if_pos hx]
theorem m_w0 {N k s : Nat} (hN : 401 < N) (hT : tX tp) (hs : ixs.getD k 0 = s) (hk : k < 21) (h : mL tp i M) (hw : ¬ kd9 tp (ps9 tp i) = 256 + k) : f_X11_isWord N (1000000 + s) M = some (0, M) := by
  have h33 := ixs_33 k hk
  have hx : ¬ wE tp (ixs.getD k 0) (ps9 tp i) (rn isL9 tp (ps9 tp i)) = true := fun h9 => hw ((kW hT hk).mpr h9)
  rw [hs] at h33 hx
  rw [m_isWord (by omega) hT h33 h (rn_le _ _ rfl).1, if_neg hx]
theorem m_p1 {N k s : Nat} (hN : 401 < N) (hT : tX tp) (hs : ixs.getD k 0 = s) (hk : k < 21) (h : mA tp i M) (hw : kd9 tp (ps9 tp i) = 256 + k) : ∃ M', f_X11_passes N (1000000 + s) M = some (1, M') ∧ mA tp (i + 1) M' ∧ mE M' M := by
  obtain ⟨p, b, hx, hp⟩ := h
  have h33 := ixs_33 k hk
  have hy := (kW hT hk).mp hw
  obtain ⟨-, e2, -⟩ := en_w hT hk hw
  rw [hs] at h33 hy
  obtain ⟨M', a1, a2, a3⟩ := m_passes1 hN hT h33 hx (by unfold le9; rw [hp]; exact hy)
  unfold le9 at a2
  rw [hp, ← e2] at a2
  exact ⟨M', a1, ⟨_, _, a2, rfl⟩, a3⟩
theorem m_p0 {N k s : Nat} (hN : 401 < N) (hT : tX tp) (hs : ixs.getD k 0 = s) (hk : k < 21) (h : mA tp i M) (hw : ¬ kd9 tp (ps9 tp i) = 256 + k) : ∃ M', f_X11_passes N (1000000 + s) M = some (0, M') ∧ mA tp i M' ∧ mB tp i M' ∧ mE M' M := by
  obtain ⟨p, b, hx, hp⟩ := h
  have h33 := ixs_33 k hk
  have hy : ¬ wE tp (ixs.getD k 0) (ps9 tp i) (rn isL9 tp (ps9 tp i)) = true := fun h9 => hw ((kW hT hk).mpr h9)
  rw [hs] at h33 hy
  obtain ⟨M', a1, a2, a3⟩ := m_passes0 hN hT h33 hx (by unfold le9; rw [hp]; exact hy)
  rw [hp] at a2
  exact ⟨M', a1, ⟨_, _, a2, bl_ps⟩, ⟨_, a2⟩, a3⟩
theorem m_a0 {N k s : Nat} {lo hi : Int32} (hN : 401 < N) (hT : tX tp) (hs : ixs.getD k 0 = s) (hk : k < 21) (h : mA tp i M) (hw : ¬ kd9 tp (ps9 tp i) = 256 + k) : ∃ M', f_X11_after N (1000000 + s) lo hi M = some (-1, M') ∧ mB tp i M' ∧ mE M' M := by
  obtain ⟨p, b, hx, hp⟩ := h
  have h33 := ixs_33 k hk
  have hy : ¬ wE tp (ixs.getD k 0) (ps9 tp i) (rn isL9 tp (ps9 tp i)) = true := fun h9 => hw ((kW hT hk).mpr h9)
  rw [hs] at h33 hy
  obtain ⟨M', a1, a2, a3⟩ := m_after0 (lo := lo) (hi := hi) hN hT h33 hx (by unfold le9; rw [hp]; exact hy)
  rw [hp] at a2
  exact ⟨M', a1, ⟨_, a2⟩, a3⟩
theorem m_a1 {N k s lo hi : Nat} (hN : 401 < N) (hT : tX tp) (hs : ixs.getD k 0 = s) (hk : k < 21) (h : mA tp i M) (hw : kd9 tp (ps9 tp i) = 256 + k) (hg : gNu tp lo hi (ps9 tp (i + 1))) (hlo : lo < 2147483648) (hhi : hi < 2147483648) : ∃ M', f_X11_after N (1000000 + s) (Int32.ofNat lo) (Int32.ofNat hi) M = some (Int32.ofNat (vl9 tp (ps9 tp (i + 1))), M') ∧ mA tp (i + 2) M' ∧ mB tp (i + 1) M' ∧ mE M' M := by
  obtain ⟨p, b, hx, hp⟩ := h
  have h33 := ixs_33 k hk
  have hy := (kW hT hk).mp hw
  obtain ⟨-, e2, -⟩ := en_w hT hk hw
  obtain ⟨g1, g2, g3⟩ := nR_1 hT hg
  rw [hs] at h33 hy
  obtain ⟨M', a1, a2, a3⟩ := m_after1 hN hT h33 hlo hhi hx (by unfold le9; rw [hp]; exact hy)
  have e3 : bl9 tp (le9 tp p) = ps9 tp (i + 1) := by unfold le9; rw [hp, ← e2]; rfl
  rw [e3] at a1 a2
  rw [g1] at a1
  rw [g2] at a2
  exact ⟨M', a1, ⟨_, _, a2, rfl⟩, ⟨_, a2⟩, a3⟩
theorem m_a2 {N k s lo hi : Nat} (hN : 401 < N) (hT : tX tp) (hs : ixs.getD k 0 = s) (hk : k < 21) (h : mA tp i M) (hw : kd9 tp (ps9 tp i) = 256 + k) (hg : ¬ gNu tp lo hi (ps9 tp (i + 1))) (hlo : lo < 2147483648) (hhi : hi < 2147483648) : ∃ M', f_X11_after N (1000000 + s) (Int32.ofNat lo) (Int32.ofNat hi) M = some (-1, M') ∧ mB tp (i + 1) M' ∧ mE M' M := by
  obtain ⟨p, b, hx, hp⟩ := h
  have h33 := ixs_33 k hk
  have hy := (kW hT hk).mp hw
  obtain ⟨-, e2, -⟩ := en_w hT hk hw
  rw [hs] at h33 hy
  obtain ⟨M', a1, a2, a3⟩ := m_after1 hN hT h33 hlo hhi hx (by unfold le9; rw [hp]; exact hy)
  have e3 : bl9 tp (le9 tp p) = ps9 tp (i + 1) := by unfold le9; rw [hp, ← e2]; rfl
  rw [e3] at a1 a2
  rw [nR_0 hT hg] at a1
  exact ⟨M', a1, ⟨_, a2⟩, a3⟩
theorem m_s1 {N c : Nat} (hN : 401 < N) (hT : tX tp) (hc : c < 128) (hl : ¬ isL9 c = true) (hd : ¬ isD9 c = true) (h : mA tp i M) (hk : kd9 tp (ps9 tp i) = c) : ∃ M', f_X11_sign N (Int32.ofNat c) M = some (1, M') ∧ mA tp (i + 1) M' ∧ mE M' M := by
  obtain ⟨p, b, hx, hp⟩ := h
  have hq := (kd_sign hT hc hl hd).mp hk
  obtain ⟨M', a1, a2, a3⟩ := m_sign1 hN hT hx hc (by rw [hp]; exact hq)
  have e2 := (ev_S hq.1 (by rw [hq.2]; exact hl) (by rw [hq.2]; exact hd)).2.2
  rw [hp, ← e2] at a2
  exact ⟨M', a1, ⟨_, _, a2, rfl⟩, a3⟩
theorem m_s0 {N c : Nat} (hN : 401 < N) (hT : tX tp) (hc : c < 128) (hl : ¬ isL9 c = true) (hd : ¬ isD9 c = true) (h : mA tp i M) (hk : ¬ kd9 tp (ps9 tp i) = c) : ∃ M', f_X11_sign N (Int32.ofNat c) M = some (0, M') ∧ mA tp i M' ∧ mB tp i M' ∧ mE M' M := by
  obtain ⟨p, b, hx, hp⟩ := h
  have hq : ¬ (ps9 tp i < tp.length ∧ tf tp (ps9 tp i) = c) := fun h9 => hk ((kd_sign hT hc hl hd).mpr h9)
  obtain ⟨M', a1, a2, a3⟩ := m_sign0 hN hT hx hc (by rw [hp]; exact hq)
  rw [hp] at a2
  exact ⟨M', a1, ⟨_, _, a2, bl_ps⟩, ⟨_, a2⟩, a3⟩
theorem m_bl {N : Nat} (hN : 401 < N) (hT : tX tp) (h : mA tp i M) : ∃ M', f_X11_blanks N M = some (0, M') ∧ mX tp (ps9 tp i) (ps9 tp i) M' ∧ mE M' M := by
  obtain ⟨p, b, hx, hp⟩ := h
  obtain ⟨M', a1, a2, a3⟩ := m_blanks hN hT hx
  rw [hp] at a2
  exact ⟨M', a1, a2, a3⟩
end AT
