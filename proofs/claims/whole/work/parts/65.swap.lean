/-! The two seats by changing which all are free the soonest. -/
def frN (W : Lw) (br : Int32) (nc : Nat) (mask : Int32) : Nat → Nat → Es → Nat
  | 0, _, _ => 1000000
  | k + 1, g, e => if (sHeld nc e.1 &&& mask) = 0 then g else frN W br nc mask k (g + 1) (sCalm W br nc e)
section SP
variable {nd nc : Nat} {T : Tb} {L : List Row} {K : LwS} {ms : List TbS} {im : Option (TbS × LwS)} {tp : List Nat} {ft : Int32} {W : Lw} {br mask : Int32}
theorem fr_N : ∀ (q g : Nat) (e : Es), sFreed W br nc mask q g e = Int32.ofNat (frN W br nc mask q g e) := by
  intro q
  induction q with
  | zero => intro g e; rfl
  | succ q ih =>
    intro g e
    rw [sFreed, frN]
    split
    · rfl
    · exact ih _ _
theorem fr_b : ∀ (q g : Nat) (e : Es), (g ≤ frN W br nc mask q g e ∧ frN W br nc mask q g e < g + q) ∨ frN W br nc mask q g e = 1000000 := by
  intro q
  induction q with
  | zero => intro g e; exact Or.inr rfl
  | succ q ih =>
    intro g e
    rw [frN]
    split
    · exact Or.inl ⟨Nat.le_refl _, by omega⟩
    · rcases ih (g + 1) (sCalm W br nc e) with h | h
      · exact Or.inl ⟨by omega, by omega⟩
      · exact Or.inr h
theorem fr_cut : ∀ (q p g : Nat) (e : Es), p ≤ q → g + q ≤ 1000 → frN W br nc mask p g e = if frN W br nc mask q g e < g + p then frN W br nc mask q g e else 1000000 := by
  intro q
  induction q with
  | zero =>
    intro p g e hp _
    obtain rfl : p = 0 := by omega
    rw [frN]; split <;> rfl
  | succ q ih =>
    intro p g e hp hg
    match p with
    | 0 =>
      rw [show frN W br nc mask 0 g e = 1000000 from rfl]
      rcases fr_b (W := W) (br := br) (nc := nc) (mask := mask) (q + 1) g e with h | h
      · rw [if_neg (by omega)]
      · rw [if_neg (by omega)]
    | p + 1 =>
      rw [frN, frN]
      by_cases q1 : (sHeld nc e.1 &&& mask) = 0
      · rw [if_pos q1, if_pos q1, if_pos (by omega)]
      · rw [if_neg q1, if_neg q1, ih p (g + 1) _ (by omega) (by omega), show g + 1 + p = g + (p + 1) from by omega]
theorem calm_tk {e e' : Es} (h1 : e.1 = e'.1) : (sCalm W br nc e).1 = (sCalm W br nc e').1 := by
  have hAll : ∀ (k i : Nat) (e e' : Es), e.1 = e'.1 → (sAll W br k i e).1 = (sAll W br k i e').1 := by
    intro k
    induction k with
    | zero => intro i e e' h1; exact h1
    | succ k ih =>
      intro i e e' h1
      refine ih (i + 1) _ _ ?_
      unfold sEat
      rw [h1]
      split
      · exact h1
      · split
        · exact h1
        · split
          · exact h1
          · rfl
  show sPass nc _ = sPass nc _
  rw [hAll nc 0 (e.1, e.2.1, 0, e.2.2.2) (e'.1, e'.2.1, 0, e'.2.2.2) h1]
theorem fr_tk : ∀ (q g : Nat) (e e' : Es), e.1 = e'.1 → frN W br nc mask q g e = frN W br nc mask q g e' := by
  intro q
  induction q with
  | zero => intro g e e' _; rfl
  | succ q ih =>
    intro g e e' h
    rw [frN, frN, h]
    split
    · rfl
    · exact ih _ _ _ (calm_tk h)
/-- how soon all are free with two seats changed about -/
def swF (W : Lw) (nc : Nat) (T : Tb) (L : List Row) (a b : Nat) : Nat := frN W 0 nc 31 201 0 (sSwap T a b, (fun _ => 0), 0, L)
def swS (W : Lw) (nc : Nat) (T : Tb) (L : List Row) (st : Nat × Int32) (a b : Nat) : Nat × Int32 := if swF W nc T L a b < st.1 then (swF W nc T L a b, Int32.ofNat (10 * a + b)) else st
def swI (W : Lw) (nc : Nat) (T : Tb) (L : List Row) (a : Nat) : Nat → Nat → Nat × Int32 → Nat × Int32
  | 0, _, st => st
  | k + 1, i, st => swI W nc T L a k (i + 1) (swS W nc T L st a i)
def swO (W : Lw) (nc : Nat) (T : Tb) (L : List Row) : Nat → Nat → Nat × Int32 → Nat × Int32
  | 0, _, st => st
  | k + 1, a, st => swO W nc T L k (a + 1) (swI W nc T L a (10 - (a + 1)) (a + 1) st)
def swOK (f0 : Nat) (st : Nat × Int32) : Prop := st.1 ≤ f0 ∧ (st.1 ≤ 200 ∨ st.1 = 1000000)
theorem swS_ok {f0 : Nat} {st : Nat × Int32} (h : swOK f0 st) (a b : Nat) : swOK f0 (swS W nc T L st a b) := by
  unfold swS
  split
  · rename_i q
    refine ⟨by dsimp only; have := h.1; omega, ?_⟩
    dsimp only
    rcases fr_b (W := W) (br := 0) (nc := nc) (mask := 31) 201 0 (sSwap T a b, (fun _ => 0), 0, L) with h9 | h9
    · exact Or.inl (by unfold swF; omega)
    · exact Or.inr h9
  · exact h
theorem swI_ok {f0 : Nat} {a : Nat} : ∀ (k i : Nat) (st : Nat × Int32), swOK f0 st → swOK f0 (swI W nc T L a k i st) := by
  intro k
  induction k with
  | zero => intro i st h; exact h
  | succ k ih => intro i st h; exact ih _ _ (swS_ok h a i)
def cl2 (s : Nat) : Nat := if s ≤ 200 then s else 201
theorem c_86 {M M0 : Mm} {a b : Nat} {st : Nat × Int32} {f0 : Nat} {k50 : Int32 → Int32 → Int32 → Int32 → Mm → Option (Int32 × Mm)} (h : InvS (nd, nc, T, L) K ms im tp ft M0) (hq : cQ M M0) (ha : a < 10) (hb : b < 10) (hab : a ≠ b) (hst : swOK f0 st) : ∃ M', f_X10_swap_86 20000 k50 (Int32.ofNat (cl2 st.1)) st.2 (Int32.ofNat a) (Int32.ofNat b) M = k50 (Int32.ofNat (cl2 (swS K.2 nc T L st a b).1)) (swS K.2 nc T L st a b).2 (Int32.ofNat a) (Int32.ofNat (b + 1)) M' ∧ cQ M' M0 := by
  have hR : RW nd nc T L (M0 209) := h.2.1.1
  have hO : lwOK K.2 := h.2.2.1
  have hnc := hR.1.2.1
  have hI := h.1.q hq
  have hs : slc 7 M = T := hI.1
  obtain ⟨M1, a1, a2, a3, a4, a5, a6⟩ := c_looksAhead (M := M) hI.2.2.2.2.2.2.2 (by rw [hs]; exact hR.2.2.2.2.2.2.2)
  obtain ⟨M2, b1, b2, b3⟩ := c_changes (N := 20000) (p := 16) (M := M1) ha hb
  have s2 : slc 16 M2 = sSwap T a b := by rw [b2, a2, hs]
  obtain ⟨Mx, ex1, ex2, ex3, ex4, ex5⟩ := m_exch hR ha hb hab
  have hgd : gdE nd nc K.2 0 (sSwap T a b, M2 41, 0, L) := ⟨Mx, ex2, h.2.1.2.1.1.frame ex3 (fun j x _ => ex4 j x) hO, by rw [ex5 208 (by decide)]; exact h.2.1.2.2.2.2.2.2⟩
  have h161 : M2 16 1 = Int32.ofNat nc := by
    rw [show M2 16 1 = sSwap T a b 0 1 from slE s2 (i := 0) (by decide), sw_row (by decide)]; exact hR.1.2.2.2.1
  have e39 : M2 39 2 = 0 := by rw [b3 39 (by decide)]; exact a4
  have hp : cl2 st.1 ≤ 201 := by unfold cl2; split <;> omega
  obtain ⟨M3, c1, c2, c3⟩ := c_until (nd := nd) (nc := nc) (L := L) (K := K) (p := cl2 st.1) (mask := sHeld nc (sSwap T a b)) (M1 := M2) (T' := sSwap T a b) hO (hI.2.2.1.1.frame (fun i hi => by rw [b3 _ (by omega), a6 _ (by omega) (by omega) (by omega)])) hp (by rw [e39]; exact hgd) s2
  rw [e39, freed_all hO _ 0 _ hgd (fun j _ => Int32.le_refl _), fr_N, fr_cut 201 (cl2 st.1) 0 _ hp (by omega), Nat.zero_add, fr_tk 201 0 (sSwap T a b, M2 41, 0, L) (sSwap T a b, (fun _ => 0), 0, L) rfl] at c1
  have hfb := fr_b (W := K.2) (br := 0) (nc := nc) (mask := 31) 201 0 (sSwap T a b, (fun _ => 0), 0, L)
  refine ⟨M3, ?_, ?_⟩
  · unfold f_X10_swap_86
    rw [a1]
    simp only [bnd]
    rw [b1]
    simp only []
    rw [c_held hnc h161, s2]
    simp only []
    rw [c1]
    simp only [lt, i32_succ]
    unfold swS swF
    by_cases q : frN K.2 0 nc 31 201 0 (sSwap T a b, (fun _ => 0), 0, L) < st.1
    · have q' : frN K.2 0 nc 31 201 0 (sSwap T a b, (fun _ => 0), 0, L) < cl2 st.1 := by
        unfold cl2
        rcases hst.2 with h9 | h9
        · rw [if_pos h9]; exact q
        · rw [if_neg (by omega)]; omega
      have hs200 : cl2 (frN K.2 0 nc 31 201 0 (sSwap T a b, (fun _ => 0), 0, L)) = frN K.2 0 nc 31 201 0 (sSwap T a b, (fun _ => 0), 0, L) := by
        unfold cl2; rw [if_pos (by omega)]
      rw [if_pos q', if_pos q]
      have ho : orN (Int32.ofNat (frN K.2 0 nc 31 201 0 (sSwap T a b, (fun _ => 0), 0, L))) = Int32.ofNat (frN K.2 0 nc 31 201 0 (sSwap T a b, (fun _ => 0), 0, L)) := by
        unfold orN; rw [if_pos (show _ < (1000000 : Int32) from i32_ltn (n := 1000000) (by omega) (by omega))]
      rw [ho, if_neg (i32_nm1 (by omega)), hs200]
      rw [show (10 : Int32) * Int32.ofNat a + Int32.ofNat b = Int32.ofNat (10 * a + b) from by
        show Int32.ofNat 10 * Int32.ofNat a + _ = _
        rw [i32_mulN, i32_addN]]
    · have q' : ¬ frN K.2 0 nc 31 201 0 (sSwap T a b, (fun _ => 0), 0, L) < cl2 st.1 := by
        unfold cl2
        rcases hst.2 with h9 | h9
        · rw [if_pos h9]; exact q
        · rw [if_neg (by omega)]; omega
      rw [if_neg q', if_neg q, show Int32.ofNat 1000000 = (1000000 : Int32) from rfl, orN_far, if_pos rfl]
  · obtain ⟨q1, q2, -⟩ := hq
    refine ⟨fun x hx => ?_, fun j hj => ?_, c2⟩
    · have hx' := hx
      unfold sc9 at hx'
      rw [c3 x (by omega) (by omega) (by omega), b3 x (by omega), a6 x (by omega) (by omega) (by omega)]; exact q1 x hx
    · rw [c3 0 (by omega) (by omega) (by omega), b3 0 (by omega), a6 0 (by omega) (by omega) (by omega)]; exact q2 j hj
theorem c_swap_50 {M0 : Mm} {a : Nat} {k37 : Int32 → Int32 → Int32 → Mm → Option (Int32 × Mm)} (h : InvS (nd, nc, T, L) K ms im tp ft M0) (ha : a < 10) : ∀ (n k i : Nat) (st : Nat × Int32) (M : Mm), cQ M M0 → a < i → swOK (frN K.2 0 nc 31 201 0 (T, (fun _ => 0), 0, L)) st → i + k = 10 → k < n → ∃ M', f_X10_swap_50 20000 k37 n (Int32.ofNat (cl2 st.1)) st.2 (Int32.ofNat a) (Int32.ofNat i) M = k37 (Int32.ofNat (cl2 (swI K.2 nc T L a k i st).1)) (swI K.2 nc T L a k i st).2 (Int32.ofNat (a + 1)) M' ∧ cQ M' M0 := by
  have hR : RW nd nc T L (M0 209) := h.2.1.1
  intro n
  induction n with
  | zero => intro k i st M _ _ _ _ h; omega
  | succ n ih =>
    intro k i st M hq hai hst hik hk
    rw [f_X10_swap_50]
    match k with
    | 0 =>
      rw [if_pos (show (10 : Int32) ≤ Int32.ofNat i from i32_len (k := 10) (by omega) (by omega)), i32_succ]
      exact ⟨M, rfl, hq⟩
    | k + 1 =>
      have hi : i < 10 := by omega
      have hs : slc 7 M = T := (h.1.q hq).1
      rw [if_neg (show ¬ (10 : Int32) ≤ Int32.ofNat i from i32_nle (n := 10) hi (by omega)), c_dinerAt, hs, sDinerAt_eq ha]
      simp only [bnd, c_dinerAt, hs, sDinerAt_eq hi]
      have h86 : ∃ M', f_X10_swap_86 20000 (fun v2 v3 v4 v5 M => f_X10_swap_50 20000 k37 n v2 v3 v4 v5 M) (Int32.ofNat (cl2 st.1)) st.2 (Int32.ofNat a) (Int32.ofNat i) M = k37 (Int32.ofNat (cl2 (swI K.2 nc T L a (k + 1) i st).1)) (swI K.2 nc T L a (k + 1) i st).2 (Int32.ofNat (a + 1)) M' ∧ cQ M' M0 := by
        obtain ⟨M1, a1, a2⟩ := c_86 (k50 := fun v2 v3 v4 v5 M => f_X10_swap_50 20000 k37 n v2 v3 v4 v5 M) h hq ha hi (by omega) hst
        obtain ⟨M2, b1, b2⟩ := ih k (i + 1) (swS K.2 nc T L st a i) M1 a2 (by omega) (swS_ok hst a i) (by omega) (by omega)
        exact ⟨M2, by rw [a1]; exact b1, b2⟩
      by_cases q1 : T 1 a = -1
      · rw [if_pos q1]
        by_cases q2 : T 1 i = -1
        · rw [if_pos q2, i32_succ]
          have hsw : sSwap T a i = T := by
            funext x y
            by_cases hx : x = 1
            · subst hx
              rw [sw_at]
              by_cases h1 : y = i
              · rw [if_pos h1, h1, q1, q2]
              · rw [if_neg h1]
                by_cases h2 : y = a
                · rw [if_pos h2, h2, q1, q2]
                · rw [if_neg h2]
            · rw [sw_row hx]
          have hS : swS K.2 nc T L st a i = st := by
            unfold swS swF
            rw [hsw, if_neg (by have := hst.1; omega)]
          obtain ⟨M2, b1, b2⟩ := ih k (i + 1) st M hq (by omega) hst (by omega) (by omega)
          refine ⟨M2, ?_, b2⟩
          rw [b1, show swI K.2 nc T L a (k + 1) i st = swI K.2 nc T L a k (i + 1) (swS K.2 nc T L st a i) from rfl, hS]
        · rw [if_neg q2]; exact h86
      · rw [if_neg q1]; exact h86
theorem c_swap_37 {M0 : Mm} (h : InvS (nd, nc, T, L) K ms im tp ft M0) : ∀ (n k i : Nat) (st : Nat × Int32) (M : Mm), cQ M M0 → swOK (frN K.2 0 nc 31 201 0 (T, (fun _ => 0), 0, L)) st → i + k = 10 → k < n → ∃ M', f_X10_swap_37 20000 n (Int32.ofNat (cl2 st.1)) st.2 (Int32.ofNat i) M = some ((swO K.2 nc T L k i st).2, M') ∧ cQ M' M0 := by
  intro n
  induction n with
  | zero => intro k i st M _ _ _ h; omega
  | succ n ih =>
    intro k i st M hq hst hik hk
    rw [f_X10_swap_37]
    match k with
    | 0 =>
      rw [if_pos (show (10 : Int32) ≤ Int32.ofNat i from i32_len (k := 10) (by omega) (by omega))]
      exact ⟨M, rfl, hq⟩
    | k + 1 =>
      rw [if_neg (show ¬ (10 : Int32) ≤ Int32.ofNat i from i32_nle (n := 10) (by omega) (by omega))]
      simp only [lt, i32_succ]
      obtain ⟨M1, a1, a2⟩ := c_swap_50 (k37 := fun v2 v3 v4 M => f_X10_swap_37 20000 n v2 v3 v4 M) h (show i < 10 by omega) 20000 (10 - (i + 1)) (i + 1) st M hq (by omega) hst (by omega) (by omega)
      obtain ⟨M2, b1, b2⟩ := ih k (i + 1) (swI K.2 nc T L i (10 - (i + 1)) (i + 1) st) M1 a2 (swI_ok _ _ _ hst) (by omega) (by omega)
      exact ⟨M2, by rw [a1]; exact b1, b2⟩
/-! the reference -/
def mR (nd nc : Nat) (T : Tb) (L : List Row) (M M0 : Mm) : Prop := RW nd nc T L (M 209) ∧ M 209 3 = M0 209 3 ∧ (∀ j, 409 ≤ j → M 209 j = M0 209 j) ∧ ∀ x, x ≠ 209 → x ≠ 212 → x ≠ 216 → M x = M0 x
theorem m_pair {M M0 : Mm} {a b : Nat} (hO : lwOK W) (hW0 : wLaw W M0) (hbr : M0 208 18 = 0) (h : mR nd nc T L M M0) (ha : a < 10) (hb : b < 10) (hab : a ≠ b) : ∃ M1 M2 M3, f_X11_exchanges 20000 (Int32.ofNat a) (Int32.ofNat b) M = some (0, M1) ∧ f_X11_freedIn 20000 31 M1 = some (Int32.ofNat (swF W nc T L a b), M2) ∧ f_X11_exchanges 20000 (Int32.ofNat a) (Int32.ofNat b) M2 = some (0, M3) ∧ mR nd nc T L M3 M0 := by
  obtain ⟨h1, h2, h3, h4⟩ := h
  obtain ⟨M1, a1, a2, a3, a4, a5⟩ := m_exch h1 ha hb hab
  have hW1 : wLaw W M1 := hW0.frame (a3.trans h2) (fun j x _ => (a4 j x).trans (h3 j x)) hO
  obtain ⟨M2, b1, b2, b3⟩ := m_freedIn (N := 20000) (mask := 31) (e := (sSwap T a b, (fun _ => 0), 0, L)) rfl hO a2 hW1
  rw [show M1 208 18 = 0 from by rw [a5 208 (by decide), h4 208 (by decide) (by decide) (by decide)]; exact hbr, fr_N] at b1
  obtain ⟨M3, c1, c2, c3, c4, c5⟩ := m_exch (M := M2) (T := sSwap T a b) (nd := nd) (nc := nc) (L := L) (by rw [b2]; exact a2) ha hb hab
  rw [sw_sw hab] at c2
  refine ⟨M1, M2, M3, a1, b1, c1, c2, by rw [c3, b2, a3, h2], fun j hj => by rw [c4 j hj, b2, a4 j hj, h3 j hj], fun x x1 x2 x3 => by rw [c5 x x1, b3 x x2 x3, a5 x x1, h4 x x1 x2 x3]⟩
theorem m_swap_27 {M0 : Mm} {a : Nat} {k16 : Int32 → Int32 → Int32 → Mm → Option (Int32 × Mm)} {f0 : Nat} (hO : lwOK W) (hW0 : wLaw W M0) (hbr : M0 208 18 = 0) (ha : a < 10) : ∀ (n k i : Nat) (st : Nat × Int32) (M : Mm), mR nd nc T L M M0 → a < i → swOK f0 st → i + k = 10 → k < n → ∃ M', f_X11_swap_27 20000 k16 n st.2 (Int32.ofNat st.1) (Int32.ofNat a) (Int32.ofNat i) M = k16 (swI W nc T L a k i st).2 (Int32.ofNat (swI W nc T L a k i st).1) (Int32.ofNat (a + 1)) M' ∧ mR nd nc T L M' M0 := by
  intro n
  induction n with
  | zero => intro k i st M _ _ _ _ h; omega
  | succ n ih =>
    intro k i st M hq hai hst hik hk
    rw [f_X11_swap_27]
    match k with
    | 0 =>
      rw [if_pos (show (10 : Int32) ≤ Int32.ofNat i from i32_len (k := 10) (by omega) (by omega)), i32_succ]
      exact ⟨M, rfl, hq⟩
    | k + 1 =>
      have hi : i < 10 := by omega
      rw [if_neg (show ¬ (10 : Int32) ≤ Int32.ofNat i from i32_nle (n := 10) hi (by omega))]
      obtain ⟨M1, M2, M3, a1, a2, a3, a4⟩ := m_pair (W := W) hO hW0 hbr hq ha hi (by omega)
      have hfb : swF W nc T L a i ≤ 1000000 := by
        rcases fr_b (W := W) (br := 0) (nc := nc) (mask := 31) 201 0 (sSwap T a i, (fun _ => 0), 0, L) with h9 | h9 <;> (unfold swF; omega)
      have hsb : st.1 ≤ 1000000 := by rcases hst.2 with h9 | h9 <;> omega
      have e10 : (10 : Int32) * Int32.ofNat a + Int32.ofNat i = Int32.ofNat (10 * a + i) := by
        show Int32.ofNat 10 * Int32.ofNat a + _ = _
        rw [i32_mulN, i32_addN]
      rw [a1]
      simp only [bnd]
      rw [a2]
      simp only []
      rw [a3]
      simp only [f_X11_swap_73, lt, i32_succ, e10]
      obtain ⟨M4, b1, b2⟩ := ih k (i + 1) (swS W nc T L st a i) M3 a4 (by omega) (swS_ok hst a i) (by omega) (by omega)
      refine ⟨M4, ?_, b2⟩
      rw [show swI W nc T L a (k + 1) i st = swI W nc T L a k (i + 1) (swS W nc T L st a i) from rfl, ← b1]
      unfold swS
      by_cases q : swF W nc T L a i < st.1
      · rw [if_pos q, if_neg (i32_nle q (by omega)), if_pos (i32_ltn q (by omega))]
      · rw [if_neg q, if_pos (i32_len (by omega) (by omega)), if_neg (i32_nlt (by omega) (by omega))]
theorem m_swap_16 {M0 : Mm} {f0 : Nat} (hO : lwOK W) (hW0 : wLaw W M0) (hbr : M0 208 18 = 0) : ∀ (n k i : Nat) (st : Nat × Int32) (M : Mm), mR nd nc T L M M0 → swOK f0 st → i + k = 10 → k < n → ∃ M', f_X11_swap_16 20000 n st.2 (Int32.ofNat st.1) (Int32.ofNat i) M = some ((swO W nc T L k i st).2, M') ∧ mR nd nc T L M' M0 := by
  intro n
  induction n with
  | zero => intro k i st M _ _ _ h; omega
  | succ n ih =>
    intro k i st M hq hst hik hk
    rw [f_X11_swap_16]
    match k with
    | 0 =>
      rw [if_pos (show (10 : Int32) ≤ Int32.ofNat i from i32_len (k := 10) (by omega) (by omega))]
      exact ⟨M, rfl, hq⟩
    | k + 1 =>
      rw [if_neg (show ¬ (10 : Int32) ≤ Int32.ofNat i from i32_nle (n := 10) (by omega) (by omega))]
      simp only [lt, i32_succ]
      obtain ⟨M1, a1, a2⟩ := m_swap_27 (k16 := fun v1 v2 v3 M => f_X11_swap_16 20000 n v1 v2 v3 M) hO hW0 hbr (show i < 10 by omega) 20000 (10 - (i + 1)) (i + 1) st M hq (by omega) hst (by omega) (by omega)
      obtain ⟨M2, b1, b2⟩ := ih k (i + 1) (swI W nc T L i (10 - (i + 1)) (i + 1) st) M1 a2 (swI_ok _ _ _ hst) (by omega) (by omega)
      exact ⟨M2, by rw [a1]; exact b1, b2⟩
theorem c_swap0 {M0 : Mm} {N : Nat} (hN : 10 < N) (h : InvS (nd, nc, T, L) K ms im tp ft M0) (st : Nat × Int32) (M : Mm) (h1 : cQ M M0) (h2 : swOK (frN K.2 0 nc 31 201 0 (T, (fun _ => 0), 0, L)) st) : ∃ M', f_X10_swap_37 20000 N (Int32.ofNat (cl2 st.1)) st.2 0 M = some ((swO K.2 nc T L 10 0 st).2, M') ∧ cQ M' M0 := c_swap_37 h N 10 0 st M h1 h2 (by omega) hN
theorem m_swap0 {M0 : Mm} {f0 N : Nat} (hN : 10 < N) (hO : lwOK W) (hW0 : wLaw W M0) (hbr : M0 208 18 = 0) (st : Nat × Int32) (M : Mm) (h1 : mR nd nc T L M M0) (h2 : swOK f0 st) : ∃ M', f_X11_swap_16 20000 N st.2 (Int32.ofNat st.1) 0 M = some ((swO W nc T L 10 0 st).2, M') ∧ mR nd nc T L M' M0 := m_swap_16 hO hW0 hbr N 10 0 st M h1 h2 (by omega) hN
theorem c_swapU (N : Nat) (M M2 M8 : Mm) (r4 r7 : Int32) (h1 : f_X10_looksAhead N M = some (0, M2)) (h2 : f_X6_heldCellars N 16 M2 = some (r4, M2)) (h3 : f_X10_untilFree N r4 200 M2 = some (r7, M8)) : f_X10_swap N M = if r7 = -1 then f_X10_swap_37 N N 201 (-1) 0 M8 else f_X10_swap_37 N N r7 (-1) 0 M8 := by
  unfold f_X10_swap
  simp only [h1, h2, h3, bnd]
theorem m_swapU (N : Nat) (M M3 : Mm) (r2 : Int32) (h1 : f_X11_freedIn N 31 (wr M 208 0 0) = some (r2, M3)) : f_X11_swap N M = f_X11_swap_16 N N (-1) r2 0 M3 := by
  unfold f_X11_swap
  simp only [lt, h1, bnd]
theorem P_swap {M : Mm} (h : InvM M) : Cd (fun M => f_X10_swap 20000 M) (fun M => f_X11_swap 20000 M) M := by
  obtain ⟨nd, nc, T, L, K, ms, im, tp, ft, h, hR, hs, hz, h70, h71, hnd, hnc⟩ := Ix h
  have hO : lwOK K.2 := h.2.2.1
  obtain ⟨M1, a1, a2, a3, a4, a5, a6⟩ := c_looksAhead (M := M) h.1.2.2.2.2.2.2.2 (by rw [hs]; exact hR.2.2.2.2.2.2.2)
  have s16 : slc 16 M1 = T := a2.trans hs
  have h161 : M1 16 1 = Int32.ofNat nc := (slE s16 (i := 0) (by decide)).trans hR.1.2.2.2.1
  have hg : gdE nd nc K.2 0 (T, M1 41, 0, L) := gd_I h.2.1 _ _
  obtain ⟨M2, b1, b2, b3⟩ := c_until (nd := nd) (nc := nc) (L := L) (K := K) (p := 201) (mask := sHeld nc T) (M1 := M1) (T' := T) hO (h.1.2.2.1.1.frame (fun i hi => a6 _ (by omega) (by omega) (by omega))) (by omega) (by rw [a4]; exact hg) s16
  rw [a4, freed_all hO 201 0 _ hg (fun j _ => Int32.le_refl _), fr_N, fr_tk 201 0 (T, M1 41, 0, L) (T, (fun _ => 0), 0, L) rfl] at b1
  have hq : cQ M2 M := cQs (fun x h1 h2 h3 h4 => by rw [b3 x h1 h3 h4, a6 x h1 h2 h4]) b2
  have hfb := fr_b (W := K.2) (br := 0) (nc := nc) (mask := 31) 201 0 (T, (fun _ => 0), 0, L)
  generalize hf0 : frN K.2 0 nc 31 201 0 (T, (fun _ => 0), 0, L) = f0 at b1 hfb
  have hst : swOK f0 (f0, -1) := ⟨Nat.le_refl _, by rcases hfb with h9 | h9 <;> (dsimp only; omega)⟩
  obtain ⟨M3, c1, c2⟩ := c_swap0 (N := 20000) (by decide) h (f0, -1) M2 hq (by rw [hf0]; exact hst)
  refine Ca (A' := (nd, nc, T, L)) (K' := K) (ms' := ms) (im' := im) (tp' := tp) (ft' := ft) (r := (swO K.2 nc T L 10 0 (f0, -1)).2) (M1 := M3) h ?_ (h.1.q c2) (fun x hx => c2.hi hx) h.2.2 ⟨0, fun M' hm => ?_⟩
  · show f_X10_swap 20000 M = _
    rw [c_swapU 20000 M M1 M2 _ _ a1 (c_held hnc h161) (by rw [s16, show (200 : Int32) = Int32.ofNat 201 - 1 from by decide]; exact b1)]
    by_cases q : f0 ≤ 200
    · have ho : orN (Int32.ofNat f0) = Int32.ofNat f0 := by
        unfold orN; rw [if_pos (show _ < (1000000 : Int32) from i32_ltn (n := 1000000) (by omega) (by omega))]
      rw [ho, if_neg (i32_nm1 (by omega))]
      have hc : cl2 f0 = f0 := by unfold cl2; rw [if_pos q]
      dsimp only at c1
      rw [hc] at c1
      exact c1
    · have hf : f0 = 1000000 := by omega
      have hc : cl2 f0 = 201 := by unfold cl2; rw [if_neg q]
      dsimp only at c1
      rw [hc] at c1
      rw [hf, show Int32.ofNat 1000000 = (1000000 : Int32) from rfl, orN_far, if_pos rfl, ← hf]
      exact c1
  · obtain ⟨M4, d1, d2, d3⟩ := m_freedIn (N := 20000) (mask := 31) (e := (T, (fun _ => 0), 0, L)) rfl hO (mW hm (c := 0)) (mWl hm)
    rw [show (wr M' 208 0 0) 208 18 = 0 from by rw [wr_nk (by decide)]; exact hm.2.2.2.2.2.2, fr_N, hf0] at d1
    obtain ⟨M5, e1, e2, e3, e4, e5⟩ := m_swap0 (nd := nd) (nc := nc) (T := T) (L := L) (W := K.2) (M0 := wr M' 208 0 0) (f0 := f0) (N := 20000) (by decide) hO (mWl hm) (by rw [wr_nk (by decide)]; exact hm.2.2.2.2.2.2) (f0, -1) M4 ⟨by rw [d2]; exact mW hm, by rw [d2], fun j _ => by rw [d2], fun x x1 x2 x3 => d3 x x2 x3⟩ hst
    refine ⟨M5, ?_, (hm.th (c := 0)).up (A' := (nd, nc, T, L)) hO e2 e3 e4 (e5 _ (by decide) (by decide) (by decide)) (e5 _ (by decide) (by decide) (by decide)) (e5 _ (by decide) (by decide) (by decide)) (fun j _ => by rw [e5 208 (by decide) (by decide) (by decide)]), fun x hx => by rw [e5 x (by omega) (by omega) (by omega), wr_nrow (by omega)], by rw [e5 208 (by decide) (by decide) (by decide), wr_eq]⟩
    show f_X11_swap 20000 M' = _
    rw [m_swapU 20000 M' M4 _ d1]
    exact e1
end SP
