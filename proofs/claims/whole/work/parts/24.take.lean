/-! All take; THE LOG. -/
def pk (r : Row) : Int32 := ((((r.1 <<< ((18 : Int32) &&& 31)) ||| (r.2.1 <<< ((14 : Int32) &&& 31))) ||| (r.2.2.1 <<< ((11 : Int32) &&& 31))) ||| (r.2.2.2.1 <<< ((8 : Int32) &&& 31))) ||| r.2.2.2.2
def cLog (a : Nat) (L : List Row) (M : Mm) : Prop := L.length ≤ 60 ∧ M a 1 = Int32.ofNat L.length ∧ ∃ nx, nx < 60 ∧ M a 2 = Int32.ofNat nx ∧ ∀ k (h : k < L.length), M (a + 1) ((nx + 119 - k) % 60) = pk (L[k]'h)
theorem cLog.frame {a : Nat} {L : List Row} {M M' : Mm} (h : cLog a L M) (h0 : M' a = M a) (h1 : M' (a + 1) = M (a + 1)) : cLog a L M' := by
  obtain ⟨g1, g2, nx, g3, g4, g5⟩ := h
  exact ⟨g1, by rw [h0]; exact g2, nx, g3, by rw [h0]; exact g4, fun k hk => by rw [h1]; exact g5 k hk⟩
theorem i32_nn {k : Nat} (h : k < 2147483648) : ¬ Int32.ofNat k < (0 : Int32) := Int32.not_lt.mpr ((i32_leN (a := 0) (by omega) h).mpr (by omega))
theorem c_adds {N a t : Nat} {d c p : Int32} {L : List Row} {M : Mm} (h : cLog a L M) : ∃ M', f_X4_adds N a t d c p M = some (0, M') ∧ cLog a (((M t 5, M t 4, d, c, p) :: L).take 60) M' ∧ ∀ x, x ≠ a → x ≠ a + 1 → M' x = M x := by
  obtain ⟨g1, g2, nx, g3, g4, g5⟩ := h
  have hin : inb (Int32.ofNat nx) 60 = true := inb_ofNat g3 (by omega)
  have hcl : (Int32.ofNat nx).toNatClampNeg = nx := i32_clampN (by omega)
  unfold f_X4_adds
  rw [g4, if_neg (i32_nn (by omega)), if_pos (show Int32.ofNat nx < (60 : Int32) from (i32_ltN (b := 60) (by omega) (by omega)).mpr g3)]
  simp only [grd, hin, if_true, hcl, lt]
  refine ⟨_, rfl, ?_, fun x h1 h2 => ?_⟩
  · have e2 : ∀ (v : Int32), wr M (a + 1) nx v a 2 = Int32.ofNat nx := fun v => by rw [wr_ne (by omega)]; exact g4
    have e1 : ∀ (v v' : Int32), wr (wr M (a + 1) nx v) a 2 v' a 1 = Int32.ofNat L.length := fun v v' => by rw [wr_nk (by decide), wr_ne (by omega)]; exact g2
    rw [e2, e1, i32_succ, i32_succ]
    refine ⟨by rw [List.length_take]; omega, ?_, (nx + 1) % 60, Nat.mod_lt _ (by decide), ?_, fun k hk => ?_⟩
    · rw [wr_eq, List.length_take, List.length_cons]
      by_cases h60 : L.length + 1 < 60
      · rw [if_pos (show Int32.ofNat (L.length + 1) < (60 : Int32) from (i32_ltN (b := 60) (by omega) (by omega)).mpr h60), Nat.min_eq_right (by omega)]
      · rw [if_neg (show ¬ Int32.ofNat (L.length + 1) < (60 : Int32) from fun h9 => h60 ((i32_ltN (b := 60) (by omega) (by omega)).mp h9)), Nat.min_eq_left (by omega)]; rfl
    · rw [wr_nk (by decide), wr_eq]
      exact i32_remN (m := 60) (by omega) (by omega)
    · rw [wr_ne (by omega), wr_ne (by omega)]
      have hk60 : k < 60 ∧ k < L.length + 1 := by
        rw [List.length_take, List.length_cons] at hk; omega
      rw [List.getElem_take]
      match k with
      | 0 =>
        rw [show ((nx + 1) % 60 + 119 - 0) % 60 = nx from by omega, wr_eq]; rfl
      | k + 1 =>
        have e9 : ((nx + 1) % 60 + 119 - (k + 1)) % 60 = (nx + 119 - k) % 60 := by omega
        rw [e9, wr_nk (by omega), List.getElem_cons_succ]
        exact g5 k (by omega)
  · rw [wr_nrow h1, wr_nrow h1, wr_nrow h2]
abbrev Es := Tb × (Nat → Int32) × Int32 × List Row
def sEat (W : Lw) (br : Int32) (c : Nat) (e : Es) : Es :=
  if sWho e.1 c < 0 then e else if 8 ≤ sWho e.1 c then e else if e.1 6 c ≤ 0 then e else
    (sTake e.1 c (sWho e.1 c) (sP W br e.1 c (sWho e.1 c)), updF e.2.1 (sWho e.1 c).toNatClampNeg (e.2.1 (sWho e.1 c).toNatClampNeg + sP W br e.1 c (sWho e.1 c)), e.2.2.1 + sP W br e.1 c (sWho e.1 c),
      if sP W br e.1 c (sWho e.1 c) ≤ 0 then e.2.2.2 else ((e.1 0 5, e.1 0 4, sWho e.1 c, Int32.ofNat c, sP W br e.1 c (sWho e.1 c)) :: e.2.2.2).take 60)
def sAll (W : Lw) (br : Int32) : Nat → Nat → Es → Es
  | 0, _, e => e
  | k + 1, c, e => sAll W br k (c + 1) (sEat W br c e)
theorem sGain_row {T : Tb} {d t p : Int32} {i : Nat} (h : i ≠ 3) : sGain T d t p i = T i := by
  unfold sGain; split
  · rfl
  · split
    · rfl
    · exact wr_nrow h
theorem sTake_row {T : Tb} {c : Nat} {d p : Int32} {i : Nat} (h : i ≠ 3) (h6 : i ≠ 6) : sTake T c d p i = T i := by
  unfold sTake; rw [sGain_row h, wr_nrow h6]
theorem c_allTake_n {a nc : Nat} {W : Lw} (ha : a + 8 < 25) (hnc : nc ≤ 5) (L : List Row) : ∀ (n k i : Nat) (v : Int32) (M : Mm), cLaw 25 W M → M a 1 = Int32.ofNat nc → i + k = nc → k < n →
    ∃ M', f_X5_allTake_n_6 20000 a 25 n v (Int32.ofNat i) M = some ((sAll W (M 39 2) k i (slc a M, M 41, v, L)).2.2.1, M') ∧ slc a M' = (sAll W (M 39 2) k i (slc a M, M 41, v, L)).1 ∧ M' 41 = (sAll W (M 39 2) k i (slc a M, M 41, v, L)).2.1 ∧ ∀ x, (x < a ∨ a + 8 < x) → x ≠ 40 → x ≠ 41 → M' x = M x := by
  intro n
  revert L
  induction n with
  | zero => intro L k i v M _ _ _ h; omega
  | succ n ih =>
    intro L k i v M hW hM hik hn
    rw [f_X5_allTake_n_6, hM]
    match k with
    | 0 =>
      rw [if_pos ((i32_leN (by omega) (by omega)).mpr (by omega))]
      exact ⟨M, rfl, rfl, rfl, fun _ _ _ _ => rfl⟩
    | k + 1 =>
      have hin : inb (Int32.ofNat i) 5 = true := inb_ofNat (by omega) (by omega)
      have hcl : (Int32.ofNat i).toNatClampNeg = i := i32_clampN (by omega)
      rw [if_neg (fun h9 => by have := (i32_leN (by omega) (by omega)).mp h9; omega), if_neg (fun h9 => by have := (i32_leN (a := 5) (by omega) (by omega)).mp h9; omega)]
      simp only [grd, hin, if_true, hcl, c_dinerAt, bnd, i32_succ]
      have e4 : M (a + 4) i = slc a M 4 i := (slc_at (by decide)).symm
      have e6 : M (a + 6) i = slc a M 6 i := (slc_at (by decide)).symm
      rw [e4, e6, show sDinerAt (slc a M) (slc a M 4 i) = sWho (slc a M) i from rfl]
      simp only [sAll, sEat]
      by_cases q1 : sWho (slc a M) i < 0
      · simp only [if_pos q1]; exact ih L k (i + 1) v M hW hM (by omega) (by omega)
      · simp only [if_neg q1]
        by_cases q2 : 8 ≤ sWho (slc a M) i
        · simp only [if_pos q2]; exact ih L k (i + 1) v M hW hM (by omega) (by omega)
        · simp only [if_neg q2]
          by_cases q3 : slc a M 6 i ≤ 0
          · simp only [if_pos q3]; exact ih L k (i + 1) v M hW hM (by omega) (by omega)
          · simp only [if_neg q3]
            obtain ⟨M1, r1, r2, r3, r4⟩ := c_pinchOf (a := a) (c := i) (d := sWho (slc a M) i) (W := W) (M := M) hW ha (by omega) q1 (Int32.not_le.mp q2)
            have h1 : M1 a 1 = Int32.ofNat nc := by
              have h2 : slc a M1 0 1 = slc a M 0 1 := by rw [r2, sTake_row (by decide) (by decide)]
              rw [slc_at (by decide), slc_at (by decide)] at h2
              exact h2.trans hM
            rw [r1]
            obtain ⟨M', s1, s2, s3, s4⟩ := ih (if sP W (M 39 2) (slc a M) i (sWho (slc a M) i) ≤ 0 then L else ((slc a M 0 5, slc a M 0 4, sWho (slc a M) i, Int32.ofNat i, sP W (M 39 2) (slc a M) i (sWho (slc a M) i)) :: L).take 60) k (i + 1) (v + sP W (M 39 2) (slc a M) i (sWho (slc a M) i)) M1 (hW.frame (fun j hj => r4 _ (by omega) (by omega) (by omega))) h1 (by omega) (by omega)
            rw [show M1 39 = M 39 from r4 39 (by omega) (by omega) (by omega), r2, r3] at s1 s2 s3
            exact ⟨M', s1, s2, s3, fun x x1 x2 x3 => (s4 x x1 x2 x3).trans (r4 x x1 x2 x3)⟩
