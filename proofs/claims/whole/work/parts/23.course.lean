/-! A course at a table of the class: what each cellar's eater takes. -/
abbrev Row := Int32 × Int32 × Int32 × Int32 × Int32
def updF (f : Nat → Int32) (k : Nat) (v : Int32) : Nat → Int32 := fun j => if j = k then v else f j
theorem wr_row {M : Mm} {a k : Nat} {v : Int32} : wr M a k v a = updF (M a) k v := by
  funext j; unfold wr updF
  by_cases h : j = k
  · rw [if_pos ⟨rfl, h⟩, if_pos h]
  · rw [if_neg (fun h9 => h h9.2), if_neg h]
theorem wr_nrow {M : Mm} {a k b : Nat} {v : Int32} (h : b ≠ a) : wr M a k v b = M b := by funext j; exact wr_ne h
def sWho (T : Tb) (c : Nat) : Int32 := sDinerAt T (T 4 c)
def sP (W : Lw) (br : Int32) (T : Tb) (c : Nat) (d : Int32) : Int32 := if sPinch W (sFx T (Int32.ofNat c) d) ≤ 0 then sPinch W (sFx T (Int32.ofNat c) d) else if ((br >>> (d &&& 31)) &&& 1) = 1 then sPinch W (sFx T (Int32.ofNat c) d) + (-1) else sPinch W (sFx T (Int32.ofNat c) d)
def sGain (T : Tb) (d t p : Int32) : Tb := if d * 6 + t < 0 then T else if 48 ≤ d * 6 + t then T else wr T 3 (d * 6 + t).toNatClampNeg (if T 3 (d * 6 + t).toNatClampNeg + p < 999 then T 3 (d * 6 + t).toNatClampNeg + p else 999)
def sTake (T : Tb) (c : Nat) (d p : Int32) : Tb := sGain (wr T 6 c (T 6 c - p)) d (T 5 c) p
theorem c_gains {N a : Nat} {d t p : Int32} {M : Mm} : ∃ M', f_X6_gains N a d t p M = some (0, M') ∧ slc a M' = sGain (slc a M) d t p ∧ ∀ x, x ≠ a + 3 → M' x = M x := by
  unfold f_X6_gains sGain lt
  dsimp only
  by_cases h0 : d * 6 + t < 0
  · rw [if_pos h0, if_pos h0]; exact ⟨M, rfl, rfl, fun _ _ => rfl⟩
  · rw [if_neg h0, if_neg h0]
    by_cases h1 : 48 ≤ d * 6 + t
    · rw [if_pos h1, if_pos h1]; exact ⟨M, rfl, rfl, fun _ _ => rfl⟩
    · rw [if_neg h1, if_neg h1]
      simp only [grd, inb_of h0 h1 (by decide), if_true]
      refine ⟨_, rfl, ?_, fun x hx => wr_nrow hx⟩
      rw [slc_wi (by decide), slc_at (by decide)]
theorem c_pinchOf {a c : Nat} {d : Int32} {W : Lw} {M : Mm} (hW : cLaw 25 W M) (ha : a + 8 < 25) (hc : c < 5) (hd0 : ¬ d < 0) (hd8 : d < 8) :
    ∃ M', f_X5_pinchOf 20000 a 25 (Int32.ofNat c) d M = some (sP W (M 39 2) (slc a M) c d, M') ∧ slc a M' = sTake (slc a M) c d (sP W (M 39 2) (slc a M) c d) ∧ M' 41 = updF (M 41) d.toNatClampNeg (M 41 d.toNatClampNeg + sP W (M 39 2) (slc a M) c d) ∧ ∀ x, (x < a ∨ a + 8 < x) → x ≠ 40 → x ≠ 41 → M' x = M x := by
  have hin : inb (Int32.ofNat c) 5 = true := inb_ofNat hc (by omega)
  have hid : inb d 8 = true := inb_of' hd0 hd8 (by decide)
  have hcl : (Int32.ofNat c).toNatClampNeg = c := i32_clampN (by omega)
  obtain ⟨M1, e1, f1, g1⟩ := c_tell (N := 20000) (a := a) (c := Int32.ofNat c) (d := d) (M := M) (by omega) (Int32.not_lt.mpr ((i32_leN (a := 0) (by omega) (by omega)).mpr (by omega))) (fun h9 => by have := (i32_leN (a := 5) (by omega) (by omega)).mp h9; omega) hd0 hd8
  have hW1 : cLaw 25 W M1 := hW.frame (fun i hi => f1 _ (by omega))
  have hs1 : slc a M1 = slc a M := slc_ex (fun i hi => f1 _ (by omega))
  have h42 : ∀ p, ∃ M', f_X5_pinchOf_42 20000 a 25 (Int32.ofNat c) d p M1 = some (p, M') ∧ slc a M' = sTake (slc a M) c d p ∧ M' 41 = updF (M 41) d.toNatClampNeg (M 41 d.toNatClampNeg + p) ∧ ∀ x, (x < a ∨ a + 8 < x) → x ≠ 40 → x ≠ 41 → M' x = M x := fun p => by
    unfold f_X5_pinchOf_42
    simp only [grd, hin, hid, if_true, hcl, lt]
    obtain ⟨M2, e2, s2, f2⟩ := c_gains (N := 20000) (a := a) (d := d) (t := wr M1 (a + 6) c (M1 (a + 6) c - p) (a + 5) c) (p := p) (M := wr M1 (a + 6) c (M1 (a + 6) c - p))
    rw [e2]
    refine ⟨_, rfl, ?_, ?_, fun x h1 h2 h3 => ?_⟩
    · rw [slc_wr (by omega), s2, slc_wi (by decide), hs1, wr_ne (by omega)]
      unfold sTake
      rw [← slc_at (a := a) (i := 6) (j := c) (M := M1) (by decide), ← slc_at (a := a) (i := 5) (j := c) (M := M1) (by decide), hs1]
    · rw [wr_row, f2 41 (by omega), wr_nrow (by omega), f1 41 (by omega)]
    · rw [wr_nrow h3, f2 x (by omega), wr_nrow (by omega), f1 x h2]
  unfold f_X5_pinchOf
  rw [e1]
  simp only [bnd, c_pinch hW1, g1]
  have h39 : M1 39 = M 39 := f1 39 (by omega)
  rw [h39]
  unfold sP
  by_cases q1 : sPinch W (sFx (slc a M) (Int32.ofNat c) d) ≤ 0
  · simp only [if_pos q1]; exact h42 _
  · simp only [if_neg q1]
    by_cases q2 : ((M 39 2 >>> (d &&& 31)) &&& 1) = 1
    · simp only [if_pos q2]; exact h42 _
    · simp only [if_neg q2]; exact h42 _
