/-! The table's slice of the memory, and what the readers of the table answer. -/
theorem wr_ne {M : Mm} {a k b j : Nat} {v : Int32} (h : b ≠ a) : wr M a k v b j = M b j := by unfold wr; rw [if_neg (fun h9 => h h9.1)]
theorem wr_nk {M : Mm} {a k b j : Nat} {v : Int32} (h : j ≠ k) : wr M a k v b j = M b j := by unfold wr; rw [if_neg (fun h9 => h h9.2)]
theorem wr_eq {M : Mm} {a k : Nat} {v : Int32} : wr M a k v a k = v := by unfold wr; rw [if_pos ⟨rfl, rfl⟩]
theorem inb_of {x : Int32} {n : Nat} (h0 : ¬ x < 0) (h1 : ¬ Int32.ofNat n ≤ x) (hn : n < 2147483648) : inb x n = true := by
  obtain ⟨k, hk, rfl⟩ := i32_ex (Int32.not_lt.mp h0) (Int32.not_le.mp h1) hn
  exact inb_ofNat hk (by omega)
theorem inb_of' {x : Int32} {n : Nat} (h0 : ¬ x < 0) (h1 : x < Int32.ofNat n) (hn : n < 2147483648) : inb x n = true := inb_of h0 (Int32.not_le.mpr h1) hn
abbrev Tb := Nat → Nat → Int32
abbrev Fx := Nat → Int32
abbrev Lw := List (Int32 × Int32 × (Fx → Bool))
def slc (a : Nat) (M : Mm) : Tb := fun i j => if i < 9 then M (a + i) j else 0
theorem slc_at {a i j : Nat} {M : Mm} (h : i < 9) : slc a M i j = M (a + i) j := by unfold slc; rw [if_pos h]
theorem slc_ex {a : Nat} {M M' : Mm} (h : ∀ i, i < 9 → M' (a + i) = M (a + i)) : slc a M' = slc a M := by
  funext i j; unfold slc; split
  · rename_i h9; rw [h i h9]
  · rfl
theorem slc_wr {a b k : Nat} {M : Mm} {v : Int32} (h : b < a ∨ a + 8 < b) : slc a (wr M b k v) = slc a M := slc_ex (fun i hi => by funext j; exact wr_ne (by omega))
theorem slc_wi {a i k : Nat} {M : Mm} {v : Int32} (h : i < 9) : slc a (wr M (a + i) k v) = wr (slc a M) i k v := by
  funext x y; unfold slc wr
  by_cases h1 : x = i ∧ y = k
  · rw [if_pos h1, if_pos (by omega), if_pos (by omega)]
  · rw [if_neg h1]
    dsimp only
    split
    · rw [if_neg (by omega)]
    · rfl
def sHasOf (T : Tb) (d t : Int32) : Int32 := if d * 6 + t < 0 then 0 else if 48 ≤ d * 6 + t then 0 else T 3 (d * 6 + t).toNatClampNeg
def sDiet (T : Tb) (d : Int32) : Int32 := if ((T 0 2 >>> (d &&& 31)) &&& 1) = 1 then 1 else 0
def sDinerAt (T : Tb) (s : Int32) : Int32 := if s < 0 then -1 else if 10 ≤ s then -1 else T 1 s.toNatClampNeg
def sSweet (T : Tb) : Int32 := if ((T 0 3 >>> (T 0 4 &&& 31)) &&& 1) = 1 then 1 else 0
def sFx (T : Tb) (c d : Int32) : Fx := fun k => match k with
  | 0 => d
  | 1 => c
  | 2 => T 2 d.toNatClampNeg
  | 3 => T 6 c.toNatClampNeg
  | 4 => T 7 c.toNatClampNeg
  | 5 => sHasOf T d (T 5 c.toNatClampNeg)
  | 6 => T 0 4
  | 7 => sDiet T d
  | 8 => sSweet T
  | _ => 0
def fxM (M : Mm) : Fx := fun k => if k < 9 then M 40 k else 0
theorem c_hasOf {N a : Nat} {d t : Int32} {M : Mm} : f_X6_hasOf N a d t M = some (sHasOf (slc a M) d t, M) := by
  unfold f_X6_hasOf f_X6_hasOf_26 sHasOf lt
  rw [slc_at (by decide)]
  dsimp only
  by_cases h0 : d * 6 + t < 0
  · rw [if_pos h0, if_pos h0]
  · rw [if_neg h0, if_neg h0]
    by_cases h1 : 48 ≤ d * 6 + t
    · rw [if_pos h1, if_pos h1]
    · rw [if_neg h1, if_neg h1, inb_of h0 h1 (by decide)]; rfl
theorem c_isOnDiet {N a : Nat} {d : Int32} {M : Mm} : f_X6_isOnDiet N a d M = some (sDiet (slc a M) d, M) := by
  unfold f_X6_isOnDiet sDiet
  rw [slc_at (by decide)]
  show (if (((M a 2) >>> (d &&& 31)) &&& (1 : Int32)) = (1 : Int32) then some ((1 : Int32), M) else some ((0 : Int32), M)) = some (if (((M a 2) >>> (d &&& 31)) &&& (1 : Int32)) = (1 : Int32) then 1 else 0, M)
  split <;> rfl
theorem c_dinerAt {N a : Nat} {s : Int32} {M : Mm} : f_X6_dinerAt N a s M = some (sDinerAt (slc a M) s, M) := by
  unfold f_X6_dinerAt f_X6_dinerAt_19 sDinerAt
  rw [slc_at (by decide)]
  by_cases h0 : s < 0
  · rw [if_pos h0, if_pos h0]
  · rw [if_neg h0, if_neg h0]
    by_cases h1 : 10 ≤ s
    · rw [if_pos h1, if_pos h1]
    · rw [if_neg h1, if_neg h1, inb_of h0 h1 (by decide)]; rfl
theorem sDiet_isb {T : Tb} {d : Int32} : isb (sDiet T d) = true := by
  unfold sDiet; split <;> decide
theorem c_tell {N a : Nat} {c d : Int32} {M : Mm} (ha : a + 8 < 40 ∨ 40 < a) (hc0 : ¬ c < 0) (hc5 : ¬ 5 ≤ c) (hd0 : ¬ d < 0) (hd8 : d < 8) :
    ∃ M', f_X0_tell N a c d M = some (0, M') ∧ (∀ x, x ≠ 40 → M' x = M x) ∧ fxM M' = sFx (slc a M) c d := by
  have hic : inb c 5 = true := inb_of hc0 hc5 (by decide)
  have hid : inb d 8 = true := inb_of' hd0 hd8 (by decide)
  have hw : ∀ (M9 : Mm) (k : Nat) (v : Int32), slc a (wr M9 40 k v) = slc a M9 := fun M9 k v => slc_wr (by omega)
  have hr : ∀ (M9 : Mm) (k : Nat) (v : Int32) (i : Nat), i < 9 → wr M9 40 k v (a + i) = M9 (a + i) := fun M9 k v i hi => by funext j; exact wr_ne (by omega)
  have hr0 : ∀ (M9 : Mm) (k : Nat) (v : Int32), wr M9 40 k v a = M9 a := fun M9 k v => by funext j; exact wr_ne (by omega)
  unfold f_X0_tell
  rw [if_neg hc0, if_neg hc5, if_neg hd0, if_pos hd8]
  simp only [lt, grd, hic, hid, if_true, c_hasOf, c_isOnDiet, bnd, sDiet_isb, hw, hr0, hr _ _ _ 2 (by decide), hr _ _ _ 5 (by decide), hr _ _ _ 6 (by decide), hr _ _ _ 7 (by decide)]
  have hdec : ∀ (c9 : Prop) (h9 : Decidable c9) (A B : Mm), (if c9 then some ((0 : Int32), A) else some (0, B)) = some (0, if c9 then A else B) := fun c9 h9 A B => by split <;> rfl
  rw [hdec]
  refine ⟨_, rfl, fun x hx => ?_, ?_⟩
  · split <;> (funext j; simp only [wr_ne hx])
  · funext k
    unfold fxM
    match k with
    | 0 | 1 | 2 | 3 | 4 | 5 | 6 | 7 =>
      rw [if_pos (by decide)]
      split <;> simp (disch := decide) only [wr_eq, wr_nk] <;> simp (disch := decide) only [sFx, slc_at, Nat.add_zero]
    | 8 =>
      rw [if_pos (by decide)]
      simp (disch := decide) only [wr_eq, wr_nk]
      unfold sFx sSweet
      simp (disch := decide) only [slc_at, Nat.add_zero]
      split <;> simp only [wr_eq]
    | k + 9 => rw [if_neg (by omega)]; rfl
