/-! PURE PART: the read-off functions of class and reference, held against one another. -/
/-- an answer, and what holds of it -/
def Tr {α : Type} (o : Option (α × Mm)) (Q : α → Mm → Prop) : Prop := ∃ r M', o = some (r, M') ∧ Q r M'
theorem tr_ret {α : Type} {r : α} {M : Mm} {Q : α → Mm → Prop} (h : Q r M) : Tr (some (r, M)) Q := ⟨r, M, rfl, h⟩
theorem tr_mono {α : Type} {o : Option (α × Mm)} {Q Q' : α → Mm → Prop} (h : Tr o Q) (hq : ∀ r M, Q r M → Q' r M) : Tr o Q' := by
  obtain ⟨r, M, h1, h2⟩ := h
  exact ⟨r, M, h1, hq r M h2⟩
theorem tr_lt {α β : Type} {x : β} {k : β → Option (α × Mm)} {Q : α → Mm → Prop} (h : Tr (k x) Q) : Tr (lt x k) Q := h
theorem tr_grd {α : Type} {b : Bool} {k : Option (α × Mm)} {Q : α → Mm → Prop} (hb : b = true) (h : Tr k Q) : Tr (grd b k) Q := by
  unfold grd; rw [if_pos hb]; exact h
theorem tr_bnd {α : Type} {o : Option (Int32 × Mm)} {k : Int32 → Mm → Option (α × Mm)} {Q : α → Mm → Prop} (P : Int32 → Mm → Prop) (h : Tr o P) (hk : ∀ r M, P r M → Tr (k r M) Q) : Tr (bnd o k) Q := by
  obtain ⟨r, M, h1, h2⟩ := h
  rw [h1]; exact hk r M h2
theorem tr_bnde {α : Type} {o : Option (Int32 × Mm)} {k : Int32 → Mm → Option (α × Mm)} {Q : α → Mm → Prop} {r : Int32} {M : Mm} (h : o = some (r, M)) (hk : Tr (k r M) Q) : Tr (bnd o k) Q := by
  rw [h]; exact hk
theorem tr_ite {α : Type} {c : Prop} {hd : Decidable c} {a b : Option (α × Mm)} {Q : α → Mm → Prop} (h1 : c → Tr a Q) (h2 : ¬ c → Tr b Q) : Tr (if c then a else b) Q := by
  by_cases h : c
  · rw [if_pos h]; exact h1 h
  · rw [if_neg h]; exact h2 h
theorem tr_eq {α : Type} {o : Option (α × Mm)} {r : α} {M : Mm} (h : o = some (r, M)) : Tr o (fun r' M' => r' = r ∧ M' = M) := ⟨r, M, h, rfl, rfl⟩
/-! numbers -/
theorem i32_nat {k : Nat} (h : k < 2147483648) : (Int32.ofNat k).toInt = k := Int32.toInt_ofNat_of_lt h
theorem i32_clamp {x : Int32} (h : 0 ≤ x) : (x.toNatClampNeg : Int) = x.toInt := by
  have h1 : (0 : Int32).toInt ≤ x.toInt := Int32.le_iff_toInt_le.mp h
  have h2 : (0 : Int32).toInt = 0 := by decide
  rw [h2] at h1
  unfold Int32.toNatClampNeg
  omega
theorem i32_clampN {k : Nat} (h : k < 2147483648) : (Int32.ofNat k).toNatClampNeg = k := by
  unfold Int32.toNatClampNeg
  rw [i32_nat h]; omega
theorem i32_of {x : Int32} (h : 0 ≤ x) : x = Int32.ofNat x.toNatClampNeg := by
  apply Int32.toInt_inj.mp
  have h3 := Int32.toInt_lt x
  have := i32_clamp h
  rw [i32_nat (by omega), this]
theorem i32_succ (k : Nat) : Int32.ofNat k + 1 = Int32.ofNat (k + 1) := by rw [Int32.ofNat_add]; rfl
theorem i32_leN {a b : Nat} (ha : a < 2147483648) (hb : b < 2147483648) : Int32.ofNat a ≤ Int32.ofNat b ↔ a ≤ b := by
  rw [Int32.le_iff_toInt_le, i32_nat ha, i32_nat hb]; omega
theorem i32_ltN {a b : Nat} (ha : a < 2147483648) (hb : b < 2147483648) : Int32.ofNat a < Int32.ofNat b ↔ a < b := by
  rw [Int32.lt_iff_toInt_lt, i32_nat ha, i32_nat hb]; omega
theorem i32_eqN {a b : Nat} (ha : a < 2147483648) (hb : b < 2147483648) : Int32.ofNat a = Int32.ofNat b ↔ a = b := by
  rw [← Int32.toInt_inj, i32_nat ha, i32_nat hb]; omega
theorem inb_ofNat {k n : Nat} (h : k < n) (hk : k < 2147483648) : inb (Int32.ofNat k) n = true := by
  unfold inb
  rw [i32_clampN hk, decide_eq_true h]
  have : ¬ Int32.ofNat k < 0 := fun h9 => by
    have h8 := (i32_ltN (a := k) (b := 0) hk (by decide)).mp h9
    omega
  rw [decide_eq_false this]; rfl
theorem i32_bm {z : Int} (h1 : -2147483648 ≤ z) (h2 : z < 2147483648) : z.bmod (2 ^ 32) = z := by
  apply Int.bmod_eq_of_le <;> omega
theorem i32_add {x y : Int32} (h1 : -2147483648 ≤ x.toInt + y.toInt) (h2 : x.toInt + y.toInt < 2147483648) : (x + y).toInt = x.toInt + y.toInt := by
  rw [Int32.toInt_add, i32_bm h1 h2]
theorem i32_sub {x y : Int32} (h1 : -2147483648 ≤ x.toInt - y.toInt) (h2 : x.toInt - y.toInt < 2147483648) : (x - y).toInt = x.toInt - y.toInt := by
  rw [Int32.toInt_sub, i32_bm h1 h2]
theorem i32_mul {x y : Int32} (h1 : -2147483648 ≤ x.toInt * y.toInt) (h2 : x.toInt * y.toInt < 2147483648) : (x * y).toInt = x.toInt * y.toInt := by
  rw [Int32.toInt_mul, i32_bm h1 h2]
theorem i32_divN {k m : Nat} (hk : k < 2147483648) (hm : m < 2147483648) : Int32.ofNat k / Int32.ofNat m = Int32.ofNat (k / m) := by
  have h9 : k / m ≤ k := Nat.div_le_self k m
  apply Int32.toInt_inj.mp
  rw [Int32.toInt_div, i32_nat hk, i32_nat hm, i32_nat (by omega), Int.tdiv_eq_ediv_of_nonneg (by omega), ← Int.natCast_ediv]
  generalize k / m = q at h9
  exact i32_bm (by omega) (by omega)
theorem i32_remN {k m : Nat} (hk : k < 2147483648) (hm : m < 2147483648) : Int32.ofNat k - Int32.ofNat k / Int32.ofNat m * Int32.ofNat m = Int32.ofNat (k % m) := by
  rw [i32_divN hk hm, ← Int32.ofNat_mul]
  have h9 : k / m * m ≤ k := Nat.div_mul_le_self k m
  have h8 : k % m = k - k / m * m := by rw [Nat.mod_eq_sub_div_mul]
  rw [h8]
  apply Int32.toInt_inj.mp
  rw [i32_sub (by rw [i32_nat hk, i32_nat (by omega)]; omega) (by rw [i32_nat hk, i32_nat (by omega)]; omega), i32_nat hk, i32_nat (by omega), i32_nat (by omega)]
  omega
theorem i32_addN (a b : Nat) : Int32.ofNat a + Int32.ofNat b = Int32.ofNat (a + b) := (Int32.ofNat_add a b).symm
theorem i32_mulN (a b : Nat) : Int32.ofNat a * Int32.ofNat b = Int32.ofNat (a * b) := (Int32.ofNat_mul a b).symm
theorem i32_lit (n : Nat) : (OfNat.ofNat n : Int32) = Int32.ofNat n := rfl
/-- a number between 0 and n -/
theorem i32_ex {x : Int32} {n : Nat} (h0 : 0 ≤ x) (h1 : x < Int32.ofNat n) (hn : n < 2147483648) : ∃ k, k < n ∧ x = Int32.ofNat k := by
  refine ⟨x.toNatClampNeg, ?_, i32_of h0⟩
  have h2 := Int32.lt_iff_toInt_lt.mp h1
  rw [i32_nat hn] at h2
  have := i32_clamp h0
  omega
theorem gr_t0 (a b : Int32) (h : a < b) (h2 : 0 ≤ a) : a + 1 ≤ b := by grind
theorem gr_t3 (a b : Nat) (h2 : a < 10) (h5 : b ≤ 9) : (Int32.ofNat a + Int32.ofNat b) - (Int32.ofNat a + Int32.ofNat b) / 10 * 10 = Int32.ofNat ((a + b) % 10) := by
  rw [i32_addN]; exact i32_remN (m := 10) (by omega) (by omega)
