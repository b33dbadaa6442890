/-! Single bits of a number. -/
def hb9 (m : Int32) (c : Nat) : Bool := m.toBitVec.getLsbD c
theorem hB_ext {x y : Int32} (h : ∀ i, i < 32 → hb9 x i = hb9 y i) : x = y := by
  apply Int32.toBitVec_inj.mp
  apply BitVec.eq_of_getLsbD_eq
  intro i hi
  exact h i hi
theorem sh_bv {c : Nat} (hc : c < 32) : (Int32.ofNat c &&& 31).toBitVec.smod 32 = BitVec.ofNat 32 c := by
  have h : ∀ c, c < 32 → (Int32.ofNat c &&& 31).toBitVec.smod 32 = BitVec.ofNat 32 c := by decide +kernel
  exact h c hc
theorem hB_one {c : Nat} (hc : c < 32) (i : Nat) : hb9 ((1 : Int32) <<< (Int32.ofNat c &&& 31)) i = decide (i = c) := by
  have h : ∀ c, c < 32 → ((1 : Int32) <<< (Int32.ofNat c &&& 31)).toBitVec = BitVec.twoPow 32 c := by decide +kernel
  unfold hb9
  rw [h c hc, BitVec.getLsbD_twoPow]
  by_cases e : i = c
  · rw [decide_eq_true e, decide_eq_true hc, decide_eq_true e.symm]; rfl
  · rw [decide_eq_false e, decide_eq_false (Ne.symm e), Bool.and_false]
theorem hB_sh {m : Int32} {c : Nat} (hc : c < 32) : ((m >>> (Int32.ofNat c &&& 31)) &&& 1) = 1 ↔ hb9 m c = true := by
  have e : hb9 ((m >>> (Int32.ofNat c &&& 31)) &&& 1) 0 = hb9 m c := by
    unfold hb9
    rw [Int32.toBitVec_and, Int32.toBitVec_shiftRight, sh_bv hc, BitVec.getLsbD_and]
    rw [show (1 : Int32).toBitVec.getLsbD 0 = true from by decide, Bool.and_true]
    show (m.toBitVec.sshiftRight (BitVec.ofNat 32 c).toNat).getLsbD 0 = _
    rw [BitVec.toNat_ofNat, Nat.mod_eq_of_lt (by omega), BitVec.getLsbD_sshiftRight]
    simp [hc]
  constructor
  · intro h
    rw [← e, h]; decide
  · intro h
    apply hB_ext
    intro i hi
    by_cases q : i = 0
    · subst q; rw [e, h]; decide
    · have h1 : ∀ i, i < 32 → i ≠ 0 → hb9 1 i = false := by decide
      rw [h1 i hi q]
      unfold hb9
      rw [Int32.toBitVec_and, BitVec.getLsbD_and]
      have : (1 : Int32).toBitVec.getLsbD i = false := h1 i hi q
      rw [this, Bool.and_false]
theorem hB_or {x y : Int32} {i : Nat} : hb9 (x ||| y) i = (hb9 x i || hb9 y i) := by
  unfold hb9; rw [Int32.toBitVec_or, BitVec.getLsbD_or]
theorem hB_and {x y : Int32} {i : Nat} : hb9 (x &&& y) i = (hb9 x i && hb9 y i) := by
  unfold hb9; rw [Int32.toBitVec_and, BitVec.getLsbD_and]
theorem hB_not {x : Int32} {i : Nat} (hi : i < 32) : hb9 (x ^^^ (-1)) i = !(hb9 x i) := by
  have h1 : ∀ i, i < 32 → hb9 (-1) i = true := by decide
  unfold hb9
  rw [Int32.toBitVec_xor, BitVec.getLsbD_xor]
  have : (-1 : Int32).toBitVec.getLsbD i = true := h1 i hi
  rw [this, Bool.xor_true]
theorem hB_0 (i : Nat) : hb9 0 i = false := by
  unfold hb9
  exact BitVec.getLsbD_zero
theorem sDiet_b {T : Tb} {d : Nat} (hd : d < 32) : sDiet T (Int32.ofNat d) = if hb9 (T 0 2) d = true then 1 else 0 := by
  unfold sDiet
  by_cases q : hb9 (T 0 2) d = true
  · rw [if_pos q, if_pos ((hB_sh hd).mpr q)]
  · rw [if_neg q, if_neg (fun h9 => q ((hB_sh hd).mp h9))]
/-- a number of nd bits -/
theorem hB_lt {k n : Nat} (hn : n ≤ 31) (hk : k < 2 ^ n) {i : Nat} (hi : n ≤ i) : hb9 (Int32.ofNat k) i = false := by
  show (BitVec.ofNat 32 k).getLsbD i = false
  rw [BitVec.getLsbD_ofNat, Nat.testBit_lt_two_pow (Nat.lt_of_lt_of_le hk (Nat.pow_le_pow_right (by decide) hi)), Bool.and_false]
theorem hB_ex {x : Int32} {n : Nat} (hn : n ≤ 31) (h : ∀ i, n ≤ i → i < 32 → hb9 x i = false) : ∃ k, k < 2 ^ n ∧ x = Int32.ofNat k := by
  refine ⟨x.toBitVec.toNat, ?_, ?_⟩
  · apply Nat.lt_pow_two_of_testBit
    intro i hi
    by_cases q : i < 32
    · exact h i hi q
    · show x.toBitVec.getLsbD i = false
      exact BitVec.getLsbD_of_ge _ _ (by omega)
  · apply Int32.toBitVec_inj.mp
    show _ = BitVec.ofNat 32 _
    apply BitVec.eq_of_toNat_eq
    rw [BitVec.toNat_ofNat, Nat.mod_eq_of_lt x.toBitVec.isLt]
theorem or_b {m : Int32} {c : Nat} (hc : c < 31) : (m ||| ((1 : Int32) <<< (Int32.ofNat c &&& 31))) = m ↔ hb9 m c = true := by
  constructor
  · intro h
    rw [← h, hB_or, hB_one (by omega), decide_eq_true rfl, Bool.or_true]
  · intro h
    apply hB_ext
    intro i hi
    rw [hB_or, hB_one (by omega)]
    by_cases q : i = c
    · rw [q, h]; rfl
    · rw [decide_eq_false q, Bool.or_false]
theorem and_b {m : Int32} {c : Nat} (hc : c < 31) : (m &&& (((1 : Int32) <<< (Int32.ofNat c &&& 31)) ^^^ (-1))) = m ↔ hb9 m c = false := by
  constructor
  · intro h
    rw [← h, hB_and, hB_not (by omega), hB_one (by omega), decide_eq_true rfl]
    simp
  · intro h
    apply hB_ext
    intro i hi
    rw [hB_and, hB_not hi, hB_one (by omega)]
    by_cases q : i = c
    · rw [q, h]; rfl
    · rw [decide_eq_false q]; simp
