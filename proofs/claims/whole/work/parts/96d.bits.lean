/-! Truths that wait as bits. -/
def b2n (b : Bool) : Nat := if b = true then 1 else 0
section BI
theorem hB_nat {u i : Nat} (hi : i < 32) : hb9 (Int32.ofNat u) i = u.testBit i := by
  show (BitVec.ofNat 32 u).getLsbD i = _
  rw [BitVec.getLsbD_ofNat, decide_eq_true hi, Bool.true_and]
theorem hB_shl {x : Int32} {i : Nat} (hi : i < 32) : hb9 (x <<< ((1 : Int32) &&& 31)) i = (decide (1 ≤ i) && hb9 x (i - 1)) := by
  unfold hb9
  rw [Int32.toBitVec_shiftLeft, show ((1 : Int32) &&& 31).toBitVec.smod 32 = BitVec.ofNat 32 1 from sh_bv (c := 1) (by decide)]
  show (x.toBitVec <<< (BitVec.ofNat 32 1).toNat).getLsbD i = _
  rw [BitVec.toNat_ofNat, Nat.mod_eq_of_lt (by decide), BitVec.getLsbD_shiftLeft, decide_eq_true hi, Bool.true_and]
  by_cases q : 1 ≤ i
  · rw [decide_eq_true q, decide_eq_false (by omega)]; rfl
  · rw [decide_eq_false q, decide_eq_true (by omega)]; rfl
theorem hB_shr {x : Int32} {i : Nat} (hi : i < 31) : hb9 (x >>> ((1 : Int32) &&& 31)) i = hb9 x (i + 1) := by
  unfold hb9
  rw [Int32.toBitVec_shiftRight, show ((1 : Int32) &&& 31).toBitVec.smod 32 = BitVec.ofNat 32 1 from sh_bv (c := 1) (by decide)]
  show (x.toBitVec.sshiftRight (BitVec.ofNat 32 1).toNat).getLsbD i = _
  rw [BitVec.toNat_ofNat, Nat.mod_eq_of_lt (by decide), BitVec.getLsbD_sshiftRight]
  rw [decide_eq_false (show ¬ 32 ≤ i by omega), if_pos (show 1 + i < 32 by omega), Nat.add_comm 1 i]
  rfl
theorem hB_shr31 {x : Int32} : hb9 (x >>> ((1 : Int32) &&& 31)) 31 = hb9 x 31 := by
  unfold hb9
  rw [Int32.toBitVec_shiftRight, show ((1 : Int32) &&& 31).toBitVec.smod 32 = BitVec.ofNat 32 1 from sh_bv (c := 1) (by decide)]
  show (x.toBitVec.sshiftRight (BitVec.ofNat 32 1).toNat).getLsbD 31 = _
  rw [BitVec.toNat_ofNat, Nat.mod_eq_of_lt (by decide), BitVec.getLsbD_sshiftRight]
  rw [decide_eq_false (show ¬ 32 ≤ 31 by omega), if_neg (show ¬ 1 + 31 < 32 by omega), BitVec.msb_eq_getLsbD_last]
  rfl
theorem hB_xor {x y : Int32} {i : Nat} : hb9 (x ^^^ y) i = (hb9 x i ^^ hb9 y i) := by
  unfold hb9; rw [Int32.toBitVec_xor, BitVec.getLsbD_xor]
theorem tb_0 (t : Nat) (b : Bool) : (2 * t + b2n b).testBit 0 = b := by
  rw [Nat.testBit_zero]
  cases b
  · exact decide_eq_false (by unfold b2n; simp)
  · exact decide_eq_true (by unfold b2n; simp)
theorem tb_s (t : Nat) (b : Bool) (i : Nat) : (2 * t + b2n b).testBit (i + 1) = t.testBit i := by
  rw [Nat.testBit_succ]
  have : (2 * t + b2n b) / 2 = t := by
    cases b
    · show (2 * t + 0) / 2 = t; omega
    · show (2 * t + 1) / 2 = t; omega
  rw [this]
theorem hb_1 : ∀ i, i < 32 → hb9 (1 : Int32) i = decide (i = 0) := by decide
theorem hb_b2i {b : Bool} {i : Nat} (hi : i < 32) : hb9 (b2i b) i = (decide (i = 0) && b) := by
  cases b
  · rw [Bool.and_false]; exact hB_0 i
  · rw [Bool.and_true]; exact hb_1 i hi
/-- a truth more -/
theorem tr_push {t : Nat} {b : Bool} : (Int32.ofNat t <<< ((1 : Int32) &&& 31)) ||| b2i b = Int32.ofNat (2 * t + b2n b) := by
  apply hB_ext
  intro i hi
  rw [hB_or, hB_shl hi, hb_b2i hi, hB_nat hi]
  match i with
  | 0 =>
    rw [tb_0]
    cases b <;> rfl
  | i + 1 =>
    rw [tb_s, hB_nat (by omega), decide_eq_true (show 1 ≤ i + 1 by omega), decide_eq_false (show ¬ i + 1 = 0 by omega), Bool.true_and, Bool.false_and, Bool.or_false]
    rfl
theorem tr_low {t : Nat} {b : Bool} : Int32.ofNat (2 * t + b2n b) &&& 1 = b2i b := by
  apply hB_ext
  intro i hi
  rw [hB_and, hB_nat hi, hb_1 i hi, hb_b2i hi]
  match i with
  | 0 => rw [tb_0]; cases b <;> rfl
  | i + 1 => rw [decide_eq_false (show ¬ i + 1 = 0 by omega), Bool.and_false, Bool.false_and]
theorem tr_shr {t : Nat} {b : Bool} (ht : t < 1073741824) : Int32.ofNat (2 * t + b2n b) >>> ((1 : Int32) &&& 31) = Int32.ofNat t := by
  have hb : b2n b ≤ 1 := by unfold b2n; split <;> omega
  apply hB_ext
  intro i hi
  by_cases q : i < 31
  · rw [hB_shr q, hB_nat (by omega), hB_nat hi, tb_s]
  · have e : i = 31 := by omega
    subst e
    rw [hB_shr31, hB_nat (by decide), hB_nat (by decide), Nat.testBit_lt_two_pow (show 2 * t + b2n b < 2 ^ 31 by omega), Nat.testBit_lt_two_pow (show t < 2 ^ 31 by omega)]
theorem tr_clr {t : Nat} {b : Bool} : Int32.ofNat (2 * t + b2n b) &&& (-2) = Int32.ofNat (2 * t) := by
  have h2 : ∀ i, i < 32 → hb9 (-2 : Int32) i = decide (1 ≤ i) := by decide
  apply hB_ext
  intro i hi
  rw [hB_and, hB_nat hi, h2 i hi, hB_nat hi]
  match i with
  | 0 =>
    rw [show (2 * t).testBit 0 = false from tb_0 t false]
    rw [decide_eq_false (show ¬ 1 ≤ 0 by omega), Bool.and_false]
  | i + 1 => rw [tb_s, decide_eq_true (show 1 ≤ i + 1 by omega), Bool.and_true]; exact (tb_s t false i).symm
theorem tr_not {t : Nat} {b : Bool} : Int32.ofNat (2 * t + b2n b) ^^^ 1 = Int32.ofNat (2 * t + b2n (!b)) := by
  apply hB_ext
  intro i hi
  rw [hB_xor, hB_nat hi, hb_1 i hi, hB_nat hi]
  match i with
  | 0 => rw [tb_0, tb_0]; cases b <;> rfl
  | i + 1 => rw [tb_s, tb_s, decide_eq_false (show ¬ i + 1 = 0 by omega), Bool.xor_false]
theorem tr_or {t : Nat} {a b : Bool} : Int32.ofNat (2 * t + b2n a) ||| b2i b = Int32.ofNat (2 * t + b2n (a || b)) := by
  apply hB_ext
  intro i hi
  rw [hB_or, hB_nat hi, hb_b2i hi, hB_nat hi]
  match i with
  | 0 => rw [tb_0, tb_0]; cases a <;> cases b <;> rfl
  | i + 1 => rw [tb_s, tb_s, decide_eq_false (show ¬ i + 1 = 0 by omega), Bool.false_and, Bool.or_false]
end BI
