/-! throw new NoSuchElementException("there is no such what") in SaltTable.needsWhat -/
theorem w_throwN {X : am_X} {l0 : Launch} {R0 : Room} {cc : ByteArray} {ret : Option FieldType} {ly : Ly} {M : Mm} {ce sl : Nat} {pc : Nat} {L : List (Option Value)} {st : List Value} {mc0 ms0 : Nat} (hC : am_C X l0 R0 cc RX10 ret) (hnt : am_NT X) (hl : l0.stackTraces = false)
    (d0 : decode cc pc = .ok (.new 418, 3)) (d3 : decode cc (pc + 3) = .ok (.dup, 1)) (d4 : decode cc (pc + 4) = .ok (.ldc_w 420, 3)) (d7 : decode cc (pc + 7) = .ok (.invokespecial 422, 3)) (d10 : decode cc (pc + 10) = .ok (.athrow, 1))
    (hRf : 5 < R0.frames) (hRl : (st.map fun v => v.category).sum + (13 * 3 + 43) ≤ R0.locals) (hRc : ce + 1 ≤ R0.cells) (hRs : sl + 6 ≤ R0.slots) (h1 : ce + 1 ≤ mc0) (h2 : sl + 6 ≤ ms0) : am_V X ly M ce sl (am_Q X ly mc0 ms0 (.inr "java/util/NoSuchElementException") M) pc L st := by
  sorry
