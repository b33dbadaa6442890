/-! The machine of the class that runs a law's condition. -/
abbrev Cs9 := Int32 × Int32 × Int32
def cPart (fx : Fx) (x : Int32) : Int32 := if x = 1256 then fx 0 else if x = 1257 then fx 2 else if x = 1260 then fx 1 else if x = 1261 then fx 3 else if x = 1268 then fx 6 else if x = 1276 then fx 5 else 0
def cStp (fx : Fx) (x : Int32) (s : Cs9) : Cs9 :=
  if 1000 ≤ x then
    (if x = 1001 then (s.1, s.2.2, 0)
    else if x = 1002 then ((s.1 <<< ((1 : Int32) &&& 31)) ||| (if s.2.2 ≤ s.2.1 then 0 else 1), s.2.1, 0)
    else if x = 1003 then ((s.1 <<< ((1 : Int32) &&& 31)) ||| (if s.2.1 ≤ s.2.2 then 0 else 1), s.2.1, 0)
    else if x = 1259 then ((s.1 <<< ((1 : Int32) &&& 31)) ||| (if fx 7 = 0 then 0 else 1), s.2.1, s.2.2)
    else if x = 1272 then ((s.1 >>> ((1 : Int32) &&& 31)) ||| (s.1 &&& 1), s.2.1, s.2.2)
    else if x = 1273 then (if (s.1 &&& 1) = 1 then s.1 >>> ((1 : Int32) &&& 31) else (s.1 >>> ((1 : Int32) &&& 31)) &&& (-2), s.2.1, s.2.2)
    else if x = 1274 then (s.1 ^^^ 1, s.2.1, s.2.2)
    else if x = 1275 then ((s.1 <<< ((1 : Int32) &&& 31)) ||| (if fx 2 < fx 3 then 0 else 1), s.2.1, s.2.2)
    else (s.1, s.2.1, s.2.2 + cPart fx x))
  else (s.1, s.2.1, s.2.2 + x)
def cRun (c : Nat → Int32) (fx : Fx) : Nat → Nat → Cs9 → Cs9
  | 0, _, s => s
  | k + 1, i, s => cRun c fx k (i + 1) (cStp fx (c i) s)
section CM
variable {M : Mm} {c c' : Nat → Int32} {fx : Fx}
theorem fx_at {k : Nat} (h : k < 9) : fxM M k = M 40 k := if_pos h
theorem cRun_ex : ∀ (k i : Nat) (s : Cs9), (∀ j, i ≤ j → j < i + k → c j = c' j) → cRun c fx k i s = cRun c' fx k i s := by
  intro k
  induction k with
  | zero => intro i s _; rfl
  | succ k ih =>
    intro i s h
    rw [cRun, cRun, h i (Nat.le_refl _) (by omega)]
    exact ih (i + 1) _ (fun j h1 h2 => h j (by omega) (by omega))
theorem cRun_add : ∀ (k1 k2 i : Nat) (s : Cs9), cRun c fx (k1 + k2) i s = cRun c fx k2 (i + k1) (cRun c fx k1 i s) := by
  intro k1
  induction k1 with
  | zero => intro k2 i s; rw [Nat.zero_add, Nat.add_zero]; rfl
  | succ k1 ih =>
    intro k2 i s
    rw [show k1 + 1 + k2 = (k1 + k2) + 1 by omega, cRun, cRun, ih k2 (i + 1), show i + 1 + k1 = i + (k1 + 1) by omega]
theorem c_part {N : Nat} {x : Int32} : f_X1_part N x M = some (cPart (fxM M) x, M) := by
  unfold f_X1_part cPart
  rw [fx_at (by decide), fx_at (by decide), fx_at (by decide), fx_at (by decide), fx_at (by decide), fx_at (by decide)]
  by_cases h1 : x = 1256
  · rw [if_pos h1, if_pos h1]
  · rw [if_neg h1, if_neg h1]
    by_cases h2 : x = 1257
    · rw [if_pos h2, if_pos h2]
    · rw [if_neg h2, if_neg h2]
      by_cases h3 : x = 1260
      · rw [if_pos h3, if_pos h3]
      · rw [if_neg h3, if_neg h3]
        by_cases h4 : x = 1261
        · rw [if_pos h4, if_pos h4]
        · rw [if_neg h4, if_neg h4]
          by_cases h5 : x = 1268
          · rw [if_pos h5, if_pos h5]
          · rw [if_neg h5, if_neg h5]
            by_cases h6 : x = 1276
            · rw [if_pos h6, if_pos h6]
            · rw [if_neg h6, if_neg h6]
theorem c_stp {N a n i e : Nat} (v4 v5 v6 : Int32) (hi : i < e) (he : e ≤ 400) : f_X1_holds_16 N a (n + 1) (Int32.ofNat e) v4 v5 v6 (Int32.ofNat i) M = f_X1_holds_16 N a n (Int32.ofNat e) (cStp (fxM M) (M (a + 5) i) (v4, v5, v6)).1 (cStp (fxM M) (M (a + 5) i) (v4, v5, v6)).2.1 (cStp (fxM M) (M (a + 5) i) (v4, v5, v6)).2.2 (Int32.ofNat (i + 1)) M := by
  rw [f_X1_holds_16, if_neg (i32_nle hi (by omega)), if_neg (show ¬ (400 : Int32) ≤ Int32.ofNat i from i32_nle (n := 400) (by omega) (by omega))]
  simp only [grd, lt, inb_ofNat (show i < 400 by omega) (by omega), if_true, i32_clampN (show i < 2147483648 by omega), i32_succ]
  generalize M (a + 5) i = x
  unfold cStp
  rw [fx_at (M := M) (k := 7) (by decide), fx_at (M := M) (k := 2) (by decide), fx_at (M := M) (k := 3) (by decide)]
  by_cases h0 : (1000 : Int32) ≤ x
  · rw [if_pos h0, if_pos h0]
    by_cases h1 : x = 1001
    · rw [if_pos h1, if_pos h1]
    · rw [if_neg h1, if_neg h1]
      by_cases h2 : x = 1002
      · rw [if_pos h2, if_pos h2]
        simp only [f_X1_holds_158, lt, i32_succ]
        by_cases q : v6 ≤ v5
        · rw [if_pos q, if_pos q]
        · rw [if_neg q, if_neg q]
      · rw [if_neg h2, if_neg h2]
        by_cases h3 : x = 1003
        · rw [if_pos h3, if_pos h3]
          simp only [f_X1_holds_183, lt, i32_succ]
          by_cases q : v5 ≤ v6
          · rw [if_pos q, if_pos q]
          · rw [if_neg q, if_neg q]
        · rw [if_neg h3, if_neg h3]
          by_cases h4 : x = 1259
          · rw [if_pos h4, if_pos h4]
            simp only [f_X1_holds_208, lt, i32_succ]
            by_cases q : M 40 7 = 0
            · rw [if_pos q, if_pos q]
            · rw [if_neg q, if_neg q]
          · rw [if_neg h4, if_neg h4]
            by_cases h5 : x = 1272
            · rw [if_pos h5, if_pos h5]
            · rw [if_neg h5, if_neg h5]
              by_cases h6 : x = 1273
              · rw [if_pos h6, if_pos h6]
                simp only [f_X1_holds_271, i32_succ]
                by_cases q : (v4 &&& 1) = 1
                · rw [if_pos q, if_pos q]
                · rw [if_neg q, if_neg q]
              · rw [if_neg h6, if_neg h6]
                by_cases h7 : x = 1274
                · rw [if_pos h7, if_pos h7]
                · rw [if_neg h7, if_neg h7]
                  by_cases h8 : x = 1275
                  · rw [if_pos h8, if_pos h8]
                    simp only [f_X1_holds_234, lt, i32_succ]
                    by_cases q : M 40 2 < M 40 3
                    · rw [if_pos q, if_pos q]
                    · rw [if_neg q, if_neg q]
                  · rw [if_neg h8, if_neg h8, c_part]
                    rfl
  · rw [if_neg h0, if_neg h0]
theorem c_runM {N a e : Nat} (he : e ≤ 400) : ∀ (n k i : Nat) (s : Cs9), i + k = e → k < n → f_X1_holds_16 N a n (Int32.ofNat e) s.1 s.2.1 s.2.2 (Int32.ofNat i) M = f_X1_holds_307 N a (cRun (M (a + 5)) (fxM M) k i s).1 M := by
  intro n
  induction n with
  | zero => intro k i s _ h; omega
  | succ n ih =>
    intro k i s hik hk
    match k with
    | 0 =>
      rw [f_X1_holds_16, if_pos (i32_len (by omega) (by omega))]
      rfl
    | k + 1 =>
      rw [c_stp s.1 s.2.1 s.2.2 (by omega) he, cRun]
      exact ih k (i + 1) _ (by omega) (by omega)
theorem c_holdsU (N a : Nat) (v1 v2 : Int32) (M : Mm) (h : ¬ v1 < 0) : f_X1_holds N a v1 v2 M = f_X1_holds_16 N a N v2 1 0 0 v1 M := by
  unfold f_X1_holds lt
  by_cases q : (0 : Int32) < v1
  · simp only [if_pos q]
  · simp only [if_neg q]
    rw [show v1 = 0 from Int32.le_antisymm (Int32.not_lt.mp q) (Int32.not_lt.mp h)]
theorem c_holdsR {a i e : Nat} (hi : i ≤ e) (he : e ≤ 400) : f_X1_holds 20000 a (Int32.ofNat i) (Int32.ofNat e) M = f_X1_holds_307 20000 a (cRun (M (a + 5)) (fxM M) (e - i) i (1, 0, 0)).1 M := by
  rw [c_holdsU 20000 a _ _ M (i32_nn (by omega))]
  exact c_runM (N := 20000) (a := a) he 20000 (e - i) i (1, 0, 0) (by omega) (by omega)
end CM
