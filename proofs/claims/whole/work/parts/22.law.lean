/-! THE LAW, as lines with truths; what the pinch and the setting are. -/
def b2i (b : Bool) : Int32 := if b = true then 1 else 0
def cLaw (b : Nat) (W : Lw) (M : Mm) : Prop := W.length ≤ 12 ∧ M b 1 = Int32.ofNat W.length ∧ ∀ i (h : i < W.length), M (b + 1) i = (W[i]'h).1 ∧ M (b + 2) i = (W[i]'h).2.1 ∧ ∀ M2 : Mm, M2 (b + 5) = M (b + 5) → f_X1_holds 20000 b (M (b + 3) i) (M (b + 4) i) M2 = some (b2i ((W[i]'h).2.2 (fxM M2)), M2)
theorem cLaw.frame {b : Nat} {W : Lw} {M M' : Mm} (h : cLaw b W M) (hf : ∀ i, i < 6 → M' (b + i) = M (b + i)) : cLaw b W M' := by
  obtain ⟨h1, h2, h3⟩ := h
  refine ⟨h1, by rw [show M' b = M b from hf 0 (by decide)]; exact h2, fun i hi => ?_⟩
  obtain ⟨g1, g2, g3⟩ := h3 i hi
  refine ⟨by rw [hf 1 (by decide)]; exact g1, by rw [hf 2 (by decide)]; exact g2, fun M2 hM2 => ?_⟩
  rw [hf 3 (by decide), hf 4 (by decide)]
  exact g3 M2 (by rw [hM2, hf 5 (by decide)])
def sLine (fx : Fx) (w : Int32) (ln : Int32 × Int32 × (Fx → Bool)) : Int32 := if ln.1 = 269 then (if ln.2.2 fx = true then w + ln.2.1 else w) else if ln.1 = 270 then (if ln.2.2 fx = true then w - ln.2.1 else w) else w
def sBase (s1 z : Int32) : Int32 := if 0 < s1 - z then s1 - z else 0
def sCut (g v : Int32) : Int32 := if 0 < (if g < v then g else v) then (if g < v then g else v) else 0
def sPinch (W : Lw) (fx : Fx) : Int32 := if fx 8 = 0 then sCut (fx 3) (W.foldl (sLine fx) (sBase (if fx 7 = 0 then fx 2 else 0) (fx 4))) else 0
def sSetLine (fx : Fx) (w : Int32) (ln : Int32 × Int32 × (Fx → Bool)) : Int32 := if ln.1 = 262 then (if ln.2.2 fx = true then w + ln.2.1 else w) else w
def sSetsBy (W : Lw) (fx : Fx) : Int32 := W.foldl (sSetLine fx) 1
theorem b2i_z {b : Bool} : b2i b = 0 ↔ b = false := by cases b <;> decide
theorem c_pinch_36 {b : Nat} {W : Lw} {M : Mm} (hW : cLaw b W M) : ∀ (n i : Nat) (v : Int32), i ≤ W.length → W.length - i < n → f_X1_pinch_36 20000 b n v (Int32.ofNat i) M = f_X1_pinch_141 20000 b ((W.drop i).foldl (sLine (fxM M)) v) M := by
  obtain ⟨h12, hlen, hrow⟩ := hW
  intro n
  induction n with
  | zero => intro i v _ h; omega
  | succ n ih =>
    intro i v hi hn
    rw [f_X1_pinch_36, hlen]
    by_cases h : i = W.length
    · rw [if_pos ((i32_leN (by omega) (by omega)).mpr (by omega)), h, List.drop_length]; rfl
    · have hl : i < W.length := by omega
      obtain ⟨h1, h2, h3⟩ := hrow i hl
      have hin : inb (Int32.ofNat i) 12 = true := inb_ofNat (by omega) (by omega)
      have hcl : (Int32.ofNat i).toNatClampNeg = i := i32_clampN (by omega)
      rw [if_neg (fun h9 => by have := (i32_leN (by omega) (by omega)).mp h9; omega), if_neg (fun h9 => by have := (i32_leN (a := 12) (by omega) (by omega)).mp h9; omega)]
      rw [List.drop_eq_getElem_cons hl, List.foldl_cons]
      simp only [f_X1_pinch_94, grd, hin, if_true, hcl, h1, h2, h3 M rfl, bnd, lt, i32_succ, ih (i + 1) _ (by omega) (by omega), b2i_z, sLine]
      by_cases e1 : (W[i]'hl).1 = 269
      · rw [if_pos e1, if_pos e1, e1]
        cases (W[i]'hl).2.2 (fxM M) <;> rfl
      · rw [if_neg e1, if_neg e1]
        by_cases e2 : (W[i]'hl).1 = 270
        · rw [if_pos e2, if_pos e2]
          cases (W[i]'hl).2.2 (fxM M) <;> rfl
        · rw [if_neg e2, if_neg e2]
theorem c_pinch {b : Nat} {W : Lw} {M : Mm} (hW : cLaw b W M) : f_X1_pinch 20000 b M = some (sPinch W (fxM M), M) := by
  have h25 : ∀ s1, f_X1_pinch_25 20000 b 0 s1 M = some (sCut (M 40 3) (W.foldl (sLine (fxM M)) (sBase s1 (M 40 4))), M) := fun s1 => by
    unfold f_X1_pinch_25 lt
    rw [show (0 : Int32) = Int32.ofNat 0 from rfl]
    show f_X1_pinch_36 20000 b 20000 (sBase s1 (M 40 4)) (Int32.ofNat 0) M = _
    rw [c_pinch_36 hW 20000 0 _ (by omega) (by have := hW.1; omega)]; rfl
  unfold f_X1_pinch sPinch
  rw [h25, h25]
  show _ = some (if M 40 8 = 0 then sCut (M 40 3) (W.foldl (sLine (fxM M)) (sBase (if M 40 7 = 0 then M 40 2 else 0) (M 40 4))) else 0, M)
  by_cases h8 : M 40 8 = 0
  · rw [if_pos h8, if_pos h8]
    by_cases h7 : M 40 7 = 0
    · rw [if_pos h7, if_pos h7]
    · rw [if_neg h7, if_neg h7]
  · rw [if_neg h8, if_neg h8]
theorem c_setsBy_4 {b : Nat} {W : Lw} {M : Mm} (hW : cLaw b W M) : ∀ (n i : Nat) (v : Int32), i ≤ W.length → W.length - i < n → f_X1_setsBy_4 20000 b n v (Int32.ofNat i) M = some ((W.drop i).foldl (sSetLine (fxM M)) v, M) := by
  obtain ⟨h12, hlen, hrow⟩ := hW
  intro n
  induction n with
  | zero => intro i v _ h; omega
  | succ n ih =>
    intro i v hi hn
    rw [f_X1_setsBy_4, hlen]
    by_cases h : i = W.length
    · rw [if_pos ((i32_leN (by omega) (by omega)).mpr (by omega)), h, List.drop_length]; rfl
    · have hl : i < W.length := by omega
      obtain ⟨h1, h2, h3⟩ := hrow i hl
      have hin : inb (Int32.ofNat i) 12 = true := inb_ofNat (by omega) (by omega)
      have hcl : (Int32.ofNat i).toNatClampNeg = i := i32_clampN (by omega)
      rw [if_neg (fun h9 => by have := (i32_leN (by omega) (by omega)).mp h9; omega), if_neg (fun h9 => by have := (i32_leN (a := 12) (by omega) (by omega)).mp h9; omega)]
      rw [List.drop_eq_getElem_cons hl, List.foldl_cons]
      simp only [grd, hin, if_true, hcl, h1, h2, h3 M rfl, bnd, lt, i32_succ, ih (i + 1) _ (by omega) (by omega), b2i_z, sSetLine]
      by_cases e1 : (W[i]'hl).1 = 262
      · rw [if_pos e1, if_pos e1]
        cases (W[i]'hl).2.2 (fxM M) <;> rfl
      · rw [if_neg e1, if_neg e1]
theorem c_setsBy {b : Nat} {W : Lw} {M : Mm} (hW : cLaw b W M) : f_X1_setsBy 20000 b M = some (sSetsBy W (fxM M), M) := by
  unfold f_X1_setsBy
  show f_X1_setsBy_4 20000 b 20000 1 (Int32.ofNat 0) M = _
  rw [c_setsBy_4 hW 20000 0 _ (by omega) (by have := hW.1; omega)]; rfl
