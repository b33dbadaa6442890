section AMG2
variable {X : am_X} {l0 : Launch} {R0 : Room} {cc : ByteArray} {own : String} {ret : Option FieldType} {ly : Ly} {M M1 M' : Mm} {ce sl : Nat} {Q : State → Prop} {pc : Nat} {L L1 : List (Option Value)} {st : List Value}
/-- arraycopy of whole int rows -/
theorem w_copy (hC : am_C X l0 R0 cc own ret) {ix a b n0 n1 : Nat} {rs0 rs1 : List Nat} {nn : Int32} {N : Nat} (hN : nn = nI N) (hN2 : N < 2 ^ 31) (ha : ly[a]? = some (0, n0, rs0)) (hb1 : ly[b]? = some (0, n1, rs1)) (h0 : N ≤ n0) (h1 : N ≤ n1) (hlk1 : Cond.methodLink own ix arraycopyName ∈ am_T) (hnat : Cond.native arraycopyName ∈ am_T) (hstat : Cond.static arraycopyName ∈ am_T) (hini : Cond.initialized "java/lang/System" ∈ am_T) (hRf : 1 ≤ R0.frames) (hRl : (st.map fun v => v.category).sum + (nativeFrameWords "java/lang/System" "arraycopy" 5 + 11) ≤ R0.locals) (hd : decode cc pc = .ok (.invokestatic ix, 3)) (eM : M1 = cpy M a b N) (k : am_V X ly M1 ce sl Q (pc + 3) L st) : am_V X ly M ce sl Q pc L (.int nn :: .int 0 :: .ref b :: .int 0 :: .ref a :: st) := by
  obtain ⟨p, l, e, R, s, m, args, below, meth, c, D, G, ad, A⟩ := X
  obtain ⟨hx, hb, hown, hts, hK, hA, hlk, hB, hr9, rfl, rfl⟩ := hC
  intro H locs ls hP hD hS hL hm
  have hst9 : ((st.map (am_c ad)).map fun v => v.category).sum = (st.map fun v => v.category).sum := by
    rw [List.map_map]
    have : ((fun v : Value => v.category) ∘ am_c ad) = fun v => v.category := by funext v; exact am_c_cat
    rw [this]
  subst hN; subst eM
  have z0 : (0 : Int32).toNatClampNeg = 0 := rfl
  have e1 : (am_w G ad ly M).set b (ad b, .inl (G.1, n1, .inl (va_cpy (M a) (M b) (0 : Int32).toNatClampNeg (0 : Int32).toNatClampNeg (nI N).toNatClampNeg))) = am_w G ad ly (cpy M a b N) := by
    have e2 : cpy M a b N = am_upd M b (va_cpy (M a) (M b) 0 0 N) := by
      funext x j
      simp only [cpy, am_upd, va_cpy]
      by_cases g : x = b
      · subst g; by_cases hj : j < N <;> simp [hj, va_cpy]
      · simp [g]
    rw [e2, z0, nI_clamp hN2]
    exact am_set (G := G) (q := (0, n1, rs1)) hb1
  refine va_copyi hx hb (by rw [hm, hL.1]) hown (hts _ hlk1) (hts _ hnat) (hts _ hstat) (hts _ hini) hK hP hD hS a b 0 0 (ty := .int) (am_get ha) (am_get hb1) rfl rfl rfl (by decide) (by decide) (nI_pos hN2) (by rw [z0, nI_clamp hN2]; show 0 + N ≤ n0; omega) (by rw [z0, nI_clamp hN2]; show 0 + N ≤ n1; omega) (fun _ _ => rfl) hRf (by rw [hst9]; exact hRl) hd (fun H1 locs1 hP1 hD1 hS1 => k H1 locs1 ls (by rw [← e1]; exact hP1) (by rw [← e1]; exact hD1) hS1 hL hm)
end AMG2
section AMM
variable {X : am_X} {l0 : Launch} {R0 : Room} {cc : ByteArray} {own : String} {ret : Option FieldType} {ly : Ly} {M : Mm} {ce sl : Nat} {Q : State → Prop} {pc : Nat} {L : List (Option Value)} {st : List Value}
def am_mth (nm : MethodName) (cy : ByteArray) : Prop := Cond.static nm ∈ am_T ∧ Cond.initialized "java/lang/Math" ∈ am_T ∧ Cond.code nm cy 2 (some .int) ∈ am_T
theorem v_mmax (hC : am_C X l0 R0 cc own ret) {ix : Nat} {x y : Int32} (hlk1 : Cond.methodLink own ix Lib.Math.max.name ∈ am_T) (hw : am_mth Lib.Math.max.name Lib.Math.max.code) (hRf : 1 ≤ R0.frames) (hRl : (st.map fun v => v.category).sum + 13 ≤ R0.locals) (hc : ce ≤ R0.cells) (hs : sl ≤ R0.slots) (hd : decode cc pc = .ok (.invokestatic ix, 3)) (k : am_V X ly M ce sl Q (pc + 3) L (.int (if x < y then y else x) :: st)) : am_V X ly M ce sl Q pc L (.int y :: .int x :: st) := by
  obtain ⟨p, l, e, R, s, m, args, below, meth, c, D, G, ad, A⟩ := X
  obtain ⟨hx, hb, hown, hts, hK, hA, hlk, hB, hr9, rfl, rfl⟩ := hC
  intro H locs ls hP hD hS hL hm
  have hst9 : ((st.map (am_c ad)).map fun v => v.category).sum = (st.map fun v => v.category).sum := by
    rw [List.map_map]
    have : ((fun v : Value => v.category) ∘ am_c ad) = fun v => v.category := by funext v; exact am_c_cat
    rw [this]
  exact va_mmax hx hb (by rw [hm, hL.1]) hown (hts _ hlk1) (hts _ hw.1) (hts _ hw.2.1) (hts _ hw.2.2) hRf (by rw [hst9]; exact hRl) hc hs hd (k H locs ls hP hD hS hL hm)
theorem v_mmin (hC : am_C X l0 R0 cc own ret) {ix : Nat} {x y : Int32} (hlk1 : Cond.methodLink own ix Lib.Math.min.name ∈ am_T) (hw : am_mth Lib.Math.min.name Lib.Math.min.code) (hRf : 1 ≤ R0.frames) (hRl : (st.map fun v => v.category).sum + 13 ≤ R0.locals) (hc : ce ≤ R0.cells) (hs : sl ≤ R0.slots) (hd : decode cc pc = .ok (.invokestatic ix, 3)) (k : am_V X ly M ce sl Q (pc + 3) L (.int (if y < x then y else x) :: st)) : am_V X ly M ce sl Q pc L (.int y :: .int x :: st) := by
  obtain ⟨p, l, e, R, s, m, args, below, meth, c, D, G, ad, A⟩ := X
  obtain ⟨hx, hb, hown, hts, hK, hA, hlk, hB, hr9, rfl, rfl⟩ := hC
  intro H locs ls hP hD hS hL hm
  have hst9 : ((st.map (am_c ad)).map fun v => v.category).sum = (st.map fun v => v.category).sum := by
    rw [List.map_map]
    have : ((fun v : Value => v.category) ∘ am_c ad) = fun v => v.category := by funext v; exact am_c_cat
    rw [this]
  exact va_mmin hx hb (by rw [hm, hL.1]) hown (hts _ hlk1) (hts _ hw.1) (hts _ hw.2.1) (hts _ hw.2.2) hRf (by rw [hst9]; exact hRl) hc hs hd (k H locs ls hP hD hS hL hm)
end AMM
