/-! Pinch and setting in the reference's world. -/
def sTaken (W : Lw) (fx : Fx) : Int32 := sCut (fx 3) (W.foldl (sLine fx) (sBase (if fx 7 = 0 then fx 2 else 0) (fx 4)))
theorem sPinch_t {W : Lw} {fx : Fx} : sPinch W fx = if fx 8 = 0 then sTaken W fx else 0 := rfl
theorem sFx_2 {T : Tb} {c : Int32} {d : Nat} (hd : d < 8) : sFx T c (Int32.ofNat d) 2 = T 2 d := by show T 2 (Int32.ofNat d).toNatClampNeg = _; rw [i32_clampN (by omega)]
theorem sFx_3 {T : Tb} {c : Nat} {d : Int32} (hc : c < 5) : sFx T (Int32.ofNat c) d 3 = T 6 c := by show T 6 (Int32.ofNat c).toNatClampNeg = _; rw [i32_clampN (by omega)]
theorem sFx_4 {T : Tb} {c : Nat} {d : Int32} (hc : c < 5) : sFx T (Int32.ofNat c) d 4 = T 7 c := by show T 7 (Int32.ofNat c).toNatClampNeg = _; rw [i32_clampN (by omega)]
theorem sCut_max {g x : Int32} (hg : 0 ≤ g) : (if (if (0 : Int32) < x then x else 0) < g then (if (0 : Int32) < x then x else 0) else g) = sCut g x := by
  unfold sCut; grind
theorem sCut_le {g x : Int32} (hg : 0 ≤ g) : 0 ≤ sCut g x ∧ sCut g x ≤ g := by
  unfold sCut; grind
theorem sDiet_01 {T : Tb} {d : Int32} : sDiet T d = 0 ∨ sDiet T d = 1 := by
  unfold sDiet; split
  · exact Or.inr rfl
  · exact Or.inl rfl
theorem i32_ge0 {k : Nat} (h : k < 2147483648) : (0 : Int32) ≤ Int32.ofNat k := Int32.not_lt.mp (i32_nn h)
section WP
variable {nd nc : Nat} {T : Tb} {L : List Row} {W : Lw} {c d : Nat} {M : Mm}
theorem m_takenBy (hO : lwOK W) (hc : c < nc) (hd : d < nd) (hR : RW nd nc T L (M 209)) (hW : wLaw W M) :
    ∃ M', f_X11_takenBy 20000 (Int32.ofNat c) (Int32.ofNat d) M = some (sTaken W (sFx T (Int32.ofNat c) (Int32.ofNat d)), M') ∧ ∀ x, x ≠ 216 → M' x = M x := by
  have hR0 := hR
  obtain ⟨h0, h1, h2, h3, h4, h5, h6, h7⟩ := hR
  have hnd : d < 8 := by have := h0.1; omega
  have hnc : c < 5 := by have := h0.2.1; omega
  obtain ⟨t1, t2, -⟩ := h3 d hd
  have c2 := h4 c hc 2 (by decide)
  have c3 := h4 c hc 3 (by decide)
  obtain ⟨g, hg, eg⟩ := (h6.2.2.2.2 c hc).2.2.1
  have h19 : ∀ s1, ∃ M', f_X11_takenBy_19 20000 (Int32.ofNat c) (Int32.ofNat d) 0 s1 M = some (sCut (T 6 c) (W.foldl (sLine (sFx T (Int32.ofNat c) (Int32.ofNat d))) (sBase s1 (T 7 c))), M') ∧ ∀ x, x ≠ 216 → M' x = M x := fun s1 => by
    unfold f_X11_takenBy_19
    rw [show (3 : Int32) = Int32.ofNat 3 from rfl, show (2 : Int32) = Int32.ofNat 2 from rfl, m_ofCellar hnc (by decide), c3]
    simp only [bnd, lt]
    obtain ⟨M1, a1, a2⟩ := m_sumOf (kind := 269) (Or.inl rfl) hO hc hd hR0 hW
    rw [show (kd 269 : Int32) = 0 from rfl] at a1
    rw [a1]
    dsimp only
    have hR1 : RW nd nc T L (M1 209) := by rw [a2 209 (by decide)]; exact hR0
    have hW1 : wLaw W M1 := hW.frame (by rw [a2 209 (by decide)]) (fun j _ _ => by rw [a2 209 (by decide)]) hO
    obtain ⟨M2, b1, b2⟩ := m_sumOf (kind := 270) (Or.inr (Or.inl rfl)) hO hc hd hR1 hW1
    rw [show (kd 270 : Int32) = 1 from rfl] at b1
    rw [b1]
    dsimp only
    rw [m_ofCellar hnc (by decide), b2 209 (by decide), a2 209 (by decide), c2]
    dsimp only
    refine ⟨M2, ?_, fun x hx => (b2 x hx).trans (a2 x hx)⟩
    rw [show T (4 + 2) c = T 6 c from rfl, sCut_max (by rw [eg]; exact i32_ge0 (by omega))]
    have e9 := sLine_sum (W := W) (fx := sFx T (Int32.ofNat c) (Int32.ofNat d)) (sBase s1 (T 7 c)) 0 0
    rw [show sBase s1 (T 7 c) + ((0 : Int32) - 0) = sBase s1 (T 7 c) from by grind] at e9
    rw [e9]; rfl
  unfold f_X11_takenBy sTaken
  rw [m_onDiet hnd, t2, sFx_2 hnd, sFx_3 hnc, sFx_4 hnc, show sFx T (Int32.ofNat c) (Int32.ofNat d) 7 = sDiet T (Int32.ofNat d) from rfl]
  simp only [bnd]
  rcases sDiet_01 (T := T) (d := Int32.ofNat d) with e | e
  · rw [e, if_neg (show ¬ (0 : Int32) = 1 by decide), if_pos rfl, if_pos rfl]
    rw [show (1 : Int32) = Int32.ofNat 1 from rfl, m_of hnd (by decide), t1]
    exact h19 _
  · rw [e, if_pos rfl, if_neg (show ¬ (1 : Int32) = 0 by decide), if_neg (show ¬ (1 : Int32) = 0 by decide)]
    exact h19 _
theorem m_isSweet (hR : RW nd nc T L (M 209)) : f_X11_isSweet 20000 M = some (sSweet T, M) := by
  obtain ⟨h0, h1, -⟩ := hR
  unfold f_X11_isSweet f_X11_holds
  simp only [grd, show inb (6 : Int32) 2107 = true from by decide, show inb (4 : Int32) 2107 = true from by decide, if_true, show (6 : Int32).toNatClampNeg = 6 from by decide, show (4 : Int32).toNatClampNeg = 4 from by decide]
  rw [h1.1, h1.2.1]
  unfold sSweet
  split <;> rfl
theorem m_pinchOf (hO : lwOK W) (hc : c < nc) (hd : d < nd) (hR : RW nd nc T L (M 209)) (hW : wLaw W M) :
    ∃ M', f_X11_pinchOf 20000 (Int32.ofNat c) (Int32.ofNat d) M = some (sPinch W (sFx T (Int32.ofNat c) (Int32.ofNat d)), M') ∧ ∀ x, x ≠ 216 → M' x = M x := by
  have hnc : c < 5 := by have := hR.1.2.1; omega
  unfold f_X11_pinchOf
  rw [m_isSweet hR, sPinch_t, show sFx T (Int32.ofNat c) (Int32.ofNat d) 8 = sSweet T from rfl]
  simp only [bnd]
  by_cases e : sSweet T = 0
  · rw [if_pos e, if_pos e, m_isFree hnc, hR.2.2.2.2.1 c hc 2 (by decide)]
    show ∃ M', (if (if T 6 c = 0 then (1 : Int32) else 0) = 0 then _ else _) = _ ∧ _
    by_cases e6 : T 6 c = 0
    · rw [if_pos e6, if_neg (show ¬ (1 : Int32) = 0 by decide)]
      refine ⟨M, ?_, fun _ _ => rfl⟩
      unfold f_X11_pinchOf_15 sTaken
      rw [sFx_3 hnc, e6]
      have h9 := sCut_le (g := 0) (x := W.foldl (sLine (sFx T (Int32.ofNat c) (Int32.ofNat d))) (sBase (if sFx T (Int32.ofNat c) (Int32.ofNat d) 7 = 0 then sFx T (Int32.ofNat c) (Int32.ofNat d) 2 else 0) (sFx T (Int32.ofNat c) (Int32.ofNat d) 4))) (by decide)
      rw [show sCut 0 (W.foldl (sLine (sFx T (Int32.ofNat c) (Int32.ofNat d))) (sBase (if sFx T (Int32.ofNat c) (Int32.ofNat d) 7 = 0 then sFx T (Int32.ofNat c) (Int32.ofNat d) 2 else 0) (sFx T (Int32.ofNat c) (Int32.ofNat d) 4))) = 0 from Int32.le_antisymm h9.2 h9.1]
    · rw [if_neg e6, if_pos rfl]
      obtain ⟨M', a1, a2⟩ := m_takenBy hO hc hd hR hW
      rw [a1]
      exact ⟨M', rfl, a2⟩
  · rw [if_neg e, if_neg e]
    exact ⟨M, rfl, fun _ _ => rfl⟩
theorem sSet_sum {fx : Fx} : ∀ (W : Lw) (v : Int32), W.foldl (sSetLine fx) (1 + v) = 1 + W.foldl (sumK 262 fx) v := by
  intro W
  induction W with
  | nil => intro v; rfl
  | cons x W ih =>
    intro v
    simp only [List.foldl_cons]
    by_cases e1 : x.1 = 262
    · cases hb : x.2.2 fx
      · rw [show sSetLine fx (1 + v) x = 1 + v from by unfold sSetLine; rw [if_pos e1, hb]; rfl, show sumK 262 fx v x = v from by unfold sumK; rw [if_pos e1, hb]; rfl]
        exact ih v
      · rw [show sSetLine fx (1 + v) x = 1 + (v + x.2.1) from by unfold sSetLine; rw [if_pos e1, hb, if_pos rfl]; grind, show sumK 262 fx v x = v + x.2.1 from by unfold sumK; rw [if_pos e1, hb]; rfl]
        exact ih _
    · rw [show sSetLine fx (1 + v) x = 1 + v from by unfold sSetLine; rw [if_neg e1], show sumK 262 fx v x = v from by unfold sumK; rw [if_neg e1]]
      exact ih v
theorem m_setsBy (hO : lwOK W) (hc : c < nc) (hd : d < nd) (hR : RW nd nc T L (M 209)) (hW : wLaw W M) :
    ∃ M', f_X11_setsBy 20000 (Int32.ofNat c) (Int32.ofNat d) M = some (sSetsBy W (sFx T (Int32.ofNat c) (Int32.ofNat d)), M') ∧ ∀ x, x ≠ 216 → M' x = M x := by
  obtain ⟨M1, a1, a2⟩ := m_sumOf (kind := 262) (Or.inr (Or.inr rfl)) hO hc hd hR hW
  rw [show (kd 262 : Int32) = 2 from rfl] at a1
  unfold f_X11_setsBy
  rw [a1]
  refine ⟨M1, ?_, a2⟩
  simp only [bnd]
  rw [← sSet_sum]
  rfl
end WP
