/-! THE LAW in the reference's world. -/
def kd (k : Int32) : Int32 := if k = 269 then 0 else if k = 270 then 1 else 2
def lwOK (W : Lw) : Prop := W.length ≤ 12 ∧ ∀ i (h : i < W.length), ((W[i]'h).1 = 269 ∨ (W[i]'h).1 = 270 ∨ (W[i]'h).1 = 262) ∧ (∃ q, q ≤ 30 ∧ (W[i]'h).2.1 = Int32.ofNat q) ∧ ∀ fx v, (W[i]'h).2.2 (updF fx 8 v) = (W[i]'h).2.2 fx
def wRow (W : Lw) (M : Mm) : Prop := ∀ i (h : i < W.length), M 209 (410 + 4 * i) = kd (W[i]'h).1 ∧ M 209 (411 + 4 * i) = (W[i]'h).2.1 ∧
  ∀ (M2 : Mm) (T : Tb) (nd nc : Nat) (L : List Row) (c d : Nat), RW nd nc T L (M2 209) → (∀ j, 409 ≤ j → j < 1258 → M2 209 j = M 209 j) → c < nc → d < nd →
    ∃ M3, f_X11_holdsLine 20000 (Int32.ofNat i) (Int32.ofNat c) (Int32.ofNat d) M2 = some (b2i ((W[i]'h).2.2 (sFx T (Int32.ofNat c) (Int32.ofNat d))), M3) ∧ ∀ x, x ≠ 216 → M3 x = M2 x
def wLaw (W : Lw) (M : Mm) : Prop := (M 209 3 ≠ 1 ∧ W = []) ∨ (M 209 3 = 1 ∧ M 209 409 = Int32.ofNat W.length ∧ wRow W M)
theorem wLaw.frame {W : Lw} {M M' : Mm} (h : wLaw W M) (h3 : M' 209 3 = M 209 3) (hj : ∀ j, 409 ≤ j → j < 1258 → M' 209 j = M 209 j) (hW : lwOK W) : wLaw W M' := by
  rcases h with ⟨a, b⟩ | ⟨a, b, c⟩
  · exact Or.inl ⟨by rw [h3]; exact a, b⟩
  · refine Or.inr ⟨by rw [h3]; exact a, by rw [hj 409 (by omega) (by omega)]; exact b, fun i hi => ?_⟩
    have h12 := hW.1
    obtain ⟨r1, r2, r3⟩ := c i hi
    refine ⟨by rw [hj _ (by omega) (by omega)]; exact r1, by rw [hj _ (by omega) (by omega)]; exact r2, fun M2 T nd nc L c d hR hM2 hc hd => r3 M2 T nd nc L c d hR (fun j x y => by rw [hM2 j x y, hj j x y]) hc hd⟩
def sumK (k : Int32) (fx : Fx) (v : Int32) (ln : Int32 × Int32 × (Fx → Bool)) : Int32 := if ln.1 = k then (if ln.2.2 fx = true then v + ln.2.1 else v) else v
theorem kd_inj {a b : Int32} (ha : a = 269 ∨ a = 270 ∨ a = 262) (hb : b = 269 ∨ b = 270 ∨ b = 262) : kd a = kd b ↔ a = b := by
  rcases ha with rfl | rfl | rfl <;> rcases hb with rfl | rfl | rfl <;> decide
theorem m_lineAt (i : Nat) : (410 : Int32) + (4 : Int32) * Int32.ofNat i = Int32.ofNat (410 + 4 * i) := by
  show Int32.ofNat 410 + Int32.ofNat 4 * Int32.ofNat i = _
  rw [i32_mulN, i32_addN]
theorem m_sumOf_6 {nd nc : Nat} {T : Tb} {L : List Row} {W : Lw} {c d : Nat} {kind : Int32} (hk : kind = 269 ∨ kind = 270 ∨ kind = 262) (hO : lwOK W) (hc : c < nc) (hd : d < nd) : ∀ (n i : Nat) (v : Int32) (M : Mm), RW nd nc T L (M 209) → wLaw W M → i ≤ W.length → W.length - i < n →
    ∃ M', f_X11_sumOf_6 20000 n (kd kind) (Int32.ofNat c) (Int32.ofNat d) v (Int32.ofNat i) M = some ((W.drop i).foldl (sumK kind (sFx T (Int32.ofNat c) (Int32.ofNat d))) v, M') ∧ ∀ x, x ≠ 216 → M' x = M x := by
  have h12 := hO.1
  intro n
  induction n with
  | zero => intro i v M _ _ _ h; omega
  | succ n ih =>
    intro i v M hR hW hi hn
    rw [f_X11_sumOf_6]
    simp only [grd, show inb (3 : Int32) 2107 = true from by decide, show inb (409 : Int32) 2107 = true from by decide, if_true, show (3 : Int32).toNatClampNeg = 3 from by decide, show (409 : Int32).toNatClampNeg = 409 from by decide]
    rcases hW with ⟨a, b⟩ | ⟨a, b, row⟩
    · rw [if_neg a]
      subst b
      refine ⟨M, ?_, fun _ _ => rfl⟩
      rw [List.drop_nil]; rfl
    · rw [if_pos a, b]
      by_cases h : i = W.length
      · rw [if_pos ((i32_leN (by omega) (by omega)).mpr (by omega)), h, List.drop_length]
        exact ⟨M, rfl, fun _ _ => rfl⟩
      · have hl : i < W.length := by omega
        obtain ⟨r1, r2, r3⟩ := row i hl
        rw [if_neg (fun h9 => by have := (i32_leN (by omega) (by omega)).mp h9; omega), m_lineAt]
        rw [List.drop_eq_getElem_cons hl, List.foldl_cons]
        have hin : inb (Int32.ofNat (410 + 4 * i)) 2107 = true := inb_ofNat (by omega) (by omega)
        have hcl : (Int32.ofNat (410 + 4 * i)).toNatClampNeg = 410 + 4 * i := i32_clampN (by omega)
        have hin1 : inb (Int32.ofNat (411 + 4 * i)) 2107 = true := inb_ofNat (by omega) (by omega)
        have hcl1 : (Int32.ofNat (411 + 4 * i)).toNatClampNeg = 411 + 4 * i := i32_clampN (by omega)
        rw [i32_succ, i32_succ, show 410 + 4 * i + 1 = 411 + 4 * i from by omega]
        simp only [hin, if_true, hcl, r1, hin1, hcl1]
        unfold sumK
        by_cases e : (W[i]'hl).1 = kind
        · rw [if_pos ((kd_inj (hO.2 i hl).1 hk).mpr e), if_pos e]
          obtain ⟨M3, q1, q2⟩ := r3 M T nd nc L c d hR (fun _ _ _ => rfl) hc hd
          rw [q1]
          simp only [bnd]
          have hR3 : RW nd nc T L (M3 209) := by rw [q2 209 (by decide)]; exact hR
          have hW3 : wLaw W M3 := wLaw.frame (Or.inr ⟨a, b, row⟩) (by rw [q2 209 (by decide)]) (fun j _ _ => by rw [q2 209 (by decide)]) hO
          cases hb : (W[i]'hl).2.2 (sFx T (Int32.ofNat c) (Int32.ofNat d))
          · obtain ⟨M', s1, s2⟩ := ih (i + 1) v M3 hR3 hW3 (by omega) (by omega)
            exact ⟨M', s1, fun x hx => (s2 x hx).trans (q2 x hx)⟩
          · obtain ⟨M', s1, s2⟩ := ih (i + 1) (v + (W[i]'hl).2.1) M3 hR3 hW3 (by omega) (by omega)
            refine ⟨M', ?_, fun x hx => (s2 x hx).trans (q2 x hx)⟩
            rw [if_neg (by decide), q2 209 (by decide), r2]
            exact s1
        · rw [if_neg (fun h9 => e ((kd_inj (hO.2 i hl).1 hk).mp h9)), if_neg e]
          exact ih (i + 1) v M hR (Or.inr ⟨a, b, row⟩) (by omega) (by omega)
theorem m_sumOf {nd nc : Nat} {T : Tb} {L : List Row} {W : Lw} {c d : Nat} {kind : Int32} {M : Mm} (hk : kind = 269 ∨ kind = 270 ∨ kind = 262) (hO : lwOK W) (hc : c < nc) (hd : d < nd) (hR : RW nd nc T L (M 209)) (hW : wLaw W M) :
    ∃ M', f_X11_sumOf 20000 (kd kind) (Int32.ofNat c) (Int32.ofNat d) M = some (W.foldl (sumK kind (sFx T (Int32.ofNat c) (Int32.ofNat d))) 0, M') ∧ ∀ x, x ≠ 216 → M' x = M x := by
  have h12 := hO.1
  obtain ⟨M', h1, h2⟩ := m_sumOf_6 (T := T) (L := L) (W := W) hk hO hc hd 20000 0 0 M hR hW (by omega) (by omega)
  refine ⟨M', ?_, h2⟩
  unfold f_X11_sumOf
  rw [show (0 : Int32) = Int32.ofNat 0 from rfl] at h1 ⊢
  exact h1
theorem sLine_sum {W : Lw} {fx : Fx} : ∀ (v a b : Int32), W.foldl (sLine fx) (v + (a - b)) = v + (W.foldl (sumK 269 fx) a - W.foldl (sumK 270 fx) b) := by
  induction W with
  | nil => intro v a b; rfl
  | cons x W ih =>
    intro v a b
    simp only [List.foldl_cons]
    by_cases e1 : x.1 = 269
    · have e2 : ¬ x.1 = 270 := by rw [e1]; decide
      cases hb : x.2.2 fx
      · rw [show sLine fx (v + (a - b)) x = v + (a - b) from by unfold sLine; rw [if_pos e1, hb]; rfl, show sumK 269 fx a x = a from by unfold sumK; rw [if_pos e1, hb]; rfl, show sumK 270 fx b x = b from by unfold sumK; rw [if_neg e2]]
        exact ih v a b
      · rw [show sLine fx (v + (a - b)) x = v + ((a + x.2.1) - b) from by unfold sLine; rw [if_pos e1, hb, if_pos rfl]; grind, show sumK 269 fx a x = a + x.2.1 from by unfold sumK; rw [if_pos e1, hb]; rfl, show sumK 270 fx b x = b from by unfold sumK; rw [if_neg e2]]
        exact ih v _ b
    · by_cases e2 : x.1 = 270
      · cases hb : x.2.2 fx
        · rw [show sLine fx (v + (a - b)) x = v + (a - b) from by unfold sLine; rw [if_neg e1, if_pos e2, hb]; rfl, show sumK 269 fx a x = a from by unfold sumK; rw [if_neg e1], show sumK 270 fx b x = b from by unfold sumK; rw [if_pos e2, hb]; rfl]
          exact ih v a b
        · rw [show sLine fx (v + (a - b)) x = v + (a - (b + x.2.1)) from by unfold sLine; rw [if_neg e1, if_pos e2, hb, if_pos rfl]; grind, show sumK 269 fx a x = a from by unfold sumK; rw [if_neg e1], show sumK 270 fx b x = b + x.2.1 from by unfold sumK; rw [if_pos e2, hb]; rfl]
          exact ih v a _
      · rw [show sLine fx (v + (a - b)) x = v + (a - b) from by unfold sLine; rw [if_neg e1, if_neg e2], show sumK 269 fx a x = a from by unfold sumK; rw [if_neg e1], show sumK 270 fx b x = b from by unfold sumK; rw [if_neg e2]]
        exact ih v a b
