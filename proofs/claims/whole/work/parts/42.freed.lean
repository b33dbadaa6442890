/-! Until cellars are free, in the reference's world: the first course, 200 at most, else far. -/
def sFreed (W : Lw) (br : Int32) (nc : Nat) (mask : Int32) : Nat → Nat → Es → Int32
  | 0, _, _ => 1000000
  | k + 1, g, e => if (sHeld nc e.1 &&& mask) = 0 then Int32.ofNat g else sFreed W br nc mask k (g + 1) (sCalm W br nc e)
theorem m_freed_53 {M0 M : Mm} {v : Int32} (hk : ∀ j, j < 409 → M 212 j = M0 209 j) (hh : ∀ j, 409 ≤ j → M 209 j = M0 209 j) : ∃ M', f_X11_freedIn_53 20000 v M = some (v, M') ∧ M' 209 = M0 209 ∧ ∀ x, x ≠ 209 → M' x = M x := by
  obtain ⟨M', a1, a2, a3⟩ := m_bringsBack hk hh
  unfold f_X11_freedIn_53
  rw [a1]
  exact ⟨M', rfl, a2, a3⟩
theorem m_freed_10 {nd nc : Nat} {W : Lw} {mask : Int32} {M0 : Mm} (hO : lwOK W) : ∀ (n k g : Nat) (e : Es) (M : Mm), RW nd nc e.1 e.2.2.2 (M 209) → wLaw W M → (∀ j, j < 409 → M 212 j = M0 209 j) → (∀ j, 409 ≤ j → M 209 j = M0 209 j) → g + k = 201 → k + 1 < n →
    ∃ M', f_X11_freedIn_10 20000 n mask 1000000 (Int32.ofNat g) M = some (sFreed W (M 208 18) nc mask k g e, M') ∧ M' 209 = M0 209 ∧ ∀ x, x ≠ 209 → x ≠ 216 → M' x = M x := by
  intro n
  induction n with
  | zero => intro k g e M _ _ _ _ _ h; omega
  | succ n ih =>
    intro k g e M hR hW hk hh hgk hn
    rw [f_X11_freedIn_10]
    match k with
    | 0 =>
      rw [if_pos (show (200 : Int32) < Int32.ofNat g from (i32_ltN (a := 200) (by omega) (by omega)).mpr (by omega))]
      obtain ⟨M', a1, a2, a3⟩ := m_freed_53 (v := 1000000) hk hh
      exact ⟨M', a1, a2, fun x x1 _ => a3 x x1⟩
    | k + 1 =>
      rw [if_neg (show ¬ (200 : Int32) < Int32.ofNat g from fun h9 => by have := (i32_ltN (a := 200) (by omega) (by omega)).mp h9; omega), if_pos rfl, m_heldOnes hR, sFreed]
      simp only [bnd]
      obtain ⟨M1, a1, a2, a3⟩ := m_calm hO hR hW
      have k1 : ∀ j, j < 409 → M1 212 j = M0 209 j := fun j hj => by rw [a3.2.2 212 (by decide) (by decide)]; exact hk j hj
      have k2 : ∀ j, 409 ≤ j → M1 209 j = M0 209 j := fun j hj => by rw [a3.2.1 j hj]; exact hh j hj
      have k3 : M1 208 = M 208 := a3.2.2 208 (by decide) (by decide)
      by_cases q : (sHeld nc e.1 &&& mask) = 0
      · rw [if_pos q, if_pos q]
        unfold f_X11_freedIn_40
        rw [a1]
        simp only [bnd, i32_succ]
        obtain ⟨M', b1, b2, b3⟩ := m_freed_53 (v := Int32.ofNat g) k1 k2
        refine ⟨M', ?_, b2, fun x x1 x2 => (b3 x x1).trans (a3.2.2 x x1 x2)⟩
        obtain ⟨n', rfl⟩ : ∃ n', n = n' + 1 := ⟨n - 1, by omega⟩
        rw [f_X11_freedIn_10, if_neg (show ¬ Int32.ofNat g = (1000000 : Int32) from fun h9 => by have := (i32_eqN (b := 1000000) (by omega) (by omega)).mp h9; omega), b1]
        split <;> rfl
      · rw [if_neg q, if_neg q]
        unfold f_X11_freedIn_40
        rw [a1]
        simp only [bnd, i32_succ]
        obtain ⟨M', b1, b2, b3⟩ := ih k (g + 1) (sCalm W (M 208 18) nc e) M1 a2 (a3.law hW hO) k1 k2 (by omega) (by omega)
        rw [k3] at b1
        exact ⟨M', b1, b2, fun x x1 x2 => (b3 x x1 x2).trans (a3.2.2 x x1 x2)⟩
theorem m_freed_N {nd nc : Nat} {W : Lw} {mask : Int32} {e : Es} {M M1 : Mm} {N : Nat} (hN : 202 < N) (hO : lwOK W) (hR : RW nd nc e.1 e.2.2.2 (M 209)) (hW : wLaw W M) (a2 : ∀ j, j < 409 → M1 212 j = M 209 j) (a3 : ∀ x, x ≠ 212 → M1 x = M x) : ∃ M', f_X11_freedIn_10 20000 N mask 1000000 0 M1 = some (sFreed W (M 208 18) nc mask 201 0 e, M') ∧ M' 209 = M 209 ∧ ∀ x, x ≠ 212 → x ≠ 216 → M' x = M x := by
  have e9 : M1 209 = M 209 := a3 209 (by decide)
  obtain ⟨M', b1, b2, b3⟩ := m_freed_10 (mask := mask) (M0 := M) hO N 201 0 e M1 (by rw [e9]; exact hR) (hW.frame (by rw [e9]) (fun j _ _ => by rw [e9]) hO) a2 (fun j _ => by rw [e9]) (by omega) (by omega)
  rw [show M1 208 = M 208 from a3 208 (by decide)] at b1
  refine ⟨M', b1, b2, fun x x1 x2 => ?_⟩
  by_cases h : x = 209
  · subst h; exact b2
  · rw [b3 x h x2, a3 x x1]
theorem m_freedIn {nd nc : Nat} {W : Lw} {mask : Int32} {e : Es} {M : Mm} {N : Nat} (hN : N = 20000) (hO : lwOK W) (hR : RW nd nc e.1 e.2.2.2 (M 209)) (hW : wLaw W M) : ∃ M', f_X11_freedIn N mask M = some (sFreed W (M 208 18) nc mask 201 0 e, M') ∧ M' 209 = M 209 ∧ ∀ x, x ≠ 212 → x ≠ 216 → M' x = M x := by
  obtain ⟨M1, a1, a2, a3⟩ := m_keepsAll (M := M)
  rw [← hN] at a1
  have h9 := m_freed_N (N := N) (mask := mask) (by omega) hO hR hW a2 a3
  rw [← hN] at h9
  obtain ⟨M', b1, b2, b3⟩ := h9
  refine ⟨M', ?_, b2, b3⟩
  unfold f_X11_freedIn
  rw [a1]
  exact b1
