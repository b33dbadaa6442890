/-! Which cellar to ask of. -/
section AK
variable {nd nc : Nat} {T : Tb} {L : List Row} {K : LwS} {ms : List TbS} {im : Option (TbS × LwS)} {tp : List Nat} {ft : Int32} {W : Lw} {M : Mm} {A : TbS} {f : Nat → Nat} {nr : Nat} {ok : Nat → Bool} {g : Nat → Nat} {v : Nat → Nat}
def ckN (ok : Nat → Bool) : Nat → Nat
  | 0 => 0
  | i + 1 => ckN ok i + if ok i = true then 1 else 0
theorem ck_mono {i j : Nat} (h : i ≤ j) : ckN ok i ≤ ckN ok j := by
  induction j with
  | zero => rw [show i = 0 by omega]; exact Nat.le_refl _
  | succ j ih =>
    by_cases e : i = j + 1
    · rw [e]; exact Nat.le_refl _
    · rw [ckN]; have := ih (by omega); omega
theorem ck_lt {i j : Nat} (h : i < j) (hi : ok i = true) : ckN ok i < ckN ok j := by
  have h1 : ckN ok (i + 1) ≤ ckN ok j := ck_mono h
  rw [ckN, if_pos hi] at h1
  omega
theorem ck_ex {i j : Nat} (h : j < ckN ok i) : ∃ s, s < i ∧ ok s = true ∧ ckN ok s = j := by
  induction i with
  | zero => exact absurd h (by rw [ckN]; omega)
  | succ i ih =>
    rw [ckN] at h
    by_cases q : j < ckN ok i
    · obtain ⟨s, h1, h2, h3⟩ := ih q
      exact ⟨s, by omega, h2, h3⟩
    · by_cases q2 : ok i = true
      · rw [if_pos q2] at h
        exact ⟨i, by omega, q2, by omega⟩
      · rw [if_neg q2] at h; omega
theorem ck_le {ok' : Nat → Bool} (h : ∀ s, ok s = true → ok' s = true) (i : Nat) : ckN ok i ≤ ckN ok' i := by
  induction i with
  | zero => exact Nat.le_refl _
  | succ i ih =>
    rw [ckN, ckN]
    by_cases q : ok i = true
    · rw [if_pos q, if_pos (h i q)]; omega
    · rw [if_neg q]; omega
def two9 (s : Nat) : Bool := decide ((bcI (Int32.ofNat s)).toNatClampNeg ≤ 2)
theorem ck_37 {i : Nat} (hi : i ≤ 256) : ckN two9 i ≤ 37 := by
  have h : ckN two9 256 ≤ 37 := by decide +kernel
  exact Nat.le_trans (ck_mono hi) h
theorem ck_36 {i : Nat} (hi : i < 256) (h2 : two9 i = true) : ckN two9 i < 37 := by
  have h := ck_37 (i := i + 1) (by omega)
  rw [ckN, if_pos h2] at h
  omega
theorem fit_two {s : Nat} (h : fitB W nc T L f nr s = true) : two9 s = true := by
  unfold fitB at h
  rw [Bool.and_eq_true] at h
  exact h.1
abbrev Ta9 := (Nat → Nat) × Nat
def gpS (st : Ta9) (x : Nat) : Ta9 := (fun y => if y = x then st.1 x + 1 else st.1 y, if st.2 < st.1 x + 1 then st.1 x + 1 else st.2)
def gpJ (v : Nat → Nat) : Nat → Ta9
  | 0 => (fun _ => 0, 0)
  | j + 1 => gpS (gpJ v j) (v j)
def gpI (ok : Nat → Bool) (g : Nat → Nat) : Nat → Ta9
  | 0 => (fun _ => 0, 0)
  | i + 1 => if ok i = true then gpS (gpI ok g i) (g i) else gpI ok g i
theorem gp_eq : ∀ (i : Nat), (∀ s, s < i → ok s = true → v (ckN ok s) = g s) → gpI ok g i = gpJ v (ckN ok i) := by
  intro i
  induction i with
  | zero => intro _; rfl
  | succ i ih =>
    intro h
    rw [gpI, ckN, ih (fun s hs => h s (by omega))]
    by_cases q : ok i = true
    · rw [if_pos q, if_pos q, gpJ, h i (by omega) q]
    · rw [if_neg q, if_neg q, Nat.add_zero]
theorem gp_b : ∀ (j : Nat), (∀ y, (gpJ v j).1 y ≤ j) ∧ (gpJ v j).2 ≤ j := by
  intro j
  induction j with
  | zero => exact ⟨fun _ => Nat.le_refl _, Nat.le_refl _⟩
  | succ j ih =>
    have h1 := ih.1 (v j)
    have h2 := ih.2
    refine ⟨fun y => ?_, ?_⟩
    · show (if y = v j then (gpJ v j).1 (v j) + 1 else (gpJ v j).1 y) ≤ j + 1
      have h3 := ih.1 y
      split <;> omega
    · show (if (gpJ v j).2 < (gpJ v j).1 (v j) + 1 then (gpJ v j).1 (v j) + 1 else (gpJ v j).2) ≤ j + 1
      split <;> omega
theorem gp_bI (i : Nat) : (∀ y, (gpI ok g i).1 y ≤ i) ∧ (gpI ok g i).2 ≤ ckN ok i := by
  induction i with
  | zero => exact ⟨fun _ => Nat.le_refl _, Nat.le_refl _⟩
  | succ i ih =>
    have hck : ckN ok i ≤ i := by
      clear ih
      induction i with
      | zero => exact Nat.le_refl _
      | succ i ih => rw [ckN]; split <;> omega
    have key : (∀ y, (gpI ok g i).1 y ≤ ckN ok i) := by
      clear ih hck
      induction i with
      | zero => exact fun _ => Nat.le_refl _
      | succ i ih =>
        intro y
        rw [gpI, ckN]
        by_cases q : ok i = true
        · rw [if_pos q, if_pos q]
          show (if y = g i then (gpI ok g i).1 (g i) + 1 else (gpI ok g i).1 y) ≤ _
          have h1 := ih y
          have h2 := ih (g i)
          split <;> omega
        · rw [if_neg q, if_neg q]; exact ih y
    rw [gpI, ckN]
    by_cases q : ok i = true
    · rw [if_pos q, if_pos q]
      refine ⟨fun y => ?_, ?_⟩
      · show (if y = g i then (gpI ok g i).1 (g i) + 1 else (gpI ok g i).1 y) ≤ i + 1
        have h1 := key y
        have h2 := key (g i)
        split <;> omega
      · show (if (gpI ok g i).2 < (gpI ok g i).1 (g i) + 1 then (gpI ok g i).1 (g i) + 1 else (gpI ok g i).2) ≤ ckN ok i + 1
        have h2 := key (g i)
        have h3 := ih.2
        split <;> omega
    · rw [if_neg q, if_neg q]
      exact ⟨fun y => by have := ih.1 y; omega, ih.2⟩
/-- the grains as a number -/
def gN (W : Lw) (nc : Nat) (T : Tb) (L : List Row) (s t c : Nat) : Nat := (gB W nc T L s t c).toNatClampNeg
theorem gN_p {s t c : Nat} (hO : lwOK W) (hg : gdE nd nc W 0 (T, (fun _ => 0), 0, L)) (hc : c < nc) : gB W nc T L s t c = Int32.ofNat (gN W nc T L s t c) ∧ gN W nc T L s t c ≤ 200 := by
  obtain ⟨M9, hR9, -⟩ := gd_go hO t _ (gd_br (v := Int32.ofNat s) hg)
  obtain ⟨-, -, ⟨k, hk, h6⟩, -⟩ := hR9.2.2.2.2.2.2.1.2.2.2.2 c hc
  have h7 : gB W nc T L s t c = Int32.ofNat k := h6
  unfold gN
  rw [h7, i32_clampN (by omega)]
  exact ⟨rfl, by omega⟩
theorem c_gp13 {N c m : Nat} (hc : c < 5) (hm : m ≤ 37) (hv : ∀ j, j < m → M 62 (5 * j + c) = Int32.ofNat (v j) ∧ v j ≤ 200) : ∀ (n k j : Nat) (M' : Mm), M' 62 = M 62 → (∀ y, y < 201 → M' 63 y = Int32.ofNat ((gpJ v j).1 y)) → j + k = m → k < n → ∃ M2, f_X10_greatestPart_13 N n (Int32.ofNat c) (Int32.ofNat m) (Int32.ofNat (gpJ v j).2) (Int32.ofNat j) M' = some (Int32.ofNat (gpJ v m).2, M2) ∧ ∀ x, x ≠ 63 → M2 x = M' x := by
  intro n
  induction n with
  | zero => intro k j M' _ _ _ h; omega
  | succ n ih =>
    intro k j M' h62 h63 hik hk
    rw [f_X10_greatestPart_13]
    match k with
    | 0 =>
      rw [if_pos (i32_len (by omega) (by omega)), show j = m by omega]
      exact ⟨M', rfl, fun x _ => rfl⟩
    | k + 1 =>
      obtain ⟨e1, e2⟩ := hv j (by omega)
      have ei : Int32.ofNat j * 5 + Int32.ofNat c = Int32.ofNat (5 * j + c) := by
        rw [show Int32.ofNat j * 5 = Int32.ofNat (j * 5) from i32_mulN j 5, i32_addN, Nat.mul_comm]
      have hb := gp_b (v := v) j
      have hb1 := hb.1 (v j)
      rw [if_neg (i32_nle (by omega) (by omega)), if_neg (show ¬ (37 : Int32) ≤ Int32.ofNat j from i32_nle (n := 37) (by omega) (by omega)), ei]
      simp only [grd, lt, inb_ofNat (show 5 * j + c < 185 by omega) (by omega), if_true, i32_clampN (show 5 * j + c < 2147483648 by omega), h62, e1, if_neg (i32_nn (show v j < 2147483648 by omega)), if_neg (show ¬ (200 : Int32) < Int32.ofNat (v j) from i32_nlt (n := 200) e2 (by omega)), inb_ofNat (show v j < 201 by omega) (by omega), i32_clampN (show v j < 2147483648 by omega), h63 (v j) (by omega), i32_succ, wr_eq]
      have e9 : (if Int32.ofNat (gpJ v j).2 < Int32.ofNat ((gpJ v j).1 (v j) + 1) then Int32.ofNat ((gpJ v j).1 (v j) + 1) else Int32.ofNat (gpJ v j).2) = Int32.ofNat (gpJ v (j + 1)).2 := by
        show _ = Int32.ofNat (if (gpJ v j).2 < (gpJ v j).1 (v j) + 1 then (gpJ v j).1 (v j) + 1 else (gpJ v j).2)
        by_cases q : (gpJ v j).2 < (gpJ v j).1 (v j) + 1
        · rw [if_pos q, if_pos (i32_ltn q (by omega))]
        · rw [if_neg q, if_neg (i32_nlt (by omega) (by omega))]
      rw [e9]
      obtain ⟨M2, a1, a2⟩ := ih k (j + 1) (wr M' 63 (v j) (Int32.ofNat ((gpJ v j).1 (v j) + 1))) (by rw [wr_nrow (by decide)]; exact h62) (fun y hy => by
        show _ = Int32.ofNat (if y = v j then (gpJ v j).1 (v j) + 1 else (gpJ v j).1 y)
        by_cases q : y = v j
        · rw [if_pos q, q, wr_eq]
        · rw [if_neg q, wr_nk q]; exact h63 y hy) (by omega) (by omega)
      exact ⟨M2, a1, fun x hx => by rw [a2 x hx, wr_nrow hx]⟩
theorem c_gp {N c m : Nat} (hN : 300 < N) (hc : c < 5) (hm : m ≤ 37) (hv : ∀ j, j < m → M 62 (5 * j + c) = Int32.ofNat (v j) ∧ v j ≤ 200) : ∃ M2, f_X10_greatestPart N (Int32.ofNat c) (Int32.ofNat m) M = some (Int32.ofNat (gpJ v m).2, M2) ∧ ∀ x, x ≠ 63 → M2 x = M x := by
  obtain ⟨M1, a1, a2, a3⟩ := c_fill (N := N) (a0 := 63) (n0 := 201) (v := 0) (by decide) N 201 0 M (by omega) (by omega)
  have a1' : f_J7_fill_53178 N 63 201 0 M = some (0, M1) := by
    unfold f_J7_fill_53178 lt
    exact a1
  obtain ⟨M2, b1, b2⟩ := c_gp13 (N := N) (M := M) hc hm hv N m 0 M1 (a2 62 (by decide)) (fun y hy => by rw [a3 y, if_pos ⟨by omega, hy⟩]; rfl) (by omega) (by omega)
  refine ⟨M2, ?_, fun x hx => by rw [b2 x hx, a2 x hx]⟩
  unfold f_X10_greatestPart
  rw [a1']
  exact b1
end AK
