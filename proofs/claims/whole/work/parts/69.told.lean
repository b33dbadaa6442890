/-! The rows told of, on the tape. -/
section TO
variable {nd nc : Nat} {T : Tb} {L : List Row} {K : LwS} {ms : List TbS} {im : Option (TbS × LwS)} {tp : List Nat} {ft : Int32} {W : Lw} {M : Mm} {A : TbS} {f : Nat → Nat}
def vRows (f : Nat → Nat) (nc : Nat) : Nat → Nat → Bool
  | 0, _ => true
  | k + 1, r => decide (f (3 * r) < nc ∧ f (3 * r + 1) ≤ 24) && vRows f nc k (r + 1)
def tf (tp : List Nat) (j : Nat) : Nat := tp.getD j 0
def vTold (tp : List Nat) (nc : Nat) : Bool := decide (tp.length % 3 = 0 ∧ tp.length ≤ 12) && vRows (tf tp) nc (tp.length / 3) 0
def cTold (f : Nat → Nat) (nr : Nat) (M : Mm) : Prop := M 0 16 = Int32.ofNat (3 * nr) ∧ ∀ j, j < 3 * nr → M 61 j = Int32.ofNat (f j)
def mTold (f : Nat → Nat) (nr : Nat) (M : Mm) : Prop := M 208 11 = Int32.ofNat (3 * nr) ∧ ∀ j, j < 3 * nr → M 214 j = sx (f j)
theorem vRows_all : ∀ (k r : Nat), vRows f nc k r = true → ∀ j, r ≤ j → j < r + k → f (3 * j) < nc ∧ f (3 * j + 1) ≤ 24 := by
  intro k
  induction k with
  | zero => intro r _ j h1 h2; omega
  | succ k ih =>
    intro r h j h1 h2
    rw [vRows, Bool.and_eq_true] at h
    by_cases e : j = r
    · subst e; exact of_decide_eq_true h.1
    · exact ih (r + 1) h.2 j (by omega) (by omega)
theorem sx_lo {b : Nat} (h : b < 128) : sx b = Int32.ofNat b := by
  have h9 : ∀ b, b < 128 → (Int32.ofNat b).toInt8.toInt32 = Int32.ofNat b := by decide +kernel
  exact h9 b h
theorem sx_hi {b : Nat} (h : 128 ≤ b) (h2 : b < 256) : sx b < 0 := by
  have h9 : ∀ b, b < 256 → 128 ≤ b → (Int32.ofNat b).toInt8.toInt32 < 0 := by decide +kernel
  exact h9 b h2 h
theorem sx_255 {b : Nat} (h2 : b < 256) : sx b &&& 255 = Int32.ofNat b := by
  have h9 : ∀ b, b < 256 → (Int32.ofNat b).toInt8.toInt32 &&& 255 = Int32.ofNat b := by decide +kernel
  exact h9 b h2
theorem c_tk65 {nr : Nat} {N : Nat} (h61 : ∀ j, j < 3 * nr → M 61 j = Int32.ofNat (f j)) (hf : ∀ j, j < 3 * nr → f j < 256) (h71 : M 7 1 = Int32.ofNat nc) (hnc : nc ≤ 5) (hnr : nr ≤ 4) : ∀ (n k r : Nat), r + k = nr → k < n → f_X10_takesBribeRows_65 N n (Int32.ofNat (3 * nr)) (Int32.ofNat (3 * r)) M = if vRows f nc k r = true then some (1, wr M 0 16 (Int32.ofNat (3 * nr))) else some (0, M) := by
  intro n
  induction n with
  | zero => intro k r _ h; omega
  | succ n ih =>
    intro k r hik hk
    rw [f_X10_takesBribeRows_65, show Int32.ofNat (3 * r) + 2 = Int32.ofNat (3 * r + 2) from i32_addN _ 2, show Int32.ofNat (3 * r) + 1 = Int32.ofNat (3 * r + 1) from i32_addN _ 1, show Int32.ofNat (3 * r) + 3 = Int32.ofNat (3 * (r + 1)) from i32_addN _ 3]
    match k with
    | 0 =>
      rw [if_pos (i32_len (by omega) (by omega))]
      rfl
    | k + 1 =>
      rw [if_neg (i32_nle (by omega) (by omega))]
      simp only [grd, inb_ofNat (show 3 * r < 12 by omega) (by omega), inb_ofNat (show 3 * r + 1 < 12 by omega) (by omega), if_true, i32_clampN (show 3 * r < 2147483648 by omega), i32_clampN (show 3 * r + 1 < 2147483648 by omega), h71, h61 (3 * r) (by omega), h61 (3 * r + 1) (by omega)]
      have b0 := hf (3 * r) (by omega)
      have b1 := hf (3 * r + 1) (by omega)
      rw [vRows]
      by_cases q1 : f (3 * r) < nc
      · rw [if_neg (i32_nle q1 (by omega))]
        by_cases q2 : f (3 * r + 1) ≤ 24
        · rw [if_pos (show Int32.ofNat (f (3 * r + 1)) ≤ (24 : Int32) from i32_len (n := 24) q2 (by omega)), decide_eq_true ⟨q1, q2⟩, Bool.true_and]
          exact ih k (r + 1) (by omega) (by omega)
        · rw [if_neg (show ¬ Int32.ofNat (f (3 * r + 1)) ≤ (24 : Int32) from i32_nle (k := 24) (by omega) (by omega)), decide_eq_false (fun h => q2 h.2), Bool.false_and, if_neg (by decide)]
      · rw [if_pos (i32_len (by omega) (by omega)), decide_eq_false (fun h => q1 h.1), Bool.false_and, if_neg (by decide)]
theorem c_tk37 {n0 : Nat} {N : Nat} (hn : n0 ≤ 12) : ∀ (n k i : Nat) (M : Mm), i + k = n0 → k < n → ∃ M', f_X10_takesBribeRows_37 N n (Int32.ofNat n0) (Int32.ofNat i) M = f_X10_takesBribeRows_65 N N (Int32.ofNat n0) 0 M' ∧ (∀ j, i ≤ j → j < n0 → M' 61 j = M 2 j) ∧ (∀ j, j < i → M' 61 j = M 61 j) ∧ ∀ x, x ≠ 61 → M' x = M x := by
  intro n
  induction n with
  | zero => intro k i M _ h; omega
  | succ n ih =>
    intro k i M hik hk
    rw [f_X10_takesBribeRows_37]
    match k with
    | 0 =>
      rw [if_pos (i32_len (by omega) (by omega))]
      exact ⟨M, rfl, fun j h1 h2 => by omega, fun j _ => rfl, fun x _ => rfl⟩
    | k + 1 =>
      rw [if_neg (i32_nle (by omega) (by omega))]
      simp only [grd, inb_ofNat (show i < 12 by omega) (by omega), inb_ofNat (show i < 400 by omega) (by omega), if_true, i32_clampN (show i < 2147483648 by omega), lt, i32_succ]
      obtain ⟨M', a1, a2, a3, a4⟩ := ih k (i + 1) (wr M 61 i (M 2 i)) (by omega) (by omega)
      refine ⟨M', a1, fun j h1 h2 => ?_, fun j hj => ?_, fun x hx => by rw [a4 x hx, wr_nrow hx]⟩
      · by_cases e : j = i
        · subst e; rw [a3 _ (by omega), wr_eq]
        · rw [a2 j (by omega) h2, wr_nrow (by decide)]
      · rw [a3 j (by omega), wr_nk (by omega)]
theorem tf_lt (h : cTape tp M) (j : Nat) : tf tp j < 256 := by
  unfold tf
  rw [List.getD_eq_getElem?_getD]
  by_cases q : j < tp.length
  · rw [List.getElem?_eq_getElem q]; exact (h.2.2 j q).1
  · rw [List.getElem?_eq_none (by omega)]; exact (by decide : (0 : Nat) < 256)
theorem tf_eq (j : Nat) (h : j < tp.length) : tf tp j = tp[j]'h := by
  unfold tf
  rw [List.getD_eq_getElem?_getD, List.getElem?_eq_getElem h]; rfl
theorem c_takes (h : cI A K ms im tp ft M) (h71 : M 7 1 = Int32.ofNat nc) (hnc : nc ≤ 5) : ∃ M1, f_X10_takesBribeRows 20000 M = some (if vTold tp nc = true then 1 else 0, M1) ∧ cI A K ms im [] ft M1 ∧ (∀ x, 208 ≤ x → M1 x = M x) ∧ (vTold tp nc = true → cTold (tf tp) (tp.length / 3) M1) ∧ M1 7 = M 7 := by
  have hT := h.2.2.2.2.2.1
  have hI0 : ∀ M1 : Mm, M1 1 1 = 0 → (∀ j, j ≠ 16 → M1 0 j = M 0 j) → (∀ x, x ≠ 0 → x ≠ 1 → x ≠ 61 → M1 x = M x) → cI A K ms im [] ft M1 := fun M1 h1 h2 h3 => by
    obtain ⟨a1, a2, a3, a4, a5, a6, a7, a8⟩ := h
    obtain ⟨Mz, hMz⟩ : ∃ Mz : Mm, Mz = (fun x => if x = 1 then M 1 else M1 x) := ⟨_, rfl⟩
    have hz1 : Mz 1 = M 1 := by rw [hMz]; exact if_pos rfl
    have hzx : ∀ x, x ≠ 1 → Mz x = M1 x := fun x hx => by rw [hMz]; exact if_neg hx
    have hcz : cI A K ms im tp ft Mz := cI.fr (M := M) ⟨a1, a2, a3, a4, a5, a6, a7, a8⟩ (fun x _ hx => by
      unfold sc9 at hx
      by_cases e : x = 1
      · subst e; exact hz1
      · rw [hzx x e, h3 x (by omega) e (by omega)]) (fun j hj => by rw [hzx 0 (by decide)]; exact h2 j hj) (by
      have : slc 16 Mz = slc 16 M := slc_ex (fun i hi => by rw [hzx _ (by omega), h3 _ (by omega) (by omega) (by omega)])
      rw [this]; exact a8)
    obtain ⟨b1, b2, ⟨b3, b3'⟩, b4, b5, b6, b7, b8⟩ := hcz
    have hzs : ∀ a, 2 ≤ a → slc a M1 = slc a Mz := fun a ha => slc_ex (fun i hi => (hzx _ (by omega)).symm)
    refine ⟨by rw [hzs 7 (by omega)]; exact b1, b2.frame (hzx _ (by omega)).symm (hzx _ (by omega)).symm, ⟨b3.frame (fun i hi => (hzx _ (by omega)).symm), by rw [← hzx 25 (by omega)]; exact b3'⟩, b4.fr (fun x h1 h2 => (hzx x (by omega)).symm) (by rw [hzx 0 (by omega)]) (by rw [hzx 0 (by omega)]), b5.fr (fun x h1 h2 => (hzx x (by omega)).symm) (by rw [hzx 0 (by omega)]), ⟨by simp, h1, fun j hj => by simp at hj⟩, by rw [← hzx 0 (by omega)]; exact b7, by rw [hzs 16 (by omega)]; exact b8⟩
  unfold f_X10_takesBribeRows
  rw [hT.2.1]
  simp only [lt]
  have hl : tp.length ≤ 400 := hT.1
  have fail : (vTold tp nc = false) → ∃ M1, some ((0 : Int32), wr (wr M 1 1 0) 0 16 0) = some (if vTold tp nc = true then 1 else 0, M1) ∧ cI A K ms im [] ft M1 ∧ (∀ x, 208 ≤ x → M1 x = M x) ∧ (vTold tp nc = true → cTold (tf tp) (tp.length / 3) M1) ∧ M1 7 = M 7 := fun hv => by
    rw [hv, if_neg (by decide)]
    exact ⟨_, rfl, hI0 _ (by rw [wr_nrow (by decide), wr_eq]) (fun j hj => by rw [wr_nk hj, wr_nrow (by decide)]) (fun x h1 h2 _ => by rw [wr_nrow h1, wr_nrow h2]), fun x hx => by rw [wr_nrow (by omega), wr_nrow (by omega)], fun h9 => (nomatch h9), by rw [wr_nrow (by decide), wr_nrow (by decide)]⟩
  by_cases q1 : 12 < tp.length
  · rw [if_pos (show (12 : Int32) < Int32.ofNat tp.length from i32_ltn (k := 12) q1 (by omega))]
    exact fail (by unfold vTold; rw [decide_eq_false (by omega), Bool.false_and])
  · rw [if_neg (show ¬ (12 : Int32) < Int32.ofNat tp.length from i32_nlt (n := 12) (by omega) (by omega)), show Int32.ofNat tp.length - Int32.ofNat tp.length / 3 * 3 = Int32.ofNat (tp.length % 3) from i32_remN (m := 3) (by omega) (by omega)]
    by_cases q2 : tp.length % 3 = 0
    · rw [q2, if_pos (show Int32.ofNat 0 = 0 from rfl)]
      obtain ⟨M2, a1, a2, a3, a4⟩ := c_tk37 (N := 20000) (n0 := tp.length) (by omega) 20000 tp.length 0 (wr (wr M 1 1 0) 0 16 0) (by omega) (by omega)
      have e3 : tp.length = 3 * (tp.length / 3) := by omega
      have b := c_tk65 (N := 20000) (M := M2) (f := tf tp) (nr := tp.length / 3) (nc := nc) (fun j hj => by
        rw [a2 j (by omega) (by omega), wr_nrow (by decide), wr_nrow (by decide), (hT.2.2 j (by omega)).2, tf_eq j (by omega)]) (fun j _ => tf_lt hT j) (by rw [a4 7 (by decide), wr_nrow (by decide), wr_nrow (by decide)]; exact h71) hnc (by omega) 20000 (tp.length / 3) 0 (by omega) (by omega)
      rw [← e3] at b
      rw [show (0 : Int32) = Int32.ofNat 0 from rfl] at a1 ⊢
      rw [a1]
      rw [show Int32.ofNat (3 * 0) = Int32.ofNat 0 from rfl] at b
      rw [b]
      have hv : vTold tp nc = vRows (tf tp) nc (tp.length / 3) 0 := by unfold vTold; rw [decide_eq_true ⟨q2, by omega⟩, Bool.true_and]
      rw [hv]
      by_cases q3 : vRows (tf tp) nc (tp.length / 3) 0 = true
      · rw [if_pos q3, if_pos q3]
        refine ⟨_, rfl, hI0 _ (by rw [wr_nrow (by decide), a4 1 (by decide), wr_nrow (by decide), wr_eq]) (fun j hj => by rw [wr_nk hj, a4 0 (by decide), wr_nk hj, wr_nrow (by decide)]) (fun x h1 h2 h3 => by rw [wr_nrow h1, a4 x h3, wr_nrow h1, wr_nrow h2]), fun x hx => by rw [wr_nrow (by omega), a4 x (by omega), wr_nrow (by omega), wr_nrow (by omega)], fun _ => ⟨by rw [wr_eq, ← e3], fun j hj => ?_⟩, by rw [wr_nrow (by decide), a4 7 (by decide), wr_nrow (by decide), wr_nrow (by decide)]⟩
        rw [wr_nrow (by decide), a2 j (by omega) (by omega), wr_nrow (by decide), wr_nrow (by decide), (hT.2.2 j (by omega)).2, tf_eq j (by omega)]
      · rw [if_neg q3, if_neg q3]
        refine ⟨_, rfl, hI0 _ (by rw [a4 1 (by decide), wr_nrow (by decide), wr_eq]) (fun j hj => by rw [a4 0 (by decide), wr_nk hj, wr_nrow (by decide)]) (fun x h1 h2 h3 => by rw [a4 x h3, wr_nrow h1, wr_nrow h2]), fun x hx => by rw [a4 x (by omega), wr_nrow (by omega), wr_nrow (by omega)], fun h9 => absurd h9 q3, by rw [a4 7 (by decide), wr_nrow (by decide), wr_nrow (by decide)]⟩
    · rw [if_neg (show ¬ Int32.ofNat (tp.length % 3) = (0 : Int32) from fun h9 => q2 ((i32_eqN (b := 0) (by omega) (by omega)).mp h9))]
      exact fail (by unfold vTold; rw [decide_eq_false (by omega), Bool.false_and])
end TO
