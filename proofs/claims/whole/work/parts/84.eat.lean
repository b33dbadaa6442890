/-! The class eats the things of its text. -/
section EA
variable {tp : List Nat} {M : Mm} {i m : Nat}
theorem c_kindT {N : Nat} (h : cCut tp (m + 1) M) (hm : m ≤ 400) (h4 : M 3 4 = Int32.ofNat i) (hi : i ≤ m) : f_X9_kind N M = some (Int32.ofNat (kd9 tp (ps9 tp i)), M) := by
  unfold f_X9_kind
  rw [h4, if_neg (i32_nn (by omega)), if_neg (show ¬ (400 : Int32) < Int32.ofNat i from i32_nlt (n := 400) (by omega) (by omega))]
  simp only [grd, inb_ofNat (show i < 401 by omega) (by omega), if_true, i32_clampN (show i < 2147483648 by omega), (h i (by omega)).1]
theorem c_beginT {N : Nat} (h : cCut tp (m + 1) M) (hm : m ≤ 400) (h4 : M 3 4 = Int32.ofNat i) (hi : i ≤ m) : f_X9_begin N M = some (Int32.ofNat (ps9 tp i), M) := by
  unfold f_X9_begin
  rw [h4, if_neg (i32_nn (by omega)), if_neg (show ¬ (400 : Int32) < Int32.ofNat i from i32_nlt (n := 400) (by omega) (by omega))]
  simp only [grd, inb_ofNat (show i < 401 by omega) (by omega), if_true, i32_clampN (show i < 2147483648 by omega), (h i (by omega)).2.1]
theorem c_eatT {N : Nat} {k : Int32} (h : cCut tp (m + 1) M) (hm : m ≤ 400) (h4 : M 3 4 = Int32.ofNat i) (hi : i ≤ m) : f_X9_eats N k M = if Int32.ofNat (kd9 tp (ps9 tp i)) = k then some (1, wr M 3 4 (Int32.ofNat (i + 1))) else some (0, M) := by
  unfold f_X9_eats
  rw [h4, if_neg (i32_nn (by omega)), if_neg (show ¬ (400 : Int32) < Int32.ofNat i from i32_nlt (n := 400) (by omega) (by omega))]
  simp only [grd, inb_ofNat (show i < 401 by omega) (by omega), if_true, i32_clampN (show i < 2147483648 by omega), (h i (by omega)).1, lt, i32_succ]
end EA
