/-! The class eats numbers and letters. -/
section EB
variable {tp : List Nat} {M : Mm} {i m : Nat}
theorem c_letT {N : Nat} (h : cCut tp (m + 1) M) (hm : m ≤ 400) (h4 : M 3 4 = Int32.ofNat i) (hi : i ≤ m) : f_X9_eatsLetter N M = if Int32.ofNat (kd9 tp (ps9 tp i)) = 300 then some (Int32.ofNat (vl9 tp (ps9 tp i)), wr M 3 4 (Int32.ofNat (i + 1))) else some (-1, M) := by
  unfold f_X9_eatsLetter
  rw [h4, if_neg (i32_nn (by omega)), if_neg (show ¬ (400 : Int32) < Int32.ofNat i from i32_nlt (n := 400) (by omega) (by omega))]
  simp only [grd, inb_ofNat (show i < 401 by omega) (by omega), if_true, i32_clampN (show i < 2147483648 by omega), (h i (by omega)).1, (h i (by omega)).2.2, lt, i32_succ]
theorem c_numT {N : Nat} {lo hi9 : Int32} (h : cCut tp (m + 1) M) (hm : m ≤ 400) (h4 : M 3 4 = Int32.ofNat i) (hi : i ≤ m) : f_X9_eatsNumber N lo hi9 M = if Int32.ofNat (kd9 tp (ps9 tp i)) = 301 then (if Int32.ofNat (vl9 tp (ps9 tp i)) < lo then some (-1, M) else if Int32.ofNat (vl9 tp (ps9 tp i)) ≤ hi9 then some (Int32.ofNat (vl9 tp (ps9 tp i)), wr M 3 4 (Int32.ofNat (i + 1))) else some (-1, M)) else some (-1, M) := by
  unfold f_X9_eatsNumber
  rw [h4, if_neg (i32_nn (by omega)), if_neg (show ¬ (400 : Int32) < Int32.ofNat i from i32_nlt (n := 400) (by omega) (by omega))]
  simp only [grd, inb_ofNat (show i < 401 by omega) (by omega), if_true, i32_clampN (show i < 2147483648 by omega), (h i (by omega)).1, (h i (by omega)).2.2, lt, i32_succ]
end EB
