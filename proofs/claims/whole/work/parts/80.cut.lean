/-! The class cuts its text. -/
/-- which word stands between q and e: cs are the signs of the list of words that are left -/
def wo9 (tp : List Nat) (q e : Nat) : List Nat → Nat → Nat → Nat
  | [], _, _ => 302
  | c :: cs, w, s => if c = 32 then (if s = e then w else wo9 tp q e cs (w + 1) q) else wo9 tp q e cs w (if s < e ∧ tf tp s = c then s + 1 else 401)
def kd9 (tp : List Nat) (q : Nat) : Nat := if tp.length ≤ q then 303 else if isL9 (tf tp q) = true then (if rn isL9 tp q = q + 1 ∧ tf tp q < 103 then 300 else wo9 tp q (rn isL9 tp q) (wN 0) 256 q) else if isD9 (tf tp q) = true then (if rn isD9 tp q ≤ q + 3 then 301 else 302) else tf tp q
def vl9 (tp : List Nat) (q : Nat) : Nat := if tp.length ≤ q then 0 else if isL9 (tf tp q) = true then (if rn isL9 tp q = q + 1 ∧ tf tp q < 103 then tf tp q - 97 else 0) else if isD9 (tf tp q) = true then nv9 tp q q 0 else 0
def en9 (tp : List Nat) (q : Nat) : Nat := if tp.length ≤ q then q else if isL9 (tf tp q) = true then rn isL9 tp q else if isD9 (tf tp q) = true then rn isD9 tp q else q + 1
section CU
variable {tp : List Nat} {M : Mm} {p b : Nat}
def cT9 (tp : List Nat) (M : Mm) : Prop := M 1 1 = Int32.ofNat tp.length ∧ ∀ j, j < tp.length → M 2 j = Int32.ofNat (tf tp j)
theorem c_byte {N : Nat} (hT : tX tp) (h : cT9 tp M) (hp : p < tp.length) : f_X8_byteAt N (Int32.ofNat p) M = some (Int32.ofNat (tf tp p), M) := by
  have hl4 := hT.1
  unfold f_X8_byteAt
  rw [if_neg (i32_nn (by omega)), h.1, if_neg (i32_nle hp (by omega))]
  simp only [grd, inb_ofNat (show p < 400 by omega) (by omega), if_true, i32_clampN (show p < 2147483648 by omega), h.2 p hp]
def tS (t : Nat) (k b v : Int32) (M : Mm) : Mm := wr (wr (wr (wr M 4 t k) 5 t b) 6 t v) 3 3 (Int32.ofNat (t + 1))
theorem c_addT {N t : Nat} {k b v : Int32} (ht : t ≤ 400) (h : M 3 3 = Int32.ofNat t) : f_X9_adds N k b v M = some (0, tS t k b v M) := by
  unfold f_X9_adds tS
  rw [h, if_neg (show ¬ (400 : Int32) < Int32.ofNat t from i32_nlt (n := 400) ht (by omega))]
  simp only [grd, lt, inb_ofNat (show t < 401 by omega) (by omega), if_true, i32_clampN (show t < 2147483648 by omega), wr_nrow (show (3 : Nat) ≠ 4 by decide), wr_nrow (show (3 : Nat) ≠ 5 by decide), wr_nrow (show (3 : Nat) ≠ 6 by decide), h, i32_succ]
theorem c_cw2 {N q : Nat} (hT : tX tp) (h : cT9 tp M) : ∀ (n k p : Nat), tp.length - p = k → k < n → p ≤ tp.length → f_X9_cutsWord_2 N n (Int32.ofNat q) (Int32.ofNat p) M = f_X9_cutsWord_36 N (Int32.ofNat q) (Int32.ofNat (rn isL9 tp p)) M := by
  have hl4 := hT.1
  intro n
  induction n with
  | zero => intro k p _ h; omega
  | succ n ih =>
    intro k p hk hn hp
    rw [f_X9_cutsWord_2, h.1]
    by_cases c1 : p < tp.length
    · have b0 := hT.2 p
      rw [if_neg (i32_nle c1 (by omega))]
      simp only [c_byte hT h c1, bnd, i32_succ]
      by_cases c2 : tf tp p < 97
      · rw [if_pos (show _ < (97 : Int32) from i32_ltn (n := 97) c2 (by omega)), rn_n (fun h9 => by have := of_decide_eq_true h9.2; omega)]
      · rw [if_neg (show ¬ _ < (97 : Int32) from i32_nlt (k := 97) (by omega) (by omega))]
        by_cases c3 : 122 < tf tp p
        · rw [if_pos (show (122 : Int32) < _ from i32_ltn (k := 122) c3 (by omega)), rn_n (fun h9 => by have := of_decide_eq_true h9.2; omega)]
        · rw [if_neg (show ¬ (122 : Int32) < _ from i32_nlt (n := 122) (by omega) (by omega)), rn_p ⟨c1, decide_eq_true (by omega)⟩]
          exact ih _ (p + 1) rfl (by omega) (by omega)
    · rw [if_pos (i32_len (by omega) (by omega)), rn_n (fun h9 => c1 h9.1)]
theorem c_cn5 {N q : Nat} (hT : tX tp) (h : cT9 tp M) : ∀ (n k p v : Nat), tp.length - p = k → k < n → p ≤ tp.length → q ≤ 400 → f_X9_cutsNumber_5 N n (Int32.ofNat q) (Int32.ofNat p) (Int32.ofNat v) M = f_X9_cutsNumber_62 N (Int32.ofNat q) (Int32.ofNat (rn isD9 tp p)) (Int32.ofNat (nv9 tp q p v)) M := by
  have hl4 := hT.1
  intro n
  induction n with
  | zero => intro k p v _ h; omega
  | succ n ih =>
    intro k p v hk hn hp hq
    rw [f_X9_cutsNumber_5, h.1]
    by_cases c1 : p < tp.length
    · have b0 := hT.2 p
      have e3 : Int32.ofNat q + 3 = Int32.ofNat (q + 3) := i32_addN q 3
      rw [if_neg (i32_nle c1 (by omega)), e3]
      simp only [c_byte hT h c1, bnd, i32_succ, lt]
      by_cases c2 : tf tp p < 48
      · have hc : ¬ (p < tp.length ∧ isD9 (tf tp p) = true) := fun h9 => by have := of_decide_eq_true h9.2; omega
        rw [if_pos (show _ < (48 : Int32) from i32_ltn (n := 48) c2 (by omega)), rn_n hc, nv_n hc]
      · rw [if_neg (show ¬ _ < (48 : Int32) from i32_nlt (k := 48) (by omega) (by omega))]
        by_cases c3 : 57 < tf tp p
        · have hc : ¬ (p < tp.length ∧ isD9 (tf tp p) = true) := fun h9 => by have := of_decide_eq_true h9.2; omega
          rw [if_pos (show (57 : Int32) < _ from i32_ltn (k := 57) c3 (by omega)), rn_n hc, nv_n hc]
        · have hc : p < tp.length ∧ isD9 (tf tp p) = true := ⟨c1, decide_eq_true (by omega)⟩
          rw [if_neg (show ¬ (57 : Int32) < _ from i32_nlt (n := 57) (by omega) (by omega)), rn_p hc, nv_p hc]
          by_cases c4 : q + 3 ≤ p
          · rw [if_pos (i32_len c4 (by omega)), if_pos c4]
            exact ih _ (p + 1) v rfl (by omega) (by omega) hq
          · rw [if_neg (i32_nle (by omega) (by omega)), if_neg c4, show (10 : Int32) * Int32.ofNat v + Int32.ofNat (tf tp p) - 48 = Int32.ofNat (10 * v + (tf tp p - 48)) from by
              rw [show (10 : Int32) * Int32.ofNat v = Int32.ofNat (10 * v) from i32_mulN 10 v, i32_addN, show (48 : Int32) = Int32.ofNat 48 from rfl, i32_subN (by omega), show 10 * v + tf tp p - 48 = 10 * v + (tf tp p - 48) by omega]]
            exact ih _ (p + 1) _ rfl (by omega) (by omega) hq
    · have hc : ¬ (p < tp.length ∧ isD9 (tf tp p) = true) := fun h9 => c1 h9.1
      rw [if_pos (i32_len (by omega) (by omega)), rn_n hc, nv_n hc]
theorem c_wo11 {N q e : Nat} (hT : tX tp) (h : cT9 tp M) (he : e ≤ tp.length) : ∀ (n k j w s : Nat), j + k = (wN 0).length → k < n → s ≤ 401 → q ≤ 400 → f_X9_wordOf_11 N n (Int32.ofNat q) (Int32.ofNat e) (Int32.ofNat w) (Int32.ofNat s) (Int32.ofNat j) M = some (Int32.ofNat (wo9 tp q e ((wN 0).drop j) w s), M) := by
  have hl4 := hT.1
  have hw := wN_l 0 (by decide)
  intro n
  induction n with
  | zero => intro k j w s _ h; omega
  | succ n ih =>
    intro k j w s hjk hk hs hq
    rw [f_X9_wordOf_11, show f_slen 1000000 M = some (Int32.ofNat (wN 0).length, M) from s_len (i := 0) (by decide)]
    simp only [bnd]
    match k with
    | 0 =>
      rw [if_pos (i32_len (by omega) (by omega)), List.drop_of_length_le (by omega)]
      rfl
    | k + 1 =>
      have hj : j < (wN 0).length := by omega
      have hc := ((wN_p 0 (by decide)).2 j (by omega) hj).2
      have hd : (wN 0).drop j = (wN 0).getD j 0 :: (wN 0).drop (j + 1) := by
        rw [List.drop_eq_getElem_cons hj, List.getD_eq_getElem?_getD, List.getElem?_eq_getElem hj]; rfl
      rw [if_neg (i32_nle hj (by omega)), show f_schr 1000000 (Int32.ofNat j) M = some (Int32.ofNat ((wN 0).getD j 0), M) from s_chr (i := 0) (by decide) hj, hd, wo9]
      simp only [f_X9_wordOf_82, f_X9_wordOf_79, i32_succ]
      by_cases c1 : (wN 0).getD j 0 = 32
      · rw [if_pos c1, if_pos (by rw [c1]; rfl)]
        by_cases c2 : s = e
        · rw [if_pos c2, if_pos (by rw [c2])]
        · rw [if_neg c2, if_neg (fun h9 => c2 ((i32_eqN (by omega) (by omega)).mp h9))]
          exact ih k (j + 1) (w + 1) q (by omega) (by omega) (by omega) hq
      · rw [if_neg c1, if_neg (show ¬ Int32.ofNat _ = (32 : Int32) from fun h9 => c1 ((i32_eqN (b := 32) (by omega) (by omega)).mp h9))]
        by_cases c2 : s < e
        · rw [if_neg (i32_nle c2 (by omega)), c_byte hT h (show s < tp.length by omega)]
          simp only []
          have b0 := hT.2 s
          by_cases c3 : tf tp s = (wN 0).getD j 0
          · rw [if_pos (show Int32.ofNat (tf tp s) = Int32.ofNat ((wN 0).getD j 0) by rw [c3]), if_pos ⟨c2, c3⟩]
            exact ih k (j + 1) w (s + 1) (by omega) (by omega) (by omega) hq
          · rw [if_neg (show ¬ Int32.ofNat (tf tp s) = Int32.ofNat ((wN 0).getD j 0) from fun h9 => c3 ((i32_eqN (by omega) (by omega)).mp h9)), if_neg (fun h9 => c3 h9.2)]
            exact ih k (j + 1) w 401 (by omega) (by omega) (by omega) hq
        · rw [if_pos (i32_len (by omega) (by omega)), if_neg (fun h9 => c2 h9.1)]
          exact ih k (j + 1) w 401 (by omega) (by omega) (by omega) hq
end CU
