/-! The tape; the log's rows. -/
theorem hb_shl {x : Int32} {s i : Nat} (hs : s < 32) (hi : i < 32) : hb9 (x <<< (Int32.ofNat s &&& 31)) i = (!(decide (i < s)) && hb9 x (i - s)) := by
  unfold hb9
  rw [Int32.toBitVec_shiftLeft, sh_bv hs, BitVec.shiftLeft_eq', BitVec.toNat_ofNat, Nat.mod_eq_of_lt (by omega), BitVec.getLsbD_shiftLeft, decide_eq_true hi, Bool.true_and]
theorem hb_shru {x : Int32} {s i : Nat} (hs : s < 32) : hb9 ((x.toUInt32 >>> ((Int32.ofNat s).toUInt32 &&& Int32.toUInt32 31)).toInt32) i = hb9 x (s + i) := by
  have h : ∀ s, s < 32 → ((Int32.ofNat s).toUInt32 &&& Int32.toUInt32 31).toBitVec % 32 = BitVec.ofNat 32 s := by decide +kernel
  show ((x.toUInt32 >>> ((Int32.ofNat s).toUInt32 &&& Int32.toUInt32 31)).toBitVec).getLsbD i = _
  rw [UInt32.toBitVec_shiftRight]
  show (x.toUInt32.toBitVec >>> (((Int32.ofNat s).toUInt32 &&& Int32.toUInt32 31).toBitVec % 32)).getLsbD i = _
  rw [h s hs, BitVec.ushiftRight_eq', BitVec.toNat_ofNat, Nat.mod_eq_of_lt (by omega), BitVec.getLsbD_ushiftRight]
  rfl
theorem hb_shr {x : Int32} {s i : Nat} (hs : s < 32) (hi : s + i < 32) : hb9 (x >>> (Int32.ofNat s &&& 31)) i = hb9 x (s + i) := by
  unfold hb9
  rw [Int32.toBitVec_shiftRight, sh_bv hs]
  show (x.toBitVec.sshiftRight (BitVec.ofNat 32 s).toNat).getLsbD i = _
  rw [BitVec.toNat_ofNat, Nat.mod_eq_of_lt (by omega), BitVec.getLsbD_sshiftRight]
  simp [hi, show i < 32 by omega]
theorem hb_255 {i : Nat} (hi : i < 32) : hb9 255 i = decide (i < 8) := by
  have h : ∀ i, i < 32 → hb9 255 i = decide (i < 8) := by decide
  exact h i hi
theorem hb_15 {i : Nat} (hi : i < 32) : hb9 15 i = decide (i < 4) := by
  have h : ∀ i, i < 32 → hb9 15 i = decide (i < 4) := by decide
  exact h i hi
theorem hb_7 {i : Nat} (hi : i < 32) : hb9 7 i = decide (i < 3) := by
  have h : ∀ i, i < 32 → hb9 7 i = decide (i < 3) := by decide
  exact h i hi
theorem hb_ge {x : Int32} {i : Nat} (hi : 32 ≤ i) : hb9 x i = false := BitVec.getLsbD_of_ge _ _ hi
section PK
variable {d c e f p : Nat}
theorem hb_pk (hd : d < 2 ^ 14) (hc : c < 2 ^ 4) (he : e < 2 ^ 3) (hf : f < 2 ^ 3) (hp : p < 2 ^ 8) {i : Nat} (hi : i < 32) : hb9 (pk (Int32.ofNat d, Int32.ofNat c, Int32.ofNat e, Int32.ofNat f, Int32.ofNat p)) i = if i < 8 then hb9 (Int32.ofNat p) i else if i < 11 then hb9 (Int32.ofNat f) (i - 8) else if i < 14 then hb9 (Int32.ofNat e) (i - 11) else if i < 18 then hb9 (Int32.ofNat c) (i - 14) else hb9 (Int32.ofNat d) (i - 18) := by
  unfold pk
  dsimp only
  rw [show (18 : Int32) = Int32.ofNat 18 from rfl, show (14 : Int32) = Int32.ofNat 14 from rfl, show (11 : Int32) = Int32.ofNat 11 from rfl, show (8 : Int32) = Int32.ofNat 8 from rfl]
  rw [hB_or, hB_or, hB_or, hB_or, hb_shl (by omega) hi, hb_shl (by omega) hi, hb_shl (by omega) hi, hb_shl (by omega) hi]
  by_cases h8 : i < 8
  · rw [if_pos h8, decide_eq_true h8, decide_eq_true (show i < 11 by omega), decide_eq_true (show i < 14 by omega), decide_eq_true (show i < 18 by omega)]; simp
  · rw [if_neg h8, decide_eq_false h8, hB_lt (k := p) (n := 8) (by omega) hp (by omega)]
    by_cases h11 : i < 11
    · rw [if_pos h11, decide_eq_true h11, decide_eq_true (show i < 14 by omega), decide_eq_true (show i < 18 by omega)]; simp
    · rw [if_neg h11, decide_eq_false h11, hB_lt (k := f) (n := 3) (by omega) hf (by omega)]
      by_cases h14 : i < 14
      · rw [if_pos h14, decide_eq_true h14, decide_eq_true (show i < 18 by omega)]; simp
      · rw [if_neg h14, decide_eq_false h14, hB_lt (k := e) (n := 3) (by omega) he (by omega)]
        by_cases h18 : i < 18
        · rw [if_pos h18, decide_eq_true h18]; simp
        · rw [if_neg h18, decide_eq_false h18, hB_lt (k := c) (n := 4) (by omega) hc (by omega)]; simp
theorem pk_0 (hd : d < 2 ^ 14) (hc : c < 2 ^ 4) (he : e < 2 ^ 3) (hf : f < 2 ^ 3) (hp : p < 2 ^ 8) : ((pk (Int32.ofNat d, Int32.ofNat c, Int32.ofNat e, Int32.ofNat f, Int32.ofNat p)).toUInt32 >>> (((18 : Int32)).toUInt32 &&& Int32.toUInt32 31)).toInt32 = Int32.ofNat d := by
  apply hB_ext
  intro i hi
  rw [show (18 : Int32) = Int32.ofNat 18 from rfl, hb_shru (by omega)]
  by_cases h : 18 + i < 32
  · rw [hb_pk hd hc he hf hp h, if_neg (by omega), if_neg (by omega), if_neg (by omega), if_neg (by omega)]
    congr 1; omega
  · rw [hb_ge (by omega), hB_lt (k := d) (n := 14) (by omega) hd (by omega)]
theorem pk_1 (hd : d < 2 ^ 14) (hc : c < 2 ^ 4) (he : e < 2 ^ 3) (hf : f < 2 ^ 3) (hp : p < 2 ^ 8) : (((pk (Int32.ofNat d, Int32.ofNat c, Int32.ofNat e, Int32.ofNat f, Int32.ofNat p)).toUInt32 >>> (((14 : Int32)).toUInt32 &&& Int32.toUInt32 31)).toInt32 &&& (15 : Int32)) = Int32.ofNat c := by
  apply hB_ext
  intro i hi
  rw [hB_and, hb_15 hi, show (14 : Int32) = Int32.ofNat 14 from rfl, hb_shru (by omega)]
  by_cases h : i < 4
  · rw [hb_pk hd hc he hf hp (by omega), if_neg (by omega), if_neg (by omega), if_neg (by omega), if_pos (by omega), decide_eq_true h, Bool.and_true]
    congr 1; omega
  · rw [decide_eq_false h, Bool.and_false, hB_lt (k := c) (n := 4) (by omega) hc (by omega)]
theorem pk_2 (hd : d < 2 ^ 14) (hc : c < 2 ^ 4) (he : e < 2 ^ 3) (hf : f < 2 ^ 3) (hp : p < 2 ^ 8) : (((pk (Int32.ofNat d, Int32.ofNat c, Int32.ofNat e, Int32.ofNat f, Int32.ofNat p)).toUInt32 >>> (((11 : Int32)).toUInt32 &&& Int32.toUInt32 31)).toInt32 &&& (7 : Int32)) = Int32.ofNat e := by
  apply hB_ext
  intro i hi
  rw [hB_and, hb_7 hi, show (11 : Int32) = Int32.ofNat 11 from rfl, hb_shru (by omega)]
  by_cases h : i < 3
  · rw [hb_pk hd hc he hf hp (by omega), if_neg (by omega), if_neg (by omega), if_pos (by omega), decide_eq_true h, Bool.and_true]
    congr 1; omega
  · rw [decide_eq_false h, Bool.and_false, hB_lt (k := e) (n := 3) (by omega) he (by omega)]
theorem pk_3 (hd : d < 2 ^ 14) (hc : c < 2 ^ 4) (he : e < 2 ^ 3) (hf : f < 2 ^ 3) (hp : p < 2 ^ 8) : (((pk (Int32.ofNat d, Int32.ofNat c, Int32.ofNat e, Int32.ofNat f, Int32.ofNat p)).toUInt32 >>> (((8 : Int32)).toUInt32 &&& Int32.toUInt32 31)).toInt32 &&& (7 : Int32)) = Int32.ofNat f := by
  apply hB_ext
  intro i hi
  rw [hB_and, hb_7 hi, show (8 : Int32) = Int32.ofNat 8 from rfl, hb_shru (by omega)]
  by_cases h : i < 3
  · rw [hb_pk hd hc he hf hp (by omega), if_neg (by omega), if_pos (by omega), decide_eq_true h, Bool.and_true]
    congr 1; omega
  · rw [decide_eq_false h, Bool.and_false, hB_lt (k := f) (n := 3) (by omega) hf (by omega)]
theorem pk_4 (hd : d < 2 ^ 14) (hc : c < 2 ^ 4) (he : e < 2 ^ 3) (hf : f < 2 ^ 3) (hp : p < 2 ^ 8) : ((pk (Int32.ofNat d, Int32.ofNat c, Int32.ofNat e, Int32.ofNat f, Int32.ofNat p)) &&& (255 : Int32)) = Int32.ofNat p := by
  apply hB_ext
  intro i hi
  rw [hB_and, hb_255 hi]
  by_cases h : i < 8
  · rw [hb_pk hd hc he hf hp (by omega), if_pos (by omega), decide_eq_true h, Bool.and_true]
  · rw [decide_eq_false h, Bool.and_false, hB_lt (k := p) (n := 8) (by omega) hp (by omega)]
end PK
def rowF (r : Row) (w : Nat) : Int32 := match w with
  | 0 => r.1
  | 1 => r.2.1
  | 2 => r.2.2.1
  | 3 => r.2.2.2.1
  | _ => r.2.2.2.2
theorem c_tells {N : Nat} {L : List Row} {M : Mm} (h : cLog 37 L M) (hl : lgOK L) {k w : Nat} (hk : k < L.length) (hw : w < 5) : f_X4_tells N 37 (Int32.ofNat k) (Int32.ofNat w) M = some (rowF (L[k]'hk) w, M) := by
  obtain ⟨g1, g2, nx, g3, g4, g5⟩ := h
  have e1 : Int32.ofNat nx - 1 - Int32.ofNat k + 120 = Int32.ofNat (nx + 119 - k) := by
    have h9 : Int32.ofNat (nx + 119 - k) + Int32.ofNat k = Int32.ofNat nx + 119 := by
      show _ = Int32.ofNat nx + Int32.ofNat 119
      rw [i32_addN, i32_addN]; congr 1; omega
    generalize Int32.ofNat (nx + 119 - k) = a at h9
    generalize Int32.ofNat k = b at h9
    generalize Int32.ofNat nx = c at h9
    grind
  have e2 : Int32.ofNat (nx + 119 - k) - Int32.ofNat (nx + 119 - k) / 60 * 60 = Int32.ofNat ((nx + 119 - k) % 60) := i32_remN (m := 60) (by omega) (by omega)
  obtain ⟨⟨d9, hd, ed⟩, ⟨c9, hc, ec⟩, ⟨e9, he, ee⟩, ⟨f9, hf, ef⟩, ⟨p9, hp, ep⟩⟩ := hl _ (List.getElem_mem hk)
  have er : (L[k]'hk) = (Int32.ofNat d9, Int32.ofNat c9, Int32.ofNat e9, Int32.ofNat f9, Int32.ofNat p9) := by
    rw [← ed, ← ec, ← ee, ← ef, ← ep]
  unfold f_X4_tells
  rw [if_neg (i32_nn (by omega)), g2, if_pos (i32_ltn hk (by omega)), g4, e1, e2]
  simp only [grd, inb_ofNat (show (nx + 119 - k) % 60 < 60 from Nat.mod_lt _ (by decide)) (by omega), if_true, lt, i32_clampN (show (nx + 119 - k) % 60 < 2147483648 by omega), g5 k hk]
  rw [er]
  match w, hw with
  | 0, _ => rw [if_pos (show (Int32.ofNat 0 : Int32) = 0 from rfl), pk_0 (by omega) (by omega) (by omega) (by omega) (by omega)]; rfl
  | 1, _ => rw [if_neg (by decide), if_pos (show (Int32.ofNat 1 : Int32) = 1 from rfl), pk_1 (by omega) (by omega) (by omega) (by omega) (by omega)]; rfl
  | 2, _ => rw [if_neg (by decide), if_neg (by decide), if_pos (show (Int32.ofNat 2 : Int32) = 2 from rfl), pk_2 (by omega) (by omega) (by omega) (by omega) (by omega)]; rfl
  | 3, _ => rw [if_neg (by decide), if_neg (by decide), if_neg (by decide), if_pos (show (Int32.ofNat 3 : Int32) = 3 from rfl), pk_3 (by omega) (by omega) (by omega) (by omega) (by omega)]; rfl
  | 4, _ => rw [if_neg (by decide), if_neg (by decide), if_neg (by decide), if_neg (by decide), pk_4 (by omega) (by omega) (by omega) (by omega) (by omega)]; rfl
theorem m_ofLog {N nd nc : Nat} {T : Tb} {L : List Row} {M : Mm} (hR : RW nd nc T L (M 209)) {k w : Nat} (hk : k < L.length) (hw : w < 5) : f_X11_ofLog N (Int32.ofNat k) (Int32.ofNat w) M = some (rowF (L[k]'hk) w, M) := by
  obtain ⟨a1, a2, a3⟩ := hR.2.2.2.2.2.1
  obtain ⟨b0, b1, b2, b3, b4⟩ := a3 k hk
  have e : ((109 : Int32) + (5 : Int32) * Int32.ofNat k) + Int32.ofNat w = Int32.ofNat (109 + 5 * k + w) := by
    show Int32.ofNat 109 + Int32.ofNat 5 * Int32.ofNat k + _ = _
    rw [i32_mulN, i32_addN, i32_addN]
  unfold f_X11_ofLog
  rw [e]
  simp only [grd, inb_ofNat (show 109 + 5 * k + w < 2107 by omega) (by omega), if_true, i32_clampN (show 109 + 5 * k + w < 2147483648 by omega)]
  match w, hw with
  | 0, _ => rw [show 109 + 5 * k + 0 = 109 + 5 * k from rfl, b0]; rfl
  | 1, _ => rw [show 109 + 5 * k + 1 = 110 + 5 * k from by omega, b1]; rfl
  | 2, _ => rw [show 109 + 5 * k + 2 = 111 + 5 * k from by omega, b2]; rfl
  | 3, _ => rw [show 109 + 5 * k + 3 = 112 + 5 * k from by omega, b3]; rfl
  | 4, _ => rw [show 109 + 5 * k + 4 = 113 + 5 * k from by omega, b4]; rfl
theorem P_log {M : Mm} (h : InvM M) (v1 v2 : Int32) : Kd (fun M => f_L_log 20000 v1 v2 M) (fun M => f_X11_log 20000 v1 v2 M) M := by
  obtain ⟨nd, nc, T, L, K, ms, im, tp, ft, h, hR, hs, hz, h70, h71, hnd, hnc⟩ := Ix h
  have hL := h.1.2.1
  have h60 : L.length ≤ 60 := hL.1
  rcases i32_rng v2 (n := 5) (by omega) with ⟨w, hw, rfl⟩ | hb2
  · have hwh : f_X10_needsWhat 20000 (Int32.ofNat w) 4 M = some (.inl 0, M) := c_nW (m := 4) (by omega) (by omega)
    have hin : f_X11_in 20000 (Int32.ofNat w) 0 4 = fun M => some (1, M) := by funext M9; exact m_in (lo := 0) (m := 4) (by omega) (by omega) (by omega)
    rcases i32_rng v1 (n := L.length) (by omega) with ⟨k, hk, rfl⟩ | hb
    · refine Kr (F := fun M => f_X10_log 20000 (Int32.ofNat k) (Int32.ofNat w) M) (r := rowF (L[k]'hk) w) (M1 := M) (fun M => rfl) h ?_ hz (fun M' hm => ⟨wr M' 208 0 0, ?_, mQ.t208, wr_eq⟩)
      · simp only [f_X10_log, hwh, bnx, c_tells hL h.2.2.2.1.1 hk hw, bnd]
      · have hin2 : f_X11_in 20000 (Int32.ofNat k) 0 (Int32.ofNat L.length - 1) (wr M' 208 0 0) = some (1, wr M' 208 0 0) := by
          unfold f_X11_in
          rw [if_neg (i32_nn (by omega)), if_neg (fun h9 => absurd ((i32_m1 (by omega)).mp h9) (i32_nle hk (by omega)))]
        simp only [f_X11_log, f_X11_log_20, lt, hin, bnd, show ¬ (1 : Int32) = 0 from by decide, if_false, m_th0, if_true, grd, show inb (10 : Int32) 2107 = true from by decide, show (10 : Int32).toNatClampNeg = 10 from by decide, (mW hm).2.2.2.2.2.1.2.1, hin2, m_ofLog (mW hm) hk hw]
    · refine Kr (F := fun M => f_X10_log 20000 v1 (Int32.ofNat w) M) (r := -1) (M1 := M) (fun M => rfl) h ?_ hz (fun M' hm => ⟨wr M' 208 0 0, ?_, mQ.t208, wr_eq⟩)
      · have ht : f_X4_tells 20000 37 v1 (Int32.ofNat w) M = some (-1, M) := by
          unfold f_X4_tells
          rw [hL.2.1]
          rcases hb with hb | hb
          · rw [if_pos hb]
          · rw [if_neg (Int32.not_lt.mpr hb)]; split <;> rfl
        simp only [f_X10_log, hwh, bnx, ht, bnd]
      · have hin2 : f_X11_in 20000 v1 0 (Int32.ofNat L.length - 1) (wr M' 208 0 0) = some (0, wr M' 208 0 0) := by
          unfold f_X11_in f_X11_in_14
          rcases hb with hb | hb
          · rw [if_pos hb]
          · rw [if_pos ((i32_m1 (by omega)).mpr hb)]; split <;> rfl
        simp only [f_X11_log, f_X11_log_20, lt, hin, bnd, show ¬ (1 : Int32) = 0 from by decide, if_false, m_th0, if_true, grd, show inb (10 : Int32) 2107 = true from by decide, show (10 : Int32).toNatClampNeg = 10 from by decide, (mW hm).2.2.2.2.2.1.2.1, hin2]
  · refine Kx (F := fun M => f_X10_log 20000 v1 v2 M) (e := "java/util/NoSuchElementException") (code := 1) (M1 := M) (fun M => rfl) h ?_ hz (fun M => by simp) (by decide) (fun M' hm => ⟨wr (wr M' 208 0 0) 208 0 1, ?_, mQ.t208.trans mQ.t208, wr_eq⟩)
    · have hwh : f_X10_needsWhat 20000 v2 4 M = some (.inr "java/util/NoSuchElementException", M) := c_nWx (m := 4) hb2 (by omega)
      simp only [f_X10_log, hwh, bnx]
    · have hin : f_X11_in 20000 v2 0 4 = fun M => some (0, M) := by funext M9; exact m_inx (lo := 0) (m := 4) hb2 (by omega)
      simp only [f_X11_log, f_X11_log_20, lt, hin, bnd, if_true, m_th1, show ¬ (1 : Int32) = 0 from by decide, if_false]
/-! led -/
theorem c_rows {N : Nat} {L : List Row} {M : Mm} {v1 : Int32} (hN : 100 < N) (h : cLog 37 L M) (hl : lgOK L) : f_X4_rowsOf N 37 v1 M = some (nF (fun v k => if (if q : k < L.length then rowF (L[k]'q) 3 else 0) = v1 then v + 1 else v) L.length 0 0, M) := by
  have h60 := h.1
  unfold f_X4_rowsOf
  refine lp_n (f := fun n v i => f_X4_rowsOf_4 N 37 n v1 v i M) (fin := fun v => some (v, M)) (m := L.length) (fun n v => ?_) (fun n v i hi => ?_) N L.length 0 0 (by omega) (by omega)
  · show f_X4_rowsOf_4 N 37 (n + 1) v1 v (Int32.ofNat L.length) M = _
    rw [f_X4_rowsOf_4, h.2.1, if_pos (Int32.le_refl _)]
  · show f_X4_rowsOf_4 N 37 (n + 1) v1 v (Int32.ofNat i) M = _
    rw [f_X4_rowsOf_4, h.2.1, if_neg (i32_nle hi (by omega)), show (3 : Int32) = Int32.ofNat 3 from rfl, c_tells h hl hi (by decide)]
    simp only [bnd, lt, i32_succ, dif_pos hi, Int32.add_zero]
    split <;> rfl
theorem c_latest {N : Nat} {L : List Row} {M : Mm} {v1 : Int32} (hN : 100 < N) (h : cLog 37 L M) (hl : lgOK L) : f_X4_latestDinnerOf N 37 v1 M = some (xF (fun (_ : Unit) k => if (if q : k < L.length then rowF (L[k]'q) 3 else 0) = v1 then .inr (if q : k < L.length then rowF (L[k]'q) 0 else 0) else .inl ()) (fun _ => (-1 : Int32)) L.length 0 (), M) := by
  have h60 := h.1
  unfold f_X4_latestDinnerOf
  have h9 := lp_x (f := fun n (_ : Unit) i => f_X4_latestDinnerOf_2 N 37 n v1 i M) (fin := fun _ => some ((-1 : Int32), M)) (st := fun (_ : Unit) k => if (if q : k < L.length then rowF (L[k]'q) 3 else 0) = v1 then .inr (some (if q : k < L.length then rowF (L[k]'q) 0 else 0, M)) else .inl ()) (m := L.length) (fun n v => ?_) (fun n v i hi => ?_) N L.length 0 () (by omega) (by omega)
  · refine h9.trans ?_
    have h8 : ∀ (k i : Nat), xF (ρ := Option (Int32 × Mm)) (fun (_ : Unit) k => if (if q : k < L.length then rowF (L[k]'q) 3 else 0) = v1 then .inr (some (if q : k < L.length then rowF (L[k]'q) 0 else 0, M)) else .inl ()) (fun _ => some ((-1 : Int32), M)) k i () = some (xF (fun (_ : Unit) k => if (if q : k < L.length then rowF (L[k]'q) 3 else 0) = v1 then .inr (if q : k < L.length then rowF (L[k]'q) 0 else 0) else .inl ()) (fun _ => (-1 : Int32)) k i (), M) := by
      intro k
      induction k with
      | zero => intro i; rfl
      | succ k ih =>
        intro i
        rw [xF, xF]
        by_cases q : (if q : i < L.length then rowF (L[i]'q) 3 else 0) = v1
        · rw [if_pos q, if_pos q]
        · rw [if_neg q, if_neg q]; exact ih (i + 1)
    exact h8 _ _
  · show f_X4_latestDinnerOf_2 N 37 (n + 1) v1 (Int32.ofNat L.length) M = _
    rw [f_X4_latestDinnerOf_2, h.2.1, if_pos (Int32.le_refl _)]
  · show f_X4_latestDinnerOf_2 N 37 (n + 1) v1 (Int32.ofNat i) M = _
    rw [f_X4_latestDinnerOf_2, h.2.1, if_neg (i32_nle hi (by omega)), show (3 : Int32) = Int32.ofNat 3 from rfl, c_tells h hl hi (by decide)]
    simp only [bnd, i32_succ, dif_pos hi]
    rw [show (0 : Int32) = Int32.ofNat 0 from rfl, c_tells h hl hi (by decide)]
    by_cases q : rowF (L[i]'hi) 3 = v1
    · rw [if_pos q, if_pos q]
    · rw [if_neg q, if_neg q]
/-- the reference counts from the oldest row on -/
def ledW (L : List Row) (v1 : Int32) : Nat → Int32 × Int32 → Int32 × Int32
  | 0, v => v
  | k + 1, v => ledW L v1 k (if (if q : k < L.length then rowF (L[k]'q) 3 else 0) = v1 then (v.1 + 1, if q : k < L.length then rowF (L[k]'q) 0 else 0) else v)
theorem m_led_36 {N nd nc : Nat} {T : Tb} {L : List Row} {M : Mm} {v1 v2 : Int32} (hR : RW nd nc T L (M 209)) : ∀ (n k : Nat) (v : Int32 × Int32), k ≤ L.length → k < n → f_X11_led_36 N n v1 v2 v.1 v.2 (Int32.ofNat k - 1) M = some (if v2 = 0 then (ledW L v1 k v).1 else (ledW L v1 k v).2, M) := by
  have h60 := hR.2.2.2.2.2.1.1
  intro n
  induction n with
  | zero => intro k v _ h; omega
  | succ n ih =>
    intro k v hk hn
    rw [f_X11_led_36]
    match k with
    | 0 =>
      rw [if_pos (show Int32.ofNat 0 - 1 < 0 by decide)]
      unfold ledW
      split <;> rfl
    | k + 1 =>
      have hk' : k < L.length := by omega
      rw [show Int32.ofNat (k + 1) - 1 = Int32.ofNat k from by rw [← i32_succ]; grind, if_neg (i32_nn (by omega)), show (3 : Int32) = Int32.ofNat 3 from rfl, m_ofLog hR hk' (by decide)]
      simp only [bnd]
      rw [show (0 : Int32) = Int32.ofNat 0 from rfl, m_ofLog hR hk' (by decide), show Int32.ofNat k + (-1) = Int32.ofNat k - 1 from by grind]
      simp only []
      rw [show ledW L v1 (k + 1) v = ledW L v1 k (if (if q : k < L.length then rowF (L[k]'q) 3 else 0) = v1 then (v.1 + 1, if q : k < L.length then rowF (L[k]'q) 0 else 0) else v) from rfl, dif_pos hk', dif_pos hk']
      by_cases q : rowF (L[k]'hk') 3 = v1
      · rw [if_pos q, if_pos q]
        exact ih k (v.1 + 1, rowF (L[k]'hk') 0) (by omega) (by omega)
      · rw [if_neg q, if_neg q]
        exact ih k v (by omega) (by omega)
theorem led_1 {L : List Row} {v1 : Int32} : ∀ (k : Nat) (v : Int32 × Int32), (ledW L v1 k v).1 = v.1 + sI (fun k => if (if q : k < L.length then rowF (L[k]'q) 3 else 0) = v1 then 1 else 0) k 0 := by
  intro k
  induction k with
  | zero => intro v; rw [ledW, sI, Int32.add_zero]
  | succ k ih =>
    intro v
    rw [ledW, ih, sI_last, Nat.zero_add]
    by_cases q : (if q : k < L.length then rowF (L[k]'q) 3 else 0) = v1
    · rw [if_pos q, if_pos q]; dsimp only; grind
    · rw [if_neg q, if_neg q]; grind
theorem led_2 {L : List Row} {v1 : Int32} : ∀ (k : Nat) (v : Int32 × Int32), (ledW L v1 k v).2 = xF (fun (_ : Unit) k => if (if q : k < L.length then rowF (L[k]'q) 3 else 0) = v1 then .inr (if q : k < L.length then rowF (L[k]'q) 0 else 0) else .inl ()) (fun _ => v.2) k 0 () := by
  have hl : ∀ (st : Unit → Nat → Unit ⊕ Int32) (z : Int32) (k i : Nat), xF st (fun _ => z) (k + 1) i () = xF st (fun _ => match st () (i + k) with
      | .inl _ => z
      | .inr r => r) k i () := by
    intro st z k
    induction k with
    | zero =>
      intro i
      simp only [xF, Nat.add_zero] <;> (try (cases st () i <;> rfl))
    | succ k ih =>
      intro i
      rw [xF, xF]
      cases st () i with
      | inl _ => exact (ih (i + 1)).trans (by rw [show i + 1 + k = i + (k + 1) from by omega])
      | inr r => rfl
  intro k
  induction k with
  | zero => intro v; rfl
  | succ k ih =>
    intro v
    rw [ledW, ih, hl, Nat.zero_add]
    by_cases q : (if q : k < L.length then rowF (L[k]'q) 3 else 0) = v1
    · rw [if_pos q, if_pos q]
    · rw [if_neg q, if_neg q]
theorem P_led {M : Mm} (h : InvM M) (v1 v2 : Int32) : Kd (fun M => f_L_led 20000 v1 v2 M) (fun M => f_X11_led 20000 v1 v2 M) M := by
  obtain ⟨nd, nc, T, L, K, ms, im, tp, ft, h, hR, hs, hz, h70, h71, hnd, hnc⟩ := Ix h
  have hL := h.1.2.1
  have h60 : L.length ≤ 60 := hL.1
  rcases i32_rng v1 (n := nc) (by omega) with ⟨c, hc, rfl⟩ | hb
  · refine Kr (F := fun M => f_X10_led 20000 (Int32.ofNat c) v2 M) (r := if v2 = 0 then (ledW L (Int32.ofNat c) L.length (0, -1)).1 else (ledW L (Int32.ofNat c) L.length (0, -1)).2) (M1 := M) (fun M => rfl) h ?_ hz (fun M' hm => ⟨wr M' 208 0 0, ?_, mQ.t208, wr_eq⟩)
    · simp only [f_X10_led, c_nC h71 hc (show nc ≤ 8 by omega), bnx]
      rw [c_rows (by decide) hL h.2.2.2.1.1, c_latest (by decide) hL h.2.2.2.1.1, led_1, led_2]
      simp only [bnd]
      by_cases q : v2 = 0
      · rw [if_pos q, if_pos q, ← nF_sI, nF_cg (m := L.length) (st := fun v k => if (if q : k < L.length then rowF (L[k]'q) 3 else 0) = Int32.ofNat c then v + 1 else v) (st' := fun v k => v + (if (if q : k < L.length then rowF (L[k]'q) 3 else 0) = Int32.ofNat c then 1 else 0)) (fun v i _ => by
          by_cases hq : (if q : i < L.length then rowF (L[i]'q) 3 else 0) = Int32.ofNat c
          · rw [if_pos hq, if_pos hq]
          · rw [if_neg hq, if_neg hq, Int32.add_zero]) _ _ _ (by omega)]
      · rw [if_neg q, if_neg q]
    · simp only [f_X11_led, lt, m_noC (mW hm).1.2.2.2.2.2 hc (show nc ≤ 8 by omega), bnd, if_true, m_th0, grd, show inb (10 : Int32) 2107 = true from by decide, show (10 : Int32).toNatClampNeg = 10 from by decide, (mW hm).2.2.2.2.2.1.2.1]
      exact m_led_36 (mW hm) 20000 L.length (0, -1) (Nat.le_refl _) (by omega)
  · refine Kx (F := fun M => f_X10_led 20000 v1 v2 M) (e := "java/lang/IndexOutOfBoundsException") (code := 1) (M1 := M) (fun M => rfl) h ?_ hz (fun M => by simp) (by decide) (fun M' hm => ⟨wr (wr M' 208 0 0) 208 0 1, ?_, mQ.t208.trans mQ.t208, wr_eq⟩)
    · simp only [f_X10_led, c_nCx h71 hb, bnx]
    · simp only [f_X11_led, lt, m_noCx (mW hm).1.2.2.2.2.2 hb (show nc ≤ 8 by omega), bnd, m_th1, show ¬ (1 : Int32) = 0 from by decide, if_false]
