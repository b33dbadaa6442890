/-! Reading calls: what a diner has, sums, the most. -/
theorem sHasOf_eq {T : Tb} {d t : Nat} (hd : d < 8) (ht : t < 6) : sHasOf T (Int32.ofNat d) (Int32.ofNat t) = T 3 (6 * d + t) := by
  unfold sHasOf
  have e : Int32.ofNat d * 6 + Int32.ofNat t = Int32.ofNat (6 * d + t) := by
    show Int32.ofNat d * Int32.ofNat 6 + Int32.ofNat t = _
    rw [i32_mulN, i32_addN]; congr 1; omega
  rw [e, if_neg (i32_nn (by omega)), if_neg (show ¬ (48 : Int32) ≤ Int32.ofNat (6 * d + t) from i32_nle (n := 48) (by omega) (by omega)), i32_clampN (by omega)]
section RD
variable {N nd nc : Nat} {T : Tb} {L : List Row} {M : Mm}
theorem m_ofH (hR : RW nd nc T L (M 209)) {d t : Nat} (hd : d < nd) (ht : t < 6) : f_X11_of N (Int32.ofNat d) ((3 : Int32) + Int32.ofNat t) M = some (T 3 (6 * d + t), M) := by
  have hnd := hR.1.1
  rw [show (3 : Int32) + Int32.ofNat t = Int32.ofNat (3 + t) from i32_addN 3 t, m_of (by omega) (by omega)]
  rw [show 12 + 9 * d + (3 + t) = 12 + 9 * d + 3 + t from by omega, (hR.2.2.2.1 d hd).2.2 t ht]
def sMix (T : Tb) (d : Nat) : Int32 := nF (fun v t => if T 3 (6 * d + t) ≤ 0 then v + 0 else v + 1) 6 0 0
def sSumH (T : Tb) (d : Nat) : Int32 := nF (fun v t => v + T 3 (6 * d + t)) 6 0 0
def sMain (T : Tb) (d : Nat) : Int32 := (nF (fun (v : Int32 × Int32) t => if T 3 (6 * d + t) ≤ v.2 then v else (Int32.ofNat t, T 3 (6 * d + t))) 6 0 (-1, 0)).1
theorem c_mixed {a d : Nat} (hN : 60 < N) (hd : d < 8) : f_X6_mixed N a (Int32.ofNat d) M = some (sMix (slc a M) d, M) := by
  unfold f_X6_mixed sMix
  refine lp_n (f := fun n v i => f_X6_mixed_4 N a n (Int32.ofNat d) v i M) (fin := fun v => some (v, M)) (m := 6) (fun n v => ?_) (fun n v i hi => ?_) N 6 0 0 rfl (by omega)
  · show f_X6_mixed_4 N a (n + 1) (Int32.ofNat d) v (Int32.ofNat 6) M = _
    rw [f_X6_mixed_4, if_pos (show (6 : Int32) ≤ Int32.ofNat 6 by decide)]
  · show f_X6_mixed_4 N a (n + 1) (Int32.ofNat d) v (Int32.ofNat i) M = _
    rw [f_X6_mixed_4, if_neg (show ¬ (6 : Int32) ≤ Int32.ofNat i from i32_nle (n := 6) hi (by omega)), c_hasOf]
    simp only [bnd, lt, i32_succ, sHasOf_eq hd hi]
    split <;> rfl
theorem m_mixedOf {d : Nat} (hN : 60 < N) (hR : RW nd nc T L (M 209)) (hd : d < nd) : f_X11_mixedOf N (Int32.ofNat d) M = some (sMix T d, M) := by
  unfold f_X11_mixedOf sMix
  refine lp_n (f := fun n v i => f_X11_mixedOf_4 N n (Int32.ofNat d) v i M) (fin := fun v => some (v, M)) (m := 6) (fun n v => ?_) (fun n v i hi => ?_) N 6 0 0 rfl (by omega)
  · show f_X11_mixedOf_4 N (n + 1) (Int32.ofNat d) v (Int32.ofNat 6) M = _
    rw [f_X11_mixedOf_4, if_pos (show (6 : Int32) ≤ Int32.ofNat 6 by decide)]
  · show f_X11_mixedOf_4 N (n + 1) (Int32.ofNat d) v (Int32.ofNat i) M = _
    rw [f_X11_mixedOf_4, if_neg (show ¬ (6 : Int32) ≤ Int32.ofNat i from i32_nle (n := 6) hi (by omega)), m_ofH hR hd hi]
    simp only [bnd, lt, i32_succ]
    split <;> rfl
theorem c_hasInAll {a d : Nat} (hN : 60 < N) (hd : d < 8) : f_X6_hasInAll N a (Int32.ofNat d) M = some (sSumH (slc a M) d, M) := by
  unfold f_X6_hasInAll sSumH
  refine lp_n (f := fun n v i => f_X6_hasInAll_4 N a n (Int32.ofNat d) v i M) (fin := fun v => some (v, M)) (m := 6) (fun n v => ?_) (fun n v i hi => ?_) N 6 0 0 rfl (by omega)
  · show f_X6_hasInAll_4 N a (n + 1) (Int32.ofNat d) v (Int32.ofNat 6) M = _
    rw [f_X6_hasInAll_4, if_pos (show (6 : Int32) ≤ Int32.ofNat 6 by decide)]
  · show f_X6_hasInAll_4 N a (n + 1) (Int32.ofNat d) v (Int32.ofNat i) M = _
    rw [f_X6_hasInAll_4, if_neg (show ¬ (6 : Int32) ≤ Int32.ofNat i from i32_nle (n := 6) hi (by omega)), c_hasOf]
    simp only [bnd, lt, i32_succ, sHasOf_eq hd hi]
theorem m_allOf {d : Nat} (hN : 60 < N) (hR : RW nd nc T L (M 209)) (hd : d < nd) : f_X11_allOf N (Int32.ofNat d) M = some (sSumH T d, M) := by
  unfold f_X11_allOf sSumH
  refine lp_n (f := fun n v i => f_X11_allOf_4 N n (Int32.ofNat d) v i M) (fin := fun v => some (v, M)) (m := 6) (fun n v => ?_) (fun n v i hi => ?_) N 6 0 0 rfl (by omega)
  · show f_X11_allOf_4 N (n + 1) (Int32.ofNat d) v (Int32.ofNat 6) M = _
    rw [f_X11_allOf_4, if_pos (show (6 : Int32) ≤ Int32.ofNat 6 by decide)]
  · show f_X11_allOf_4 N (n + 1) (Int32.ofNat d) v (Int32.ofNat i) M = _
    rw [f_X11_allOf_4, if_neg (show ¬ (6 : Int32) ≤ Int32.ofNat i from i32_nle (n := 6) hi (by omega)), m_ofH hR hd hi]
    simp only [bnd, lt, i32_succ]
theorem c_mainTrait {a d : Nat} (hN : 60 < N) (hd : d < 8) : f_X6_mainTrait N a (Int32.ofNat d) M = some (sMain (slc a M) d, M) := by
  unfold f_X6_mainTrait sMain
  refine lp_n (f := fun n (v : Int32 × Int32) i => f_X6_mainTrait_7 N a n (Int32.ofNat d) v.1 v.2 i M) (fin := fun v => some (v.1, M)) (m := 6) (fun n v => ?_) (fun n v i hi => ?_) N 6 0 (-1, 0) rfl (by omega)
  · show f_X6_mainTrait_7 N a (n + 1) (Int32.ofNat d) v.1 v.2 (Int32.ofNat 6) M = _
    rw [f_X6_mainTrait_7, if_pos (show (6 : Int32) ≤ Int32.ofNat 6 by decide)]
  · show f_X6_mainTrait_7 N a (n + 1) (Int32.ofNat d) v.1 v.2 (Int32.ofNat i) M = _
    rw [f_X6_mainTrait_7, if_neg (show ¬ (6 : Int32) ≤ Int32.ofNat i from i32_nle (n := 6) hi (by omega)), c_hasOf]
    simp only [bnd, lt, i32_succ, c_hasOf, sHasOf_eq hd hi]
    split <;> rfl
theorem m_traitOf {d : Nat} (hN : 60 < N) (hR : RW nd nc T L (M 209)) (hd : d < nd) : f_X11_traitOf N (Int32.ofNat d) M = some (sMain T d, M) := by
  unfold f_X11_traitOf sMain
  refine lp_n (f := fun n (v : Int32 × Int32) i => f_X11_traitOf_7 N n (Int32.ofNat d) v.1 v.2 i M) (fin := fun v => some (v.1, M)) (m := 6) (fun n v => ?_) (fun n v i hi => ?_) N 6 0 (-1, 0) rfl (by omega)
  · show f_X11_traitOf_7 N (n + 1) (Int32.ofNat d) v.1 v.2 (Int32.ofNat 6) M = _
    rw [f_X11_traitOf_7, if_pos (show (6 : Int32) ≤ Int32.ofNat 6 by decide)]
  · show f_X11_traitOf_7 N (n + 1) (Int32.ofNat d) v.1 v.2 (Int32.ofNat i) M = _
    rw [f_X11_traitOf_7, if_neg (show ¬ (6 : Int32) ≤ Int32.ofNat i from i32_nle (n := 6) hi (by omega)), m_ofH hR hd hi]
    simp only [bnd, lt, i32_succ, f_X11_traitOf_33, m_ofH hR hd hi]
    split
    · rename_i h; rw [if_neg (Int32.not_lt.mpr h)]
    · rename_i h; rw [if_pos (Int32.not_le.mp h)]
def sGr (nc : Nat) (T : Tb) : Int32 := nF (fun v c => v + T 6 c) nc 0 0
theorem c_grainsInAll {a : Nat} (hN : 60 < N) (hnc : nc ≤ 5) (hM : M a 1 = Int32.ofNat nc) : f_X6_grainsInAll N a M = some (sGr nc (slc a M), M) := by
  unfold f_X6_grainsInAll sGr
  refine lp_n (f := fun n v i => f_X6_grainsInAll_4 N a n v i M) (fin := fun v => some (v, M)) (m := nc) (fun n v => ?_) (fun n v i hi => ?_) N nc 0 0 (by omega) (by omega)
  · show f_X6_grainsInAll_4 N a (n + 1) v (Int32.ofNat nc) M = _
    rw [f_X6_grainsInAll_4, hM, if_pos (Int32.le_refl _)]
  · show f_X6_grainsInAll_4 N a (n + 1) v (Int32.ofNat i) M = _
    rw [f_X6_grainsInAll_4, hM, if_neg (i32_nle hi (by omega)), if_neg (show ¬ (5 : Int32) ≤ Int32.ofNat i from i32_nle (n := 5) (by omega) (by omega))]
    simp only [grd, lt, inb_ofNat (show i < 5 by omega) (by omega), if_true, i32_clampN (show i < 2147483648 by omega), i32_succ, slc_at (show 6 < 9 by decide)]
theorem m_grainsOfAll (hN : 60 < N) (hR : RW nd nc T L (M 209)) : f_X11_grainsOfAll N M = some (sGr nc T, M) := by
  have hnc := hR.1.2.1
  unfold f_X11_grainsOfAll sGr
  refine lp_n (f := fun n v i => f_X11_grainsOfAll_4 N n v i M) (fin := fun v => some (v, M)) (m := nc) (fun n v => ?_) (fun n v i hi => ?_) N nc 0 0 (by omega) (by omega)
  · show f_X11_grainsOfAll_4 N (n + 1) v (Int32.ofNat nc) M = _
    rw [f_X11_grainsOfAll_4, m_cellars]
    simp only [bnd]
    rw [hR.1.2.2.2.2.2, if_pos (Int32.le_refl _)]
  · show f_X11_grainsOfAll_4 N (n + 1) v (Int32.ofNat i) M = _
    rw [f_X11_grainsOfAll_4, m_cellars]
    simp only [bnd]
    rw [hR.1.2.2.2.2.2, if_neg (i32_nle hi (by omega)), show (2 : Int32) = Int32.ofNat 2 from rfl, m_ofCellar (by omega) (by decide), hR.2.2.2.2.1 i hi 2 (by decide)]
    simp only [lt, i32_succ]
def sHave (nd : Nat) (T : Tb) (t : Nat) : Int32 := nF (fun v d => v + T 3 (6 * d + t)) nd 0 0
theorem m_haveOf {t : Nat} (hN : 60 < N) (hR : RW nd nc T L (M 209)) (ht : t < 6) : f_X11_haveOf N (Int32.ofNat t) M = some (sHave nd T t, M) := by
  have hnd := hR.1.1
  unfold f_X11_haveOf sHave
  refine lp_n (f := fun n v i => f_X11_haveOf_4 N n (Int32.ofNat t) v i M) (fin := fun v => some (v, M)) (m := nd) (fun n v => ?_) (fun n v i hi => ?_) N nd 0 0 (by omega) (by omega)
  · show f_X11_haveOf_4 N (n + 1) (Int32.ofNat t) v (Int32.ofNat nd) M = _
    rw [f_X11_haveOf_4, m_diners]
    simp only [bnd]
    rw [hR.1.2.2.2.2.1, if_pos (Int32.le_refl _)]
  · show f_X11_haveOf_4 N (n + 1) (Int32.ofNat t) v (Int32.ofNat i) M = _
    rw [f_X11_haveOf_4, m_diners]
    simp only [bnd]
    rw [hR.1.2.2.2.2.1, if_neg (i32_nle hi (by omega)), m_ofH hR hi ht]
    simp only [lt, i32_succ]
theorem c_share_15 {d t : Nat} (hN : 60 < N) (hnd : nd ≤ 8) (h70 : M 7 0 = Int32.ofNat nd) (hd : d < nd) (ht : t < 6) : f_X10_share_15 N N (Int32.ofNat d) (Int32.ofNat t) 0 0 M = some (.inl (if (0 : Int32) < sHave nd (slc 7 M) t then 100 * slc 7 M 3 (6 * d + t) / sHave nd (slc 7 M) t else 0), M) := by
  unfold sHave
  refine lp_n (f := fun n v i => f_X10_share_15 N n (Int32.ofNat d) (Int32.ofNat t) v i M) (fin := fun v => some (.inl (if (0 : Int32) < v then 100 * slc 7 M 3 (6 * d + t) / v else 0), M)) (m := nd) (fun n v => ?_) (fun n v i hi => ?_) N nd 0 0 (by omega) (by omega)
  · show f_X10_share_15 N (n + 1) (Int32.ofNat d) (Int32.ofNat t) v (Int32.ofNat nd) M = _
    rw [f_X10_share_15, h70, if_pos (Int32.le_refl _), c_hasOf, sHasOf_eq (by omega) ht]
    simp only [bnd]
    by_cases q : (0 : Int32) < v
    · rw [if_pos q, if_pos q]
      have hz : nz v = true := by
        unfold nz
        have h9 : ¬ v = 0 := fun h9 => by rw [h9] at q; exact absurd q (by decide)
        rw [decide_eq_false h9]; rfl
      rw [hz]; rfl
    · rw [if_neg q, if_neg q]
  · show f_X10_share_15 N (n + 1) (Int32.ofNat d) (Int32.ofNat t) v (Int32.ofNat i) M = _
    rw [f_X10_share_15, h70, if_neg (i32_nle hi (by omega)), c_hasOf]
    simp only [bnd, lt, i32_succ, sHasOf_eq (show i < 8 by omega) ht]
def sWorst (nd : Nat) (T : Tb) (t : Nat) : Int32 := (nF (fun (v : Int32 × Int32) d => if T 3 (6 * d + t) ≤ v.2 then v else (Int32.ofNat d, T 3 (6 * d + t))) nd 0 (-1, 0)).1
theorem c_worst_12 {t : Nat} (hN : 60 < N) (hnd : nd ≤ 8) (h70 : M 7 0 = Int32.ofNat nd) (ht : t < 6) : f_X10_worst_12 N N (Int32.ofNat t) (-1) 0 0 M = some (.inl (sWorst nd (slc 7 M) t), M) := by
  unfold sWorst
  refine lp_n (f := fun n (v : Int32 × Int32) i => f_X10_worst_12 N n (Int32.ofNat t) v.1 v.2 i M) (fin := fun v => some (.inl v.1, M)) (m := nd) (fun n v => ?_) (fun n v i hi => ?_) N nd 0 (-1, 0) (by omega) (by omega)
  · show f_X10_worst_12 N (n + 1) (Int32.ofNat t) v.1 v.2 (Int32.ofNat nd) M = _
    rw [f_X10_worst_12, h70, if_pos (Int32.le_refl _)]
  · show f_X10_worst_12 N (n + 1) (Int32.ofNat t) v.1 v.2 (Int32.ofNat i) M = _
    rw [f_X10_worst_12, h70, if_neg (i32_nle hi (by omega)), c_hasOf]
    simp only [bnd, lt, i32_succ, c_hasOf, sHasOf_eq (show i < 8 by omega) ht]
    split <;> rfl
theorem m_worst_26 {t : Nat} (hN : 60 < N) (hR : RW nd nc T L (M 209)) (ht : t < 6) : f_X11_worst_26 N N (Int32.ofNat t) (-1) 0 0 M = some (sWorst nd T t, M) := by
  have hnd := hR.1.1
  unfold sWorst
  refine lp_n (f := fun n (v : Int32 × Int32) i => f_X11_worst_26 N n (Int32.ofNat t) v.1 v.2 i M) (fin := fun v => some (v.1, M)) (m := nd) (fun n v => ?_) (fun n v i hi => ?_) N nd 0 (-1, 0) (by omega) (by omega)
  · show f_X11_worst_26 N (n + 1) (Int32.ofNat t) v.1 v.2 (Int32.ofNat nd) M = _
    rw [f_X11_worst_26, m_diners]
    simp only [bnd]
    rw [hR.1.2.2.2.2.1, if_pos (Int32.le_refl _)]
  · show f_X11_worst_26 N (n + 1) (Int32.ofNat t) v.1 v.2 (Int32.ofNat i) M = _
    rw [f_X11_worst_26, m_diners]
    simp only [bnd]
    rw [hR.1.2.2.2.2.1, if_neg (i32_nle hi (by omega)), m_ofH hR hi ht]
    simp only [lt, i32_succ, f_X11_worst_58]
    split
    · rename_i h; rw [if_neg (Int32.not_lt.mpr h)]
    · rename_i h; rw [if_pos (Int32.not_le.mp h)]
def sGaps (T : Tb) : Int32 := nF (fun v s => if T 1 s = -1 then v ||| ((1 : Int32) <<< (Int32.ofNat s &&& 31)) else v) 10 0 0
theorem sDinerAt_eq {s : Nat} (hs : s < 10) : sDinerAt T (Int32.ofNat s) = T 1 s := by
  unfold sDinerAt
  rw [if_neg (i32_nn (by omega)), if_neg (show ¬ (10 : Int32) ≤ Int32.ofNat s from i32_nle (n := 10) hs (by omega)), i32_clampN (by omega)]
theorem c_gaps (hN : 60 < N) : f_X10_gaps N M = some (sGaps (slc 7 M), M) := by
  unfold f_X10_gaps sGaps
  refine lp_n (f := fun n v i => f_X10_gaps_4 N n v i M) (fin := fun v => some (v, M)) (m := 10) (fun n v => ?_) (fun n v i hi => ?_) N 10 0 0 (by omega) (by omega)
  · show f_X10_gaps_4 N (n + 1) v (Int32.ofNat 10) M = _
    rw [f_X10_gaps_4, if_pos (show (10 : Int32) ≤ Int32.ofNat 10 by decide)]
  · show f_X10_gaps_4 N (n + 1) v (Int32.ofNat i) M = _
    rw [f_X10_gaps_4, if_neg (show ¬ (10 : Int32) ≤ Int32.ofNat i from i32_nle (n := 10) hi (by omega)), c_dinerAt]
    simp only [bnd, lt, i32_succ, sDinerAt_eq hi]
    split <;> rfl
theorem i32_or0 (x : Int32) : x ||| 0 = x := by
  apply Int32.toBitVec_inj.mp
  simp
theorem m_gaps_9 (hR : RW nd nc T L (M 209)) : f_X11_gaps_9 20000 20000 0 0 M = some (sGaps T, M) := by
  unfold sGaps
  refine lp_n (f := fun n v i => f_X11_gaps_9 20000 n v i M) (fin := fun v => some (v, M)) (m := 10) (fun n v => ?_) (fun n v i hi => ?_) 20000 10 0 0 (by omega) (by omega)
  · show f_X11_gaps_9 20000 (n + 1) v (Int32.ofNat 10) M = _
    rw [f_X11_gaps_9, if_pos (show (10 : Int32) ≤ Int32.ofNat 10 by decide)]
  · show f_X11_gaps_9 20000 (n + 1) v (Int32.ofNat i) M = _
    rw [f_X11_gaps_9, if_neg (show ¬ (10 : Int32) ≤ Int32.ofNat i from i32_nle (n := 10) hi (by omega)), m_dinerIn hR.1 hR.2.2.1 hi]
    simp only [bnd, lt, i32_succ, i32_or0]
    split <;> rfl
end RD
