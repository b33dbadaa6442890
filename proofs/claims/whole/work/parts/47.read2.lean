/-! Bits, pairs, sums; cellar, crowd, alike, whole, count. -/
def bcI (v0 : Int32) : Int32 :=
  lt (v0 - (((v0).toUInt32 >>> (((1 : Int32)).toUInt32 &&& Int32.toUInt32 31)).toInt32 &&& (1431655765 : Int32))) (fun x1 => lt ((x1 &&& (858993459 : Int32)) + (((x1).toUInt32 >>> (((2 : Int32)).toUInt32 &&& Int32.toUInt32 31)).toInt32 &&& (858993459 : Int32))) (fun x2 => lt ((x2 + ((x2).toUInt32 >>> (((4 : Int32)).toUInt32 &&& Int32.toUInt32 31)).toInt32) &&& (252645135 : Int32)) (fun x3 => lt (x3 + ((x3).toUInt32 >>> (((8 : Int32)).toUInt32 &&& Int32.toUInt32 31)).toInt32) (fun x4 => lt (x4 + ((x4).toUInt32 >>> (((16 : Int32)).toUInt32 &&& Int32.toUInt32 31)).toInt32) (fun x5 => (x5 &&& (63 : Int32)))))))
theorem j_bc {N : Nat} {v : Int32} {M : Mm} : f_J6_bitCount_0f7a4 N v M = some (bcI v, M) := rfl
def mkB (hb : Nat → Bool) (nc : Nat) : Int32 := nF (fun v c => if hb c = true then v ||| ((1 : Int32) <<< (Int32.ofNat c &&& 31)) else v) nc 0 0
def cnt9 (hb : Nat → Bool) (nc : Nat) : Int32 := nF (fun v c => if hb c = true then v + 1 else v) nc 0 0
theorem bc_mk {hb : Nat → Bool} {nc : Nat} (h : nc ≤ 5) : bcI (mkB hb nc) = cnt9 hb nc := by
  have h5 : ∀ b0 b1 b2 b3 b4 : Bool, ∀ n, n < 6 → bcI (mkB (fun i => match i with | 0 => b0 | 1 => b1 | 2 => b2 | 3 => b3 | _ => b4) n) = cnt9 (fun i => match i with | 0 => b0 | 1 => b1 | 2 => b2 | 3 => b3 | _ => b4) n := by decide +kernel
  have e1 : mkB hb nc = mkB (fun i => match i with | 0 => hb 0 | 1 => hb 1 | 2 => hb 2 | 3 => hb 3 | _ => hb 4) nc := by
    unfold mkB
    refine nF_cg (m := 5) (fun v i hi => ?_) nc 0 0 (by omega)
    match i, hi with
    | 0, _ | 1, _ | 2, _ | 3, _ | 4, _ => rfl
  have e2 : cnt9 hb nc = cnt9 (fun i => match i with | 0 => hb 0 | 1 => hb 1 | 2 => hb 2 | 3 => hb 3 | _ => hb 4) nc := by
    unfold cnt9
    refine nF_cg (m := 5) (fun v i hi => ?_) nc 0 0 (by omega)
    match i, hi with
    | 0, _ | 1, _ | 2, _ | 3, _ | 4, _ => rfl
  rw [e1, e2]
  exact h5 _ _ _ _ _ nc (by omega)
section CR
variable {N nd nc : Nat} {T : Tb} {L : List Row} {M : Mm}
theorem m_cel0 (hR : RW nd nc T L (M 209)) {c : Nat} (hc : c < nc) : f_X11_ofCellar N (Int32.ofNat c) 0 M = some (T 4 c, M) := by
  have hnc := hR.1.2.1
  rw [show (0 : Int32) = Int32.ofNat 0 from rfl, m_ofCellar (by omega) (by decide), hR.2.2.2.2.1 c hc 0 (by decide)]
theorem m_cel1 (hR : RW nd nc T L (M 209)) {c : Nat} (hc : c < nc) : f_X11_ofCellar N (Int32.ofNat c) 1 M = some (T 5 c, M) := by
  have hnc := hR.1.2.1
  rw [show (1 : Int32) = Int32.ofNat 1 from rfl, m_ofCellar (by omega) (by decide), hR.2.2.2.2.1 c hc 1 (by decide)]
theorem m_cel2 (hR : RW nd nc T L (M 209)) {c : Nat} (hc : c < nc) : f_X11_ofCellar N (Int32.ofNat c) 2 M = some (T 6 c, M) := by
  have hnc := hR.1.2.1
  rw [show (2 : Int32) = Int32.ofNat 2 from rfl, m_ofCellar (by omega) (by decide), hR.2.2.2.2.1 c hc 2 (by decide)]
theorem m_cel3 (hR : RW nd nc T L (M 209)) {c : Nat} (hc : c < nc) : f_X11_ofCellar N (Int32.ofNat c) 3 M = some (T 7 c, M) := by
  have hnc := hR.1.2.1
  rw [show (3 : Int32) = Int32.ofNat 3 from rfl, m_ofCellar (by omega) (by decide), hR.2.2.2.2.1 c hc 3 (by decide)]
def hAt (T : Tb) (s : Int32) (c : Nat) : Bool := !(decide (T 6 c ≤ 0)) && decide (T 4 c = s)
theorem c_heldAt {a : Nat} {s : Int32} (hN : 60 < N) (hnc : nc ≤ 5) (hM : M a 1 = Int32.ofNat nc) : f_X6_heldAt N a s M = some (mkB (hAt (slc a M) s) nc, M) := by
  unfold f_X6_heldAt mkB
  refine lp_n (f := fun n v i => f_X6_heldAt_4 N a n s v i M) (fin := fun v => some (v, M)) (m := nc) (fun n v => ?_) (fun n v i hi => ?_) N nc 0 0 (by omega) (by omega)
  · show f_X6_heldAt_4 N a (n + 1) s v (Int32.ofNat nc) M = _
    rw [f_X6_heldAt_4, hM, if_pos (Int32.le_refl _)]
  · show f_X6_heldAt_4 N a (n + 1) s v (Int32.ofNat i) M = _
    rw [f_X6_heldAt_4, hM, if_neg (i32_nle hi (by omega)), if_neg (show ¬ (5 : Int32) ≤ Int32.ofNat i from i32_nle (n := 5) (by omega) (by omega))]
    simp only [grd, lt, inb_ofNat (show i < 5 by omega) (by omega), if_true, i32_clampN (show i < 2147483648 by omega), i32_succ, f_X6_heldAt_43, i32_or0, hAt, slc_at (show 6 < 9 by decide), slc_at (show 4 < 9 by decide)]
    by_cases q1 : M (a + 6) i ≤ 0
    · rw [if_pos q1, decide_eq_true q1]; rfl
    · rw [if_neg q1, decide_eq_false q1]
      by_cases q2 : M (a + 4) i = s
      · rw [if_pos q2, decide_eq_true q2]; rfl
      · rw [if_neg q2, decide_eq_false q2]; rfl
def sCrowd (nc : Nat) (T : Tb) : Int32 := (nF (fun (v : Int32 × Int32) s => if cnt9 (hAt T (Int32.ofNat s)) nc ≤ v.2 then v else (Int32.ofNat s, cnt9 (hAt T (Int32.ofNat s)) nc)) 10 0 (-1, 0)).1
theorem c_crowd (hN : 60 < N) (hnc : nc ≤ 5) (hM : M 7 1 = Int32.ofNat nc) : f_X10_crowd N M = some (sCrowd nc (slc 7 M), M) := by
  unfold f_X10_crowd sCrowd
  refine lp_n (f := fun n (v : Int32 × Int32) i => f_X10_crowd_6 N n v.1 v.2 i M) (fin := fun v => some (v.1, M)) (m := 10) (fun n v => ?_) (fun n v i hi => ?_) N 10 0 (-1, 0) (by omega) (by omega)
  · show f_X10_crowd_6 N (n + 1) v.1 v.2 (Int32.ofNat 10) M = _
    rw [f_X10_crowd_6, if_pos (show (10 : Int32) ≤ Int32.ofNat 10 by decide)]
  · show f_X10_crowd_6 N (n + 1) v.1 v.2 (Int32.ofNat i) M = _
    rw [f_X10_crowd_6, if_neg (show ¬ (10 : Int32) ≤ Int32.ofNat i from i32_nle (n := 10) hi (by omega)), c_heldAt hN hnc hM]
    simp only [bnd, j_bc, bc_mk hnc, i32_succ]
    split <;> rfl
theorem m_free01 (hR : RW nd nc T L (M 209)) {c : Nat} (hc : c < nc) : f_X11_isFree N (Int32.ofNat c) M = some (if T 6 c ≤ 0 then 1 else 0, M) := by
  have hnc := hR.1.2.1
  rw [m_isFree (by omega), hR.2.2.2.2.1 c hc 2 (by decide), show T (4 + 2) c = T 6 c from rfl]
  obtain ⟨-, -, ⟨g, hg, eg⟩, -⟩ := hR.2.2.2.2.2.2.1.2.2.2.2 c hc
  by_cases q : T 6 c = 0
  · rw [if_pos q, if_pos (by rw [q]; decide)]
  · rw [if_neg q, if_neg (fun h9 => q (Int32.le_antisymm h9 (by rw [eg]; exact i32_ge0 (by omega))))]
theorem m_crowd_11 (hN : 60 < N) (hR : RW nd nc T L (M 209)) : f_X11_crowd_11 N N (-1) 0 0 M = some (sCrowd nc T, M) := by
  have hnc := hR.1.2.1
  unfold sCrowd
  refine lp_n (f := fun n (v : Int32 × Int32) i => f_X11_crowd_11 N n v.1 v.2 i M) (fin := fun v => some (v.1, M)) (m := 10) (fun n v => ?_) (fun n v i hi => ?_) N 10 0 (-1, 0) (by omega) (by omega)
  · show f_X11_crowd_11 N (n + 1) v.1 v.2 (Int32.ofNat 10) M = _
    rw [f_X11_crowd_11, if_pos (show (10 : Int32) ≤ Int32.ofNat 10 by decide)]
  · show f_X11_crowd_11 N (n + 1) v.1 v.2 (Int32.ofNat i) M = _
    rw [f_X11_crowd_11, if_neg (show ¬ (10 : Int32) ≤ Int32.ofNat i from i32_nle (n := 10) hi (by omega))]
    have hin := lp_n (f := fun n9 w j => f_X11_crowd_23 N (fun v1 v2 v3 M => f_X11_crowd_11 N n v1 v2 v3 M) n9 v.1 v.2 (Int32.ofNat i) w j M) (fin := fun w => if w ≤ v.2 then f_X11_crowd_11 N n v.1 (if v.2 < w then w else v.2) (Int32.ofNat i + 1) M else f_X11_crowd_11 N n (Int32.ofNat i) (if v.2 < w then w else v.2) (Int32.ofNat i + 1) M) (st := fun w c => if hAt T (Int32.ofNat i) c = true then w + 1 else w) (m := nc) (fun n9 w => ?_) (fun n9 w j hj => ?_) N nc 0 0 (by omega) (by omega)
    · refine hin.trans ?_
      show (if cnt9 (hAt T (Int32.ofNat i)) nc ≤ v.2 then f_X11_crowd_11 N n v.1 (if v.2 < cnt9 (hAt T (Int32.ofNat i)) nc then cnt9 (hAt T (Int32.ofNat i)) nc else v.2) (Int32.ofNat i + 1) M else f_X11_crowd_11 N n (Int32.ofNat i) (if v.2 < cnt9 (hAt T (Int32.ofNat i)) nc then cnt9 (hAt T (Int32.ofNat i)) nc else v.2) (Int32.ofNat i + 1) M) = _
      by_cases q : cnt9 (hAt T (Int32.ofNat i)) nc ≤ v.2
      · rw [if_pos q, if_pos q, if_neg (Int32.not_lt.mpr q), i32_succ]
      · rw [if_neg q, if_neg q, if_pos (Int32.not_le.mp q), i32_succ]
    · show f_X11_crowd_23 N (fun v1 v2 v3 M => f_X11_crowd_11 N n v1 v2 v3 M) (n9 + 1) v.1 v.2 (Int32.ofNat i) w (Int32.ofNat nc) M = _
      rw [f_X11_crowd_23, m_cellars]
      simp only [bnd]
      rw [hR.1.2.2.2.2.2, if_pos (Int32.le_refl _)]
      rfl
    · show f_X11_crowd_23 N (fun v1 v2 v3 M => f_X11_crowd_11 N n v1 v2 v3 M) (n9 + 1) v.1 v.2 (Int32.ofNat i) w (Int32.ofNat j) M = _
      rw [f_X11_crowd_23, m_cellars]
      simp only [bnd]
      rw [hR.1.2.2.2.2.2, if_neg (i32_nle hj (by omega)), m_free01 hR hj]
      simp only [m_cel0 hR hj, lt, i32_succ, f_X11_crowd_58, Int32.add_zero]
      by_cases q1 : T 6 j ≤ 0
      · have e : hAt T (Int32.ofNat i) j = false := by unfold hAt; rw [decide_eq_true q1]; rfl
        rw [if_pos q1, e, if_neg (by decide), if_neg (by decide)]
      · rw [if_neg q1, if_pos rfl]
        by_cases q2 : T 4 j = Int32.ofNat i
        · have e : hAt T (Int32.ofNat i) j = true := by unfold hAt; rw [decide_eq_false q1, decide_eq_true q2]; rfl
          rw [if_pos q2, e, if_pos rfl]
        · have e : hAt T (Int32.ofNat i) j = false := by unfold hAt; rw [decide_eq_false q1, decide_eq_false q2]; rfl
          rw [if_neg q2, e, if_neg (by decide)]
/-! sums over two -/
def sI (g : Nat → Int32) : Nat → Nat → Int32
  | 0, _ => 0
  | k + 1, i => g i + sI g k (i + 1)
theorem nF_sI {g : Nat → Int32} : ∀ (k i : Nat) (v : Int32), nF (fun v i => v + g i) k i v = v + sI g k i := by
  intro k
  induction k with
  | zero => intro i v; rw [nF, sI, Int32.add_zero]
  | succ k ih => intro i v; rw [nF, sI, ih, Int32.add_assoc]
theorem sI_add {g h : Nat → Int32} : ∀ (k i : Nat), sI (fun i => g i + h i) k i = sI g k i + sI h k i := by
  intro k
  induction k with
  | zero => intro i; rfl
  | succ k ih => intro i; rw [sI, sI, sI, ih]; grind
theorem sI_0 : ∀ (k i : Nat), sI (fun _ => 0) k i = 0 := by
  intro k
  induction k with
  | zero => intro i; rfl
  | succ k ih => intro i; rw [sI, ih]; rfl
theorem sI_ex {f : Nat → Nat → Int32} : ∀ (n m i j : Nat), sI (fun d => sI (fun t => f d t) m j) n i = sI (fun t => sI (fun d => f d t) n i) m j := by
  intro n
  induction n with
  | zero => intro m i j; rw [sI]; exact (sI_0 m j).symm
  | succ n ih =>
    intro m i j
    rw [sI, ih m (i + 1) j, ← sI_add]
    congr 1
def sWhole (nd nc : Nat) (T : Tb) : Int32 := T 0 8 + sGr nc T + sI (fun d => sI (fun t => T 3 (6 * d + t)) 6 0) nd 0
theorem c_whl (hN : 60 < N) (hnd : nd ≤ 8) (hnc : nc ≤ 5) (h70 : M 7 0 = Int32.ofNat nd) (h71 : M 7 1 = Int32.ofNat nc) : f_X10_whole N M = some (sWhole nd nc (slc 7 M), M) := by
  unfold f_X10_whole
  rw [c_grainsInAll hN hnc h71]
  simp only [bnd, lt]
  have h := lp_n (f := fun n v i => f_X10_whole_18 N n v i M) (fin := fun v => some (v, M)) (st := fun v d => v + sI (fun t => slc 7 M 3 (6 * d + t)) 6 0) (m := nd) (fun n v => ?_) (fun n v i hi => ?_) N nd 0 (M 7 8 + sGr nc (slc 7 M)) (by omega) (by omega)
  · refine h.trans ?_
    show some (_, M) = _
    rw [nF_sI]; rfl
  · show f_X10_whole_18 N (n + 1) v (Int32.ofNat nd) M = _
    rw [f_X10_whole_18, h70, if_pos (Int32.le_refl _)]
  · show f_X10_whole_18 N (n + 1) v (Int32.ofNat i) M = _
    rw [f_X10_whole_18, h70, if_neg (i32_nle hi (by omega)), c_hasInAll hN (by omega)]
    simp only [bnd, lt, i32_succ, sSumH]
    rw [nF_sI, Int32.zero_add]
theorem m_whole (hN : 60 < N) (hR : RW nd nc T L (M 209)) : f_X11_whole_20 N N (sGr nc T + T 0 8) 0 M = some (sWhole nd nc T, M) := by
  have h := lp_n (f := fun n v i => f_X11_whole_20 N n v i M) (fin := fun v => some (v, M)) (st := fun v t => v + sI (fun d => T 3 (6 * d + t)) nd 0) (m := 6) (fun n v => ?_) (fun n v i hi => ?_) N 6 0 (sGr nc T + T 0 8) (by omega) (by omega)
  · refine h.trans ?_
    show some (_, M) = _
    unfold sWhole
    rw [nF_sI, sI_ex, Int32.add_comm (sGr nc T) (T 0 8)]
  · show f_X11_whole_20 N (n + 1) v (Int32.ofNat 6) M = _
    rw [f_X11_whole_20, if_pos (show (6 : Int32) ≤ Int32.ofNat 6 by decide)]
  · show f_X11_whole_20 N (n + 1) v (Int32.ofNat i) M = _
    rw [f_X11_whole_20, if_neg (show ¬ (6 : Int32) ≤ Int32.ofNat i from i32_nle (n := 6) hi (by omega)), m_haveOf hN hR hi]
    simp only [bnd, lt, i32_succ, sHave]
    rw [nF_sI, Int32.zero_add]
/-! pairs -/
def pr (T : Tb) (i j : Nat) : Int32 := if sMain T i = -1 then 0 else if sMain T i = sMain T j then 1 else 0
theorem pr_s {i j : Nat} : pr T i j = pr T j i := by
  unfold pr
  by_cases q : sMain T i = sMain T j
  · rw [q]
  · rw [if_neg q, if_neg (Ne.symm q)]; split <;> split <;> rfl
def sPr1 (nd : Nat) (p : Nat → Nat → Int32) : Int32 := sI (fun d => sI (fun o => p d o) (nd - (d + 1)) (d + 1)) nd 0
def sPr2 (nd : Nat) (p : Nat → Nat → Int32) : Int32 := sI (fun a => sI (fun b => p a b) a 0) nd 0
theorem sI_cg {g h : Nat → Int32} : ∀ (k i : Nat), (∀ j, i ≤ j → j < i + k → g j = h j) → sI g k i = sI h k i := by
  intro k
  induction k with
  | zero => intro i _; rfl
  | succ k ih => intro i hj; rw [sI, sI, hj i (by omega) (by omega), ih (i + 1) (fun j h1 h2 => hj j (by omega) (by omega))]
theorem sI_last {g : Nat → Int32} : ∀ (k i : Nat), sI g (k + 1) i = sI g k i + g (i + k) := by
  intro k
  induction k with
  | zero => intro i; rw [sI, sI]; simp [sI]
  | succ k ih => intro i; rw [sI, ih (i + 1), sI, Int32.add_assoc]; congr 3; omega
theorem sPr_eq {p : Nat → Nat → Int32} (hp : ∀ i j, p i j = p j i) : ∀ nd, sPr1 nd p = sPr2 nd p := by
  intro nd
  induction nd with
  | zero => rfl
  | succ n ih =>
    unfold sPr2
    rw [sI_last, Nat.zero_add]
    show _ = sPr2 n p + _
    rw [← ih]
    unfold sPr1
    rw [sI_last, show n + 1 - (0 + n + 1) = 0 from by omega]
    show sI _ n 0 + 0 = _
    rw [Int32.add_zero, sI_cg (h := fun d => sI (fun o => p d o) (n - (d + 1)) (d + 1) + p d n) n 0 (fun j h1 h2 => ?_), sI_add]
    · congr 1
      exact sI_cg n 0 (fun j _ _ => hp j n)
    · rw [show n + 1 - (j + 1) = (n - (j + 1)) + 1 from by omega, sI_last]
      congr 2; omega
theorem c_alike (hN : 60 < N) (hnd : nd ≤ 8) (h70 : M 7 0 = Int32.ofNat nd) : f_X10_alike N M = some (sPr1 nd (pr (slc 7 M)), M) := by
  unfold f_X10_alike
  have h := lp_n (f := fun n v i => f_X10_alike_4 N n v i M) (fin := fun v => some (v, M)) (st := fun v d => v + sI (fun o => pr (slc 7 M) d o) (nd - (d + 1)) (d + 1)) (m := nd) (fun n v => ?_) (fun n v i hi => ?_) N nd 0 0 (by omega) (by omega)
  · refine h.trans ?_
    show some (_, M) = _
    rw [nF_sI, Int32.zero_add]; rfl
  · show f_X10_alike_4 N (n + 1) v (Int32.ofNat nd) M = _
    rw [f_X10_alike_4, h70, if_pos (Int32.le_refl _)]
  · show f_X10_alike_4 N (n + 1) v (Int32.ofNat i) M = _
    rw [f_X10_alike_4, h70, if_neg (i32_nle hi (by omega)), c_mainTrait hN (by omega)]
    simp only [bnd, lt, i32_succ]
    have hin := lp_n (f := fun n9 w j => f_X10_alike_29 N (fun v1 v2 M => f_X10_alike_4 N n v1 v2 M) n9 w (Int32.ofNat i) (sMain (slc 7 M) i) j M) (fin := fun w => f_X10_alike_4 N n w (Int32.ofNat i + 1) M) (st := fun w o => w + pr (slc 7 M) i o) (m := nd) (fun n9 w => ?_) (fun n9 w j hj => ?_) N (nd - (i + 1)) (i + 1) v (by omega) (by omega)
    · refine hin.trans ?_
      show f_X10_alike_4 N n _ _ M = _
      rw [nF_sI, i32_succ]
    · show f_X10_alike_29 N (fun v1 v2 M => f_X10_alike_4 N n v1 v2 M) (n9 + 1) w (Int32.ofNat i) (sMain (slc 7 M) i) (Int32.ofNat nd) M = _
      rw [f_X10_alike_29, h70, if_pos (Int32.le_refl _)]
    · show f_X10_alike_29 N (fun v1 v2 M => f_X10_alike_4 N n v1 v2 M) (n9 + 1) w (Int32.ofNat i) (sMain (slc 7 M) i) (Int32.ofNat j) M = _
      rw [f_X10_alike_29, h70, if_neg (i32_nle hj (by omega)), c_mainTrait hN (by omega)]
      simp only [bnd, i32_succ, pr]
      by_cases q1 : sMain (slc 7 M) i = -1
      · rw [if_pos q1, if_pos q1, Int32.add_zero]
      · rw [if_neg q1, if_neg q1]
        by_cases q2 : sMain (slc 7 M) i = sMain (slc 7 M) j
        · rw [if_pos q2, if_pos q2]
        · rw [if_neg q2, if_neg q2, Int32.add_zero]
theorem m_alike (hN : 60 < N) (hR : RW nd nc T L (M 209)) : f_X11_alike_9 N N 0 0 M = some (sPr2 nd (pr T), M) := by
  have hnd := hR.1.1
  have h := lp_n (f := fun n v i => f_X11_alike_9 N n v i M) (fin := fun v => some (v, M)) (st := fun v a => v + sI (fun b => pr T a b) a 0) (m := nd) (fun n v => ?_) (fun n v i hi => ?_) N nd 0 0 (by omega) (by omega)
  · refine h.trans ?_
    show some (_, M) = _
    rw [nF_sI, Int32.zero_add]; rfl
  · show f_X11_alike_9 N (n + 1) v (Int32.ofNat nd) M = _
    rw [f_X11_alike_9, m_diners]
    simp only [bnd]
    rw [hR.1.2.2.2.2.1, if_pos (Int32.le_refl _)]
  · show f_X11_alike_9 N (n + 1) v (Int32.ofNat i) M = _
    rw [f_X11_alike_9, m_diners]
    simp only [bnd]
    rw [hR.1.2.2.2.2.1, if_neg (i32_nle hi (by omega))]
    have hin := lp_n (f := fun n9 w j => f_X11_alike_19 N (fun v1 v2 M => f_X11_alike_9 N n v1 v2 M) n9 w (Int32.ofNat i) j M) (fin := fun w => f_X11_alike_9 N n w (Int32.ofNat i + 1) M) (st := fun w o => w + pr T i o) (m := i) (fun n9 w => ?_) (fun n9 w j hj => ?_) N i 0 v (by omega) (by omega)
    · refine hin.trans ?_
      show f_X11_alike_9 N n _ _ M = _
      rw [nF_sI, i32_succ]
    · show f_X11_alike_19 N (fun v1 v2 M => f_X11_alike_9 N n v1 v2 M) (n9 + 1) w (Int32.ofNat i) (Int32.ofNat i) M = _
      rw [f_X11_alike_19, if_pos (Int32.le_refl _)]
    · show f_X11_alike_19 N (fun v1 v2 M => f_X11_alike_9 N n v1 v2 M) (n9 + 1) w (Int32.ofNat i) (Int32.ofNat j) M = _
      rw [f_X11_alike_19, if_neg (i32_nle hj (by omega))]
      simp only [bnd, m_traitOf hN hR hi, m_traitOf hN hR (show j < nd by omega), lt, i32_succ, pr, f_X11_alike_51]
      by_cases q1 : sMain T i = -1
      · rw [if_pos q1, if_pos q1]
      · rw [if_neg q1, if_neg q1]
        by_cases q2 : sMain T i = sMain T j
        · rw [if_pos q2, if_pos q2]
        · rw [if_neg q2, if_neg q2]
end CR
