/-! Keenest, meets, least, trial, span. -/
theorem lp_p {β ρ : Type} {f : Nat → β → Int32 → Option ρ} {fin : β → Option ρ} {st : β → Nat → β} {m : Nat} {P : β → Prop} (hP : ∀ v i, i < m → P v → P (st v i)) (h0 : ∀ n v, P v → f (n + 1) v (Int32.ofNat m) = fin v) (h1 : ∀ n v i, i < m → P v → f (n + 1) v (Int32.ofNat i) = f n (st v i) (Int32.ofNat (i + 1))) : ∀ (n k i : Nat) (v : β), P v → i + k = m → k < n → f n v (Int32.ofNat i) = fin (nF st k i v) := by
  intro n
  induction n with
  | zero => intro k i v _ _ h; omega
  | succ n ih =>
    intro k i v hv hik hk
    match k with
    | 0 =>
      obtain rfl : i = m := by omega
      exact h0 n v hv
    | k + 1 =>
      rw [h1 n v i (by omega) hv, ih k (i + 1) _ (hP v i (by omega) hv) (by omega) (by omega)]; rfl
theorem nF_rl {β γ : Type} {st : β → Nat → β} {st' : γ → Nat → γ} {m : Nat} {R : β → γ → Prop} (h : ∀ a b i, i < m → R a b → R (st a i) (st' b i)) : ∀ (k i : Nat) (a : β) (b : γ), i + k ≤ m → R a b → R (nF st k i a) (nF st' k i b) := by
  intro k
  induction k with
  | zero => intro i a b _ hr; exact hr
  | succ k ih => intro i a b hi hr; exact ih (i + 1) _ _ (by omega) (h a b i (by omega) hr)
section KE
variable {nd nc : Nat} {T : Tb} {L : List Row} {K : LwS} {W : Lw} {br : Int32} {M : Mm} {e : Es}
def tkB (B : Nat) (e : Es) : Prop := ∀ d, d < 8 → ∃ k, k ≤ B ∧ e.2.1 d = Int32.ofNat k
theorem tk_eat {B c : Nat} (h : gdE nd nc W br e) (hc : c < nc) (hB : tkB B e) : tkB (B + 200) (sEat W br c e) := by
  have hw : tkB (B + 200) e := fun d hd => by obtain ⟨k, h1, h2⟩ := hB d hd; exact ⟨k, by omega, h2⟩
  obtain ⟨M, hR, -, -⟩ := h
  have hnc := hR.1.2.1
  obtain ⟨-, -, ⟨g, hg, h6⟩, -⟩ := hR.2.2.2.2.2.2.1.2.2.2.2 c hc
  unfold sEat
  split
  · exact hw
  · split
    · exact hw
    · split
      · exact hw
      · intro d hd
        dsimp only
        have h9 := sP_le (W := W) (br := br) (T := e.1) (c := c) (d := sWho e.1 c) (by omega) (by rw [h6]; exact i32_ge0 (by omega))
        obtain ⟨p, hp, ep⟩ := i32_ex (n := 201) h9.1 (Int32.lt_of_le_of_lt h9.2 (by rw [h6]; exact i32_ltn (by omega) (by omega))) (by omega)
        by_cases q : d = (sWho e.1 c).toNatClampNeg
        · rw [← q, updF_eq, ep]
          obtain ⟨k, h1, h2⟩ := hB d hd
          exact ⟨k + p, by omega, by rw [h2, i32_addN]⟩
        · rw [updF_ne q]; exact hw d hd
theorem tk_all (hO : lwOK W) : ∀ (k i B : Nat) (e : Es), gdE nd nc W br e → i + k = nc → tkB B e → tkB (B + 200 * k) (sAll W br k i e) := by
  intro k
  induction k with
  | zero => intro i B e _ _ h; exact h
  | succ k ih =>
    intro i B e hg hik hB
    have h9 := ih (i + 1) (B + 200) (sEat W br i e) (gd_eat hO hg (by omega)) (by omega) (tk_eat hg (by omega) hB)
    rw [show B + 200 * (k + 1) = B + 200 + 200 * k from by omega]
    exact h9
theorem tk_go (hO : lwOK W) : ∀ (k B : Nat) (e : Es), gdE nd nc W br e → tkB B e → tkB (B + 1000 * k) (sGo W br nc k e) := by
  intro k
  induction k with
  | zero => intro B e _ h; exact h
  | succ k ih =>
    intro B e hg hB
    have hnc : nc ≤ 5 := by obtain ⟨M, hR, -⟩ := hg; exact hR.1.2.1
    have h1 : tkB (B + 1000) (sCalm W br nc e) := fun d hd => by
      obtain ⟨q, h2, h3⟩ := tk_all hO nc 0 B (e.1, e.2.1, 0, e.2.2.2) hg (by omega) hB d hd
      exact ⟨q, by omega, h3⟩
    have h9 := ih (B + 1000) (sCalm W br nc e) (gd_calm hO hg) h1
    rw [show B + 1000 * (k + 1) = B + 1000 + 1000 * k from by omega]
    exact h9
def sKeC (tk : Nat → Int32) (nd : Nat) : Int32 × Int32 := nF (fun (v : Int32 × Int32) d => if tk d ≤ v.2 then v else (Int32.ofNat d, tk d)) nd 0 (-1, -1)
def sKeM (tk : Nat → Int32) (nd : Nat) : Int32 := nF (fun v d => if v < 0 then Int32.ofNat d else if tk d ≤ tk v.toNatClampNeg then v else Int32.ofNat d) nd 0 (-1)
theorem ke_eq {tk : Nat → Int32} (hnd : nd ≤ 8) (h0 : ∀ d, d < 8 → 0 ≤ tk d) : (sKeC tk nd).1 = sKeM tk nd := by
  have h := nF_rl (st := fun (v : Int32 × Int32) d => if tk d ≤ v.2 then v else (Int32.ofNat d, tk d)) (st' := fun v d => if v < 0 then Int32.ofNat d else if tk d ≤ tk v.toNatClampNeg then v else Int32.ofNat d) (m := nd) (R := fun a b => a.1 = b ∧ ((a.2 = -1 ∧ b = -1) ∨ ∃ q, q < 8 ∧ b = Int32.ofNat q ∧ a.2 = tk q)) (fun a b i hi hr => ?_) nd 0 (-1, -1) (-1) (by omega) ⟨rfl, Or.inl ⟨rfl, rfl⟩⟩
  · exact h.1
  · obtain ⟨r1, r2⟩ := hr
    have hp : 0 ≤ tk i := h0 i (by omega)
    rcases r2 with ⟨e1, e2⟩ | ⟨q, hq, e1, e2⟩
    · have n1 : ¬ tk i ≤ a.2 := by
        rw [e1]
        intro h9
        exact absurd (Int32.le_trans hp h9) (by decide)
      rw [if_neg n1, if_pos (by rw [e2]; decide)]
      exact ⟨rfl, Or.inr ⟨i, by omega, rfl, rfl⟩⟩
    · rw [if_neg (show ¬ b < 0 from by rw [e1]; exact i32_nn (by omega)), e1, i32_clampN (by omega), e2]
      by_cases q2 : tk i ≤ tk q
      · rw [if_pos q2, if_pos q2]
        exact ⟨r1.trans e1, Or.inr ⟨q, hq, rfl, e2⟩⟩
      · rw [if_neg q2, if_neg q2]
        exact ⟨rfl, Or.inr ⟨i, by omega, rfl, rfl⟩⟩
theorem c_keen {N : Nat} (hN : 60 < N) (hnd : nd ≤ 8) (h70 : M 7 0 = Int32.ofNat nd) : f_X10_keenest_21 N N (-1) (-1) 0 M = some (.inl (sKeC (M 41) nd).1, M) := by
  unfold sKeC
  refine lp_n (f := fun n (v : Int32 × Int32) i => f_X10_keenest_21 N n v.1 v.2 i M) (fin := fun v => some (.inl v.1, M)) (m := nd) (fun n v => ?_) (fun n v i hi => ?_) N nd 0 (-1, -1) (by omega) (by omega)
  · show f_X10_keenest_21 N (n + 1) v.1 v.2 (Int32.ofNat nd) M = _
    rw [f_X10_keenest_21, h70, if_pos (Int32.le_refl _)]
  · show f_X10_keenest_21 N (n + 1) v.1 v.2 (Int32.ofNat i) M = _
    rw [f_X10_keenest_21, h70, if_neg (i32_nle hi (by omega))]
    simp only [grd, inb_ofNat (show i < 8 by omega) (by omega), if_true, lt, i32_clampN (show i < 2147483648 by omega), i32_succ]
    split <;> rfl
theorem m_keen {N : Nat} (hN : 60 < N) (hnd : nd ≤ 8) (h0 : M 209 0 = Int32.ofNat nd) : f_X11_keenest_28 N N (-1) 0 M = some (sKeM (M 217) nd, M) := by
  unfold sKeM
  refine lp_p (f := fun n v i => f_X11_keenest_28 N n v i M) (fin := fun v => some (v, M)) (m := nd) (P := fun v => v = -1 ∨ ∃ q, q < 8 ∧ v = Int32.ofNat q) (fun v i hi hv => ?_) (fun n v hv => ?_) (fun n v i hi hv => ?_) N nd 0 (-1) (Or.inl rfl) (by omega) (by omega)
  · split
    · exact Or.inr ⟨i, by omega, rfl⟩
    · split
      · exact hv
      · exact Or.inr ⟨i, by omega, rfl⟩
  · show f_X11_keenest_28 N (n + 1) v (Int32.ofNat nd) M = _
    rw [f_X11_keenest_28, m_diners]
    simp only [bnd]
    rw [h0, if_pos (Int32.le_refl _)]
  · show f_X11_keenest_28 N (n + 1) v (Int32.ofNat i) M = _
    rw [f_X11_keenest_28, m_diners]
    simp only [bnd]
    rw [h0, if_neg (i32_nle hi (by omega))]
    rcases hv with e | ⟨q, hq, e⟩
    · subst e
      rw [if_pos (by decide), if_pos (by decide)]
      simp only [f_X11_keenest_55, i32_succ]
    · subst e
      rw [if_neg (i32_nn (by omega)), if_neg (i32_nn (by omega))]
      simp only [grd, inb_ofNat (show i < 8 by omega) (by omega), inb_ofNat hq (by omega), if_true, i32_clampN (show i < 2147483648 by omega), i32_clampN (show q < 2147483648 by omega), i32_succ, f_X11_keenest_55]
      split <;> rfl
theorem ke_cg {tk tk' : Nat → Int32} (hnd : nd ≤ 8) (h : ∀ d, d < 8 → tk d = tk' d) : sKeC tk nd = sKeC tk' nd := by
  unfold sKeC
  exact nF_cg (m := nd) (fun v i hi => by rw [h i (by omega)]) nd 0 _ (by omega)
theorem P_keenest {M : Mm} (h : InvM M) (v1 : Int32) : Kd (fun M => f_L_keenest 20000 v1 M) (fun M => f_X11_keenest 20000 v1 M) M := by
  obtain ⟨nd, nc, T, L, K, ms, im, tp, ft, h, hR, hs, hz, h70, h71, hnd, hnc⟩ := Ix h
  have hO : lwOK K.2 := h.2.2.1
  rcases i32_rng v1 (n := 201) (by omega) with ⟨t, ht, rfl⟩ | hb2
  · obtain ⟨M1, a1, a2, a3, a4⟩ := c_looksAheadBy (nc := nc) (m := t) (W := K.2) (M := M) (by omega) hnc h.1.2.2.1.1 h.1.2.2.2.2.2.2.2 (by rw [hs]; exact hR.2.2.2.2.2.2.2) (by rw [hs]; exact hR.1.2.2.2.1) 0 L
    rw [hs] at a2 a3
    have hg := gd_go hO t _ (gd_I h.2.1 (clr (M 41)) 0)
    have htk := tk_go hO t 0 _ (gd_I h.2.1 (clr (M 41)) 0) (fun d hd => ⟨0, by omega, if_pos hd⟩)
    refine Kr (F := fun M => f_X10_keenest 20000 (Int32.ofNat t) M) (r := (sKeC (sGo K.2 0 nc t (T, clr (M 41), 0, L)).2.1 nd).1) (M1 := M1) (fun M => rfl) h ?_ (cQs a4 (by rw [a2]; exact gd_tz hg)) (fun M' hm => ?_)
    · have hwi : f_X10_needsWithin 20000 (Int32.ofNat t) 0 200 M = some (.inl 0, M) := c_nI (lo := 0) (m := 200) (by omega) (by omega) (by omega)
      simp only [f_X10_keenest, bnx, hwi, a1, bnd]
      rw [c_keen (by decide) hnd (by rw [a4 7 (by omega) (by omega) (by omega) (by omega)]; exact h70), a3]
    · obtain ⟨M2, b1, b2, b3, b4⟩ := m_lays (m := t) hO (mW hm (c := 0)) (mWl hm) (by omega) 0 (tk := clr (M 41)) (fun d hd => if_pos hd)
      rw [show (wr M' 208 0 0) 208 18 = 0 from by rw [wr_nk (by decide)]; exact hm.2.2.2.2.2.2] at b3
      refine ⟨M2, ?_, (mQs b2 (fun x h1 h2 h3 _ => b4 x h1 h2 h3)).trans mQ.t208, by rw [b4 208 (by decide) (by decide) (by decide), wr_eq]⟩
      simp only [f_X11_keenest, lt, bnd, if_true, m_noA ht, m_th0, b1]
      rw [m_keen (by decide) hnd (by rw [b2]; exact (mW hm).1.2.2.2.2.1), ← ke_eq hnd (fun d hd => ?_), ke_cg hnd b3]
      rw [b3 d hd]
      obtain ⟨k, h1, h2⟩ := htk d hd
      rw [h2]; exact i32_ge0 (by omega)
  · refine Kx (F := fun M => f_X10_keenest 20000 v1 M) (e := "java/lang/IllegalArgumentException") (code := 1) (M1 := M) (fun M => rfl) h ?_ hz (fun M => by simp) (by decide) (fun M' hm => ⟨wr (wr M' 208 0 0) 208 0 1, ?_, mQ.t208.trans mQ.t208, wr_eq⟩)
    · have hwi : f_X10_needsWithin 20000 v1 0 200 M = some (.inr "java/lang/IllegalArgumentException", M) := c_nIx (lo := 0) (m := 200) hb2 (by omega)
      simp only [f_X10_keenest, bnx, hwi]
    · simp only [f_X11_keenest, lt, bnd, m_noAx hb2, m_th1, show ¬ (1 : Int32) = 0 from by decide, if_false]
end KE
/-! meets, least -/
section ML
variable {nd nc : Nat} {T : Tb} {L : List Row} {W : Lw} {br : Int32}
def sMeet (W : Lw) (br : Int32) (nc : Nat) (s : Int32) : Nat → Int32 → Es → Int32
  | 0, v, _ => v
  | k + 1, v, e => sMeet W br nc s k (v ||| mkB (hAt e.1 s) nc) (sCalm W br nc e)
theorem c_meets_23 {s : Int32} (hO : lwOK W) : ∀ (n k i : Nat) (v : Int32) (M : Mm) (e : Es), gdE nd nc W (M 39 2) e → cLaw 25 W M → slc 16 M = e.1 → M 41 = e.2.1 → i + k = 12 → k < n → ∃ M', f_X10_meets_23 20000 n s v (Int32.ofNat i) M = some (.inl (sMeet W (M 39 2) nc s k v e), M') ∧ tz (slc 16 M') ∧ ∀ x, (x < 16 ∨ 24 < x) → x ≠ 40 → x ≠ 41 → M' x = M x := by
  intro n
  induction n with
  | zero => intro k i v M e _ _ _ _ _ h; omega
  | succ n ih =>
    intro k i v M e hg hW h1 h2 hik hk
    have hnc : nc ≤ 5 := by obtain ⟨M, hR, -⟩ := hg; exact hR.1.2.1
    have hn1 : e.1 0 1 = Int32.ofNat nc := by obtain ⟨M, hR, -⟩ := hg; exact hR.1.2.2.2.1
    rw [f_X10_meets_23]
    match k with
    | 0 =>
      rw [if_pos (show (12 : Int32) ≤ Int32.ofNat i from i32_len (k := 12) (by omega) (by omega))]
      exact ⟨M, rfl, by rw [h1]; exact gd_tz hg, fun _ _ _ _ => rfl⟩
    | k + 1 =>
      rw [if_neg (show ¬ (12 : Int32) ≤ Int32.ofNat i from i32_nle (n := 12) (by omega) (by omega)), c_heldAt (by decide) hnc (by rw [← hn1]; exact slE h1 (i := 0) (by decide))]
      simp only [bnd, lt]
      obtain ⟨M1, g1, g2, g3, g4, g5⟩ := c_ahead hnc hW h1 h2 hn1
      rw [g1]
      simp only [i32_succ]
      have e39 : M1 39 = M 39 := g5 39 (by omega) (by omega) (by omega)
      obtain ⟨M', k1, k2, k3⟩ := ih k (i + 1) (v ||| mkB (hAt (slc 16 M) s) nc) M1 (sCalm W (M 39 2) nc e) (by rw [e39]; exact gd_calm hO hg) (hW.frame (fun j hj => g5 _ (by omega) (by omega) (by omega))) g2 g3 (by omega) (by omega)
      rw [e39, h1] at k1
      rw [h1]
      exact ⟨M', k1, k2, fun x x1 x2 x3 => (k3 x x1 x2 x3).trans (g5 x x1 x2 x3)⟩
theorem nF_orv {hb : Nat → Bool} : ∀ (k i : Nat) (v : Int32), nF (fun v c => if hb c = true then v ||| ((1 : Int32) <<< (Int32.ofNat c &&& 31)) else v) k i v = v ||| nF (fun v c => if hb c = true then v ||| ((1 : Int32) <<< (Int32.ofNat c &&& 31)) else v) k i 0 := by
  have oa : ∀ a b c : Int32, (a ||| b) ||| c = a ||| (b ||| c) := fun a b c => Int32.or_assoc a b c
  have zo : ∀ a : Int32, 0 ||| a = a := fun a => by rw [Int32.or_comm]; exact i32_or0 a
  intro k
  induction k with
  | zero => intro i v; rw [nF, nF, i32_or0]
  | succ k ih =>
    intro i v
    rw [nF, nF, ih (i + 1), ih (i + 1) (if hb i = true then (0 : Int32) ||| ((1 : Int32) <<< (Int32.ofNat i &&& 31)) else 0)]
    by_cases q : hb i = true
    · rw [if_pos q, if_pos q, oa, zo]
    · rw [if_neg q, if_neg q, zo]
theorem RW_seatN {w : Nat → Int32} (hR : RW nd nc T L w) {s d : Nat} (hs : s < 10) (hd : d < nd) (e : T 1 s = Int32.ofNat d) : w (12 + 9 * d) = Int32.ofNat s := by
  have hnd := hR.1.1
  rcases hR.2.2.1.2 s hs with e4 | ⟨d', hd', e5, e6⟩
  · rw [e] at e4; exact absurd e4 (i32_nm1 (by omega))
  · rw [e] at e5
    have := (i32_eqN (by omega) (by omega)).mp e5
    subst this
    exact e6
theorem m_meets_37 {k28 : Int32 → Int32 → Int32 → Mm → Option (Int32 × Mm)} {d s : Nat} {v3 : Int32} {M : Mm} (hR : RW nd nc T L (M 209)) (hd : d < nd) (hs : s < 10) (hsd : T 1 s = Int32.ofNat d) (v : Int32) : f_X11_meets_37 20000 k28 20000 (Int32.ofNat d) v v3 0 M = bnd (f_X11_oneCourse 20000 1 M) (fun _ M21 => k28 (Int32.ofNat d) (v ||| mkB (hAt T (Int32.ofNat s)) nc) (v3 + 1) M21) := by
  have hnc := hR.1.2.1
  have hnd := hR.1.1
  have hseat : f_X11_of 20000 (Int32.ofNat d) 0 M = some (Int32.ofNat s, M) := by
    rw [show (0 : Int32) = Int32.ofNat 0 from rfl, m_of (by omega) (by decide), Nat.add_zero, RW_seatN hR hs hd hsd]
  have h := lp_n (f := fun n v i => f_X11_meets_37 20000 k28 n (Int32.ofNat d) v v3 i M) (fin := fun v => bnd (f_X11_oneCourse 20000 1 M) (fun _ M21 => k28 (Int32.ofNat d) v (v3 + 1) M21)) (st := fun v c => if hAt T (Int32.ofNat s) c = true then v ||| ((1 : Int32) <<< (Int32.ofNat c &&& 31)) else v) (m := nc) (fun n v => ?_) (fun n v i hi => ?_) 20000 nc 0 v (by omega) (by omega)
  · refine h.trans ?_
    rw [nF_orv]; rfl
  · show f_X11_meets_37 20000 k28 (n + 1) (Int32.ofNat d) v v3 (Int32.ofNat nc) M = _
    rw [f_X11_meets_37, m_cellars]
    simp only [bnd]
    rw [hR.1.2.2.2.2.2, if_pos (Int32.le_refl _)]
  · show f_X11_meets_37 20000 k28 (n + 1) (Int32.ofNat d) v v3 (Int32.ofNat i) M = _
    rw [f_X11_meets_37, m_cellars]
    simp only [bnd]
    rw [hR.1.2.2.2.2.2, if_neg (i32_nle hi (by omega)), m_free01 hR hi]
    simp only [m_cel0 hR hi, hseat, lt, i32_succ, f_X11_meets_79, i32_or0]
    by_cases q1 : T 6 i ≤ 0
    · have e : hAt T (Int32.ofNat s) i = false := by unfold hAt; rw [decide_eq_true q1]; rfl
      rw [if_pos q1, e, if_neg (by decide), if_neg (by decide)]
    · rw [if_neg q1, if_pos rfl]
      by_cases q2 : T 4 i = Int32.ofNat s
      · have e : hAt T (Int32.ofNat s) i = true := by unfold hAt; rw [decide_eq_false q1, decide_eq_true q2]; rfl
        rw [if_pos q2, e, if_pos rfl]
      · have e : hAt T (Int32.ofNat s) i = false := by unfold hAt; rw [decide_eq_false q1, decide_eq_false q2]; rfl
        rw [if_neg q2, e, if_neg (by decide)]
theorem m_meets_28 {d s : Nat} {M0 : Mm} (hO : lwOK W) (hs : s < 10) (hd : d < nd) : ∀ (n k i : Nat) (v : Int32) (e : Es) (M : Mm), RW nd nc e.1 e.2.2.2 (M 209) → wLaw W M → kBk M M0 → e.1 1 s = Int32.ofNat d → M 208 18 = br → i + k = 12 → k < n → ∃ M', f_X11_meets_28 20000 n (Int32.ofNat d) v (Int32.ofNat i) M = some (sMeet W br nc (Int32.ofNat s) k v e, M') ∧ M' 209 = M0 209 ∧ ∀ x, x ≠ 209 → x ≠ 216 → M' x = M x := by
  intro n
  induction n with
  | zero => intro k i v e M _ _ _ _ _ _ h; omega
  | succ n ih =>
    intro k i v e M hR hW hB hsd hbr hik hk
    rw [f_X11_meets_28]
    match k with
    | 0 =>
      rw [if_pos (show (12 : Int32) ≤ Int32.ofNat i from i32_len (k := 12) (by omega) (by omega))]
      obtain ⟨M1, a1, a2, a3⟩ := m_bringsBack hB.1 hB.2
      rw [a1]
      exact ⟨M1, rfl, a2, fun x h1 _ => a3 x h1⟩
    | k + 1 =>
      rw [if_neg (show ¬ (12 : Int32) ≤ Int32.ofNat i from i32_nle (n := 12) (by omega) (by omega)), m_meets_37 hR hd hs hsd v]
      obtain ⟨M1, a1, a2, a3⟩ := m_calm (e := e) hO hR hW
      rw [hbr] at a1 a2
      rw [a1]
      simp only [bnd, i32_succ]
      obtain ⟨M', b1, b2, b3⟩ := ih k (i + 1) (v ||| mkB (hAt e.1 (Int32.ofNat s)) nc) (sCalm W br nc e) M1 a2 (a3.law hW hO) (hB.st a3) (by rw [sCalm_row (by decide) (by decide) (by decide) (by decide)]; exact hsd) (by rw [a3.2.2 208 (by decide) (by decide)]; exact hbr) (by omega) (by omega)
      exact ⟨M', b1, b2, fun x h1 h2 => (b3 x h1 h2).trans (a3.2.2 x h1 h2)⟩
def sLea (W : Lw) (br : Int32) (nc : Nat) : Nat → Nat → Int32 → Int32 → Es → Int32
  | 0, _, b, _, _ => b
  | k + 1, g, b, f, e => if f ≤ (sCalm W br nc e).2.2.1 then sLea W br nc k (g + 1) b f (sCalm W br nc e) else sLea W br nc k (g + 1) (Int32.ofNat g) (sCalm W br nc e).2.2.1 (sCalm W br nc e)
theorem c_least_33 {m : Nat} (hm : m ≤ 60) (hO : lwOK W) : ∀ (n k i : Nat) (b f : Int32) (M : Mm) (e : Es), gdE nd nc W (M 39 2) e → cLaw 25 W M → slc 16 M = e.1 → M 41 = e.2.1 → i + k = m + 1 → k < n → ∃ M', f_X10_least_33 20000 n (Int32.ofNat m) b f (Int32.ofNat i) M = some (.inl (sLea W (M 39 2) nc k i b f e), M') ∧ tz (slc 16 M') ∧ ∀ x, (x < 16 ∨ 24 < x) → x ≠ 40 → x ≠ 41 → M' x = M x := by
  intro n
  induction n with
  | zero => intro k i b f M e _ _ _ _ _ h; omega
  | succ n ih =>
    intro k i b f M e hg hW h1 h2 hik hk
    have hnc : nc ≤ 5 := by obtain ⟨M, hR, -⟩ := hg; exact hR.1.2.1
    have hn1 : e.1 0 1 = Int32.ofNat nc := by obtain ⟨M, hR, -⟩ := hg; exact hR.1.2.2.2.1
    rw [f_X10_least_33]
    match k with
    | 0 =>
      rw [if_pos (i32_ltn (by omega) (by omega))]
      exact ⟨M, rfl, by rw [h1]; exact gd_tz hg, fun _ _ _ _ => rfl⟩
    | k + 1 =>
      rw [if_neg (i32_nlt (by omega) (by omega))]
      obtain ⟨M1, g1, g2, g3, g4, g5⟩ := c_ahead hnc hW h1 h2 hn1
      rw [g1, sLea]
      simp only [bnd, i32_succ]
      have e39 : M1 39 = M 39 := g5 39 (by omega) (by omega) (by omega)
      have hW1 : cLaw 25 W M1 := hW.frame (fun j hj => g5 _ (by omega) (by omega) (by omega))
      have hg1 : gdE nd nc W (M1 39 2) (sCalm W (M 39 2) nc e) := by rw [e39]; exact gd_calm hO hg
      by_cases q : f ≤ (sCalm W (M 39 2) nc e).2.2.1
      · rw [if_pos q, if_pos q]
        obtain ⟨M', k1, k2, k3⟩ := ih k (i + 1) b f M1 _ hg1 hW1 g2 g3 (by omega) (by omega)
        rw [e39] at k1
        exact ⟨M', k1, k2, fun x x1 x2 x3 => (k3 x x1 x2 x3).trans (g5 x x1 x2 x3)⟩
      · rw [if_neg q, if_neg q]
        obtain ⟨M', k1, k2, k3⟩ := ih k (i + 1) (Int32.ofNat i) (sCalm W (M 39 2) nc e).2.2.1 M1 _ hg1 hW1 g2 g3 (by omega) (by omega)
        rw [e39] at k1
        exact ⟨M', k1, k2, fun x x1 x2 x3 => (k3 x x1 x2 x3).trans (g5 x x1 x2 x3)⟩
theorem m_least_43 {m : Nat} {M0 : Mm} (hm : m ≤ 60) (hO : lwOK W) : ∀ (n k i : Nat) (b f : Int32) (e : Es) (M : Mm), RW nd nc e.1 e.2.2.2 (M 209) → wLaw W M → kBk M M0 → M 208 18 = br → i + k = m + 1 → k < n → ∃ M', f_X11_least_43 20000 n (Int32.ofNat m) b f (Int32.ofNat i) M = some (sLea W br nc k i b f e, M') ∧ M' 209 = M0 209 ∧ ∀ x, x ≠ 209 → x ≠ 216 → M' x = M x := by
  intro n
  induction n with
  | zero => intro k i b f e M _ _ _ _ _ h; omega
  | succ n ih =>
    intro k i b f e M hR hW hB hbr hik hk
    rw [f_X11_least_43]
    match k with
    | 0 =>
      rw [if_pos (i32_ltn (by omega) (by omega))]
      obtain ⟨M1, a1, a2, a3⟩ := m_bringsBack hB.1 hB.2
      rw [a1]
      exact ⟨M1, rfl, a2, fun x h1 _ => a3 x h1⟩
    | k + 1 =>
      rw [if_neg (i32_nlt (by omega) (by omega))]
      obtain ⟨M1, a1, a2, a3⟩ := m_calm (e := e) hO hR hW
      rw [hbr] at a1 a2
      rw [a1, sLea]
      simp only [bnd, i32_succ, f_X11_least_68, lt]
      have hbr1 : M1 208 18 = br := by rw [a3.2.2 208 (by decide) (by decide)]; exact hbr
      by_cases q : f ≤ (sCalm W br nc e).2.2.1
      · rw [if_pos q, if_pos q, if_neg (Int32.not_lt.mpr q)]
        obtain ⟨M', b1, b2, b3⟩ := ih k (i + 1) b f (sCalm W br nc e) M1 a2 (a3.law hW hO) (hB.st a3) hbr1 (by omega) (by omega)
        exact ⟨M', b1, b2, fun x h1 h2 => (b3 x h1 h2).trans (a3.2.2 x h1 h2)⟩
      · rw [if_neg q, if_neg q, if_pos (Int32.not_le.mp q)]
        obtain ⟨M', b1, b2, b3⟩ := ih k (i + 1) (Int32.ofNat i) (sCalm W br nc e).2.2.1 (sCalm W br nc e) M1 a2 (a3.law hW hO) (hB.st a3) hbr1 (by omega) (by omega)
        exact ⟨M', b1, b2, fun x h1 h2 => (b3 x h1 h2).trans (a3.2.2 x h1 h2)⟩
end ML
