/-! Sentences. -/
section SE
variable {nd nc g : Nat} {tn : Nat → Nat} {T : Tb} {L : List Row} {M : Mm}
def psS (tn : Nat → Nat) (nd : Nat) : Nat → Nat
  | 0 => 0
  | n + 1 => psS tn nd n + tn (n % nd)
def advS (tn : Nat → Nat) (nd g : Nat) : Nat → Nat → Nat
  | 0, n => n
  | k + 1, n => if g ≤ psS tn nd n then n else advS tn nd g k (n + 1)
def smTs (tn : Nat → Nat) : Nat → Nat
  | 0 => 0
  | n + 1 => smTs tn n + tn n
theorem adv_d {n : Nat} (h : g ≤ psS tn nd n) : ∀ k, advS tn nd g k n = n := by
  intro k
  match k with
  | 0 => rfl
  | k + 1 => rw [advS, if_pos h]
theorem adv_add : ∀ (a b n : Nat), advS tn nd g (a + b) n = advS tn nd g b (advS tn nd g a n) := by
  intro a
  induction a with
  | zero => intro b n; rw [Nat.zero_add]; rfl
  | succ a ih =>
    intro b n
    rw [show a + 1 + b = (a + b) + 1 from by omega, advS, advS]
    by_cases q : g ≤ psS tn nd n
    · rw [if_pos q, if_pos q, adv_d q]
    · rw [if_neg q, if_neg q, ih]
theorem adv_nd : ∀ (k n : Nat), ¬ g ≤ psS tn nd (advS tn nd g k n) → advS tn nd g k n = n + k := by
  intro k
  induction k with
  | zero => intro n _; rfl
  | succ k ih =>
    intro n h
    rw [advS] at h ⊢
    by_cases q : g ≤ psS tn nd n
    · rw [if_pos q] at h; exact absurd q h
    · rw [if_neg q] at h ⊢
      rw [ih (n + 1) h]; omega
theorem adv_le : ∀ (k n : Nat), advS tn nd g k n ≤ n + k := by
  intro k
  induction k with
  | zero => intro n; exact Nat.le_refl _
  | succ k ih =>
    intro n
    rw [advS]
    split
    · omega
    · have := ih (n + 1); omega
theorem adv_b (ht : ∀ d, tn d ≤ 9) : ∀ (k n : Nat), psS tn nd n ≤ g + 9 → psS tn nd (advS tn nd g k n) ≤ g + 9 := by
  intro k
  induction k with
  | zero => intro n h; exact h
  | succ k ih =>
    intro n h
    rw [advS]
    split
    · exact h
    · rename_i q
      apply ih
      rw [psS]
      have := ht (n % nd)
      omega
theorem lf_le {a b : Nat} (ha : a ≤ 1000) (hb : b ≤ 1000) : Int32.ofNat a - Int32.ofNat b ≤ 0 ↔ a ≤ b := by
  rw [Int32.le_iff_toInt_le, i32_sub (by rw [i32_nat (by omega), i32_nat (by omega)]; omega) (by rw [i32_nat (by omega), i32_nat (by omega)]; omega), i32_nat (by omega), i32_nat (by omega), show (0 : Int32).toInt = 0 from by decide]
  omega
theorem lf_st {n : Nat} : Int32.ofNat g - Int32.ofNat (psS tn nd n) - Int32.ofNat (tn (n % nd)) = Int32.ofNat g - Int32.ofNat (psS tn nd (n + 1)) := by
  rw [psS, ← i32_addN]; grind
theorem c_tg_30 {k15 : Int32 → Int32 → Int32 → Mm → Option (Int32 × Mm)} {r : Nat} (hnd : nd ≤ 8) (hg : g ≤ 200) (ht : ∀ d, tn d ≤ 9) (h70 : M 7 0 = Int32.ofNat nd) (h9 : ∀ d, d < nd → M 9 d = Int32.ofNat (tn d)) : ∀ (nf k i n : Nat), i + k = nd → n = r * nd + i → psS tn nd n ≤ g + 9 → k < nf → f_X10_takingsTillGone_30 20000 k15 nf (Int32.ofNat g - Int32.ofNat (psS tn nd n)) (Int32.ofNat n) (Int32.ofNat r) (Int32.ofNat i) M = k15 (Int32.ofNat g - Int32.ofNat (psS tn nd (advS tn nd g k n))) (Int32.ofNat (advS tn nd g k n)) (Int32.ofNat (r + 1)) M := by
  intro nf
  induction nf with
  | zero => intro k i n _ _ _ h; omega
  | succ nf ih =>
    intro k i n hik hn hb hk
    rw [f_X10_takingsTillGone_30, h70]
    match k with
    | 0 =>
      rw [if_pos (i32_len (by omega) (by omega)), i32_succ]; rfl
    | k + 1 =>
      rw [if_neg (i32_nle (by omega) (by omega)), advS]
      by_cases q : g ≤ psS tn nd n
      · rw [if_pos ((lf_le (by omega) (by omega)).mpr q), if_pos q, i32_succ]
      · rw [if_neg (fun h8 => q ((lf_le (by omega) (by omega)).mp h8)), if_neg q]
        have hm : n % nd = i := by
          rw [hn, Nat.mul_comm, Nat.mul_add_mod]
          exact Nat.mod_eq_of_lt (by omega)
        simp only [grd, inb_ofNat (show i < 8 by omega) (by omega), if_true, lt, i32_clampN (show i < 2147483648 by omega), h9 i (by omega), i32_succ]
        have e1 := lf_st (g := g) (tn := tn) (nd := nd) (n := n)
        rw [hm] at e1
        rw [e1]
        refine ih k (i + 1) (n + 1) (by omega) (by omega) ?_ (by omega)
        rw [psS]
        have := ht (n % nd)
        omega
theorem c_tg_15 (hnd : nd ≤ 8) (hg : g ≤ 200) (ht : ∀ d, tn d ≤ 9) (h70 : M 7 0 = Int32.ofNat nd) (h9 : ∀ d, d < nd → M 9 d = Int32.ofNat (tn d)) : ∀ (nf q r n : Nat), r + q = 200 → (n = r * nd ∨ g ≤ psS tn nd n) → psS tn nd n ≤ g + 9 → q < nf → f_X10_takingsTillGone_15 20000 nf (Int32.ofNat g - Int32.ofNat (psS tn nd n)) (Int32.ofNat n) (Int32.ofNat r) M = some (if g ≤ psS tn nd (advS tn nd g (q * nd) n) then Int32.ofNat (advS tn nd g (q * nd) n) else -1, M) := by
  intro nf
  induction nf with
  | zero => intro q r n _ _ _ h; omega
  | succ nf ih =>
    intro q r n hrq hn hb hk
    have h74 : ∀ n, psS tn nd n ≤ g + 9 → f_X10_takingsTillGone_74 20000 (Int32.ofNat g - Int32.ofNat (psS tn nd n)) (Int32.ofNat n) M = some (if g ≤ psS tn nd n then Int32.ofNat n else -1, M) := fun n hn9 => by
      unfold f_X10_takingsTillGone_74
      by_cases q1 : g ≤ psS tn nd n
      · rw [if_pos ((lf_le (by omega) (by omega)).mpr q1), if_pos q1]
      · rw [if_neg (fun h8 => q1 ((lf_le (by omega) (by omega)).mp h8)), if_neg q1]
    rw [f_X10_takingsTillGone_15]
    match q with
    | 0 =>
      rw [if_pos (show (200 : Int32) ≤ Int32.ofNat r from i32_len (k := 200) (by omega) (by omega)), h74 n hb, Nat.zero_mul]; rfl
    | q + 1 =>
      rw [if_neg (show ¬ (200 : Int32) ≤ Int32.ofNat r from i32_nle (n := 200) (by omega) (by omega))]
      by_cases q1 : g ≤ psS tn nd n
      · rw [if_pos ((lf_le (by omega) (by omega)).mpr q1), h74 n hb, adv_d q1]
      · rw [if_neg (fun h8 => q1 ((lf_le (by omega) (by omega)).mp h8))]
        have hn' : n = r * nd := hn.resolve_right q1
        rw [show (0 : Int32) = Int32.ofNat 0 from rfl, c_tg_30 hnd hg ht h70 h9 20000 nd 0 n (by omega) (by omega) hb (by omega), ih q (r + 1) (advS tn nd g nd n) (by omega) ?_ (adv_b ht nd n hb) (by omega), Nat.succ_mul, Nat.add_comm (q * nd) nd, adv_add]
        by_cases q2 : g ≤ psS tn nd (advS tn nd g nd n)
        · exact Or.inr q2
        · exact Or.inl (by rw [adv_nd nd n q2, hn', Nat.succ_mul])
def cSe (tn : Nat → Nat) (nd g : Nat) : Int32 := if g ≤ psS tn nd (advS tn nd g (200 * nd) 0) then Int32.ofNat (advS tn nd g (200 * nd) 0) else -1
theorem c_tg {c : Nat} (hnd : nd ≤ 8) (hc : c < 5) (hg : g ≤ 200) (ht : ∀ d, tn d ≤ 9) (h70 : M 7 0 = Int32.ofNat nd) (h9 : ∀ d, d < nd → M 9 d = Int32.ofNat (tn d)) (h13 : M 13 c = Int32.ofNat g) : f_X10_takingsTillGone 20000 (Int32.ofNat c) M = some (cSe tn nd g, M) := by
  unfold f_X10_takingsTillGone
  simp only [grd, inb_ofNat hc (show c < 2147483648 by omega), if_true, lt, i32_clampN (show c < 2147483648 by omega), h13]
  have h := c_tg_15 (tn := tn) (nd := nd) (g := g) (M := M) hnd hg ht h70 h9 20000 200 0 0 (by omega) (Or.inl (by omega)) (by rw [psS]; omega) (by omega)
  rw [psS, show Int32.ofNat g - Int32.ofNat 0 = Int32.ofNat g from Int32.sub_zero _] at h
  exact h
/-! the reference -/
theorem m_se_51 {K : Nat} (hR : RW nd nc T L (M 209)) (hg : g ≤ 200) (hnd0 : 0 < nd) (ht : ∀ d, tn d ≤ 9) (h9 : ∀ d, d < nd → T 2 d = Int32.ofNat (tn d)) : ∀ (nf k n : Nat), n + k ≤ 100000 → g ≤ psS tn nd (advS tn nd g k n) → psS tn nd n ≤ g + 9 → k < nf → f_X11_sentenceOf_51 20000 nf (Int32.ofNat g - Int32.ofNat (psS tn nd n)) (Int32.ofNat n) M = some (Int32.ofNat (advS tn nd g k n), M) := by
  have hnd := hR.1.1
  intro nf
  induction nf with
  | zero => intro k n _ _ _ h; omega
  | succ nf ih =>
    intro k n hnk hdone hb hk
    rw [f_X11_sentenceOf_51]
    by_cases q : g ≤ psS tn nd n
    · rw [if_pos ((lf_le (by omega) (by omega)).mpr q), adv_d q]
    · rw [if_neg (fun h8 => q ((lf_le (by omega) (by omega)).mp h8)), m_diners]
      match k with
      | 0 => exact absurd hdone q
      | k + 1 =>
        rw [advS, if_neg q] at hdone ⊢
        simp only [bnd]
        rw [hR.1.2.2.2.2.1]
        have hnz : nz (Int32.ofNat nd) = true := by
          unfold nz
          rw [decide_eq_false (fun h8 => by have := (i32_eqN (b := 0) (by omega) (by omega)).mp h8; omega)]; rfl
        have hmd : n % nd < nd := Nat.mod_lt _ hnd0
        have hof : f_X11_of 20000 (Int32.ofNat (n % nd)) 1 M = some (Int32.ofNat (tn (n % nd)), M) := by
          rw [show (1 : Int32) = Int32.ofNat 1 from rfl, m_of (by omega) (by decide), (hR.2.2.2.1 _ hmd).1, h9 _ hmd]
        simp only [grd, hnz, if_true, i32_remN (show n < 2147483648 by omega) (show nd < 2147483648 by omega), hof, lt, lf_st, i32_succ]
        refine ih k (n + 1) (by omega) hdone ?_ (by omega)
        rw [psS]
        have := ht (n % nd)
        omega
theorem ps_r (hnd0 : 0 < nd) : ∀ (r i : Nat), i ≤ nd → psS tn nd (r * nd + i) = r * smTs tn nd + smTs tn i := by
  intro r
  induction r with
  | zero =>
    intro i
    induction i with
    | zero => intro _; simp [psS, smTs]
    | succ i ih =>
      intro hi
      rw [show 0 * nd + (i + 1) = (0 * nd + i) + 1 from by omega, psS, ih (by omega), smTs, show (0 * nd + i) % nd = i from by rw [Nat.zero_mul, Nat.zero_add]; exact Nat.mod_eq_of_lt (by omega)]
      omega
  | succ r ihr =>
    intro i
    induction i with
    | zero =>
      intro _
      rw [show (r + 1) * nd + 0 = r * nd + nd from by rw [Nat.succ_mul]; omega, ihr nd (Nat.le_refl _), Nat.succ_mul]; rfl
    | succ i ih =>
      intro hi
      rw [show (r + 1) * nd + (i + 1) = ((r + 1) * nd + i) + 1 from by omega, psS, ih (by omega), smTs, show ((r + 1) * nd + i) % nd = i from by rw [Nat.mul_comm, Nat.mul_add_mod]; exact Nat.mod_eq_of_lt (by omega)]
      omega
theorem adv_ge : ∀ (k n : Nat), g ≤ psS tn nd (n + k) → g ≤ psS tn nd (advS tn nd g k n) := by
  intro k
  induction k with
  | zero => intro n h; exact h
  | succ k ih =>
    intro n h
    rw [advS]
    split
    · assumption
    · apply ih; rw [show n + 1 + k = n + (k + 1) from by omega]; exact h
def mSe (tn : Nat → Nat) (nd g : Nat) : Int32 := if g = 0 then 0 else if smTs tn nd = 0 then 1000000 else Int32.ofNat (advS tn nd g (200 * nd) 0)
theorem sm_nF {h9 : ∀ d, d < nd → T 2 d = Int32.ofNat (tn d)} : nF (fun v d => v + T 2 d) nd 0 0 = Int32.ofNat (smTs tn nd) := by
  have h : ∀ k, k ≤ nd → sI (fun d => T 2 d) k 0 = Int32.ofNat (smTs tn k) := by
    intro k
    induction k with
    | zero => intro _; rfl
    | succ k ih =>
      intro hk
      rw [sI_last, ih (by omega), Nat.zero_add, h9 k (by omega), smTs, i32_addN]
  rw [nF_sI, h nd (Nat.le_refl _), Int32.zero_add]
theorem m_se {c : Nat} (hR : RW nd nc T L (M 209)) (hc : c < nc) (hg : g ≤ 200) (ht : ∀ d, tn d ≤ 9) (h9 : ∀ d, d < nd → T 2 d = Int32.ofNat (tn d)) (h6 : T 6 c = Int32.ofNat g) : f_X11_sentenceOf 20000 (Int32.ofNat c) M = some (mSe tn nd g, M) := by
  have hnd := hR.1.1
  have hnc := hR.1.2.1
  have hsm : smTs tn nd ≤ 72 := by
    have h : ∀ k, smTs tn k ≤ 9 * k := by
      intro k
      induction k with
      | zero => exact Nat.le_refl _
      | succ k ih => rw [smTs]; have := ht k; omega
    have := h nd
    omega
  unfold f_X11_sentenceOf
  have h := lp_n (f := fun n v i => f_X11_sentenceOf_4 20000 n (Int32.ofNat c) v i M) (fin := fun v => if g = 0 then some ((0 : Int32), M) else if v = 0 then some ((1000000 : Int32), M) else f_X11_sentenceOf_51 20000 20000 (Int32.ofNat g) 0 M) (st := fun v d => v + T 2 d) (m := nd) (fun n v => ?_) (fun n v i hi => ?_) 20000 nd 0 0 (by omega) (by omega)
  · refine h.trans ?_
    rw [sm_nF (h9 := h9)]
    unfold mSe
    by_cases q0 : g = 0
    · rw [if_pos q0, if_pos q0]
    · rw [if_neg q0, if_neg q0]
      by_cases q1 : smTs tn nd = 0
      · rw [q1, if_pos (show Int32.ofNat 0 = (0 : Int32) from rfl), if_pos rfl]
      · rw [if_neg (show ¬ Int32.ofNat (smTs tn nd) = (0 : Int32) from fun h8 => q1 ((i32_eqN (b := 0) (by omega) (by omega)).mp h8)), if_neg q1]
        have hnd0 : 0 < nd := by
          rcases Nat.eq_zero_or_pos nd with h8 | h8
          · subst h8; exact absurd rfl q1
          · exact h8
        have hdone : g ≤ psS tn nd (advS tn nd g (200 * nd) 0) := by
          apply adv_ge
          have := ps_r (tn := tn) hnd0 200 0 (by omega)
          rw [Nat.zero_add, show 200 * nd = 200 * nd + 0 from rfl, this]
          omega
        have h8 := m_se_51 (K := 0) (tn := tn) hR hg hnd0 ht h9 20000 (200 * nd) 0 (by omega) hdone (by rw [psS]; omega) (by omega)
        rw [psS, show Int32.ofNat g - Int32.ofNat 0 = Int32.ofNat g from Int32.sub_zero _] at h8
        exact h8
  · show f_X11_sentenceOf_4 20000 (n + 1) (Int32.ofNat c) v (Int32.ofNat nd) M = _
    rw [f_X11_sentenceOf_4, m_diners]
    simp only [bnd]
    rw [hR.1.2.2.2.2.1, if_pos (Int32.le_refl _), m_cel2 hR hc, h6]
    simp only []
    by_cases q0 : g = 0
    · subst q0; rw [if_pos rfl, if_pos (show Int32.ofNat 0 = (0 : Int32) from rfl)]
    · rw [if_neg q0, if_neg (show ¬ Int32.ofNat g = (0 : Int32) from fun h8 => q0 ((i32_eqN (b := 0) (by omega) (by omega)).mp h8))]
  · show f_X11_sentenceOf_4 20000 (n + 1) (Int32.ofNat c) v (Int32.ofNat i) M = _
    rw [f_X11_sentenceOf_4, m_diners]
    simp only [bnd]
    rw [hR.1.2.2.2.2.1, if_neg (i32_nle hi (by omega)), show (1 : Int32) = Int32.ofNat 1 from rfl, m_of (by omega) (by decide), (hR.2.2.2.1 i hi).1]
    simp only [lt]
    rw [show Int32.ofNat i + Int32.ofNat 1 = Int32.ofNat (i + 1) from i32_addN i 1]
theorem se_eq (hnd : nd ≤ 8) (hg : g ≤ 200) : orN (mSe tn nd g) = cSe tn nd g := by
  unfold mSe cSe
  by_cases q0 : g = 0
  · subst q0
    rw [if_pos rfl, adv_d (Nat.zero_le _), if_pos (Nat.zero_le _)]; decide
  · rw [if_neg q0]
    by_cases q1 : smTs tn nd = 0
    · rw [if_pos q1, orN_far]
      have hps : psS tn nd (advS tn nd g (200 * nd) 0) = 0 := by
        rcases Nat.eq_zero_or_pos nd with h8 | h8
        · subst h8; rfl
        · have hz : ∀ k, k ≤ nd → smTs tn k = 0 := by
            have hmono : ∀ a b, smTs tn a ≤ smTs tn (a + b) := by
              intro a b
              induction b with
              | zero => exact Nat.le_refl _
              | succ b ih => rw [show a + (b + 1) = (a + b) + 1 from rfl, smTs]; omega
            intro k hk
            have := hmono k (nd - k)
            rw [show k + (nd - k) = nd from by omega] at this
            omega
          have hall : ∀ n, psS tn nd n = 0 := by
            intro n
            have h1 := ps_r (tn := tn) h8 (n / nd) (n % nd) (Nat.le_of_lt (Nat.mod_lt _ h8))
            rw [Nat.mul_comm, Nat.div_add_mod] at h1
            rw [h1, q1, hz _ (Nat.le_of_lt (Nat.mod_lt _ h8))]; simp
          exact hall _
      rw [hps, if_neg (by omega)]
    · rw [if_neg q1]
      have hnd0 : 0 < nd := by
        rcases Nat.eq_zero_or_pos nd with h8 | h8
        · subst h8; exact absurd rfl q1
        · exact h8
      have hdone : g ≤ psS tn nd (advS tn nd g (200 * nd) 0) := by
        apply adv_ge
        have := ps_r (tn := tn) hnd0 200 0 (by omega)
        rw [Nat.zero_add, show 200 * nd = 200 * nd + 0 from rfl, this]
        omega
      rw [if_pos hdone]
      have := adv_le (tn := tn) (nd := nd) (g := g) (200 * nd) 0
      unfold orN
      rw [if_pos (show Int32.ofNat (advS tn nd g (200 * nd) 0) < 1000000 from i32_ltn (n := 1000000) (by omega) (by omega))]
theorem tn_ex {w : Nat → Int32} (hR : RW nd nc T L w) : ∃ tn : Nat → Nat, (∀ d, tn d ≤ 9) ∧ ∀ d, d < nd → T 2 d = Int32.ofNat (tn d) := by
  have h : ∀ d, ∃ k, k ≤ 9 ∧ (d < nd → T 2 d = Int32.ofNat k) := fun d => by
    by_cases hd : d < nd
    · obtain ⟨k, h1, h2⟩ := (hR.2.2.2.2.2.2.1.2.2.2.1 d hd).1
      exact ⟨k, h1, fun _ => h2⟩
    · exact ⟨0, by omega, fun h9 => absurd h9 hd⟩
  obtain ⟨tn, h9⟩ := Classical.axiomOfChoice h
  exact ⟨tn, fun d => (h9 d).1, fun d => (h9 d).2⟩
theorem P_sentence {M : Mm} (h : InvM M) (v1 : Int32) : Kd (fun M => f_L_sentence 20000 v1 M) (fun M => f_X11_sentence 20000 v1 M) M := by
  obtain ⟨nd, nc, T, L, K, ms, im, tp, ft, h, hR, hs, hz, h70, h71, hnd, hnc⟩ := Ix h
  obtain ⟨tn, ht, h9⟩ := tn_ex hR
  rcases i32_rng v1 (n := nc) (by omega) with ⟨c, hc, rfl⟩ | hb
  · obtain ⟨-, -, ⟨g, hg, eg⟩, -⟩ := hR.2.2.2.2.2.2.1.2.2.2.2 c hc
    refine Kr (F := fun M => f_X10_sentence 20000 (Int32.ofNat c) M) (r := cSe tn nd g) (M1 := M) (fun M => rfl) h ?_ hz (fun M' hm => ⟨wr M' 208 0 0, ?_, mQ.t208, wr_eq⟩)
    · simp only [f_X10_sentence, c_nC h71 hc (show nc ≤ 8 by omega), bnx]
      rw [c_tg (tn := tn) hnd (by omega) hg ht h70 (fun d hd => (show M 9 d = T 2 d from slE hs (i := 2) (by decide)).trans (h9 d hd)) ((show M 13 c = T 6 c from slE hs (i := 6) (by decide)).trans eg)]
      rfl
    · simp only [f_X11_sentence, lt, m_noC (mW hm).1.2.2.2.2.2 hc (show nc ≤ 8 by omega), bnd, if_true, m_th0, m_se (mW hm) hc hg ht h9 eg, m_orN, se_eq hnd hg]
  · refine Kx (F := fun M => f_X10_sentence 20000 v1 M) (e := "java/lang/IndexOutOfBoundsException") (code := 1) (M1 := M) (fun M => rfl) h ?_ hz (fun M => by simp) (by decide) (fun M' hm => ⟨wr (wr M' 208 0 0) 208 0 1, ?_, mQ.t208.trans mQ.t208, wr_eq⟩)
    · simp only [f_X10_sentence, c_nCx h71 hb, bnx]
    · simp only [f_X11_sentence, lt, m_noCx (mW hm).1.2.2.2.2.2 hb (show nc ≤ 8 by omega), bnd, m_th1, show ¬ (1 : Int32) = 0 from by decide, if_false]
/-! fair -/
theorem mSe_b : (∃ k, k ≤ 1600 ∧ mSe tn nd g = Int32.ofNat k ∧ nd ≤ 8) ∨ mSe tn nd g = 1000000 ∨ ¬ nd ≤ 8 := by
  by_cases hnd : nd ≤ 8
  · unfold mSe
    split
    · exact Or.inl ⟨0, by omega, rfl, hnd⟩
    · split
      · exact Or.inr (Or.inl rfl)
      · exact Or.inl ⟨_, by have := adv_le (tn := tn) (nd := nd) (g := g) (200 * nd) 0; omega, rfl, hnd⟩
  · exact Or.inr (Or.inr hnd)
theorem mSe_inj {g' : Nat} (hnd : nd ≤ 8) : orN (mSe tn nd g) = orN (mSe tn nd g') ↔ mSe tn nd g = mSe tn nd g' := by
  have ho : ∀ k, k ≤ 1600 → orN (Int32.ofNat k) = Int32.ofNat k := fun k hk => by
    unfold orN; rw [if_pos (show Int32.ofNat k < 1000000 from i32_ltn (n := 1000000) (by omega) (by omega))]
  constructor
  · intro h
    rcases mSe_b (tn := tn) (nd := nd) (g := g) with ⟨k, hk, e, -⟩ | e | e
    · rcases mSe_b (tn := tn) (nd := nd) (g := g') with ⟨k', hk', e', -⟩ | e' | e'
      · rw [e, e', ho k hk, ho k' hk'] at h
        rw [e, e', h]
      · rw [e, e', ho k hk, orN_far] at h
        exact absurd h (i32_nm1 (by omega))
      · exact absurd hnd e'
    · rcases mSe_b (tn := tn) (nd := nd) (g := g') with ⟨k', hk', e', -⟩ | e' | e'
      · rw [e, e', ho k' hk', orN_far] at h
        exact absurd h.symm (i32_nm1 (by omega))
      · rw [e, e']
      · exact absurd hnd e'
    · exact absurd hnd e
  · intro h; rw [h]
theorem mSe_ne (hnd : nd ≤ 8) : ¬ mSe tn nd g = -1 := by
  rcases mSe_b (tn := tn) (nd := nd) (g := g) with ⟨k, hk, e, -⟩ | e | e
  · rw [e]; exact i32_nm1 (by omega)
  · rw [e]; decide
  · exact absurd hnd e
/-- whether all are as one that was before, or any -/
def frV (tn : Nat → Nat) (nd : Nat) (gr : Nat → Nat) : Nat → Nat → Option Int32 → Bool
  | 0, _, _ => true
  | k + 1, c, o => if gr c = 0 then frV tn nd gr k (c + 1) o else if o = none ∨ o = some (mSe tn nd (gr c)) then frV tn nd gr k (c + 1) (some (mSe tn nd (gr c))) else false
theorem c_fair_6 {gr : Nat → Nat} (hnd : nd ≤ 8) (hnc : nc ≤ 5) (ht : ∀ d, tn d ≤ 9) (hgr : ∀ c, gr c ≤ 200) (h70 : M 7 0 = Int32.ofNat nd) (h71 : M 7 1 = Int32.ofNat nc) (h9 : ∀ d, d < nd → M 9 d = Int32.ofNat (tn d)) (h13 : ∀ c, c < nc → M 13 c = Int32.ofNat (gr c)) : ∀ (n k i : Nat) (v1 v2 : Int32) (o : Option Int32), (match o with
    | none => v2 = 0
    | some x => v2 = 1 ∧ ∃ g, g ≤ 200 ∧ x = mSe tn nd g ∧ v1 = orN x) → i + k = nc → k < n → f_X10_fair_6 20000 n v1 v2 (Int32.ofNat i) M = some (b2i (frV tn nd gr k i o), M) := by
  intro n
  induction n with
  | zero => intro k i v1 v2 o _ _ h; omega
  | succ n ih =>
    intro k i v1 v2 o ho hik hk
    rw [f_X10_fair_6, h71]
    match k with
    | 0 => rw [if_pos (i32_len (by omega) (by omega))]; rfl
    | k + 1 =>
      have hi : i < nc := by omega
      have hgi := hgr i
      rw [if_neg (i32_nle hi (by omega)), frV]
      simp only [grd, inb_ofNat (show i < 5 by omega) (by omega), if_true, i32_clampN (show i < 2147483648 by omega), h13 i hi, f_X10_fair_51, i32_succ]
      by_cases q : gr i = 0
      · rw [if_pos q, q, if_neg (show ¬ (0 : Int32) < Int32.ofNat 0 by decide)]
        exact ih k (i + 1) v1 v2 o ho (by omega) (by omega)
      · rw [if_neg q, if_pos (show (0 : Int32) < Int32.ofNat (gr i) from i32_ltn (k := 0) (by omega) (by omega)), c_tg (tn := tn) hnd (by omega) (hgr i) ht h70 h9 (h13 i hi), ← se_eq hnd (hgr i)]
        simp only [bnd]
        match o, ho with
        | none, ho =>
          rw [ho, if_pos rfl, if_pos (Or.inl rfl)]
          exact ih k (i + 1) _ 1 (some (mSe tn nd (gr i))) ⟨rfl, gr i, hgr i, rfl, rfl⟩ (by omega) (by omega)
        | some x, ⟨h2, g, hg, hx, h1⟩ =>
          rw [h2, if_neg (show ¬ (1 : Int32) = 0 by decide), h1, hx]
          by_cases q2 : mSe tn nd (gr i) = mSe tn nd g
          · rw [if_pos ((mSe_inj hnd).mpr q2), if_pos (Or.inr (by rw [q2]))]
            exact ih k (i + 1) _ 1 (some (mSe tn nd (gr i))) ⟨rfl, gr i, hgr i, rfl, rfl⟩ (by omega) (by omega)
          · rw [if_neg (fun h8 => q2 ((mSe_inj hnd).mp h8)), if_neg (fun h8 => by
              rcases h8 with h8 | h8
              · cases h8
              · exact q2 (Option.some.inj h8).symm)]
            rfl
theorem m_fair_11 {gr : Nat → Nat} (hR : RW nd nc T L (M 209)) (ht : ∀ d, tn d ≤ 9) (hgr : ∀ c, gr c ≤ 200) (h9 : ∀ d, d < nd → T 2 d = Int32.ofNat (tn d)) (h6 : ∀ c, c < nc → T 6 c = Int32.ofNat (gr c)) : ∀ (n k i : Nat) (v1 v2 : Int32) (o : Option (Option Int32)), (match o with
    | none => v1 = 0
    | some none => v1 = 1 ∧ v2 = -1
    | some (some x) => v1 = 1 ∧ v2 = x ∧ ¬ x = -1) → i + k = nc → k < n → f_X11_fair_11 20000 n v1 v2 (Int32.ofNat i) M = some (b2i (match o with
    | none => false
    | some o => frV tn nd gr k i o), M) := by
  have hnd := hR.1.1
  have hnc := hR.1.2.1
  intro n
  induction n with
  | zero => intro k i v1 v2 o _ _ h; omega
  | succ n ih =>
    intro k i v1 v2 o ho hik hk
    rw [f_X11_fair_11, m_cellars]
    simp only [bnd]
    rw [hR.1.2.2.2.2.2]
    match k with
    | 0 =>
      rw [if_pos (i32_len (by omega) (by omega))]
      match o, ho with
      | none, ho => rw [ho]; rfl
      | some none, ⟨h1, _⟩ => rw [h1]; rfl
      | some (some x), ⟨h1, _⟩ => rw [h1]; rfl
    | k + 1 =>
      have hi : i < nc := by omega
      have hgi := hgr i
      have hse := m_se (M := M) hR hi (hgr i) ht h9 (h6 i hi)
      have h6i := h6 i hi
      rw [if_neg (i32_nle hi (by omega)), m_free01 hR hi, h6i]
      simp only [f_X11_fair_48, f_X11_fair_52, f_X11_fair_53, hse, bnd, i32_succ]
      by_cases q : gr i = 0
      · rw [q, if_pos (show Int32.ofNat 0 ≤ (0 : Int32) by decide), if_neg (show ¬ (1 : Int32) = 0 by decide), ih k (i + 1) v1 v2 o ho (by omega) (by omega)]
        match o with
        | none => rfl
        | some o => dsimp only; rw [frV, if_pos q]
      · rw [if_neg (show ¬ Int32.ofNat (gr i) ≤ 0 from i32_nle (k := 0) (by omega) (by omega)), if_pos rfl]
        match o, ho with
        | none, ho =>
          rw [ho, if_pos rfl]
          exact ih k (i + 1) 0 _ none rfl (by omega) (by omega)
        | some none, ⟨h1, h2⟩ =>
          rw [h1, h2, if_neg (show ¬ (1 : Int32) = 0 by decide), if_pos rfl]
          dsimp only
          rw [frV, if_neg q, if_pos (Or.inl rfl)]
          exact ih k (i + 1) 1 _ (some (some (mSe tn nd (gr i)))) ⟨rfl, rfl, mSe_ne hnd⟩ (by omega) (by omega)
        | some (some x), ⟨h1, h2, h3⟩ =>
          rw [h1, h2, if_neg (show ¬ (1 : Int32) = 0 by decide), if_neg h3]
          dsimp only
          rw [frV, if_neg q]
          by_cases q2 : mSe tn nd (gr i) = x
          · rw [if_pos q2, if_pos (Or.inr (by rw [q2]))]
            exact ih k (i + 1) 1 _ (some (some (mSe tn nd (gr i)))) ⟨rfl, rfl, mSe_ne hnd⟩ (by omega) (by omega)
          · rw [if_neg q2, if_neg (fun h8 => by
              rcases h8 with h8 | h8
              · cases h8
              · exact q2 (Option.some.inj h8).symm)]
            exact ih k (i + 1) 0 _ none rfl (by omega) (by omega)
theorem c_fairU (N : Nat) (M : Mm) : f_X10_fair N M = f_X10_fair_6 N N (-1) 0 (Int32.ofNat 0) M := rfl
theorem m_fairU (N : Nat) (M : Mm) : f_X11_fair N M = f_X11_fair_11 N N 1 (-1) (Int32.ofNat 0) (wr M 208 0 0) := rfl
theorem P_fair {M : Mm} (h : InvM M) : Cd (fun M => f_X10_fair 20000 M) (fun M => f_X11_fair 20000 M) M := by
  obtain ⟨nd, nc, T, L, K, ms, im, tp, ft, h, hR, hs, hz, h70, h71, hnd, hnc⟩ := Ix h
  obtain ⟨tn, ht, h9⟩ := tn_ex hR
  have hg : ∀ c, ∃ k, k ≤ 200 ∧ (c < nc → T 6 c = Int32.ofNat k) := fun c => by
    by_cases hc : c < nc
    · obtain ⟨-, -, ⟨k, h1, h2⟩, -⟩ := hR.2.2.2.2.2.2.1.2.2.2.2 c hc
      exact ⟨k, h1, fun _ => h2⟩
    · exact ⟨0, by omega, fun h9 => absurd h9 hc⟩
  obtain ⟨gr, hgr⟩ := Classical.axiomOfChoice hg
  refine Cr (r := b2i (frV tn nd gr nc 0 none)) (M1 := M) h ?_ hz (fun M' hm => ⟨wr M' 208 0 0, ?_, mQ.t208⟩)
  · show f_X10_fair 20000 M = _
    rw [c_fairU]
    exact c_fair_6 (gr := gr) hnd hnc ht (fun c => (hgr c).1) h70 h71 (fun d hd => (show M 9 d = T 2 d from slE hs (i := 2) (by decide)).trans (h9 d hd)) (fun c hc => (show M 13 c = T 6 c from slE hs (i := 6) (by decide)).trans ((hgr c).2 hc)) 20000 nc 0 (-1) 0 none rfl (by omega) (by omega)
  · show f_X11_fair 20000 M' = _
    rw [m_fairU]
    exact m_fair_11 (gr := gr) (mW hm) ht (fun c => (hgr c).1) h9 (fun c hc => (hgr c).2 hc) 20000 nc 0 1 (-1) (some none) ⟨rfl, rfl⟩ (by omega) (by omega)
end SE
