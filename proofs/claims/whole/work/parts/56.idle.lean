/-! Idle courses: what is idle for 60 courses is idle for ever. -/
/-- a good state: some reference's world stands for it -/
def gdE (nd nc : Nat) (W : Lw) (br : Int32) (e : Es) : Prop := ∃ M : Mm, RW nd nc e.1 e.2.2.2 (M 209) ∧ wLaw W M ∧ M 208 18 = br
section GD
variable {nd nc : Nat} {W : Lw} {br : Int32} {e : Es}
theorem gd_calm (hO : lwOK W) (h : gdE nd nc W br e) : gdE nd nc W br (sCalm W br nc e) := by
  obtain ⟨M, h1, h2, h3⟩ := h
  obtain ⟨M1, a1, a2, a3⟩ := m_calm (e := e) hO h1 h2
  rw [h3] at a2
  exact ⟨M1, a2, a3.law h2 hO, by rw [a3.2.2 208 (by decide) (by decide)]; exact h3⟩
theorem gd_eat (hO : lwOK W) (h : gdE nd nc W br e) {c : Nat} (hc : c < nc) : gdE nd nc W br (sEat W br c e) := by
  obtain ⟨M, h1, h2, h3⟩ := h
  obtain ⟨M1, a1, a2, -, a3, a4, a5, a6⟩ := m_eats (T := e.1) (tk := e.2.1) (sm := e.2.2.1) (L := e.2.2.2) (W := W) (c := c) hO hc h1 h2
  have k1 : mK M1 M := ⟨a4, a5, a6⟩
  rw [h3] at a3
  exact ⟨M1, a3, k1.law h2 hO, by rw [k1.2.2 208 (by decide) (by decide)]; exact h3⟩
theorem gd_go (hO : lwOK W) : ∀ (k : Nat) (e : Es), gdE nd nc W br e → gdE nd nc W br (sGo W br nc k e) := by
  intro k
  induction k with
  | zero => intro e h; exact h
  | succ k ih => intro e h; exact ih _ (gd_calm hO h)
/-- one eater: how much, and what becomes of the grains -/
theorem eat_p (h : gdE nd nc W br e) {c : Nat} (hc : c < nc) : ∃ g p, g ≤ 200 ∧ p ≤ g ∧ e.1 6 c = Int32.ofNat g ∧ (sEat W br c e).2.2.1 = e.2.2.1 + Int32.ofNat p ∧ (sEat W br c e).1 6 c = Int32.ofNat (g - p) ∧ (∀ j, j ≠ c → (sEat W br c e).1 6 j = e.1 6 j) ∧ (p = 0 → (sEat W br c e).1 = e.1) := by
  obtain ⟨M, hR, -, -⟩ := h
  have hnd := hR.1.1
  have hnc := hR.1.2.1
  obtain ⟨-, ⟨tn, ht, h5⟩, ⟨g, hg, h6⟩, -⟩ := hR.2.2.2.2.2.2.1.2.2.2.2 c hc
  have triv : sEat W br c e = e → ∃ g p, g ≤ 200 ∧ p ≤ g ∧ e.1 6 c = Int32.ofNat g ∧ (sEat W br c e).2.2.1 = e.2.2.1 + Int32.ofNat p ∧ (sEat W br c e).1 6 c = Int32.ofNat (g - p) ∧ (∀ j, j ≠ c → (sEat W br c e).1 6 j = e.1 6 j) ∧ (p = 0 → (sEat W br c e).1 = e.1) := fun h9 => by
    rw [h9]
    exact ⟨g, 0, hg, Nat.zero_le _, h6, (Int32.add_zero _).symm, h6, fun _ _ => rfl, fun _ => rfl⟩
  rcases sWho_ex ⟨_, hR⟩ hc with e9 | ⟨d, hd, e9⟩
  · exact triv (by unfold sEat; rw [if_pos (by rw [e9]; decide)])
  · by_cases q3 : e.1 6 c ≤ 0
    · exact triv (by unfold sEat; rw [if_neg (by rw [e9]; exact i32_nn (by omega)), if_neg (by rw [e9]; exact i32_nle (n := 8) (by omega) (by omega)), if_pos q3])
    · have hE : sEat W br c e = (sTake e.1 c (sWho e.1 c) (sP W br e.1 c (sWho e.1 c)), updF e.2.1 (sWho e.1 c).toNatClampNeg (e.2.1 (sWho e.1 c).toNatClampNeg + sP W br e.1 c (sWho e.1 c)), e.2.2.1 + sP W br e.1 c (sWho e.1 c), if sP W br e.1 c (sWho e.1 c) ≤ 0 then e.2.2.2 else ((e.1 0 5, e.1 0 4, sWho e.1 c, Int32.ofNat c, sP W br e.1 c (sWho e.1 c)) :: e.2.2.2).take 60) := by
        unfold sEat
        rw [if_neg (by rw [e9]; exact i32_nn (by omega)), if_neg (by rw [e9]; exact i32_nle (n := 8) (by omega) (by omega)), if_neg q3]
      have h9 := sP_le (W := W) (br := br) (T := e.1) (c := c) (d := sWho e.1 c) (by omega) (by rw [h6]; exact i32_ge0 (by omega))
      rw [hE, e9] at *
      obtain ⟨p, hp, ep⟩ := i32_ex (n := 201) h9.1 (Int32.lt_of_le_of_lt h9.2 (by rw [h6]; exact i32_ltn (by omega) (by omega))) (by omega)
      have hpg : p ≤ g := by
        have h8 := h9.2
        rw [ep, h6] at h8
        exact (i32_leN (by omega) (by omega)).mp h8
      rw [ep]
      refine ⟨g, p, hg, hpg, h6, rfl, ?_, fun j hj => ?_, fun h0 => ?_⟩
      · dsimp only
        rw [sTake_eq (by omega) ht h5, wr_ne (by decide), wr_eq, h6]
        obtain ⟨q, rfl⟩ : ∃ q, g = q + p := ⟨g - p, by omega⟩
        rw [Nat.add_sub_cancel, ← i32_addN]
        grind
      · dsimp only
        rw [sTake_eq (by omega) ht h5, wr_ne (by decide), wr_nk hj]
      · dsimp only
        rw [h0]
        exact sTake_0 hR.2.2.2.2.2.2.1 hnd hd ht h5
theorem all_p (hO : lwOK W) : ∀ (k i : Nat) (e : Es) (s : Nat), gdE nd nc W br e → i + k = nc → e.2.2.1 = Int32.ofNat s → ∃ s', s ≤ s' ∧ s' ≤ s + 200 * k ∧ (sAll W br k i e).2.2.1 = Int32.ofNat s' ∧ gdE nd nc W br (sAll W br k i e) ∧ (s' = s → (sAll W br k i e).1 = e.1) ∧ ∀ j, j < nc → (sAll W br k i e).1 6 j ≤ e.1 6 j := by
  intro k
  induction k with
  | zero => intro i e s h _ hs; exact ⟨s, Nat.le_refl _, by omega, hs, h, fun _ => rfl, fun j _ => Int32.le_refl _⟩
  | succ k ih =>
    intro i e s h hik hs
    obtain ⟨g, p, a1, a2, a3, a4, a5, a6, a7⟩ := eat_p h (show i < nc by omega)
    obtain ⟨s', b1, b2, b3, b4, b5, b6⟩ := ih (i + 1) (sEat W br i e) (s + p) (gd_eat hO h (by omega)) (by omega) (by rw [a4, hs, i32_addN])
    refine ⟨s', by omega, by omega, b3, b4, fun h9 => ?_, fun j hj => ?_⟩
    · rw [← a7 (by omega)]; exact b5 (by omega)
    · refine Int32.le_trans (b6 j hj) ?_
      by_cases q : j = i
      · subst q; rw [a5, a3]; exact i32_len (by omega) (by omega)
      · rw [a6 j q]; exact Int32.le_refl _
theorem calm_p (hO : lwOK W) (h : gdE nd nc W br e) : ∃ s, s ≤ 1000 ∧ (sCalm W br nc e).2.2.1 = Int32.ofNat s ∧ (s = 0 → (sCalm W br nc e).1 = sPass nc e.1) ∧ ∀ j, j < nc → (sCalm W br nc e).1 6 j ≤ e.1 6 j := by
  have hnc : nc ≤ 5 := by obtain ⟨M, hR, -⟩ := h; exact hR.1.2.1
  have h' : gdE nd nc W br (e.1, e.2.1, 0, e.2.2.2) := h
  obtain ⟨s, a1, a2, a3, a4, a5, a6⟩ := all_p hO nc 0 (e.1, e.2.1, 0, e.2.2.2) 0 h' (by omega) rfl
  refine ⟨s, by omega, a3, fun h0 => ?_, fun j hj => ?_⟩
  · show sPass nc (sAll W br nc 0 (e.1, e.2.1, 0, e.2.2.2)).1 = _
    rw [a5 h0]
  · show sPass nc (sAll W br nc 0 (e.1, e.2.1, 0, e.2.2.2)).1 6 j ≤ _
    rw [sPass_row (by decide) (by decide)]
    exact a6 j hj
end GD
/-! The dinner's number is looked at by nobody. -/
section DN
variable {nc : Nat} {W : Lw} {br v : Int32} {T : Tb}
theorem sFx_5 {c d : Int32} : sFx (wr T 0 5 v) c d = sFx T c d := by
  funext k
  match k with
  | 0 | 1 => rfl
  | 2 | 3 | 4 => unfold sFx; simp (disch := decide) only [wr_ne]
  | 5 => unfold sFx sHasOf; simp (disch := decide) only [wr_ne]
  | 6 => unfold sFx; simp (disch := decide) only [wr_nk]
  | 7 => unfold sFx sDiet; simp (disch := decide) only [wr_nk]
  | 8 => unfold sFx sSweet; simp (disch := decide) only [wr_nk]
  | k + 9 => rfl
theorem sWho_5 {c : Nat} : sWho (wr T 0 5 v) c = sWho T c := by
  unfold sWho sDinerAt; simp (disch := decide) only [wr_ne]
theorem sP_5 {c : Nat} {d : Int32} : sP W br (wr T 0 5 v) c d = sP W br T c d := by
  unfold sP; rw [sFx_5]
theorem wr_sw {T : Tb} {a b i j : Nat} {x y : Int32} (h : a ≠ b) : wr (wr T a i x) b j y = wr (wr T b j y) a i x := by
  funext p q
  unfold wr
  by_cases h1 : p = b ∧ q = j
  · rw [if_pos h1, if_neg (fun h9 => h (h9.1.symm.trans h1.1)), if_pos h1]
  · rw [if_neg h1]
    by_cases h2 : p = a ∧ q = i
    · rw [if_pos h2, if_pos h2]
    · rw [if_neg h2, if_neg h2, if_neg h1]
theorem sTake_5 {c : Nat} {d p : Int32} : sTake (wr T 0 5 v) c d p = wr (sTake T c d p) 0 5 v := by
  unfold sTake sGain
  simp (disch := decide) only [wr_ne]
  split
  · exact wr_sw (by decide)
  · split
    · exact wr_sw (by decide)
    · rw [wr_sw (a := 0) (b := 6) (by decide), wr_sw (a := 0) (b := 3) (by decide)]
theorem eat_5 {c : Nat} {tk tk' : Nat → Int32} {s : Int32} {L L' : List Row} : (sEat W br c (wr T 0 5 v, tk, s, L)).1 = wr (sEat W br c (T, tk', s, L')).1 0 5 v ∧ (sEat W br c (wr T 0 5 v, tk, s, L)).2.2.1 = (sEat W br c (T, tk', s, L')).2.2.1 := by
  unfold sEat
  simp only [sWho_5, sP_5, sTake_5, wr_ne (show (6 : Nat) ≠ 0 by decide)]
  split
  · exact ⟨rfl, rfl⟩
  · split
    · exact ⟨rfl, rfl⟩
    · split
      · exact ⟨rfl, rfl⟩
      · exact ⟨rfl, rfl⟩
theorem all_5 : ∀ (k i : Nat) (e e' : Es), e'.1 = wr e.1 0 5 v → e'.2.2.1 = e.2.2.1 → (sAll W br k i e').1 = wr (sAll W br k i e).1 0 5 v ∧ (sAll W br k i e').2.2.1 = (sAll W br k i e).2.2.1 := by
  intro k
  induction k with
  | zero => intro i e e' h1 h2; exact ⟨h1, h2⟩
  | succ k ih =>
    intro i e e' h1 h2
    obtain ⟨T1, t1, s1, l1⟩ := e
    obtain ⟨T2, t2, s2, l2⟩ := e'
    dsimp only at h1 h2
    subst h1 h2
    exact ih (i + 1) _ _ eat_5.1 eat_5.2
/-- passing on, all but the dinner -/
theorem passL_5 : ∀ (k i : Nat) (T : Tb), sPassL k i (wr T 0 5 v) = wr (sPassL k i T) 0 5 v := by
  intro k
  induction k with
  | zero => intro i T; rfl
  | succ k ih =>
    intro i T
    rw [sPassL, sPassL, ← ih]
    congr 1
    unfold sPass1
    simp (disch := decide) only [wr_ne]
    exact wr_sw (by decide)
theorem pass_5 : ∃ v', sPass nc (wr T 0 5 v) = wr (sPass nc T) 0 5 v' := by
  unfold sPass sTick
  rw [passL_5]
  simp (disch := decide) only [wr_nk]
  split
  · refine ⟨v, ?_⟩
    funext p q; unfold wr
    by_cases h1 : p = 0 ∧ q = 4
    · rw [if_pos h1, if_neg (by omega), if_pos h1]
    · rw [if_neg h1]
      by_cases h2 : p = 0 ∧ q = 5
      · rw [if_pos h2, if_pos h2]
      · rw [if_neg h2, if_neg h2, if_neg h1]
  · refine ⟨(if wr (sPassL nc 0 T) 0 5 v 0 5 + 1 < 9999 then wr (sPassL nc 0 T) 0 5 v 0 5 + 1 else 9999), ?_⟩
    · funext p q; unfold wr
      by_cases h2 : p = 0 ∧ q = 5
      · rw [if_pos h2, if_pos h2]
      · rw [if_neg h2, if_neg h2]
        by_cases h1 : p = 0 ∧ q = 4
        · simp only [if_pos h1, if_neg h2]
        · simp only [if_neg h1, if_neg h2]
theorem calm_5 {e e' : Es} (h1 : e'.1 = wr e.1 0 5 v) : (sCalm W br nc e').2.2.1 = (sCalm W br nc e).2.2.1 := by
  exact (all_5 (v := v) nc 0 (e.1, e.2.1, 0, e.2.2.2) (e'.1, e'.2.1, 0, e'.2.2.2) h1 rfl).2
def itP (nc : Nat) : Nat → Tb → Tb
  | 0, T => T
  | k + 1, T => itP nc k (sPass nc T)
theorem passL_c {nc' : Nat} : ∀ (k i c : Nat) (T : Tb), i + k = nc' → sPassL k i T 4 c = if i ≤ c ∧ c < nc' then (T 4 c + T 8 c) - (T 4 c + T 8 c) / 10 * 10 else T 4 c := by
  intro k
  induction k with
  | zero => intro i c T h; rw [if_neg (by omega)]; rfl
  | succ k ih =>
    intro i c T h
    rw [sPassL, ih (i + 1) c _ (by omega)]
    unfold sPass1
    by_cases e : c = i
    · subst e
      rw [if_neg (by omega), if_pos (by omega), wr_eq]
    · rw [wr_nk e, wr_ne (by decide)]
      by_cases e2 : i + 1 ≤ c ∧ c < nc'
      · rw [if_pos e2, if_pos (by omega)]
      · rw [if_neg e2, if_neg (by omega)]
/-- what k passings on leave -/
theorem itP_at {pl st : Nat → Nat} {co : Nat} (hst : ∀ c, c < nc → st c ≤ 9) : ∀ (k : Nat) (T : Tb), (∀ c, c < nc → pl c < 10) → (∀ c, c < nc → T 8 c = Int32.ofNat (st c)) → ∀ (co : Nat) (pl : Nat → Nat), co < 12 → (∀ c, c < nc → pl c < 10) → T 0 4 = Int32.ofNat co → (∀ c, c < nc → T 4 c = Int32.ofNat (pl c)) → (itP nc k T 0 4 = Int32.ofNat ((co + k) % 12) ∧ (∀ c, c < nc → itP nc k T 4 c = Int32.ofNat ((pl c + k * st c) % 10)) ∧ (∀ c, nc ≤ c → itP nc k T 4 c = T 4 c) ∧ (∀ j, j ≠ 4 → j ≠ 5 → itP nc k T 0 j = T 0 j) ∧ ∀ i, i ≠ 0 → i ≠ 4 → itP nc k T i = T i) := by
  intro k
  induction k with
  | zero =>
    intro T _ h8 co pl hco hpl h04 h4
    refine ⟨by rw [show (co + 0) % 12 = co from by omega]; exact h04, fun c hc => ?_, fun _ _ => rfl, fun _ _ _ => rfl, fun _ _ _ => rfl⟩
    have := hpl c hc
    rw [show (pl c + 0 * st c) % 10 = pl c from by omega]; exact h4 c hc
  | succ k ih =>
    intro T hp0 h8 co pl hco hpl h04 h4
    have e4 : ∀ c, sPass nc T 4 c = sPassL nc 0 T 4 c := fun c => by
      unfold sPass sTick
      split
      · rw [wr_ne (by decide)]
      · rw [wr_ne (by decide), wr_ne (by decide), wr_ne (by decide)]
    have e44 : ∀ c, c < nc → sPass nc T 4 c = Int32.ofNat ((pl c + st c) % 10) := fun c hc => by
      have h1 := hpl c hc
      have h2 := hst c hc
      rw [e4, passL_c (nc' := nc) nc 0 c T (by omega), if_pos (by omega), h4 c hc, h8 c hc, i32_addN]
      exact i32_remN (m := 10) (by omega) (by omega)
    have e04 : sPass nc T 0 4 = Int32.ofNat ((co + 1) % 12) := by
      unfold sPass sTick
      rw [sPassL_row (by decide), h04, i32_succ]
      by_cases q : co + 1 < 12
      · rw [if_pos (show Int32.ofNat (co + 1) < 12 from i32_ltn (n := 12) q (by omega)), wr_eq, Nat.mod_eq_of_lt q]
      · rw [if_neg (show ¬ Int32.ofNat (co + 1) < 12 from i32_nlt (k := 12) (by omega) (by omega)), wr_nk (by decide), wr_eq, show (co + 1) % 12 = 0 from by omega]; rfl
    obtain ⟨a1, a2, a3, a4, a5⟩ := ih (sPass nc T) hp0 (fun c hc => by rw [sPass_row (by decide) (by decide)]; exact h8 c hc) ((co + 1) % 12) (fun c => (pl c + st c) % 10) (Nat.mod_lt _ (by decide)) (fun c _ => Nat.mod_lt _ (by decide)) e04 e44
    refine ⟨?_, fun c hc => ?_, fun c hc => ?_, fun j h1 h2 => ?_, fun i h1 h2 => ?_⟩
    · rw [itP, a1]; congr 1; omega
    · rw [itP, a2 c hc, Nat.succ_mul]; congr 1; omega
    · rw [itP, a3 c hc, e4, passL_c (nc' := nc) nc 0 c T (by omega), if_neg (by omega)]
    · rw [itP, a4 j h1 h2, sPass_n h1 h2]
    · rw [itP, a5 i h1 h2, sPass_row h2 h1]
end DN
section FE
variable {nd nc : Nat} {W : Lw} {br : Int32}
theorem itP_60 {e : Es} (h : gdE nd nc W br e) : ∃ v, itP nc 60 e.1 = wr e.1 0 5 v := by
  obtain ⟨M, hR, -, -⟩ := h
  obtain ⟨⟨co, hco, eco⟩, -, -, -, b5⟩ := hR.2.2.2.2.2.2.1
  have hp : ∀ c, ∃ p, c < nc → p < 10 ∧ e.1 4 c = Int32.ofNat p := fun c => by
    by_cases hc : c < nc
    · obtain ⟨⟨p, h1, h2⟩, -⟩ := b5 c hc
      exact ⟨p, fun _ => ⟨h1, h2⟩⟩
    · exact ⟨0, fun h9 => absurd h9 hc⟩
  have hs : ∀ c, ∃ p, c < nc → p ≤ 9 ∧ e.1 8 c = Int32.ofNat p := fun c => by
    by_cases hc : c < nc
    · obtain ⟨-, -, -, -, ⟨p, h1, h2⟩⟩ := b5 c hc
      exact ⟨p, fun _ => ⟨h1, h2⟩⟩
    · exact ⟨0, fun h9 => absurd h9 hc⟩
  obtain ⟨pl, hpl⟩ := Classical.axiomOfChoice hp
  obtain ⟨st, hst⟩ := Classical.axiomOfChoice hs
  obtain ⟨a1, a2, a3, a4, a5⟩ := itP_at (nc := nc) (pl := pl) (st := st) (co := co) (fun c hc => (hst c hc).1) 60 e.1 (fun c hc => (hpl c hc).1) (fun c hc => (hst c hc).2) co pl hco (fun c hc => (hpl c hc).1) eco (fun c hc => (hpl c hc).2)
  refine ⟨itP nc 60 e.1 0 5, ?_⟩
  funext i j
  by_cases h0 : i = 0
  · subst h0
    by_cases h5 : j = 5
    · subst h5; rw [wr_eq]
    · rw [wr_nk h5]
      by_cases h4 : j = 4
      · subst h4; rw [a1, eco]; congr 1; omega
      · exact a4 j h4 h5
  · rw [wr_ne h0]
    by_cases h4 : i = 4
    · subst h4
      by_cases hc : j < nc
      · rw [a2 j hc, (hpl j hc).2]
        have := (hpl j hc).1
        congr 1; omega
      · exact a3 j (by omega)
    · rw [a5 i h0 h4]
theorem sGo_s : ∀ (k : Nat) (e : Es), sGo W br nc (k + 1) e = sCalm W br nc (sGo W br nc k e) := by
  intro k
  induction k with
  | zero => intro e; rfl
  | succ k ih => intro e; rw [sGo, ih]; rfl
theorem sGo_add : ∀ (j k : Nat) (e : Es), sGo W br nc (k + j) e = sGo W br nc j (sGo W br nc k e) := by
  intro j
  induction j with
  | zero => intro k e; rfl
  | succ j ih => intro k e; rw [show k + (j + 1) = (k + j) + 1 from rfl, sGo_s, ih, sGo_s]
theorem itP_s : ∀ (k : Nat) (T : Tb), itP nc (k + 1) T = sPass nc (itP nc k T) := by
  intro k
  induction k with
  | zero => intro T; rfl
  | succ k ih => intro T; rw [itP, ih]; rfl
theorem itP_add : ∀ (j k : Nat) (T : Tb), itP nc (k + j) T = itP nc j (itP nc k T) := by
  intro j
  induction j with
  | zero => intro k T; rfl
  | succ j ih => intro k T; rw [show k + (j + 1) = (k + j) + 1 from rfl, itP_s, ih, itP_s]
theorem itP_5 {v : Int32} : ∀ (k : Nat) (T : Tb), ∃ v', itP nc k (wr T 0 5 v) = wr (itP nc k T) 0 5 v' := by
  intro k
  induction k with
  | zero => intro T; exact ⟨v, rfl⟩
  | succ k ih =>
    intro T
    obtain ⟨v1, h1⟩ := ih T
    obtain ⟨v2, h2⟩ := pass_5 (nc := nc) (T := itP nc k T) (v := v1)
    exact ⟨v2, by rw [itP_s, itP_s, h1, h2]⟩
/-- nothing taken in 60 courses: nothing is ever taken -/
theorem idle_ever (hO : lwOK W) {e : Es} (h : gdE nd nc W br e) (h60 : ∀ k, k < 60 → (sGo W br nc (k + 1) e).2.2.1 ≤ 0) : ∀ j, (sGo W br nc j e).1 = itP nc j e.1 ∧ (sCalm W br nc (sGo W br nc j e)).2.2.1 ≤ 0 := by
  intro j
  induction j using Nat.strongRecOn with
  | ind j ih =>
    have ht : (sGo W br nc j e).1 = itP nc j e.1 := by
      match j with
      | 0 => rfl
      | j + 1 =>
        obtain ⟨a1, a2⟩ := ih j (by omega)
        obtain ⟨s, b1, b2, b3, -⟩ := calm_p hO (gd_go hO j e h)
        rw [sGo_s, itP_s, ← a1]
        apply b3
        rw [b2] at a2
        have := (i32_leN (b := 0) (by omega) (by omega)).mp a2
        omega
    refine ⟨ht, ?_⟩
    by_cases q : j < 60
    · have := h60 j q
      rw [sGo_s] at this
      exact this
    · obtain ⟨a1, a2⟩ := ih (j - 60) (by omega)
      obtain ⟨v, hv⟩ := itP_60 h
      obtain ⟨v', hv'⟩ := itP_5 (nc := nc) (v := v) (j - 60) e.1
      have he : (sGo W br nc j e).1 = wr (sGo W br nc (j - 60) e).1 0 5 v' := by
        rw [ht, a1, ← hv', ← hv, ← itP_add]
        congr 1; omega
      rw [calm_5 he]
      exact a2
end FE
