/-! The fewest diners by whom a cellar could be freed. -/
def bcN (s : Nat) : Nat := (bcI (Int32.ofNat s)).toNatClampNeg
theorem bc_N {s : Nat} (hs : s < 256) : bcI (Int32.ofNat s) = Int32.ofNat (bcN s) ∧ bcN s ≤ 8 := by
  have h : ∀ s, s < 256 → bcI (Int32.ofNat s) = Int32.ofNat (bcI (Int32.ofNat s)).toNatClampNeg ∧ (bcI (Int32.ofNat s)).toNatClampNeg ≤ 8 := by decide +kernel
  exact h s hs
theorem bc_nd {s n : Nat} (hn : n ≤ 8) (hs : s < 2 ^ n) : bcN s ≤ n := by
  have h : ∀ n, n < 9 → ∀ s, s < 2 ^ n → (bcI (Int32.ofNat s)).toNatClampNeg ≤ n := by decide +kernel
  exact h n (by omega) s hs
section FW
variable {ok : Nat → Bool} {N : Nat}
def fwI (ok : Nat → Bool) (z : Nat) : Nat → Nat → Option Nat
  | 0, _ => none
  | k + 1, i => if bcN i = z ∧ ok i = true then some i else fwI ok z k (i + 1)
def fwO (ok : Nat → Bool) (N : Nat) : Nat → Nat → Option Nat
  | 0, _ => none
  | k + 1, z => match fwI ok z N 0 with
    | some s => some s
    | none => fwO ok N k (z + 1)
def fwL (o : Option Nat) : Nat := match o with
  | none => 9
  | some s => bcN s
def fwM (ok : Nat → Bool) : Nat → Nat → Option Nat → Option Nat
  | 0, _, o => o
  | k + 1, i, o => fwM ok k (i + 1) (if bcN i < fwL o ∧ ok i = true then some i else o)
theorem fwI_s {z : Nat} : ∀ (k i s : Nat), fwI ok z k i = some s → i ≤ s ∧ s < i + k ∧ bcN s = z ∧ ok s = true ∧ ∀ j, i ≤ j → j < s → ¬ (bcN j = z ∧ ok j = true) := by
  intro k
  induction k with
  | zero => intro i s h; cases h
  | succ k ih =>
    intro i s h
    rw [fwI] at h
    by_cases q : bcN i = z ∧ ok i = true
    · rw [if_pos q] at h
      cases h
      exact ⟨Nat.le_refl _, by omega, q.1, q.2, fun j h1 h2 => by omega⟩
    · rw [if_neg q] at h
      obtain ⟨a1, a2, a3, a4, a5⟩ := ih (i + 1) s h
      refine ⟨by omega, by omega, a3, a4, fun j h1 h2 => ?_⟩
      by_cases e : j = i
      · subst e; exact q
      · exact a5 j (by omega) h2
theorem fwI_n {z : Nat} : ∀ (k i : Nat), fwI ok z k i = none → ∀ j, i ≤ j → j < i + k → ¬ (bcN j = z ∧ ok j = true) := by
  intro k
  induction k with
  | zero => intro i _ j h1 h2; omega
  | succ k ih =>
    intro i h j h1 h2
    rw [fwI] at h
    by_cases q : bcN i = z ∧ ok i = true
    · rw [if_pos q] at h; cases h
    · rw [if_neg q] at h
      by_cases e : j = i
      · subst e; exact q
      · exact ih (i + 1) h j (by omega) (by omega)
theorem fwO_s : ∀ (k z s : Nat), fwO ok N k z = some s → fwI ok (bcN s) N 0 = some s ∧ z ≤ bcN s ∧ ∀ z', z ≤ z' → z' < bcN s → fwI ok z' N 0 = none := by
  intro k
  induction k with
  | zero => intro z s h; cases h
  | succ k ih =>
    intro z s h
    rw [fwO] at h
    cases q : fwI ok z N 0 with
    | some s' =>
      rw [q] at h
      cases h
      have := fwI_s N 0 s q
      rw [this.2.2.1]
      exact ⟨q, Nat.le_refl _, fun z' h1 h2 => by omega⟩
    | none =>
      rw [q] at h
      obtain ⟨a1, a2, a3⟩ := ih (z + 1) s h
      refine ⟨a1, by omega, fun z' h1 h2 => ?_⟩
      by_cases e : z' = z
      · subst e; exact q
      · exact a3 z' (by omega) h2
theorem fwO_n : ∀ (k z : Nat), fwO ok N k z = none → ∀ z', z ≤ z' → z' < z + k → fwI ok z' N 0 = none := by
  intro k
  induction k with
  | zero => intro z _ z' h1 h2; omega
  | succ k ih =>
    intro z h z' h1 h2
    rw [fwO] at h
    cases q : fwI ok z N 0 with
    | some s' => rw [q] at h; cases h
    | none =>
      rw [q] at h
      by_cases e : z' = z
      · subst e; exact q
      · exact ih (z + 1) h z' (by omega) (by omega)
theorem fwM_i : ∀ (k i : Nat) (o : Option Nat), i + k ≤ 256 → ((o = none → ∀ j, j < i → ¬ ok j = true) ∧ ∀ s, o = some s → s < i ∧ ok s = true ∧ ∀ j, j < i → ok j = true → bcN s < bcN j ∨ (bcN s = bcN j ∧ s ≤ j)) → ((fwM ok k i o = none → ∀ j, j < i + k → ¬ ok j = true) ∧ ∀ s, fwM ok k i o = some s → s < i + k ∧ ok s = true ∧ ∀ j, j < i + k → ok j = true → bcN s < bcN j ∨ (bcN s = bcN j ∧ s ≤ j)) := by
  intro k
  induction k with
  | zero => intro i o _ h; exact h
  | succ k ih =>
    intro i o h256 h
    rw [fwM, show i + (k + 1) = i + 1 + k from by omega]
    refine ih (i + 1) _ (by omega) ?_
    have hb8 : bcN i ≤ 8 := (bc_N (by omega)).2
    by_cases q : bcN i < fwL o ∧ ok i = true
    · rw [if_pos q]
      refine ⟨fun h9 => (nomatch h9), fun s hs => ?_⟩
      cases hs
      refine ⟨by omega, q.2, fun j hj hoj => ?_⟩
      by_cases e : j = i
      · subst e; exact Or.inr ⟨rfl, Nat.le_refl _⟩
      · match o with
        | none => exact absurd hoj (h.1 rfl j (by omega))
        | some s0 =>
          have h0 := (h.2 s0 rfl).2.2 j (by omega) hoj
          have q1 : bcN i < bcN s0 := q.1
          omega
    · rw [if_neg q]
      refine ⟨fun h9 j hj hoj => ?_, fun s hs => ?_⟩
      · by_cases e : j = i
        · subst e
          apply q
          subst h9
          exact ⟨show bcN j < 9 by omega, hoj⟩
        · exact h.1 h9 j (by omega) hoj
      · obtain ⟨a1, a2, a3⟩ := h.2 s hs
        refine ⟨by omega, a2, fun j hj hoj => ?_⟩
        by_cases e : j = i
        · subst e
          have hn : ¬ bcN j < bcN s := fun h9 => q ⟨by rw [hs]; exact h9, hoj⟩
          omega
        · exact a3 j (by omega) hoj
theorem few_eq {n : Nat} (hn : n ≤ 8) : fwO ok (2 ^ n) (n + 1) 0 = fwM ok (2 ^ n) 0 none := by
  have hN : 2 ^ n ≤ 256 := Nat.pow_le_pow_right (n := 2) (by decide) hn
  obtain ⟨m1, m2⟩ := fwM_i (ok := ok) (2 ^ n) 0 none (by omega) ⟨fun _ j hj => by omega, fun s hs => by cases hs⟩
  rw [Nat.zero_add] at m1 m2
  cases q1 : fwO ok (2 ^ n) (n + 1) 0 with
  | none =>
    cases q2 : fwM ok (2 ^ n) 0 none with
    | none => rfl
    | some s =>
      exfalso
      obtain ⟨a1, a2, -⟩ := m2 s q2
      have hz := fwO_n (n + 1) 0 q1 (bcN s) (by omega) (by have := bc_nd hn a1; omega)
      exact fwI_n (2 ^ n) 0 hz s (by omega) (by omega) ⟨rfl, a2⟩
  | some s =>
    obtain ⟨b1, -, b3⟩ := fwO_s (n + 1) 0 s q1
    obtain ⟨-, c2, -, c4, c5⟩ := fwI_s (2 ^ n) 0 s b1
    rw [Nat.zero_add] at c2
    cases q2 : fwM ok (2 ^ n) 0 none with
    | none => exact absurd c4 (m1 q2 s c2)
    | some s' =>
      obtain ⟨a1, a2, a3⟩ := m2 s' q2
      have h1 := a3 s c2 c4
      have h2 : ¬ bcN s' < bcN s := fun h9 => by
        have hz := b3 (bcN s') (by omega) h9
        exact fwI_n (2 ^ n) 0 hz s' (by omega) (by omega) ⟨rfl, a2⟩
      have h3 : ¬ s' < s := fun h9 => c5 s' (by omega) h9 ⟨by omega, a2⟩
      congr 1
      omega
end FW
section FX
variable {nd nc : Nat} {T : Tb} {L : List Row} {K : LwS} {ms : List TbS} {im : Option (TbS × LwS)} {tp : List Nat} {ft : Int32} {W : Lw} {br mask : Int32}
theorem gd_diet {v : Int32} {tk : Nat → Int32} {z : Int32} (hO : lwOK W) (h : gdE nd nc W br (T, tk, z, L)) : gdE nd nc W br (wr T 0 2 v, tk, z, L) := by
  obtain ⟨M, h1, h2, h3⟩ := h
  have hnd := h1.1.1
  obtain ⟨w', hw'⟩ : ∃ w' : Nat → Int32, w' = (fun j => if (∃ d, d < nd ∧ j = 12 + 9 * d + 2) then sDiet (wr T 0 2 v) (Int32.ofNat ((j - 14) / 9)) else M 209 j) := ⟨_, rfl⟩
  have hw : ∀ j, ¬ (∃ d, d < nd ∧ j = 12 + 9 * d + 2) → w' j = M 209 j := fun j hj => by rw [hw']; exact if_neg hj
  obtain ⟨M', hM'⟩ : ∃ M' : Nat → Nat → Int32, M' = (fun x => if x = 209 then w' else M x) := ⟨_, rfl⟩
  have e209 : M' 209 = w' := by rw [hM']; exact if_pos rfl
  have e208 : M' 208 = M 208 := by rw [hM']; exact if_neg (by decide)
  refine ⟨M', ?_, ?_, ?_⟩
  · rw [e209]
    refine RW_di h1 (fun d hd => ?_) (fun j hj => hw j (fun ⟨d, hd, e⟩ => hj d hd e))
    rw [hw']
    show (if (∃ d', d' < nd ∧ 12 + 9 * d + 2 = 12 + 9 * d' + 2) then sDiet (wr T 0 2 v) (Int32.ofNat ((12 + 9 * d + 2 - 14) / 9)) else M 209 (12 + 9 * d + 2)) = _
    rw [if_pos ⟨d, hd, rfl⟩, show (12 + 9 * d + 2 - 14) / 9 = d from by omega]
  · refine h2.frame ?_ (fun j x _ => ?_) hO
    · rw [e209, hw _ (fun ⟨d, hd, e⟩ => by omega)]
    · rw [e209, hw _ (fun ⟨d, hd, e⟩ => by omega)]
  · rw [e208]; exact h3
theorem held_c {c : Nat} {T' : Tb} (hnc : nc ≤ 5) (hc : c < nc) : (sHeld nc T' &&& ((1 : Int32) <<< (Int32.ofNat c &&& 31))) = 0 ↔ T' 6 c ≤ 0 := by
  rw [and_0]
  constructor
  · intro h
    by_cases q : T' 6 c ≤ 0
    · exact q
    · have h1 := h c (by omega) (by rw [hb_held hnc (by omega), decide_eq_true hc, decide_eq_false q]; rfl)
      rw [hB_one (by omega), decide_eq_true rfl] at h1
      cases h1
  · intro h i hi hx
    rw [hB_one (by omega)]
    by_cases e : i = c
    · subst e
      rw [hb_held hnc hi, decide_eq_true h] at hx
      simp at hx
    · rw [decide_eq_false e]
theorem go_mono {c : Nat} (hO : lwOK W) (hc : c < nc) : ∀ (k : Nat) (e : Es), gdE nd nc W br e → (sGo W br nc k e).1 6 c ≤ e.1 6 c := by
  intro k
  induction k with
  | zero => intro e _; exact Int32.le_refl _
  | succ k ihk =>
    intro e he
    obtain ⟨-, -, -, -, h4⟩ := calm_p hO he
    exact Int32.le_trans (ihk _ (gd_calm hO he)) (h4 c hc)
theorem fr_ok {c : Nat} (hO : lwOK W) (hc : c < nc) : ∀ (m g : Nat) (e : Es), g + m ≤ 1000 → gdE nd nc W br e → (frN W br nc ((1 : Int32) <<< (Int32.ofNat c &&& 31)) (m + 1) g e = 1000000 ↔ ¬ (sGo W br nc m e).1 6 c ≤ 0) := by
  intro m
  induction m with
  | zero =>
    intro g e hm hg
    have hnc : nc ≤ 5 := by obtain ⟨M, hR, -⟩ := hg; exact hR.1.2.1
    rw [frN]
    by_cases q : (sHeld nc e.1 &&& ((1 : Int32) <<< (Int32.ofNat c &&& 31))) = 0
    · rw [if_pos q]
      exact ⟨fun h => by omega, fun h => absurd ((held_c hnc hc).mp q) h⟩
    · rw [if_neg q]
      exact ⟨fun _ h9 => q ((held_c hnc hc).mpr h9), fun _ => rfl⟩
  | succ m ih =>
    intro g e hm hg
    have hnc : nc ≤ 5 := by obtain ⟨M, hR, -⟩ := hg; exact hR.1.2.1
    rw [frN]
    by_cases q : (sHeld nc e.1 &&& ((1 : Int32) <<< (Int32.ofNat c &&& 31))) = 0
    · rw [if_pos q]
      exact ⟨fun h => by omega, fun h => absurd (Int32.le_trans (go_mono hO hc (m + 1) e hg) ((held_c hnc hc).mp q)) h⟩
    · rw [if_neg q]
      exact ih (g + 1) (sCalm W br nc e) (by omega) (gd_calm hO hg)
end FX
