/-! The machine of the reference that runs a law's condition. -/
def mFact (fx : Fx) (x n : Int32) : Int32 := if x = 0 then fx 0 else if x = 1 then fx 1 else if x = 2 then fx 2 else if x = 3 then fx 3 else if x = 4 then fx 5 else if x = 5 then fx 6 else if x = 6 then fx 7 else if x = 7 then (if fx 2 < fx 3 then 0 else 1) else n
def mBin (x a b : Int32) : Int32 := if x = 9 then a + b else if x = 10 then (if b ≤ a then 0 else 1) else if x = 11 then (if a ≤ b then 0 else 1) else if x = 13 then (if a + b = 2 then 1 else 0) else (if a + b ≤ 0 then 0 else 1)
def mStp (fx : Fx) (x n : Int32) (st : List Int32) : Option (List Int32) :=
  if 8 < x then
    (if x = 12 then (match st with
      | a :: r => some ((1 - a) :: r)
      | [] => none)
    else (match st with
      | b :: a :: r => some (mBin x a b :: r)
      | _ => none))
  else some (mFact fx x n :: st)
def mRun (c : Nat → Int32 × Int32) (fx : Fx) : Nat → Nat → List Int32 → Option (List Int32)
  | 0, _, st => some st
  | k + 1, i, st => match mStp fx (c i).1 (c i).2 st with
    | some st' => mRun c fx k (i + 1) st'
    | none => none
def stk (st : List Int32) (M : Mm) : Prop := ∀ k, k < st.length → M 216 (st.length - 1 - k) = st.getD k 0
section MM
variable {M : Mm} {c c' : Nat → Int32 × Int32} {fx : Fx} {nd nc : Nat} {T : Tb} {L : List Row}
theorem mRun_ex : ∀ (k i : Nat) (s : List Int32), (∀ j, i ≤ j → j < i + k → c j = c' j) → mRun c fx k i s = mRun c' fx k i s := by
  intro k
  induction k with
  | zero => intro i s _; rfl
  | succ k ih =>
    intro i s h
    rw [mRun, mRun, h i (Nat.le_refl _) (by omega)]
    cases mStp fx (c' i).1 (c' i).2 s with
    | none => rfl
    | some st => exact ih (i + 1) st (fun j h1 h2 => h j (by omega) (by omega))
theorem mRun_add : ∀ (k1 k2 i : Nat) (s s1 s2 : List Int32), mRun c fx k1 i s = some s1 → mRun c fx k2 (i + k1) s1 = some s2 → mRun c fx (k1 + k2) i s = some s2 := by
  intro k1
  induction k1 with
  | zero =>
    intro k2 i s s1 s2 h1 h2
    rw [mRun] at h1
    injection h1 with h1
    subst h1
    rw [Nat.zero_add]; exact h2
  | succ k1 ih =>
    intro k2 i s s1 s2 h1 h2
    rw [show k1 + 1 + k2 = (k1 + k2) + 1 by omega, mRun]
    rw [mRun] at h1
    cases e : mStp fx (c i).1 (c i).2 s with
    | none => rw [e] at h1; exact nomatch h1
    | some st =>
      rw [e] at h1
      exact ih k2 (i + 1) st s1 s2 h1 (by rw [show i + 1 + k1 = i + (k1 + 1) by omega]; exact h2)
theorem m_fact {N cl d : Nat} {x n : Int32} (hR : RW nd nc T L (M 209)) (hc : cl < nc) (hd : d < nd) : f_X11_factOf N x n (Int32.ofNat cl) (Int32.ofNat d) M = some (mFact (sFx T (Int32.ofNat cl) (Int32.ofNat d)) x n, M) := by
  obtain ⟨r0, r1, r2, r3, r4, r5, r6, r7⟩ := hR
  have hnd := r0.1
  have hnc := r0.2.1
  obtain ⟨-, ⟨t, ht, et⟩, -⟩ := r6.2.2.2.2 cl hc
  have kd : (Int32.ofNat d).toNatClampNeg = d := i32_clampN (by omega)
  have kc : (Int32.ofNat cl).toNatClampNeg = cl := i32_clampN (by omega)
  have f2 : sFx T (Int32.ofNat cl) (Int32.ofNat d) 2 = T 2 d := by show T 2 (Int32.ofNat d).toNatClampNeg = _; rw [kd]
  have f3 : sFx T (Int32.ofNat cl) (Int32.ofNat d) 3 = T 6 cl := by show T 6 (Int32.ofNat cl).toNatClampNeg = _; rw [kc]
  have o1 : f_X11_of N (Int32.ofNat d) 1 M = some (T 2 d, M) := by
    rw [show f_X11_of N (Int32.ofNat d) 1 M = _ from m_of (k := 1) (by omega) (by decide), (r3 d hd).1]
  have o2 : f_X11_of N (Int32.ofNat d) 2 M = some (sDiet T (Int32.ofNat d), M) := by
    rw [show f_X11_of N (Int32.ofNat d) 2 M = _ from m_of (k := 2) (by omega) (by decide), (r3 d hd).2.1]
  have o3 : f_X11_ofCellar N (Int32.ofNat cl) 2 M = some (T 6 cl, M) := by
    rw [show f_X11_ofCellar N (Int32.ofNat cl) 2 M = _ from m_ofCellar (k := 2) (by omega) (by decide), r4 cl hc 2 (by decide)]
  have o4 : f_X11_ofCellar N (Int32.ofNat cl) 1 M = some (Int32.ofNat t, M) := by
    rw [show f_X11_ofCellar N (Int32.ofNat cl) 1 M = _ from m_ofCellar (k := 1) (by omega) (by decide), r4 cl hc 1 (by decide), et]
  have o5 : f_X11_of N (Int32.ofNat d) ((3 : Int32) + Int32.ofNat t) M = some (sFx T (Int32.ofNat cl) (Int32.ofNat d) 5, M) := by
    rw [show (3 : Int32) + Int32.ofNat t = Int32.ofNat (3 + t) from i32_addN 3 t, m_of (by omega) (by omega), show 12 + 9 * d + (3 + t) = 12 + 9 * d + 3 + t by omega, (r3 d hd).2.2 t ht]
    show _ = some (sHasOf T (Int32.ofNat d) (T 5 (Int32.ofNat cl).toNatClampNeg), M)
    rw [kc, et]
    unfold sHasOf
    rw [show Int32.ofNat d * 6 + Int32.ofNat t = Int32.ofNat (d * 6 + t) from by rw [show (6 : Int32) = Int32.ofNat 6 from rfl, i32_mulN, i32_addN], if_neg (i32_nn (by omega)), if_neg (show ¬ (48 : Int32) ≤ Int32.ofNat (d * 6 + t) from i32_nle (n := 48) (by omega) (by omega)), i32_clampN (by omega), show d * 6 + t = 6 * d + t by omega]
  unfold f_X11_factOf mFact
  rw [f2, f3]
  by_cases h0 : x = 0
  · rw [if_pos h0, if_pos h0]; rfl
  · rw [if_neg h0, if_neg h0]
    by_cases h1 : x = 1
    · rw [if_pos h1, if_pos h1]; rfl
    · rw [if_neg h1, if_neg h1]
      by_cases h2 : x = 2
      · rw [if_pos h2, if_pos h2, o1]; rfl
      · rw [if_neg h2, if_neg h2]
        by_cases h3 : x = 3
        · rw [if_pos h3, if_pos h3, o3]; rfl
        · rw [if_neg h3, if_neg h3]
          by_cases h4 : x = 4
          · rw [if_pos h4, if_pos h4, o4]
            simp only [bnd, o5]
          · rw [if_neg h4, if_neg h4]
            by_cases h5 : x = 5
            · rw [if_pos h5, if_pos h5]
              simp only [grd, show inb (4 : Int32) 2107 = true from by decide, if_true, show (4 : Int32).toNatClampNeg = 4 from by decide]
              rw [r1.2.1]; rfl
            · rw [if_neg h5, if_neg h5]
              by_cases h6 : x = 6
              · rw [if_pos h6, if_pos h6, o2]; rfl
              · rw [if_neg h6, if_neg h6]
                by_cases h7 : x = 7
                · rw [if_pos h7, if_pos h7, o3]
                  simp only [bnd, o1]
                  by_cases q : T 2 d < T 6 cl
                  · rw [if_pos q, if_pos q]
                  · rw [if_neg q, if_neg q]
                · rw [if_neg h7, if_neg h7]
theorem bin_eq {α : Type} (F : Int32 → α) (x a b : Int32) : (if x = 10 then (if b ≤ a then (if x = 9 then F (a + b) else F 0) else (if x = 9 then F (a + b) else F 1)) else (if x = 11 then (if a ≤ b then (if x = 9 then F (a + b) else F 0) else (if x = 9 then F (a + b) else F 1)) else (if x = 13 then (if a + b = 2 then (if x = 9 then F (a + b) else F 1) else (if x = 9 then F (a + b) else F 0)) else (if a + b ≤ 0 then (if x = 9 then F (a + b) else F 0) else (if x = 9 then F (a + b) else F 1))))) = F (mBin x a b) := by
  unfold mBin
  by_cases h9 : x = 9
  · subst h9
    rw [if_neg (by decide), if_neg (by decide), if_neg (by decide)]
    simp only [if_true, ite_self]
  · simp only [if_neg h9]
    by_cases h10 : x = 10
    · simp only [if_pos h10]
      by_cases q : b ≤ a
      · rw [if_pos q, if_pos q]
      · rw [if_neg q, if_neg q]
    · simp only [if_neg h10]
      by_cases h11 : x = 11
      · simp only [if_pos h11]
        by_cases q : a ≤ b
        · rw [if_pos q, if_pos q]
        · rw [if_neg q, if_neg q]
      · simp only [if_neg h11]
        by_cases h13 : x = 13
        · simp only [if_pos h13]
          by_cases q : a + b = 2
          · rw [if_pos q, if_pos q]
          · rw [if_neg q, if_neg q]
        · simp only [if_neg h13]
          by_cases q : a + b ≤ 0
          · rw [if_pos q, if_pos q]
          · rw [if_neg q, if_neg q]
theorem i32_dn (k : Nat) : Int32.ofNat (k + 1) - 1 = Int32.ofNat k := by
  rw [show (1 : Int32) = Int32.ofNat 1 from rfl, i32_subN (by omega)]; rfl
theorem i32_p1 (k : Nat) : Int32.ofNat (k + 1) + (-1) = Int32.ofNat k := by
  rw [← i32_dn k]; exact (Int32.sub_eq_add_neg _ _).symm
theorem grd_t {α : Type} {b : Bool} {x : Option α} (h : b = true) : grd b x = x := by rw [h]; rfl
theorem lt_e {α β : Type} {a : α} {f : α → β} : lt a f = f a := rfl
theorem h229_0 {N : Nat} {k23 : Int32 → Int32 → Int32 → Int32 → Int32 → Mm → Option (Int32 × Mm)} {v2 v3 v4 v5 v6 x a b : Int32} (h : inb (v4 - 1) 400 = true) : f_X11_holdsLine_229 N k23 v2 v3 v4 v5 v6 x a b 0 M = if x = 9 then k23 v2 v3 v4 v5 (v6 + 1) (wr M 216 (v4 - 1).toNatClampNeg (a + b)) else k23 v2 v3 v4 v5 (v6 + 1) (wr M 216 (v4 - 1).toNatClampNeg 0) := by
  unfold f_X11_holdsLine_229 f_X11_holdsLine_264
  rw [grd_t h, grd_t h, if_pos rfl, lt_e, lt_e]
theorem h229_1 {N : Nat} {k23 : Int32 → Int32 → Int32 → Int32 → Int32 → Mm → Option (Int32 × Mm)} {v2 v3 v4 v5 v6 x a b : Int32} (h : inb (v4 - 1) 400 = true) : f_X11_holdsLine_229 N k23 v2 v3 v4 v5 v6 x a b 1 M = if x = 9 then k23 v2 v3 v4 v5 (v6 + 1) (wr M 216 (v4 - 1).toNatClampNeg (a + b)) else k23 v2 v3 v4 v5 (v6 + 1) (wr M 216 (v4 - 1).toNatClampNeg 1) := by
  unfold f_X11_holdsLine_229 f_X11_holdsLine_264
  rw [grd_t h, grd_t h, grd_t h, if_neg (show ¬ (1 : Int32) = 0 by decide), lt_e, lt_e]
theorem m_hU1 (N n : Nat) (v2 v3 v4 v5 v6 x y z r : Int32) (M : Mm) (h1 : inb (v5 + 3) 2107 = true) (h2 : M 209 (v5 + 3).toNatClampNeg = z) (h3 : ¬ z ≤ v6) (h4 : inb ((458 : Int32) + (2 : Int32) * v6) 2107 = true) (h5 : M 209 ((458 : Int32) + (2 : Int32) * v6).toNatClampNeg = x) (h8 : ¬ (8 : Int32) < x) (h6 : inb (((458 : Int32) + (2 : Int32) * v6) + 1) 2107 = true) (h7 : M 209 (((458 : Int32) + (2 : Int32) * v6) + 1).toNatClampNeg = y) (hf : f_X11_factOf N x y v2 v3 M = some (r, M)) (h9 : inb v4 400 = true) : f_X11_holdsLine_23 N (n + 1) v2 v3 v4 v5 v6 M = f_X11_holdsLine_23 N n v2 v3 (v4 + 1) v5 (v6 + 1) (wr M 216 v4.toNatClampNeg r) := by
  rw [f_X11_holdsLine_23, grd_t h1, h2, if_neg h3, grd_t h4, h5, lt_e]
  rw [if_neg h8, grd_t h6, h7, hf]
  show grd (inb v4 400) (lt (wr M 216 v4.toNatClampNeg r) (fun M39 => f_X11_holdsLine_23 N n v2 v3 (v4 + 1) v5 (v6 + 1) M39)) = _
  rw [grd_t h9, lt_e]
theorem m_hU2 (N n : Nat) (v2 v3 v4 v5 v6 z : Int32) (M : Mm) (h1 : inb (v5 + 3) 2107 = true) (h2 : M 209 (v5 + 3).toNatClampNeg = z) (h3 : ¬ z ≤ v6) (h4 : inb ((458 : Int32) + (2 : Int32) * v6) 2107 = true) (h5 : M 209 ((458 : Int32) + (2 : Int32) * v6).toNatClampNeg = 12) (h9 : inb (v4 - 1) 400 = true) : f_X11_holdsLine_23 N (n + 1) v2 v3 v4 v5 v6 M = f_X11_holdsLine_23 N n v2 v3 v4 v5 (v6 + 1) (wr M 216 (v4 - 1).toNatClampNeg (1 - M 216 (v4 - 1).toNatClampNeg)) := by
  rw [f_X11_holdsLine_23, grd_t h1, h2, if_neg h3, grd_t h4, h5, lt_e]
  rw [if_pos (show (8 : Int32) < 12 by decide), if_pos rfl, grd_t h9, grd_t h9, lt_e]
theorem m_hU3 (N n : Nat) (v2 v3 v4 v5 v6 x z a b : Int32) (M : Mm) (h1 : inb (v5 + 3) 2107 = true) (h2 : M 209 (v5 + 3).toNatClampNeg = z) (h3 : ¬ z ≤ v6) (h4 : inb ((458 : Int32) + (2 : Int32) * v6) 2107 = true) (h5 : M 209 ((458 : Int32) + (2 : Int32) * v6).toNatClampNeg = x) (h8 : (8 : Int32) < x) (h12 : ¬ x = 12) (h9 : inb ((v4 + (-1)) - 1) 400 = true) (h10 : inb (v4 + (-1)) 400 = true) (ha : M 216 ((v4 + (-1)) - 1).toNatClampNeg = a) (hb : M 216 (v4 + (-1)).toNatClampNeg = b) : f_X11_holdsLine_23 N (n + 1) v2 v3 v4 v5 v6 M = f_X11_holdsLine_23 N n v2 v3 (v4 + (-1)) v5 (v6 + 1) (wr M 216 ((v4 + (-1)) - 1).toNatClampNeg (mBin x a b)) := by
  rw [f_X11_holdsLine_23, grd_t h1, h2, if_neg h3, grd_t h4, h5, lt_e]
  rw [if_pos h8, if_neg h12, grd_t h9, ha, lt_e]
  rw [grd_t h10, hb, lt_e]
  rw [h229_0 h9, h229_1 h9]
  exact bin_eq (fun v => f_X11_holdsLine_23 N n v2 v3 (v4 + (-1)) v5 (v6 + 1) (wr M 216 ((v4 + (-1)) - 1).toNatClampNeg v)) x a b
theorem stk_push {st : List Int32} {v : Int32} (hs : stk st M) : stk (v :: st) (wr M 216 st.length v) := fun k hk => by
  rw [List.length_cons] at hk ⊢
  match k with
  | 0 => rw [List.getD_cons_zero, show st.length + 1 - 1 - 0 = st.length by omega, wr_eq]
  | k + 1 =>
    have e1 := hs k (by omega)
    rw [List.getD_cons_succ, wr_nk (by omega), show st.length + 1 - 1 - (k + 1) = st.length - 1 - k by omega]; exact e1
theorem stk_pop {st : List Int32} {v : Int32} (hs : stk (v :: st) M) : stk st M ∧ M 216 st.length = v := by
  refine ⟨fun k hk => ?_, ?_⟩
  · have e1 := hs (k + 1) (by rw [List.length_cons]; omega)
    rw [List.getD_cons_succ, List.length_cons, show st.length + 1 - 1 - (k + 1) = st.length - 1 - k by omega] at e1
    exact e1
  · have e1 := hs 0 (by rw [List.length_cons]; omega)
    rw [List.getD_cons_zero, List.length_cons, show st.length + 1 - 1 - 0 = st.length by omega] at e1
    exact e1
theorem m_stp {N n cl d K i e : Nat} {x y : Int32} {st st' : List Int32} (hR : RW nd nc T L (M 209)) (hc : cl < nc) (hd : d < nd) (hK : K < 2000) (h3 : M 209 (K + 3) = Int32.ofNat e) (hi : i < e) (he : e ≤ 400) (hx : M 209 (458 + 2 * i) = x) (hy : M 209 (459 + 2 * i) = y) (hs : stk st M) (hl : st.length < 400) (h : mStp (sFx T (Int32.ofNat cl) (Int32.ofNat d)) x y st = some st') : ∃ M', f_X11_holdsLine_23 N (n + 1) (Int32.ofNat cl) (Int32.ofNat d) (Int32.ofNat st.length) (Int32.ofNat K) (Int32.ofNat i) M = f_X11_holdsLine_23 N n (Int32.ofNat cl) (Int32.ofNat d) (Int32.ofNat st'.length) (Int32.ofNat K) (Int32.ofNat (i + 1)) M' ∧ stk st' M' ∧ (∀ z, z ≠ 216 → M' z = M z) ∧ st'.length ≤ st.length + 1 := by
  have k3 : Int32.ofNat K + 3 = Int32.ofNat (K + 3) := i32_addN K 3
  have k4 : (458 : Int32) + (2 : Int32) * Int32.ofNat i = Int32.ofNat (458 + 2 * i) := by
    show Int32.ofNat 458 + Int32.ofNat 2 * Int32.ofNat i = _
    rw [i32_mulN, i32_addN]
  have k5 : Int32.ofNat (458 + 2 * i) + 1 = Int32.ofNat (459 + 2 * i) := by rw [i32_succ, show 458 + 2 * i + 1 = 459 + 2 * i by omega]
  have g1 : inb (Int32.ofNat K + 3) 2107 = true := by rw [k3]; exact inb_ofNat (by omega) (by omega)
  have g2 : M 209 (Int32.ofNat K + 3).toNatClampNeg = Int32.ofNat e := by rw [k3, i32_clampN (by omega)]; exact h3
  have g3 : ¬ Int32.ofNat e ≤ Int32.ofNat i := i32_nle hi (by omega)
  have g4 : inb ((458 : Int32) + (2 : Int32) * Int32.ofNat i) 2107 = true := by rw [k4]; exact inb_ofNat (by omega) (by omega)
  have g5 : M 209 ((458 : Int32) + (2 : Int32) * Int32.ofNat i).toNatClampNeg = x := by rw [k4, i32_clampN (by omega)]; exact hx
  unfold mStp at h
  by_cases h8 : (8 : Int32) < x
  · rw [if_pos h8] at h
    by_cases h12 : x = 12
    · rw [if_pos h12] at h
      cases st with
      | nil => exact nomatch h
      | cons a r =>
        injection h with h
        subst h
        rw [List.length_cons] at hl
        obtain ⟨p1, p2⟩ := stk_pop hs
        have e9 : Int32.ofNat (a :: r).length - 1 = Int32.ofNat r.length := by rw [List.length_cons]; exact i32_dn _
        refine ⟨wr M 216 r.length (1 - a), ?_, stk_push p1, fun z hz => wr_nrow hz, by rw [List.length_cons, List.length_cons]; omega⟩
        rw [m_hU2 N n _ _ _ _ _ _ M g1 g2 g3 g4 (by rw [g5, h12]) (by rw [e9]; exact inb_ofNat (by omega) (by omega)), e9, i32_clampN (by omega), p2, i32_succ]
        rfl
    · rw [if_neg h12] at h
      cases st with
      | nil => exact nomatch h
      | cons b st =>
        cases st with
        | nil => exact nomatch h
        | cons a r =>
          injection h with h
          subst h
          rw [List.length_cons, List.length_cons] at hl
          obtain ⟨p1, p2⟩ := stk_pop hs
          obtain ⟨p3, p4⟩ := stk_pop p1
          rw [List.length_cons] at p2
          have e9 : Int32.ofNat (b :: a :: r).length + (-1) = Int32.ofNat (r.length + 1) := by rw [List.length_cons, List.length_cons]; exact i32_p1 _
          have e10 : Int32.ofNat (r.length + 1) - 1 = Int32.ofNat r.length := i32_dn _
          refine ⟨wr M 216 r.length (mBin x a b), ?_, stk_push p3, fun z hz => wr_nrow hz, by rw [List.length_cons, List.length_cons, List.length_cons]; omega⟩
          rw [m_hU3 N n _ _ _ _ _ x _ a b M g1 g2 g3 g4 g5 h8 h12 (by rw [e9, e10]; exact inb_ofNat (by omega) (by omega)) (by rw [e9]; exact inb_ofNat (by omega) (by omega)) (by rw [e9, e10, i32_clampN (by omega)]; exact p4) (by rw [e9, i32_clampN (by omega)]; exact p2), e9, e10, i32_clampN (by omega), i32_succ]
          rfl
  · rw [if_neg h8] at h
    injection h with h
    subst h
    refine ⟨wr M 216 st.length (mFact (sFx T (Int32.ofNat cl) (Int32.ofNat d)) x y), ?_, stk_push hs, fun z hz => wr_nrow hz, by rw [List.length_cons]; omega⟩
    rw [m_hU1 N n _ _ _ _ _ x y _ _ M g1 g2 g3 g4 g5 h8 (by rw [k4, k5]; exact inb_ofNat (by omega) (by omega)) (by rw [k4, k5, i32_clampN (by omega)]; exact hy) (m_fact hR hc hd) (inb_ofNat hl (by omega)), i32_clampN (by omega), i32_succ, i32_succ]
    rfl
end MM
