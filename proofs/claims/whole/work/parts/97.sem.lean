/-! What pieces of code mean. -/
def semC (c : Nat → Int32) (i e B : Nat) (g : Fx → Bool) : Prop := i ≤ e ∧ ∀ fx t l, t < 2 ^ B → ∃ l', cRun c fx (e - i) i (Int32.ofNat t, l, 0) = (Int32.ofNat (2 * t + b2n (g fx)), l', 0)
def semM (c : Nat → Int32 × Int32) (i e : Nat) (g : Fx → Bool) : Prop := i ≤ e ∧ ∀ fx st, (fx 7 = 0 ∨ fx 7 = 1) → mRun c fx (e - i) i st = some (b2i (g fx) :: st)
def sumC (c : Nat → Int32) (i e : Nat) (v : Fx → Int32) : Prop := i ≤ e ∧ ∀ fx t l s, cRun c fx (e - i) i (t, l, s) = (t, l, s + v fx)
def sumM (c : Nat → Int32 × Int32) (i e : Nat) (v : Fx → Int32) : Prop := i ≤ e ∧ ∀ fx st, mRun c fx (e - i) i st = some (v fx :: st)
def inv8 {α : Type} (g : Fx → α) : Prop := ∀ fx v, g (updF fx 8 v) = g fx
section SE
variable {c c' : Nat → Int32} {r r' : Nat → Int32 × Int32} {fx : Fx} {i e e2 e' B : Nat} {g h : Fx → Bool} {v w : Fx → Int32}
theorem cRun_seg {s : Cs9} (h1 : i ≤ e) (h2 : e ≤ e') : cRun c fx (e' - i) i s = cRun c fx (e' - e) e (cRun c fx (e - i) i s) := by
  rw [show e' - i = (e - i) + (e' - e) by omega, cRun_add, show i + (e - i) = e by omega]
theorem cRun_1 {s : Cs9} : cRun c fx (i + 1 - i) i s = cStp fx (c i) s := by
  rw [show i + 1 - i = 1 by omega]; rfl
theorem mRun_seg {s s1 s2 : List Int32} (h1 : i ≤ e) (h2 : e ≤ e') (a1 : mRun r fx (e - i) i s = some s1) (a2 : mRun r fx (e' - e) e s1 = some s2) : mRun r fx (e' - i) i s = some s2 := by
  rw [show e' - i = (e - i) + (e' - e) by omega]
  exact mRun_add (e - i) (e' - e) i s s1 s2 a1 (by rw [show i + (e - i) = e by omega]; exact a2)
theorem mRun_1 {s s1 : List Int32} (a : mStp fx (r i).1 (r i).2 s = some s1) : mRun r fx (i + 1 - i) i s = some s1 := by
  rw [show i + 1 - i = 1 by omega, mRun, a]; rfl
theorem semC.ex (hs : semC c i e B g) (hx : ∀ j, i ≤ j → j < e → c' j = c j) : semC c' i e B g := by
  refine ⟨hs.1, fun fx t l ht => ?_⟩
  have h1 := hs.1
  rw [cRun_ex (c := c') (c' := c) (e - i) i _ (fun j a b => hx j a (by omega))]
  exact hs.2 fx t l ht
theorem semM.ex (hs : semM r i e g) (hx : ∀ j, i ≤ j → j < e → r' j = r j) : semM r' i e g := by
  refine ⟨hs.1, fun fx st h7 => ?_⟩
  have h1 := hs.1
  rw [mRun_ex (c := r') (c' := r) (e - i) i _ (fun j a b => hx j a (by omega))]
  exact hs.2 fx st h7
theorem sumC.ex (hs : sumC c i e v) (hx : ∀ j, i ≤ j → j < e → c' j = c j) : sumC c' i e v := by
  refine ⟨hs.1, fun fx t l s => ?_⟩
  have h1 := hs.1
  rw [cRun_ex (c := c') (c' := c) (e - i) i _ (fun j a b => hx j a (by omega))]
  exact hs.2 fx t l s
theorem sumM.ex (hs : sumM r i e v) (hx : ∀ j, i ≤ j → j < e → r' j = r j) : sumM r' i e v := by
  refine ⟨hs.1, fun fx st => ?_⟩
  have h1 := hs.1
  rw [mRun_ex (c := r') (c' := r) (e - i) i _ (fun j a b => hx j a (by omega))]
  exact hs.2 fx st
theorem semC.le {B2 : Nat} (hs : semC c i e B g) (hB : B2 ≤ B) : semC c i e B2 g := ⟨hs.1, fun fx t l ht => hs.2 fx t l (Nat.lt_of_lt_of_le ht (Nat.pow_le_pow_right (by decide) hB))⟩
/-! sums -/
theorem sumC.one (hc : ∀ fx s, cStp fx (c i) s = (s.1, s.2.1, s.2.2 + v fx)) : sumC c i (i + 1) v := ⟨by omega, fun fx t l s => by rw [cRun_1, hc]⟩
theorem sumM.one (hc : ∀ fx st, mStp fx (r i).1 (r i).2 st = some (v fx :: st)) : sumM r i (i + 1) v := ⟨by omega, fun fx st => mRun_1 (hc fx st)⟩
theorem sumC.add (h1 : sumC c i e v) (h2 : sumC c e e' w) : sumC c i e' (fun fx => v fx + w fx) := ⟨Nat.le_trans h1.1 h2.1, fun fx t l s => by
  rw [cRun_seg h1.1 h2.1, h1.2, h2.2, Int32.add_assoc]⟩
theorem sumM.add (h1 : sumM r i e v) (h2 : sumM r e e' w) (hc : r e' = (9, 0)) : sumM r i (e' + 1) (fun fx => v fx + w fx) := ⟨by have := h1.1; have := h2.1; omega, fun fx st => by
  refine mRun_seg (Nat.le_trans h1.1 h2.1) (by omega) (mRun_seg h1.1 h2.1 (h1.2 fx st) (h2.2 fx _)) (mRun_1 ?_)
  rw [hc]
  rfl⟩
/-! comparisons -/
theorem b2i_if {p : Prop} [Decidable p] : (if p then (0 : Int32) else 1) = b2i (decide (¬ p)) := by
  by_cases q : p
  · rw [if_pos q, decide_eq_false (fun h9 => h9 q)]; rfl
  · rw [if_neg q, decide_eq_true q]; rfl
theorem cS_1 {s : Cs9} : cStp fx 1001 s = (s.1, s.2.2, 0) := rfl
theorem cS_2 {s : Cs9} : cStp fx 1002 s = ((s.1 <<< ((1 : Int32) &&& 31)) ||| (if s.2.2 ≤ s.2.1 then 0 else 1), s.2.1, 0) := rfl
theorem cS_3 {s : Cs9} : cStp fx 1003 s = ((s.1 <<< ((1 : Int32) &&& 31)) ||| (if s.2.1 ≤ s.2.2 then 0 else 1), s.2.1, 0) := rfl
theorem cS_d {s : Cs9} : cStp fx 1259 s = ((s.1 <<< ((1 : Int32) &&& 31)) ||| (if fx 7 = 0 then 0 else 1), s.2.1, s.2.2) := rfl
theorem cS_o {s : Cs9} : cStp fx 1272 s = ((s.1 >>> ((1 : Int32) &&& 31)) ||| (s.1 &&& 1), s.2.1, s.2.2) := rfl
theorem cS_a {s : Cs9} : cStp fx 1273 s = (if (s.1 &&& 1) = 1 then s.1 >>> ((1 : Int32) &&& 31) else (s.1 >>> ((1 : Int32) &&& 31)) &&& (-2), s.2.1, s.2.2) := rfl
theorem cS_n {s : Cs9} : cStp fx 1274 s = (s.1 ^^^ 1, s.2.1, s.2.2) := rfl
theorem cS_l {s : Cs9} : cStp fx 1275 s = ((s.1 <<< ((1 : Int32) &&& 31)) ||| (if fx 2 < fx 3 then 0 else 1), s.2.1, s.2.2) := rfl
theorem semC.less (h1 : sumC c i e v) (hc : c e = 1001) (h2 : sumC c (e + 1) e' w) (hc2 : c e' = 1002) : semC c i (e' + 1) B (fun fx => decide (¬ w fx ≤ v fx)) := by
  have a1 := h1.1
  have a2 := h2.1
  refine ⟨by omega, fun fx t l ht => ⟨0 + v fx, ?_⟩⟩
  rw [cRun_seg (e := e) a1 (by omega), h1.2, cRun_seg (e := e + 1) (i := e) (by omega) (by omega), cRun_1, hc, cS_1, cRun_seg (e := e') (i := e + 1) a2 (by omega), h2.2, cRun_1, hc2, cS_2, b2i_if, tr_push]
  dsimp only
  rw [Int32.zero_add, Int32.zero_add]
theorem semC.more (h1 : sumC c i e v) (hc : c e = 1001) (h2 : sumC c (e + 1) e' w) (hc2 : c e' = 1003) : semC c i (e' + 1) B (fun fx => decide (¬ v fx ≤ w fx)) := by
  have a1 := h1.1
  have a2 := h2.1
  refine ⟨by omega, fun fx t l ht => ⟨0 + v fx, ?_⟩⟩
  rw [cRun_seg (e := e) a1 (by omega), h1.2, cRun_seg (e := e + 1) (i := e) (by omega) (by omega), cRun_1, hc, cS_1, cRun_seg (e := e') (i := e + 1) a2 (by omega), h2.2, cRun_1, hc2, cS_3, b2i_if, tr_push]
  dsimp only
  rw [Int32.zero_add, Int32.zero_add]
theorem semM.less (h1 : sumM r i e v) (h2 : sumM r e e' w) (hc : r e' = (10, 0)) : semM r i (e' + 1) (fun fx => decide (¬ w fx ≤ v fx)) := ⟨by have := h1.1; have := h2.1; omega, fun fx st _ => by
  refine mRun_seg (Nat.le_trans h1.1 h2.1) (by omega) (mRun_seg h1.1 h2.1 (h1.2 fx st) (h2.2 fx _)) (mRun_1 ?_)
  rw [hc, ← b2i_if]
  rfl⟩
theorem semM.more (h1 : sumM r i e v) (h2 : sumM r e e' w) (hc : r e' = (11, 0)) : semM r i (e' + 1) (fun fx => decide (¬ v fx ≤ w fx)) := ⟨by have := h1.1; have := h2.1; omega, fun fx st _ => by
  refine mRun_seg (Nat.le_trans h1.1 h2.1) (by omega) (mRun_seg h1.1 h2.1 (h1.2 fx st) (h2.2 fx _)) (mRun_1 ?_)
  rw [hc, ← b2i_if]
  rfl⟩
/-! tags -/
theorem semC.diet (hc : c i = 1259) : semC c i (i + 1) B (fun fx => decide (¬ fx 7 = 0)) := ⟨by omega, fun fx t l ht => ⟨l, by rw [cRun_1, hc, cS_d, b2i_if, tr_push]⟩⟩
theorem semC.last (hc : c i = 1275) : semC c i (i + 1) B (fun fx => decide (¬ fx 2 < fx 3)) := ⟨by omega, fun fx t l ht => ⟨l, by rw [cRun_1, hc, cS_l, b2i_if, tr_push]⟩⟩
theorem semM.diet (hc : r i = (6, 0)) : semM r i (i + 1) (fun fx => decide (¬ fx 7 = 0)) := ⟨by omega, fun fx st h7 => mRun_1 (by
  rw [hc]
  show some (fx 7 :: st) = some (b2i (decide (¬ fx 7 = 0)) :: st)
  rcases h7 with e | e <;> rw [e] <;> rfl)⟩
theorem semM.last (hc : r i = (7, 0)) : semM r i (i + 1) (fun fx => decide (¬ fx 2 < fx 3)) := ⟨by omega, fun fx st h7 => mRun_1 (by
  rw [hc, ← b2i_if]
  rfl)⟩
/-! not, and, or -/
theorem b2n_le {b : Bool} : b2n b ≤ 1 := by unfold b2n; split <;> omega
theorem semC.not (hs : semC c i e B g) (hc : c e = 1274) : semC c i (e + 1) B (fun fx => !(g fx)) := by
  refine ⟨by have := hs.1; omega, fun fx t l ht => ?_⟩
  obtain ⟨l', h1⟩ := hs.2 fx t l ht
  exact ⟨l', by rw [cRun_seg hs.1 (by omega), h1, cRun_1, hc, cS_n, tr_not]⟩
theorem semC.and (hB : B ≤ 28) (h1 : semC c i e B g) (h2 : semC c e e' (B + 1) h) (hc : c e' = 1273) : semC c i (e' + 1) B (fun fx => g fx && h fx) := by
  have a1 := h1.1
  have a2 := h2.1
  refine ⟨by omega, fun fx t l ht => ?_⟩
  have hp : 2 ^ B ≤ 2 ^ 28 := Nat.pow_le_pow_right (by decide) hB
  have hb := b2n_le (b := g fx)
  obtain ⟨l1, k1⟩ := h1.2 fx t l ht
  obtain ⟨l2, k2⟩ := h2.2 fx (2 * t + b2n (g fx)) l1 (by rw [Nat.pow_succ]; omega)
  refine ⟨l2, ?_⟩
  rw [cRun_seg (e := e) a1 (by omega), k1, cRun_seg (e := e') a2 (by omega), k2, cRun_1, hc, cS_a, tr_low, tr_shr (by omega), tr_clr]
  show _ = (Int32.ofNat (2 * t + b2n (g fx && h fx)), l2, 0)
  cases g fx <;> cases h fx <;> rfl
theorem semC.or (hB : B ≤ 28) (h1 : semC c i e B g) (h2 : semC c e e' (B + 1) h) (hc : c e' = 1272) : semC c i (e' + 1) B (fun fx => g fx || h fx) := by
  have a1 := h1.1
  have a2 := h2.1
  refine ⟨by omega, fun fx t l ht => ?_⟩
  have hp : 2 ^ B ≤ 2 ^ 28 := Nat.pow_le_pow_right (by decide) hB
  have hb := b2n_le (b := g fx)
  obtain ⟨l1, k1⟩ := h1.2 fx t l ht
  obtain ⟨l2, k2⟩ := h2.2 fx (2 * t + b2n (g fx)) l1 (by rw [Nat.pow_succ]; omega)
  refine ⟨l2, ?_⟩
  rw [cRun_seg (e := e) a1 (by omega), k1, cRun_seg (e := e') a2 (by omega), k2, cRun_1, hc, cS_o, tr_low, tr_shr (by omega), tr_or]
theorem semM.not (hs : semM r i e g) (hc : r e = (12, 0)) : semM r i (e + 1) (fun fx => !(g fx)) := ⟨by have := hs.1; omega, fun fx st h7 => by
  refine mRun_seg hs.1 (by omega) (hs.2 fx st h7) (mRun_1 ?_)
  rw [hc]
  show _ = some (b2i (!(g fx)) :: st)
  cases g fx <;> rfl⟩
theorem semM.and (h1 : semM r i e g) (h2 : semM r e e' h) (hc : r e' = (13, 0)) : semM r i (e' + 1) (fun fx => g fx && h fx) := ⟨by have := h1.1; have := h2.1; omega, fun fx st h7 => by
  refine mRun_seg (Nat.le_trans h1.1 h2.1) (by omega) (mRun_seg h1.1 h2.1 (h1.2 fx st h7) (h2.2 fx _ h7)) (mRun_1 ?_)
  rw [hc]
  show _ = some (b2i (g fx && h fx) :: st)
  cases g fx <;> cases h fx <;> rfl⟩
theorem semM.or (h1 : semM r i e g) (h2 : semM r e e' h) (hc : r e' = (14, 0)) : semM r i (e' + 1) (fun fx => g fx || h fx) := ⟨by have := h1.1; have := h2.1; omega, fun fx st h7 => by
  refine mRun_seg (Nat.le_trans h1.1 h2.1) (by omega) (mRun_seg h1.1 h2.1 (h1.2 fx st h7) (h2.2 fx _ h7)) (mRun_1 ?_)
  rw [hc]
  show _ = some (b2i (g fx || h fx) :: st)
  cases g fx <;> cases h fx <;> rfl⟩
end SE
