/-! The class cuts its text: thing after thing. -/
section CV
variable {tp : List Nat} {M : Mm} {p b : Nat}
theorem ev_L {q : Nat} (hq : q < tp.length) (hl : isL9 (tf tp q) = true) : kd9 tp q = (if rn isL9 tp q = q + 1 ∧ tf tp q < 103 then 300 else wo9 tp q (rn isL9 tp q) (wN 0) 256 q) ∧ vl9 tp q = (if rn isL9 tp q = q + 1 ∧ tf tp q < 103 then tf tp q - 97 else 0) ∧ en9 tp q = rn isL9 tp q := by
  have hn : ¬ tp.length ≤ q := by omega
  refine ⟨?_, ?_, ?_⟩
  · unfold kd9; rw [if_neg hn, if_pos hl]
  · unfold vl9; rw [if_neg hn, if_pos hl]
  · unfold en9; rw [if_neg hn, if_pos hl]
theorem ev_D {q : Nat} (hq : q < tp.length) (hl : isD9 (tf tp q) = true) : kd9 tp q = (if rn isD9 tp q ≤ q + 3 then 301 else 302) ∧ vl9 tp q = nv9 tp q q 0 ∧ en9 tp q = rn isD9 tp q := by
  have hn : ¬ tp.length ≤ q := by omega
  have hnl : ¬ isL9 (tf tp q) = true := fun h9 => by have := of_decide_eq_true h9; have := of_decide_eq_true hl; omega
  refine ⟨?_, ?_, ?_⟩
  · unfold kd9; rw [if_neg hn, if_neg hnl, if_pos hl]
  · unfold vl9; rw [if_neg hn, if_neg hnl, if_pos hl]
  · unfold en9; rw [if_neg hn, if_neg hnl, if_pos hl]
theorem ev_S {q : Nat} (hq : q < tp.length) (hl : ¬ isL9 (tf tp q) = true) (hd : ¬ isD9 (tf tp q) = true) : kd9 tp q = tf tp q ∧ vl9 tp q = 0 ∧ en9 tp q = q + 1 := by
  have hn : ¬ tp.length ≤ q := by omega
  refine ⟨?_, ?_, ?_⟩
  · unfold kd9; rw [if_neg hn, if_neg hl, if_neg hd]
  · unfold vl9; rw [if_neg hn, if_neg hl, if_neg hd]
  · unfold en9; rw [if_neg hn, if_neg hl, if_neg hd]
theorem c_cutW {N q t : Nat} (hN : 402 < N) (hT : tX tp) (h : cT9 tp M) (hq : q < tp.length) (hl : isL9 (tf tp q) = true) (ht : t ≤ 400) (h3 : M 3 3 = Int32.ofNat t) : f_X9_cutsWord N (Int32.ofNat q) M = some (Int32.ofNat (en9 tp q), tS t (Int32.ofNat (kd9 tp q)) (Int32.ofNat q) (Int32.ofNat (vl9 tp q)) M) := by
  have hl4 := hT.1
  have c2 : 97 ≤ tf tp q ∧ tf tp q ≤ 122 := of_decide_eq_true hl
  have hr := (rn_le (tp := tp) (pr := isL9) _ q rfl).2 (by omega)
  obtain ⟨k1, k2, k3⟩ := ev_L hq hl
  unfold f_X9_cutsWord
  rw [c_cw2 hT h N _ q rfl (by omega) (by omega), k1, k2, k3]
  unfold f_X9_cutsWord_36
  rw [c_byte hT h hq]
  simp only [bnd, lt]
  rw [show Int32.ofNat (tf tp q) - 97 = Int32.ofNat (tf tp q - 97) from i32_subN (b := 97) (by omega), i32_succ]
  have hwo : f_X9_cutsWord_73 N (Int32.ofNat q) (Int32.ofNat (rn isL9 tp q)) M = some (Int32.ofNat (rn isL9 tp q), tS t (Int32.ofNat (wo9 tp q (rn isL9 tp q) (wN 0) 256 q)) (Int32.ofNat q) 0 M) := by
    have hw := wN_l 0 (by decide)
    have hx := c_wo11 (N := N) (q := q) hT h hr N (wN 0).length 0 256 q (by omega) (by omega) (by omega) (by omega)
    rw [List.drop_zero] at hx
    unfold f_X9_cutsWord_73
    rw [show f_X9_wordOf N (Int32.ofNat q) (Int32.ofNat (rn isL9 tp q)) M = _ from hx]
    simp only [bnd]
    rw [c_addT ht h3]
  by_cases c3 : rn isL9 tp q = q + 1
  · rw [if_pos (by rw [c3])]
    by_cases c4 : tf tp q < 103
    · rw [if_neg (show ¬ (6 : Int32) ≤ _ from i32_nle (n := 6) (by omega) (by omega)), if_pos ⟨c3, c4⟩, if_pos ⟨c3, c4⟩, c_addT ht h3]
      rfl
    · rw [if_pos (show (6 : Int32) ≤ _ from i32_len (k := 6) (by omega) (by omega)), if_neg (fun h9 => c4 h9.2), if_neg (fun h9 => c4 h9.2)]
      exact hwo
  · rw [if_neg (fun h9 => c3 ((i32_eqN (by omega) (by omega)).mp h9)), if_neg (fun h9 => c3 h9.1), if_neg (fun h9 => c3 h9.1)]
    exact hwo
theorem c_cutN {N q t : Nat} (hN : 402 < N) (hT : tX tp) (h : cT9 tp M) (hq : q < tp.length) (hl : isD9 (tf tp q) = true) (ht : t ≤ 400) (h3 : M 3 3 = Int32.ofNat t) : f_X9_cutsNumber N (Int32.ofNat q) M = some (Int32.ofNat (en9 tp q), tS t (Int32.ofNat (kd9 tp q)) (Int32.ofNat q) (Int32.ofNat (vl9 tp q)) M) := by
  have hl4 := hT.1
  have c2 : 48 ≤ tf tp q ∧ tf tp q ≤ 57 := of_decide_eq_true hl
  have hr := (rn_le (tp := tp) (pr := isD9) _ q rfl).2 (by omega)
  obtain ⟨k1, k2, k3⟩ := ev_D hq hl
  unfold f_X9_cutsNumber
  rw [show (0 : Int32) = Int32.ofNat 0 from rfl, c_cn5 hT h N _ q 0 rfl (by omega) (by omega) (by omega), k1, k2, k3]
  unfold f_X9_cutsNumber_62 f_X9_cutsNumber_79
  rw [show Int32.ofNat q + 3 = Int32.ofNat (q + 3) from i32_addN q 3]
  by_cases c3 : rn isD9 tp q ≤ q + 3
  · rw [if_pos (i32_len c3 (by omega)), if_pos c3, c_addT ht h3]
    rfl
  · rw [if_neg (i32_nle (by omega) (by omega)), if_neg c3, c_addT ht h3]
    rfl
/-- one step of the cutting at a blank -/
theorem c_one1 {N q : Nat} (hT : tX tp) (h : cT9 tp M) (hq : q < tp.length) (hb : tf tp q = 32) : f_X9_cutsOne N (Int32.ofNat q) M = some (Int32.ofNat (q + 1), M) := by
  unfold f_X9_cutsOne f_X9_cutsOne_25 f_X9_cutsOne_44
  rw [c_byte hT h hq, hb]
  simp only [bnd]
  rw [if_pos (show Int32.ofNat 32 < 97 by decide), if_pos (show Int32.ofNat 32 < 48 by decide), if_pos (show Int32.ofNat 32 = 32 from rfl), i32_succ]
/-- one step at a thing -/
theorem c_one2 {N q t : Nat} (hN : 402 < N) (hT : tX tp) (h : cT9 tp M) (hq : q < tp.length) (hb : ¬ tf tp q = 32) (ht : t ≤ 400) (h3 : M 3 3 = Int32.ofNat t) : f_X9_cutsOne N (Int32.ofNat q) M = some (Int32.ofNat (en9 tp q), tS t (Int32.ofNat (kd9 tp q)) (Int32.ofNat q) (Int32.ofNat (vl9 tp q)) M) := by
  have hl4 := hT.1
  have b0 := hT.2 q
  unfold f_X9_cutsOne
  rw [c_byte hT h hq]
  simp only [bnd]
  by_cases cl : isL9 (tf tp q) = true
  · have c2 : 97 ≤ tf tp q ∧ tf tp q ≤ 122 := of_decide_eq_true cl
    rw [if_neg (show ¬ _ < (97 : Int32) from i32_nlt (k := 97) (by omega) (by omega)), if_neg (show ¬ (122 : Int32) < _ from i32_nlt (n := 122) (by omega) (by omega)), c_cutW hN hT h hq cl ht h3]
  · have h25 : f_X9_cutsOne_25 N (Int32.ofNat q) (Int32.ofNat (tf tp q)) M = some (Int32.ofNat (en9 tp q), tS t (Int32.ofNat (kd9 tp q)) (Int32.ofNat q) (Int32.ofNat (vl9 tp q)) M) := by
      unfold f_X9_cutsOne_25
      by_cases cd : isD9 (tf tp q) = true
      · have c2 : 48 ≤ tf tp q ∧ tf tp q ≤ 57 := of_decide_eq_true cd
        rw [if_neg (show ¬ _ < (48 : Int32) from i32_nlt (k := 48) (by omega) (by omega)), if_neg (show ¬ (57 : Int32) < _ from i32_nlt (n := 57) (by omega) (by omega)), c_cutN hN hT h hq cd ht h3]
        rfl
      · have h44 : f_X9_cutsOne_44 N (Int32.ofNat q) (Int32.ofNat (tf tp q)) M = some (Int32.ofNat (en9 tp q), tS t (Int32.ofNat (kd9 tp q)) (Int32.ofNat q) (Int32.ofNat (vl9 tp q)) M) := by
          obtain ⟨k1, k2, k3⟩ := ev_S hq cl cd
          unfold f_X9_cutsOne_44
          rw [if_neg (show ¬ Int32.ofNat _ = (32 : Int32) from fun h9 => hb ((i32_eqN (b := 32) (by omega) (by omega)).mp h9)), c_addT ht h3, k1, k2, k3]
          simp only [bnd, i32_succ]
          rfl
        by_cases c3 : tf tp q < 48
        · rw [if_pos (show _ < (48 : Int32) from i32_ltn (n := 48) c3 (by omega))]; exact h44
        · have : 57 < tf tp q := by
            by_cases c4 : 57 < tf tp q
            · exact c4
            · exact absurd (decide_eq_true (by omega)) cd
          rw [if_neg (show ¬ _ < (48 : Int32) from i32_nlt (k := 48) (by omega) (by omega)), if_pos (show (57 : Int32) < _ from i32_ltn (k := 57) this (by omega))]; exact h44
    by_cases c3 : tf tp q < 97
    · rw [if_pos (show _ < (97 : Int32) from i32_ltn (n := 97) c3 (by omega))]; exact h25
    · have : 122 < tf tp q := by
        by_cases c4 : 122 < tf tp q
        · exact c4
        · exact absurd (decide_eq_true (by omega)) cl
      rw [if_neg (show ¬ _ < (97 : Int32) from i32_nlt (k := 97) (by omega) (by omega)), if_pos (show (122 : Int32) < _ from i32_ltn (k := 122) this (by omega))]; exact h25
/-- where the i-th thing begins -/
def ps9 (tp : List Nat) : Nat → Nat
  | 0 => bl9 tp 0
  | i + 1 => bl9 tp (en9 tp (ps9 tp i))
theorem en_gt {q : Nat} (hq : q < tp.length) : q < en9 tp q ∧ en9 tp q ≤ tp.length := by
  unfold en9
  rw [if_neg (by omega)]
  by_cases c1 : isL9 (tf tp q) = true
  · rw [if_pos c1, rn_p ⟨hq, c1⟩]
    have := rn_le (tp := tp) (pr := isL9) _ (q + 1) rfl
    exact ⟨by omega, this.2 (by omega)⟩
  · rw [if_neg c1]
    by_cases c2 : isD9 (tf tp q) = true
    · rw [if_pos c2, rn_p ⟨hq, c2⟩]
      have := rn_le (tp := tp) (pr := isD9) _ (q + 1) rfl
      exact ⟨by omega, this.2 (by omega)⟩
    · rw [if_neg c2]; omega
/-- the first m things lie cut -/
def cCut (tp : List Nat) (m : Nat) (M : Mm) : Prop := ∀ i, i < m → M 4 i = Int32.ofNat (kd9 tp (ps9 tp i)) ∧ M 5 i = Int32.ofNat (ps9 tp i) ∧ M 6 i = Int32.ofNat (vl9 tp (ps9 tp i))
theorem cCut.add {t : Nat} (h : cCut tp t M) : cCut tp (t + 1) (tS t (Int32.ofNat (kd9 tp (ps9 tp t))) (Int32.ofNat (ps9 tp t)) (Int32.ofNat (vl9 tp (ps9 tp t))) M) := by
  intro i hi
  unfold tS
  rw [wr_nrow (show (4 : Nat) ≠ 3 by decide), wr_nrow (show (4 : Nat) ≠ 6 by decide), wr_nrow (show (4 : Nat) ≠ 5 by decide), wr_nrow (show (5 : Nat) ≠ 3 by decide), wr_nrow (show (5 : Nat) ≠ 6 by decide), wr_nrow (show (6 : Nat) ≠ 3 by decide)]
  by_cases e : i = t
  · subst e
    rw [wr_eq, wr_eq, wr_eq]
    exact ⟨rfl, rfl, rfl⟩
  · repeat rw [wr_nk e]
    exact h i (by omega)
theorem tS_r {t x : Nat} {k b v : Int32} (h3 : x ≠ 3) (h4 : x ≠ 4) (h5 : x ≠ 5) (h6 : x ≠ 6) : tS t k b v M x = M x := by
  unfold tS; rw [wr_nrow h3, wr_nrow h6, wr_nrow h5, wr_nrow h4]
theorem tS_3 {t : Nat} {k b v : Int32} : tS t k b v M 3 3 = Int32.ofNat (t + 1) := by unfold tS; rw [wr_eq]
theorem tS_4 {t j : Nat} {k b v : Int32} (hj : j ≠ 3) : tS t k b v M 3 j = M 3 j := by unfold tS; rw [wr_nk hj, wr_nrow (by decide), wr_nrow (by decide), wr_nrow (by decide)]
theorem c_cut14 {N : Nat} (hN : 402 < N) (hT : tX tp) : ∀ (n k p t c : Nat) (M : Mm), cT9 tp M → M 3 3 = Int32.ofNat t → t ≤ p → c ≤ p → p ≤ tp.length → bl9 tp p = ps9 tp t → cCut tp t M → tp.length - p = k → k < n → ∃ m M', f_X9_cuts_14 N n (Int32.ofNat p) (Int32.ofNat c) M = some (0, M') ∧ m ≤ tp.length ∧ ps9 tp m = tp.length ∧ cCut tp (m + 1) M' ∧ M' 3 4 = M 3 4 ∧ ∀ x, x ≠ 3 → x ≠ 4 → x ≠ 5 → x ≠ 6 → M' x = M x := by
  have hl4 := hT.1
  intro n
  induction n with
  | zero => intro k p t c M _ _ _ _ _ _ _ _ h; omega
  | succ n ih =>
    intro k p t c M hM h3 htp hcp hp hps hC hk hn
    have fin : p = tp.length → ∃ m M', f_X9_cuts_42 N M = some (0, M') ∧ m ≤ tp.length ∧ ps9 tp m = tp.length ∧ cCut tp (m + 1) M' ∧ M' 3 4 = M 3 4 ∧ ∀ x, x ≠ 3 → x ≠ 4 → x ≠ 5 → x ≠ 6 → M' x = M x := fun e => by
      have e2 : ps9 tp t = tp.length := by rw [← hps, e]; exact rn_n (fun h9 => by omega)
      have hA := hC.add
      rw [e2] at hA
      have ek : kd9 tp tp.length = 303 := if_pos (Nat.le_refl _)
      have ev : vl9 tp tp.length = 0 := if_pos (Nat.le_refl _)
      rw [ek, ev] at hA
      refine ⟨t, _, ?_, by omega, e2, hA, tS_4 (by decide), fun x h1 h2 h4 h5 => tS_r h1 h2 h4 h5⟩
      unfold f_X9_cuts_42
      rw [hM.1, c_addT (by omega) h3]
      rfl
    rw [f_X9_cuts_14, hM.1]
    by_cases c1 : p < tp.length
    · rw [if_neg (show ¬ (400 : Int32) ≤ Int32.ofNat c from i32_nle (n := 400) (by omega) (by omega)), if_neg (i32_nle c1 (by omega))]
      by_cases cb : tf tp p = 32
      · rw [c_one1 hT hM c1 cb]
        simp only [bnd, i32_succ]
        exact ih _ (p + 1) t (c + 1) M hM h3 (by omega) (by omega) (by omega) (by rw [← hps]; exact (rn_p ⟨c1, decide_eq_true cb⟩).symm) hC rfl (by omega)
      · have e0 : ps9 tp t = p := by rw [← hps]; exact rn_n (fun h9 => cb (of_decide_eq_true h9.2))
        obtain ⟨g1, g2⟩ := en_gt c1
        have hA := hC.add
        rw [e0] at hA
        clear fin
        have g3 : tp.length - en9 tp p < n := by omega
        have g4 : t + 1 ≤ en9 tp p := by omega
        have g5 : c + 1 ≤ en9 tp p := by omega
        rw [c_one2 hN hT hM c1 cb (by omega) h3]
        simp only [bnd, i32_succ]
        obtain ⟨m, M', a1, a2, a3, a4, a5, a6⟩ := ih (tp.length - en9 tp p) (en9 tp p) (t + 1) (c + 1) _ ⟨by rw [tS_r (by decide) (by decide) (by decide) (by decide)]; exact hM.1, fun j hj => by rw [tS_r (by decide) (by decide) (by decide) (by decide)]; exact hM.2 j hj⟩ tS_3 g4 g5 g2 (by rw [ps9, e0]) hA rfl g3
        exact ⟨m, M', a1, a2, a3, a4, by rw [a5, tS_4 (by decide)], fun x h1 h2 h4 h5 => by rw [a6 x h1 h2 h4 h5, tS_r h1 h2 h4 h5]⟩
    · have e : p = tp.length := by omega
      by_cases c2 : (400 : Int32) ≤ Int32.ofNat c
      · rw [if_pos c2]; exact fin e
      · rw [if_neg c2, if_pos (i32_len (by omega) (by omega))]; exact fin e
theorem c_cuts {N : Nat} (hN : 402 < N) (hT : tX tp) (h : cT9 tp M) : ∃ m M', f_X9_cuts N M = some (0, M') ∧ m ≤ tp.length ∧ ps9 tp m = tp.length ∧ cCut tp (m + 1) M' ∧ M' 3 4 = 0 ∧ ∀ x, x ≠ 3 → x ≠ 4 → x ≠ 5 → x ≠ 6 → M' x = M x := by
  obtain ⟨m, M', a1, a2, a3, a4, a5, a6⟩ := c_cut14 (N := N) hN hT N _ 0 0 0 (wr (wr M 3 3 0) 3 4 0) ⟨by rw [wr_nrow (by decide), wr_nrow (by decide)]; exact h.1, fun j hj => by rw [wr_nrow (by decide), wr_nrow (by decide)]; exact h.2 j hj⟩ (by rw [wr_nk (by decide), wr_eq]; rfl) (by omega) (by omega) (by omega) rfl (fun i hi => by omega) rfl (by have := hT.1; omega)
  exact ⟨m, M', a1, a2, a3, a4, by rw [a5, wr_eq], fun x h1 h2 h4 h5 => by rw [a6 x h1 h2 h4 h5, wr_nrow h1, wr_nrow h1]⟩
end CV
