/-! The law's calls, one by one. -/
def gd9 (Ln : Nat) (v4 : Int32) : Prop := inb (v4 + 1) Ln = true ∧ inb (v4 + 2) Ln = true ∧ inb (v4 + 3) Ln = true ∧ inb (v4 + 4) Ln = true ∧ inb (v4 + 5) Ln = true
section LK
variable {M : Mm} {Ln : Nat} {xs : Nat → Int32} {v4 : Int32}
theorem i01 : inb (0 : Int32) 1 = true := by decide
theorem Lc_0 (h : InvM M) (g : gd9 Ln v4) : ∃ M2, f_L_c0 20000 Ln xs v4 M = some (true, M2) ∧ InvM M2 := by
  unfold f_L_c0
  simp only [grd_t g.1, grd_t g.2.1, grd_t g.2.2.1, grd_t g.2.2.2.1, grd_t g.2.2.2.2]
  exact fin_C (P_feed h _ _ _ _ _)
theorem Lc_1 (h : InvM M) (g : gd9 Ln v4) : ∃ M2, f_L_c1 20000 Ln xs v4 M = some (true, M2) ∧ InvM M2 := by
  unfold f_L_c1
  simp only [grd_t g.1]
  exact fin_C (P_end h _)
theorem Lc_2 (h : InvM M) (g : gd9 Ln v4) : ∃ M2, f_L_c2 20000 Ln xs v4 M = some (true, M2) ∧ InvM M2 := by
  unfold f_L_c2
  simp only [grd_t i01]
  exact fin_K (P_table h)
theorem Lc_3 (h : InvM M) (g : gd9 Ln v4) : ∃ M2, f_L_c3 20000 Ln xs v4 M = some (true, M2) ∧ InvM M2 := by
  unfold f_L_c3
  simp only [grd_t i01]
  exact fin_K (P_law h)
theorem Lc_4 (h : InvM M) (g : gd9 Ln v4) : ∃ M2, f_L_c4 20000 Ln xs v4 M = some (true, M2) ∧ InvM M2 := by
  unfold f_L_c4
  exact fin_C (P_fault h)
theorem Lc_5 (h : InvM M) (g : gd9 Ln v4) : ∃ M2, f_L_c5 20000 Ln xs v4 M = some (true, M2) ∧ InvM M2 := by
  unfold f_L_c5
  simp only [grd_t g.1, grd_t g.2.1, grd_t i01]
  exact fin_K (P_diner h _ _)
theorem Lc_6 (h : InvM M) (g : gd9 Ln v4) : ∃ M2, f_L_c6 20000 Ln xs v4 M = some (true, M2) ∧ InvM M2 := by
  unfold f_L_c6
  simp only [grd_t g.1, grd_t g.2.1, grd_t i01]
  exact fin_K (P_has h _ _)
theorem Lc_7 (h : InvM M) (g : gd9 Ln v4) : ∃ M2, f_L_c7 20000 Ln xs v4 M = some (true, M2) ∧ InvM M2 := by
  unfold f_L_c7
  simp only [grd_t g.1, grd_t g.2.1, grd_t i01]
  exact fin_K (P_cellar h _ _)
theorem Lc_8 (h : InvM M) (g : gd9 Ln v4) : ∃ M2, f_L_c8 20000 Ln xs v4 M = some (true, M2) ∧ InvM M2 := by
  unfold f_L_c8
  simp only [grd_t g.1, grd_t i01]
  exact fin_K (P_seat h _)
theorem Lc_9 (h : InvM M) (g : gd9 Ln v4) : ∃ M2, f_L_c9 20000 Ln xs v4 M = some (true, M2) ∧ InvM M2 := by
  unfold f_L_c9
  simp only [grd_t g.1, grd_t g.2.1, grd_t i01]
  exact fin_K (P_pass h _ _)
theorem Lc_10 (h : InvM M) (g : gd9 Ln v4) : ∃ M2, f_L_c10 20000 Ln xs v4 M = some (true, M2) ∧ InvM M2 := by
  unfold f_L_c10
  simp only [grd_t g.1, grd_t i01]
  exact fin_K (P_knock h _)
theorem Lc_11 (h : InvM M) (g : gd9 Ln v4) : ∃ M2, f_L_c11 20000 Ln xs v4 M = some (true, M2) ∧ InvM M2 := by
  unfold f_L_c11
  simp only [grd_t g.1, grd_t g.2.1, grd_t i01]
  exact fin_K (P_fill h _ _)
theorem Lc_12 (h : InvM M) (g : gd9 Ln v4) : ∃ M2, f_L_c12 20000 Ln xs v4 M = some (true, M2) ∧ InvM M2 := by
  unfold f_L_c12
  simp only [grd_t g.1, grd_t g.2.1, grd_t i01]
  exact fin_K (P_change h _ _)
theorem Lc_13 (h : InvM M) (g : gd9 Ln v4) : ∃ M2, f_L_c13 20000 Ln xs v4 M = some (true, M2) ∧ InvM M2 := by
  unfold f_L_c13
  by_cases q : xs (v4 + 2).toNatClampNeg = 0
  · simp only [grd_t g.1, grd_t g.2.1, grd_t i01, if_pos q]
    exact fin_B (P_diet h _ 0 (Or.inl rfl))
  · simp only [grd_t g.1, grd_t g.2.1, grd_t i01, if_neg q]
    exact fin_B (P_diet h _ 1 (Or.inr rfl))
theorem Lc_14 (h : InvM M) (g : gd9 Ln v4) : ∃ M2, f_L_c14 20000 Ln xs v4 M = some (true, M2) ∧ InvM M2 := by
  unfold f_L_c14
  by_cases q : xs (v4 + 2).toNatClampNeg = 0
  · simp only [grd_t g.1, grd_t g.2.1, grd_t i01, if_pos q]
    exact fin_B (P_sweet h _ 0 (Or.inl rfl))
  · simp only [grd_t g.1, grd_t g.2.1, grd_t i01, if_neg q]
    exact fin_B (P_sweet h _ 1 (Or.inr rfl))
theorem Lc_15 (h : InvM M) (g : gd9 Ln v4) : ∃ M2, f_L_c15 20000 Ln xs v4 M = some (true, M2) ∧ InvM M2 := by
  unfold f_L_c15
  simp only [grd_t g.1, grd_t i01]
  exact fin_K (P_courses h _)
theorem Lc_16 (h : InvM M) (g : gd9 Ln v4) : ∃ M2, f_L_c16 20000 Ln xs v4 M = some (true, M2) ∧ InvM M2 := by
  unfold f_L_c16
  simp only [grd_t g.1, grd_t i01]
  exact fin_K (P_frees h _)
theorem Lc_17 (h : InvM M) (g : gd9 Ln v4) : ∃ M2, f_L_c17 20000 Ln xs v4 M = some (true, M2) ∧ InvM M2 := by
  unfold f_L_c17
  exact fin_C (P_all h)
theorem Lc_18 (h : InvM M) (g : gd9 Ln v4) : ∃ M2, f_L_c18 20000 Ln xs v4 M = some (true, M2) ∧ InvM M2 := by
  unfold f_L_c18
  exact fin_C (P_held h)
theorem Lc_19 (h : InvM M) (g : gd9 Ln v4) : ∃ M2, f_L_c19 20000 Ln xs v4 M = some (true, M2) ∧ InvM M2 := by
  unfold f_L_c19
  simp only [grd_t g.1, grd_t g.2.1, grd_t i01]
  exact fin_K (P_takes h _ _)
theorem Lc_20 (h : InvM M) (g : gd9 Ln v4) : ∃ M2, f_L_c20 20000 Ln xs v4 M = some (true, M2) ∧ InvM M2 := by
  unfold f_L_c20
  simp only [grd_t g.1, grd_t i01]
  exact fin_K (P_keenest h _)
theorem Lc_21 (h : InvM M) (g : gd9 Ln v4) : ∃ M2, f_L_c21 20000 Ln xs v4 M = some (true, M2) ∧ InvM M2 := by
  unfold f_L_c21
  simp only [grd_t g.1, grd_t g.2.1, grd_t i01]
  exact fin_K (P_goes h _ _)
theorem Lc_22 (h : InvM M) (g : gd9 Ln v4) : ∃ M2, f_L_c22 20000 Ln xs v4 M = some (true, M2) ∧ InvM M2 := by
  unfold f_L_c22
  simp only [grd_t g.1, grd_t g.2.1, grd_t i01]
  exact fin_K (P_ahead h _ _)
theorem Lc_23 (h : InvM M) (g : gd9 Ln v4) : ∃ M2, f_L_c23 20000 Ln xs v4 M = some (true, M2) ∧ InvM M2 := by
  unfold f_L_c23
  exact fin_C (P_swap h)
theorem Lc_24 (h : InvM M) (g : gd9 Ln v4) : ∃ M2, f_L_c24 20000 Ln xs v4 M = some (true, M2) ∧ InvM M2 := by
  unfold f_L_c24
  simp only [grd_t g.1, grd_t g.2.1, grd_t i01]
  exact fin_K (P_fewest h _ _)
theorem Lc_25 (h : InvM M) (g : gd9 Ln v4) : ∃ M2, f_L_c25 20000 Ln xs v4 M = some (true, M2) ∧ InvM M2 := by
  unfold f_L_c25
  by_cases q : xs (v4 + 1).toNatClampNeg = 0
  · simp only [grd_t g.1, grd_t i01, if_pos q]
    exact fin_K (P_bribes h 0)
  · simp only [grd_t g.1, grd_t i01, if_neg q]
    exact fin_K (P_bribes h 1)
theorem Lc_26 (h : InvM M) (g : gd9 Ln v4) : ∃ M2, f_L_c26 20000 Ln xs v4 M = some (true, M2) ∧ InvM M2 := by
  unfold f_L_c26
  simp only [grd_t g.1, grd_t i01]
  exact fin_K (P_ask h _)
theorem Lc_27 (h : InvM M) (g : gd9 Ln v4) : ∃ M2, f_L_c27 20000 Ln xs v4 M = some (true, M2) ∧ InvM M2 := by
  unfold f_L_c27
  simp only [grd_t g.1, grd_t i01]
  exact fin_K (P_worst h _)
theorem Lc_28 (h : InvM M) (g : gd9 Ln v4) : ∃ M2, f_L_c28 20000 Ln xs v4 M = some (true, M2) ∧ InvM M2 := by
  unfold f_L_c28
  exact fin_C (P_alike h)
theorem Lc_29 (h : InvM M) (g : gd9 Ln v4) : ∃ M2, f_L_c29 20000 Ln xs v4 M = some (true, M2) ∧ InvM M2 := by
  unfold f_L_c29
  simp only [grd_t g.1, grd_t g.2.1, grd_t i01]
  exact fin_K (P_share h _ _)
theorem Lc_30 (h : InvM M) (g : gd9 Ln v4) : ∃ M2, f_L_c30 20000 Ln xs v4 M = some (true, M2) ∧ InvM M2 := by
  unfold f_L_c30
  exact fin_C (P_whole h)
theorem Lc_31 (h : InvM M) (g : gd9 Ln v4) : ∃ M2, f_L_c31 20000 Ln xs v4 M = some (true, M2) ∧ InvM M2 := by
  unfold f_L_c31
  simp only [grd_t g.1, grd_t i01]
  exact fin_K (P_sentence h _)
theorem Lc_32 (h : InvM M) (g : gd9 Ln v4) : ∃ M2, f_L_c32 20000 Ln xs v4 M = some (true, M2) ∧ InvM M2 := by
  unfold f_L_c32
  simp only [grd_t g.1, grd_t g.2.1, grd_t i01]
  exact fin_K (P_alone h _ _)
theorem Lc_33 (h : InvM M) (g : gd9 Ln v4) : ∃ M2, f_L_c33 20000 Ln xs v4 M = some (true, M2) ∧ InvM M2 := by
  unfold f_L_c33
  exact fin_C (P_fair h)
theorem Lc_34 (h : InvM M) (g : gd9 Ln v4) : ∃ M2, f_L_c34 20000 Ln xs v4 M = some (true, M2) ∧ InvM M2 := by
  unfold f_L_c34
  simp only [grd_t g.1, grd_t i01]
  exact fin_K (P_game h _)
theorem Lc_35 (h : InvM M) (g : gd9 Ln v4) : ∃ M2, f_L_c35 20000 Ln xs v4 M = some (true, M2) ∧ InvM M2 := by
  unfold f_L_c35
  exact fin_C (P_crowd h)
theorem Lc_36 (h : InvM M) (g : gd9 Ln v4) : ∃ M2, f_L_c36 20000 Ln xs v4 M = some (true, M2) ∧ InvM M2 := by
  unfold f_L_c36
  exact fin_C (P_gaps h)
theorem Lc_37 (h : InvM M) (g : gd9 Ln v4) : ∃ M2, f_L_c37 20000 Ln xs v4 M = some (true, M2) ∧ InvM M2 := by
  unfold f_L_c37
  simp only [grd_t g.1, grd_t i01]
  exact fin_K (P_meets h _)
theorem Lc_38 (h : InvM M) (g : gd9 Ln v4) : ∃ M2, f_L_c38 20000 Ln xs v4 M = some (true, M2) ∧ InvM M2 := by
  unfold f_L_c38
  simp only [grd_t g.1, grd_t i01]
  exact fin_K (P_least h _)
theorem Lc_39 (h : InvM M) (g : gd9 Ln v4) : ∃ M2, f_L_c39 20000 Ln xs v4 M = some (true, M2) ∧ InvM M2 := by
  unfold f_L_c39
  by_cases q : xs (v4 + 2).toNatClampNeg = 0
  · simp only [grd_t g.1, grd_t g.2.1, grd_t i01, if_pos q]
    exact fin_K (P_trial h _ 0)
  · simp only [grd_t g.1, grd_t g.2.1, grd_t i01, if_neg q]
    exact fin_K (P_trial h _ 1)
theorem Lc_40 (h : InvM M) (g : gd9 Ln v4) : ∃ M2, f_L_c40 20000 Ln xs v4 M = some (true, M2) ∧ InvM M2 := by
  unfold f_L_c40
  by_cases q : xs (v4 + 2).toNatClampNeg = 0
  · simp only [grd_t g.1, grd_t g.2.1, grd_t i01, if_pos q]
    exact fin_K (P_span h _ 0)
  · simp only [grd_t g.1, grd_t g.2.1, grd_t i01, if_neg q]
    exact fin_K (P_span h _ 1)
theorem Lc_41 (h : InvM M) (g : gd9 Ln v4) : ∃ M2, f_L_c41 20000 Ln xs v4 M = some (true, M2) ∧ InvM M2 := by
  unfold f_L_c41
  by_cases q : xs (v4 + 2).toNatClampNeg = 0
  · simp only [grd_t g.1, grd_t g.2.1, grd_t i01, if_pos q]
    exact fin_K (P_led h _ 0)
  · simp only [grd_t g.1, grd_t g.2.1, grd_t i01, if_neg q]
    exact fin_K (P_led h _ 1)
theorem Lc_42 (h : InvM M) (g : gd9 Ln v4) : ∃ M2, f_L_c42 20000 Ln xs v4 M = some (true, M2) ∧ InvM M2 := by
  unfold f_L_c42
  simp only [grd_t g.1, grd_t g.2.1, grd_t i01]
  exact fin_K (P_log h _ _)
theorem Lc_43 (h : InvM M) (g : gd9 Ln v4) : ∃ M2, f_L_c43 20000 Ln xs v4 M = some (true, M2) ∧ InvM M2 := by
  unfold f_L_c43
  simp only [grd_t g.1]
  exact fin_C (P_seed h _)
theorem Lc_44 (h : InvM M) (g : gd9 Ln v4) : ∃ M2, f_L_c44 20000 Ln xs v4 M = some (true, M2) ∧ InvM M2 := by
  unfold f_L_c44
  exact fin_C (P_undo h)
theorem Lc_45 (h : InvM M) (g : gd9 Ln v4) : ∃ M2, f_L_c45 20000 Ln xs v4 M = some (true, M2) ∧ InvM M2 := by
  unfold f_L_c45
  obtain ⟨r, M1, M2, h1, h2, h3⟩ := P_image h
  refine ⟨M2, ?_, h3⟩
  rw [show f_X10_image 20000 M = some (r, M1) from h1, bnd_sx, show f_X11_image 20000 M1 = some (r, M2) from h2, bnd_sx]
theorem Lc_46 (h : InvM M) (g : gd9 Ln v4) : ∃ M2, f_L_c46 20000 Ln xs v4 M = some (true, M2) ∧ InvM M2 := by
  unfold f_L_c46
  exact fin_C (P_back h)
theorem Lc_47 (h : InvM M) (g : gd9 Ln v4) : ∃ M2, f_L_c47 20000 Ln xs v4 M = some (true, M2) ∧ InvM M2 := by
  unfold f_L_c47
  simp only [grd_t g.1]
  exact fin_C (P_count h _)
end LK
