/-! The switch over the calls. -/
section LQ
variable {M : Mm} {Ln : Nat} {xs : Nat → Int32} {v4 : Int32}
theorem L_sw9 (h : InvM M) (g : gd9 Ln v4) : ∃ M2, f_L_sw 20000 Ln xs v4 M = some (true, M2) ∧ InvM M2 := by
  unfold f_L_sw
  rw [lt_e]
  generalize (xs v4.toNatClampNeg) &&& (63 : Int32) = x
  by_cases e0 : x = 0
  · rw [if_pos e0]; exact Lc_0 h g
  rw [if_neg e0]
  by_cases e1 : x = 1
  · rw [if_pos e1]; exact Lc_1 h g
  rw [if_neg e1]
  by_cases e2 : x = 2
  · rw [if_pos e2]; exact Lc_2 h g
  rw [if_neg e2]
  by_cases e3 : x = 3
  · rw [if_pos e3]; exact Lc_3 h g
  rw [if_neg e3]
  by_cases e4 : x = 4
  · rw [if_pos e4]; exact Lc_4 h g
  rw [if_neg e4]
  by_cases e5 : x = 5
  · rw [if_pos e5]; exact Lc_5 h g
  rw [if_neg e5]
  by_cases e6 : x = 6
  · rw [if_pos e6]; exact Lc_6 h g
  rw [if_neg e6]
  by_cases e7 : x = 7
  · rw [if_pos e7]; exact Lc_7 h g
  rw [if_neg e7]
  by_cases e8 : x = 8
  · rw [if_pos e8]; exact Lc_8 h g
  rw [if_neg e8]
  by_cases e9 : x = 9
  · rw [if_pos e9]; exact Lc_9 h g
  rw [if_neg e9]
  by_cases e10 : x = 10
  · rw [if_pos e10]; exact Lc_10 h g
  rw [if_neg e10]
  by_cases e11 : x = 11
  · rw [if_pos e11]; exact Lc_11 h g
  rw [if_neg e11]
  by_cases e12 : x = 12
  · rw [if_pos e12]; exact Lc_12 h g
  rw [if_neg e12]
  by_cases e13 : x = 13
  · rw [if_pos e13]; exact Lc_13 h g
  rw [if_neg e13]
  by_cases e14 : x = 14
  · rw [if_pos e14]; exact Lc_14 h g
  rw [if_neg e14]
  by_cases e15 : x = 15
  · rw [if_pos e15]; exact Lc_15 h g
  rw [if_neg e15]
  by_cases e16 : x = 16
  · rw [if_pos e16]; exact Lc_16 h g
  rw [if_neg e16]
  by_cases e17 : x = 17
  · rw [if_pos e17]; exact Lc_17 h g
  rw [if_neg e17]
  by_cases e18 : x = 18
  · rw [if_pos e18]; exact Lc_18 h g
  rw [if_neg e18]
  by_cases e19 : x = 19
  · rw [if_pos e19]; exact Lc_19 h g
  rw [if_neg e19]
  by_cases e20 : x = 20
  · rw [if_pos e20]; exact Lc_20 h g
  rw [if_neg e20]
  by_cases e21 : x = 21
  · rw [if_pos e21]; exact Lc_21 h g
  rw [if_neg e21]
  by_cases e22 : x = 22
  · rw [if_pos e22]; exact Lc_22 h g
  rw [if_neg e22]
  by_cases e23 : x = 23
  · rw [if_pos e23]; exact Lc_23 h g
  rw [if_neg e23]
  by_cases e24 : x = 24
  · rw [if_pos e24]; exact Lc_24 h g
  rw [if_neg e24]
  by_cases e25 : x = 25
  · rw [if_pos e25]; exact Lc_25 h g
  rw [if_neg e25]
  by_cases e26 : x = 26
  · rw [if_pos e26]; exact Lc_26 h g
  rw [if_neg e26]
  by_cases e27 : x = 27
  · rw [if_pos e27]; exact Lc_27 h g
  rw [if_neg e27]
  by_cases e28 : x = 28
  · rw [if_pos e28]; exact Lc_28 h g
  rw [if_neg e28]
  by_cases e29 : x = 29
  · rw [if_pos e29]; exact Lc_29 h g
  rw [if_neg e29]
  by_cases e30 : x = 30
  · rw [if_pos e30]; exact Lc_30 h g
  rw [if_neg e30]
  by_cases e31 : x = 31
  · rw [if_pos e31]; exact Lc_31 h g
  rw [if_neg e31]
  by_cases e32 : x = 32
  · rw [if_pos e32]; exact Lc_32 h g
  rw [if_neg e32]
  by_cases e33 : x = 33
  · rw [if_pos e33]; exact Lc_33 h g
  rw [if_neg e33]
  by_cases e34 : x = 34
  · rw [if_pos e34]; exact Lc_34 h g
  rw [if_neg e34]
  by_cases e35 : x = 35
  · rw [if_pos e35]; exact Lc_35 h g
  rw [if_neg e35]
  by_cases e36 : x = 36
  · rw [if_pos e36]; exact Lc_36 h g
  rw [if_neg e36]
  by_cases e37 : x = 37
  · rw [if_pos e37]; exact Lc_37 h g
  rw [if_neg e37]
  by_cases e38 : x = 38
  · rw [if_pos e38]; exact Lc_38 h g
  rw [if_neg e38]
  by_cases e39 : x = 39
  · rw [if_pos e39]; exact Lc_39 h g
  rw [if_neg e39]
  by_cases e40 : x = 40
  · rw [if_pos e40]; exact Lc_40 h g
  rw [if_neg e40]
  by_cases e41 : x = 41
  · rw [if_pos e41]; exact Lc_41 h g
  rw [if_neg e41]
  by_cases e42 : x = 42
  · rw [if_pos e42]; exact Lc_42 h g
  rw [if_neg e42]
  by_cases e43 : x = 43
  · rw [if_pos e43]; exact Lc_43 h g
  rw [if_neg e43]
  by_cases e44 : x = 44
  · rw [if_pos e44]; exact Lc_44 h g
  rw [if_neg e44]
  by_cases e45 : x = 45
  · rw [if_pos e45]; exact Lc_45 h g
  rw [if_neg e45]
  by_cases e46 : x = 46
  · rw [if_pos e46]; exact Lc_46 h g
  rw [if_neg e46]
  by_cases e47 : x = 47
  · rw [if_pos e47]; exact Lc_47 h g
  rw [if_neg e47]
  exact ⟨M, rfl, h⟩
end LQ
