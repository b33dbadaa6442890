/-! Pairs of acts: pass, knock, fill, change, diet, sweet, seed. -/
section KA
variable {A A' : TbS} {K K' : LwS} {ms ms' : List TbS} {im im' : Option (TbS × LwS)} {tp tp' : List Nat} {ft ft' : Int32} {M M1 : Mm} {F : Mm → Option ((Int32 ⊕ String) × Mm)} {f g : Mm → Option (Int32 × Mm)} {kx : String → Mm → Option (Int32 × Mm)} {r : Int32}
def mS (A : TbS) (K : LwS) (ms : List TbS) (im : Option (TbS × LwS)) (tp : List Nat) (ft : Int32) (g : Mm → Option (Int32 × Mm)) (r : Int32) (A' : TbS) (K' : LwS) (ms' : List TbS) (im' : Option (TbS × LwS)) (tp' : List Nat) (ft' : Int32) (cd : Int32) : Prop := ∀ M, mI A K ms im tp ft M → ∃ M2, g M = some (r, M2) ∧ mI A' K' ms' im' tp' ft' M2 ∧ (∀ x, (x < 208 ∨ 218 < x) → M2 x = M x) ∧ M2 208 0 = cd
theorem Ka (hf : ∀ M, f M = bnx (F M) (fun r M2 => grd (inb (0 : Int32) 1) (lt (wr M2 219 ((0 : Int32)).toNatClampNeg r) (fun M5 => some ((0 : Int32), M5)))) kx) (h : InvS A K ms im tp ft M) (h1 : F M = some (.inl r, M1)) (hc : cI A' K' ms' im' tp' ft' M1) (hhi : ∀ x, 208 ≤ x → M1 x = M x) (hok : okS A' K' ms' im') (h2 : mS A K ms im tp ft g r A' K' ms' im' tp' ft' 0) : Kd f g M := by
  obtain ⟨M2, a1, a2, a3, a4⟩ := h2 (wr M1 219 0 r) (h.2.1.c (fun x hx h9 => by rw [wr_nrow (by omega)]; exact hhi x hx))
  refine ⟨0, r, wr M1 219 0 r, M2, ?_, a1, a4, fun _ => by rw [a3 219 (by omega), wr_eq], A', K', ms', im', tp', ft', hc.m (fun x hx => by rw [a3 x (by omega), wr_nrow (by omega)]), a2, hok⟩
  rw [hf M, h1]; rfl
theorem Kxa {e : String} {code : Int32} (hf : ∀ M, f M = bnx (F M) (fun r M2 => grd (inb (0 : Int32) 1) (lt (wr M2 219 ((0 : Int32)).toNatClampNeg r) (fun M5 => some ((0 : Int32), M5)))) kx) (h : InvS A K ms im tp ft M) (h1 : F M = some (.inr e, M1)) (hc : cI A' K' ms' im' tp' ft' M1) (hhi : ∀ x, 208 ≤ x → M1 x = M x) (hok : okS A' K' ms' im') (hk : ∀ M, kx e M = some (code, M)) (hc0 : code ≠ 0) (h2 : mS A K ms im tp ft g 0 A' K' ms' im' tp' ft' code) : Kd f g M := by
  obtain ⟨M2, a1, a2, a3, a4⟩ := h2 M1 (h.2.1.c (fun x hx _ => hhi x hx))
  refine ⟨code, 0, M1, M2, ?_, a1, a4, fun h9 => absurd h9 hc0, A', K', ms', im', tp', ft', hc.m (fun x hx => a3 x (by omega)), a2, hok⟩
  rw [hf M, h1]; exact hk M1
theorem Ba (hf : ∀ M, f M = bnx (F M) (fun r1 M2 => (if r1 = (0 : Int32) then grd (inb (0 : Int32) 1) (lt (wr M2 219 ((0 : Int32)).toNatClampNeg (0 : Int32)) (fun M6 => some ((0 : Int32), M6))) else grd (inb (0 : Int32) 1) (lt (wr M2 219 ((0 : Int32)).toNatClampNeg (1 : Int32)) (fun M8 => some ((0 : Int32), M8))))) kx) (h : InvS A K ms im tp ft M) (h1 : F M = some (.inl r, M1)) (hc : cI A' K' ms' im' tp' ft' M1) (hhi : ∀ x, 208 ≤ x → M1 x = M x) (hok : okS A' K' ms' im') (h2 : mS A K ms im tp ft g r A' K' ms' im' tp' ft' 0) : Bd9 f g M := by
  obtain ⟨M2, a1, a2, a3, a4⟩ := h2 (wr M1 219 0 (if r = 0 then 0 else 1)) (h.2.1.c (fun x hx h9 => by rw [wr_nrow (by omega)]; exact hhi x hx))
  refine ⟨0, r, wr M1 219 0 (if r = 0 then 0 else 1), M2, ?_, a1, a4, fun _ => by rw [a3 219 (by omega), wr_eq], A', K', ms', im', tp', ft', hc.m (fun x hx => by rw [a3 x (by omega), wr_nrow (by omega)]), a2, hok⟩
  rw [hf M, h1]
  by_cases q : r = 0
  · simp only [bnx, if_pos q]; rfl
  · simp only [bnx, if_neg q]; rfl
theorem Bx {e : String} {code : Int32} (hf : ∀ M, f M = bnx (F M) (fun r1 M2 => (if r1 = (0 : Int32) then grd (inb (0 : Int32) 1) (lt (wr M2 219 ((0 : Int32)).toNatClampNeg (0 : Int32)) (fun M6 => some ((0 : Int32), M6))) else grd (inb (0 : Int32) 1) (lt (wr M2 219 ((0 : Int32)).toNatClampNeg (1 : Int32)) (fun M8 => some ((0 : Int32), M8))))) kx) (h : InvS A K ms im tp ft M) (h1 : F M = some (.inr e, M1)) (q1 : cQ M1 M) (hk : ∀ M, kx e M = some (code, M)) (hc : code ≠ 0) (h2 : ∀ M, mI A K ms im tp ft M → ∃ M2, g M = some (0, M2) ∧ mQ M2 M ∧ M2 208 0 = code) : Bd9 f g M := by
  obtain ⟨M2, a1, a2, a3⟩ := h2 M1 (h.2.1.c (fun x hx _ => q1.hi hx))
  refine ⟨code, 0, M1, M2, ?_, a1, a3, fun h9 => absurd h9 hc, A, K, ms, im, tp, ft, h.q q1 a2⟩
  rw [hf M, h1]; exact hk M1
theorem Ca {F g : Mm → Option (Int32 × Mm)} (h : InvS A K ms im tp ft M) (h1 : F M = some (r, M1)) (hc : cI A' K' ms' im' tp' ft' M1) (hhi : ∀ x, 208 ≤ x → M1 x = M x) (hok : okS A' K' ms' im') (h2 : ∃ cd, mS A K ms im tp ft g r A' K' ms' im' tp' ft' cd) : Cd F g M := by
  obtain ⟨cd, h2⟩ := h2
  obtain ⟨M2, a1, a2, a3, -⟩ := h2 M1 (h.2.1.c (fun x hx _ => hhi x hx))
  exact ⟨r, M1, M2, h1, a1, A', K', ms', im', tp', ft', hc.m (fun x hx => a3 x (by omega)), a2, hok⟩
theorem okS.rem (h : okS A K ms im) : okS A K ((A :: ms).take 12) im := ⟨h.1, h.2.1, fun B hB => by
  rcases List.mem_cons.mp (List.mem_of_mem_take hB) with e | e
  · rw [e]; exact h.2.1
  · exact h.2.2.1 B e, h.2.2.2⟩
theorem okS.up (h : okS A K ms im) (h' : okA A') : okS A' K ms im := ⟨h.1, h', h.2.2.1, h.2.2.2⟩
theorem mI.th (h : mI A K ms im tp ft M) {c : Int32} : mI A K ms im tp ft (wr M 208 0 c) := h.q mQ.t208
/-- an act of the class: remembered, then a number of the live table changed -/
theorem c_act (h : cI A K ms im tp ft M) (ht : tz A.2.2.1) {i j : Nat} {v : Int32} (hi : i < 9) : ∃ M1, f_X10_remember 20000 M = some (0, M1) ∧ (∀ k, M1 (7 + k) = M (7 + k) ∨ 9 ≤ k) ∧ cI (A.1, A.2.1, wr A.2.2.1 i j v, A.2.2.2) K ((A :: ms).take 12) im tp ft (wr M1 (7 + i) j v) ∧ ∀ x, 208 ≤ x → wr M1 (7 + i) j v x = M x := by
  obtain ⟨M1, a1, a2, a3⟩ := c_remember h ht
  refine ⟨M1, a1, fun k => ?_, ?_, fun x hx => by rw [wr_nrow (by omega), a3 x (by omega) (by omega)]⟩
  · by_cases hk : 9 ≤ k
    · exact Or.inr hk
    · exact Or.inl (a3 _ (by omega) (by omega))
  · refine a2.up (A' := (A.1, A.2.1, wr A.2.2.1 i j v, A.2.2.2)) ?_ (a2.2.1.frame (wr_nrow (by omega)) (wr_nrow (by omega))) (fun x _ h1 _ _ _ => wr_nrow (by omega)) (fun j9 _ => wr_ne (by omega)) ?_
    · rw [slc_wi hi, a2.1]
    · rw [slc_wr (by omega)]; exact a2.2.2.2.2.2.2.2
/-- the same of the reference -/
theorem m_act (h : mI A K ms im tp ft M) (hO : lwOK K.2) (hl : ms.length ≤ 12) {T' : Tb} {k : Nat} {v : Int32} (hR : RW A.1 A.2.1 T' A.2.2.2 (updF (M 209) k v)) (hk : k ≠ 3) (hk9 : k < 409) : ∃ M1, f_X11_remembers 20000 M = some (0, M1) ∧ M1 209 = M 209 ∧ M1 208 0 = M 208 0 ∧ mI (A.1, A.2.1, T', A.2.2.2) K ((A :: ms).take 12) im tp ft (wr M1 209 k v) ∧ ∀ x, (x < 208 ∨ 218 < x) → wr M1 209 k v x = M x := by
  obtain ⟨M1, a1, a2, a3, a4, a5⟩ := m_remember h hl
  refine ⟨M1, a1, a3, a4 0 (by decide), ?_, fun x hx => by rw [wr_nrow (by omega), a5 x (by omega) (by omega)]⟩
  refine a2.up (A' := (A.1, A.2.1, T', A.2.2.2)) hO ?_ (wr_nk (Ne.symm hk)) (fun j hj => wr_nk (by omega)) (wr_nrow (by decide)) (wr_nrow (by decide)) (wr_nrow (by decide)) (fun j _ => wr_ne (by decide))
  show RW A.1 A.2.1 T' A.2.2.2 (wr M1 209 k v 209)
  rw [wr_row, a3]; exact hR
end KA
section PA
variable {M : Mm}
theorem P_pass (h : InvM M) (v1 v2 : Int32) : Kd (fun M => f_L_pass 20000 v1 v2 M) (fun M => f_X11_pass 20000 v1 v2 M) M := by
  obtain ⟨nd, nc, T, L, K, ms, im, tp, ft, h, hR, hs, hz, h70, h71, hnd, hnc⟩ := Ix h
  rcases i32_rng v1 (n := nc) (by omega) with ⟨c, hc, rfl⟩ | hb
  · rcases i32_rng v2 (n := 10) (by omega) with ⟨s, hs10, rfl⟩ | hb2
    · obtain ⟨M1, a1, a2, a3, a4⟩ := c_act (i := 4) (j := c) (v := Int32.ofNat s) h.1 hR.2.2.2.2.2.2.2 (by decide)
      have e11 : M1 11 c = T 4 c := by
        rw [show M1 11 = M 11 from (a2 4).resolve_right (by decide)]; exact slE hs (i := 4) (by decide)
      refine Ka (F := fun M => f_X10_pass 20000 (Int32.ofNat c) (Int32.ofNat s) M) (r := T 4 c) (fun M => rfl) h ?_ a3 a4 (h.2.2.rem.up h.2.2.2.1) (fun M' hm => ?_)
      · simp only [f_X10_pass, c_nC h71 hc (show nc ≤ 8 by omega), bnx, c_nS hs10, a1, bnd, grd, inb_ofNat (show c < 5 by omega) (by omega), if_true, lt, i32_clampN (show c < 2147483648 by omega), e11]
      · obtain ⟨M2, b1, b2, b3, b4, b5⟩ := m_act (M := wr M' 208 0 0) (hm.th (c := 0)) h.2.2.1 h.1.2.2.2.1.1 (RW_cel (c := c) (k := 0) (v := Int32.ofNat s) (mW hm (c := 0)) hc (by decide) ⟨fun _ => ⟨s, hs10, rfl⟩, fun h => by omega, fun h => by omega, fun h => by omega, fun h => by omega⟩) (by omega) (by omega)
        have c0 : f_X11_ofCellar 20000 (Int32.ofNat c) 0 M2 = some (T 4 c, M2) := by
          rw [show (0 : Int32) = Int32.ofNat 0 from rfl, m_ofCellar (by omega) (by decide), b2, (mW hm).2.2.2.2.1 c hc 0 (by decide)]
        have c1 : ((84 : Int32) + (5 : Int32) * Int32.ofNat c) + (0 : Int32) = Int32.ofNat (84 + 5 * c + 0) := m_cAt c 0
        refine ⟨_, ?_, b4, fun x hx => by rw [b5 x hx, wr_nrow (by omega)], ?_⟩
        · simp only [f_X11_pass, f_X11_pass_26, lt, m_noC (mW hm).1.2.2.2.2.2 hc (show nc ≤ 8 by omega), bnd, if_true, m_noS hs10, m_th0, b1, c0, f_X11_cellarAt, c1, grd, inb_ofNat (show 84 + 5 * c + 0 < 2107 by omega) (by omega), i32_clampN (show 84 + 5 * c + 0 < 2147483648 by omega)]
        · rw [wr_ne (by decide), b3, wr_eq]
    · refine Kx (F := fun M => f_X10_pass 20000 (Int32.ofNat c) v2 M) (e := "java/lang/IndexOutOfBoundsException") (code := 1) (M1 := M) (fun M => rfl) h ?_ hz (fun M => by simp) (by decide) (fun M' hm => ⟨wr (wr M' 208 0 0) 208 0 1, ?_, mQ.t208.trans mQ.t208, wr_eq⟩)
      · simp only [f_X10_pass, c_nC h71 hc (show nc ≤ 8 by omega), bnx, c_nSx hb2]
      · simp only [f_X11_pass, lt, m_noC (mW hm).1.2.2.2.2.2 hc (show nc ≤ 8 by omega), bnd, if_true, m_noSx hb2, f_X11_pass_26, f_X11_pass_21, m_th1, show ¬ (1 : Int32) = 0 from by decide, if_false]
  · refine Kx (F := fun M => f_X10_pass 20000 v1 v2 M) (e := "java/lang/IndexOutOfBoundsException") (code := 1) (M1 := M) (fun M => rfl) h ?_ hz (fun M => by simp) (by decide) (fun M' hm => ⟨wr (wr M' 208 0 0) 208 0 1, ?_, mQ.t208.trans mQ.t208, wr_eq⟩)
    · simp only [f_X10_pass, c_nCx h71 hb, bnx]
    · simp only [f_X11_pass, lt, m_noCx (mW hm).1.2.2.2.2.2 hb (show nc ≤ 8 by omega), bnd, f_X11_pass_26, f_X11_pass_21, m_th1, show ¬ (1 : Int32) = 0 from by decide, if_false]
theorem P_knock (h : InvM M) (v1 : Int32) : Kd (fun M => f_L_knock 20000 v1 M) (fun M => f_X11_knock 20000 v1 M) M := by
  obtain ⟨nd, nc, T, L, K, ms, im, tp, ft, h, hR, hs, hz, h70, h71, hnd, hnc⟩ := Ix h
  rcases i32_rng v1 (n := nc) (by omega) with ⟨c, hc, rfl⟩ | hb
  · obtain ⟨M1, a1, a2, a3, a4⟩ := c_act (i := 7) (j := c) (v := 0) h.1 hR.2.2.2.2.2.2.2 (by decide)
    have e14 : M1 14 c = T 7 c := by
      rw [show M1 14 = M 14 from (a2 7).resolve_right (by decide)]; exact slE hs (i := 7) (by decide)
    refine Ka (F := fun M => f_X10_knock 20000 (Int32.ofNat c) M) (r := T 7 c) (fun M => rfl) h ?_ a3 a4 (h.2.2.rem.up h.2.2.2.1) (fun M' hm => ?_)
    · simp only [f_X10_knock, c_nC h71 hc (show nc ≤ 8 by omega), bnx, a1, bnd, grd, inb_ofNat (show c < 5 by omega) (by omega), if_true, lt, i32_clampN (show c < 2147483648 by omega), e14]
    · obtain ⟨M2, b1, b2, b3, b4, b5⟩ := m_act (M := wr M' 208 0 0) (hm.th (c := 0)) h.2.2.1 h.1.2.2.2.1.1 (RW_cel (c := c) (k := 3) (v := 0) (mW hm (c := 0)) hc (by decide) ⟨fun h => by omega, fun h => by omega, fun h => by omega, fun _ => ⟨0, by decide, rfl⟩, fun h => by omega⟩) (by omega) (by omega)
      have c0 : f_X11_ofCellar 20000 (Int32.ofNat c) 3 M2 = some (T 7 c, M2) := by
        rw [show (3 : Int32) = Int32.ofNat 3 from rfl, m_ofCellar (by omega) (by decide), b2, (mW hm).2.2.2.2.1 c hc 3 (by decide)]
      have c1 : ((84 : Int32) + (5 : Int32) * Int32.ofNat c) + (3 : Int32) = Int32.ofNat (84 + 5 * c + 3) := m_cAt c 3
      refine ⟨_, ?_, b4, fun x hx => by rw [b5 x hx, wr_nrow (by omega)], ?_⟩
      · simp only [f_X11_knock, lt, m_noC (mW hm).1.2.2.2.2.2 hc (show nc ≤ 8 by omega), bnd, if_true, m_th0, b1, c0, f_X11_cellarAt, c1, grd, inb_ofNat (show 84 + 5 * c + 3 < 2107 by omega) (by omega), i32_clampN (show 84 + 5 * c + 3 < 2147483648 by omega)]
      · rw [wr_ne (by decide), b3, wr_eq]
  · refine Kx (F := fun M => f_X10_knock 20000 v1 M) (e := "java/lang/IndexOutOfBoundsException") (code := 1) (M1 := M) (fun M => rfl) h ?_ hz (fun M => by simp) (by decide) (fun M' hm => ⟨wr (wr M' 208 0 0) 208 0 1, ?_, mQ.t208.trans mQ.t208, wr_eq⟩)
    · simp only [f_X10_knock, c_nCx h71 hb, bnx]
    · simp only [f_X11_knock, lt, m_noCx (mW hm).1.2.2.2.2.2 hb (show nc ≤ 8 by omega), bnd, m_th1, show ¬ (1 : Int32) = 0 from by decide, if_false]
theorem P_fill (h : InvM M) (v1 v2 : Int32) : Kd (fun M => f_L_fill 20000 v1 v2 M) (fun M => f_X11_fill 20000 v1 v2 M) M := by
  obtain ⟨nd, nc, T, L, K, ms, im, tp, ft, h, hR, hs, hz, h70, h71, hnd, hnc⟩ := Ix h
  rcases i32_rng v1 (n := nc) (by omega) with ⟨c, hc, rfl⟩ | hb
  · rcases i32_rng1 v2 (lo := 1) (n := 201) (by omega) (by omega) with ⟨s, hs1, hs10, rfl⟩ | hb2
    · obtain ⟨-, -, ⟨g, hg, eg⟩, -⟩ := hR.2.2.2.2.2.2.1.2.2.2.2 c hc
      have hv : ∃ q, q ≤ 200 ∧ (if T 6 c + Int32.ofNat s < 200 then T 6 c + Int32.ofNat s else 200) = Int32.ofNat q := i32_min_ex (m := 200) eg hg (by omega) (i32_ge0 (by omega)) (i32_len (n := 100000) (by omega) (by omega))
      obtain ⟨M1, a1, a2, a3, a4⟩ := c_act (i := 6) (j := c) (v := if T 6 c + Int32.ofNat s < 200 then T 6 c + Int32.ofNat s else 200) h.1 hR.2.2.2.2.2.2.2 (by decide)
      have e13 : M1 13 c = T 6 c := by
        rw [show M1 13 = M 13 from (a2 6).resolve_right (by decide)]; exact slE hs (i := 6) (by decide)
      refine Ka (F := fun M => f_X10_fill 20000 (Int32.ofNat c) (Int32.ofNat s) M) (r := if T 6 c + Int32.ofNat s < 200 then T 6 c + Int32.ofNat s else 200) (fun M => rfl) h ?_ a3 a4 (h.2.2.rem.up h.2.2.2.1) (fun M' hm => ?_)
      · have hwi : f_X10_needsWithin 20000 (Int32.ofNat s) 1 200 M = some (.inl 0, M) := c_nI (lo := 1) (m := 200) hs1 (by omega) (by omega)
        simp only [f_X10_fill, c_nC h71 hc (show nc ≤ 8 by omega), bnx, hwi, a1, bnd, grd, inb_ofNat (show c < 5 by omega) (by omega), if_true, lt, i32_clampN (show c < 2147483648 by omega), e13]
        rw [show (7 + 6 : Nat) = 13 from rfl, wr_eq]
      · obtain ⟨M2, b1, b2, b3, b4, b5⟩ := m_act (M := wr M' 208 0 0) (hm.th (c := 0)) h.2.2.1 h.1.2.2.2.1.1 (RW_cel (c := c) (k := 2) (v := if T 6 c + Int32.ofNat s < 200 then T 6 c + Int32.ofNat s else 200) (mW hm (c := 0)) hc (by decide) ⟨fun h => by omega, fun h => by omega, fun _ => hv, fun h => by omega, fun h => by omega⟩) (by omega) (by omega)
        have c0 : f_X11_ofCellar 20000 (Int32.ofNat c) 2 M2 = some (T 6 c, M2) := by
          rw [show (2 : Int32) = Int32.ofNat 2 from rfl, m_ofCellar (by omega) (by decide), b2, (mW hm).2.2.2.2.1 c hc 2 (by decide)]
        have c9 : f_X11_ofCellar 20000 (Int32.ofNat c) 2 (wr M2 209 (84 + 5 * c + 2) (if T 6 c + Int32.ofNat s < 200 then T 6 c + Int32.ofNat s else 200)) = some (if T 6 c + Int32.ofNat s < 200 then T 6 c + Int32.ofNat s else 200, wr M2 209 (84 + 5 * c + 2) (if T 6 c + Int32.ofNat s < 200 then T 6 c + Int32.ofNat s else 200)) := by
          rw [show (2 : Int32) = Int32.ofNat 2 from rfl, m_ofCellar (by omega) (by decide), wr_eq]
        have c1 : ((84 : Int32) + (5 : Int32) * Int32.ofNat c) + (2 : Int32) = Int32.ofNat (84 + 5 * c + 2) := m_cAt c 2
        have hin : f_X11_in 20000 (Int32.ofNat s) 1 200 = fun M => some (1, M) := by funext M9; exact m_in (lo := 1) (m := 200) hs1 (by omega) (by omega)
        refine ⟨_, ?_, b4, fun x hx => by rw [b5 x hx, wr_nrow (by omega)], ?_⟩
        · simp only [f_X11_fill, f_X11_fill_35, lt, m_noC (mW hm).1.2.2.2.2.2 hc (show nc ≤ 8 by omega), bnd, if_true, hin, show ¬ (1 : Int32) = 0 from by decide, if_false, m_th0, b1, c0, f_X11_cellarAt, c1, grd, inb_ofNat (show 84 + 5 * c + 2 < 2107 by omega) (by omega), i32_clampN (show 84 + 5 * c + 2 < 2147483648 by omega), c9]
        · rw [wr_ne (by decide), b3, wr_eq]
    · refine Kx (F := fun M => f_X10_fill 20000 (Int32.ofNat c) v2 M) (e := "java/lang/IllegalArgumentException") (code := 2) (M1 := M) (fun M => rfl) h ?_ hz (fun M => by simp) (by decide) (fun M' hm => ⟨wr (wr M' 208 0 0) 208 0 2, ?_, mQ.t208.trans mQ.t208, wr_eq⟩)
      · have hwi : f_X10_needsWithin 20000 v2 1 200 M = some (.inr "java/lang/IllegalArgumentException", M) := c_nIx (lo := 1) (m := 200) hb2 (by omega)
        simp only [f_X10_fill, c_nC h71 hc (show nc ≤ 8 by omega), bnx, hwi]
      · have hin : f_X11_in 20000 v2 1 200 = fun M => some (0, M) := by funext M9; exact m_inx (lo := 1) (m := 200) hb2 (by omega)
        simp only [f_X11_fill, f_X11_fill_35, lt, m_noC (mW hm).1.2.2.2.2.2 hc (show nc ≤ 8 by omega), bnd, if_true, hin, m_th0, m_th1, show ¬ (1 : Int32) = 0 from by decide, if_false]
  · refine Kx (F := fun M => f_X10_fill 20000 v1 v2 M) (e := "java/lang/IndexOutOfBoundsException") (code := 1) (M1 := M) (fun M => rfl) h ?_ hz (fun M => by simp) (by decide) (fun M' hm => ⟨wr (wr M' 208 0 0) 208 0 1, ?_, mQ.t208.trans mQ.t208, wr_eq⟩)
    · simp only [f_X10_fill, c_nCx h71 hb, bnx]
    · simp only [f_X11_fill, lt, m_noCx (mW hm).1.2.2.2.2.2 hb (show nc ≤ 8 by omega), bnd, m_th1, show ¬ (1 : Int32) = 0 from by decide, if_false]
theorem P_seed (h : InvM M) (v1 : Int32) : Cd (fun M => f_X10_seed 20000 v1 M) (fun M => f_X11_seed 20000 v1 M) M := by
  obtain ⟨nd, nc, T, L, K, ms, im, tp, ft, h, hR, hs, hz, h70, h71, hnd, hnc⟩ := Ix h
  refine Ca (A' := (nd, nc, wr T 0 9 v1, L)) (K' := K) (ms' := ms) (im' := im) (tp' := tp) (ft' := ft) (r := T 0 9) (M1 := wr M 7 9 v1) h ?_ ?_ (fun x hx => wr_nrow (by omega)) (h.2.2.up ⟨h.2.2.2.1.1, ?_, fun j hj => by show wr T 0 9 v1 3 j = 0; rw [wr_ne (by decide)]; exact h.2.2.2.1.2.2.1 j hj, by obtain ⟨q, hq, e⟩ := h.2.2.2.1.2.2.2; exact ⟨q, hq, by show wr T 0 9 v1 0 10 = _; rw [wr_nk (by decide)]; exact e⟩⟩) ⟨0, fun M' hm => ?_⟩
  · simp only [f_X10_seed, lt]
    rw [show M 7 9 = T 0 9 from slE hs (i := 0) (by decide)]
  · refine h.1.up (A' := (nd, nc, wr T 0 9 v1, L)) ?_ (h.1.2.1.frame (wr_nrow (by decide)) (wr_nrow (by decide))) (fun x _ h1 _ _ _ => wr_nrow (by omega)) (fun j9 _ => wr_ne (by decide)) ?_
    · rw [slc_w0, hs]
    · rw [slc_wr (by omega)]; exact h.1.2.2.2.2.2.2.2
  · obtain ⟨k, hk, e⟩ := h.2.2.2.1.2.1
    exact ⟨k, hk, by show wr T 0 9 v1 0 2 = _; rw [wr_nk (by decide)]; exact e⟩
  · refine ⟨wr (wr M' 208 0 0) 209 11 v1, ?_, ?_, fun x hx => by rw [wr_nrow (by omega), wr_nrow (by omega)], by rw [wr_ne (by decide), wr_eq]⟩
    · simp only [f_X11_seed, lt, grd, show inb (11 : Int32) 2107 = true from by decide, if_true, show (11 : Int32).toNatClampNeg = 11 from by decide]
      rw [(mW hm).2.1.2.2.2.2.2.2.1]
    · refine (hm.th (c := 0)).up (A' := (nd, nc, wr T 0 9 v1, L)) h.2.2.1 ?_ (wr_nk (by decide)) (fun j hj => wr_nk (by omega)) (wr_nrow (by decide)) (wr_nrow (by decide)) (wr_nrow (by decide)) (fun j _ => wr_ne (by decide))
      show RW nd nc (wr T 0 9 v1) L _
      rw [wr_row]
      exact RW_sc (j := 9) (mW hm) (by omega) ⟨fun h => by omega, fun h => by omega, fun h => by omega⟩
end PA
