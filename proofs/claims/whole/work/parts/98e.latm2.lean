/-! A law's text: atoms. -/
def kA9 (N : Nat) (kA : Mm → Option (Int32 × Mm)) (M6 : Mm) : Option (Int32 × Mm) := bnd (f_X11_readTag N M6) (fun r9 M10 => (if r9 = (0 : Int32) then bnd (f_X11_readSum N M10) (fun r13 M14 => (if r13 = (0 : Int32) then some ((0 : Int32), M14) else bnd (f_X11_sign N (60 : Int32) M14) (fun r17 M18 => (if r17 = (0 : Int32) then bnd (f_X11_sign N (62 : Int32) M18) (fun r29 M30 => (if r29 = (0 : Int32) then some ((0 : Int32), M30) else f_X11_readAtom_b_152 N kA r17 M30)) else f_X11_readAtom_b_152 N kA r17 M18)))) else some ((1 : Int32), M10)))
section LD
variable {tp : List Nat} {M M' M1 M2 Mc Mr R : Mm} {i m cs rs dep B : Nat} {fa : Int32 → Mm → Option (Int32 × Mm)} {ga : Mm → Option (Int32 × Mm)}
theorem w13r {v : Int32} : mW9 rs (wr R 208 13 v) R := ⟨fun x h _ => wr_nrow h, fun j _ _ h13 _ => wr_nk h13, fun j _ => wr_ne (by decide)⟩
theorem mA.d13 {v : Int32} (h : mA tp i R) : mA tp i (wr R 208 13 v) := h.f2 (wr_nk (by decide)) (wr_nk (by decide)) (wr_nk (by decide)) (wr_nrow (by decide))
theorem rc13 {v : Int32} : rcM (wr R 208 13 v) = rcM R := by unfold rcM; rw [wr_nrow (by decide)]
theorem c_79 (hT : tX tp) (hc : cP tp m i M) (hd : dep ≤ 6) (h : dep = 6 ∨ (¬ kd9 tp (ps9 tp i) = 274 ∧ ¬ kd9 tp (ps9 tp i) = 40)) : f_X2_readsAtom_b 20000 31 fa (Int32.ofNat dep) M = f_X2_readsAtom_b_79 20000 31 fa M := by
  unfold f_X2_readsAtom_b f_X2_readsAtom_b_38
  by_cases c : dep = 6
  · have c6 : (6 : Int32) ≤ Int32.ofNat dep := i32_len (k := 6) (by omega) (by omega)
    rw [if_pos c6, if_pos c6]
  · have c6 : ¬ (6 : Int32) ≤ Int32.ofNat dep := i32_nle (n := 6) (by omega) (by omega)
    obtain ⟨n1, n2⟩ := h.resolve_left c
    rw [if_neg c6, show f_X9_eats 20000 274 M = some (0, M) from c_ne 20000 hT hc 274 n1 (by decide)]
    simp only [bnd, if_true]
    rw [if_neg c6, show f_X9_eats 20000 40 M = some (0, M) from c_ne 20000 hT hc 40 n2 (by decide)]
    simp only [if_true]
theorem kd_lit (hT : tX tp) (x : Int32) (k : Nat) (hx : x = Int32.ofNat k) (hk : k < 1000) (h : ¬ kd9 tp (ps9 tp i) = k) : ¬ Int32.ofNat (kd9 tp (ps9 tp i)) = x := fun h8 => h ((i32_eqN (by have := (kd_le (q := ps9 tp i) hT).1; omega) (by omega)).mp (h8.trans hx))
theorem c_79x (hT : tX tp) (h : lS tp m i cs rs dep M M') (hrs : rs < 400) (n1 : ¬ kd9 tp (ps9 tp i) = 259) (n2 : ¬ kd9 tp (ps9 tp i) = 275) (hk : ¬ (isP (kd9 tp (ps9 tp i)) ∨ kd9 tp (ps9 tp i) = 301)) : f_X2_readsAtom_b_79 20000 31 fa M = some (0, M) := by
  have h0 : ¬ (400 : Int32) ≤ 0 := by decide
  obtain ⟨d1, -⟩ := J_part0 hT h hrs hk
  unfold f_X2_readsAtom_b_79
  rw [c_k 20000 h.1]
  simp only [bnd]
  rw [if_neg (kd_lit hT 259 259 rfl (by decide) n1), if_neg (kd_lit hT 275 275 rfl (by decide) n2)]
  unfold f_X2_readsSum
  rw [show f_X2_readsSum_2 20000 31 20000 0 M = some (0, M) from d1 19999 0 h0]
  simp only [if_true]
theorem m_tag0 (hT : tX tp) (h : mA tp i M') (n1 : ¬ kd9 tp (ps9 tp i) = 259) (n2 : ¬ kd9 tp (ps9 tp i) = 275) : ∃ R, f_X11_readTag 20000 M' = some (0, R) ∧ mA tp i R ∧ mE R M' := by
  obtain ⟨R0, l1, l2, l3⟩ := m_letA (N := 20000) (by decide) hT h
  obtain ⟨b1, b2⟩ := mX.mv (p' := ps9 tp i) l2 (ps_len i)
  refine ⟨wr R0 208 10 (Int32.ofNat (ps9 tp i)), ?_, ⟨_, _, b1, bl_ps⟩, b2.trans l3⟩
  unfold f_X11_readTag
  rw [l1]
  simp only [bnd]
  rw [show f_X11_isWord 20000 1000015 R0 = some (0, R0) from m_w0 (k := 3) (by decide) hT rfl (by decide) l2 n1]
  simp only [if_true]
  rw [show f_X11_isWord 20000 1000029 R0 = some (0, R0) from m_w0 (k := 19) (by decide) hT rfl (by decide) l2 n2]
  simp only [if_true, f_X11_readTag_33, f_X11_readTag_55, lt, if_pos (show (-1 : Int32) < 0 by decide), l2.2.2.1]
theorem m_tag1 {a : Nat} (hT : tX tp) (h : mA tp i M') (h16 : M' 208 16 = Int32.ofNat rs) (hrs : rs < 400) (hk : (kd9 tp (ps9 tp i) = 259 ∧ a = 6) ∨ (kd9 tp (ps9 tp i) = 275 ∧ a = 7)) : ∃ R, f_X11_readTag 20000 M' = some (1, R) ∧ mA tp (i + 1) R ∧ rcM R rs = (Int32.ofNat a, 0) ∧ R 208 16 = Int32.ofNat (rs + 1) ∧ R 208 13 = M' 208 13 ∧ mW9 rs R M' := by
  obtain ⟨R0, l1, l2, l3⟩ := m_letA (N := 20000) (by decide) hT h
  have n10 : ¬ (1 : Int32) = 0 := by decide
  obtain ⟨R1, c1, c2, c3, c4, c5, c6⟩ := m_emit (N := 20000) (a := Int32.ofNat a) (b := 0) (M := R0) (rs := rs) (by rw [l3.s16]; exact h16) hrs
  have hA : mA tp (i + 1) R0 := by
    rcases hk with ⟨e, -⟩ | ⟨e, -⟩
    · exact l2.nx (k := 3) hT (by decide) e
    · exact l2.nx (k := 19) hT (by decide) e
  refine ⟨R1, ?_, hA.f2 (c5 10 (by decide)) (c5 11 (by decide)) (c5 12 (by decide)) (c6 214 (by decide) (by decide)), c2, c3, by rw [c5 13 (by decide), l3.s13], c4.trans l3.w (Nat.le_refl _)⟩
  have h33 : f_X11_readTag_33 20000 (Int32.ofNat a) R0 = some (1, R1) := by
    unfold f_X11_readTag_33 f_X11_readTag_55
    rw [if_neg (i32_nn (by omega)), c1]
    simp only [bnd]
    rw [if_neg (i32_nn (by omega))]
  unfold f_X11_readTag
  rw [l1]
  simp only [bnd]
  rcases hk with ⟨e, rfl⟩ | ⟨e, rfl⟩
  · rw [show f_X11_isWord 20000 1000015 R0 = some (1, R0) from m_w1 (k := 3) (by decide) hT rfl (by decide) l2 e]
    simp only [if_neg n10]
    exact h33
  · rw [show f_X11_isWord 20000 1000015 R0 = some (0, R0) from m_w0 (k := 3) (by decide) hT rfl (by decide) l2 (by omega)]
    simp only [if_true]
    rw [show f_X11_isWord 20000 1000029 R0 = some (1, R0) from m_w1 (k := 19) (by decide) hT rfl (by decide) l2 e]
    simp only [if_neg n10]
    exact h33
theorem m_nopn (hT : tX tp) (h : mA tp i M') (n1 : ¬ kd9 tp (ps9 tp i) = 40) (n2 : ¬ kd9 tp (ps9 tp i) = 274) : ∃ R, f_X11_readAtom_b 20000 ga M' = kA9 20000 ga R ∧ mA tp i R ∧ mE R M' := by
  obtain ⟨R1, c1, c2, -, c3⟩ := m_s0 (N := 20000) (c := 40) (by decide) hT (by decide) (by decide) (by decide) h n1
  obtain ⟨R2, d1, d2, -, d3⟩ := m_p0 (N := 20000) (k := 18) (s := 28) (by decide) hT rfl (by decide) c2 n2
  refine ⟨R2, ?_, d2, d3.trans c3⟩
  unfold f_X11_readAtom_b
  rw [show f_X11_sign 20000 40 M' = some (0, R1) from c1]
  simp only [bnd, if_true]
  rw [show f_X11_passes 20000 1000028 R1 = some (0, R2) from d1]
  simp only [if_true]
  rfl
/-- a comparison -/
theorem J_cmp (hT : tX tp) (hS : lS tp m i cs rs dep M R) (e1 : cs + 4 ≤ ps9 tp i) (e2 : rs + 4 ≤ ps9 tp i) (n1 : ¬ kd9 tp (ps9 tp i) = 259) (n2 : ¬ kd9 tp (ps9 tp i) = 275) : ∃ r Mc Mr, f_X2_readsAtom_b_79 20000 31 fa M = some (r, Mc) ∧ kA9 20000 ga R = some (r, Mr) ∧ oC tp m i cs rs dep B M R r Mc Mr := by
  have hl4 := hT.1
  have hps := ps_len (tp := tp) i
  have n10 : ¬ (1 : Int32) = 0 := by decide
  obtain ⟨R0, t1, t2, t3⟩ := m_tag0 hT hS.2.2.1 n1 n2
  have hS0 := hS.e1 t2 t3
  unfold f_X2_readsAtom_b_79 kA9
  rw [c_k 20000 hS.1, t1]
  simp only [bnd, if_true]
  rw [if_neg (kd_lit hT 259 259 rfl (by decide) n1), if_neg (kd_lit hT 275 275 rfl (by decide) n2)]
  obtain ⟨r, Ma, Ra, d1, d2, d3, d4, d5⟩ := J_sum hT hS0 (by omega) (by omega) (by omega) (by omega) (by omega)
  rw [d1, d2]
  simp only []
  rcases d5 with ⟨er, j, x1, x2⟩ | ⟨er, j, cs', rs', v, x1, x2, x3, x4, x5, x6, x7⟩
  · subst er
    simp only [if_true]
    exact ⟨0, Ma, Ra, rfl, rfl, d3, d4.trans t3.w (Nat.le_refl _), Or.inl ⟨rfl, j, x1, x2⟩⟩
  · subst er
    simp only [if_neg n10]
    have y1 := x6.1
    have y2 := x7.1
    have hpj := ps_len (tp := tp) j
    rw [c_k 20000 x1.1]
    simp only []
    by_cases w : kd9 tp (ps9 tp j) = 60 ∨ kd9 tp (ps9 tp j) = 62
    · have hlt := kd_lt hT (q := ps9 tp j) (by omega)
      have hgt := (ps_gt hlt).2
      have hpj1 := ps_len (tp := tp) (j + 1)
      obtain ⟨M1, a1, a2, a3⟩ := c_e1 (N := 20000) hT x1.1 rfl (by omega)
      obtain ⟨M2, b1, b2, b3, b4, b5⟩ := c_step (N := 20000) (cs := cs') (x := 1001) (M := M1) (by rw [a3 31 (by decide)]; exact x1.2.1) (by omega)
      have hcP2 : cP tp m (j + 1) M2 := a2.fr (b5 4 (by decide) (by decide)) (b5 5 (by decide) (by decide)) (b5 6 (by decide) (by decide)) (by rw [b5 3 (by decide) (by decide)]; exact a2.2.2.2.1) a2.2.2.2.2
      have hsum : ∀ R1 : Mm, mA tp (j + 1) R1 → mE R1 Ra → ∃ r Mz Rz, f_X2_readsSum 20000 31 M2 = some (r, Mz) ∧ f_X11_readSum 20000 R1 = some (r, Rz) ∧ oS tp m (j + 1) (cs' + 1) rs' dep M2 R1 r Mz Rz := fun R1 hA hE => J_sum hT ⟨hcP2, b3, hA, by rw [hE.s16]; exact x1.2.2.2.1, by rw [hE.s13]; exact x1.2.2.2.2⟩ (by omega) (by omega) (by omega) (by omega) (by omega)
      have fin : ∀ (R1 : Mm) (lt9 : Bool), mA tp (j + 1) R1 → mE R1 Ra → (lt9 = true ↔ kd9 tp (ps9 tp j) = 60) → ∃ r Mc Mr, f_X2_readsAtom_b_143 20000 31 fa (Int32.ofNat (kd9 tp (ps9 tp j))) Ma = some (r, Mc) ∧ f_X11_readAtom_b_152 20000 ga (b2i lt9) R1 = some (r, Mr) ∧ oC tp m i cs rs dep B M R r Mc Mr := fun R1 lt9 hA hE hlt9 => by
        obtain ⟨r, Mz, Rz, z1, z2, z3, z4, z5⟩ := hsum R1 hA hE
        unfold f_X2_readsAtom_b_143 f_X11_readAtom_b_152
        rw [a1]
        simp only [bnd, if_neg n10]
        rw [b1]
        simp only []
        rw [z1, z2]
        simp only []
        rcases z5 with ⟨er, j2, q1, q2⟩ | ⟨er, j2, cs2, rs2, w2, q1, q2, q3, q4, q5, q6, q7⟩
        · subst er
          simp only [if_true]
          exact ⟨0, Mz, Rz, rfl, rfl, (z3.trans (b4.trans a3.w (Nat.le_refl _)) (by omega)).trans d3 y1, ((z4.trans hE.w (Nat.le_refl _)).trans d4 y2).trans t3.w (Nat.le_refl _), Or.inl ⟨rfl, j2, q1, q2⟩⟩
        · subst er
          simp only [if_neg n10]
          have o1 := q6.1
          have o2 := q7.1
          have hpj2 := ps_len (tp := tp) j2
          have sA : ∀ x9 : Int32, ∃ Mq, f_X2_readsAtom_b_188 20000 31 fa x9 Mz = some (1, Mq) ∧ Mq 36 cs2 = x9 ∧ Mq 31 2 = Int32.ofNat (cs2 + 1) ∧ cW cs2 Mq Mz ∧ ∀ y, y ≠ 31 → y ≠ 36 → Mq y = Mz y := fun x9 => by
            obtain ⟨Mq, f1, f2, f3, f4, f5⟩ := c_step (N := 20000) (x := x9) (M := Mz) q1.2.1 (by omega)
            refine ⟨Mq, ?_, f2, f3, f4, f5⟩
            unfold f_X2_readsAtom_b_188
            rw [f1]; rfl
          have sB : ∀ x9 : Int32, ∃ Rq, f_X11_readAtom_b_173 20000 ga x9 Rz = some (1, Rq) ∧ rcM Rq rs2 = (x9, 0) ∧ Rq 208 16 = Int32.ofNat (rs2 + 1) ∧ mW9 rs2 Rq Rz ∧ (∀ j, j ≠ 16 → Rq 208 j = Rz 208 j) ∧ ∀ y, y ≠ 208 → y ≠ 209 → Rq y = Rz y := fun x9 => by
            obtain ⟨Rq, f1, f2, f3, f4, f5, f6⟩ := m_emit (N := 20000) (a := x9) (b := 0) (M := Rz) q1.2.2.2.1 (by omega)
            refine ⟨Rq, ?_, f2, f3, f4, f5, f6⟩
            unfold f_X11_readAtom_b_173
            rw [f1]; rfl
          have good : ∀ (xc xm : Int32) (g : Fx → Bool), inv8 g → (∀ c : Nat → Int32, sumC c cs cs' v → c cs' = 1001 → sumC c (cs' + 1) cs2 w2 → c cs2 = xc → semC c cs (cs2 + 1) B g) → (∀ r : Nat → Int32 × Int32, sumM r rs rs' v → sumM r rs' rs2 w2 → r rs2 = (xm, 0) → semM r rs (rs2 + 1) g) → ∃ r Mc Mr, f_X2_readsAtom_b_188 20000 31 fa xc Mz = some (r, Mc) ∧ f_X11_readAtom_b_173 20000 ga xm Rz = some (r, Mr) ∧ oC tp m i cs rs dep B M R r Mc Mr := fun xc xm g hi8 hgC hgM => by
            obtain ⟨Mq, f1, f2, f3, f4, f5⟩ := sA xc
            obtain ⟨Rq, k1, k2, k3, k4, k5, k6⟩ := sB xm
            refine ⟨1, Mq, Rq, f1, k1, (f4.trans (z3.trans (b4.trans a3.w (Nat.le_refl _)) (by omega)) (by omega)).trans d3 y1, ((k4.trans (z4.trans hE.w (Nat.le_refl _)) (by omega)).trans d4 y2).trans t3.w (Nat.le_refl _), Or.inr ⟨rfl, j2, cs2 + 1, rs2 + 1, g, ⟨?_, f3, ?_, k3, ?_⟩, by omega, by omega, by omega, hi8, ?_, ?_⟩⟩
            · exact q1.1.fr (f5 4 (by decide) (by decide)) (f5 5 (by decide) (by decide)) (f5 6 (by decide) (by decide)) (by rw [f5 3 (by decide) (by decide)]; exact q1.1.2.2.2.1) q1.1.2.2.2.2
            · exact q1.2.2.1.f2 (k5 10 (by decide)) (k5 11 (by decide)) (k5 12 (by decide)) (k6 214 (by decide) (by decide))
            · rw [k5 13 (by decide)]; exact q1.2.2.2.2
            · refine hgC _ (x6.ex (fun j9 h1 h2 => ?_)) ?_ (q6.ex (fun j9 h1 h2 => ?_)) f2
              · rw [f4.2.2 j9 (by omega), z3.2.2 j9 (by omega), b4.2.2 j9 h2, a3 36 (by decide)]
              · rw [f4.2.2 cs' (by omega), z3.2.2 cs' (by omega)]; exact b2
              · rw [f4.2.2 j9 h2]
            · refine hgM _ (x7.ex (fun j9 h1 h2 => ?_)) (q7.ex (fun j9 h1 h2 => ?_)) k2
              · unfold rcM
                rw [k4.2.2 _ (by omega), k4.2.2 _ (by omega), z4.2.2 _ (by omega), z4.2.2 _ (by omega), hE.1 209 (by decide)]
              · unfold rcM
                rw [k4.2.2 _ (by omega), k4.2.2 _ (by omega)]
          cases lt9 with
          | true =>
            have e60 := hlt9.mp rfl
            rw [e60, if_pos (show Int32.ofNat 60 = (60 : Int32) from rfl), if_neg (show ¬ b2i true = 0 by decide)]
            exact good 1002 10 (fun fx => decide (¬ w2 fx ≤ v fx)) (fun fx y => by show decide (¬ w2 (updF fx 8 y) ≤ v (updF fx 8 y)) = _; rw [q5 fx y, x5 fx y]) (fun c h1 h2 h3 h4 => semC.less h1 h2 h3 h4) (fun r h1 h2 h3 => semM.less h1 h2 h3)
          | false =>
            have e60 : ¬ kd9 tp (ps9 tp j) = 60 := fun h9 => by have := hlt9.mpr h9; exact nomatch this
            have e62 : kd9 tp (ps9 tp j) = 62 := by omega
            rw [e62, if_neg (show ¬ Int32.ofNat 62 = (60 : Int32) by decide), if_pos (show b2i false = 0 by decide)]
            exact good 1003 11 (fun fx => decide (¬ v fx ≤ w2 fx)) (fun fx y => by show decide (¬ v (updF fx 8 y) ≤ w2 (updF fx 8 y)) = _; rw [q5 fx y, x5 fx y]) (fun c h1 h2 h3 h4 => semC.more h1 h2 h3 h4) (fun r h1 h2 h3 => semM.more h1 h2 h3)
      by_cases w6 : kd9 tp (ps9 tp j) = 60
      · obtain ⟨R1, c1, c2, c3⟩ := m_s1 (N := 20000) (c := 60) (by decide) hT (by decide) (by decide) (by decide) x1.2.2.1 w6
        rw [show f_X11_sign 20000 60 Ra = some (1, R1) from c1]
        simp only [if_neg n10]
        rw [if_pos (show Int32.ofNat (kd9 tp (ps9 tp j)) = (60 : Int32) by rw [w6]; rfl)]
        exact fin R1 true c2 c3 ⟨fun _ => w6, fun _ => rfl⟩
      · have w62 : kd9 tp (ps9 tp j) = 62 := by omega
        obtain ⟨R1, c1, c2, -, c3⟩ := m_s0 (N := 20000) (c := 60) (by decide) hT (by decide) (by decide) (by decide) x1.2.2.1 w6
        obtain ⟨R2, f1, f2, f3⟩ := m_s1 (N := 20000) (c := 62) (by decide) hT (by decide) (by decide) (by decide) c2 w62
        rw [show f_X11_sign 20000 60 Ra = some (0, R1) from c1]
        simp only [if_true]
        rw [show f_X11_sign 20000 62 R1 = some (1, R2) from f1]
        simp only [if_neg n10]
        rw [if_neg (kd_lit hT 60 60 rfl (by decide) w6), if_pos (show Int32.ofNat (kd9 tp (ps9 tp j)) = (62 : Int32) by rw [w62]; rfl)]
        exact fin R2 false f2 (f3.trans c3) ⟨fun h9 => (nomatch h9), fun h9 => absurd h9 w6⟩
    · have w6 : ¬ kd9 tp (ps9 tp j) = 60 := fun h9 => w (Or.inl h9)
      have w62 : ¬ kd9 tp (ps9 tp j) = 62 := fun h9 => w (Or.inr h9)
      obtain ⟨R1, c1, c2, -, c3⟩ := m_s0 (N := 20000) (c := 60) (by decide) hT (by decide) (by decide) (by decide) x1.2.2.1 w6
      obtain ⟨R2, f1, -, f2, f3⟩ := m_s0 (N := 20000) (c := 62) (by decide) hT (by decide) (by decide) (by decide) c2 w62
      rw [show f_X11_sign 20000 60 Ra = some (0, R1) from c1]
      simp only [if_true]
      rw [show f_X11_sign 20000 62 R1 = some (0, R2) from f1]
      simp only [if_true]
      rw [if_neg (kd_lit hT 60 60 rfl (by decide) w6), if_neg (kd_lit hT 62 62 rfl (by decide) w62)]
      exact ⟨0, Ma, R2, rfl, rfl, d3, ((f3.w.trans c3.w (Nat.le_refl _)).trans d4 y2).trans t3.w (Nat.le_refl _), Or.inl ⟨rfl, j, x1.1, f2⟩⟩
end LD
