/-! A line of a law's text. -/
abbrev Ln9 := Int32 × Int32 × (Fx → Bool)
def lR9 (x : Ln9) : Prop := (x.1 = 269 ∨ x.1 = 270 ∨ x.1 = 262) ∧ (∃ q, q ≤ 30 ∧ x.2.1 = Int32.ofNat q) ∧ ∀ fx v, x.2.2 (updF fx 8 v) = x.2.2 fx
/-- the lines read so far -/
def lW9 (f : Nat → Ln9) (ln cs rs : Nat) (M M' : Mm) : Prop := ∀ i, i < ln → lR9 (f i) ∧ M 32 i = (f i).1 ∧ M 33 i = (f i).2.1 ∧ M' 209 (1259 + 4 * i) = kd (f i).1 ∧ M' 209 (1260 + 4 * i) = (f i).2.1 ∧ ∃ c0 c1 r0 r1, M 34 i = Int32.ofNat c0 ∧ M 35 i = Int32.ofNat c1 ∧ c0 ≤ c1 ∧ c1 ≤ cs ∧ M' 209 (1261 + 4 * i) = Int32.ofNat r0 ∧ M' 209 (1262 + 4 * i) = Int32.ofNat r1 ∧ r0 ≤ r1 ∧ r1 ≤ rs ∧ ((c0 = c1 ∧ r0 = r1 ∧ (f i).2.2 = fun _ => true) ∨ (semC (M 36) c0 c1 1 (f i).2.2 ∧ semM (rcM M') r0 r1 (f i).2.2))
def cV (M' M : Mm) : Prop := ∀ x, x ≠ 3 → (x < 31 ∨ 36 < x) → M' x = M x
def mV (M' M : Mm) : Prop := (∀ x, x ≠ 208 → x ≠ 209 → M' x = M x) ∧ (∀ j, j ≠ 10 → j ≠ 12 → j ≠ 13 → j ≠ 16 → M' 208 j = M 208 j) ∧ ∀ j, j < 1258 → M' 209 j = M 209 j
section LL
variable {tp : List Nat} {M M' M1 M2 Mc Mr R : Mm} {i m cs rs dep B ln : Nat} {f : Nat → Ln9}
theorem cV.trans (h2 : cV M2 M1) (h1 : cV M1 M) : cV M2 M := fun x a b => (h2 x a b).trans (h1 x a b)
theorem cV.rf : cV M M := fun _ _ _ => rfl
theorem cW.v (h : cW cs M' M) : cV M' M := fun x a b => h.1 x a (by omega) (by omega)
theorem cK3.v (h : cK3 M' M) : cV M' M := fun x a _ => h x a
theorem mV.trans (h2 : mV M2 M1) (h1 : mV M1 M) : mV M2 M := ⟨fun x a b => (h2.1 x a b).trans (h1.1 x a b), fun j a b c d => (h2.2.1 j a b c d).trans (h1.2.1 j a b c d), fun j a => (h2.2.2 j a).trans (h1.2.2 j a)⟩
theorem mV.rf : mV M M := ⟨fun _ _ _ => rfl, fun _ _ _ _ _ => rfl, fun _ _ => rfl⟩
theorem mW9.v (h : mW9 rs M' M) : mV M' M := ⟨h.1, h.2.1, fun j hj => h.2.2 j (by omega)⟩
theorem mE.v (h : mE M' M) : mV M' M := (h.w (rs := 0)).v
theorem mV.w9 {K : Nat} {v : Int32} (hK : 1258 ≤ K) : mV (wr M 209 K v) M := ⟨fun x _ h => wr_nrow h, fun j _ _ _ _ => wr_ne (by decide), fun j hj => wr_nk (by omega)⟩
theorem mV.w13 {v : Int32} : mV (wr M 208 13 v) M := (w13r (rs := 0)).v
theorem lW9.ex {M2 M2' : Mm} {cs2 rs2 : Nat} (h : lW9 f ln cs rs M M') (hc : ∀ x, (x = 32 ∨ x = 33 ∨ x = 34 ∨ x = 35) → ∀ j, j < ln → M2 x j = M x j) (h36 : ∀ j, j < cs → M2 36 j = M 36 j) (hm : ∀ j, 1259 ≤ j → j < 1259 + 4 * ln → M2' 209 j = M' 209 j) (hr : ∀ j, j < rs → rcM M2' j = rcM M' j) (k1 : cs ≤ cs2) (k2 : rs ≤ rs2) : lW9 f ln cs2 rs2 M2 M2' := by
  intro i hi
  obtain ⟨a1, a2, a3, a4, a5, c0, c1, r0, r1, b1, b2, b3, b4, b5, b6, b7, b8, b9⟩ := h i hi
  refine ⟨a1, by rw [hc 32 (by omega) i hi]; exact a2, by rw [hc 33 (by omega) i hi]; exact a3, by rw [hm _ (by omega) (by omega)]; exact a4, by rw [hm _ (by omega) (by omega)]; exact a5, c0, c1, r0, r1, by rw [hc 34 (by omega) i hi]; exact b1, by rw [hc 35 (by omega) i hi]; exact b2, b3, by omega, by rw [hm _ (by omega) (by omega)]; exact b5, by rw [hm _ (by omega) (by omega)]; exact b6, b7, by omega, ?_⟩
  rcases b9 with q | ⟨q1, q2⟩
  · exact Or.inl q
  · exact Or.inr ⟨q1.ex (fun j h1 h2 => h36 j (by omega)), q2.ex (fun j h1 h2 => hr j (by omega))⟩
theorem c_addL {N : Nat} {v1 v2 v3 : Int32} (h1 : M 31 1 = Int32.ofNat ln) (hl : ln < 12) : ∃ M1, f_X1_addsLine N 31 v1 v2 v3 M = some (0, M1) ∧ M1 32 ln = v1 ∧ M1 33 ln = v2 ∧ M1 34 ln = v3 ∧ M1 35 ln = M 31 2 ∧ M1 31 1 = Int32.ofNat (ln + 1) ∧ M1 31 2 = M 31 2 ∧ M1 31 0 = M 31 0 ∧ (∀ x, (x = 32 ∨ x = 33 ∨ x = 34 ∨ x = 35) → ∀ j, j < ln → M1 x j = M x j) ∧ ∀ x, (x < 31 ∨ 35 < x) → M1 x = M x := by
  refine ⟨wr (wr (wr (wr (wr M 32 ln v1) 33 ln v2) 34 ln v3) 35 ln (M 31 2)) 31 1 (Int32.ofNat (ln + 1)), ?_, ?_, ?_, ?_, ?_, wr_eq, ?_, ?_, fun x hx j hj => ?_, fun x hx => ?_⟩
  · unfold f_X1_addsLine
    rw [h1, if_neg (show ¬ (12 : Int32) ≤ Int32.ofNat ln from i32_nle (n := 12) hl (by omega))]
    simp only [grd, lt, inb_ofNat hl (show ln < 2147483648 by omega), if_true, i32_clampN (show ln < 2147483648 by omega), wr_ne (show (31 : Nat) ≠ 31 + 1 by decide), wr_ne (show (31 : Nat) ≠ 31 + 2 by decide), wr_ne (show (31 : Nat) ≠ 31 + 3 by decide), wr_ne (show (31 : Nat) ≠ 31 + 4 by decide), h1, i32_succ]
  · rw [wr_ne (by decide), wr_ne (by decide), wr_ne (by decide), wr_ne (by decide), wr_eq]
  · rw [wr_ne (by decide), wr_ne (by decide), wr_ne (by decide), wr_eq]
  · rw [wr_ne (by decide), wr_ne (by decide), wr_eq]
  · rw [wr_ne (by decide), wr_eq]
  · rw [wr_nk (by decide), wr_ne (by decide), wr_ne (by decide), wr_ne (by decide), wr_ne (by decide)]
  · rw [wr_nk (by decide), wr_ne (by decide), wr_ne (by decide), wr_ne (by decide), wr_ne (by decide)]
  · rw [wr_ne (by omega), wr_nk (by omega), wr_nk (by omega), wr_nk (by omega), wr_nk (by omega)]
  · rw [wr_nrow (by omega), wr_nrow (by omega), wr_nrow (by omega), wr_nrow (by omega), wr_nrow (by omega)]
theorem m_53n {N K : Nat} (hK : K < 2000) : f_X11_readLawLine_53 N (Int32.ofNat K) (Int32.ofNat K) (-1) M = some (0, wr M 209 K (-1)) := by
  unfold f_X11_readLawLine_53
  rw [grd_t (inb_ofNat (show K < 2107 by omega) (by omega)), lt_e, grd_t (inb_ofNat (show K < 2107 by omega) (by omega)), i32_clampN (by omega), wr_eq, if_neg (show ¬ (0 : Int32) ≤ -1 by decide)]
theorem m_53a {N K a : Nat} (hK : K < 2000) (ha : a < 3) {r : Int32} (hn : f_X11_number N 0 30 (wr M 209 K (Int32.ofNat a)) = some (r, R)) : f_X11_readLawLine_53 N (Int32.ofNat K) (Int32.ofNat K) (Int32.ofNat a) M = (if (0 : Int32) ≤ r then bnd (f_X11_passes N 1000027 (wr (wr (wr R 209 (K + 1) r) 209 (K + 2) (R 208 16)) 208 13 0)) (fun r28 M29 => (if r28 = (0 : Int32) then f_X11_readLawLine_128 N (Int32.ofNat K) M29 else bnd (f_X11_readCond N (f_X11_readAtom N 20) M29) (fun r34 M35 => (if r34 = (0 : Int32) then some ((0 : Int32), M35) else f_X11_readLawLine_128 N (Int32.ofNat K) M35)))) else some ((0 : Int32), wr R 209 (K + 1) r)) := by
  have k1 : Int32.ofNat K + 1 = Int32.ofNat (K + 1) := i32_succ K
  have k2 : Int32.ofNat K + 2 = Int32.ofNat (K + 2) := i32_addN K 2
  unfold f_X11_readLawLine_53
  rw [grd_t (inb_ofNat (show K < 2107 by omega) (by omega)), lt_e, grd_t (inb_ofNat (show K < 2107 by omega) (by omega)), i32_clampN (show K < 2147483648 by omega), wr_eq, if_pos (i32_ge0 (by omega)), hn]
  simp only [bnd]
  rw [k1, grd_t (inb_ofNat (show K + 1 < 2107 by omega) (by omega)), lt_e, grd_t (inb_ofNat (show K + 1 < 2107 by omega) (by omega)), i32_clampN (show K + 1 < 2147483648 by omega), wr_eq]
  by_cases q : (0 : Int32) ≤ r
  · rw [if_pos q, if_pos q, k2, grd_t (inb_ofNat (show K + 2 < 2107 by omega) (by omega)), lt_e, lt_e, i32_clampN (show K + 2 < 2147483648 by omega), wr_ne (show (208 : Nat) ≠ 209 by decide)]
  · rw [if_neg q, if_neg q]
theorem m_128 {N K : Nat} (hK : K < 2000) : f_X11_readLawLine_128 N (Int32.ofNat K) M = some (1, wr M 209 (K + 3) (M 208 16)) := by
  have k3 : Int32.ofNat K + 3 = Int32.ofNat (K + 3) := i32_addN K 3
  unfold f_X11_readLawLine_128
  rw [k3, grd_t (inb_ofNat (show K + 3 < 2107 by omega) (by omega)), lt_e, i32_clampN (by omega)]
/-- which line it is -/
def kL (k a : Nat) : Prop := (k = 269 ∧ a = 0) ∨ (k = 270 ∧ a = 1) ∨ (k = 262 ∧ a = 2)
theorem bnd_s {a : Int32} {f : Int32 → Mm → Option (Int32 × Mm)} : bnd (some (a, M)) f = f a M := rfl
theorem m_lU1 (N : Nat) (v x : Int32) (R : Mm) (hx : (1259 : Int32) + (4 : Int32) * v = x) (h1 : f_X11_isWord N 1000025 R = some (1, R)) : f_X11_readLawLine N v R = f_X11_readLawLine_53 N x x 0 R := by
  unfold f_X11_readLawLine
  rw [hx, lt_e, h1, bnd_s, if_neg (by decide)]
theorem m_lU2 (N : Nat) (v x : Int32) (R : Mm) (hx : (1259 : Int32) + (4 : Int32) * v = x) (h1 : f_X11_isWord N 1000025 R = some (0, R)) (h2 : f_X11_isWord N 1000026 R = some (1, R)) : f_X11_readLawLine N v R = f_X11_readLawLine_53 N x x 1 R := by
  unfold f_X11_readLawLine
  rw [hx, lt_e, h1, bnd_s, if_pos rfl, h2, bnd_s, if_neg (by decide)]
theorem m_lU3 (N : Nat) (v x : Int32) (R : Mm) (hx : (1259 : Int32) + (4 : Int32) * v = x) (h1 : f_X11_isWord N 1000025 R = some (0, R)) (h2 : f_X11_isWord N 1000026 R = some (0, R)) (h3 : f_X11_isWord N 1000018 R = some (1, R)) : f_X11_readLawLine N v R = f_X11_readLawLine_53 N x x 2 R := by
  unfold f_X11_readLawLine
  rw [hx, lt_e, h1, bnd_s, if_pos rfl, h2, bnd_s, if_pos rfl, h3, bnd_s, if_neg (by decide)]
theorem m_lU0 (N : Nat) (v x : Int32) (R : Mm) (hx : (1259 : Int32) + (4 : Int32) * v = x) (h1 : f_X11_isWord N 1000025 R = some (0, R)) (h2 : f_X11_isWord N 1000026 R = some (0, R)) (h3 : f_X11_isWord N 1000018 R = some (0, R)) : f_X11_readLawLine N v R = f_X11_readLawLine_53 N x x (-1) R := by
  unfold f_X11_readLawLine
  rw [hx, lt_e, h1, bnd_s, if_pos rfl, h2, bnd_s, if_pos rfl, h3, bnd_s, if_pos rfl]
theorem l_at (ln : Nat) : (1259 : Int32) + (4 : Int32) * Int32.ofNat ln = Int32.ofNat (1259 + 4 * ln) := by
  show Int32.ofNat 1259 + Int32.ofNat 4 * Int32.ofNat ln = _
  rw [i32_mulN, i32_addN]
theorem m_lineA {a : Nat} (hT : tX tp) (h0 : mL tp i R) (hk : kL (kd9 tp (ps9 tp i)) a) : f_X11_readLawLine 20000 (Int32.ofNat ln) R = f_X11_readLawLine_53 20000 (Int32.ofNat (1259 + 4 * ln)) (Int32.ofNat (1259 + 4 * ln)) (Int32.ofNat a) R := by
  rcases hk with ⟨e, rfl⟩ | ⟨e, rfl⟩ | ⟨e, rfl⟩
  · exact m_lU1 20000 _ _ R (l_at ln) (m_w1 (k := 13) (s := 25) (by decide) hT rfl (by decide) h0 e)
  · exact m_lU2 20000 _ _ R (l_at ln) (m_w0 (k := 13) (s := 25) (by decide) hT rfl (by decide) h0 (by omega)) (m_w1 (k := 14) (s := 26) (by decide) hT rfl (by decide) h0 e)
  · exact m_lU3 20000 _ _ R (l_at ln) (m_w0 (k := 13) (s := 25) (by decide) hT rfl (by decide) h0 (by omega)) (m_w0 (k := 14) (s := 26) (by decide) hT rfl (by decide) h0 (by omega)) (m_w1 (k := 6) (s := 18) (by decide) hT rfl (by decide) h0 e)
theorem m_line0 (hT : tX tp) (hln : ln < 12) (h0 : mL tp i R) (n1 : ¬ kd9 tp (ps9 tp i) = 269) (n2 : ¬ kd9 tp (ps9 tp i) = 270) (n3 : ¬ kd9 tp (ps9 tp i) = 262) : f_X11_readLawLine 20000 (Int32.ofNat ln) R = some (0, wr R 209 (1259 + 4 * ln) (-1)) := by
  rw [m_lU0 20000 _ _ R (l_at ln) (m_w0 (k := 13) (s := 25) (by decide) hT rfl (by decide) h0 n1) (m_w0 (k := 14) (s := 26) (by decide) hT rfl (by decide) h0 n2) (m_w0 (k := 6) (s := 18) (by decide) hT rfl (by decide) h0 n3)]
  exact m_53n (by omega)
theorem c_lineA {a : Nat} (hc : cP tp m i M) (hk : kL (kd9 tp (ps9 tp i)) a) : f_X2_readsLine 20000 31 M = f_X2_readsLine_26 20000 31 (Int32.ofNat (kd9 tp (ps9 tp i))) M := by
  unfold f_X2_readsLine
  rw [c_k 20000 hc]
  rcases hk with ⟨e, -⟩ | ⟨e, -⟩ | ⟨e, -⟩ <;> rw [e] <;> rfl
theorem c_line0 (hT : tX tp) (hc : cP tp m i M) (n1 : ¬ kd9 tp (ps9 tp i) = 269) (n2 : ¬ kd9 tp (ps9 tp i) = 270) (n3 : ¬ kd9 tp (ps9 tp i) = 262) : f_X2_readsLine 20000 31 M = some (0, M) := by
  unfold f_X2_readsLine
  rw [c_k 20000 hc]
  simp only [bnd]
  rw [if_neg (kd_lit hT 269 269 rfl (by decide) n1), if_neg (kd_lit hT 270 270 rfl (by decide) n2), if_neg (kd_lit hT 262 262 rfl (by decide) n3)]
theorem kL_w {a : Nat} (hT : tX tp) (hk : kL (kd9 tp (ps9 tp i)) a) : a < 3 ∧ ps9 tp i + 3 ≤ ps9 tp (i + 1) ∧ (Int32.ofNat (kd9 tp (ps9 tp i)) = 269 ∨ Int32.ofNat (kd9 tp (ps9 tp i)) = 270 ∨ Int32.ofNat (kd9 tp (ps9 tp i)) = 262) ∧ Int32.ofNat a = kd (Int32.ofNat (kd9 tp (ps9 tp i))) ∧ ∃ q, q < 21 ∧ kd9 tp (ps9 tp i) = 256 + q := by
  obtain ⟨-, -, -, -, l1, l2, l3⟩ := len_w
  rcases hk with ⟨e, rfl⟩ | ⟨e, rfl⟩ | ⟨e, rfl⟩
  · have hw := ps_w (k := 13) hT (by decide) e
    refine ⟨by omega, by omega, Or.inl (by rw [e]; rfl), by rw [e]; rfl, 13, by decide, e⟩
  · have hw := ps_w (k := 14) hT (by decide) e
    refine ⟨by omega, by omega, Or.inr (Or.inl (by rw [e]; rfl)), by rw [e]; rfl, 14, by decide, e⟩
  · have hw := ps_w (k := 6) hT (by decide) e
    refine ⟨by omega, by omega, Or.inr (Or.inr (by rw [e]; rfl)), by rw [e]; rfl, 6, by decide, e⟩
end LL
