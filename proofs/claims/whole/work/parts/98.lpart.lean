/-! A law's text: steps are added, parts of sums are read. -/
def rcM (M : Mm) : Nat → Int32 × Int32 := fun j => (M 209 (1307 + 2 * j), M 209 (1308 + 2 * j))
def cW (cs : Nat) (M' M : Mm) : Prop := (∀ x, x ≠ 3 → x ≠ 31 → x ≠ 36 → M' x = M x) ∧ (∀ j, j ≠ 2 → M' 31 j = M 31 j) ∧ ∀ j, j < cs → M' 36 j = M 36 j
def mW9 (rs : Nat) (M' M : Mm) : Prop := (∀ x, x ≠ 208 → x ≠ 209 → M' x = M x) ∧ (∀ j, j ≠ 10 → j ≠ 12 → j ≠ 13 → j ≠ 16 → M' 208 j = M 208 j) ∧ ∀ j, j < 1307 + 2 * rs → M' 209 j = M 209 j
def lS (tp : List Nat) (m i cs rs dep : Nat) (M M' : Mm) : Prop := cP tp m i M ∧ M 31 2 = Int32.ofNat cs ∧ mA tp i M' ∧ M' 208 16 = Int32.ofNat rs ∧ M' 208 13 = Int32.ofNat dep
section LP
variable {tp : List Nat} {M M' M1 M2 : Mm} {i m cs rs dep : Nat}
theorem cW.rf : cW cs M M := ⟨fun _ _ _ _ => rfl, fun _ _ => rfl, fun _ _ => rfl⟩
theorem cW.trans {cs2 : Nat} (h2 : cW cs2 M2 M1) (h1 : cW cs M1 M) (h : cs ≤ cs2) : cW cs M2 M := ⟨fun x a b c => (h2.1 x a b c).trans (h1.1 x a b c), fun j a => (h2.2.1 j a).trans (h1.2.1 j a), fun j a => (h2.2.2 j (by omega)).trans (h1.2.2 j a)⟩
theorem cK3.w (h : cK3 M' M) : cW cs M' M := ⟨fun x a _ _ => h x a, fun j _ => by rw [h 31 (by decide)], fun j _ => by rw [h 36 (by decide)]⟩
theorem mW9.rf : mW9 rs M M := ⟨fun _ _ _ => rfl, fun _ _ _ _ _ => rfl, fun _ _ => rfl⟩
theorem mW9.trans {rs2 : Nat} (h2 : mW9 rs2 M2 M1) (h1 : mW9 rs M1 M) (h : rs ≤ rs2) : mW9 rs M2 M := ⟨fun x a b => (h2.1 x a b).trans (h1.1 x a b), fun j a b c d => (h2.2.1 j a b c d).trans (h1.2.1 j a b c d), fun j a => (h2.2.2 j (by omega)).trans (h1.2.2 j a)⟩
theorem mE.w (h : mE M' M) : mW9 rs M' M := ⟨fun x a _ => h.1 x a, fun j a b _ _ => h.2 j a b, fun j _ => by rw [h.1 209 (by decide)]⟩
theorem mE.rc (h : mE M' M) : rcM M' = rcM M := by unfold rcM; rw [h.1 209 (by decide)]
theorem mE.s16 (h : mE M' M) : M' 208 16 = M 208 16 := h.2 16 (by decide) (by decide)
theorem mE.s13 (h : mE M' M) : M' 208 13 = M 208 13 := h.2 13 (by decide) (by decide)
theorem mX.f2 {p b : Nat} (h : mX tp p b M) (h10 : M' 208 10 = M 208 10) (h11 : M' 208 11 = M 208 11) (h12 : M' 208 12 = M 208 12) (h14 : M' 214 = M 214) : mX tp p b M' := by
  obtain ⟨a1, a2, a3, a4, a5⟩ := h
  exact ⟨h11.trans a1, h10.trans a2, h12.trans a3, fun j hj => by rw [h14]; exact a4 j hj, a5⟩
theorem mA.f2 (h : mA tp i M) (h10 : M' 208 10 = M 208 10) (h11 : M' 208 11 = M 208 11) (h12 : M' 208 12 = M 208 12) (h14 : M' 214 = M 214) : mA tp i M' := by
  obtain ⟨p, b, hx, hp⟩ := h
  exact ⟨p, b, hx.f2 h10 h11 h12 h14, hp⟩
theorem mB.f2 (h : mB tp i M) (h10 : M' 208 10 = M 208 10) (h11 : M' 208 11 = M 208 11) (h12 : M' 208 12 = M 208 12) (h14 : M' 214 = M 214) : mB tp i M' := by
  obtain ⟨p, hx⟩ := h
  exact ⟨p, hx.f2 h10 h11 h12 h14⟩
theorem c_step {N : Nat} {x : Int32} (h : M 31 2 = Int32.ofNat cs) (hcs : cs < 400) : ∃ M1, f_X1_addsStep N 31 x M = some (0, M1) ∧ M1 36 cs = x ∧ M1 31 2 = Int32.ofNat (cs + 1) ∧ cW cs M1 M ∧ ∀ y, y ≠ 31 → y ≠ 36 → M1 y = M y := by
  refine ⟨wr (wr M 36 cs x) 31 2 (Int32.ofNat (cs + 1)), ?_, by rw [wr_ne (by decide), wr_eq], wr_eq, ⟨fun y _ h1 h2 => by rw [wr_nrow h1, wr_nrow h2], fun j hj => by rw [wr_nk hj, wr_ne (by decide)], fun j hj => by rw [wr_ne (by decide), wr_nk (by omega)]⟩, fun y h1 h2 => by rw [wr_nrow h1, wr_nrow h2]⟩
  unfold f_X1_addsStep
  rw [h, if_neg (show ¬ (400 : Int32) ≤ Int32.ofNat cs from i32_nle (n := 400) hcs (by omega))]
  simp only [grd, lt, inb_ofNat hcs (show cs < 2147483648 by omega), if_true, i32_clampN (show cs < 2147483648 by omega), wr_ne (show (31 : Nat) ≠ 31 + 5 by decide), h, i32_succ]
theorem m_emit {N : Nat} {a b : Int32} (h : M 208 16 = Int32.ofNat rs) (hrs : rs < 400) : ∃ M1, f_X11_emits N a b M = some (0, M1) ∧ rcM M1 rs = (a, b) ∧ M1 208 16 = Int32.ofNat (rs + 1) ∧ mW9 rs M1 M ∧ (∀ j, j ≠ 16 → M1 208 j = M 208 j) ∧ ∀ y, y ≠ 208 → y ≠ 209 → M1 y = M y := by
  have k1 : (1307 : Int32) + (2 : Int32) * Int32.ofNat rs = Int32.ofNat (1307 + 2 * rs) := by
    show Int32.ofNat 1307 + Int32.ofNat 2 * Int32.ofNat rs = _
    rw [i32_mulN, i32_addN]
  have k2 : Int32.ofNat (1307 + 2 * rs) + 1 = Int32.ofNat (1308 + 2 * rs) := by rw [i32_succ, show 1307 + 2 * rs + 1 = 1308 + 2 * rs by omega]
  refine ⟨wr (wr (wr M 209 (1307 + 2 * rs) a) 209 (1308 + 2 * rs) b) 208 16 (Int32.ofNat (rs + 1)), ?_, ?_, wr_eq, ⟨fun y h1 h2 => by rw [wr_nrow h1, wr_nrow h2, wr_nrow h2], fun j _ _ _ hj => by rw [wr_nk hj, wr_ne (by decide), wr_ne (by decide)], fun j hj => by rw [wr_ne (by decide), wr_nk (by omega), wr_nk (by omega)]⟩, fun j hj => by rw [wr_nk hj, wr_ne (by decide), wr_ne (by decide)], fun y h1 h2 => by rw [wr_nrow h1, wr_nrow h2, wr_nrow h2]⟩
  · unfold f_X11_emits
    simp only [lt, h, k1, wr_ne (show (208 : Nat) ≠ 209 by decide), k2, grd, inb_ofNat (show 1307 + 2 * rs < 2107 by omega) (by omega), inb_ofNat (show 1308 + 2 * rs < 2107 by omega) (by omega), if_true, i32_clampN (show 1307 + 2 * rs < 2147483648 by omega), i32_clampN (show 1308 + 2 * rs < 2147483648 by omega), i32_succ]
  · unfold rcM
    rw [wr_ne (by decide), wr_nk (by omega), wr_eq, wr_ne (by decide), wr_eq]
/-- words that a sum knows: kind, the reference's number, what it means -/
def pW (k : Nat) (a : Nat) (j : Nat) : Prop := (k = 256 ∧ a = 0 ∧ j = 0) ∨ (k = 260 ∧ a = 1 ∧ j = 1) ∨ (k = 257 ∧ a = 2 ∧ j = 2) ∨ (k = 261 ∧ a = 3 ∧ j = 3) ∨ (k = 276 ∧ a = 4 ∧ j = 5) ∨ (k = 268 ∧ a = 5 ∧ j = 6)
def isP (k : Nat) : Prop := k = 256 ∨ k = 260 ∨ k = 257 ∨ k = 261 ∨ k = 276 ∨ k = 268
theorem pW_ex {k : Nat} (h : isP k) : ∃ a j, pW k a j := by
  unfold pW
  rcases h with e | e | e | e | e | e
  · exact ⟨0, 0, Or.inl ⟨e, rfl, rfl⟩⟩
  · exact ⟨1, 1, Or.inr (Or.inl ⟨e, rfl, rfl⟩)⟩
  · exact ⟨2, 2, Or.inr (Or.inr (Or.inl ⟨e, rfl, rfl⟩))⟩
  · exact ⟨3, 3, Or.inr (Or.inr (Or.inr (Or.inl ⟨e, rfl, rfl⟩)))⟩
  · exact ⟨4, 5, Or.inr (Or.inr (Or.inr (Or.inr (Or.inl ⟨e, rfl, rfl⟩))))⟩
  · exact ⟨5, 6, Or.inr (Or.inr (Or.inr (Or.inr (Or.inr ⟨e, rfl, rfl⟩))))⟩
theorem c_p78 {n : Nat} {v2 : Int32} (hc : cP tp m i M) (hp : isP (kd9 tp (ps9 tp i))) (hv : ¬ (400 : Int32) ≤ v2) : f_X2_readsSum_2 20000 31 (n + 1) v2 M = f_X2_readsSum_78 20000 31 (fun v2 M => f_X2_readsSum_2 20000 31 n v2 M) v2 (Int32.ofNat (kd9 tp (ps9 tp i))) M := by
  rw [f_X2_readsSum_2, if_neg hv, c_k 20000 hc]
  rcases hp with e | e | e | e | e | e <;> rw [e] <;> rfl
theorem c_p0 {n : Nat} {v2 : Int32} (hT : tX tp) (hc : cP tp m i M) (hp : ¬ isP (kd9 tp (ps9 tp i))) (h1 : ¬ kd9 tp (ps9 tp i) = 301) (hv : ¬ (400 : Int32) ≤ v2) : f_X2_readsSum_2 20000 31 (n + 1) v2 M = some (0, M) := by
  have hb := (kd_le (q := ps9 tp i) hT).1
  unfold isP at hp
  have ne : ∀ (x : Int32) (k : Nat), x = Int32.ofNat k → k < 1000 → ¬ kd9 tp (ps9 tp i) = k → ¬ Int32.ofNat (kd9 tp (ps9 tp i)) = x := fun x k hx hk h9 h8 => h9 ((i32_eqN (by omega) (by omega)).mp (h8.trans hx))
  rw [f_X2_readsSum_2, if_neg hv, c_k 20000 hc]
  simp only [bnd]
  rw [if_neg (ne 301 301 rfl (by decide) h1), if_neg (ne 256 256 rfl (by decide) (by omega)), if_neg (ne 260 260 rfl (by decide) (by omega)), if_neg (ne 257 257 rfl (by decide) (by omega)), if_neg (ne 261 261 rfl (by decide) (by omega)), if_neg (ne 276 276 rfl (by decide) (by omega)), if_neg (ne 268 268 rfl (by decide) (by omega))]
/-- the reference at a word of a sum -/
theorem m_p113 {a j : Nat} {R0 : Mm} (hT : tX tp) (hl : f_X11_letters 20000 M' = some (0, R0)) (h0 : mL tp i R0) (hp : pW (kd9 tp (ps9 tp i)) a j) : f_X11_readPart 20000 M' = f_X11_readPart_113 20000 (Int32.ofNat a) R0 := by
  have W1 : ∀ k s, ixs.getD k 0 = s → k < 21 → kd9 tp (ps9 tp i) = 256 + k → f_X11_isWord 20000 (1000000 + s) R0 = some (1, R0) := fun k s h1 h2 h3 => m_w1 (by decide) hT h1 h2 h0 h3
  have W0 : ∀ k s, ixs.getD k 0 = s → k < 21 → ¬ kd9 tp (ps9 tp i) = 256 + k → f_X11_isWord 20000 (1000000 + s) R0 = some (0, R0) := fun k s h1 h2 h3 => m_w0 (by decide) hT h1 h2 h0 h3
  have n10 : ¬ (1 : Int32) = 0 := by decide
  have hne : ¬ R0 208 10 = R0 208 12 := by
    have hl4 := hT.1
    have hps := ps_len (tp := tp) i
    have hk : ∃ k, k < 21 ∧ kd9 tp (ps9 tp i) = 256 + k := by
      unfold pW at hp
      exact ⟨kd9 tp (ps9 tp i) - 256, by omega, by omega⟩
    obtain ⟨k, hk, ek⟩ := hk
    obtain ⟨-, -, e3⟩ := en_w hT hk ek
    have h2 := ixs_l k hk
    have h5 := h0.2.2.2.2
    rw [h0.2.1, h0.2.2.1]
    intro h9
    have := (i32_eqN (by omega) (by omega)).mp h9
    omega
  unfold f_X11_readPart
  rw [hl]
  simp only [bnd]
  rw [if_neg hne]
  rcases hp with ⟨e, rfl, -⟩ | ⟨e, rfl, -⟩ | ⟨e, rfl, -⟩ | ⟨e, rfl, -⟩ | ⟨e, rfl, -⟩ | ⟨e, rfl, -⟩
  · rw [show f_X11_isWord 20000 1000012 R0 = some (1, R0) from W1 0 12 rfl (by decide) e]
    simp only [if_neg n10]
    rfl
  · rw [show f_X11_isWord 20000 1000012 R0 = some (0, R0) from W0 0 12 rfl (by decide) (by omega)]
    simp only [if_true]
    rw [show f_X11_isWord 20000 1000016 R0 = some (1, R0) from W1 4 16 rfl (by decide) e]
    simp only [if_neg n10]
    rfl
  · rw [show f_X11_isWord 20000 1000012 R0 = some (0, R0) from W0 0 12 rfl (by decide) (by omega)]
    simp only [if_true]
    rw [show f_X11_isWord 20000 1000016 R0 = some (0, R0) from W0 4 16 rfl (by decide) (by omega)]
    simp only [if_true]
    rw [show f_X11_isWord 20000 1000013 R0 = some (1, R0) from W1 1 13 rfl (by decide) e]
    simp only [if_neg n10]
    rfl
  · rw [show f_X11_isWord 20000 1000012 R0 = some (0, R0) from W0 0 12 rfl (by decide) (by omega)]
    simp only [if_true]
    rw [show f_X11_isWord 20000 1000016 R0 = some (0, R0) from W0 4 16 rfl (by decide) (by omega)]
    simp only [if_true]
    rw [show f_X11_isWord 20000 1000013 R0 = some (0, R0) from W0 1 13 rfl (by decide) (by omega)]
    simp only [if_true]
    rw [show f_X11_isWord 20000 1000017 R0 = some (1, R0) from W1 5 17 rfl (by decide) e]
    simp only [if_neg n10]
    rfl
  · rw [show f_X11_isWord 20000 1000012 R0 = some (0, R0) from W0 0 12 rfl (by decide) (by omega)]
    simp only [if_true]
    rw [show f_X11_isWord 20000 1000016 R0 = some (0, R0) from W0 4 16 rfl (by decide) (by omega)]
    simp only [if_true]
    rw [show f_X11_isWord 20000 1000013 R0 = some (0, R0) from W0 1 13 rfl (by decide) (by omega)]
    simp only [if_true]
    rw [show f_X11_isWord 20000 1000017 R0 = some (0, R0) from W0 5 17 rfl (by decide) (by omega)]
    simp only [if_true]
    rw [show f_X11_isWord 20000 1000030 R0 = some (1, R0) from W1 20 30 rfl (by decide) e]
    simp only [if_neg n10]
    rfl
  · rw [show f_X11_isWord 20000 1000012 R0 = some (0, R0) from W0 0 12 rfl (by decide) (by omega)]
    simp only [if_true]
    rw [show f_X11_isWord 20000 1000016 R0 = some (0, R0) from W0 4 16 rfl (by decide) (by omega)]
    simp only [if_true]
    rw [show f_X11_isWord 20000 1000013 R0 = some (0, R0) from W0 1 13 rfl (by decide) (by omega)]
    simp only [if_true]
    rw [show f_X11_isWord 20000 1000017 R0 = some (0, R0) from W0 5 17 rfl (by decide) (by omega)]
    simp only [if_true]
    rw [show f_X11_isWord 20000 1000030 R0 = some (0, R0) from W0 20 30 rfl (by decide) (by omega)]
    simp only [if_true]
    rw [show f_X11_isWord 20000 1000024 R0 = some (1, R0) from W1 12 24 rfl (by decide) e]
    simp only [if_neg n10]
    rfl
theorem cS_w {k a j : Nat} {fx : Fx} {s : Cs9} (hp : pW k a j) : cStp fx ((1000 : Int32) + Int32.ofNat k) s = (s.1, s.2.1, s.2.2 + fx j) := by
  rcases hp with ⟨rfl, -, rfl⟩ | ⟨rfl, -, rfl⟩ | ⟨rfl, -, rfl⟩ | ⟨rfl, -, rfl⟩ | ⟨rfl, -, rfl⟩ | ⟨rfl, -, rfl⟩ <;> rfl
theorem mS_w {k a j : Nat} {fx : Fx} {st : List Int32} (hp : pW k a j) : mStp fx (Int32.ofNat a) 0 st = some (fx j :: st) := by
  rcases hp with ⟨-, rfl, rfl⟩ | ⟨-, rfl, rfl⟩ | ⟨-, rfl, rfl⟩ | ⟨-, rfl, rfl⟩ | ⟨-, rfl, rfl⟩ | ⟨-, rfl, rfl⟩ <;> rfl
theorem pW_i8 {k a j : Nat} (hp : pW k a j) : inv8 (fun fx : Fx => fx j) := fun fx v => by
  have : j ≠ 8 := by unfold pW at hp; omega
  exact updF_ne this
theorem pW_lt {k a j : Nat} (hp : pW k a j) : k < 300 ∧ a < 6 ∧ ∃ q, q < 21 ∧ k = 256 + q := by
  unfold pW at hp
  exact ⟨by omega, by omega, k - 256, by omega, by omega⟩
end LP
