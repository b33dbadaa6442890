/-! States: what class and reference hold of one and the same table, law, log, acts, image and tape. -/
abbrev TbS := Nat × Nat × Tb × List Row
abbrev LwS := Bool × Lw
def rOK (A : TbS) (w : Nat → Int32) : Prop := RW A.1 A.2.1 A.2.2.1 A.2.2.2 w
def cMom (ms : List TbS) (M : Mm) : Prop := ms.length ≤ 12 ∧ M 0 10 = Int32.ofNat ms.length ∧ (∀ j, j < 12 → tz (slc (65 + 12 * j) M)) ∧ ∃ nm, nm < 12 ∧ M 0 9 = Int32.ofNat nm ∧ ∀ i (h : i < ms.length), slc (65 + 12 * ((nm + 11 - i) % 12)) M = (ms[i]'h).2.2.1 ∧ cLog (74 + 12 * ((nm + 11 - i) % 12)) (ms[i]'h).2.2.2 M
def cImg (im : Option (TbS × LwS)) (M : Mm) : Prop := tz (slc 44 M) ∧ match im with
  | none => M 0 13 = 0
  | some x => M 0 13 = 1 ∧ slc 44 M = x.1.2.2.1 ∧ cLog 53 x.1.2.2.2 M ∧ cLaw 55 x.2.2 M ∧ M 55 0 = b2i x.2.1
def cTape (tp : List Nat) (M : Mm) : Prop := tp.length ≤ 400 ∧ M 1 1 = Int32.ofNat tp.length ∧ ∀ j (h : j < tp.length), (tp[j]'h) < 256 ∧ M 2 j = Int32.ofNat (tp[j]'h)
def mMom (b : Bool) (ms : List TbS) (M : Mm) : Prop := M 208 7 = Int32.ofNat ms.length ∧ ∀ i (h : i < ms.length), rOK (ms[i]'h) (fun k => M 213 (409 * (ms.length - 1 - i) + k)) ∧ M 213 (409 * (ms.length - 1 - i) + 3) = b2i b
def mImg (im : Option (TbS × LwS)) (M : Mm) : Prop := match im with
  | none => M 208 6 = 0
  | some x => M 208 6 = 1 ∧ rOK x.1 (M 210) ∧ wLaw x.2.2 (fun _ => M 210) ∧ M 210 3 = b2i x.2.1
def sx (b : Nat) : Int32 := (Int32.ofNat b).toInt8.toInt32
def mTape (tp : List Nat) (M : Mm) : Prop := M 208 9 = Int32.ofNat tp.length ∧ ∀ j (h : j < tp.length), M 214 j = sx (tp[j]'h)
def cI (A : TbS) (K : LwS) (ms : List TbS) (im : Option (TbS × LwS)) (tp : List Nat) (ft : Int32) (M : Mm) : Prop :=
  slc 7 M = A.2.2.1 ∧ cLog 37 A.2.2.2 M ∧ (cLaw 25 K.2 M ∧ M 25 0 = b2i K.1) ∧ cMom ms M ∧ cImg im M ∧ cTape tp M ∧ M 0 14 = ft ∧ tz (slc 16 M)
def mI (A : TbS) (K : LwS) (ms : List TbS) (im : Option (TbS × LwS)) (tp : List Nat) (ft : Int32) (M : Mm) : Prop :=
  rOK A (M 209) ∧ (wLaw K.2 M ∧ M 209 3 = b2i K.1) ∧ mMom K.1 ms M ∧ mImg im M ∧ mTape tp M ∧ M 208 14 = ft ∧ M 208 18 = 0
def lgR (r : Row) : Prop := (∃ k, k ≤ 9999 ∧ r.1 = Int32.ofNat k) ∧ (∃ k, k < 12 ∧ r.2.1 = Int32.ofNat k) ∧ (∃ k, k < 8 ∧ r.2.2.1 = Int32.ofNat k) ∧ (∃ k, k < 5 ∧ r.2.2.2.1 = Int32.ofNat k) ∧ ∃ k, k ≤ 200 ∧ r.2.2.2.2 = Int32.ofNat k
def lgOK (L : List Row) : Prop := ∀ r ∈ L, lgR r
def okA (A : TbS) : Prop := lgOK A.2.2.2 ∧ (∃ k, k < 2 ^ A.1 ∧ A.2.2.1 0 2 = Int32.ofNat k) ∧ (∀ j, 6 * A.1 ≤ j → A.2.2.1 3 j = 0) ∧ ∃ q, q ≤ 12 ∧ A.2.2.1 0 10 = Int32.ofNat q
def okS (A : TbS) (K : LwS) (ms : List TbS) (im : Option (TbS × LwS)) : Prop := lwOK K.2 ∧ okA A ∧ (∀ B ∈ ms, okA B) ∧ ∀ x, im = some x → lwOK x.2.2 ∧ okA x.1
def InvS (A : TbS) (K : LwS) (ms : List TbS) (im : Option (TbS × LwS)) (tp : List Nat) (ft : Int32) (M : Mm) : Prop := cI A K ms im tp ft M ∧ mI A K ms im tp ft M ∧ okS A K ms im
def InvM (M : Mm) : Prop := ∃ A K ms im tp ft, InvS A K ms im tp ft M
/-- what a call of the class may leave changed though nothing has happened -/
def sc9 (x : Nat) : Prop := x = 0 ∨ (3 ≤ x ∧ x ≤ 6) ∨ (16 ≤ x ∧ x ≤ 24) ∨ (31 ≤ x ∧ x ≤ 36) ∨ (39 ≤ x ∧ x ≤ 41) ∨ (61 ≤ x ∧ x ≤ 63)
def cQ (M' M : Mm) : Prop := (∀ x, ¬ sc9 x → M' x = M x) ∧ (∀ j, j ≠ 16 → M' 0 j = M 0 j) ∧ tz (slc 16 M')
def mQ (M' M : Mm) : Prop := (∀ x, (x < 208 ∨ 218 < x) → M' x = M x) ∧ M' 209 = M 209 ∧ M' 210 = M 210 ∧ M' 213 = M 213 ∧ M' 214 = M 214 ∧ ∀ j, (j = 6 ∨ j = 7 ∨ j = 9 ∨ j = 14 ∨ j = 18) → M' 208 j = M 208 j
section ST
variable {A : TbS} {K : LwS} {ms : List TbS} {im : Option (TbS × LwS)} {tp : List Nat} {ft : Int32} {M M' M1 M2 : Mm}
theorem cMom.fr (h : cMom ms M) (hf : ∀ x, 64 ≤ x → x < 208 → M' x = M x) (h9 : M' 0 9 = M 0 9) (h10 : M' 0 10 = M 0 10) : cMom ms M' := by
  obtain ⟨a1, a2, a3, nm, a4, a5, a6⟩ := h
  refine ⟨a1, h10.trans a2, fun j hj => ?_, nm, a4, h9.trans a5, fun i hi => ?_⟩
  · rw [slc_ex (fun i hi => hf _ (by omega) (by omega))]; exact a3 j hj
  · have h12 : (nm + 11 - i) % 12 < 12 := Nat.mod_lt _ (by decide)
    refine ⟨?_, (a6 i hi).2.frame (hf _ (by omega) (by omega)) (hf _ (by omega) (by omega))⟩
    rw [slc_ex (fun i hi => hf _ (by omega) (by omega))]; exact (a6 i hi).1
theorem cImg.fr (h : cImg im M) (hf : ∀ x, 43 ≤ x → x < 61 → M' x = M x) (h13 : M' 0 13 = M 0 13) : cImg im M' := by
  obtain ⟨a1, a2⟩ := h
  have e44 : slc 44 M' = slc 44 M := slc_ex (fun i hi => hf _ (by omega) (by omega))
  refine ⟨by rw [e44]; exact a1, ?_⟩
  match im with
  | none => exact h13.trans a2
  | some x =>
    obtain ⟨b1, b2, b3, b4, b5⟩ := a2
    exact ⟨h13.trans b1, e44.trans b2, b3.frame (hf _ (by omega) (by omega)) (hf _ (by omega) (by omega)), b4.frame (fun i hi => hf _ (by omega) (by omega)), by rw [hf 55 (by omega) (by omega)]; exact b5⟩
theorem cTape.fr (h : cTape tp M) (h1 : M' 1 = M 1) (h2 : M' 2 = M 2) : cTape tp M' := by
  obtain ⟨a1, a2, a3⟩ := h
  exact ⟨a1, by rw [h1]; exact a2, fun j hj => by rw [h2]; exact a3 j hj⟩
theorem cI.fr (h : cI A K ms im tp ft M) (hf : ∀ x, x < 208 → ¬ sc9 x → M' x = M x) (h0 : ∀ j, j ≠ 16 → M' 0 j = M 0 j) (hz : tz (slc 16 M')) : cI A K ms im tp ft M' := by
  obtain ⟨a1, a2, ⟨a3, a4⟩, a5, a6, a7, a8, -⟩ := h
  have hs : ∀ a, (∀ i, i < 9 → a + i < 208 ∧ ¬ sc9 (a + i)) → slc a M' = slc a M := fun a ha => slc_ex (fun i hi => hf _ (ha i hi).1 (ha i hi).2)
  refine ⟨?_, a2.frame (hf _ (by omega) (by unfold sc9; omega)) (hf _ (by omega) (by unfold sc9; omega)), ⟨a3.frame (fun i hi => hf _ (by omega) (by unfold sc9; omega)), ?_⟩, a5.fr (fun x h1 h2 => hf x h2 (by unfold sc9; omega)) (h0 9 (by decide)) (h0 10 (by decide)), a6.fr (fun x h1 h2 => hf x (by omega) (by unfold sc9; omega)) (h0 13 (by decide)), a7.fr (hf 1 (by omega) (by unfold sc9; omega)) (hf 2 (by omega) (by unfold sc9; omega)), ?_, hz⟩
  · rw [hs 7 (fun i hi => ⟨by omega, by unfold sc9; omega⟩)]; exact a1
  · rw [hf 25 (by omega) (by unfold sc9; omega)]; exact a4
  · rw [h0 14 (by decide)]; exact a8
theorem mMom.fr {b : Bool} (h : mMom b ms M) (h7 : M' 208 7 = M 208 7) (h213 : M' 213 = M 213) : mMom b ms M' := by
  obtain ⟨a1, a2⟩ := h
  refine ⟨h7.trans a1, fun i hi => ?_⟩
  rw [h213]; exact a2 i hi
theorem mImg.fr (h : mImg im M) (h6 : M' 208 6 = M 208 6) (h210 : M' 210 = M 210) : mImg im M' := by
  unfold mImg at *
  match im with
  | none => exact h6.trans h
  | some x =>
    obtain ⟨b1, b2, b3, b4⟩ := h
    refine ⟨h6.trans b1, ?_, ?_, ?_⟩ <;> rw [h210] <;> assumption
theorem mTape.fr (h : mTape tp M) (h9 : M' 208 9 = M 208 9) (h214 : M' 214 = M 214) : mTape tp M' := by
  obtain ⟨a1, a2⟩ := h
  exact ⟨h9.trans a1, fun j hj => by rw [h214]; exact a2 j hj⟩
theorem wLaw.cg {W : Lw} (h : wLaw W M) (h9 : M' 209 = M 209) : wLaw W M' := by
  unfold wLaw wRow at *
  rw [h9]; exact h
theorem mI.fr (h : mI A K ms im tp ft M) (h209 : M' 209 = M 209) (h210 : M' 210 = M 210) (h213 : M' 213 = M 213) (h214 : M' 214 = M 214) (h208 : ∀ j, (j = 6 ∨ j = 7 ∨ j = 9 ∨ j = 14 ∨ j = 18) → M' 208 j = M 208 j) : mI A K ms im tp ft M' := by
  obtain ⟨a1, ⟨a2, a3⟩, a4, a5, a6, a7, a8⟩ := h
  exact ⟨by rw [h209]; exact a1, ⟨a2.cg h209, by rw [h209]; exact a3⟩, a4.fr (h208 7 (by omega)) h213, a5.fr (h208 6 (by omega)) h210, a6.fr (h208 9 (by omega)) h214, (h208 14 (by omega)).trans a7, (h208 18 (by omega)).trans a8⟩
theorem cI.q (h : cI A K ms im tp ft M) (hq : cQ M' M) : cI A K ms im tp ft M' := h.fr (fun x _ h2 => hq.1 x h2) hq.2.1 hq.2.2
theorem cI.m (h : cI A K ms im tp ft M) (hf : ∀ x, x < 208 → M' x = M x) : cI A K ms im tp ft M' := h.fr (fun x h1 _ => hf x h1) (fun j _ => by rw [hf 0 (by decide)]) (by rw [slc_ex (fun i hi => hf _ (by omega))]; exact h.2.2.2.2.2.2.2)
theorem mI.q (h : mI A K ms im tp ft M) (hq : mQ M' M) : mI A K ms im tp ft M' := h.fr hq.2.1 hq.2.2.1 hq.2.2.2.1 hq.2.2.2.2.1 hq.2.2.2.2.2
theorem mI.c (h : mI A K ms im tp ft M) (hf : ∀ x, 208 ≤ x → x ≤ 218 → M' x = M x) : mI A K ms im tp ft M' := h.fr (hf _ (by decide) (by decide)) (hf _ (by decide) (by decide)) (hf _ (by decide) (by decide)) (hf _ (by decide) (by decide)) (fun j _ => by rw [hf 208 (by decide) (by decide)])
theorem cQ.rf (hz : tz (slc 16 M)) : cQ M M := ⟨fun _ _ => rfl, fun _ _ => rfl, hz⟩
theorem cQ.hi (h : cQ M' M) {x : Nat} (hx : 208 ≤ x) : M' x = M x := h.1 x (by unfold sc9; omega)
theorem mQ.lo (h : mQ M' M) {x : Nat} (hx : x < 208 ∨ 218 < x) : M' x = M x := h.1 x hx
theorem mQ.rf : mQ M M := ⟨fun _ _ => rfl, rfl, rfl, rfl, rfl, fun _ _ => rfl⟩
theorem mQ.trans (h2 : mQ M2 M1) (h1 : mQ M1 M) : mQ M2 M := ⟨fun x hx => (h2.1 x hx).trans (h1.1 x hx), h2.2.1.trans h1.2.1, h2.2.2.1.trans h1.2.2.1, h2.2.2.2.1.trans h1.2.2.2.1, h2.2.2.2.2.1.trans h1.2.2.2.2.1, fun j hj => (h2.2.2.2.2.2 j hj).trans (h1.2.2.2.2.2 j hj)⟩
theorem mQ.t208 {c : Int32} : mQ (wr M 208 0 c) M := ⟨fun x hx => wr_nrow (by omega), wr_nrow (by decide), wr_nrow (by decide), wr_nrow (by decide), wr_nrow (by decide), fun j hj => wr_nk (by omega)⟩
theorem InvS.q (h : InvS A K ms im tp ft M) (h1 : cQ M1 M) (h2 : mQ M2 M1) : InvS A K ms im tp ft M2 :=
  ⟨(h.1.q h1).m (fun x hx => h2.1 x (Or.inl hx)), (h.2.1.c (fun x hx _ => h1.hi hx)).q h2, h.2.2⟩
theorem InvS.o (h : InvS A K ms im tp ft M) (h1 : cQ M1 M) {r : Int32} (h2 : mQ M2 (wr M1 219 0 r)) : InvS A K ms im tp ft M2 :=
  ⟨(h.1.q h1).m (fun x hx => by rw [h2.1 x (Or.inl hx), wr_nrow (by omega)]), (h.2.1.c (fun x hx h9 => by rw [wr_nrow (by omega)]; exact h1.hi hx)).q h2, h.2.2⟩
end ST
/-! Pairs of calls. -/
def Kd (f g : Mm → Option (Int32 × Mm)) (M : Mm) : Prop := ∃ code r M1 M2, f M = some (code, M1) ∧ g M1 = some (r, M2) ∧ M2 208 0 = code ∧ (code = 0 → M2 219 0 = r) ∧ InvM M2
def Bd9 (f g : Mm → Option (Int32 × Mm)) (M : Mm) : Prop := ∃ code r M1 M2, f M = some (code, M1) ∧ g M1 = some (r, M2) ∧ M2 208 0 = code ∧ (code = 0 → M2 219 0 = if r = 0 then 0 else 1) ∧ InvM M2
def Cd (f g : Mm → Option (Int32 × Mm)) (M : Mm) : Prop := ∃ r M1 M2, f M = some (r, M1) ∧ g M1 = some (r, M2) ∧ InvM M2
theorem lg_rf (a : Int64) : lg_cmp a a = 0 := by
  unfold lg_cmp
  simp
theorem fin_K {f g : Mm → Option (Int32 × Mm)} {M : Mm} {N : Nat} (h : Kd f g M) : ∃ M2, bnd (f M) (fun r3 M4 => bnd (g M4) (fun r8 M9 => bnd (f_X11_thrown N M9) (fun r11 M12 => (if r11 = r3 then (if r3 = (0 : Int32) then (if (lg_cmp (M12 219 ((0 : Int32)).toNatClampNeg).toInt64 (r8).toInt64) = (0 : Int32) then some (true, M12) else some (false, M12)) else some (true, M12)) else some (false, M12))))) = some (true, M2) ∧ InvM M2 := by
  obtain ⟨code, r, M1, M2, h1, h2, h3, h4, h5⟩ := h
  refine ⟨M2, ?_, h5⟩
  rw [h1]
  simp only [bnd]
  rw [h2]
  simp only [f_X11_thrown, h3, if_true]
  by_cases q : code = 0
  · rw [if_pos q, show ((0 : Int32)).toNatClampNeg = 0 from rfl, h4 q, lg_rf, if_pos rfl]
  · rw [if_neg q]
theorem fin_C {f g : Mm → Option (Int32 × Mm)} {M : Mm} (h : Cd f g M) : ∃ M2, bnd (f M) (fun r3 M4 => bnd (g M4) (fun r8 M9 => (if r3 = r8 then some (true, M9) else some (false, M9)))) = some (true, M2) ∧ InvM M2 := by
  obtain ⟨r, M1, M2, h1, h2, h5⟩ := h
  refine ⟨M2, ?_, h5⟩
  rw [h1]
  simp only [bnd]
  rw [h2]
  simp only [if_true]
theorem fin_B {f g : Mm → Option (Int32 × Mm)} {M : Mm} {N : Nat} (h : Bd9 f g M) : ∃ M2, bnd (f M) (fun r3 M4 => bnd (g M4) (fun r8 M9 => bnd (f_X11_thrown N M9) (fun r11 M12 => (if r11 = r3 then (if r3 = (0 : Int32) then (if r8 = (0 : Int32) then (if (lg_cmp (M12 219 ((0 : Int32)).toNatClampNeg).toInt64 (0 : Int64)) = (0 : Int32) then some (true, M12) else some (false, M12)) else (if (lg_cmp (M12 219 ((0 : Int32)).toNatClampNeg).toInt64 (1 : Int64)) = (0 : Int32) then some (true, M12) else some (false, M12))) else some (true, M12)) else some (false, M12))))) = some (true, M2) ∧ InvM M2 := by
  obtain ⟨code, r, M1, M2, h1, h2, h3, h4, h5⟩ := h
  refine ⟨M2, ?_, h5⟩
  rw [h1]
  simp only [bnd]
  rw [h2]
  simp only [f_X11_thrown, h3, if_true]
  by_cases q : code = 0
  · rw [if_pos q, show ((0 : Int32)).toNatClampNeg = 0 from rfl, h4 q]
    by_cases q2 : r = 0
    · rw [if_pos q2, if_pos q2, show (0 : Int32).toInt64 = 0 from rfl, lg_rf, if_pos rfl]
    · rw [if_neg q2, if_neg q2, show (1 : Int32).toInt64 = 1 from rfl, lg_rf, if_pos rfl]
  · rw [if_neg q]
