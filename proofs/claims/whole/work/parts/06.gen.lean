/-! WORDS OF THE READ-OFF FUNCTIONS, and the rows that tie them to the walk -/
def lt {α β : Type} (x : α) (k : α → β) : β := k x
def grd {α : Type} (b : Bool) (k : Option α) : Option α := if b = true then k else none
def bnd {α : Type} (o : Option (Int32 × Mm)) (k : Int32 → Mm → Option α) : Option α := match o with
  | some (r, M) => k r M
  | none => none
def bnx {α : Type} (o : Option ((Int32 ⊕ String) × Mm)) (k : Int32 → Mm → Option α) (kx : String → Mm → Option α) : Option α := match o with
  | some (.inl r, M) => k r M
  | some (.inr e, M) => kx e M
  | none => none
def inb (x : Int32) (n : Nat) : Bool := !(decide (x < 0)) && decide (x.toNatClampNeg < n)
def isb (x : Int32) : Bool := decide (x = 0) || decide (x = 1)
def nz (x : Int32) : Bool := !(decide (x = 0))
theorem ltk {a b : Nat} (h : Nat.ble (a + 1) b = true) : a < b := Nat.le_of_ble_eq_true h
theorem lt_some {α β : Type} {x : α} {k : α → Option β} {z : β} (h : lt x k = some z) : ∃ y, y = x ∧ k y = some z := ⟨x, rfl, h⟩
theorem grd_some {α : Type} {b : Bool} {k : Option α} {z : α} (h : grd b k = some z) : b = true ∧ k = some z := by
  unfold grd at h
  split at h
  · exact ⟨by assumption, h⟩
  · cases h
theorem bnd_some {α : Type} {o : Option (Int32 × Mm)} {k : Int32 → Mm → Option α} {z : α} (h : bnd o k = some z) : ∃ r M, o = some (r, M) ∧ k r M = some z := by
  unfold bnd at h
  split at h
  · exact ⟨_, _, rfl, h⟩
  · cases h
theorem bnx_some {α : Type} {o : Option ((Int32 ⊕ String) × Mm)} {k : Int32 → Mm → Option α} {kx : String → Mm → Option α} {z : α} (h : bnx o k kx = some z) : (∃ r M, o = some (.inl r, M) ∧ k r M = some z) ∨ ∃ e M, o = some (.inr e, M) ∧ kx e M = some z := by
  unfold bnx at h
  split at h
  · exact Or.inl ⟨_, _, rfl, h⟩
  · exact Or.inr ⟨_, _, rfl, h⟩
  · cases h
theorem inb_in {x : Int32} {n : Nat} (h : inb x n = true) : vp_in x n := by
  simp only [inb, Bool.and_eq_true, Bool.not_eq_true', decide_eq_false_iff_not, decide_eq_true_eq] at h
  rintro (g | g)
  · exact h.1 g
  · omega
theorem isb_nar {x : Int32} (h : isb x = true) : narrow .boolean (.int x) = .int x ∧ fits .boolean (.int x) = true := by
  simp only [isb, Bool.or_eq_true, decide_eq_true_eq] at h
  rcases h with h | h <;> subst h <;> exact ⟨by decide, by decide⟩
theorem nz_ne {x : Int32} (h : nz x = true) : ¬ x = 0 := by
  simpa [nz] using h
def am_oi (r : Int32 ⊕ String) : am_O := match r with
  | .inl r => .inl (some (.int r))
  | .inr e => .inr e
def am_ov (r : Int32 ⊕ String) : am_O := match r with
  | .inl _ => .inl none
  | .inr e => .inr e
section AMG
variable {X : am_X} {l0 : Launch} {R0 : Room} {cc : ByteArray} {own : String} {ret : Option FieldType} {ly : Ly} {M M1 M' : Mm} {ce sl : Nat} {Q : State → Prop} {pc : Nat} {L L1 : List (Option Value)} {st : List Value}
theorem v_nam {e x : Int32} (h : x = e) (k : am_V X ly M ce sl Q pc L (.int x :: st)) : am_V X ly M ce sl Q pc L (.int e :: st) := h ▸ k
theorem v_mem (h : M1 = M') (k : am_V X ly M1 ce sl Q pc L st) : am_V X ly M' ce sl Q pc L st := h ▸ k
theorem v_widen {k n : Nat} (h1 : ce ≤ k) (h2 : sl ≤ n) (kk : am_V X ly M k n Q pc L st) : am_V X ly M ce sl Q pc L st := by
  obtain ⟨p, l, e, R, s, m, args, below, meth, c, D, G, ad, A⟩ := X
  intro H locs ls hP hD hS hL hm
  exact W.widen h1 h2 (kk H locs ls hP hD hS hL hm)
theorem w_puti (hC : am_C X l0 R0 cc own ret) {ix a ci n k : Nat} {C ref : String} {T : u_T} {N : Nat} {ty : Nat → FieldType} {rs : List Nat} {v : Int32} (hc : am_cls ci C T N ty) (ha : ly[a]? = some (ci + 4, n, rs)) (hk : k < N) (hr : rs[k]? = some 0) (hw : Cond.fieldLink own ix ref (T k).2.1 (T k).2.2.1 ∈ am_T) (href : (T k).1 = ref) (hf : (T k).2.2.2 = false) (hnf : narrow (ty k) (.int v) = .int v ∧ fits (ty k) (.int v) = true) (hd : decode cc pc = .ok (.putfield ix, 3)) (eM : M1 = wr M a k v) (kk : am_V X ly M1 ce sl Q (pc + 3) L st) : am_V X ly M ce sl Q pc L (.int v :: .ref a :: st) := v_puti hC hc ha hk hr hw href hf hnf.1 hnf.2 hd (eM ▸ kk)
theorem w_iast (hC : am_C X l0 R0 cc own ret) {a n : Nat} {rs : List Nat} {i v : Int32} (ha : ly[a]? = some (0, n, rs)) (hi : vp_in i n) (hd : decode cc pc = .ok (.iastore, 1)) (eM : M1 = wr M a i.toNatClampNeg v) (kk : am_V X ly M1 ce sl Q (pc + 1) L st) : am_V X ly M ce sl Q pc L (.int v :: .int i :: .ref a :: st) := v_iast hC ha hi hd (eM ▸ kk)
theorem w_bast (hC : am_C X l0 R0 cc own ret) {a n : Nat} {rs : List Nat} {i v : Int32} (ha : ly[a]? = some (1, n, rs)) (hi : vp_in i n) (hd : decode cc pc = .ok (.bastore, 1)) (eM : M1 = wr M a i.toNatClampNeg (vp_nar .byte v)) (kk : am_V X ly M1 ce sl Q (pc + 1) L st) : am_V X ly M ce sl Q pc L (.int v :: .int i :: .ref a :: st) := v_bast hC ha hi hd (eM ▸ kk)
theorem w_last (hC : am_C X l0 R0 cc own ret) {a n : Nat} {rs : List Nat} {i v : Int32} {w : Int64} (hw : w = v.toInt64) (ha : ly[a]? = some (2, n, rs)) (hi : vp_in i n) (hd : decode cc pc = .ok (.lastore, 1)) (eM : M1 = wr M a i.toNatClampNeg v) (kk : am_V X ly M1 ce sl Q (pc + 1) L st) : am_V X ly M ce sl Q pc L (.long w :: .int i :: .ref a :: st) := v_last hC hw ha hi hd (eM ▸ kk)
theorem w_istore_n (hC : am_C X l0 R0 cc own ret) {j : Fin 4} {x : Int32} (hd : decode cc pc = .ok (.istore_n j, 1)) (hn : (j : Nat) < L.length) (L1 : List (Option Value)) (e : L.set j (some (.int x)) = L1) (k : am_V X ly M ce sl Q (pc + 1) L1 st) : am_V X ly M ce sl Q pc L (.int x :: st) := v_istore_n hC hd hn (e ▸ k)
theorem w_istore (hC : am_C X l0 R0 cc own ret) {j : Nat} {x : Int32} (hd : decode cc pc = .ok (.istore j, 2)) (hn : j < L.length) (L1 : List (Option Value)) (e : L.set j (some (.int x)) = L1) (k : am_V X ly M ce sl Q (pc + 2) L1 st) : am_V X ly M ce sl Q pc L (.int x :: st) := v_istore hC hd hn (e ▸ k)
theorem w_astore_n (hC : am_C X l0 R0 cc own ret) {j : Fin 4} {x : Nat} (hd : decode cc pc = .ok (.astore_n j, 1)) (hn : (j : Nat) < L.length) (L1 : List (Option Value)) (e : L.set j (some (.ref x)) = L1) (k : am_V X ly M ce sl Q (pc + 1) L1 st) : am_V X ly M ce sl Q pc L (.ref x :: st) := v_astore_n hC hd hn (e ▸ k)
theorem w_astore (hC : am_C X l0 R0 cc own ret) {j : Nat} {x : Nat} (hd : decode cc pc = .ok (.astore j, 2)) (hn : j < L.length) (L1 : List (Option Value)) (e : L.set j (some (.ref x)) = L1) (k : am_V X ly M ce sl Q (pc + 2) L1 st) : am_V X ly M ce sl Q pc L (.ref x :: st) := v_astore hC hd hn (e ▸ k)
theorem w_iinc (hC : am_C X l0 R0 cc own ret) {j : Nat} {n : Int} {x : Int32} (v : Int32) (hd : decode cc pc = .ok (.iinc j n, 3)) (hv : L[j]? = some (some (.int x))) (hw : x + Int32.ofInt n = v) (L1 : List (Option Value)) (e : L.set j (some (.int v)) = L1) (k : am_V X ly M ce sl Q (pc + 3) L1 st) : am_V X ly M ce sl Q pc L st := v_iinc hC hd hv hw (e ▸ k)
variable {y : MethodName} {cy : ByteArray} {nLy n d mc ms ix ci : Nat} {rety : Option FieldType} {b n1 : Nat} {rs : List Nat} {r : Int32}
theorem w_callVi (hC : am_C X l0 R0 cc own ret) (As st : List Value) (hM : am_M l0 y cy nLy rety d mc ms ly M (.ref b :: As) (.inl (some (.int r))) M') (hI : am_MV y cy nLy rety n ci) (hlk : Cond.methodLink own ix y ∈ am_T) (hb : ly[b]? = some (ci + 4, n1, rs)) (hn : As.length = n) (hst : (st.map fun v => v.category).sum ≤ 8) (hR : d + 1 ≤ R0.frames ∧ 8 + (nLy + 11) + 41 * d ≤ R0.locals) (hcs : ce + mc ≤ R0.cells ∧ sl + ms ≤ R0.slots) (hd : decode cc pc = .ok (.invokevirtual ix, 3))
    (k : am_V X ly M' (ce + mc) (sl + ms) Q (pc + 3) L (.int r :: st)) : am_V X ly M ce sl Q pc L (As.reverse ++ .ref b :: st) :=
  v_callV hC _ hM hI hlk hb hn hst hR hcs hd (fun v hv => by cases hv; exact ⟨Or.inr ⟨r, rfl⟩, k⟩) (fun E hE => by cases hE)
theorem w_callVv (hC : am_C X l0 R0 cc own ret) (As st : List Value) (hM : am_M l0 y cy nLy rety d mc ms ly M (.ref b :: As) (.inl none) M') (hI : am_MV y cy nLy rety n ci) (hlk : Cond.methodLink own ix y ∈ am_T) (hb : ly[b]? = some (ci + 4, n1, rs)) (hn : As.length = n) (hst : (st.map fun v => v.category).sum ≤ 8) (hR : d + 1 ≤ R0.frames ∧ 8 + (nLy + 11) + 41 * d ≤ R0.locals) (hcs : ce + mc ≤ R0.cells ∧ sl + ms ≤ R0.slots) (hd : decode cc pc = .ok (.invokevirtual ix, 3))
    (k : am_V X ly M' (ce + mc) (sl + ms) Q (pc + 3) L st) : am_V X ly M ce sl Q pc L (As.reverse ++ .ref b :: st) :=
  v_callV hC _ hM hI hlk hb hn hst hR hcs hd (fun v hv => by cases hv; exact ⟨Or.inl rfl, k⟩) (fun E hE => by cases hE)
theorem w_callSi (hC : am_C X l0 R0 cc own ret) (As st : List Value) (hM : am_M l0 y cy nLy rety d mc ms ly M As (.inl (some (.int r))) M') (hI : am_MS y cy nLy rety n) (hlk : Cond.methodLink own ix y ∈ am_T) (hn : As.length = n) (hst : (st.map fun v => v.category).sum ≤ 8) (hR : d + 1 ≤ R0.frames ∧ 8 + (nLy + 11) + 41 * d ≤ R0.locals) (hcs : ce + mc ≤ R0.cells ∧ sl + ms ≤ R0.slots) (hd : decode cc pc = .ok (.invokestatic ix, 3))
    (k : am_V X ly M' (ce + mc) (sl + ms) Q (pc + 3) L (.int r :: st)) : am_V X ly M ce sl Q pc L (As.reverse ++ st) :=
  v_callS hC _ hM hI hlk hn hst hR hcs hd (fun v hv => by cases hv; exact ⟨Or.inr ⟨r, rfl⟩, k⟩) (fun E hE => by cases hE)
theorem w_callSv (hC : am_C X l0 R0 cc own ret) (As st : List Value) (hM : am_M l0 y cy nLy rety d mc ms ly M As (.inl none) M') (hI : am_MS y cy nLy rety n) (hlk : Cond.methodLink own ix y ∈ am_T) (hn : As.length = n) (hst : (st.map fun v => v.category).sum ≤ 8) (hR : d + 1 ≤ R0.frames ∧ 8 + (nLy + 11) + 41 * d ≤ R0.locals) (hcs : ce + mc ≤ R0.cells ∧ sl + ms ≤ R0.slots) (hd : decode cc pc = .ok (.invokestatic ix, 3))
    (k : am_V X ly M' (ce + mc) (sl + ms) Q (pc + 3) L st) : am_V X ly M ce sl Q pc L (As.reverse ++ st) :=
  v_callS hC _ hM hI hlk hn hst hR hcs hd (fun v hv => by cases hv; exact ⟨Or.inl rfl, k⟩) (fun E hE => by cases hE)
/-- the callee throws; nobody catches it here -/
theorem w_callVx (hC : am_C X l0 R0 cc own ret) (hnt : am_NT X) (As st : List Value) {E : String} {mc0 ms0 : Nat} (hM : am_M l0 y cy nLy rety d mc ms ly M (.ref b :: As) (.inr E) M') (hI : am_MV y cy nLy rety n ci) (hlk : Cond.methodLink own ix y ∈ am_T) (hb : ly[b]? = some (ci + 4, n1, rs)) (hn : As.length = n) (hst : (st.map fun v => v.category).sum ≤ 8) (hR : d + 1 ≤ R0.frames ∧ 8 + (nLy + 11) + 41 * d ≤ R0.locals) (hcs : ce + mc ≤ R0.cells ∧ sl + ms ≤ R0.slots) (hd : decode cc pc = .ok (.invokevirtual ix, 3)) (h1 : ce + mc ≤ mc0) (h2 : sl + ms ≤ ms0) :
    am_V X ly M ce sl (am_Q X ly mc0 ms0 (.inr E) M') pc L (As.reverse ++ .ref b :: st) :=
  v_callV hC _ hM hI hlk hb hn hst hR hcs hd (fun v hv => by cases hv) (fun E9 hE => by cases hE; exact ⟨hnt, mc0, ms0, h1, h2, rfl⟩)
/-- a String constant -/
theorem w_ldcS (hC : am_C X l0 R0 cc own ret) {ix i9 : Nat} {tx : String} (hs : (own, ix, tx, i9) ∈ am_strs) (hd : decode cc pc = .ok (.ldc ix, 2)) (k : am_V X ly M ce sl Q (pc + 2) L (.ref (am_sb + i9) :: st)) : am_V X ly M ce sl Q pc L st := by
  obtain ⟨p, l, e, R, s, m, args, below, meth, c, D, G, ad, A⟩ := X
  obtain ⟨hx, hb, hown, hts, hK, hA, hlk, hB, hr9, rfl, rfl⟩ := hC
  intro H locs ls hP hD hS hL hm
  exact va_ldcS hx hb hown (hB.2.1 _ hs) hd (k H locs ls hP hD hS hL hm)
end AMG
