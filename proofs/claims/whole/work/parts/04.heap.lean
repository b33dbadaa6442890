/-! ROWS OF THE CORE that read and write cells, end methods, call -/
section AMH
variable {X : am_X} {l0 : Launch} {R0 : Room} {cc : ByteArray} {own : String} {ret : Option FieldType} {ly : Ly} {M : Mm} {ce sl : Nat} {Q : State → Prop} {pc : Nat} {L : List (Option Value)} {st : List Value}
/-- an object's shape: class number ci, its fields' codes -/
theorem am_fs_get {ad : Nat → Nat} {f : Nat → Int32} {rs : List Nat} {k r : Nat} (h : rs[k]? = some r) : (am_fs ad f rs)[k]? = some (am_rv ad f k r) := by
  simp [am_fs, h]
theorem am_fs_set {ad : Nat → Nat} {f : Nat → Int32} {rs : List Nat} {k : Nat} {v : Int32} (h : rs[k]? = some 0) : (am_fs ad f rs).set k (.int v) = am_fs ad (upd f k v) rs := by
  apply List.ext_getElem?
  intro j
  rw [List.getElem?_set]
  have hl : k < rs.length := by
    rcases Nat.lt_or_ge k rs.length with z | z
    · exact z
    · rw [List.getElem?_eq_none z] at h; cases h
  by_cases e : k = j
  · subst e
    rw [if_pos rfl, if_pos (by simp [am_fs]; exact hl), am_fs_get h]
    simp [am_rv, upd]
  · rw [if_neg e]
    simp only [am_fs, List.getElem?_mapIdx]
    cases rs[j]? with
    | none => rfl
    | some x =>
      have e2 : ¬ j = k := fun z => e z.symm
      match x with
      | 0 => simp only [Option.map_some, am_rv, upd, if_neg e2]
      | 1 => rfl
      | a + 2 => rfl
/-- the class number ci has these words for its fields -/
def am_cls (ci : Nat) (C : String) (T : u_T) (N : Nat) (ty : Nat → FieldType) : Prop := vwCl[ci]? = some (C, T, N) ∧ (∀ w ∈ u_ws C T N, w ∈ am_T) ∧ (∀ k, k < N → parseFieldDescriptor (T k).2.2.1 = some (ty k)) ∧ (∀ a, a < N → ∀ b, b < N → a ≠ b → (T a).2.1 ≠ (T b).2.1)
theorem v_geti (hC : am_C X l0 R0 cc own ret) {ix a ci n k : Nat} {C ref : String} {T : u_T} {N : Nat} {ty : Nat → FieldType} {rs : List Nat} (hc : am_cls ci C T N ty) (ha : ly[a]? = some (ci + 4, n, rs)) (hk : k < N) (hr : rs[k]? = some 0) (hw : Cond.fieldLink own ix ref (T k).2.1 (T k).2.2.1 ∈ am_T) (href : (T k).1 = ref) (hd : decode cc pc = .ok (.getfield ix, 3)) (kk : am_V X ly M ce sl Q (pc + 3) L (.int (M a k) :: st)) : am_V X ly M ce sl Q pc L (.ref a :: st) := by
  obtain ⟨p, l, e, R, s, m, args, below, meth, c, D, G, ad, A⟩ := X
  obtain ⟨hx, hb, hown, hts, hK, hA, hlk, hB, hr9, rfl, rfl⟩ := hC
  intro H locs ls hP hD hS hL hm
  subst href
  exact va_get (ci := ci) (v := .int (M a k)) hx hb hts hc.2.1 hown hK hP a (am_get ha) hc.1 k hk (hts _ hw) (fun _ h9 => h9) (am_fs_get hr) hd (kk H locs ls hP hD hS hL hm)
theorem v_geta (hC : am_C X l0 R0 cc own ret) {ix a ci n k b : Nat} {C ref : String} {T : u_T} {N : Nat} {ty : Nat → FieldType} {rs : List Nat} (hc : am_cls ci C T N ty) (ha : ly[a]? = some (ci + 4, n, rs)) (hk : k < N) (hr : rs[k]? = some (b + 2)) (hw : Cond.fieldLink own ix ref (T k).2.1 (T k).2.2.1 ∈ am_T) (href : (T k).1 = ref) (hd : decode cc pc = .ok (.getfield ix, 3)) (kk : am_V X ly M ce sl Q (pc + 3) L (.ref b :: st)) : am_V X ly M ce sl Q pc L (.ref a :: st) := by
  obtain ⟨p, l, e, R, s, m, args, below, meth, c, D, G, ad, A⟩ := X
  obtain ⟨hx, hb, hown, hts, hK, hA, hlk, hB, hr9, rfl, rfl⟩ := hC
  intro H locs ls hP hD hS hL hm
  subst href
  exact va_get (ci := ci) (v := .ref (ad b)) hx hb hts hc.2.1 hown hK hP a (am_get ha) hc.1 k hk (hts _ hw) (fun _ h9 => h9) (am_fs_get hr) hd (kk H locs ls hP hD hS hL hm)
theorem v_puti (hC : am_C X l0 R0 cc own ret) {ix a ci n k : Nat} {C ref : String} {T : u_T} {N : Nat} {ty : Nat → FieldType} {rs : List Nat} {v : Int32} (hc : am_cls ci C T N ty) (ha : ly[a]? = some (ci + 4, n, rs)) (hk : k < N) (hr : rs[k]? = some 0) (hw : Cond.fieldLink own ix ref (T k).2.1 (T k).2.2.1 ∈ am_T) (href : (T k).1 = ref) (hf : (T k).2.2.2 = false) (hn : narrow (ty k) (.int v) = .int v) (hfit : fits (ty k) (.int v) = true) (hd : decode cc pc = .ok (.putfield ix, 3)) (kk : am_V X ly (wr M a k v) ce sl Q (pc + 3) L st) : am_V X ly M ce sl Q pc L (.int v :: .ref a :: st) := by
  obtain ⟨p, l, e, R, s, m, args, below, meth, c, D, G, ad, A⟩ := X
  obtain ⟨hx, hb, hown, hts, hK, hA, hlk, hB, hr9, rfl, rfl⟩ := hC
  intro H locs ls hP hD hS hL hm
  subst href
  have hlen : k < (am_fs ad (M a) rs).length := by
    have h2 : k < rs.length := by
      rcases Nat.lt_or_ge k rs.length with z | z
      · exact z
      · rw [List.getElem?_eq_none z] at hr; cases hr
    simp only [am_fs, List.length_mapIdx]; exact h2
  have e1 : (am_w G ad ly M).set a (ad a, .inr (ci, (am_fs ad (M a) rs).set k (.int v))) = am_w G ad ly (wr M a k v) := by
    rw [am_fs_set hr, ← wr_upd]
    exact am_set (G := G) (q := (ci + 4, n, rs)) ha
  exact va_put (ci := ci) (v := .int v) (ty := ty k) hx hb hts hc.2.1 ty hc.2.2.1 hc.2.2.2 hown hK hP hD hS a (am_get ha) hc.1 k hk (hts _ hw) (fun _ h9 => h9) hf (hc.2.2.1 k hk) hn hfit hlen hd (fun H1 locs1 hP1 hD1 hS1 => kk H1 locs1 ls (by rw [← e1]; exact hP1) (by rw [← e1]; exact hD1) hS1 hL hm)
theorem v_iald (hC : am_C X l0 R0 cc own ret) {a n : Nat} {rs : List Nat} {i : Int32} (ha : ly[a]? = some (0, n, rs)) (hi : vp_in i n) (hd : decode cc pc = .ok (.iaload, 1)) (kk : am_V X ly M ce sl Q (pc + 1) L (.int (M a i.toNatClampNeg) :: st)) : am_V X ly M ce sl Q pc L (.int i :: .ref a :: st) := by
  obtain ⟨p, l, e, R, s, m, args, below, meth, c, D, G, ad, A⟩ := X
  obtain ⟨hx, hb, hown, hts, hK, hA, hlk, hB, hr9, rfl, rfl⟩ := hC
  intro H locs ls hP hD hS hL hm
  exact va_iald hx hb hK hP a 0 (am_get ha) rfl hi hd (kk H locs ls hP hD hS hL hm)
theorem v_bald (hC : am_C X l0 R0 cc own ret) {a n : Nat} {rs : List Nat} {i : Int32} (ha : ly[a]? = some (1, n, rs)) (hi : vp_in i n) (hd : decode cc pc = .ok (.baload, 1)) (kk : am_V X ly M ce sl Q (pc + 1) L (.int (M a i.toNatClampNeg) :: st)) : am_V X ly M ce sl Q pc L (.int i :: .ref a :: st) := by
  obtain ⟨p, l, e, R, s, m, args, below, meth, c, D, G, ad, A⟩ := X
  obtain ⟨hx, hb, hown, hts, hK, hA, hlk, hB, hr9, rfl, rfl⟩ := hC
  intro H locs ls hP hD hS hL hm
  exact va_bald hx hb hK hP a 1 (am_get ha) rfl hi hd (kk H locs ls hP hD hS hL hm)
theorem v_iast (hC : am_C X l0 R0 cc own ret) {a n : Nat} {rs : List Nat} {i v : Int32} (ha : ly[a]? = some (0, n, rs)) (hi : vp_in i n) (hd : decode cc pc = .ok (.iastore, 1)) (kk : am_V X ly (wr M a i.toNatClampNeg v) ce sl Q (pc + 1) L st) : am_V X ly M ce sl Q pc L (.int v :: .int i :: .ref a :: st) := by
  obtain ⟨p, l, e, R, s, m, args, below, meth, c, D, G, ad, A⟩ := X
  obtain ⟨hx, hb, hown, hts, hK, hA, hlk, hB, hr9, rfl, rfl⟩ := hC
  intro H locs ls hP hD hS hL hm
  have e1 : (am_w G ad ly M).set a (ad a, .inl (G.1, n, .inl (upd (M a) i.toNatClampNeg v))) = am_w G ad ly (wr M a i.toNatClampNeg v) := by
    rw [← wr_upd]
    exact am_set (G := G) (q := (0, n, rs)) ha
  exact va_iast hx hb hK hP hD hS a 0 (am_get ha) rfl hi hd (fun H1 locs1 hP1 hD1 hS1 => kk H1 locs1 ls (by rw [← e1]; exact hP1) (by rw [← e1]; exact hD1) hS1 hL hm)
theorem v_bast (hC : am_C X l0 R0 cc own ret) {a n : Nat} {rs : List Nat} {i v : Int32} (ha : ly[a]? = some (1, n, rs)) (hi : vp_in i n) (hd : decode cc pc = .ok (.bastore, 1)) (kk : am_V X ly (wr M a i.toNatClampNeg (vp_nar .byte v)) ce sl Q (pc + 1) L st) : am_V X ly M ce sl Q pc L (.int v :: .int i :: .ref a :: st) := by
  obtain ⟨p, l, e, R, s, m, args, below, meth, c, D, G, ad, A⟩ := X
  obtain ⟨hx, hb, hown, hts, hK, hA, hlk, hB, hr9, rfl, rfl⟩ := hC
  intro H locs ls hP hD hS hL hm
  have e1 : (am_w G ad ly M).set a (ad a, .inl (G.2.1, n, .inl (upd (M a) i.toNatClampNeg (vp_nar .byte v)))) = am_w G ad ly (wr M a i.toNatClampNeg (vp_nar .byte v)) := by
    rw [← wr_upd]
    exact am_set (G := G) (q := (1, n, rs)) ha
  exact va_bast hx hb hK hP hD hS a 1 (am_get ha) rfl hi hd (fun H1 locs1 hP1 hD1 hS1 => kk H1 locs1 ls (by rw [← e1]; exact hP1) (by rw [← e1]; exact hD1) hS1 hL hm)
theorem v_lald (hC : am_C X l0 R0 cc own ret) {a n : Nat} {rs : List Nat} {i : Int32} (ha : ly[a]? = some (2, n, rs)) (hi : vp_in i n) (hd : decode cc pc = .ok (.laload, 1)) (kk : am_V X ly M ce sl Q (pc + 1) L (.long (M a i.toNatClampNeg).toInt64 :: st)) : am_V X ly M ce sl Q pc L (.int i :: .ref a :: st) := by
  obtain ⟨p, l, e, R, s, m, args, below, meth, c, D, G, ad, A⟩ := X
  obtain ⟨hx, hb, hown, hts, hK, hA, hlk, hB, hr9, rfl, rfl⟩ := hC
  intro H locs ls hP hD hS hL hm
  exact va_lald hx hb hK hP a 2 (am_get ha) rfl hi hd (kk H locs ls hP hD hS hL hm)
theorem v_last (hC : am_C X l0 R0 cc own ret) {a n : Nat} {rs : List Nat} {i v : Int32} {w : Int64} (hw : w = v.toInt64) (ha : ly[a]? = some (2, n, rs)) (hi : vp_in i n) (hd : decode cc pc = .ok (.lastore, 1)) (kk : am_V X ly (wr M a i.toNatClampNeg v) ce sl Q (pc + 1) L st) : am_V X ly M ce sl Q pc L (.long w :: .int i :: .ref a :: st) := by
  subst hw
  obtain ⟨p, l, e, R, s, m, args, below, meth, c, D, G, ad, A⟩ := X
  obtain ⟨hx, hb, hown, hts, hK, hA, hlk, hB, hr9, rfl, rfl⟩ := hC
  intro H locs ls hP hD hS hL hm
  have e1 : (am_w G ad ly M).set a (ad a, .inl (G.2.2.1, n, .inr (.inl (vp_updL (fun k => (M a k).toInt64) i.toNatClampNeg v.toInt64)))) = am_w G ad ly (wr M a i.toNatClampNeg v) := by
    have e2 : (vp_updL (fun k => (M a k).toInt64) i.toNatClampNeg v.toInt64) = fun k => (upd (M a) i.toNatClampNeg v k).toInt64 := by
      funext j
      simp only [vp_updL, upd]
      by_cases g : j = i.toNatClampNeg <;> simp [g]
    rw [← wr_upd, e2]
    exact am_set (G := G) (q := (2, n, rs)) ha
  exact va_last hx hb hK hP hD hS a 2 (am_get ha) rfl hi hd (fun H1 locs1 hP1 hD1 hS1 => kk H1 locs1 ls (by rw [← e1]; exact hP1) (by rw [← e1]; exact hD1) hS1 hL hm)
theorem v_aald (hC : am_C X l0 R0 cc own ret) {a n b : Nat} {rs : List Nat} {i : Int32} (ha : ly[a]? = some (3, n, rs)) (hi : vp_in i n) (hb9 : rs[i.toNatClampNeg]? = some (b + 2)) (hd : decode cc pc = .ok (.aaload, 1)) (kk : am_V X ly M ce sl Q (pc + 1) L (.ref b :: st)) : am_V X ly M ce sl Q pc L (.int i :: .ref a :: st) := by
  obtain ⟨p, l, e, R, s, m, args, below, meth, c, D, G, ad, A⟩ := X
  obtain ⟨hx, hb, hown, hts, hK, hA, hlk, hB, hr9, rfl, rfl⟩ := hC
  intro H locs ls hP hD hS hL hm
  refine va_aldq hx hb hK hP a 3 (am_get ha) rfl hi hd ?_
  have h9 : (match rs.getD i.toNatClampNeg 1 with | a + 2 => some (ad a) | _ => none) = some (ad b) := by
    rw [List.getD_eq_getElem?_getD, hb9]; rfl
  show W _ _ _ _ _ _ _ _ _ _ _ _ _ _ _ (F0 m (pc + 1) ls (va_rf (match rs.getD i.toNatClampNeg 1 with | a + 2 => some (ad a) | _ => none) :: st.map (am_c ad)))
  rw [h9]
  exact kk H locs ls hP hD hS hL hm
theorem v_alen (hC : am_C X l0 R0 cc own ret) {a n : Nat} {rs : List Nat} (ha : ly[a]? = some (0, n, rs)) (hd : decode cc pc = .ok (.arraylength, 1)) (kk : am_V X ly M ce sl Q (pc + 1) L (.int (Int32.ofNat n) :: st)) : am_V X ly M ce sl Q pc L (.ref a :: st) := by
  obtain ⟨p, l, e, R, s, m, args, below, meth, c, D, G, ad, A⟩ := X
  obtain ⟨hx, hb, hown, hts, hK, hA, hlk, hB, hr9, rfl, rfl⟩ := hC
  intro H locs ls hP hD hS hL hm
  exact va_alen hx hb hK hP a 0 (am_get ha) rfl rfl hd (kk H locs ls hP hD hS hL hm)
/-! ends -/
theorem am_wd_of {D : va_G} {G : am_Gt} {ad : Nat → Nat} {A : Nat → Prop} {ly : Ly} {M : Mm} {s t : State} {H : Heap} (hP : va_P D vwCl (am_w G ad ly M) H) (hD : va_D A (am_w G ad ly M)) (hK : va_K D vwCl (am_tys G) s) (ht : t.heap = H) (hv : s.vm.Alike t.vm) : am_Wd D G ad A ly M t := ⟨by rw [ht]; exact hP, va_K.moved hv hK, hD⟩
theorem v_iret (hC : am_C X l0 R0 cc own (some .int)) {mc ms : Nat} {v : Int32} (hc : ce ≤ mc) (hs : sl ≤ ms) (hd : decode cc pc = .ok (.ireturn, 1)) : am_V X ly M ce sl (am_Q X ly mc ms (.inl (some (.int v))) M) pc L [.int v] := by
  obtain ⟨p, l, e, R, s, m, args, below, meth, c, D, G, ad, A⟩ := X
  obtain ⟨hx, hb, hown, hts, hK, hA, hlk, hB, hr9, rfl, rfl⟩ := hC
  intro H locs ls hP hD hS hL hm
  refine W.widen hc hs (vx_ret ?_)
  exact W.iret hx hb hr9 (fun t ht hW => ⟨⟨_, rfl, rfl, am_wd_of hP hD hK ht hW.alike⟩, hS.F ht⟩) hS.2.2 hd hlk
theorem v_zret (hC : am_C X l0 R0 cc own (some .boolean)) {mc ms : Nat} {v : Int32} (hv : narrow .boolean (.int v) = .int v) (hc : ce ≤ mc) (hs : sl ≤ ms) (hd : decode cc pc = .ok (.ireturn, 1)) : am_V X ly M ce sl (am_Q X ly mc ms (.inl (some (.int v))) M) pc L [.int v] := by
  obtain ⟨p, l, e, R, s, m, args, below, meth, c, D, G, ad, A⟩ := X
  obtain ⟨hx, hb, hown, hts, hK, hA, hlk, hB, hr9, rfl, rfl⟩ := hC
  intro H locs ls hP hD hS hL hm
  refine W.widen hc hs (vx_ret ?_)
  exact W.zret hx hb hr9 hv (fun t ht hW => ⟨⟨_, rfl, rfl, am_wd_of hP hD hK ht hW.alike⟩, hS.F ht⟩) hS.2.2 hd hlk
theorem v_vret (hC : am_C X l0 R0 cc own none) {mc ms : Nat} (hc : ce ≤ mc) (hs : sl ≤ ms) (hd : decode cc pc = .ok (.return_, 1)) : am_V X ly M ce sl (am_Q X ly mc ms (.inl none) M) pc L [] := by
  obtain ⟨p, l, e, R, s, m, args, below, meth, c, D, G, ad, A⟩ := X
  obtain ⟨hx, hb, hown, hts, hK, hA, hlk, hB, hr9, rfl, rfl⟩ := hC
  intro H locs ls hP hD hS hL hm
  refine W.widen hc hs (vx_ret ?_)
  exact W.vret hx hb hr9 (fun t ht hW => ⟨⟨_, rfl, rfl, am_wd_of hP hD hK ht hW.alike⟩, hS.F ht⟩) hS.2.2 hd hlk
end AMH
