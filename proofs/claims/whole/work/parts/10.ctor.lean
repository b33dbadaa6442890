/-! CONSTRUCTORS: the layout grows -/
def am_ok (n : Nat) (ly : Ly) : Prop := ∀ q ∈ ly, ∀ r ∈ q.2.2, r < n + 2
def am_sd (X : am_X) (ad : Nat → Nat) : am_X := match X with
  | (p, l, e, R, s, m, args, below, meth, c, D, G, _, A) => (p, l, e, R, s, m, args, below, meth, c, D, G, ad, A)
def am_ad (X : am_X) : Nat → Nat := match X with
  | (_, _, _, _, _, _, _, _, _, _, _, _, ad, _) => ad
def am_ext (n : Nat) (f g : Nat → Nat) : Prop := ∀ a, a < n ∨ am_sb ≤ a → g a = f a
theorem am_ext.trans {n k : Nat} {f g h : Nat → Nat} (h1 : am_ext n f g) (hk : n ≤ k) (h2 : am_ext k g h) : am_ext n f h := fun a ha => (h2 a (ha.imp (fun z => Nat.lt_of_lt_of_le z hk) id)).trans (h1 a ha)
theorem am_ext.rf {n : Nat} {f : Nat → Nat} : am_ext n f f := fun _ _ => rfl
def am_lr (n : Nat) (v : Value) : Prop := match v with
  | .ref a => a < n ∨ am_sb ≤ a
  | _ => True
theorem am_c_ext {n : Nat} {f g : Nat → Nat} (h : am_ext n f g) {v : Value} (hv : am_lr n v) : am_c g v = am_c f v := by
  cases v with
  | ref a => show Value.ref (g a) = Value.ref (f a); rw [h a hv]
  | _ => rfl
def am_nr (n : Nat) (L : List (Option Value)) (st : List Value) : Prop := (∀ v, some v ∈ L → am_lr n v) ∧ ∀ v ∈ st, am_lr n v
theorem am_L_ext {n : Nat} {f g : Nat → Nat} (h : am_ext n f g) {ls : Array Slot} {L : List (Option Value)} (hL : am_L f ls L) (hr : ∀ v, some v ∈ L → am_lr n v) : am_L g ls L :=
  ⟨hL.1, hL.2.1, fun k v hk => by rw [am_c_ext h (hr v (List.mem_of_getElem? hk))]; exact hL.2.2.1 k v hk, hL.2.2.2⟩
theorem am_st_ext {n : Nat} {f g : Nat → Nat} (h : am_ext n f g) {st : List Value} (hr : ∀ v ∈ st, am_lr n v) : st.map (am_c g) = st.map (am_c f) := List.map_congr_left (fun v hv => am_c_ext h (hr v hv))
theorem am_e_ext {n : Nat} {G : am_Gt} {f g : Nat → Nat} (h : am_ext n f g) {q : Sp} (hq : ∀ r ∈ q.2.2, r < n + 2) (x : Nat → Int32) : am_e G g q x = am_e G f q x := by
  obtain ⟨t, len, rs⟩ := q
  match t with
  | 0 => rfl
  | 1 => rfl
  | 2 => rfl
  | 3 =>
    have e1 : (fun k => match rs.getD k 1 with | a + 2 => some (g a) | _ => none) = (fun k => match rs.getD k 1 with | a + 2 => some (f a) | _ => none) := by
      funext k
      rw [List.getD_eq_getElem?_getD]
      cases hk : rs[k]? with
      | none => rfl
      | some r =>
        have := hq r (List.mem_of_getElem? hk)
        match r, this with
        | 0, _ => rfl
        | 1, _ => rfl
        | a + 2, ha => show some (g a) = some (f a); rw [h a (Or.inl (by omega))]
    show Sum.inl (G.2.2.2, len, Sum.inr (Sum.inr (Sum.inr (Sum.inr (fun k => match rs.getD k 1 with | a + 2 => some (g a) | _ => none))))) = _
    rw [e1]; rfl
  | t + 4 =>
    have e1 : am_fs g x rs = am_fs f x rs := by
      apply List.ext_getElem?
      intro k
      simp only [am_fs, List.getElem?_mapIdx]
      cases hk : rs[k]? with
      | none => rfl
      | some r =>
        have := hq r (List.mem_of_getElem? hk)
        match r, this with
        | 0, _ => rfl
        | 1, _ => rfl
        | a + 2, ha => show some (Value.ref (g a)) = some (Value.ref (f a)); rw [h a (Or.inl (by omega))]
    show Sum.inr (t, am_fs g x rs) = Sum.inr (t, am_fs f x rs)
    rw [e1]
theorem am_w_app {G : am_Gt} {f g : Nat → Nat} {ly : Ly} {M : Mm} (h : am_ext ly.length f g) (hok : am_ok ly.length ly) (q : Sp) : am_w G g (ly ++ [q]) M = am_w G f ly M ++ [(g ly.length, am_e G g q (M ly.length))] := by
  apply List.ext_getElem?
  intro k
  have hl : (am_w G f ly M).length = ly.length := by simp [am_w]
  rcases Nat.lt_trichotomy k ly.length with hk | hk | hk
  · rw [List.getElem?_append_left (by rw [hl]; exact hk)]
    simp only [am_w, List.getElem?_mapIdx, List.getElem?_append_left hk]
    rw [List.getElem?_eq_getElem hk]
    simp only [Option.map_some]
    rw [h k (Or.inl hk), am_e_ext h (fun r hr => hok _ (List.getElem_mem hk) r hr)]
  · subst hk
    rw [List.getElem?_append_right (by rw [hl]; exact Nat.le_refl _), hl, Nat.sub_self]
    simp [am_w]
  · rw [List.getElem?_eq_none (by simp only [am_w, List.length_mapIdx, List.length_append, List.length_cons, List.length_nil]; omega), List.getElem?_eq_none (by simp only [List.length_append, hl, List.length_cons, List.length_nil]; omega)]
theorem am_B_ext {n : Nat} {f g : Nat → Nat} {A : Nat → Prop} {U : State} {H : Heap} (h : am_ext n f g) (hB : am_B f A U H) : am_B g A U H := by
  obtain ⟨h1, h2, h3, h5, h6, h7⟩ := hB
  refine ⟨fun i hi => ?_, fun q hq => ?_, h3, h5, ?_, h7⟩
  · have := h1 i hi
    rw [← h (am_sb + i) (Or.inr (Nat.le_add_right _ _)), ← h (am_vb + i) (Or.inr (by simp only [am_vb, am_sb]; omega))] at this
    exact this
  · rw [h (am_sb + q.2.2.2) (Or.inr (Nat.le_add_right _ _))]; exact h2 q hq
  · rw [h am_fb (Or.inr (by decide))]; exact h6
/-- the address map with one place more -/
def am_add (f : Nat → Nat) (n q : Nat) : Nat → Nat := fun a => if a = n then q else f a
theorem am_add_ext {f : Nat → Nat} {n q : Nat} (hn : n < am_sb) : am_ext n f (am_add f n q) := by
  intro a ha
  have : ¬ a = n := by rcases ha with h | h <;> omega
  simp [am_add, this]
theorem am_add_self {f : Nat → Nat} {n q : Nat} : am_add f n q n = q := by simp [am_add]
section AMN
variable {X : am_X} {l0 : Launch} {R0 : Room} {cc : ByteArray} {own : String} {ret : Option FieldType} {ly : Ly} {M M1 : Mm} {ce sl : Nat} {Q : State → Prop} {pc : Nat} {L : List (Option Value)} {st : List Value}
theorem v_new (hC : am_C X l0 R0 cc own ret) {ix ci N n : Nat} {C : String} {T : u_T} {ty : Nat → FieldType} (rs : List Nat) (hn : ly.length = n) (hc : am_cls ci C T N ty) (hl : Cond.classLink own ix C ∈ am_T) (hi : Cond.instantiable C N ∈ am_T) (hini : Cond.initialized C ∈ am_T) (hfs : ∀ j, j < N → defaultValue (ty j) = vp_V (am_fs (fun a => a) (fun _ => 0) rs) j) (hrs : ∀ r ∈ rs, r < 2) (hok : am_ok ly.length ly) (hz : ∀ j, M n j = 0) (hr : am_nr n L st) (hsm : n < am_sb) (hc1 : ce + 1 ≤ R0.cells) (hs1 : sl + N ≤ R0.slots) (hd : decode cc pc = .ok (.new ix, 3))
    (k : ∀ ad, am_ext n (am_ad X) ad → am_C (am_sd X ad) l0 R0 cc own ret → am_V (am_sd X ad) (ly ++ [(ci + 4, 0, rs)]) M (ce + 1) (sl + N) Q (pc + 3) L (.ref n :: st)) : am_V X ly M ce sl Q pc L st := by
  subst hn
  obtain ⟨p, l, e, R, s, m, args, below, meth, c, D, G, ad, A⟩ := X
  obtain ⟨hx, hb, hown, hts, hK, hA, hlk, hB, hr9, rfl, rfl⟩ := hC
  intro H locs ls hP hD hS hL hm
  refine va_new (ci := ci) (fs := am_fs (fun a => a) (fun _ => 0) rs) hx hb hts hc.2.1 ty hc.2.2.1 hown (hts _ hl) (hts _ hi) (hts _ hini) hK hP hD hS hA hc.1 hfs hc1 hs1 hd (fun q H1 hP1 hD1 hS1 => ?_)
  have hx1 := am_add_ext (f := ad) (n := ly.length) (q := q) hsm
  have ew : am_w G (am_add ad ly.length q) (ly ++ [(ci + 4, 0, rs)]) M = am_w G ad ly M ++ [(q, .inr (ci, am_fs (fun a => a) (fun _ => 0) rs))] := by
    rw [am_w_app hx1 hok, am_add_self]
    have e2 : am_fs (am_add ad ly.length q) (M ly.length) rs = am_fs (fun a => a) (fun _ => 0) rs := by
      apply List.ext_getElem?
      intro j
      simp only [am_fs, List.getElem?_mapIdx]
      cases hk : rs[j]? with
      | none => rfl
      | some r =>
        have := hrs r (List.mem_of_getElem? hk)
        match r, this with
        | 0, _ => simp only [Option.map_some, am_rv]; rw [hz]
        | 1, _ => rfl
    show am_w G ad ly M ++ [(q, Sum.inr (ci, am_fs (am_add ad ly.length q) (M ly.length) rs))] = _
    rw [e2]
  have := k (am_add ad ly.length q) hx1 ⟨hx, hb, hown, hts, hK, hA, hlk, am_B_ext hx1 hB, hr9, rfl, rfl⟩ H1 locs ls (by rw [ew]; exact hP1) (by rw [ew]; exact hD1) hS1 (am_L_ext hx1 hL hr.1) hm
  have e3 : (Value.ref ly.length :: st).map (am_c (am_add ad ly.length q)) = .ref q :: st.map (am_c ad) := by
    rw [List.map_cons, am_st_ext hx1 hr.2]
    show Value.ref (am_add ad ly.length q ly.length) :: _ = _
    rw [am_add_self]
  rw [e3] at this
  exact this
theorem am_arr_cls {D : va_G} {tys : List (ClassId × FieldType)} {s : State} {cA cB : ClassId} {ty : FieldType} {i j : Nat} (hK : va_K D vwCl tys s) (h1 : tys[i]? = some (cA, ty)) (h2 : tys[j]? = some (cB, ty)) : cA = cB := by
  have a := (hK.2 i _ h1).2
  have b := (hK.2 j _ h2).2
  cases ty with
  | object C =>
    obtain ⟨_, _, _, _, _, a⟩ := a
    obtain ⟨_, _, _, _, _, b⟩ := b
    exact Option.some.inj (a.symm.trans b)
  | _ => exact Option.some.inj ((show s.vm.findClass _ = some cA from a).symm.trans (show s.vm.findClass _ = some cB from b))
theorem v_newarr (hC : am_C X l0 R0 cc own ret) (at9 : ArrayType) (tg : Nat) {n N : Nat} {nn : Int32} (htg : (tg = 0 ∧ newarray.typeOf at9 = .int) ∨ (tg = 1 ∧ newarray.typeOf at9 = .byte) ∨ (tg = 2 ∧ newarray.typeOf at9 = .long)) (hn : ly.length = n) (hN : nn = nI N) (hN2 : N < 60000) (hw : Cond.arrayClass (newarray.typeOf at9) ∈ am_T) (hok : am_ok ly.length ly) (hz : ∀ j, M n j = 0) (hr : am_nr n L st) (hsm : n < am_sb) (hc1 : ce + 1 ≤ R0.cells) (hs1 : sl + N ≤ R0.slots) (hd : decode cc pc = .ok (.newarray at9, 2))
    (k : ∀ ad, am_ext n (am_ad X) ad → am_C (am_sd X ad) l0 R0 cc own ret → am_V (am_sd X ad) (ly ++ [(tg, N, [])]) M (ce + 1) (sl + N) Q (pc + 2) L (.ref n :: st)) : am_V X ly M ce sl Q pc L (.int nn :: st) := by
  subst hn; subst hN
  obtain ⟨p, l, e, R, s, m, args, below, meth, c, D, G, ad, A⟩ := X
  obtain ⟨hx, hb, hown, hts, hK, hA, hlk, hB, hr9, rfl, rfl⟩ := hC
  intro H locs ls hP hD hS hL hm
  have hf0 : M ly.length = fun _ => 0 := funext hz
  have fin : ∀ (q : Nat) (H1 : Heap) (en : va_E), am_e G (am_add ad ly.length q) (tg, N, []) (M ly.length) = en → va_P D vwCl (am_w G ad ly M ++ [(q, en)]) H1 → va_D A (am_w G ad ly M ++ [(q, en)]) → va_S A s.heap H1 locs → W p l e R s m args below meth c H1 locs (ce + 1) (sl + N) Q (F0 m (pc + 2) ls (.ref q :: st.map (am_c ad))) := by
    intro q H1 en he hP1 hD1 hS1
    have hx1 := am_add_ext (f := ad) (n := ly.length) (q := q) hsm
    have ew : am_w G (am_add ad ly.length q) (ly ++ [(tg, N, [])]) M = am_w G ad ly M ++ [(q, en)] := by
      rw [am_w_app hx1 hok, am_add_self, he]
    have := k (am_add ad ly.length q) hx1 ⟨hx, hb, hown, hts, hK, hA, hlk, am_B_ext hx1 hB, hr9, rfl, rfl⟩ H1 locs ls (by rw [ew]; exact hP1) (by rw [ew]; exact hD1) hS1 (am_L_ext hx1 hL hr.1) hm
    have e3 : (Value.ref ly.length :: st).map (am_c (am_add ad ly.length q)) = .ref q :: st.map (am_c ad) := by
      rw [List.map_cons, am_st_ext hx1 hr.2]
      show Value.ref (am_add ad ly.length q ly.length) :: _ = _
      rw [am_add_self]
    rw [e3] at this
    exact this
  have hnn : ¬ nI N < 0 := nI_pos (by omega)
  have hNN : (nI N).toNatClampNeg = N := nI_clamp (by omega)
  rcases htg with ⟨rfl, ht⟩ | ⟨rfl, ht⟩ | ⟨rfl, ht⟩
  · refine va_newa hx hb (hts _ hw) ht hK hP hD hS hA (a0 := (N, .inl (fun _ => 0))) (fun cA => rfl) hnn hNN (by show N * componentBytes .int ≤ _; simp only [componentBytes]; omega) hc1 hs1 hd (fun q cA H1 hK1 hP1 hD1 hS1 => ?_)
    have hcA : cA = G.1 := am_arr_cls hK1 (i := 4) (j := 0) rfl rfl
    subst hcA
    exact fin q H1 _ (by rw [hf0]; rfl) hP1 hD1 hS1
  · refine va_newa hx hb (hts _ hw) ht hK hP hD hS hA (a0 := (N, .inl (fun _ => 0))) (fun cA => rfl) hnn hNN (by show N * componentBytes .byte ≤ _; simp only [componentBytes]; omega) hc1 hs1 hd (fun q cA H1 hK1 hP1 hD1 hS1 => ?_)
    have hcA : cA = G.2.1 := am_arr_cls hK1 (i := 4) (j := 1) rfl rfl
    subst hcA
    exact fin q H1 _ (by rw [hf0]; rfl) hP1 hD1 hS1
  · refine va_newa hx hb (hts _ hw) ht hK hP hD hS hA (a0 := (N, .inr (.inl (fun _ => 0)))) (fun cA => rfl) hnn hNN (by show N * componentBytes .long ≤ _; simp only [componentBytes]; omega) hc1 hs1 hd (fun q cA H1 hK1 hP1 hD1 hS1 => ?_)
    have hcA : cA = G.2.2.1 := am_arr_cls hK1 (i := 4) (j := 2) rfl rfl
    subst hcA
    exact fin q H1 _ (by rw [hf0]; rfl) hP1 hD1 hS1
end AMN
section AMP
variable {X : am_X} {l0 : Launch} {R0 : Room} {cc : ByteArray} {own : String} {ret : Option FieldType} {ly ly1 : Ly} {M M1 : Mm} {ce sl : Nat} {Q : State → Prop} {pc : Nat} {L : List (Option Value)} {st : List Value}
theorem v_anew (hC : am_C X l0 R0 cc own ret) {ix n N : Nat} {nn : Int32} (hn : ly.length = n) (hN : nn = nI N) (hN2 : N < 60000) (hl : Cond.classLink own ix RX3 ∈ am_T) (hok : am_ok ly.length ly) (hr : am_nr n L st) (hsm : n < am_sb) (hc1 : ce + 1 ≤ R0.cells) (hs1 : sl + N ≤ R0.slots) (hd : decode cc pc = .ok (.anewarray ix, 3))
    (k : ∀ ad, am_ext n (am_ad X) ad → am_C (am_sd X ad) l0 R0 cc own ret → am_V (am_sd X ad) (ly ++ [(3, N, List.replicate N 1)]) M (ce + 1) (sl + N) Q (pc + 3) L (.ref n :: st)) : am_V X ly M ce sl Q pc L (.int nn :: st) := by
  subst hn; subst hN
  obtain ⟨p, l, e, R, s, m, args, below, meth, c, D, G, ad, A⟩ := X
  obtain ⟨hx, hb, hown, hts, hK, hA, hlk, hB, hr9, rfl, rfl⟩ := hC
  intro H locs ls hP hD hS hL hm
  refine va_newq hx hb hown (hts _ hl) hB.2.2.2.2.2.2.2.2.1 hK hP hD hS hA (nI_pos (by omega)) (nI_clamp (by omega)) (by omega) hc1 hs1 hd (fun q cA H1 hK1 hP1 hD1 hS1 => ?_)
  have hcA : cA = G.2.2.2 := am_arr_cls hK1 (i := 4) (j := 3) rfl rfl
  subst hcA
  have hx1 := am_add_ext (f := ad) (n := ly.length) (q := q) hsm
  have ew : am_w G (am_add ad ly.length q) (ly ++ [(3, N, List.replicate N 1)]) M = am_w G ad ly M ++ [(q, .inl (G.2.2.2, N, .inr (.inr (.inr (.inr (fun _ => none))))))] := by
    rw [am_w_app hx1 hok, am_add_self]
    have e2 : (fun k => match (List.replicate N 1).getD k 1 with | a + 2 => some (am_add ad ly.length q a) | _ => none) = (fun _ => (none : Option Nat)) := by
      funext k
      have : (List.replicate N 1).getD k 1 = 1 := by
        rw [List.getD_eq_getElem?_getD, List.getElem?_replicate]
        split <;> rfl
      rw [this]
    show am_w G ad ly M ++ [(q, Sum.inl (G.2.2.2, N, Sum.inr (Sum.inr (Sum.inr (Sum.inr (fun k => match (List.replicate N 1).getD k 1 with | a + 2 => some (am_add ad ly.length q a) | _ => none))))))] = _
    rw [e2]
  have := k (am_add ad ly.length q) hx1 ⟨hx, hb, hown, hts, hK, hA, hlk, am_B_ext hx1 hB, hr9, rfl, rfl⟩ H1 locs ls (by rw [ew]; exact hP1) (by rw [ew]; exact hD1) hS1 (am_L_ext hx1 hL hr.1) hm
  have e3 : (Value.ref ly.length :: st).map (am_c (am_add ad ly.length q)) = .ref q :: st.map (am_c ad) := by
    rw [List.map_cons, am_st_ext hx1 hr.2]
    show Value.ref (am_add ad ly.length q ly.length) :: _ = _
    rw [am_add_self]
  rw [e3] at this
  exact this
theorem am_set_shape {G : am_Gt} {ad : Nat → Nat} {a : Nat} {q q' : Sp} (h : ly[a]? = some q) : (am_w G ad ly M).set a (ad a, am_e G ad q' (M a)) = am_w G ad (ly.set a q') M := by
  apply List.ext_getElem?
  intro b
  have hl : a < ly.length := by
    rcases Nat.lt_or_ge a ly.length with z | z
    · exact z
    · rw [List.getElem?_eq_none z] at h; cases h
  rw [List.getElem?_set]
  by_cases e : a = b
  · subst e
    rw [if_pos rfl, if_pos (by simp [am_w]; exact hl)]
    exact (am_get (by rw [List.getElem?_set, if_pos rfl, if_pos hl])).symm
  · rw [if_neg e]
    simp only [am_w, List.getElem?_mapIdx, List.getElem?_set, if_neg e]
theorem am_fs_seta {ad : Nat → Nat} {f : Nat → Int32} {rs : List Nat} {k b : Nat} (h : k < rs.length) : (am_fs ad f rs).set k (.ref (ad b)) = am_fs ad f (rs.set k (b + 2)) := by
  apply List.ext_getElem?
  intro j
  rw [List.getElem?_set]
  by_cases e : k = j
  · subst e
    rw [if_pos rfl, if_pos (by simp [am_fs]; exact h)]
    exact (am_fs_get (r := b + 2) (by rw [List.getElem?_set, if_pos rfl, if_pos h])).symm
  · rw [if_neg e]
    simp only [am_fs, List.getElem?_mapIdx, List.getElem?_set, if_neg e]
def am_in0 (X : am_X) : Prop := match X with
  | (_, _, _, _, _, _, _, _, meth, _, _, _, _, _) => meth.name = "<init>"
/-- a final reference of the object that is made -/
theorem v_puta (hC : am_C X l0 R0 cc own ret) {ix a ci n k b : Nat} {C ref : String} {T : u_T} {N : Nat} {ty : Nat → FieldType} {rs : List Nat} (hin : am_in0 X) (hc : am_cls ci C T N ty) (ha : ly[a]? = some (ci + 4, n, rs)) (hk : k < N) (hkr : k < rs.length) (hw : Cond.fieldLink own ix ref (T k).2.1 (T k).2.2.1 ∈ am_T) (href : (T k).1 = ref) (hf : (T k).2.2.2 = true) (hdecl : (T k).1 = own) (hty2 : ∀ z, narrow (ty k) (.ref z) = .ref z ∧ fits (ty k) (.ref z) = true) (hd : decode cc pc = .ok (.putfield ix, 3)) (el : ly1 = ly.set a (ci + 4, n, rs.set k (b + 2))) (kk : am_V X ly1 M ce sl Q (pc + 3) L st) : am_V X ly M ce sl Q pc L (.ref b :: .ref a :: st) := by
  subst el
  obtain ⟨p, l, e, R, s, m, args, below, meth, c, D, G, ad, A⟩ := X
  obtain ⟨hx, hb, hown, hts, hK, hA, hlk, hB, hr9, rfl, rfl⟩ := hC
  intro H locs ls hP hD hS hL hm
  subst href
  have e1 : (am_w G ad ly M).set a (ad a, .inr (ci, (am_fs ad (M a) rs).set k (.ref (ad b)))) = am_w G ad (ly.set a (ci + 4, n, rs.set k (b + 2))) M := by
    rw [am_fs_seta hkr]
    exact am_set_shape (q := (ci + 4, n, rs)) (q' := (ci + 4, n, rs.set k (b + 2))) ha
  exact va_putF (ci := ci) (v := .ref (ad b)) (ty := ty k) hx hb hts hc.2.1 ty hc.2.2.1 hc.2.2.2 hown hK hP hD hS a (am_get ha) hc.1 k hk (hts _ hw) (fun _ h9 => h9) hf hin hdecl (hc.2.2.1 k hk) (hty2 _).1 (hty2 _).2 (by simp only [am_fs, List.length_mapIdx]; exact hkr) hd (fun H1 locs1 hP1 hD1 hS1 => kk H1 locs1 ls (by rw [← e1]; exact hP1) (by rw [← e1]; exact hD1) hS1 hL hm)
/-- a Moment into the row of Moments -/
theorem v_aast (hC : am_C X l0 R0 cc own ret) {a n b n1 : Nat} {rs rs1 : List Nat} {i : Int32} (ha : ly[a]? = some (3, n, rs)) (hb1 : ly[b]? = some (6, n1, rs1)) (hi : vp_in i n) (hil : i.toNatClampNeg < rs.length) (hd : decode cc pc = .ok (.aastore, 1)) (el : ly1 = ly.set a (3, n, rs.set i.toNatClampNeg (b + 2))) (kk : am_V X ly1 M ce sl Q (pc + 1) L st) : am_V X ly M ce sl Q pc L (.ref b :: .int i :: .ref a :: st) := by
  subst el
  obtain ⟨p, l, e, R, s, m, args, below, meth, c, D, G, ad, A⟩ := X
  obtain ⟨hx, hb, hown, hts, hK, hA, hlk, hB, hr9, rfl, rfl⟩ := hC
  intro H locs ls hP hD hS hL hm
  have e2 : va_up (fun k => match rs.getD k 1 with | a + 2 => some (ad a) | _ => none) i.toNatClampNeg (some (ad b)) = (fun k => match (rs.set i.toNatClampNeg (b + 2)).getD k 1 with | a + 2 => some (ad a) | _ => none) := by
    funext k
    simp only [va_up]
    by_cases e : k = i.toNatClampNeg
    · subst e
      rw [if_pos rfl, List.getD_eq_getElem?_getD, List.getElem?_set, if_pos rfl, if_pos hil]; rfl
    · rw [if_neg e, List.getD_eq_getElem?_getD, List.getD_eq_getElem?_getD, List.getElem?_set, if_neg (fun z => e z.symm)]
  have e1 : (am_w G ad ly M).set a (ad a, .inl (G.2.2.2, n, .inr (.inr (.inr (.inr (va_up (fun k => match rs.getD k 1 with | a + 2 => some (ad a) | _ => none) i.toNatClampNeg (some (ad b)))))))) = am_w G ad (ly.set a (3, n, rs.set i.toNatClampNeg (b + 2))) M := by
    rw [e2]
    exact am_set_shape (q := (3, n, rs)) (q' := (3, n, rs.set i.toNatClampNeg (b + 2))) ha
  exact va_astq hx hb hK hP hD hS a 3 b 2 (r := (RX3, TX3, 2)) (am_get ha) rfl (am_get hb1) rfl hi hd (fun H1 locs1 hP1 hD1 hS1 => kk H1 locs1 ls (by rw [← e1]; exact hP1) (by rw [← e1]; exact hD1) hS1 hL hm)
theorem v_objInit (hC : am_C X l0 R0 cc own ret) {ix a : Nat} (hlk1 : Cond.methodLink own ix Lib.objectInit ∈ am_T) (hinst : Cond.instanceMethod Lib.objectInit ∈ am_T) (hcode : Cond.code Lib.objectInit ⟨#[0xb1]⟩ 1 none ∈ am_T) (hRf : 1 ≤ R0.frames) (hRl : (st.map fun v => v.category).sum + 12 ≤ R0.locals) (hd : decode cc pc = .ok (.invokespecial ix, 3)) (k : am_V X ly M ce sl Q (pc + 3) L st) : am_V X ly M ce sl Q pc L (.ref a :: st) := by
  obtain ⟨p, l, e, R, s, m, args, below, meth, c, D, G, ad, A⟩ := X
  obtain ⟨hx, hb, hown, hts, hK, hA, hlk, hB, hr9, rfl, rfl⟩ := hC
  intro H locs ls hP hD hS hL hm
  have hst9 : ((st.map (am_c ad)).map fun v => v.category).sum = (st.map fun v => v.category).sum := by
    rw [List.map_map]
    have : ((fun v : Value => v.category) ∘ am_c ad) = fun v => v.category := by funext v; exact am_c_cat
    rw [this]
  exact W.objInit hx hb hown (hts _ hlk1) (hts _ hinst) (hts _ hcode) (g := F0 m pc ls (.ref (ad a) :: st.map (am_c ad))) rfl (by show ls.size = _; rw [hm, hL.1]) rfl hd hRf (by rw [hst9]; exact (by simpa [JFrame.monitorRoom] using hRl)) (k H locs ls hP hD hS hL hm)
end AMP
/-! constructors' contracts -/
def am_Qn (D : va_G) (G : am_Gt) (ad : Nat → Nat) (A : Nat → Prop) (n : Nat) (ly : Ly) (M : Mm) : Array Value → State → Outcome → State → Prop := fun _ st oc t => (oc = .returned none ∧ ∃ ad', am_ext n ad ad' ∧ am_Wd D G ad' A ly M t) ∧ va_F A st t
def am_N (l : Launch) (y : MethodName) (cc : ByteArray) (nL : Nat) (d mc ms : Nat) (ly : Ly) (M : Mm) (av : List Value) (ly' : Ly) (M' : Mm) : Prop :=
  ∀ (D : va_G) (G : am_Gt) (ad : Nat → Nat) (sz : Nat), Met l y (.code y cc nL none :: am_T) (am_rm d mc ms) (am_Pc D G ad ly M sz av) (am_Qn D G ad (va_A (am_w G ad ly M) sz) ly.length ly' M') mc ms (va_A (am_w G ad ly M) sz)
def am_QN (X : am_X) (n : Nat) (ly : Ly) (mc ms : Nat) (M : Mm) : State → Prop := match X with
  | (_, _, _, _, s, _, args, below, _, _, D, G, ad, A) => MQ below (am_Qn D G ad A n ly M) args s mc ms A
theorem v_vretN {X : am_X} {l0 : Launch} {R0 : Room} {cc : ByteArray} {own : String} {ly : Ly} {M : Mm} {ce sl : Nat} {pc : Nat} {L : List (Option Value)} {ad1 : Nat → Nat} {n mc ms : Nat} (hC : am_C (am_sd X ad1) l0 R0 cc own none) (hx : am_ext n (am_ad X) ad1) (hc : ce ≤ mc) (hs : sl ≤ ms) (hd : decode cc pc = .ok (.return_, 1)) : am_V (am_sd X ad1) ly M ce sl (am_QN X n ly mc ms M) pc L [] := by
  obtain ⟨p, l, e, R, s, m, args, below, meth, c, D, G, ad, A⟩ := X
  obtain ⟨hx9, hb, hown, hts, hK, hA, hlk, hB, hr9, rfl, rfl⟩ := hC
  intro H locs ls hP hD hS hL hm
  refine W.widen hc hs ?_
  exact W.vret hx9 hb hr9 (fun t ht hW => ⟨⟨rfl, ad1, hx, am_wd_of hP hD hK ht hW.alike⟩, hS.F ht⟩) hS.2.2 hd hlk
theorem v_callN {X : am_X} {l0 : Launch} {R0 : Room} {cc : ByteArray} {own : String} {ret : Option FieldType} {ly ly1 : Ly} {M M1 : Mm} {ce sl : Nat} {Q : State → Prop} {pc : Nat} {L : List (Option Value)} {st : List Value} {y : MethodName} {cy : ByteArray} {nLy d mc ms ix b : Nat} (hC : am_C X l0 R0 cc own ret) (hM : am_N l0 y cy nLy d mc ms ly M [.ref b] ly1 M1) (hI : am_MI y cy nLy none 0) (hinst : Cond.instanceMethod y ∈ am_T) (hnm : y.name = "<init>") (hlk : Cond.methodLink own ix y ∈ am_T ∨ ∃ host, (own, ix, y, host) ∈ am_nests) (hst : (st.map fun v => v.category).sum ≤ 8) (hr : am_nr ly.length L st) (hR : d + 1 ≤ R0.frames ∧ 8 + (nLy + 11) + 41 * d ≤ R0.locals) (hcs : ce + mc ≤ R0.cells ∧ sl + ms ≤ R0.slots) (hd : decode cc pc = .ok (.invokespecial ix, 3))
    (k : ∀ ad, am_ext ly.length (am_ad X) ad → am_C (am_sd X ad) l0 R0 cc own ret → am_V (am_sd X ad) ly1 M1 (ce + mc) (sl + ms) Q (pc + 3) L st) : am_V X ly M ce sl Q pc L (.ref b :: st) := by
  obtain ⟨p, l, e, R, s, m, args, below, meth, c, D, G, ad, A⟩ := X
  obtain ⟨hx, hb9, hown, hts, hK, hA, hlk9, hB, hr9, rfl, rfl⟩ := hC
  intro H locs ls hP hD hS hL hm
  have hst9 : ((st.map (am_c ad)).map fun v => v.category).sum ≤ 8 := by
    rw [List.map_map]
    have : ((fun v : Value => v.category) ∘ am_c ad) = fun v => v.category := by funext v; exact am_c_cat
    rw [this]; exact hst
  have hF := am_A_sub hD hS hA
  obtain ⟨i1, i2, i3, i4⟩ := hI
  have hws : ∀ w ∈ (Cond.code y cy nLy none :: am_T), ∀ (a' : Array Value) (U : State), s.WarmedH U.vm → w.before a' U = true := by
    intro w hw a' U hW
    rcases List.mem_cons.mp hw with e | hw
    · rw [e]; exact word_at hW (am_good i1) (hts _ i1)
    · exact word_at hW (am_good hw) (hts _ hw)
  have hsig : ∀ sig, parseMethodDescriptor y.desc = some sig → 0 = sig.parameters.length := by
    intro sig h; rw [h] at i4; simpa using i4.symm
  have hrun : va_Run p l e R s m args below meth c H locs ce sl mc ms (F0 m pc ls (.ref (ad b) :: st.map (am_c ad))) (st.map (am_c ad)) (am_Qn D G ad (va_A (am_w G ad ly M) H.size) ly.length ly1 M1 (Value.ref (ad b) :: []).toArray) (va_A (am_w G ad ly M) H.size) := by
    rcases hlk with h | ⟨host, h⟩
    · exact va_runI (As := []) (rest := st.map (am_c ad)) (b := ad b) (n := 0) (nL := ls.size) (Ts := am_T) ⟨hx, hb9, by rw [hm, hL.1], hown, hts⟩ (hM D G ad H.size) ⟨⟨rfl, rfl, hR.1, hR.2, hws, List.mem_cons_self, hts _ i1, hts _ i2, i3, hsig, hts _ h⟩, hnm, hts _ hinst⟩ ⟨am_blind, am_pre (p := p) (av := [.ref b]) hA hK hP hD hS hB⟩ rfl rfl rfl rfl (lv_room hst9) hd hcs
    · exact va_runIN (As := []) (rest := st.map (am_c ad)) (b := ad b) (n := 0) (nL := ls.size) (Ts := am_T) (host := host) ⟨hx, hb9, by rw [hm, hL.1], hown, hts⟩ (hM D G ad H.size) ⟨⟨⟨rfl, rfl, hR.1, hR.2, hws, List.mem_cons_self⟩, hts _ i1, hts _ i2, i3, hsig, (hB.2.2.2.2.2.2.2.1 _ h).use rfl⟩, hnm, hts _ hinst⟩ ⟨am_blind, am_pre (p := p) (av := [.ref b]) hA hK hP hD hS hB⟩ rfl rfl rfl rfl (lv_room hst9) hd hcs
  intro T hT Z
  obtain ⟨v, st₀, t, T', L9, h0, Z', hL9, e1, e2, ⟨⟨hv, ad1, hx1, hPw, hKw, hDw⟩, hFr⟩, stp⟩ := hrun T hT Z
  cases hv
  obtain ⟨k1, k2, k3⟩ := vx_keep h0 e1 hS (fun q _ h => hF q h) hF hL9 hFr
  obtain ⟨t2, a1, b1⟩ := k ad1 hx1 ⟨hx, hb9, hown, hts, hK, hA, hlk9, am_B_ext hx1 hB, hr9, rfl, rfl⟩ T'.heap (locs ++ L9) ls (by rw [e1]; exact hPw) (hDw.weaken (fun k q _ h => hF q.1 h)) k3 (am_L_ext hx1 hL hr.1) hm T' rfl Z'
  refine ⟨t2, stp t2 ?_, b1⟩
  rw [am_st_ext hx1 hr.2] at a1
  exact a1
theorem am_introN {l : Launch} {y : MethodName} {cy : ByteArray} {nL : Nat} {d mc ms : Nat} {ly : Ly} {M : Mm} {b : Nat} {ly' : Ly} {M' : Mm} (hy : plainName y.cls = true) (hnm : y.name = "<init>") (hlen : 1 ≤ nL)
    (body : ∀ X : am_X, am_C (am_sd X (am_ad X)) l (am_rm d mc ms) cy y.cls none → am_in0 X → am_V (am_sd X (am_ad X)) ly M 0 0 (am_QN X ly.length ly' mc ms M') 0 (am_loc [.ref b] nL) []) : am_N l y cy nL d mc ms ly M [.ref b] ly' M' := by
  intro D G ad sz
  refine Met.ofW (cc := cy) (maxL := nL) (ret := none) hy rfl ?_
  intro p e s m args below meth c s₁ B hml hv
  obtain ⟨rfl, hsz, hP, hK, hD0, hB⟩ := hv
  subst hsz
  have hts := atoms_spec (ws := Cond.code y cy nL none :: am_T) B.pre
  have hown : s.vm.findClass y.cls = some m.cls := findClass_of_methodNamed B.named
  have hin : meth.name = "<init>" := ((name_of_methodNamed B.named B.method).1).trans hnm
  have hD := hD0.self (sz := s.heap.size)
  rw [lg_entry_eq]
  have hl := lv_entry ([Value.ref b].map (am_c ad)) (n := nL) (show 1 ≤ nL from hlen)
  have hlocs : am_L ad ((lg_sl ([Value.ref b].map (am_c ad)) ++ List.replicate (nL - (lg_sl ([Value.ref b].map (am_c ad))).length) Slot.unset).toArray) (am_loc [.ref b] nL) := by
    refine ⟨?_, hl.2.1, fun k v hk => ?_, fun k v hk => ?_⟩
    · rw [hl.1]
      simp only [am_loc, List.length_append, List.length_map, List.length_replicate, List.length_cons, List.length_nil]
      omega
    · match k with
      | 0 => cases hk; rfl
      | k + 1 =>
        simp only [am_loc, List.map_cons, List.map_nil, List.cons_append, List.nil_append, List.getElem?_cons_succ, List.getElem?_replicate] at hk
        split at hk <;> cases hk
    · match k with
      | 0 => cases hk; rfl
      | k + 1 =>
        simp only [am_loc, List.map_cons, List.map_nil, List.cons_append, List.nil_append, List.getElem?_cons_succ, List.getElem?_replicate] at hk
        split at hk <;> cases hk
  have hm : c.maxLocals = (am_loc [.ref b] nL).length := by
    rw [hml]
    simp only [am_loc, List.length_append, List.length_map, List.length_replicate, List.length_cons, List.length_nil]
    omega
  exact body (p, l, e, (headSpec (Cond.code y cy nL none :: am_T) (am_rm d mc ms)).room, s, m, ([Value.ref b].map (am_c ad)).toArray, below, meth, c, D, G, ad, va_A (am_w G ad ly M) s.heap.size) ⟨B.exec, B.bytes, hown, fun w hw => hts w (List.mem_cons_of_mem _ hw), hK, fun q h => Or.inr h, B.notSynchronized, hB, B.returns, rfl, rfl⟩ hin s.heap [] _ hP hD va_S.rf hlocs hm
