section AMG3
variable {X : am_X} {l0 : Launch} {R0 : Room} {cc : ByteArray} {own : String} {ret : Option FieldType} {ly : Ly} {M M1 M' : Mm} {ce sl : Nat} {Q : State → Prop} {pc : Nat} {L L1 : List (Option Value)} {st : List Value}
/-- new E("text"), thrown; nobody catches it here -/
theorem w_throwW (hC : am_C X l0 R0 cc own ret) (hnt : am_NT X) (hl : l0.stackTraces = false) {cls text : String} (names : List String) {ik is ic i9 mc0 ms0 : Nat} (hcls : Bundle.fit cls = true) (hnames : ∀ n ∈ names, Bundle.fit n = true) (hk : Cond.classLink own ik cls ∈ am_T) (hini : Cond.initialized cls ∈ am_T) (hstr : (own, is, text, i9) ∈ am_strs) (hat1 : ∀ w ∈ (vx_atS own ic cls names).filter goodWord, w ∈ am_T) (hat2 : ∀ w ∈ (vx_atS own ic cls names).filter (fun w => !goodWord w), w ∈ Cond.castable cls cls :: am_decls.map Cond.declares) (hcast : cls ∈ am_casts) (hgood : ∀ w ∈ Cond.classLink own ik cls :: Cond.initialized cls :: vx_atS own ic cls names, vx_ot w = true)
    (d0 : decode cc pc = .ok (.new ik, 3)) (d3 : decode cc (pc + 3) = .ok (.dup, 1)) (d4 : decode cc (pc + 4) = .ok (.ldc_w is, 3)) (d7 : decode cc (pc + 7) = .ok (.invokespecial ic, 3)) (d10 : decode cc (pc + 10) = .ok (.athrow, 1))
    (hRf : names.length + 3 < R0.frames) (hRl : (st.map fun v => v.category).sum + (13 * (names.length + 1) + 43) ≤ R0.locals) (hRc : ce + 1 ≤ R0.cells) (hRs : sl + 6 ≤ R0.slots) (h1 : ce + 1 ≤ mc0) (h2 : sl + 6 ≤ ms0) : am_V X ly M ce sl (am_Q X ly mc0 ms0 (.inr cls) M) pc L st := by
  obtain ⟨p, l, e, R, s, m, args, below, meth, c, D, G, ad, A⟩ := X
  obtain ⟨hx, hb, hown, hts, hK, hA, hlk, hB, hr9, rfl, rfl⟩ := hC
  intro H locs ls hP hD hS hL hm
  have hst9 : ((st.map (am_c ad)).map fun v => v.category).sum = (st.map fun v => v.category).sum := by
    rw [List.map_map]
    have : ((fun v : Value => v.category) ∘ am_c ad) = fun v => v.category := by funext v; exact am_c_cat
    rw [this]
  refine vx_throwSW hx hb hl hown hcls hnames (hts _ hk) (hts _ hini) (hB.2.1 _ hstr) (vx_hat (fun w hw => hts _ (hat1 w hw)) hat2 (fun w hw => ?_)) hgood hB.2.2.1.1 hB.2.2.1.2 hS (by rw [hm, hL.1]) d0 d3 d4 d7 d10 (fun x hx => (hnt x hx).elim) hRf (by rw [hst9]; exact hRl) hRc hRs hlk (fun t hal hsz hk9 => ?_) hS.2.2 h1 h2
  · rcases List.mem_cons.mp hw with h9 | h9
    · subst h9; exact (hB.2.2.2.2.2.1 _ hcast).use rfl
    · obtain ⟨q9, h8, rfl⟩ := List.mem_map.mp h9
      exact (hB.2.2.2.2.2.2.2.2.2 _ h8).use rfl
  · have hP9 : va_P D vwCl (am_w G ad ly M) t.heap := fun k q hq => (hP k q hq).kept (hk9 _ (hP k q hq).lt)
    exact ⟨rfl, am_wd_of hP9 hD hK rfl hal, Nat.le_trans hS.1 hsz, fun q h1 h2 => by rw [hk9 q (Nat.lt_of_lt_of_le h1 hS.1)]; exact hS.2.1 q h1 h2⟩
theorem w_throw (hC : am_C X l0 R0 cc own ret) (hnt : am_NT X) (hl : l0.stackTraces = false) {cls text : String} (names : List String) {ik is ic i9 mc0 ms0 : Nat} (hcls : Bundle.fit cls = true) (hnames : ∀ n ∈ names, Bundle.fit n = true) (hk : Cond.classLink own ik cls ∈ am_T) (hini : Cond.initialized cls ∈ am_T) (hstr : (own, is, text, i9) ∈ am_strs) (hat1 : ∀ w ∈ (vx_atS own ic cls names).filter goodWord, w ∈ am_T) (hat2 : ∀ w ∈ (vx_atS own ic cls names).filter (fun w => !goodWord w), w ∈ Cond.castable cls cls :: am_decls.map Cond.declares) (hcast : cls ∈ am_casts) (hgood : ∀ w ∈ Cond.classLink own ik cls :: Cond.initialized cls :: vx_atS own ic cls names, vx_ot w = true)
    (d0 : decode cc pc = .ok (.new ik, 3)) (d3 : decode cc (pc + 3) = .ok (.dup, 1)) (d4 : decode cc (pc + 4) = .ok (.ldc is, 2)) (d7 : decode cc (pc + 6) = .ok (.invokespecial ic, 3)) (d10 : decode cc (pc + 9) = .ok (.athrow, 1))
    (hRf : names.length + 3 < R0.frames) (hRl : (st.map fun v => v.category).sum + (13 * (names.length + 1) + 43) ≤ R0.locals) (hRc : ce + 1 ≤ R0.cells) (hRs : sl + 6 ≤ R0.slots) (h1 : ce + 1 ≤ mc0) (h2 : sl + 6 ≤ ms0) : am_V X ly M ce sl (am_Q X ly mc0 ms0 (.inr cls) M) pc L st := by
  obtain ⟨p, l, e, R, s, m, args, below, meth, c, D, G, ad, A⟩ := X
  obtain ⟨hx, hb, hown, hts, hK, hA, hlk, hB, hr9, rfl, rfl⟩ := hC
  intro H locs ls hP hD hS hL hm
  have hst9 : ((st.map (am_c ad)).map fun v => v.category).sum = (st.map fun v => v.category).sum := by
    rw [List.map_map]
    have : ((fun v : Value => v.category) ∘ am_c ad) = fun v => v.category := by funext v; exact am_c_cat
    rw [this]
  refine vx_throwS hx hb hl hown hcls hnames (hts _ hk) (hts _ hini) (hB.2.1 _ hstr) (vx_hat (fun w hw => hts _ (hat1 w hw)) hat2 (fun w hw => ?_)) hgood hB.2.2.1.1 hB.2.2.1.2 hS (by rw [hm, hL.1]) d0 d3 d4 d7 d10 (fun x hx => (hnt x hx).elim) hRf (by rw [hst9]; exact hRl) hRc hRs hlk (fun t hal hsz hk9 => ?_) hS.2.2 h1 h2
  · rcases List.mem_cons.mp hw with h9 | h9
    · subst h9; exact (hB.2.2.2.2.2.1 _ hcast).use rfl
    · obtain ⟨q9, h8, rfl⟩ := List.mem_map.mp h9
      exact (hB.2.2.2.2.2.2.2.2.2 _ h8).use rfl
  · have hP9 : va_P D vwCl (am_w G ad ly M) t.heap := fun k q hq => (hP k q hq).kept (hk9 _ (hP k q hq).lt)
    exact ⟨rfl, am_wd_of hP9 hD hK rfl hal, Nat.le_trans hS.1 hsz, fun q h1 h2 => by rw [hk9 q (Nat.lt_of_lt_of_le h1 hS.1)]; exact hS.2.1 q h1 h2⟩
end AMG3
