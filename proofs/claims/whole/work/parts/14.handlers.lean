/-! METHODS WITH HANDLERS: contracts, calls, catching -/
def am_H (l : Launch) (y : MethodName) (cc : ByteArray) (nL : Nat) (hh : List (Nat × Nat × Nat × Nat)) (d mc ms : Nat) (ly : Ly) (M : Mm) (av : List Value) (o : am_O) (M' : Mm) : Prop :=
  ∀ (D : va_G) (G : am_Gt) (ad : Nat → Nat) (sz : Nat), vx_Met l y (.codeWith y cc nL (some .int) hh :: am_T) (am_rm d mc ms) (am_Pc D G ad ly M sz av) (am_Qc D G ad (va_A (am_w G ad ly M) sz) ly M' o) (am_XC D G ad (va_A (am_w G ad ly M) sz) ly M' o) mc ms (va_A (am_w G ad ly M) sz)
def am_ET (X : am_X) (hh : List (Nat × Nat × Nat × Nat)) : Prop := match X with
  | (_, _, _, _, _, _, _, _, _, c, _, _, _, _) => c.exceptionTable.toList = tableOf hh
def am_MH (y : MethodName) (cy : ByteArray) (nL : Nat) (hh : List (Nat × Nat × Nat × Nat)) (n : Nat) : Prop := Cond.codeWith y cy nL (some .int) hh ∈ am_T ∧ Cond.initialized y.cls ∈ am_T ∧ (y.cls ≠ "java/lang/invoke/MethodHandle" ∧ y.cls ≠ "java/lang/invoke/VarHandle") ∧ (parseMethodDescriptor y.desc).map (fun d => d.parameters.length) = some n ∧ Cond.static y ∈ am_T
section AMZ
variable {X : am_X} {l0 : Launch} {R0 : Room} {cc : ByteArray} {own : String} {ret : Option FieldType} {ly : Ly} {M M' : Mm} {ce sl : Nat} {Q : State → Prop} {pc : Nat} {L : List (Option Value)} {st : List Value}
variable {y : MethodName} {cy : ByteArray} {nLy n d mc ms ix ci : Nat} {rety : Option FieldType} {b n1 : Nat} {rs : List Nat} {r : Int32} {hh : List (Nat × Nat × Nat × Nat)}
theorem w_callSH (hC : am_C X l0 R0 cc own ret) (As st : List Value) (hM : am_H l0 y cy nLy hh d mc ms ly M As (.inl (some (.int r))) M') (hI : am_MH y cy nLy hh n) (hlk : Cond.methodLink own ix y ∈ am_T) (hn : As.length = n) (hst : (st.map fun v => v.category).sum ≤ 8) (hR : d + 1 ≤ R0.frames ∧ 8 + (nLy + 11) + 41 * d ≤ R0.locals) (hcs : ce + mc ≤ R0.cells ∧ sl + ms ≤ R0.slots) (hd : decode cc pc = .ok (.invokestatic ix, 3))
    (k : am_V X ly M' (ce + mc) (sl + ms) Q (pc + 3) L (.int r :: st)) : am_V X ly M ce sl Q pc L (As.reverse ++ st) := by
  obtain ⟨p, l, e, R, s, m, args, below, meth, c, D, G, ad, A⟩ := X
  obtain ⟨hx, hb9, hown, hts, hK, hA, hlk9, hB, hr9, rfl, rfl⟩ := hC
  intro H locs ls hP hD hS hL hm
  obtain ⟨i1, i2, i3, i4, i5⟩ := hI
  have hst9 : ((st.map (am_c ad)).map fun v => v.category).sum ≤ 8 := by
    rw [List.map_map]
    have : ((fun v : Value => v.category) ∘ am_c ad) = fun v => v.category := by funext v; exact am_c_cat
    rw [this]; exact hst
  have hws : ∀ w ∈ (Cond.codeWith y cy nLy (some .int) hh :: am_T), ∀ (a' : Array Value) (U : State), s.WarmedH U.vm → w.before a' U = true := by
    intro w hw a' U hW
    rcases List.mem_cons.mp hw with e | hw
    · rw [e]; exact word_at hW (am_good i1) (hts _ i1)
    · exact word_at hW (am_good hw) (hts _ hw)
  have hsig : ∀ sig, parseMethodDescriptor y.desc = some sig → n = sig.parameters.length := by
    intro sig h; rw [h] at i4; simpa using i4.symm
  refine am_back hA hK hD hS hL hm (o := .inl (some (.int r))) (vx_runSX (As := As.map (am_c ad)) (rest := st.map (am_c ad)) (n := n) (nL := ls.size) (Ts := am_T) (hh := hh) ⟨hx, hb9, by rw [hm, hL.1], hown, hts⟩ (hM D G ad H.size) ⟨⟨rfl, rfl, hR.1, hR.2, hws, List.mem_cons_self⟩, hts _ i1, hts _ i2, i3, hsig, hts _ hlk, hts _ i5⟩ ⟨am_blind, am_pre (p := p) (av := As) hA hK hP hD hS hB⟩ rfl (by rw [List.length_map]; exact hn) rfl ?_ (lv_room hst9) hd hcs) (fun v hv => by cases hv; exact ⟨Or.inr ⟨r, rfl⟩, k⟩) (fun E hE => by cases hE)
  show (As.reverse ++ st).map (am_c ad) = _
  rw [List.map_append, List.map_reverse]
/-- the callee throws E; the row x of the table takes it: 'astore; iconst k; ireturn' -/
theorem w_catch (hC : am_C X l0 R0 cc own (some .int)) (hT : am_ET X hh) (As st : List Value) {E : String} {mc0 ms0 : Nat} (pre suf : List (Nat × Nat × Nat × Nat)) (x : Nat × Nat × Nat × Nat) (kv : Int32) (kn : Int) (j : Nat)
    (hM : am_M l0 y cy nLy rety d mc ms ly M (.ref b :: As) (.inr E) M') (hI : am_MV y cy nLy rety n ci) (hlk : Cond.methodLink own ix y ∈ am_T) (hb : ly[b]? = some (ci + 4, n1, rs)) (hn : As.length = n) (hst : (st.map fun v => v.category).sum ≤ 8) (hR : d + 1 ≤ R0.frames ∧ 8 + (nLy + 11) + 41 * d ≤ R0.locals) (hcs : ce + mc ≤ R0.cells ∧ sl + ms ≤ R0.slots) (hd : decode cc pc = .ok (.invokevirtual ix, 3)) (h1 : ce + mc ≤ mc0) (h2 : sl + ms ≤ ms0)
    (hhs : hh = pre ++ x :: suf) (hpass : ∀ z ∈ pre, (z.1 ≤ pc ∧ pc < z.2.1) ∧ z.2.2.2 ≠ 0 ∧ ∃ nm, Cond.classLink own z.2.2.2 nm ∈ am_T ∧ (E, nm) ∈ am_ncs) (hx1 : x.1 ≤ pc) (hx2 : pc < x.2.1) (hx0 : x.2.2.2 ≠ 0) (hlink : Cond.classLink own x.2.2.2 E ∈ am_T) (hcast : E ∈ am_casts)
    (hkv : Int32.ofInt kn = kv) (hj : j < L.length) (ds : (∃ jf : Fin 4, (jf : Nat) = j ∧ decode cc x.2.2.1 = .ok (.astore_n jf, 1) ∧ decode cc (x.2.2.1 + 1) = .ok (.iconst kn, 1) ∧ decode cc (x.2.2.1 + 2) = .ok (.ireturn, 1)) ∨ (decode cc x.2.2.1 = .ok (.astore j, 2) ∧ decode cc (x.2.2.1 + 2) = .ok (.iconst kn, 1) ∧ decode cc (x.2.2.1 + 3) = .ok (.ireturn, 1))) :
    am_V X ly M ce sl (am_Q X ly mc0 ms0 (.inl (some (.int kv))) M') pc L (As.reverse ++ .ref b :: st) := by
  obtain ⟨p, l, e, R, s, m, args, below, meth, c, D, G, ad, A⟩ := X
  obtain ⟨hx, hb9, hown, hts, hK, hA, hlk9, hB, hr9, rfl, rfl⟩ := hC
  intro H locs ls hP hD hS hL hm
  obtain ⟨hI1, hI2, hI3, hI4⟩ := hI
  have hcl : ∃ q, vwCl[ci]? = some q ∧ q.1 = y.cls := by
    cases hq : vwCl[ci]? with
    | none => rw [hq] at hI4; cases hI4
    | some q => rw [hq] at hI4; exact ⟨q, rfl, Option.some.inj hI4⟩
  obtain ⟨q9, hq9, e9⟩ := hcl
  have hst9 : ((st.map (am_c ad)).map fun v => v.category).sum ≤ 8 := by
    rw [List.map_map]
    have : ((fun v : Value => v.category) ∘ am_c ad) = fun v => v.category := by funext v; exact am_c_cat
    rw [this]; exact hst
  refine am_back hA hK hD hS hL hm (o := .inr E) (vx_runV (As := As.map (am_c ad)) (rest := st.map (am_c ad)) (C := y.cls) (b := ad b) (n := n) (nL := ls.size) (Ts := am_T) ⟨hx, hb9, by rw [hm, hL.1], hown, hts⟩ (hM D G ad H.size) ⟨am_cb hts hI1 hlk hR, hts _ hI2, hts _ hI3⟩ ⟨am_blind, ?_, am_pre (p := p) (av := .ref b :: As) hA hK hP hD hS hB⟩ rfl (by rw [List.length_map]; exact hn) rfl ?_ (lv_room hst9) hd hcs) (fun v hv => by cases hv) ?_
  · have := va_recv hK hP hq9 (am_get hb)
    rw [e9] at this
    exact this
  · show (As.reverse ++ .ref b :: st).map (am_c ad) = _
    rw [List.map_append, List.map_reverse]; rfl
  · intro E9 hE q ce9 H1 locs1 hP1 hD1 hS1 hce hcv hcl
    cases hE
    have hsp : c.exceptionTable.toList = tableOf pre ++ (⟨x.1, x.2.1, x.2.2.1, x.2.2.2⟩ : ExceptionTableEntry) :: tableOf suf := by
      rw [show c.exceptionTable.toList = tableOf hh from hT, hhs]
      simp [tableOf]
    refine ct_catch hown (tableOf pre) ⟨x.1, x.2.1, x.2.2.1, x.2.2.2⟩ (tableOf suf) hsp (fun z hz => ?_) (by simp [covers, hx1, hx2]) hx0 (hts _ hlink) ((hB.2.2.2.2.2.1 _ hcast).use rfl) hce hcv hcl ?_
    · obtain ⟨z0, h0, rfl⟩ := List.mem_map.mp hz
      obtain ⟨⟨g1, g2⟩, g3, nm, g4, g5⟩ := hpass z0 h0
      exact ⟨by simp [covers, g1, g2], g3, nm, hts _ g4, hB.2.2.2.2.2.2.1 _ g5⟩
    · have hfin : ∀ (ls1 : Array Slot) (pc1 : Nat), decode cc pc1 = .ok (.ireturn, 1) → W p l e R s m args below meth c H1 locs1 (ce + mc) (sl + ms) (am_Q (p, l, e, R, s, m, args, below, meth, c, D, G, ad, A) ly mc0 ms0 (.inl (some (.int kv))) M') (F0 m pc1 ls1 [.int kv]) := by
        intro ls1 pc1 hdr
        refine W.widen h1 h2 (vx_ret ?_)
        exact W.iret hx hb9 hr9 (fun t ht hW => ⟨⟨_, rfl, rfl, am_wd_of hP1 hD1 hK ht hW.alike⟩, hS1.F ht⟩) hS1.2.2 hdr hlk9
      rcases ds with ⟨jf, rfl, d1, d2, d3⟩ | ⟨d1, d2, d3⟩
      · exact lv_astore_n hx hb9 d1 rfl hL.has hj rfl (fun ls1 _ => lv_iconst hx hb9 d2 hkv (hfin ls1 _ d3))
      · exact lv_astore hx hb9 d1 hL.has hj rfl (fun ls1 _ => lv_iconst hx hb9 d2 hkv (hfin ls1 _ d3))
end AMZ
theorem am_introH {l : Launch} {y : MethodName} {cy : ByteArray} {nL : Nat} {hh : List (Nat × Nat × Nat × Nat)} {d mc ms : Nat} {ly : Ly} {M : Mm} {av : List Value} {o : am_O} {M' : Mm} (hy : plainName y.cls = true) (hcat : ∀ v ∈ av, v.category = 1) (hlen : av.length ≤ nL)
    (body : ∀ X : am_X, am_C X l (am_rm d mc ms) cy y.cls (some .int) → am_ET X hh → am_V X ly M 0 0 (am_Q X ly mc ms o M') 0 (am_loc av nL) []) : am_H l y cy nL hh d mc ms ly M av o M' := by
  intro D G ad sz
  refine vx_ofWH (cc := cy) (maxL := nL) (ret := some .int) (hh := hh) hy rfl ?_
  intro p e s m args below meth c s₁ B hml hv
  obtain ⟨rfl, hsz, hP, hK, hD0, hB⟩ := hv
  subst hsz
  have hts := atoms_spec (ws := Cond.codeWith y cy nL (some .int) hh :: am_T) B.pre
  have hown : s.vm.findClass y.cls = some m.cls := findClass_of_methodNamed B.named
  have htb := vx_table (x := y) B (hts _ List.mem_cons_self)
  have hD := hD0.self (sz := s.heap.size)
  have hsl : lg_sl (av.map (am_c ad)) = (av.map (am_c ad)).map Slot.val := by
    have : ∀ (l : List Value), (∀ v ∈ l, v.category = 1) → lg_sl (l.map (am_c ad)) = (l.map (am_c ad)).map Slot.val := by
      intro l
      induction l with
      | nil => intro _; rfl
      | cons a l ih =>
        intro h
        have h1 : (am_c ad a).category = 1 := am_c_cat.trans (h a List.mem_cons_self)
        have h2 := ih (fun v hv => h v (List.mem_cons_of_mem _ hv))
        simp only [lg_sl, List.map_cons, List.flatMap_cons] at h2 ⊢
        rw [h2, if_neg (by omega)]
        rfl
    exact this av hcat
  have hll : (lg_sl (av.map (am_c ad))).length ≤ nL := by rw [hsl]; simpa using hlen
  rw [lg_entry_eq]
  have hl := lv_entry (av.map (am_c ad)) (n := nL) hll
  have hlocs : am_L ad ((lg_sl (av.map (am_c ad)) ++ List.replicate (nL - (lg_sl (av.map (am_c ad))).length) Slot.unset).toArray) (am_loc av nL) := by
    refine ⟨?_, hl.2.1, fun k v hk => ?_, fun k v hk => ?_⟩
    · rw [hl.1]
      simp only [am_loc, List.length_append, List.length_map, List.length_replicate]
      omega
    · rw [hsl]
      simp only [am_loc, List.getElem?_append, List.length_map] at hk
      by_cases hk2 : k < av.length
      · rw [if_pos hk2, List.getElem?_map] at hk
        simp only [Option.map_eq_some_iff] at hk
        obtain ⟨w, h1, h2⟩ := hk
        cases h2
        rw [List.getElem?_toArray, List.getElem?_append_left (by simpa using hk2), List.getElem?_map, List.getElem?_map, h1]; rfl
      · rw [if_neg hk2, List.getElem?_replicate] at hk
        split at hk <;> cases hk
    · simp only [am_loc, List.getElem?_append, List.length_map] at hk
      by_cases hk2 : k < av.length
      · rw [if_pos hk2, List.getElem?_map] at hk
        simp only [Option.map_eq_some_iff] at hk
        obtain ⟨w, h1, h2⟩ := hk
        cases h2
        exact hcat _ (List.mem_of_getElem? h1)
      · rw [if_neg hk2, List.getElem?_replicate] at hk
        split at hk <;> cases hk
  have hm : c.maxLocals = (am_loc av nL).length := by
    rw [hml]
    simp only [am_loc, List.length_append, List.length_map, List.length_replicate]
    omega
  exact body (p, l, e, (headSpec (Cond.codeWith y cy nL (some .int) hh :: am_T) (am_rm d mc ms)).room, s, m, (av.map (am_c ad)).toArray, below, meth, c, D, G, ad, va_A (am_w G ad ly M) s.heap.size) ⟨B.exec, B.bytes, hown, fun w hw => hts w (List.mem_cons_of_mem _ hw), hK, fun q h => Or.inr h, B.notSynchronized, hB, B.returns, rfl, rfl⟩ htb s.heap [] _ hP hD va_S.rf hlocs hm
