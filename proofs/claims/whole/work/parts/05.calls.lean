/-! CALLS, over contracts; a method's contract out of its body -/
theorem am_D_any {G : am_Gt} {ad : Nat → Nat} {A A1 : Nat → Prop} {ly : Ly} {M M1 : Mm} (h : va_D A (am_w G ad ly M)) (hA : ∀ a, a < ly.length → A (ad a) → A1 (ad a)) : va_D A1 (am_w G ad ly M1) := by
  have g : ∀ (M : Mm) (i : Nat) (q : Nat × va_E), (am_w G ad ly M)[i]? = some q → q.1 = ad i ∧ i < ly.length := by
    intro M i q hq
    simp only [am_w, List.getElem?_mapIdx, Option.map_eq_some_iff] at hq
    obtain ⟨x, hx, rfl⟩ := hq
    refine ⟨rfl, ?_⟩
    rcases Nat.lt_or_ge i ly.length with z | z
    · exact z
    · rw [List.getElem?_eq_none z] at hx; cases hx
  have g2 : ∀ i, i < ly.length → (am_w G ad ly M)[i]? = some (ad i, am_e G ad (ly.getD i (0, 0, [])) (M i)) := by
    intro i hi
    have : ly[i]? = some (ly.getD i (0, 0, [])) := by rw [List.getD_eq_getElem?_getD, List.getElem?_eq_getElem hi]; rfl
    exact am_get this
  refine ⟨fun i j p q hp hq e => ?_, fun k q hq => ?_⟩
  · obtain ⟨e1, l1⟩ := g M1 i p hp
    obtain ⟨e2, l2⟩ := g M1 j q hq
    exact h.1 i j _ _ (g2 i l1) (g2 j l2) (by show ad i = ad j; rw [← e1, ← e2]; exact e)
  · obtain ⟨e1, l1⟩ := g M1 k q hq
    rw [e1]
    exact hA k l1 (h.2 k _ (g2 k l1))
theorem am_A_in {G : am_Gt} {ad : Nat → Nat} {ly : Ly} {M : Mm} {a sz : Nat} (h : a < ly.length) : va_A (am_w G ad ly M) sz (ad a) := by
  have : ly[a]? = some (ly.getD a (0, 0, [])) := by rw [List.getD_eq_getElem?_getD, List.getElem?_eq_getElem h]; rfl
  exact Or.inl ⟨a, _, am_get this⟩
theorem am_A_sub {G : am_Gt} {ad : Nat → Nat} {A : Nat → Prop} {ly : Ly} {M : Mm} {s : State} {H : Heap} {locs : List Loc} (hD : va_D A (am_w G ad ly M)) (hS : va_S A s.heap H locs) (hA : ∀ q, s.heap.size ≤ q → A q) : ∀ q, va_A (am_w G ad ly M) H.size q → A q := by
  intro q h
  rcases h with ⟨k, e, h⟩ | h
  · exact hD.2 k (q, e) h
  · exact hA q (Nat.le_trans hS.1 h)
def am_MI (y : MethodName) (cy : ByteArray) (nL : Nat) (ret : Option FieldType) (n : Nat) : Prop := Cond.code y cy nL ret ∈ am_T ∧ Cond.initialized y.cls ∈ am_T ∧ (y.cls ≠ "java/lang/invoke/MethodHandle" ∧ y.cls ≠ "java/lang/invoke/VarHandle") ∧ (parseMethodDescriptor y.desc).map (fun d => d.parameters.length) = some n
def am_MV (y : MethodName) (cy : ByteArray) (nL : Nat) (ret : Option FieldType) (n : Nat) (ci : Nat) : Prop := am_MI y cy nL ret n ∧ Cond.instanceMethod y ∈ am_T ∧ Cond.selects y.cls y y ∈ am_T ∧ (vwCl[ci]?).map (fun q => q.1) = some y.cls
def am_MS (y : MethodName) (cy : ByteArray) (nL : Nat) (ret : Option FieldType) (n : Nat) : Prop := am_MI y cy nL ret n ∧ Cond.static y ∈ am_T
theorem am_cb {R : Room} {s : State} {args : Array Value} {own : String} {ix : Nat} {y : MethodName} {cy : ByteArray} {nL n d mc ms : Nat} {ret : Option FieldType} (hts : ∀ w ∈ am_T, w.before args s = true) (hI : am_MI y cy nL ret n) (hlk : Cond.methodLink own ix y ∈ am_T) (hR : d + 1 ≤ R.frames ∧ 8 + (nL + 11) + 41 * d ≤ R.locals) : CallB R s args own ix y cy nL ret (.code y cy nL ret :: am_T) (am_rm d mc ms) mc ms n := by
  obtain ⟨h1, h2, h3, h4⟩ := hI
  refine ⟨rfl, rfl, hR.1, hR.2, fun w hw a' U hW => ?_, List.mem_cons_self, hts _ h1, hts _ h2, h3, fun sig h => ?_, hts _ hlk⟩
  · rcases List.mem_cons.mp hw with e | hw
    · rw [e]; exact word_at hW (am_good h1) (hts _ h1)
    · exact word_at hW (am_good hw) (hts _ hw)
  · rw [h] at h4; simpa using h4.symm
theorem am_blind {D : va_G} {G : am_Gt} {ad : Nat → Nat} {ly : Ly} {M : Mm} {sz : Nat} {av : List Value} : FrameBlind (am_Pc D G ad ly M sz av) := by
  intro a U g mk q
  obtain ⟨q0, q1, qP, qK, qD, qB⟩ := q
  exact ⟨q0, q1, qP, va_K.moved (u := U) (U := U.calling g mk a) (Vm.Alike.refl U.vm) qK, qD, am_B.blind rfl rfl qB⟩
section AMC
variable {X : am_X} {l0 : Launch} {R0 : Room} {cc : ByteArray} {own : String} {ret : Option FieldType} {ly : Ly} {M M' : Mm} {ce sl : Nat} {Q : State → Prop} {pc : Nat} {L : List (Option Value)} {st : List Value}
variable {y : MethodName} {cy : ByteArray} {nLy n d mc ms ix ci : Nat} {rety : Option FieldType} {b n1 : Nat} {rs : List Nat} {As : List Value}
def am_NT (X : am_X) : Prop := match X with
  | (_, _, _, _, _, _, _, _, _, c, _, _, _, _) => ∀ x ∈ c.exceptionTable.toList, False
/-- what stands behind a call: the machine's two ways out of it -/
theorem am_back {p : Program} {l : Launch} {e : Env} {R : Room} {s : State} {m : MethodId} {args : Array Value} {below : List Frame} {meth : Method} {c : Code} {D : va_G} {G : am_Gt} {ad : Nat → Nat} {A : Nat → Prop} {H : Heap} {locs : List Loc} {ls : Array Slot} {st0 : List Value} {a : Array Value} {o : am_O}
    (hA : ∀ q, s.heap.size ≤ q → A q) (hK : va_K D vwCl (am_tys G) s) (hD : va_D A (am_w G ad ly M)) (hS : va_S A s.heap H locs) (hL : am_L ad ls L) (hm : c.maxLocals = L.length)
    (hr : vx_Run p l e R s m args below meth c H locs ce sl mc ms (F0 m pc ls st0) (st.map (am_c ad)) (am_Qc D G ad (va_A (am_w G ad ly M) H.size) ly M' o a) (am_XC D G ad (va_A (am_w G ad ly M) H.size) ly M' o) (va_A (am_w G ad ly M) H.size))
    (kr : ∀ v, o = .inl v → (v = none ∨ ∃ r, v = some (.int r)) ∧ am_V (p, l, e, R, s, m, args, below, meth, c, D, G, ad, A) ly M' (ce + mc) (sl + ms) Q (pc + 3) L (v.toList ++ st))
    (kx : ∀ E, o = .inr E → ∀ (q : Addr) (ce9 : Cell) (H1 : Heap) (locs1 : List Loc), va_P D vwCl (am_w G ad ly M') H1 → va_D A (am_w G ad ly M') → va_S A s.heap H1 locs1 → H1[q]? = some ce9 → ce9.vm = .none → s.vm.findClass E = some ce9.cls → vx_W p l e R s m args below meth c H1 locs1 (ce + mc) (sl + ms) Q (F0 m pc ls (st.map (am_c ad))) q) :
    W p l e R s m args below meth c H locs ce sl Q (F0 m pc ls st0) := by
  have hF := am_A_sub hD hS hA
  intro T hT Z
  rcases hr T hT Z with ⟨v, st₀, t, T', L9, h0, Z', hL9, e1, e2, ⟨⟨v', ho, hv, hPw, hKw, hDw⟩, hFr⟩, stp⟩ | ⟨q, st₀, t, T', L9, E, ce9, h0, Z', hL9, e1, e2, ⟨ho, ⟨hPw, hKw, hDw⟩, hFr⟩, hce, hcv, hcl, stp⟩
  · cases hv
    obtain ⟨k1, k2, k3⟩ := vx_keep h0 e1 hS (fun q _ h => hF q h) hF hL9 hFr
    obtain ⟨hv9, kk⟩ := kr v ho
    obtain ⟨t2, a1, b1⟩ := kk T'.heap (locs ++ L9) ls (by rw [e1]; exact hPw) (am_D_any hD (fun _ _ h => h)) k3 hL hm T' rfl Z'
    refine ⟨t2, stp t2 ?_, b1⟩
    have e9 : (v.toList ++ st).map (am_c ad) = v.toList ++ st.map (am_c ad) := by
      rcases hv9 with e | ⟨r, e⟩
      · rw [e]; rfl
      · rw [e]; rfl
    rw [e9] at a1
    exact a1
  · obtain ⟨k1, k2, k3⟩ := vx_keep h0 e1 hS (fun q _ h => hF q h) hF hL9 hFr
    obtain ⟨t2, a1, b1⟩ := kx E ho q ce9 T'.heap (locs ++ L9) (by rw [e1]; exact hPw) (am_D_any hD (fun _ _ h => h)) k3 (by rw [e1]; exact hce) hcv hcl T' rfl Z'
    exact ⟨t2, stp.trans a1, b1⟩
theorem am_pre {p : Program} {s : State} {D : va_G} {G : am_Gt} {ad : Nat → Nat} {A : Nat → Prop} {H : Heap} {locs : List Loc} {av : List Value} (hA : ∀ q, s.heap.size ≤ q → A q) (hK : va_K D vwCl (am_tys G) s) (hP : va_P D vwCl (am_w G ad ly M) H) (hD : va_D A (am_w G ad ly M)) (hS : va_S A s.heap H locs) (hB : am_B ad A s s.heap) :
    ∀ U : State, U.heap = H → s.WarmedH U.vm → am_Pc D G ad ly M H.size av (av.map (am_c ad)).toArray U := by
  intro U hU hW
  refine ⟨rfl, by rw [hU], by rw [hU]; exact hP, va_K.moved hW.alike hK, hD.weaken (fun _ _ _ _ => trivial), ?_⟩
  exact am_B.call hB hS (am_A_sub hD hS hA) hU hW
theorem v_callV (hC : am_C X l0 R0 cc own ret) (o : am_O) (hM : am_M l0 y cy nLy rety d mc ms ly M (.ref b :: As) o M') (hI : am_MV y cy nLy rety n ci) (hlk : Cond.methodLink own ix y ∈ am_T) (hb : ly[b]? = some (ci + 4, n1, rs)) (hn : As.length = n) (hst : (st.map fun v => v.category).sum ≤ 8) (hR : d + 1 ≤ R0.frames ∧ 8 + (nLy + 11) + 41 * d ≤ R0.locals) (hcs : ce + mc ≤ R0.cells ∧ sl + ms ≤ R0.slots) (hd : decode cc pc = .ok (.invokevirtual ix, 3))
    (kr : ∀ v, o = .inl v → (v = none ∨ ∃ r, v = some (.int r)) ∧ am_V X ly M' (ce + mc) (sl + ms) Q (pc + 3) L (v.toList ++ st))
    (kx : ∀ E, o = .inr E → am_NT X ∧ ∃ mc0 ms0 : Nat, ce + mc ≤ mc0 ∧ sl + ms ≤ ms0 ∧ Q = am_Q X ly mc0 ms0 (.inr E) M') : am_V X ly M ce sl Q pc L (As.reverse ++ .ref b :: st) := by
  obtain ⟨p, l, e, R, s, m, args, below, meth, c, D, G, ad, A⟩ := X
  obtain ⟨hx, hb9, hown, hts, hK, hA, hlk9, hB, hr9, rfl, rfl⟩ := hC
  intro H locs ls hP hD hS hL hm
  obtain ⟨hI1, hI2, hI3, hI4⟩ := hI
  have hcl : ∃ q, vwCl[ci]? = some q ∧ q.1 = y.cls := by
    cases hq : vwCl[ci]? with
    | none => rw [hq] at hI4; cases hI4
    | some q => rw [hq] at hI4; exact ⟨q, rfl, Option.some.inj hI4⟩
  obtain ⟨q9, hq9, e9⟩ := hcl
  have hst9 : ((st.map (am_c ad)).map fun v => v.category).sum ≤ 8 := by
    rw [List.map_map]
    have : ((fun v : Value => v.category) ∘ am_c ad) = fun v => v.category := by funext v; exact am_c_cat
    rw [this]; exact hst
  refine am_back hA hK hD hS hL hm (o := o) (vx_runV (As := As.map (am_c ad)) (rest := st.map (am_c ad)) (C := y.cls) (b := ad b) (n := n) (nL := ls.size) (Ts := am_T) ⟨hx, hb9, by rw [hm, hL.1], hown, hts⟩ (hM D G ad H.size) ⟨am_cb hts hI1 hlk hR, hts _ hI2, hts _ hI3⟩ ⟨am_blind, ?_, am_pre (p := p) (av := .ref b :: As) hA hK hP hD hS hB⟩ rfl (by rw [List.length_map]; exact hn) rfl ?_ (lv_room hst9) hd hcs) kr ?_
  · have := va_recv hK hP hq9 (am_get hb)
    rw [e9] at this
    exact this
  · show (As.reverse ++ .ref b :: st).map (am_c ad) = _
    rw [List.map_append, List.map_reverse]; rfl
  · intro E hE q ce9 H1 locs1 hP1 hD1 hS1 hce hcv hcl
    obtain ⟨hnt, mc0, ms0, g1, g2, rfl⟩ := kx E hE
    exact vx_out (fun x hx => (hnt x hx).elim) hlk9 hce hcv hcl (fun t ht hal => ⟨rfl, am_wd_of hP1 hD1 hK ht hal, hS1.F ht⟩) hS1.2.2 g1 g2
theorem v_callS (hC : am_C X l0 R0 cc own ret) (o : am_O) (hM : am_M l0 y cy nLy rety d mc ms ly M As o M') (hI : am_MS y cy nLy rety n) (hlk : Cond.methodLink own ix y ∈ am_T) (hn : As.length = n) (hst : (st.map fun v => v.category).sum ≤ 8) (hR : d + 1 ≤ R0.frames ∧ 8 + (nLy + 11) + 41 * d ≤ R0.locals) (hcs : ce + mc ≤ R0.cells ∧ sl + ms ≤ R0.slots) (hd : decode cc pc = .ok (.invokestatic ix, 3))
    (kr : ∀ v, o = .inl v → (v = none ∨ ∃ r, v = some (.int r)) ∧ am_V X ly M' (ce + mc) (sl + ms) Q (pc + 3) L (v.toList ++ st))
    (kx : ∀ E, o = .inr E → am_NT X ∧ ∃ mc0 ms0 : Nat, ce + mc ≤ mc0 ∧ sl + ms ≤ ms0 ∧ Q = am_Q X ly mc0 ms0 (.inr E) M') : am_V X ly M ce sl Q pc L (As.reverse ++ st) := by
  obtain ⟨p, l, e, R, s, m, args, below, meth, c, D, G, ad, A⟩ := X
  obtain ⟨hx, hb9, hown, hts, hK, hA, hlk9, hB, hr9, rfl, rfl⟩ := hC
  intro H locs ls hP hD hS hL hm
  obtain ⟨hI1, hI2⟩ := hI
  have hst9 : ((st.map (am_c ad)).map fun v => v.category).sum ≤ 8 := by
    rw [List.map_map]
    have : ((fun v : Value => v.category) ∘ am_c ad) = fun v => v.category := by funext v; exact am_c_cat
    rw [this]; exact hst
  refine am_back hA hK hD hS hL hm (o := o) (vx_runS (As := As.map (am_c ad)) (rest := st.map (am_c ad)) (n := n) (nL := ls.size) (Ts := am_T) ⟨hx, hb9, by rw [hm, hL.1], hown, hts⟩ (hM D G ad H.size) ⟨am_cb hts hI1 hlk hR, hts _ hI2⟩ ⟨am_blind, am_pre (p := p) (av := As) hA hK hP hD hS hB⟩ rfl (by rw [List.length_map]; exact hn) rfl ?_ (lv_room hst9) hd hcs) kr ?_
  · show (As.reverse ++ st).map (am_c ad) = _
    rw [List.map_append, List.map_reverse]
  · intro E hE q ce9 H1 locs1 hP1 hD1 hS1 hce hcv hcl
    obtain ⟨hnt, mc0, ms0, g1, g2, rfl⟩ := kx E hE
    exact vx_out (fun x hx => (hnt x hx).elim) hlk9 hce hcv hcl (fun t ht hal => ⟨rfl, am_wd_of hP1 hD1 hK ht hal, hS1.F ht⟩) hS1.2.2 g1 g2
end AMC
/-- a method's contract out of its body -/
theorem am_intro {l : Launch} {y : MethodName} {cy : ByteArray} {nL : Nat} {ret : Option FieldType} {d mc ms : Nat} {ly : Ly} {M : Mm} {av : List Value} {o : am_O} {M' : Mm} (hy : plainName y.cls = true) (hcat : ∀ v ∈ av, v.category = 1) (hlen : av.length ≤ nL)
    (body : ∀ X : am_X, am_C X l (am_rm d mc ms) cy y.cls ret → am_NT X → am_V X ly M 0 0 (am_Q X ly mc ms o M') 0 (am_loc av nL) []) : am_M l y cy nL ret d mc ms ly M av o M' := by
  intro D G ad sz
  refine vx_ofW (cc := cy) (maxL := nL) (ret := ret) hy rfl ?_
  intro p e s m args below meth c s₁ B hml hnt hv
  obtain ⟨rfl, hsz, hP, hK, hD0, hB⟩ := hv
  subst hsz
  have hts := atoms_spec (ws := Cond.code y cy nL ret :: am_T) B.pre
  have hown : s.vm.findClass y.cls = some m.cls := findClass_of_methodNamed B.named
  have hD := hD0.self (sz := s.heap.size)
  have hsl : lg_sl (av.map (am_c ad)) = (av.map (am_c ad)).map Slot.val := by
    have : ∀ (l : List Value), (∀ v ∈ l, v.category = 1) → lg_sl (l.map (am_c ad)) = (l.map (am_c ad)).map Slot.val := by
      intro l
      induction l with
      | nil => intro _; rfl
      | cons a l ih =>
        intro h
        have h1 : (am_c ad a).category = 1 := am_c_cat.trans (h a List.mem_cons_self)
        have h2 := ih (fun v hv => h v (List.mem_cons_of_mem _ hv))
        simp only [lg_sl, List.map_cons, List.flatMap_cons] at h2 ⊢
        rw [h2, if_neg (by omega)]
        rfl
    exact this av hcat
  have hll : (lg_sl (av.map (am_c ad))).length ≤ nL := by rw [hsl]; simpa using hlen
  rw [lg_entry_eq]
  have hl := lv_entry (av.map (am_c ad)) (n := nL) hll
  have hlocs : am_L ad ((lg_sl (av.map (am_c ad)) ++ List.replicate (nL - (lg_sl (av.map (am_c ad))).length) Slot.unset).toArray) (am_loc av nL) := by
    refine ⟨?_, hl.2.1, fun k v hk => ?_, fun k v hk => ?_⟩
    · rw [hl.1]
      simp only [am_loc, List.length_append, List.length_map, List.length_replicate]
      omega
    · rw [hsl]
      simp only [am_loc, List.getElem?_append, List.length_map] at hk
      by_cases hk2 : k < av.length
      · rw [if_pos hk2, List.getElem?_map] at hk
        simp only [Option.map_eq_some_iff] at hk
        obtain ⟨w, h1, h2⟩ := hk
        cases h2
        rw [List.getElem?_toArray, List.getElem?_append_left (by simpa using hk2), List.getElem?_map, List.getElem?_map, h1]; rfl
      · rw [if_neg hk2, List.getElem?_replicate] at hk
        split at hk <;> cases hk
    · simp only [am_loc, List.getElem?_append, List.length_map] at hk
      by_cases hk2 : k < av.length
      · rw [if_pos hk2, List.getElem?_map] at hk
        simp only [Option.map_eq_some_iff] at hk
        obtain ⟨w, h1, h2⟩ := hk
        cases h2
        exact hcat _ (List.mem_of_getElem? h1)
      · rw [if_neg hk2, List.getElem?_replicate] at hk
        split at hk <;> cases hk
  have hm : c.maxLocals = (am_loc av nL).length := by
    rw [hml]
    simp only [am_loc, List.length_append, List.length_map, List.length_replicate]
    omega
  exact body (p, l, e, (headSpec (Cond.code y cy nL ret :: am_T) (am_rm d mc ms)).room, s, m, (av.map (am_c ad)).toArray, below, meth, c, D, G, ad, va_A (am_w G ad ly M) s.heap.size) ⟨B.exec, B.bytes, hown, fun w hw => hts w (List.mem_cons_of_mem _ hw), hK, fun q h => Or.inr h, B.notSynchronized, hB, B.returns, rfl, rfl⟩ hnt s.heap [] _ hP hD va_S.rf hlocs hm
