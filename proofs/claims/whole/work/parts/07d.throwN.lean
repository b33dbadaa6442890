/-! throw new NoSuchElementException("there is no such what") in SaltTable.needsWhat. The link in its constructor stands at 13, not at 7 as in the other throwables, so no given law fits it. -/
def tn_C : String := "java/util/NoSuchElementException"
def tn_R : String := "java/lang/RuntimeException"
def tn_E : String := "java/lang/Exception"
/-- what is asked of a throwable's cell and of the call of its constructor: the library's list without the 33 words of Throwable and of the links -/
def tn_tl : List Cond := (Bundle.ownAtoms RX10 422 tn_C []).drop 33
/-- the words of this throw: those, its three links', Throwable's -/
def tn_w4 : List Cond := Bundle.throwableSAtoms ++ Bundle.throwableAtoms
def tn_w3 : List Cond := Bundle.passSAtoms tn_E Bundle.tN 7 Bundle.six ++ tn_w4
def tn_w2 : List Cond := Bundle.passSAtoms tn_R tn_E 7 Bundle.six ++ tn_w3
def tn_w1 : List Cond := Bundle.passSAtoms tn_C tn_R 13 prog_32_method_4_code ++ tn_w2
def tn_ws : List Cond := tn_tl ++ tn_w1
section TN
variable {l : Launch} {e : Env} {s : State} {args : Array Value}
/-- nobody overrides: the method itself is selected -/
theorem tn_sel {y : MethodName} {q : ClassId} {f : MethodId} (hA : l.admits e) (hq : s.vm.findClass tn_C = some q) (hy : s.methodNamed? y = some f) (hn : y.cls ≠ "java/lang/invoke/MethodHandle" ∧ y.cls ≠ "java/lang/invoke/VarHandle")
    (h : (Cond.selects tn_C y y).before args s = true) : selectMethod e.platform s.vm q f = .method f := by
  obtain ⟨q1, r, f1, e1, e2, e3, e4, -⟩ := Cond.selects_spec h
  have a1 : q1 = q := Option.some.inj (e1.symm.trans hq)
  have a2 : f1 = f := Option.some.inj (e3.symm.trans hy)
  have a3 : r = f := Option.some.inj (e2.symm.trans (State.methodFound?_of_named hy hn))
  rw [a1, a2, a3] at e4
  exact (Launch.admits_selectMethod hA _ _ _).trans e4
/-- who declares the field at this slot -/
def tn_own (s : State) (q : Nat) (f : Field) : Prop := ∃ z : Class × Field, Jmm.declares? s.vm f.slot (q + 1) q = some z ∧ z.2.name = f.name
theorem tn_ne {q : Nat} {f g : Field} (hf : tn_own s q f) (hg : tn_own s q g) (hne : f.name ≠ g.name) : f.slot ≠ g.slot :=
  hf.elim fun _ h1 => hg.elim fun _ h2 => Cond.laysApart h1.1 h2.1 h1.2 h2.2 hne
/-- a field of Throwable in a new cell: what may be laid there, what stands there at first, who declares it -/
theorem tn_lay {n d : String} {q cT i : Nat} {k kT : Class} {f : Field} (hq : s.vm.findClass tn_C = some q) (hk : s.vm.classes[q]? = some k) (ho : k.kind = .ordinary) (hf : s.fieldFound? Bundle.tN n d = some (cT, kT, i, f))
    (h : (Cond.lays tn_C Bundle.tN n d).before args s = true) : (∀ v, fits f.type v = true → Takes s (freshCell q k) f v) ∧ (freshCell q k).slots[f.slot]? = some (defaultValue f.type) ∧ tn_own s q f :=
  have ⟨ty, z⟩ := Cond.laysAt hq hk hf h
  ⟨fun _ hv => Takes.of_laid hk ho ty hv, fresh_default ty, z⟩
/-- the three first stores leave every other slot as it was -/
theorem tn_slot {T : ThrowableT} {x : Cell} {a : Addr} {u v : RefV} {t : ThreadId} {i : Nat} (h1 : i ≠ T.fCause.slot) (h2 : i ≠ T.fStack.slot) (h3 : i ≠ T.fSupp.slot) : ((preparedCellV T x a u v).withEntry t).slots[i]? = x.slots[i]? := by
  simp [Cell.setSlot, Cell.withEntry, Array.getElem?_setIfInBounds, h1.symm, h2.symm, h3.symm]
/-- one constructor that hands its text on -/
theorem tn_pass {A B : String} {i : Nat} {bs : ByteArray} (hA : l.admits e) (fA : Bundle.fit A = true) (fB : Bundle.fit B = true)
    (hb : decode bs 0 = .ok (.aload_n 0, 1) ∧ decode bs 1 = .ok (.aload_n 1, 1) ∧ decode bs 2 = .ok (.invokespecial i, 3) ∧ decode bs 5 = .ok (.return_, 1))
    (h : ∀ w ∈ Bundle.passSAtoms A B i bs, w.before args s = true) : ∃ P : PassC, P.LinksS e.platform s ∧ s.methodNamed? (Bundle.initS A) = some P.m ∧ s.methodNamed? (Bundle.initS B) = some P.sup :=
  PassC.ofS_atoms (args := args) (by rw [hA.platform]) (Bundle.fit_spec fA).1 (Bundle.fit_spec fB).2 hb.1 hb.2.1 hb.2.2.1 hb.2.2.2 h
/-- Throwable's parts, and the three constructors above it, one handing on to the next -/
theorem tn_links (hA : l.admits e) (h : ∀ w ∈ tn_ws, w.before args s = true) :
    ∃ (T : ThrowableC) (Z0 Z : Init0T) (M : MsgC) (P Q S : PassC), T.Links e.platform s ∧ Bundle.Ties T Z0 s ∧ Z.LaidS T.toThrowableT ∧ M.Links T e.platform s ∧ s.methodNamed? (Bundle.initS tn_C) = some P.m ∧
      (∀ x ∈ [P, Q, S], x.LinksS e.platform s) ∧ PassesOn (Z.m T.toThrowableT) ([P, Q, S].map (·.toPassT)) := by
  have r1 : ∀ w ∈ tn_w1, w.before args s = true := fun w hw => h w (show w ∈ tn_tl ++ tn_w1 from List.mem_append_right _ hw)
  have r2 : ∀ w ∈ tn_w2, w.before args s = true := fun w hw => r1 w (show w ∈ Bundle.passSAtoms tn_C tn_R 13 prog_32_method_4_code ++ tn_w2 from List.mem_append_right _ hw)
  have r3 : ∀ w ∈ tn_w3, w.before args s = true := fun w hw => r2 w (show w ∈ Bundle.passSAtoms tn_R tn_E 7 Bundle.six ++ tn_w3 from List.mem_append_right _ hw)
  have r4 : ∀ w ∈ tn_w4, w.before args s = true := fun w hw => r3 w (show w ∈ Bundle.passSAtoms tn_E Bundle.tN 7 Bundle.six ++ tn_w4 from List.mem_append_right _ hw)
  obtain ⟨T, Z0, hT, -, hY⟩ := ThrowableC.of_atoms (args := args) (s := s) (pl := e.platform) (by rw [hA.platform]) (by rw [hA.platform]) (by rw [hA.platform]) (fun w hw => r4 w (show w ∈ Bundle.throwableSAtoms ++ Bundle.throwableAtoms from List.mem_append_right _ hw))
  obtain ⟨Z, M, hZ, hM, nZ⟩ := Init0T.ofS_atoms (args := args) (by rw [hA.platform]) hT hY (fun w hw => r4 w (show w ∈ Bundle.throwableSAtoms ++ Bundle.throwableAtoms from List.mem_append_left _ hw))
  have six : decode Bundle.six 0 = .ok (.aload_n 0, 1) ∧ decode Bundle.six 1 = .ok (.aload_n 1, 1) ∧ decode Bundle.six 2 = .ok (.invokespecial 7, 3) ∧ decode Bundle.six 5 = .ok (.return_, 1) := ⟨Bundle.six_0, Bundle.six_1, Bundle.six_2, Bundle.six_5⟩
  obtain ⟨P, lP, mP, sP⟩ := tn_pass (A := tn_C) (B := tn_R) (i := 13) (bs := prog_32_method_4_code) hA (by decide +kernel) (by decide +kernel) (by decide +kernel) (fun w hw => r1 w (show w ∈ Bundle.passSAtoms tn_C tn_R 13 prog_32_method_4_code ++ tn_w2 from List.mem_append_left _ hw))
  obtain ⟨Q, lQ, mQ, sQ⟩ := tn_pass (A := tn_R) (B := tn_E) hA (by decide +kernel) (by decide +kernel) six (fun w hw => r2 w (show w ∈ Bundle.passSAtoms tn_R tn_E 7 Bundle.six ++ tn_w3 from List.mem_append_left _ hw))
  obtain ⟨S, lS, mS, sS⟩ := tn_pass (A := tn_E) (B := Bundle.tN) hA (by decide +kernel) (by decide +kernel) six (fun w hw => r3 w (show w ∈ Bundle.passSAtoms tn_E Bundle.tN 7 Bundle.six ++ tn_w4 from List.mem_append_left _ hw))
  have e1 : P.sup = Q.m := Option.some.inj (sP.symm.trans mQ)
  have e2 : Q.sup = S.m := Option.some.inj (sQ.symm.trans mS)
  have e3 : S.sup = Z.m T.toThrowableT := Option.some.inj (sS.symm.trans nZ)
  exact ⟨T, Z0, Z, M, P, Q, S, hT, hY, hZ, hM, mP, List.forall_mem_cons.mpr ⟨lP, List.forall_mem_cons.mpr ⟨lQ, List.forall_mem_cons.mpr ⟨lS, fun _ hx => nomatch hx⟩⟩⟩, e1, e2, e3, trivial⟩
variable {p : Program} {R : Room} {m₀ : MethodId} {below : List Frame} {meth : Method} {c : Code} {W : State} {cells slots : Nat}
/-- from the call of the constructor, over a new cell, to the throw out of the method -/
theorem tn_ctor (X : Stand p l e R s m₀ args below meth c W [] cells slots) (hexec : p.tables.exec = Jvm.exec) (htr : e.platform.stackTraces = false) (hown : s.vm.findClass RX10 = some m₀.cls) (h : ∀ w ∈ tn_ws, w.before args s = true)
    {a sa : Addr} {q : ClassId} {k : Class} (hq : s.vm.findClass tn_C = some q) (hk : s.vm.classes[q]? = some k) (hcell : W.heap[a]? = some (freshCell q k)) (hnew : s.heap.size ≤ a)
    {pc : Nat} {ls : Array Slot} {rest : List Value} (hsize : ls.size = c.maxLocals) (d0 : decode c.code pc = .ok (.invokespecial 422, 3)) (d3 : decode c.code (pc + 3) = .ok (.athrow, 1)) (hout : ∀ x ∈ c.exceptionTable.toList, covers x (pc + 3) = false)
    (hRf : 5 < R.frames) (hRl : (rest.map fun v => v.category).sum + 82 ≤ R.locals) (hlocks : meth.locks = false) :
    ∃ U : State, Steps p.tables e below (W.setTop { method := m₀, pc := pc, locals := ls, stack := .ref sa :: .ref a :: .ref a :: rest, locked := none }) U ∧ U.status = .running ∧ Ended U below (.threw a) ∧ s.WarmedH U.vm ∧
      s.sameButNew ({ U with vm := s.vm } : State) [] cells slots ∧ ∃ ce : Cell, U.heap[a]? = some ce ∧ ce.vm = .none ∧ ce.cls = q := by
  have hpl : e.platform.magicAccessors = ({} : Platform).magicAccessors := by rw [X.admits.platform]
  have hi : ∀ (i : Nat) {w : Cond}, tn_tl[i]? = some w → w.before args s = true := fun _ _ hw => h _ (List.mem_append_left _ (List.mem_of_getElem? hw))
  have hc : ∀ (i : Nat) {w : Cond}, (Bundle.passSAtoms tn_C tn_R 13 prog_32_method_4_code)[i]? = some w → w.before args s = true := fun _ _ hw => h _ (List.mem_append_right _ (List.mem_append_left _ (List.mem_of_getElem? hw)))
  obtain ⟨T, Z0, Z, M, P, Q, S, hT, hY, hZ, hM, hP, hL, hO⟩ := tn_links X.admits h
  have ho : k.kind = .ordinary := by
    obtain ⟨q1, k1, e1, e2, e3, -⟩ := Cond.instantiable_spec (hi 1 (w := .instantiable tn_C 6) rfl)
    rw [← Option.some.inj (hq.symm.trans e1)] at e2
    rw [Option.some.inj (hk.symm.trans e2)]
    exact e3
  -- Throwable's two static rows, then and now
  obtain ⟨cs, hcs, hst⟩ := hY.statics
  obtain ⟨u, hu⟩ := Cond.staticRefV hY.unassigned hT.unassignedStatic hT.statics hcs hst (hi 9 rfl)
  obtain ⟨v, hv⟩ := Cond.staticRefV hY.sentinel hT.sentinelStatic hT.statics hcs hst (hi 10 rfl)
  obtain ⟨cw, hcw, hcv, -, hsl⟩ := X.same.2.2.2.2.2 T.aS cs hcs
  have hun : cw.vm ≠ .unknown := fun hz => by
    rw [(congrArg Cell.vm hcv).symm.trans hz] at hst
    cases hst
  have hne : T.aS ≠ a := fun he => Nat.not_lt.mpr hnew (he ▸ (Array.getElem?_eq_some_iff.mp hcs).1)
  -- the fields of the new cell
  obtain ⟨im, hmf⟩ := hY.msg
  have fC := tn_lay hq hk ho hY.cause (hi 5 rfl)
  have fS := tn_lay hq hk ho hY.stack (hi 6 rfl)
  have fP := tn_lay hq hk ho hY.supp (hi 7 rfl)
  have fM := tn_lay hq hk ho hmf (hi 8 rfl)
  obtain ⟨ci, ib, fb, b1, b2, b3, b4, -, b5, b6, b7⟩ := Cond.ownField (t := .object "java/lang/Object") hY.found hT.cls (by decide +kernel) (hi 11 rfl) (hi 12 rfl) e.platform hpl
  have fB := tn_lay hq hk ho b7 (hi 13 rfl)
  have hskip : SkipFacts T e.platform s (fun x => x) u ((preparedCellV T.toThrowableT (freshCell q k) a u v).withEntry W.cur) := by
    refine ⟨⟨ci, ib, fb⟩, ⟨b1, b2, b3, b4⟩, ?_, fun _ _ => rfl⟩
    rw [tn_slot (tn_ne fB.2.2 fC.2.2 (by rw [b5, hY.causeName]; decide)) (tn_ne fB.2.2 fS.2.2 (by rw [b5, hY.stackName]; decide)) (tn_ne fB.2.2 fP.2.2 (by rw [b5, hY.suppName]; decide)), fB.2.1, b6]
    rfl
  -- the call, the constructors, the throw
  obtain ⟨pm, -, -, -, v1, nm, -, -, -, -, -, -, -, hW1, st1⟩ := Steps.initColdS (tb := p.tables) (e := e) (below := below) (s := s) (U := W) X.here hexec X.warmed hpl hown (t := Bundle.initS tn_C) rfl rfl (by decide)
    (hi 0 rfl) (hc 0 rfl) (bytes := prog_32_method_4_code) (maxL := 2) (hc 1 rfl) (f := { method := m₀, pc := pc, locals := ls, stack := .ref sa :: .ref a :: .ref a :: rest, locked := none }) rfl (a := a) (msg := .ref sa) (rest := .ref a :: rest) rfl d0
  have X1 := X.noted hW1
  obtain ⟨v2, X2, st2⟩ := X1.ctorMessageOffV hexec (g := { method := m₀, pc := pc, locals := ls, stack := .ref a :: rest, locked := none }) rfl hsize T hT Z hZ M hM [P, Q, S] hL hO (u0 := u) (sen := v) (self := a) (msg := .ref sa) rfl
    (cell := freshCell q k) (cellS := cw) hcell (fun _ => by simp) (by simp) rfl rfl (tn_sel X.admits hq hY.fill0 (by decide) (hi 3 rfl)) (tn_sel X.admits hq hY.fill (by decide) (hi 4 rfl)) hcw hne hun
    ((hsl _ List.not_mem_nil).trans hu) ((hsl _ List.not_mem_nil).trans hv) (fC.1 _ (by rw [hY.causeType]; rfl)) (fS.1 _ (by rw [hY.stackType]; exact fits_refV_array _ u)) (fP.1 _ (by rw [hY.suppType]; exact fits_refV_object _ v))
    (fM.1 _ (by rw [hY.msgType]; rfl)) hY.objLocals hskip htr [] d0 hRf (by
      have hm : (2 * JFrame.monitorRoom { method := m₀, pc := pc, locals := ls, stack := .ref a :: rest, locked := none }) = 0 := rfl
      have ha : (Value.ref a).category = 1 := rfl
      simp only [List.map_cons, List.sum_cons, hm, ha, List.length_cons, List.length_nil]
      omega)
  obtain ⟨hgo, hrun, hend, hwu, hsame⟩ := X2.athrowLeaves hexec (g := { method := m₀, pc := pc + 3, locals := ls, stack := .ref a :: rest, locked := none }) rfl rfl rfl hout (rest := rest) rfl d3
  have hlt : a < ((W.setVm v1).setVm v2).heap.size := (Array.getElem?_eq_some_iff.mp hcell).1
  refine ⟨_, st1 _ (fun acts => ?_), hrun, hend, hwu, hsame.weaken (fun y hy hl => ?_) (Nat.le_refl _) (Nat.le_refl _), _, heapAt_setCell_self _ hlt, rfl, rfl⟩
  · rw [doInvoke_state, Option.some.inj (nm.symm.trans hP)]
    exact st2 _ hgo
  · simp only [List.nil_append, List.mem_cons, List.not_mem_nil, or_false] at hy
    rcases hy with rfl | rfl | rfl | rfl | rfl <;> exact absurd hl (Nat.not_lt.mpr hnew)
end TN
def tn_no : List Cond := tn_ws.filter vx_no
section TN2
variable {p : Program} {l : Launch} {e : Env} {R : Room} {s : State} {m : MethodId} {args : Array Value} {below : List Frame} {meth : Method} {c : Code} {H : Heap} {locs : List Loc} {cells slots : Nat} {ls : Array Slot} {rest : List Value} {Qc : Array Value → State → Outcome → State → Prop} {XC : String → State → State → Prop} {free : Addr → Prop}
theorem tn_throwSW {cc : ByteArray} {pc : Nat} (hexec : p.tables.exec = Jvm.exec) (hb : c.code = cc) (hl : l.stackTraces = false) {text : String} {is mc ms sa : Nat} {A : Nat → Prop}
    (hown : s.vm.findClass RX10 = some m.cls)
    (hk : (Cond.classLink RX10 418 tn_C).before args s = true) (hini : (Cond.initialized tn_C).before args s = true) (hstr : vk_R RX10 is text sa s) (hat : ∀ w ∈ tn_no, w.before args s = true)
    (hgood : ∀ w ∈ Cond.classLink RX10 418 tn_C :: Cond.initialized tn_C :: tn_no, vx_ot w = true)
    (hU : vx_Zq Bundle.tN "UNASSIGNED_STACK" Bundle.steD A s s.heap) (hN : vx_Zq Bundle.tN "SUPPRESSED_SENTINEL" Bundle.listD A s s.heap) (hS : va_S A s.heap H locs) (hsize : ls.size = c.maxLocals)
    (d0 : decode cc pc = .ok (.new 418, 3)) (d3 : decode cc (pc + 3) = .ok (.dup, 1)) (d4 : decode cc (pc + 4) = .ok (.ldc_w is, 3)) (d7 : decode cc (pc + 7) = .ok (.invokespecial 422, 3)) (d10 : decode cc (pc + 10) = .ok (.athrow, 1))
    (hout : ∀ x ∈ c.exceptionTable.toList, covers x (pc + 10) = false)
    (hRframes : 5 < R.frames) (hRlocals : (rest.map fun v => v.category).sum + 82 ≤ R.locals) (hRcells : cells + 1 ≤ R.cells) (hRslots : slots + 6 ≤ R.slots) (hlocks : meth.locks = false)
    (hx : ∀ t : State, s.vm.Alike t.vm → H.size ≤ t.heap.size → (∀ q : Nat, q < H.size → t.heap[q]? = H[q]?) → XC tn_C s t)
    (hf : ∀ z ∈ locs, free z.base) (hc : cells + 1 ≤ mc) (hs : slots + 6 ≤ ms) :
    W p l e R s m args below meth c H locs cells slots (vx_MQ below Qc XC args s mc ms free) (F0 m pc ls rest) := by
  intro T hT X
  have htr : e.platform.stackTraces = false := (show e.platform.stackTraces = l.stackTraces by rw [X.admits.platform]).trans hl
  have Y := vx_rebase X (R' := { frames := R.frames, locals := R.locals, cells := 1, slots := 6 }) (Nat.le_refl _) (Nat.le_refl _) hRcells hRslots
  obtain ⟨s', hA⟩ : ∃ z, z = (T.setVm s.vm).setFrames (.invoking m args :: below) := ⟨_, rfl⟩
  rw [← hA] at Y
  have hvm : s'.vm = s.vm := by rw [hA]; rfl
  have hhp : s'.heap = H := by rw [hA]; exact hT
  have hW0 : s.WarmedH s'.vm := by rw [hvm]; exact State.WarmedH.refl s
  have hat' : ∀ w ∈ tn_no, w.before args s' = true := fun w hw => vx_ot_at hW0 hvm.symm (hgood w (List.mem_cons_of_mem _ (List.mem_cons_of_mem _ hw))) (hat w hw)
  have hk' : (Cond.classLink RX10 418 tn_C).before args s' = true := vx_ot_at hW0 hvm.symm (hgood _ List.mem_cons_self) hk
  have hini' : (Cond.initialized tn_C).before args s' = true := vx_ot_at hW0 hvm.symm (hgood _ (List.mem_cons_of_mem _ List.mem_cons_self)) hini
  have hU' : vx_Zq Bundle.tN "UNASSIGNED_STACK" Bundle.steD A s' s'.heap := by rw [hhp]; exact vx_Zq.moved hW0.alike (hU.kept hS.2.1)
  have hN' : vx_Zq Bundle.tN "SUPPRESSED_SENTINEL" Bundle.listD A s' s'.heap := by rw [hhp]; exact vx_Zq.moved hW0.alike (hN.kept hS.2.1)
  have h : ∀ w ∈ tn_ws, w.before args s' = true := vx_own hat' (vx_isRefq hU'.1) (vx_isRefq hN'.1) hU'.2.word hN'.2.word
  have hown' : s'.vm.findClass RX10 = some m.cls := by rw [hvm]; exact hown
  have hins : (Cond.instantiable tn_C 6).before args s' = true := h _ (List.mem_append_left _ (List.mem_of_getElem? (i := 1) rfl))
  obtain ⟨vm₁, cX, kX, hfX, hkX, -, -, X₁, st1⟩ := Y.newCold hexec (own := RX10) (C := tn_C) (index := 418) (n := 6) hown' hk' hins hini'
    (g := F0 m pc ls rest) rfl (by rw [hb]; exact d0) (Nat.le_refl _) (Nat.le_refl _)
  generalize hT1 : (T.setVm vm₁).pushCell { cls := cX, slots := kX.instanceTypes.map defaultValue, vm := .none } = T1 at X₁ st1
  have hcat : (Value.ref T.heap.size).category = 1 := rfl
  have hcellA : T1.heap[T.heap.size]? = some (freshCell cX kX) := by rw [← hT1]; exact State.heap_pushCell_size _ _
  have d3' : decode c.code (pc + 3) = .ok (.dup, 1) := by rw [hb]; exact d3
  have d4' : decode c.code (pc + 4) = .ok (.ldc_w is, 3) := by rw [hb]; exact d4
  have hstr' : vk_R RX10 is text sa s' := vk_R.warm hW0 hstr
  obtain ⟨U, hsteps, hrun, hend, hW, hsame, ce, hce, hO1, hO2⟩ := tn_ctor X₁ hexec htr hown' h hfX hkX hcellA (by rw [hhp, hT]; exact Nat.le_refl _) (sa := sa) (pc := pc + 7) (rest := rest) hsize (by rw [hb]; exact d7) (by rw [hb]; exact d10) hout hRframes hRlocals hlocks
  obtain ⟨f1, f2⟩ := vx_frame hsame
  rw [hhp] at f1 f2
  have hWs : s.WarmedH U.vm := State.WarmedH.trans hW0 hW
  have hcl : s.vm.findClass tn_C = some ce.cls := by rw [hO2, ← hvm]; exact hfX
  have hall : s.sameButNew ({ U with vm := s.vm } : State) locs mc ms := by
    subst hA
    obtain ⟨e1, e2⟩ := hsame
    rw [State.setFrames_setFrames] at e1
    have h2 : (T.setVm s.vm).sameButNew ({ U with vm := s.vm } : State) [] (0 + 1) (0 + 6) := ⟨e1, e2⟩
    have h3 := X.same.trans h2
    rw [List.append_nil] at h3
    exact h3.mono hc hs
  refine ⟨U, ?_, .threw T.heap.size, hrun, hend, Or.inr ⟨T.heap.size, rfl, tn_C, ce, locs, hx U hWs.alike f1 (fun q hq => f2 q hq (fun z hz => nomatch hz)), hce, hO1, hcl, hWs, hall, hf⟩⟩
  refine st1 _ ?_
  show Steps p.tables e below (T1.setTop { method := m, pc := pc + 3, locals := ls, stack := .ref T.heap.size :: rest, locked := none }) _
  jvm_step X₁.here [X₁.here.top, hexec, d3', Value.category]
  exact X₁.ldcStringW hexec (own := RX10) (text := text) (index := is) (a := sa) hown' hstr'.1 hstr'.2
    (g := { method := m, pc := pc + 4, locals := ls, stack := .ref T.heap.size :: .ref T.heap.size :: rest, locked := none }) rfl d4' _ hsteps
end TN2
theorem tn1 : ∀ w ∈ tn_no.filter goodWord, w ∈ am_T := by decide +kernel
theorem tn2 : ∀ w ∈ tn_no.filter (fun w => !goodWord w), w ∈ Cond.castable "java/util/NoSuchElementException" "java/util/NoSuchElementException" :: am_decls.map Cond.declares := by decide +kernel
theorem tn3 : ∀ w ∈ Cond.classLink RX10 418 tn_C :: Cond.initialized tn_C :: tn_no, vx_ot w = true := by decide +kernel
theorem w_throwN {X : am_X} {l0 : Launch} {R0 : Room} {cc : ByteArray} {ret : Option FieldType} {ly : Ly} {M : Mm} {ce sl : Nat} {pc : Nat} {L : List (Option Value)} {st : List Value} {mc0 ms0 : Nat} (hC : am_C X l0 R0 cc RX10 ret) (hnt : am_NT X) (hl : l0.stackTraces = false)
    (d0 : decode cc pc = .ok (.new 418, 3)) (d3 : decode cc (pc + 3) = .ok (.dup, 1)) (d4 : decode cc (pc + 4) = .ok (.ldc_w 420, 3)) (d7 : decode cc (pc + 7) = .ok (.invokespecial 422, 3)) (d10 : decode cc (pc + 10) = .ok (.athrow, 1))
    (hRf : 5 < R0.frames) (hRl : (st.map fun v => v.category).sum + (13 * 3 + 43) ≤ R0.locals) (hRc : ce + 1 ≤ R0.cells) (hRs : sl + 6 ≤ R0.slots) (h1 : ce + 1 ≤ mc0) (h2 : sl + 6 ≤ ms0) : am_V X ly M ce sl (am_Q X ly mc0 ms0 (.inr "java/util/NoSuchElementException") M) pc L st := by
  obtain ⟨p, l, e, R, s, m, args, below, meth, c, D, G, ad, A⟩ := X
  obtain ⟨hx, hb, hown, hts, hK, hA, hlk, hB, hr9, rfl, rfl⟩ := hC
  intro H locs ls hP hD hS hL hm
  have hst9 : ((st.map (am_c ad)).map fun v => v.category).sum = (st.map fun v => v.category).sum := by
    rw [List.map_map]
    have : ((fun v : Value => v.category) ∘ am_c ad) = fun v => v.category := by funext v; exact am_c_cat
    rw [this]
  refine tn_throwSW hx hb hl hown (hts _ aw_867) (hts _ aw_25) (hB.2.1 _ st_4) (vx_hat (fun w hw => hts _ (tn1 w hw)) tn2 (fun w hw => ?_)) tn3 hB.2.2.1.1 hB.2.2.1.2 hS (by rw [hm, hL.1]) d0 d3 d4 d7 d10 (fun x hx => (hnt x hx).elim) hRf (by rw [hst9]; exact hRl) hRc hRs hlk (fun t hal hsz hk9 => ?_) hS.2.2 h1 h2
  · rcases List.mem_cons.mp hw with h9 | h9
    · subst h9; exact (hB.2.2.2.2.2.1 "java/util/NoSuchElementException" (by decide)).use rfl
    · obtain ⟨q9, h8, rfl⟩ := List.mem_map.mp h9
      exact (hB.2.2.2.2.2.2.2.2.2 _ h8).use rfl
  · have hP9 : va_P D vwCl (am_w G ad ly M) t.heap := fun k q hq => (hP k q hq).kept (hk9 _ (hP k q hq).lt)
    exact ⟨rfl, am_wd_of hP9 hD hK rfl hal, Nat.le_trans hS.1 hsz, fun q h1 h2 => by rw [hk9 q (Nat.lt_of_lt_of_le h1 hS.1)]; exact hS.2.1 q h1 h2⟩
