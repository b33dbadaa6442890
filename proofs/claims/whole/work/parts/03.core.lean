/-! THE CORE: an abstract memory over the kit's worlds. Abstract addresses 0, 1, .. (places in a layout), ints by (address, slot). -/
abbrev Sp : Type := Nat × Nat × List Nat
abbrev Ly : Type := List Sp
abbrev Mm : Type := Nat → Nat → Int32
def am_c (ad : Nat → Nat) (v : Value) : Value := match v with
  | .ref a => .ref (ad a)
  | v => v
def am_rv (ad : Nat → Nat) (f : Nat → Int32) (k : Nat) (r : Nat) : Value := match r with
  | 0 => .int (f k)
  | 1 => .null
  | a + 2 => .ref (ad a)
def am_fs (ad : Nat → Nat) (f : Nat → Int32) (rs : List Nat) : List Value := rs.mapIdx (am_rv ad f)
abbrev am_Gt : Type := ClassId × ClassId × ClassId × ClassId
def am_e (G : am_Gt) (ad : Nat → Nat) (q : Sp) (f : Nat → Int32) : va_E := match q.1 with
  | 0 => .inl (G.1, q.2.1, .inl f)
  | 1 => .inl (G.2.1, q.2.1, .inl f)
  | 2 => .inl (G.2.2.1, q.2.1, .inr (.inl (fun k => (f k).toInt64)))
  | 3 => .inl (G.2.2.2, q.2.1, .inr (.inr (.inr (.inr (fun k => match q.2.2.getD k 1 with | a + 2 => some (ad a) | _ => none)))))
  | t + 4 => .inr (t, am_fs ad f q.2.2)
def am_w (G : am_Gt) (ad : Nat → Nat) (ly : Ly) (M : Mm) : va_W := ly.mapIdx (fun a q => (ad a, am_e G ad q (M a)))
def am_tys (G : am_Gt) : List (ClassId × FieldType) := [(G.1, .int), (G.2.1, .byte), (G.2.2.1, .long), (G.2.2.2, .object RX3)]
theorem am_get {G : am_Gt} {ad : Nat → Nat} {ly : Ly} {M : Mm} {a : Nat} {q : Sp} (h : ly[a]? = some q) : (am_w G ad ly M)[a]? = some (ad a, am_e G ad q (M a)) := by
  simp [am_w, h]
def am_upd (M : Mm) (a : Nat) (f : Nat → Int32) : Mm := fun b => if b = a then f else M b
theorem am_set {G : am_Gt} {ad : Nat → Nat} {ly : Ly} {M : Mm} {a : Nat} {q : Sp} {f : Nat → Int32} (h : ly[a]? = some q) : (am_w G ad ly M).set a (ad a, am_e G ad q f) = am_w G ad ly (am_upd M a f) := by
  apply List.ext_getElem?
  intro b
  rw [List.getElem?_set]
  by_cases e : a = b
  · subst e
    have hl : a < ly.length := by
      rcases Nat.lt_or_ge a ly.length with z | z
      · exact z
      · rw [List.getElem?_eq_none z] at h; cases h
    have hw : a < (am_w G ad ly M).length := by simp [am_w]; exact hl
    rw [if_pos rfl, if_pos hw, am_get h]
    simp [am_upd]
  · rw [if_neg e]
    simp only [am_w, List.getElem?_mapIdx]
    cases ly[b]? with
    | none => rfl
    | some x => simp only [Option.map_some, am_upd, if_neg (fun z : b = a => e z.symm)]
/-- one int -/
def wr (M : Mm) (a k : Nat) (v : Int32) : Mm := fun b j => if b = a ∧ j = k then v else M b j
theorem wr_upd (M : Mm) (a k : Nat) (v : Int32) : am_upd M a (upd (M a) k v) = wr M a k v := by
  funext b j
  simp only [am_upd, wr, upd]
  by_cases h : b = a
  · subst h; by_cases g : j = k <;> simp [g, upd]
  · simp [h]
def cpy (M : Mm) (a b : Nat) (n : Nat) : Mm := fun x j => if x = b ∧ j < n then M a j else M x j
def am_L (ad : Nat → Nat) (ls : Array Slot) (L : List (Option Value)) : Prop := ls.size = L.length ∧ lv_wf ls ∧ (∀ (k : Nat) (v : Value), L[k]? = some (some v) → ls[k]? = some (.val (am_c ad v))) ∧ ∀ (k : Nat) (v : Value), L[k]? = some (some v) → v.category = 1
def am_al (ad : Nat → Nat) (L : List (Option Value)) : List (Nat × Value) := (List.range L.length).filterMap (fun k => (L.getD k none).map (fun v => (k, am_c ad v)))
theorem am_al_mem {ad : Nat → Nat} {L : List (Option Value)} {q : Nat × Value} : q ∈ am_al ad L ↔ ∃ v, L[q.1]? = some (some v) ∧ q.2 = am_c ad v := by
  simp only [am_al, List.mem_filterMap, List.mem_range]
  constructor
  · rintro ⟨k, hk, h⟩
    rw [List.getD_eq_getElem?_getD] at h
    rw [List.getElem?_eq_getElem hk] at h
    simp only [Option.getD_some, Option.map_eq_some_iff] at h
    obtain ⟨v, h1, h2⟩ := h
    subst h2
    exact ⟨v, by rw [List.getElem?_eq_getElem hk, h1], rfl⟩
  · rintro ⟨v, h1, h2⟩
    have hk : q.1 < L.length := by
      rcases Nat.lt_or_ge q.1 L.length with z | z
      · exact z
      · rw [List.getElem?_eq_none z] at h1; cases h1
    refine ⟨q.1, hk, ?_⟩
    rw [List.getD_eq_getElem?_getD, h1]
    simp only [Option.getD_some, Option.map_some, ← h2]
theorem am_c_cat {ad : Nat → Nat} {v : Value} : (am_c ad v).category = v.category := by cases v <;> rfl
theorem am_L.has {ad : Nat → Nat} {ls : Array Slot} {L : List (Option Value)} (h : am_L ad ls L) : lv_has ls L.length (am_al ad L) := by
  refine ⟨h.1, h.2.1, fun q hq => ?_⟩
  obtain ⟨v, h1, h2⟩ := am_al_mem.mp hq
  rw [h2]; exact h.2.2.1 _ _ h1
theorem am_L.store {ad : Nat → Nat} {ls : Array Slot} {L : List (Option Value)} {i : Nat} {v : Value} (h : am_L ad ls L) (hv : v.category = 1) {ls' : Array Slot}
    (h' : lv_has ls' L.length ((i, am_c ad v) :: (am_al ad L).filter (fun q => !(q.1 == i) && !(q.1 + 1 == i && q.2.category == 2)))) (hi : i < L.length) : am_L ad ls' (L.set i (some v)) := by
  obtain ⟨g1, g2, g3⟩ := h'
  refine ⟨by rw [List.length_set]; exact g1, g2, fun k w hk => ?_, fun k w hk => ?_⟩
  · rw [List.getElem?_set] at hk
    by_cases e : i = k
    · subst e
      rw [if_pos rfl, if_pos hi] at hk
      cases hk
      exact g3 (i, am_c ad v) List.mem_cons_self
    · rw [if_neg e] at hk
      refine g3 (k, am_c ad w) (List.mem_cons_of_mem _ (List.mem_filter.mpr ⟨am_al_mem.mpr ⟨w, hk, rfl⟩, ?_⟩))
      have hc : (am_c ad w).category = 1 := by rw [am_c_cat]; exact h.2.2.2 k w hk
      simp only [hc, Bool.and_eq_true, Bool.not_eq_true', beq_eq_false_iff_ne, ne_eq]
      exact ⟨fun z => e z.symm, by simp⟩
  · rw [List.getElem?_set] at hk
    by_cases e : i = k
    · subst e
      rw [if_pos rfl, if_pos hi] at hk
      cases hk; exact hv
    · rw [if_neg e] at hk
      exact h.2.2.2 k w hk

/-! THE WORDS: all good words of the tables; a method's words are its code's and these. -/
def am_T : List Cond := lw_tbl.filter goodWord
theorem am_in {w : Cond} (h : w ∈ lw_tbl) (g : goodWord w = true) : w ∈ am_T := List.mem_filter.mpr ⟨h, g⟩
theorem am_good {w : Cond} (h : w ∈ am_T) : (w.onTables && w.keeps) = true ∨ ∃ ty, w = .arrayClass ty := good_of_word (List.mem_filter.mp h).2
theorem am_goodIn {ws : List Cond} (h : ∀ w ∈ ws, w ∈ am_T) : GoodIn am_T ws := fun w hw => ⟨h w hw, am_good (h w hw)⟩
/-! THE AMBIENT: what lies outside the cells that change: String constants, statics that throwing reads. -/
def am_nS : Nat := 33
def am_lenS : List Nat := [107, 17, 18, 22, 21, 22, 23, 21, 18, 18, 23, 23, 5, 5, 2, 4, 6, 6, 3, 4, 5, 5, 5, 4, 6, 4, 5, 2, 3, 4, 3, 3, 2]
def am_bytS : List (List Int32) := [[100, 105, 110, 101, 114, 32, 116, 97, 115, 116, 101, 32, 97, 116, 32, 100, 105, 101, 116, 32, 99, 101, 108, 108, 97, 114, 32, 103, 114, 97, 105, 110, 115, 32, 115, 101, 116, 32, 115, 116, 101, 112, 32, 115, 119, 101, 101, 116, 32, 115, 97, 108, 116, 121, 32, 115, 112, 105, 108, 108, 32, 100, 97, 109, 112, 32, 99, 111, 117, 114, 115, 101, 32, 116, 97, 107, 101, 32, 115, 112, 97, 114, 101, 32, 105, 102, 32, 111, 114, 32, 97, 110, 100, 32, 110, 111, 116, 32, 108, 97, 115, 116, 32, 104, 97, 115, 32], [116, 104, 101, 32, 116, 101, 120, 116, 32, 105, 115, 32, 119, 114, 111, 110, 103], [116, 104, 101, 114, 101, 32, 97, 114, 101, 32, 49, 50, 32, 116, 101, 120, 116, 115], [116, 104, 101, 114, 101, 32, 105, 115, 32, 110, 111, 32, 115, 117, 99, 104, 32, 100, 105, 110, 101, 114], [116, 104, 101, 114, 101, 32, 105, 115, 32, 110, 111, 32, 115, 117, 99, 104, 32, 119, 104, 97, 116], [116, 104, 101, 114, 101, 32, 105, 115, 32, 110, 111, 32, 115, 117, 99, 104, 32, 116, 114, 97, 105, 116], [116, 104, 101, 114, 101, 32, 105, 115, 32, 110, 111, 32, 115, 117, 99, 104, 32, 99, 101, 108, 108, 97, 114], [116, 104, 101, 114, 101, 32, 105, 115, 32, 110, 111, 32, 115, 117, 99, 104, 32, 115, 101, 97, 116], [116, 104, 101, 32, 110, 117, 109, 98, 101, 114, 32, 105, 115, 32, 110, 111, 110, 101], [98, 111, 116, 104, 32, 115, 101, 97, 116, 115, 32, 97, 114, 101, 32, 111, 110, 101], [116, 104, 101, 114, 101, 32, 105, 115, 32, 110, 111, 32, 115, 117, 99, 104, 32, 99, 111, 117, 114, 115, 101], [116, 104, 101, 32, 116, 97, 112, 101, 32, 105, 115, 32, 110, 111, 116, 32, 111, 102, 32, 114, 111, 119, 115], [100, 105, 110, 101, 114], [116, 97, 115, 116, 101], [97, 116], [100, 105, 101, 116], [99, 101, 108, 108, 97, 114], [103, 114, 97, 105, 110, 115], [115, 101, 116], [115, 116, 101, 112], [115, 119, 101, 101, 116], [115, 97, 108, 116, 121], [115, 112, 105, 108, 108], [100, 97, 109, 112], [99, 111, 117, 114, 115, 101], [116, 97, 107, 101], [115, 112, 97, 114, 101], [105, 102], [110, 111, 116], [108, 97, 115, 116], [104, 97, 115], [97, 110, 100], [111, 114]]
def am_strs : List (String × Nat × String × Nat) := [("SaltTable$Text", 55, "diner taste at diet cellar grains set step sweet salty spill damp course take spare if or and not last has ", 0), ("SaltTable", 125, "the text is wrong", 1), ("SaltTable", 135, "there are 12 texts", 2), ("SaltTable", 410, "there is no such diner", 3), ("SaltTable", 420, "there is no such what", 4), ("SaltTable", 416, "there is no such trait", 5), ("SaltTable", 412, "there is no such cellar", 6), ("SaltTable", 414, "there is no such seat", 7), ("SaltTable", 423, "the number is none", 8), ("SaltTable", 239, "both seats are one", 9), ("SaltTable", 249, "there is no such course", 10), ("SaltTable", 310, "the tape is not of rows", 11), ("SaltTableModel", 148, "diner", 12), ("SaltTableModel", 125, "taste", 13), ("SaltTableModel", 131, "at", 14), ("SaltTableModel", 133, "diet", 15), ("SaltTableModel", 154, "cellar", 16), ("SaltTableModel", 142, "grains", 17), ("SaltTableModel", 144, "set", 18), ("SaltTableModel", 146, "step", 19), ("SaltTableModel", 159, "sweet", 20), ("SaltTableModel", 165, "salty", 21), ("SaltTableModel", 167, "spill", 22), ("SaltTableModel", 172, "damp", 23), ("SaltTableModel", 174, "course", 24), ("SaltTableModel", 217, "take", 25), ("SaltTableModel", 219, "spare", 26), ("SaltTableModel", 221, "if", 27), ("SaltTableModel", 199, "not", 28), ("SaltTableModel", 191, "last", 29), ("SaltTableModel", 183, "has", 30), ("SaltTableModel", 210, "and", 31), ("SaltTableModel", 215, "or", 32)]
def am_casts : List String := ["java/lang/IndexOutOfBoundsException", "java/lang/IllegalArgumentException", "java/util/NoSuchElementException", "java/lang/UnsupportedOperationException"]
def am_ncs : List (String × String) := [("java/util/NoSuchElementException", "java/lang/IndexOutOfBoundsException"), ("java/lang/IllegalArgumentException", "java/lang/IndexOutOfBoundsException"), ("java/lang/UnsupportedOperationException", "java/lang/IllegalArgumentException")]
def am_decls : List MethodName := [⟨"java/lang/RuntimeException", "<init>", "(Ljava/lang/String;)V"⟩, ⟨"java/lang/Exception", "<init>", "(Ljava/lang/String;)V"⟩, ⟨"java/lang/Throwable", "<init>", "(Ljava/lang/String;)V"⟩]
def am_nests : List (String × Nat × MethodName × String) := [("SaltTable", 9, ({ cls := "SaltTable$Tape", name := "<init>", desc := "()V" } : Jvm.MethodName), "SaltTable"), ("SaltTable", 18, ({ cls := "SaltTable$Text", name := "<init>", desc := "()V" } : Jvm.MethodName), "SaltTable"), ("SaltTable", 35, ({ cls := "SaltTable$Law", name := "<init>", desc := "()V" } : Jvm.MethodName), "SaltTable"), ("SaltTable", 45, ({ cls := "SaltTable$PinchLog", name := "<init>", desc := "()V" } : Jvm.MethodName), "SaltTable"), ("SaltTable", 52, ({ cls := "SaltTable$Service", name := "<init>", desc := "()V" } : Jvm.MethodName), "SaltTable"), ("SaltTable$Service", 11, ({ cls := "SaltTable$Facts", name := "<init>", desc := "()V" } : Jvm.MethodName), "SaltTable"), ("SaltTable", 70, ({ cls := "SaltTable$Moment", name := "<init>", desc := "()V" } : Jvm.MethodName), "SaltTable"), ("SaltTable$Moment", 18, ({ cls := "SaltTable$PinchLog", name := "<init>", desc := "()V" } : Jvm.MethodName), "SaltTable")]
def am_sb : Nat := 1000000
def am_vb : Nat := 2000000
def am_fb : Nat := 3000000
def am_B (ad : Nat → Nat) (A : Nat → Prop) (U : State) (H : Heap) : Prop :=
  (∀ i, i < am_nS → vk_S 1 [am_lenS.getD i 0] [am_bytS.getD i []] (fun _ => ad (am_sb + i)) (fun _ => ad (am_vb + i)) A U H) ∧
  (∀ q ∈ am_strs, vk_R q.1 q.2.1 q.2.2.1 (ad (am_sb + q.2.2.2)) U) ∧
  (vx_Zq Bundle.tN "UNASSIGNED_STACK" Bundle.steD A U H ∧ vx_Zq Bundle.tN "SUPPRESSED_SENTINEL" Bundle.listD A U H) ∧
  va_Z "java/lang/String" "COMPACT_STRINGS" "Z" (.int 1) A U H ∧ (va_Z "jdk/internal/util/Preconditions" "SIOOBE_FORMATTER" "Ljava/util/function/BiFunction;" .null A U H ∨ va_Z "jdk/internal/util/Preconditions" "SIOOBE_FORMATTER" "Ljava/util/function/BiFunction;" (.ref (ad am_fb)) A U H) ∧
  (∀ q ∈ am_casts, va_Nw (.castable q q) U) ∧ (∀ q ∈ am_ncs, va_Nc q.1 q.2 U) ∧ (∀ q ∈ am_nests, va_Nw (.methodLinkNest q.1 q.2.1 q.2.2.1 q.2.2.2) U) ∧ va_AO RX3 U ∧ ∀ q ∈ am_decls, va_Nw (.declares q) U
theorem am_B.call {ad : Nat → Nat} {A A1 : Nat → Prop} {s U : State} {H : Heap} {locs : List Loc} (h : am_B ad A s s.heap) (hS : va_S A s.heap H locs) (hA : ∀ q, A1 q → A q) (hU : U.heap = H) (hW : s.WarmedH U.vm) : am_B ad A1 U U.heap := by
  obtain ⟨h1, h2, ⟨h3, h4⟩, h5, h6, h7, h8, h9, h10, h11⟩ := h
  have hk : ∀ a : Nat, a < s.heap.size → ¬ A a → U.heap[a]? = s.heap[a]? := fun a x y => by rw [hU]; exact hS.2.1 a x y
  refine ⟨fun i hi => (((h1 i hi).kept hk).narrow hA).moved hW.alike, fun q hq => (h2 q hq).warm hW, ⟨((h3.kept hk).narrow hA).moved hW.alike, ((h4.kept hk).narrow hA).moved hW.alike⟩, ((h5.kept hk).narrow hA).moved hW.alike, h6.imp (fun h => ((h.kept hk).narrow hA).moved hW.alike) (fun h => ((h.kept hk).narrow hA).moved hW.alike), fun q hq => (h7 q hq).warmC hW, fun q hq => (h8 q hq).moved hW.alike, fun q hq => (h9 q hq).warmM hW, h10.moved hW.alike, fun q hq => (h11 q hq).warmD hW⟩
theorem am_B.blind {ad : Nat → Nat} {A : Nat → Prop} {U V : State} (hv : V.vm = U.vm) (hh : V.heap = U.heap) (h : am_B ad A U U.heap) : am_B ad A V V.heap := by
  have ha : U.vm.Alike V.vm := by rw [hv]; exact Vm.Alike.refl U.vm
  obtain ⟨h1, h2, ⟨h3, h4⟩, h5, h6, h7, h8, h9, h10, h11⟩ := h
  rw [hh]
  refine ⟨fun i hi => (h1 i hi).moved ha, fun q hq => (h2 q hq).same hv, ⟨h3.moved ha, h4.moved ha⟩, h5.moved ha, h6.imp (fun h => h.moved ha) (fun h => h.moved ha), fun q hq => (h7 q hq).same rfl hv.symm, fun q hq => (h8 q hq).moved ha, fun q hq => (h9 q hq).same rfl hv.symm, h10.moved ha, fun q hq => (h11 q hq).same rfl hv.symm⟩
/-! THE POINT OF A WALK -/
abbrev am_X : Type := Program × Launch × Env × Room × State × MethodId × Array Value × List Frame × Method × Code × va_G × am_Gt × (Nat → Nat) × (Nat → Prop)
abbrev am_O : Type := Option Value ⊕ String
def am_V (X : am_X) (ly : Ly) (M : Mm) (ce sl : Nat) (Q : State → Prop) (pc : Nat) (L : List (Option Value)) (st : List Value) : Prop := match X with
  | (p, l, e, R, s, m, args, below, meth, c, D, G, ad, A) => ∀ (H : Heap) (locs : List Loc) (ls : Array Slot), va_P D vwCl (am_w G ad ly M) H → va_D A (am_w G ad ly M) → va_S A s.heap H locs → am_L ad ls L → c.maxLocals = L.length → W p l e R s m args below meth c H locs ce sl Q (F0 m pc ls (st.map (am_c ad)))
def am_C (X : am_X) (l0 : Launch) (R0 : Room) (cc : ByteArray) (own : String) (ret : Option FieldType) : Prop := match X with
  | (p, l, e, R, s, m, args, below, meth, c, D, G, ad, A) => p.tables.exec = Jvm.exec ∧ c.code = cc ∧ s.vm.findClass own = some m.cls ∧ (∀ w ∈ am_T, w.before args s = true) ∧ va_K D vwCl (am_tys G) s ∧ (∀ q, s.heap.size ≤ q → A q) ∧ meth.locks = false ∧ am_B ad A s s.heap ∧ meth.sig.returnType = ret ∧ l = l0 ∧ R = R0
def am_Wd (D : va_G) (G : am_Gt) (ad : Nat → Nat) (A : Nat → Prop) (ly : Ly) (M : Mm) (t : State) : Prop := va_P D vwCl (am_w G ad ly M) t.heap ∧ va_K D vwCl (am_tys G) t ∧ va_D A (am_w G ad ly M)
def am_Qc (D : va_G) (G : am_Gt) (ad : Nat → Nat) (A : Nat → Prop) (ly : Ly) (M : Mm) (o : am_O) : Array Value → State → Outcome → State → Prop := fun _ st oc t => (∃ v, o = .inl v ∧ oc = .returned v ∧ am_Wd D G ad A ly M t) ∧ va_F A st t
def am_XC (D : va_G) (G : am_Gt) (ad : Nat → Nat) (A : Nat → Prop) (ly : Ly) (M : Mm) (o : am_O) : String → State → State → Prop := fun E st t => o = .inr E ∧ am_Wd D G ad A ly M t ∧ va_F A st t
def am_Q (X : am_X) (ly : Ly) (mc ms : Nat) (o : am_O) (M : Mm) : State → Prop := match X with
  | (_, _, _, _, s, _, args, below, _, _, D, G, ad, A) => vx_MQ below (am_Qc D G ad A ly M o) (am_XC D G ad A ly M o) args s mc ms A
def am_Pc (D : va_G) (G : am_Gt) (ad : Nat → Nat) (ly : Ly) (M : Mm) (sz : Nat) (av : List Value) : Array Value → State → Prop := va_Pc (av.map (am_c ad)) (fun U => U.heap.size = sz ∧ va_P D vwCl (am_w G ad ly M) U.heap ∧ va_K D vwCl (am_tys G) U ∧ va_D (fun _ => True) (am_w G ad ly M) ∧ am_B ad (va_A (am_w G ad ly M) sz) U U.heap)
def am_rm (d mc ms : Nat) : Room := { frames := d, cells := mc, slots := ms, locals := 41 * d }
/-- a method's contract at one start: from these arguments in this memory it ends so, with that memory -/
def am_M (l : Launch) (y : MethodName) (cc : ByteArray) (nL : Nat) (ret : Option FieldType) (d mc ms : Nat) (ly : Ly) (M : Mm) (av : List Value) (o : am_O) (M' : Mm) : Prop :=
  ∀ (D : va_G) (G : am_Gt) (ad : Nat → Nat) (sz : Nat), vx_Met l y (.code y cc nL ret :: am_T) (am_rm d mc ms) (am_Pc D G ad ly M sz av) (am_Qc D G ad (va_A (am_w G ad ly M) sz) ly M' o) (am_XC D G ad (va_A (am_w G ad ly M) sz) ly M' o) mc ms (va_A (am_w G ad ly M) sz)
def am_loc (av : List Value) (nL : Nat) : List (Option Value) := av.map some ++ List.replicate (nL - av.length) none
section AMR
variable {X : am_X} {l0 : Launch} {R0 : Room} {cc : ByteArray} {own : String} {ret : Option FieldType} {ly : Ly} {M : Mm} {ce sl : Nat} {Q : State → Prop} {pc : Nat} {L : List (Option Value)} {st : List Value}
theorem v_iconst (hC : am_C X l0 R0 cc own ret) {n : Int} {v : Int32} (hd : decode cc pc = .ok (.iconst n, 1)) (hv : Int32.ofInt n = v) (k : am_V X ly M ce sl Q (pc + 1) L (.int v :: st)) : am_V X ly M ce sl Q pc L st := by
  obtain ⟨p, l, e, R, s, m, args, below, meth, c, D, G, ad, A⟩ := X
  obtain ⟨hx, hb, hown, hts, hK, hA, hlk, hB, hr, rfl, rfl⟩ := hC
  intro H locs ls hP hD hS hL hm
  exact lv_iconst hx hb hd hv (k H locs ls hP hD hS hL hm)

theorem v_bipush (hC : am_C X l0 R0 cc own ret) {n : Int} {v : Int32} (hd : decode cc pc = .ok (.bipush n, 2)) (hv : (Int8.ofInt n).toInt32 = v) (k : am_V X ly M ce sl Q (pc + 2) L (.int v :: st)) : am_V X ly M ce sl Q pc L st := by
  obtain ⟨p, l, e, R, s, m, args, below, meth, c, D, G, ad, A⟩ := X
  obtain ⟨hx, hb, hown, hts, hK, hA, hlk, hB, hr, rfl, rfl⟩ := hC
  intro H locs ls hP hD hS hL hm
  exact lv_bipush hx hb hd hv (k H locs ls hP hD hS hL hm)

theorem v_sipush (hC : am_C X l0 R0 cc own ret) {n : Int} {v : Int32} (hd : decode cc pc = .ok (.sipush n, 3)) (hv : (Int16.ofInt n).toInt32 = v) (k : am_V X ly M ce sl Q (pc + 3) L (.int v :: st)) : am_V X ly M ce sl Q pc L st := by
  obtain ⟨p, l, e, R, s, m, args, below, meth, c, D, G, ad, A⟩ := X
  obtain ⟨hx, hb, hown, hts, hK, hA, hlk, hB, hr, rfl, rfl⟩ := hC
  intro H locs ls hP hD hS hL hm
  exact lv_sipush hx hb hd hv (k H locs ls hP hD hS hL hm)

theorem v_ldc (hC : am_C X l0 R0 cc own ret) {ix : Nat} {v : Int32} (hw : Cond.constant own ix v ∈ am_T) (hd : decode cc pc = .ok (.ldc ix, 2)) (k : am_V X ly M ce sl Q (pc + 2) L (.int v :: st)) : am_V X ly M ce sl Q pc L st := by
  obtain ⟨p, l, e, R, s, m, args, below, meth, c, D, G, ad, A⟩ := X
  obtain ⟨hx, hb, hown, hts, hK, hA, hlk, hB, hr, rfl, rfl⟩ := hC
  intro H locs ls hP hD hS hL hm
  exact lv_ldc hx hb hown (hts _ hw) hd (k H locs ls hP hD hS hL hm)

theorem v_ldcw (hC : am_C X l0 R0 cc own ret) {ix : Nat} {v : Int32} (hw : Cond.constant own ix v ∈ am_T) (hd : decode cc pc = .ok (.ldc_w ix, 3)) (k : am_V X ly M ce sl Q (pc + 3) L (.int v :: st)) : am_V X ly M ce sl Q pc L st := by
  obtain ⟨p, l, e, R, s, m, args, below, meth, c, D, G, ad, A⟩ := X
  obtain ⟨hx, hb, hown, hts, hK, hA, hlk, hB, hr, rfl, rfl⟩ := hC
  intro H locs ls hP hD hS hL hm
  exact lv_ldcw hx hb hown (hts _ hw) hd (k H locs ls hP hD hS hL hm)

theorem v_iload_n (hC : am_C X l0 R0 cc own ret) {j : Fin 4} {x : Int32} (hd : decode cc pc = .ok (.iload_n j, 1)) (hv : L[(j : Nat)]? = some (some (.int x))) (k : am_V X ly M ce sl Q (pc + 1) L (.int x :: st)) : am_V X ly M ce sl Q pc L st := by
  obtain ⟨p, l, e, R, s, m, args, below, meth, c, D, G, ad, A⟩ := X
  obtain ⟨hx, hb, hown, hts, hK, hA, hlk, hB, hr, rfl, rfl⟩ := hC
  intro H locs ls hP hD hS hL hm
  exact lv_iload_n hx hb hd rfl (hL.2.2.1 _ _ hv) (k H locs ls hP hD hS hL hm)

theorem v_iload (hC : am_C X l0 R0 cc own ret) {j : Nat} {x : Int32} (hd : decode cc pc = .ok (.iload j, 2)) (hv : L[j]? = some (some (.int x))) (k : am_V X ly M ce sl Q (pc + 2) L (.int x :: st)) : am_V X ly M ce sl Q pc L st := by
  obtain ⟨p, l, e, R, s, m, args, below, meth, c, D, G, ad, A⟩ := X
  obtain ⟨hx, hb, hown, hts, hK, hA, hlk, hB, hr, rfl, rfl⟩ := hC
  intro H locs ls hP hD hS hL hm
  exact lv_iload hx hb hd (hL.2.2.1 _ _ hv) (k H locs ls hP hD hS hL hm)

theorem v_istore_n (hC : am_C X l0 R0 cc own ret) {j : Fin 4} {x : Int32} (hd : decode cc pc = .ok (.istore_n j, 1)) (hn : (j : Nat) < L.length) (k : am_V X ly M ce sl Q (pc + 1) (L.set j (some (.int x))) st) : am_V X ly M ce sl Q pc L (.int x :: st) := by
  obtain ⟨p, l, e, R, s, m, args, below, meth, c, D, G, ad, A⟩ := X
  obtain ⟨hx, hb, hown, hts, hK, hA, hlk, hB, hr, rfl, rfl⟩ := hC
  intro H locs ls hP hD hS hL hm
  exact lv_istore_n hx hb hd rfl hL.has hn rfl (fun ls1 h1 => k H locs ls1 hP hD hS (hL.store (v := .int x) rfl h1 hn) (by rw [List.length_set]; exact hm))

theorem v_istore (hC : am_C X l0 R0 cc own ret) {j : Nat} {x : Int32} (hd : decode cc pc = .ok (.istore j, 2)) (hn : j < L.length) (k : am_V X ly M ce sl Q (pc + 2) (L.set j (some (.int x))) st) : am_V X ly M ce sl Q pc L (.int x :: st) := by
  obtain ⟨p, l, e, R, s, m, args, below, meth, c, D, G, ad, A⟩ := X
  obtain ⟨hx, hb, hown, hts, hK, hA, hlk, hB, hr, rfl, rfl⟩ := hC
  intro H locs ls hP hD hS hL hm
  exact lv_istore hx hb hd hL.has hn rfl (fun ls1 h1 => k H locs ls1 hP hD hS (hL.store (v := .int x) rfl h1 hn) (by rw [List.length_set]; exact hm))

theorem v_aload_n (hC : am_C X l0 R0 cc own ret) {j : Fin 4} {x : Nat} (hd : decode cc pc = .ok (.aload_n j, 1)) (hv : L[(j : Nat)]? = some (some (.ref x))) (k : am_V X ly M ce sl Q (pc + 1) L (.ref x :: st)) : am_V X ly M ce sl Q pc L st := by
  obtain ⟨p, l, e, R, s, m, args, below, meth, c, D, G, ad, A⟩ := X
  obtain ⟨hx, hb, hown, hts, hK, hA, hlk, hB, hr, rfl, rfl⟩ := hC
  intro H locs ls hP hD hS hL hm
  exact lv_aload_n hx hb hd rfl (hL.2.2.1 _ _ hv) (k H locs ls hP hD hS hL hm)

theorem v_aload (hC : am_C X l0 R0 cc own ret) {j : Nat} {x : Nat} (hd : decode cc pc = .ok (.aload j, 2)) (hv : L[j]? = some (some (.ref x))) (k : am_V X ly M ce sl Q (pc + 2) L (.ref x :: st)) : am_V X ly M ce sl Q pc L st := by
  obtain ⟨p, l, e, R, s, m, args, below, meth, c, D, G, ad, A⟩ := X
  obtain ⟨hx, hb, hown, hts, hK, hA, hlk, hB, hr, rfl, rfl⟩ := hC
  intro H locs ls hP hD hS hL hm
  exact lv_aload hx hb hd (hL.2.2.1 _ _ hv) (k H locs ls hP hD hS hL hm)

theorem v_astore_n (hC : am_C X l0 R0 cc own ret) {j : Fin 4} {x : Nat} (hd : decode cc pc = .ok (.astore_n j, 1)) (hn : (j : Nat) < L.length) (k : am_V X ly M ce sl Q (pc + 1) (L.set j (some (.ref x))) st) : am_V X ly M ce sl Q pc L (.ref x :: st) := by
  obtain ⟨p, l, e, R, s, m, args, below, meth, c, D, G, ad, A⟩ := X
  obtain ⟨hx, hb, hown, hts, hK, hA, hlk, hB, hr, rfl, rfl⟩ := hC
  intro H locs ls hP hD hS hL hm
  exact lv_astore_n hx hb hd rfl hL.has hn rfl (fun ls1 h1 => k H locs ls1 hP hD hS (hL.store (v := .ref x) rfl h1 hn) (by rw [List.length_set]; exact hm))

theorem v_astore (hC : am_C X l0 R0 cc own ret) {j : Nat} {x : Nat} (hd : decode cc pc = .ok (.astore j, 2)) (hn : j < L.length) (k : am_V X ly M ce sl Q (pc + 2) (L.set j (some (.ref x))) st) : am_V X ly M ce sl Q pc L (.ref x :: st) := by
  obtain ⟨p, l, e, R, s, m, args, below, meth, c, D, G, ad, A⟩ := X
  obtain ⟨hx, hb, hown, hts, hK, hA, hlk, hB, hr, rfl, rfl⟩ := hC
  intro H locs ls hP hD hS hL hm
  exact lv_astore hx hb hd hL.has hn rfl (fun ls1 h1 => k H locs ls1 hP hD hS (hL.store (v := .ref x) rfl h1 hn) (by rw [List.length_set]; exact hm))

theorem v_aload_nN (hC : am_C X l0 R0 cc own ret) {j : Fin 4} (hd : decode cc pc = .ok (.aload_n j, 1)) (hv : L[(j : Nat)]? = some (some (.null))) (k : am_V X ly M ce sl Q (pc + 1) L (.null :: st)) : am_V X ly M ce sl Q pc L st := by
  obtain ⟨p, l, e, R, s, m, args, below, meth, c, D, G, ad, A⟩ := X
  obtain ⟨hx, hb, hown, hts, hK, hA, hlk, hB, hr, rfl, rfl⟩ := hC
  intro H locs ls hP hD hS hL hm
  exact lv_aload_nN hx hb hd rfl (hL.2.2.1 _ _ hv) (k H locs ls hP hD hS hL hm)

theorem v_iinc (hC : am_C X l0 R0 cc own ret) {j : Nat} {n : Int} {x v : Int32} (hd : decode cc pc = .ok (.iinc j n, 3)) (hv : L[j]? = some (some (.int x))) (hw : x + Int32.ofInt n = v) (k : am_V X ly M ce sl Q (pc + 3) (L.set j (some (.int v))) st) : am_V X ly M ce sl Q pc L st := by
  obtain ⟨p, l, e, R, s, m, args, below, meth, c, D, G, ad, A⟩ := X
  obtain ⟨hx, hb, hown, hts, hK, hA, hlk, hB, hr, rfl, rfl⟩ := hC
  intro H locs ls hP hD hS hL hm
  have hn : j < L.length := by
    rcases Nat.lt_or_ge j L.length with z | z
    · exact z
    · rw [List.getElem?_eq_none z] at hv; cases hv
  obtain ⟨i9, h9⟩ := List.getElem?_of_mem (am_al_mem (ad := ad) (q := (j, .int x)) |>.mpr ⟨.int x, hv, rfl⟩)
  exact lv_iinc hx hb hd hL.has h9 hw hn rfl (fun ls1 h1 => k H locs ls1 hP hD hS (hL.store (v := .int v) rfl h1 hn) (by rw [List.length_set]; exact hm))

theorem v_iadd (hC : am_C X l0 R0 cc own ret) {x y : Int32} (hd : decode cc pc = .ok (.iadd, 1)) (k : am_V X ly M ce sl Q (pc + 1) L (.int (x + y) :: st)) : am_V X ly M ce sl Q pc L (.int y :: .int x :: st) := by
  obtain ⟨p, l, e, R, s, m, args, below, meth, c, D, G, ad, A⟩ := X
  obtain ⟨hx, hb, hown, hts, hK, hA, hlk, hB, hr, rfl, rfl⟩ := hC
  intro H locs ls hP hD hS hL hm
  exact lv_iadd hx hb hd (k H locs ls hP hD hS hL hm)

theorem v_isub (hC : am_C X l0 R0 cc own ret) {x y : Int32} (hd : decode cc pc = .ok (.isub, 1)) (k : am_V X ly M ce sl Q (pc + 1) L (.int (x - y) :: st)) : am_V X ly M ce sl Q pc L (.int y :: .int x :: st) := by
  obtain ⟨p, l, e, R, s, m, args, below, meth, c, D, G, ad, A⟩ := X
  obtain ⟨hx, hb, hown, hts, hK, hA, hlk, hB, hr, rfl, rfl⟩ := hC
  intro H locs ls hP hD hS hL hm
  exact lv_isub hx hb hd (k H locs ls hP hD hS hL hm)

theorem v_imul (hC : am_C X l0 R0 cc own ret) {x y : Int32} (hd : decode cc pc = .ok (.imul, 1)) (k : am_V X ly M ce sl Q (pc + 1) L (.int (x * y) :: st)) : am_V X ly M ce sl Q pc L (.int y :: .int x :: st) := by
  obtain ⟨p, l, e, R, s, m, args, below, meth, c, D, G, ad, A⟩ := X
  obtain ⟨hx, hb, hown, hts, hK, hA, hlk, hB, hr, rfl, rfl⟩ := hC
  intro H locs ls hP hD hS hL hm
  exact lv_imul hx hb hd (k H locs ls hP hD hS hL hm)

theorem v_iand (hC : am_C X l0 R0 cc own ret) {x y : Int32} (hd : decode cc pc = .ok (.iand, 1)) (k : am_V X ly M ce sl Q (pc + 1) L (.int (x &&& y) :: st)) : am_V X ly M ce sl Q pc L (.int y :: .int x :: st) := by
  obtain ⟨p, l, e, R, s, m, args, below, meth, c, D, G, ad, A⟩ := X
  obtain ⟨hx, hb, hown, hts, hK, hA, hlk, hB, hr, rfl, rfl⟩ := hC
  intro H locs ls hP hD hS hL hm
  exact lv_iand hx hb hd (k H locs ls hP hD hS hL hm)

theorem v_ior (hC : am_C X l0 R0 cc own ret) {x y : Int32} (hd : decode cc pc = .ok (.ior, 1)) (k : am_V X ly M ce sl Q (pc + 1) L (.int (x ||| y) :: st)) : am_V X ly M ce sl Q pc L (.int y :: .int x :: st) := by
  obtain ⟨p, l, e, R, s, m, args, below, meth, c, D, G, ad, A⟩ := X
  obtain ⟨hx, hb, hown, hts, hK, hA, hlk, hB, hr, rfl, rfl⟩ := hC
  intro H locs ls hP hD hS hL hm
  exact lv_ior hx hb hd (k H locs ls hP hD hS hL hm)

theorem v_ixor (hC : am_C X l0 R0 cc own ret) {x y : Int32} (hd : decode cc pc = .ok (.ixor, 1)) (k : am_V X ly M ce sl Q (pc + 1) L (.int (x ^^^ y) :: st)) : am_V X ly M ce sl Q pc L (.int y :: .int x :: st) := by
  obtain ⟨p, l, e, R, s, m, args, below, meth, c, D, G, ad, A⟩ := X
  obtain ⟨hx, hb, hown, hts, hK, hA, hlk, hB, hr, rfl, rfl⟩ := hC
  intro H locs ls hP hD hS hL hm
  exact lv_ixor hx hb hd (k H locs ls hP hD hS hL hm)

theorem v_ishl (hC : am_C X l0 R0 cc own ret) {x y : Int32} (hd : decode cc pc = .ok (.ishl, 1)) (k : am_V X ly M ce sl Q (pc + 1) L (.int (x <<< (y &&& 31)) :: st)) : am_V X ly M ce sl Q pc L (.int y :: .int x :: st) := by
  obtain ⟨p, l, e, R, s, m, args, below, meth, c, D, G, ad, A⟩ := X
  obtain ⟨hx, hb, hown, hts, hK, hA, hlk, hB, hr, rfl, rfl⟩ := hC
  intro H locs ls hP hD hS hL hm
  exact lv_ishl hx hb hd (k H locs ls hP hD hS hL hm)

theorem v_ishr (hC : am_C X l0 R0 cc own ret) {x y : Int32} (hd : decode cc pc = .ok (.ishr, 1)) (k : am_V X ly M ce sl Q (pc + 1) L (.int (x >>> (y &&& 31)) :: st)) : am_V X ly M ce sl Q pc L (.int y :: .int x :: st) := by
  obtain ⟨p, l, e, R, s, m, args, below, meth, c, D, G, ad, A⟩ := X
  obtain ⟨hx, hb, hown, hts, hK, hA, hlk, hB, hr, rfl, rfl⟩ := hC
  intro H locs ls hP hD hS hL hm
  exact lv_ishr hx hb hd (k H locs ls hP hD hS hL hm)

theorem v_iushr (hC : am_C X l0 R0 cc own ret) {x y : Int32} (hd : decode cc pc = .ok (.iushr, 1)) (k : am_V X ly M ce sl Q (pc + 1) L (.int ((x.toUInt32 >>> (y.toUInt32 &&& Int32.toUInt32 31)).toInt32) :: st)) : am_V X ly M ce sl Q pc L (.int y :: .int x :: st) := by
  obtain ⟨p, l, e, R, s, m, args, below, meth, c, D, G, ad, A⟩ := X
  obtain ⟨hx, hb, hown, hts, hK, hA, hlk, hB, hr, rfl, rfl⟩ := hC
  intro H locs ls hP hD hS hL hm
  exact lv_iushr hx hb hd rfl (k H locs ls hP hD hS hL hm)

theorem v_idiv (hC : am_C X l0 R0 cc own ret) {x y : Int32} (hd : decode cc pc = .ok (.idiv, 1)) (hy : ¬ y = 0) (k : am_V X ly M ce sl Q (pc + 1) L (.int (x / y) :: st)) : am_V X ly M ce sl Q pc L (.int y :: .int x :: st) := by
  obtain ⟨p, l, e, R, s, m, args, below, meth, c, D, G, ad, A⟩ := X
  obtain ⟨hx, hb, hown, hts, hK, hA, hlk, hB, hr, rfl, rfl⟩ := hC
  intro H locs ls hP hD hS hL hm
  exact lv_idiv hx hb hd hy (k H locs ls hP hD hS hL hm)

theorem v_irem (hC : am_C X l0 R0 cc own ret) {x y : Int32} (hd : decode cc pc = .ok (.irem, 1)) (hy : ¬ y = 0) (k : am_V X ly M ce sl Q (pc + 1) L (.int (x - x / y * y) :: st)) : am_V X ly M ce sl Q pc L (.int y :: .int x :: st) := by
  obtain ⟨p, l, e, R, s, m, args, below, meth, c, D, G, ad, A⟩ := X
  obtain ⟨hx, hb, hown, hts, hK, hA, hlk, hB, hr, rfl, rfl⟩ := hC
  intro H locs ls hP hD hS hL hm
  exact lv_irem hx hb hd hy (k H locs ls hP hD hS hL hm)

theorem v_i2b (hC : am_C X l0 R0 cc own ret) {x : Int32} (hd : decode cc pc = .ok (.i2b, 1)) (k : am_V X ly M ce sl Q (pc + 1) L (.int x.toInt8.toInt32 :: st)) : am_V X ly M ce sl Q pc L (.int x :: st) := by
  obtain ⟨p, l, e, R, s, m, args, below, meth, c, D, G, ad, A⟩ := X
  obtain ⟨hx, hb, hown, hts, hK, hA, hlk, hB, hr, rfl, rfl⟩ := hC
  intro H locs ls hP hD hS hL hm
  exact lv_i2b hx hb hd rfl (k H locs ls hP hD hS hL hm)

theorem v_i2l (hC : am_C X l0 R0 cc own ret) {x : Int32} (hd : decode cc pc = .ok (.i2l, 1)) (k : am_V X ly M ce sl Q (pc + 1) L (.long x.toInt64 :: st)) : am_V X ly M ce sl Q pc L (.int x :: st) := by
  obtain ⟨p, l, e, R, s, m, args, below, meth, c, D, G, ad, A⟩ := X
  obtain ⟨hx, hb, hown, hts, hK, hA, hlk, hB, hr, rfl, rfl⟩ := hC
  intro H locs ls hP hD hS hL hm
  exact lv_i2l hx hb hd rfl (k H locs ls hP hD hS hL hm)

theorem v_lcmp (hC : am_C X l0 R0 cc own ret) {x y : Int64} (hd : decode cc pc = .ok (.lcmp, 1)) (k : am_V X ly M ce sl Q (pc + 1) L (.int (lg_cmp x y) :: st)) : am_V X ly M ce sl Q pc L (.long y :: .long x :: st) := by
  obtain ⟨p, l, e, R, s, m, args, below, meth, c, D, G, ad, A⟩ := X
  obtain ⟨hx, hb, hown, hts, hK, hA, hlk, hB, hr, rfl, rfl⟩ := hC
  intro H locs ls hP hD hS hL hm
  exact W.lcmp hx hb hd (k H locs ls hP hD hS hL hm)

theorem v_lconst (hC : am_C X l0 R0 cc own ret) {n : Fin 2} {v : Int64} (hd : decode cc pc = .ok (.lconst n, 1)) (hv : Int64.ofNat (n : Nat) = v) (k : am_V X ly M ce sl Q (pc + 1) L (.long v :: st)) : am_V X ly M ce sl Q pc L st := by
  obtain ⟨p, l, e, R, s, m, args, below, meth, c, D, G, ad, A⟩ := X
  obtain ⟨hx, hb, hown, hts, hK, hA, hlk, hB, hr, rfl, rfl⟩ := hC
  intro H locs ls hP hD hS hL hm
  exact lv_lconst hx hb hd hv (k H locs ls hP hD hS hL hm)

theorem v_dup (hC : am_C X l0 R0 cc own ret) {v : Value} (hd : decode cc pc = .ok (.dup, 1)) (hv : v.category = 1) (k : am_V X ly M ce sl Q (pc + 1) L (v :: v :: st)) : am_V X ly M ce sl Q pc L (v :: st) := by
  obtain ⟨p, l, e, R, s, m, args, below, meth, c, D, G, ad, A⟩ := X
  obtain ⟨hx, hb, hown, hts, hK, hA, hlk, hB, hr, rfl, rfl⟩ := hC
  intro H locs ls hP hD hS hL hm
  exact lv_dup hx hb hd (am_c_cat.trans hv) (k H locs ls hP hD hS hL hm)

theorem v_dup2 (hC : am_C X l0 R0 cc own ret) {v w : Value} (hd : decode cc pc = .ok (.dup2, 1)) (hv : v.category = 1) (hw : w.category = 1) (k : am_V X ly M ce sl Q (pc + 1) L (v :: w :: v :: w :: st)) : am_V X ly M ce sl Q pc L (v :: w :: st) := by
  obtain ⟨p, l, e, R, s, m, args, below, meth, c, D, G, ad, A⟩ := X
  obtain ⟨hx, hb, hown, hts, hK, hA, hlk, hB, hr, rfl, rfl⟩ := hC
  intro H locs ls hP hD hS hL hm
  exact lv_dup2_11 hx hb hd (am_c_cat.trans hv) (am_c_cat.trans hw) (k H locs ls hP hD hS hL hm)

theorem v_pop (hC : am_C X l0 R0 cc own ret) {v : Value} (hd : decode cc pc = .ok (.pop, 1)) (hv : v.category = 1) (k : am_V X ly M ce sl Q (pc + 1) L st) : am_V X ly M ce sl Q pc L (v :: st) := by
  obtain ⟨p, l, e, R, s, m, args, below, meth, c, D, G, ad, A⟩ := X
  obtain ⟨hx, hb, hown, hts, hK, hA, hlk, hB, hr, rfl, rfl⟩ := hC
  intro H locs ls hP hD hS hL hm
  exact lv_pop hx hb hd (am_c_cat.trans hv) (k H locs ls hP hD hS hL hm)

theorem v_null (hC : am_C X l0 R0 cc own ret) (hd : decode cc pc = .ok (.aconst_null, 1)) (k : am_V X ly M ce sl Q (pc + 1) L (.null :: st)) : am_V X ly M ce sl Q pc L st := by
  obtain ⟨p, l, e, R, s, m, args, below, meth, c, D, G, ad, A⟩ := X
  obtain ⟨hx, hb, hown, hts, hK, hA, hlk, hB, hr, rfl, rfl⟩ := hC
  intro H locs ls hP hD hS hL hm
  exact lv_null hx hb hd (k H locs ls hP hD hS hL hm)

theorem v_if_eq (hC : am_C X l0 R0 cc own ret) {x : Int32} {off : Int} (tg : Nat) (hd : decode cc pc = .ok (.ifCond .eq off, 3)) (ht : (pc : Int) + off = (tg : Int)) (kt : x = 0 → am_V X ly M ce sl Q tg L st) (kf : ¬ x = 0 → am_V X ly M ce sl Q (pc + 3) L st) : am_V X ly M ce sl Q pc L (.int x :: st) := by
  obtain ⟨p, l, e, R, s, m, args, below, meth, c, D, G, ad, A⟩ := X
  obtain ⟨hx, hb, hown, hts, hK, hA, hlk, hB, hr, rfl, rfl⟩ := hC
  intro H locs ls hP hD hS hL hm
  exact lv_if_eq hx hb hd ht (fun z => kt z H locs ls hP hD hS hL hm) (fun z => kf z H locs ls hP hD hS hL hm)

theorem v_icmp_eq (hC : am_C X l0 R0 cc own ret) {x y : Int32} {off : Int} (tg : Nat) (hd : decode cc pc = .ok (.if_icmp .eq off, 3)) (ht : (pc : Int) + off = (tg : Int)) (kt : x = y → am_V X ly M ce sl Q tg L st) (kf : ¬ x = y → am_V X ly M ce sl Q (pc + 3) L st) : am_V X ly M ce sl Q pc L (.int y :: .int x :: st) := by
  obtain ⟨p, l, e, R, s, m, args, below, meth, c, D, G, ad, A⟩ := X
  obtain ⟨hx, hb, hown, hts, hK, hA, hlk, hB, hr, rfl, rfl⟩ := hC
  intro H locs ls hP hD hS hL hm
  exact lv_icmp_eq hx hb hd ht (fun z => kt z H locs ls hP hD hS hL hm) (fun z => kf z H locs ls hP hD hS hL hm)

theorem v_if_ne (hC : am_C X l0 R0 cc own ret) {x : Int32} {off : Int} (tg : Nat) (hd : decode cc pc = .ok (.ifCond .ne off, 3)) (ht : (pc : Int) + off = (tg : Int)) (kt : ¬ x = 0 → am_V X ly M ce sl Q tg L st) (kf : x = 0 → am_V X ly M ce sl Q (pc + 3) L st) : am_V X ly M ce sl Q pc L (.int x :: st) := by
  obtain ⟨p, l, e, R, s, m, args, below, meth, c, D, G, ad, A⟩ := X
  obtain ⟨hx, hb, hown, hts, hK, hA, hlk, hB, hr, rfl, rfl⟩ := hC
  intro H locs ls hP hD hS hL hm
  exact lv_if_ne hx hb hd ht (fun z => kt z H locs ls hP hD hS hL hm) (fun z => kf z H locs ls hP hD hS hL hm)

theorem v_icmp_ne (hC : am_C X l0 R0 cc own ret) {x y : Int32} {off : Int} (tg : Nat) (hd : decode cc pc = .ok (.if_icmp .ne off, 3)) (ht : (pc : Int) + off = (tg : Int)) (kt : ¬ x = y → am_V X ly M ce sl Q tg L st) (kf : x = y → am_V X ly M ce sl Q (pc + 3) L st) : am_V X ly M ce sl Q pc L (.int y :: .int x :: st) := by
  obtain ⟨p, l, e, R, s, m, args, below, meth, c, D, G, ad, A⟩ := X
  obtain ⟨hx, hb, hown, hts, hK, hA, hlk, hB, hr, rfl, rfl⟩ := hC
  intro H locs ls hP hD hS hL hm
  exact lv_icmp_ne hx hb hd ht (fun z => kt z H locs ls hP hD hS hL hm) (fun z => kf z H locs ls hP hD hS hL hm)

theorem v_if_lt (hC : am_C X l0 R0 cc own ret) {x : Int32} {off : Int} (tg : Nat) (hd : decode cc pc = .ok (.ifCond .lt off, 3)) (ht : (pc : Int) + off = (tg : Int)) (kt : x < 0 → am_V X ly M ce sl Q tg L st) (kf : ¬ x < 0 → am_V X ly M ce sl Q (pc + 3) L st) : am_V X ly M ce sl Q pc L (.int x :: st) := by
  obtain ⟨p, l, e, R, s, m, args, below, meth, c, D, G, ad, A⟩ := X
  obtain ⟨hx, hb, hown, hts, hK, hA, hlk, hB, hr, rfl, rfl⟩ := hC
  intro H locs ls hP hD hS hL hm
  exact lv_if_lt hx hb hd ht (fun z => kt z H locs ls hP hD hS hL hm) (fun z => kf z H locs ls hP hD hS hL hm)

theorem v_icmp_lt (hC : am_C X l0 R0 cc own ret) {x y : Int32} {off : Int} (tg : Nat) (hd : decode cc pc = .ok (.if_icmp .lt off, 3)) (ht : (pc : Int) + off = (tg : Int)) (kt : x < y → am_V X ly M ce sl Q tg L st) (kf : ¬ x < y → am_V X ly M ce sl Q (pc + 3) L st) : am_V X ly M ce sl Q pc L (.int y :: .int x :: st) := by
  obtain ⟨p, l, e, R, s, m, args, below, meth, c, D, G, ad, A⟩ := X
  obtain ⟨hx, hb, hown, hts, hK, hA, hlk, hB, hr, rfl, rfl⟩ := hC
  intro H locs ls hP hD hS hL hm
  exact lv_icmp_lt hx hb hd ht (fun z => kt z H locs ls hP hD hS hL hm) (fun z => kf z H locs ls hP hD hS hL hm)

theorem v_if_ge (hC : am_C X l0 R0 cc own ret) {x : Int32} {off : Int} (tg : Nat) (hd : decode cc pc = .ok (.ifCond .ge off, 3)) (ht : (pc : Int) + off = (tg : Int)) (kt : 0 ≤ x → am_V X ly M ce sl Q tg L st) (kf : ¬ 0 ≤ x → am_V X ly M ce sl Q (pc + 3) L st) : am_V X ly M ce sl Q pc L (.int x :: st) := by
  obtain ⟨p, l, e, R, s, m, args, below, meth, c, D, G, ad, A⟩ := X
  obtain ⟨hx, hb, hown, hts, hK, hA, hlk, hB, hr, rfl, rfl⟩ := hC
  intro H locs ls hP hD hS hL hm
  exact lv_if_ge hx hb hd ht (fun z => kt z H locs ls hP hD hS hL hm) (fun z => kf z H locs ls hP hD hS hL hm)

theorem v_icmp_ge (hC : am_C X l0 R0 cc own ret) {x y : Int32} {off : Int} (tg : Nat) (hd : decode cc pc = .ok (.if_icmp .ge off, 3)) (ht : (pc : Int) + off = (tg : Int)) (kt : y ≤ x → am_V X ly M ce sl Q tg L st) (kf : ¬ y ≤ x → am_V X ly M ce sl Q (pc + 3) L st) : am_V X ly M ce sl Q pc L (.int y :: .int x :: st) := by
  obtain ⟨p, l, e, R, s, m, args, below, meth, c, D, G, ad, A⟩ := X
  obtain ⟨hx, hb, hown, hts, hK, hA, hlk, hB, hr, rfl, rfl⟩ := hC
  intro H locs ls hP hD hS hL hm
  exact lv_icmp_ge hx hb hd ht (fun z => kt z H locs ls hP hD hS hL hm) (fun z => kf z H locs ls hP hD hS hL hm)

theorem v_if_gt (hC : am_C X l0 R0 cc own ret) {x : Int32} {off : Int} (tg : Nat) (hd : decode cc pc = .ok (.ifCond .gt off, 3)) (ht : (pc : Int) + off = (tg : Int)) (kt : 0 < x → am_V X ly M ce sl Q tg L st) (kf : ¬ 0 < x → am_V X ly M ce sl Q (pc + 3) L st) : am_V X ly M ce sl Q pc L (.int x :: st) := by
  obtain ⟨p, l, e, R, s, m, args, below, meth, c, D, G, ad, A⟩ := X
  obtain ⟨hx, hb, hown, hts, hK, hA, hlk, hB, hr, rfl, rfl⟩ := hC
  intro H locs ls hP hD hS hL hm
  exact lv_if_gt hx hb hd ht (fun z => kt z H locs ls hP hD hS hL hm) (fun z => kf z H locs ls hP hD hS hL hm)

theorem v_icmp_gt (hC : am_C X l0 R0 cc own ret) {x y : Int32} {off : Int} (tg : Nat) (hd : decode cc pc = .ok (.if_icmp .gt off, 3)) (ht : (pc : Int) + off = (tg : Int)) (kt : y < x → am_V X ly M ce sl Q tg L st) (kf : ¬ y < x → am_V X ly M ce sl Q (pc + 3) L st) : am_V X ly M ce sl Q pc L (.int y :: .int x :: st) := by
  obtain ⟨p, l, e, R, s, m, args, below, meth, c, D, G, ad, A⟩ := X
  obtain ⟨hx, hb, hown, hts, hK, hA, hlk, hB, hr, rfl, rfl⟩ := hC
  intro H locs ls hP hD hS hL hm
  exact lv_icmp_gt hx hb hd ht (fun z => kt z H locs ls hP hD hS hL hm) (fun z => kf z H locs ls hP hD hS hL hm)

theorem v_if_le (hC : am_C X l0 R0 cc own ret) {x : Int32} {off : Int} (tg : Nat) (hd : decode cc pc = .ok (.ifCond .le off, 3)) (ht : (pc : Int) + off = (tg : Int)) (kt : x ≤ 0 → am_V X ly M ce sl Q tg L st) (kf : ¬ x ≤ 0 → am_V X ly M ce sl Q (pc + 3) L st) : am_V X ly M ce sl Q pc L (.int x :: st) := by
  obtain ⟨p, l, e, R, s, m, args, below, meth, c, D, G, ad, A⟩ := X
  obtain ⟨hx, hb, hown, hts, hK, hA, hlk, hB, hr, rfl, rfl⟩ := hC
  intro H locs ls hP hD hS hL hm
  exact lv_if_le hx hb hd ht (fun z => kt z H locs ls hP hD hS hL hm) (fun z => kf z H locs ls hP hD hS hL hm)

theorem v_icmp_le (hC : am_C X l0 R0 cc own ret) {x y : Int32} {off : Int} (tg : Nat) (hd : decode cc pc = .ok (.if_icmp .le off, 3)) (ht : (pc : Int) + off = (tg : Int)) (kt : x ≤ y → am_V X ly M ce sl Q tg L st) (kf : ¬ x ≤ y → am_V X ly M ce sl Q (pc + 3) L st) : am_V X ly M ce sl Q pc L (.int y :: .int x :: st) := by
  obtain ⟨p, l, e, R, s, m, args, below, meth, c, D, G, ad, A⟩ := X
  obtain ⟨hx, hb, hown, hts, hK, hA, hlk, hB, hr, rfl, rfl⟩ := hC
  intro H locs ls hP hD hS hL hm
  exact lv_icmp_le hx hb hd ht (fun z => kt z H locs ls hP hD hS hL hm) (fun z => kf z H locs ls hP hD hS hL hm)

theorem v_goto (hC : am_C X l0 R0 cc own ret) {off : Int} (tg : Nat) (hd : decode cc pc = .ok (.goto off, 3)) (ht : (pc : Int) + off = (tg : Int)) (k : am_V X ly M ce sl Q tg L st) : am_V X ly M ce sl Q pc L st := by
  obtain ⟨p, l, e, R, s, m, args, below, meth, c, D, G, ad, A⟩ := X
  obtain ⟨hx, hb, hown, hts, hK, hA, hlk, hB, hr, rfl, rfl⟩ := hC
  intro H locs ls hP hD hS hL hm
  exact lv_goto hx hb hd ht (k H locs ls hP hD hS hL hm)

theorem v_ifnull (hC : am_C X l0 R0 cc own ret) {x : Nat} {off : Int} (hd : decode cc pc = .ok (.ifnull off, 3)) (k : am_V X ly M ce sl Q (pc + 3) L st) : am_V X ly M ce sl Q pc L (.ref x :: st) := by
  obtain ⟨p, l, e, R, s, m, args, below, meth, c, D, G, ad, A⟩ := X
  obtain ⟨hx, hb, hown, hts, hK, hA, hlk, hB, hr, rfl, rfl⟩ := hC
  intro H locs ls hP hD hS hL hm
  exact lv_ifnull hx hb hd (k H locs ls hP hD hS hL hm)

theorem v_ifnullN (hC : am_C X l0 R0 cc own ret) {off : Int} (tg : Nat) (hd : decode cc pc = .ok (.ifnull off, 3)) (ht : (pc : Int) + off = (tg : Int)) (k : am_V X ly M ce sl Q tg L st) : am_V X ly M ce sl Q pc L (.null :: st) := by
  obtain ⟨p, l, e, R, s, m, args, below, meth, c, D, G, ad, A⟩ := X
  obtain ⟨hx, hb, hown, hts, hK, hA, hlk, hB, hr, rfl, rfl⟩ := hC
  intro H locs ls hP hD hS hL hm
  exact lv_ifnullN hx hb hd ht (k H locs ls hP hD hS hL hm)

theorem v_ifnonnull (hC : am_C X l0 R0 cc own ret) {x : Nat} {off : Int} (tg : Nat) (hd : decode cc pc = .ok (.ifnonnull off, 3)) (ht : (pc : Int) + off = (tg : Int)) (k : am_V X ly M ce sl Q tg L st) : am_V X ly M ce sl Q pc L (.ref x :: st) := by
  obtain ⟨p, l, e, R, s, m, args, below, meth, c, D, G, ad, A⟩ := X
  obtain ⟨hx, hb, hown, hts, hK, hA, hlk, hB, hr, rfl, rfl⟩ := hC
  intro H locs ls hP hD hS hL hm
  exact lv_ifnonnull hx hb hd ht (k H locs ls hP hD hS hL hm)

theorem v_tableIn (hC : am_C X l0 R0 cc own ret) {dflt lo hi : Int} {offs : Array Int} {len : Nat} {x : Int32} {off : Int} (tg : Nat) (hd : decode cc pc = .ok (.tableswitch dflt lo hi offs, len)) (h1 : ¬ x.toInt < lo) (h2 : ¬ hi < x.toInt) (ho : offs[(x.toInt - lo).toNat]? = some off) (ht : (pc : Int) + off = (tg : Int)) (k : am_V X ly M ce sl Q tg L st) : am_V X ly M ce sl Q pc L (.int x :: st) := by
  obtain ⟨p, l, e, R, s, m, args, below, meth, c, D, G, ad, A⟩ := X
  obtain ⟨hx, hb, hown, hts, hK, hA, hlk, hB, hr, rfl, rfl⟩ := hC
  intro H locs ls hP hD hS hL hm
  exact lv_tableIn hx hb hd h1 h2 ho ht (k H locs ls hP hD hS hL hm)

theorem v_tableOut (hC : am_C X l0 R0 cc own ret) {dflt lo hi : Int} {offs : Array Int} {len : Nat} {x : Int32} (tg : Nat) (hd : decode cc pc = .ok (.tableswitch dflt lo hi offs, len)) (h : x.toInt < lo ∨ hi < x.toInt) (ht : (pc : Int) + dflt = (tg : Int)) (k : am_V X ly M ce sl Q tg L st) : am_V X ly M ce sl Q pc L (.int x :: st) := by
  obtain ⟨p, l, e, R, s, m, args, below, meth, c, D, G, ad, A⟩ := X
  obtain ⟨hx, hb, hown, hts, hK, hA, hlk, hB, hr, rfl, rfl⟩ := hC
  intro H locs ls hP hD hS hL hm
  exact lv_tableOut hx hb hd h ht (k H locs ls hP hD hS hL hm)

theorem v_lookup (hC : am_C X l0 R0 cc own ret) {dflt : Int} {ps : Array (Int × Int)} {len : Nat} {x : Int32} {off : Int} (tg : Nat) (hd : decode cc pc = .ok (.lookupswitch dflt ps, len)) (hp : (ps.toList.zip (ps.toList.drop 1)).all (fun (a, next) => a.1 < next.1) = true) (ho : Op.lookupswitch.offset ps.toList dflt x.toInt = off) (ht : (pc : Int) + off = (tg : Int)) (k : am_V X ly M ce sl Q tg L st) : am_V X ly M ce sl Q pc L (.int x :: st) := by
  obtain ⟨p, l, e, R, s, m, args, below, meth, c, D, G, ad, A⟩ := X
  obtain ⟨hx, hb, hown, hts, hK, hA, hlk, hB, hr, rfl, rfl⟩ := hC
  intro H locs ls hP hD hS hL hm
  exact lv_lookup hx hb hd hp ho ht (k H locs ls hP hD hS hL hm)
end AMR
