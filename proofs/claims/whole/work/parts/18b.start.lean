theorem aw_28 : (Jvm.Cond.classLink "SaltTableLaw" (8 : Nat) "SaltTable") ∈ am_T := am_in (List.mem_append_right _ (List.mem_append_left _ (List.mem_of_getElem? (i := 28) rfl))) rfl
theorem aw_29 : (Jvm.Cond.instantiable "SaltTable" (19 : Nat)) ∈ am_T := am_in (List.mem_append_right _ (List.mem_append_left _ (List.mem_of_getElem? (i := 29) rfl))) rfl
theorem aw_30 : (Jvm.Cond.methodLink "SaltTableLaw" (119 : Nat) ({ cls := "SaltTable", name := "<init>", desc := "()V" } : Jvm.MethodName)) ∈ am_T := am_in (List.mem_append_right _ (List.mem_append_left _ (List.mem_of_getElem? (i := 30) rfl))) rfl
theorem aw_31 : (Jvm.Cond.instanceMethod ({ cls := "SaltTable", name := "<init>", desc := "()V" } : Jvm.MethodName)) ∈ am_T := am_in (List.mem_append_right _ (List.mem_append_left _ (List.mem_of_getElem? (i := 31) rfl))) rfl
theorem aw_32 : (Jvm.Cond.code ({ cls := "SaltTable", name := "<init>", desc := "()V" } : Jvm.MethodName) prog_1_method_1_code (2 : Nat) (Option.none : Option Jvm.ClassFile.FieldType)) ∈ am_T := am_in (List.mem_append_right _ (List.mem_append_left _ (List.mem_of_getElem? (i := 32) rfl))) rfl
theorem aw_1225 : (Jvm.Cond.classLink "SaltTableLaw" (120 : Nat) "SaltTableModel") ∈ am_T := am_in (List.mem_append_right _ (List.mem_append_right _ (List.mem_append_right _ (List.mem_append_right _ (List.mem_append_right _ (List.mem_append_right _ (List.mem_append_left _ (List.mem_of_getElem? (i := 25) rfl)))))))) rfl
theorem aw_1226 : (Jvm.Cond.instantiable "SaltTableModel" (21 : Nat)) ∈ am_T := am_in (List.mem_append_right _ (List.mem_append_right _ (List.mem_append_right _ (List.mem_append_right _ (List.mem_append_right _ (List.mem_append_right _ (List.mem_append_left _ (List.mem_of_getElem? (i := 26) rfl)))))))) rfl
theorem aw_1227 : (Jvm.Cond.methodLink "SaltTableLaw" (122 : Nat) ({ cls := "SaltTableModel", name := "<init>", desc := "()V" } : Jvm.MethodName)) ∈ am_T := am_in (List.mem_append_right _ (List.mem_append_right _ (List.mem_append_right _ (List.mem_append_right _ (List.mem_append_right _ (List.mem_append_right _ (List.mem_append_left _ (List.mem_of_getElem? (i := 27) rfl)))))))) rfl
theorem aw_1228 : (Jvm.Cond.instanceMethod ({ cls := "SaltTableModel", name := "<init>", desc := "()V" } : Jvm.MethodName)) ∈ am_T := am_in (List.mem_append_right _ (List.mem_append_right _ (List.mem_append_right _ (List.mem_append_right _ (List.mem_append_right _ (List.mem_append_right _ (List.mem_append_left _ (List.mem_of_getElem? (i := 28) rfl)))))))) rfl
theorem aw_1229 : (Jvm.Cond.code ({ cls := "SaltTableModel", name := "<init>", desc := "()V" } : Jvm.MethodName) prog_13_method_5_code (1 : Nat) (Option.none : Option Jvm.ClassFile.FieldType)) ∈ am_T := am_in (List.mem_append_right _ (List.mem_append_right _ (List.mem_append_right _ (List.mem_append_right _ (List.mem_append_right _ (List.mem_append_right _ (List.mem_append_left _ (List.mem_of_getElem? (i := 29) rfl)))))))) rfl
theorem aw_1835 : (Jvm.Cond.arrayClass Jvm.ClassFile.FieldType.long) ∈ am_T := am_in (List.mem_append_right _ (List.mem_append_right _ (List.mem_append_right _ (List.mem_append_right _ (List.mem_append_right _ (List.mem_append_right _ (List.mem_append_right _ (List.mem_append_right _ (List.mem_of_getElem? (i := 155) rfl))))))))) rfl
/-! THE CLAIM OUT OF ONE WALK OF THE LAW'S BODY. Your part is whole_start (and what it stands on); all else here is the same for every law, but numbers. -/
def R_law : String := "SaltTableLaw"
def lw_P (b : Addr) (xs : List Int32) (args : Array Value) (s : State) : Prop := args = #[.ref b] ∧ s.IntsAt b xs ∧ xs.length ≤ 3072 ∧ (Jvm.Cond.and given_1 narrow_1).before args s = true
def lw_Q (_ : Array Value) (s : State) (o : Outcome) (t : State) : Prop := o = .returned (some (.int 1)) ∧ Framed s o t [] 601024 7293034
def lw_Z (below : List Frame) (a : Array Value) (s : State) : State → Prop := fun t => ∃ o, t.status = .running ∧ Ended t below o ∧ lw_Q a s o t
/-- the law's own end, with 1 on the stack, nothing written that was there before, its room as the claim has it -/
theorem lw_ret {p : Program} {l : Launch} {e : Env} {s : State} {m : MethodId} {below : List Frame} {meth : Method} {c : Code} {b : Nat} (hx : p.tables.exec = Jvm.exec) (hb : c.code = code) (hr : meth.sig.returnType = ret) (hlocks : meth.locks = false) {pc : Nat} {H : Heap} {ls : Array Slot} (hdg : decode code pc = .ok (.ireturn, 1)) : W p l e room_1 s m #[Value.ref b] below meth c H [] 601024 7293034 (lw_Z below #[Value.ref b] s) (F0 m pc ls [.int 1]) := by
  intro T hT X
  obtain ⟨fs, hret, hrun, hended, hW, hframe⟩ := X.leave (v := some (.int 1)) (hlocks := hlocks) (fun h => by rw [hr] at h; cases h)
  have hmeth' : T.vm.method? m = some meth := X.method'
  refine ⟨T.setFrames fs, ?_, .returned (some (.int 1)), hrun, hended, rfl, ⟨_, rfl⟩, hW, hframe⟩
  jvm_step X.here [X.here.top, hx, hb, hdg, hmeth', hr, ret, narrow_b1]
  (try refine ⟨rfl, ?_⟩); (try refine ⟨rfl, ?_⟩)
  first | (intro acts; rw [hret _ acts rfl rfl rfl]) | rw [hret _ _ rfl rfl rfl]
  exact Steps.refl _
/-- what holds at the law's entry: the machine, the code, the tables' words (any of lw_tbl by 'hts w (by decide +kernel)'), the script of L ints xs at the cell b, what the Statement gives of the start (any of its parts by flat_of_before) -/
def lw_At (p : Program) (s : State) (m : MethodId) (meth : Method) (c : Code) (b L : Nat) (xs : Nat → Int32) : Prop :=
  p.tables.exec = Jvm.exec ∧ c.code = code ∧ meth.sig.returnType = ret ∧ c.maxLocals = 7 ∧ s.vm.findClass R_law = some m.cls ∧ (∀ w ∈ lw_tbl, w.before #[Value.ref b] s = true) ∧ va_X b L xs s s.heap ∧ b < s.heap.size ∧ meth.locks = false ∧ (Jvm.Cond.and given_1 narrow_1).before #[Value.ref b] s = true

def MI1 : Mm := (mt6 197 (mt6 185 (mt6 173 (mt6 161 (mt6 149 (mt6 137 (mt6 125 (mt6 113 (mt6 101 (mt6 89 (mt6 77 (mt6 65 (wr (mt6 44 (mt6 16 (mt6 7 (fun _ _ => 0)))) 0 14 (-1 : Int32))))))))))))))
def MI : Mm := (wr (wr MI1 208 14 (-1 : Int32)) 209 11 (1 : Int32))
theorem zb_MI1 : zb 208 MI1 := (zb_t6 (zb_t6 (zb_t6 (zb_t6 (zb_t6 (zb_t6 (zb_t6 (zb_t6 (zb_t6 (zb_t6 (zb_t6 (zb_t6 (zb_wr (zb_t6 (zb_t6 (zb_t6 (fun _ _ _ => rfl : zb 208 (fun _ _ => 0)) (by decide)) (by decide)) (by decide)) (by decide)) (by decide)) (by decide)) (by decide)) (by decide)) (by decide)) (by decide)) (by decide)) (by decide)) (by decide)) (by decide)) (by decide)) (by decide))
def RT10 : Ly := [(12, 0, [3, 5, 9, 18, 27, 33, 39, 41, 44, 0, 0, 45, 57, 0, 0, 63, 0, 64, 65]), (10, 0, [4, 0]), (0, 400, []), (11, 0, [6, 7, 8, 0, 0]), (0, 401, []), (0, 401, []), (0, 401, []), (9, 0, [0, 0, 0, 0, 0, 0, 0, 0, 0, 0, 0, 10, 11, 12, 13, 14, 15, 16, 17]), (0, 10, []), (0, 8, []), (0, 48, []), (0, 5, []), (0, 5, []), (0, 5, []), (0, 5, []), (0, 5, []), (9, 0, [0, 0, 0, 0, 0, 0, 0, 0, 0, 0, 0, 19, 20, 21, 22, 23, 24, 25, 26]), (0, 10, []), (0, 8, []), (0, 48, []), (0, 5, []), (0, 5, []), (0, 5, []), (0, 5, []), (0, 5, []), (5, 0, [0, 0, 0, 28, 29, 30, 31, 32]), (0, 12, []), (0, 12, []), (0, 12, []), (0, 12, []), (0, 400, []), (5, 0, [0, 0, 0, 34, 35, 36, 37, 38]), (0, 12, []), (0, 12, []), (0, 12, []), (0, 12, []), (0, 400, []), (7, 0, [40, 0, 0]), (0, 60, []), (8, 0, [42, 43, 0]), (4, 0, [0, 0, 0, 0, 0, 0, 0, 0, 0]), (0, 8, []), (3, 12, [66, 78, 90, 102, 114, 126, 138, 150, 162, 174, 186, 198]), (6, 0, [46, 55]), (9, 0, [0, 0, 0, 0, 0, 0, 0, 0, 0, 0, 0, 47, 48, 49, 50, 51, 52, 53, 54]), (0, 10, []), (0, 8, []), (0, 48, []), (0, 5, []), (0, 5, []), (0, 5, []), (0, 5, []), (0, 5, []), (7, 0, [56, 0, 0]), (0, 60, []), (5, 0, [0, 0, 0, 58, 59, 60, 61, 62]), (0, 12, []), (0, 12, []), (0, 12, []), (0, 12, []), (0, 400, []), (0, 12, []), (0, 185, []), (0, 201, []), (6, 0, [67, 76]), (9, 0, [0, 0, 0, 0, 0, 0, 0, 0, 0, 0, 0, 68, 69, 70, 71, 72, 73, 74, 75]), (0, 10, []), (0, 8, []), (0, 48, []), (0, 5, []), (0, 5, []), (0, 5, []), (0, 5, []), (0, 5, []), (7, 0, [77, 0, 0]), (0, 60, []), (6, 0, [79, 88]), (9, 0, [0, 0, 0, 0, 0, 0, 0, 0, 0, 0, 0, 80, 81, 82, 83, 84, 85, 86, 87]), (0, 10, []), (0, 8, []), (0, 48, []), (0, 5, []), (0, 5, []), (0, 5, []), (0, 5, []), (0, 5, []), (7, 0, [89, 0, 0]), (0, 60, []), (6, 0, [91, 100]), (9, 0, [0, 0, 0, 0, 0, 0, 0, 0, 0, 0, 0, 92, 93, 94, 95, 96, 97, 98, 99]), (0, 10, []), (0, 8, []), (0, 48, []), (0, 5, []), (0, 5, []), (0, 5, []), (0, 5, []), (0, 5, []), (7, 0, [101, 0, 0]), (0, 60, []), (6, 0, [103, 112]), (9, 0, [0, 0, 0, 0, 0, 0, 0, 0, 0, 0, 0, 104, 105, 106, 107, 108, 109, 110, 111]), (0, 10, []), (0, 8, []), (0, 48, []), (0, 5, []), (0, 5, []), (0, 5, []), (0, 5, []), (0, 5, []), (7, 0, [113, 0, 0]), (0, 60, []), (6, 0, [115, 124]), (9, 0, [0, 0, 0, 0, 0, 0, 0, 0, 0, 0, 0, 116, 117, 118, 119, 120, 121, 122, 123]), (0, 10, []), (0, 8, []), (0, 48, []), (0, 5, []), (0, 5, []), (0, 5, []), (0, 5, []), (0, 5, []), (7, 0, [125, 0, 0]), (0, 60, []), (6, 0, [127, 136]), (9, 0, [0, 0, 0, 0, 0, 0, 0, 0, 0, 0, 0, 128, 129, 130, 131, 132, 133, 134, 135]), (0, 10, []), (0, 8, []), (0, 48, []), (0, 5, []), (0, 5, []), (0, 5, []), (0, 5, []), (0, 5, []), (7, 0, [137, 0, 0]), (0, 60, []), (6, 0, [139, 148]), (9, 0, [0, 0, 0, 0, 0, 0, 0, 0, 0, 0, 0, 140, 141, 142, 143, 144, 145, 146, 147]), (0, 10, []), (0, 8, []), (0, 48, []), (0, 5, []), (0, 5, []), (0, 5, []), (0, 5, []), (0, 5, []), (7, 0, [149, 0, 0]), (0, 60, []), (6, 0, [151, 160]), (9, 0, [0, 0, 0, 0, 0, 0, 0, 0, 0, 0, 0, 152, 153, 154, 155, 156, 157, 158, 159]), (0, 10, []), (0, 8, []), (0, 48, []), (0, 5, []), (0, 5, []), (0, 5, []), (0, 5, []), (0, 5, []), (7, 0, [161, 0, 0]), (0, 60, []), (6, 0, [163, 172]), (9, 0, [0, 0, 0, 0, 0, 0, 0, 0, 0, 0, 0, 164, 165, 166, 167, 168, 169, 170, 171]), (0, 10, []), (0, 8, []), (0, 48, []), (0, 5, []), (0, 5, []), (0, 5, []), (0, 5, []), (0, 5, []), (7, 0, [173, 0, 0]), (0, 60, []), (6, 0, [175, 184]), (9, 0, [0, 0, 0, 0, 0, 0, 0, 0, 0, 0, 0, 176, 177, 178, 179, 180, 181, 182, 183]), (0, 10, []), (0, 8, []), (0, 48, []), (0, 5, []), (0, 5, []), (0, 5, []), (0, 5, []), (0, 5, []), (7, 0, [185, 0, 0]), (0, 60, []), (6, 0, [187, 196]), (9, 0, [0, 0, 0, 0, 0, 0, 0, 0, 0, 0, 0, 188, 189, 190, 191, 192, 193, 194, 195]), (0, 10, []), (0, 8, []), (0, 48, []), (0, 5, []), (0, 5, []), (0, 5, []), (0, 5, []), (0, 5, []), (7, 0, [197, 0, 0]), (0, 60, []), (6, 0, [199, 208]), (9, 0, [0, 0, 0, 0, 0, 0, 0, 0, 0, 0, 0, 200, 201, 202, 203, 204, 205, 206, 207]), (0, 10, []), (0, 8, []), (0, 48, []), (0, 5, []), (0, 5, []), (0, 5, []), (0, 5, []), (0, 5, []), (7, 0, [209, 0, 0]), (0, 60, [])]
theorem RT10_ok : am_ok 208 (rel 0 RT10) := am_okz (n := 208) rfl (am_okapp (l0 := []) (z := 0) RT10 rfl (fun _ h => nomatch h) (by decide +kernel))
theorem zb_MI : zb 219 MI := (show zb 219 (wr (wr MI1 208 14 (-1 : Int32)) 209 11 (1 : Int32)) from zb_wr (zb_wr (zb_up zb_MI1 (by decide)) (by decide)) (by decide))
theorem LY_eq : LY = (rel 0 RT10 ++ rel 208 [(13, 0, [0, 3, 4, 5, 6, 7, 0, 0, 8, 0, 0, 0, 0, 0, 0, 9, 0, 10, 0, 11, 12]), (0, 2107, []), (0, 1258, []), (0, 1258, []), (0, 409, []), (0, 4908, []), (1, 400, []), (0, 5, []), (0, 400, []), (0, 8, []), (0, 201, [])]) ++ [(2, 1, [])] := by decide +kernel
theorem ss_idx : ∀ i, i < am_nS → (am_strs.getD i ("", 0, "", 0)).2.2.2 = i := by decide +kernel
theorem ss_len : am_strs.length = am_nS := rfl
theorem ss_ref : ∀ q ∈ am_strs, Cond.stringRef q.1 q.2.1 q.2.2.1 ∈ tables_1 := by decide +kernel
theorem ss_cast : ∀ q ∈ am_casts, Cond.castable q q ∈ tables_1 := by decide +kernel
theorem ss_nc : ∀ q ∈ am_ncs, Cond.not (Cond.castable q.1 q.2) ∈ flatC (Jvm.Cond.and given_1 narrow_1) := by decide +kernel
theorem ss_nest : ∀ q ∈ am_nests, Cond.methodLinkNest q.1 q.2.1 q.2.2.1 q.2.2.2 ∈ tables_1 := by decide +kernel
theorem ss_decl : ∀ q ∈ am_decls, Cond.declares q ∈ tables_1 := by decide +kernel
theorem ss_ao : Cond.arrayOver (.object RX3) ∈ tables_1 := by decide +kernel
theorem ss_st1 : Cond.laysStatic Bundle.tN "UNASSIGNED_STACK" Bundle.steD ∈ tables_1 ∧ Cond.laysStatic Bundle.tN "SUPPRESSED_SENTINEL" Bundle.listD ∈ tables_1 ∧ Cond.initialized Bundle.tN ∈ tables_1 ∧ Cond.laysStatic "java/lang/String" "COMPACT_STRINGS" "Z" ∈ tables_1 ∧ Cond.initialized "java/lang/String" ∈ tables_1 ∧ Cond.laysStatic "jdk/internal/util/Preconditions" "SIOOBE_FORMATTER" "Ljava/util/function/BiFunction;" ∈ tables_1 ∧ Cond.initialized "jdk/internal/util/Preconditions" ∈ tables_1 ∧ Cond.arrayClass .int ∈ tables_1 ∧ Cond.arrayClass .byte ∈ tables_1 ∧ Cond.arrayClass .long ∈ tables_1 := by decide +kernel
theorem ss_st2 : Cond.isRef (.static Bundle.tN "UNASSIGNED_STACK" Bundle.steD) ∈ flatC (Jvm.Cond.and given_1 narrow_1) ∧ Cond.isRef (.static Bundle.tN "SUPPRESSED_SENTINEL" Bundle.listD) ∈ flatC (Jvm.Cond.and given_1 narrow_1) ∧ Cond.eq (.static "java/lang/String" "COMPACT_STRINGS" "Z") (.int 1) ∈ flatC (Jvm.Cond.and given_1 narrow_1) ∧ Cond.isRef (.static "jdk/internal/util/Preconditions" "SIOOBE_FORMATTER" "Ljava/util/function/BiFunction;") ∈ flatC (Jvm.Cond.and given_1 narrow_1) := by decide +kernel
/-- the ambient at the law's start -/
theorem am_B_start {args : Array Value} {s : State} {A : Nat → Prop} (b : Nat) (hts : ∀ w ∈ lw_tbl, w.before args s = true) (hg : (Jvm.Cond.and given_1 narrow_1).before args s = true) (hA : ∀ a : Nat, a < s.heap.size → ¬ A a) : ∃ ad : Nat → Nat, ad am_sc = b ∧ am_B ad A s s.heap := by
  have ht : ∀ w ∈ tables_1, w.before args s = true := fun w hw => hts w (List.mem_append_right _ hw)
  have hf := flat_of_before _ hg
  obtain ⟨t1, t2, t3, t4, t5, t6, t7, -⟩ := ss_st1
  obtain ⟨n1, n2, n3, n4⟩ := ss_st2
  have hstr : ∀ i, ∃ kv : Nat × Nat, i < am_nS → vk_S 1 [am_lenS.getD i 0] [am_bytS.getD i []] (fun _ => kv.1) (fun _ => kv.2) A s s.heap ∧ (ss_T i).eval args s none [] s = some (.ref kv.1) := by
    intro i
    by_cases hi : i < am_nS
    · obtain ⟨k, v, h1, h2⟩ := ss_one hg hA hi
      exact ⟨(k, v), fun _ => ⟨h1, h2⟩⟩
    · exact ⟨(0, 0), fun h => absurd h hi⟩
  obtain ⟨f, hf9⟩ := Classical.axiomOfChoice hstr
  have hfm : ∃ t : Nat, va_Z "jdk/internal/util/Preconditions" "SIOOBE_FORMATTER" "Ljava/util/function/BiFunction;" .null A s s.heap ∨ va_Z "jdk/internal/util/Preconditions" "SIOOBE_FORMATTER" "Ljava/util/function/BiFunction;" (.ref t) A s s.heap := by
    rcases va_Zqof (ht _ t6) (ht _ t7) (hf _ n4) hA with h | ⟨t, h⟩
    · exact ⟨0, Or.inl h⟩
    · exact ⟨t, Or.inr h⟩
  obtain ⟨tf, hfm⟩ := hfm
  obtain ⟨ad, ead⟩ : ∃ ad : Nat → Nat, ad = fun a => if a < am_vb then (f (a - am_sb)).1 else if a < am_fb then (f (a - am_vb)).2 else if a < am_sc then tf else b := ⟨_, rfl⟩
  have hn9 : am_nS = 33 := rfl
  have e1 : ∀ i, i < am_nS → ad (am_sb + i) = (f i).1 := by
    intro i hi
    rw [ead]
    have h1 : am_sb + i < am_vb := by simp only [am_sb, am_vb]; omega
    simp only [if_pos h1, Nat.add_sub_cancel_left]
  have e2 : ∀ i, i < am_nS → ad (am_vb + i) = (f i).2 := by
    intro i hi
    rw [ead]
    have h1 : ¬ am_vb + i < am_vb := by omega
    have h2 : am_vb + i < am_fb := by simp only [am_fb, am_vb]; omega
    simp only [if_neg h1, if_pos h2, Nat.add_sub_cancel_left]
  have e3 : ad am_fb = tf := by rw [ead]; rfl
  have e4 : ad am_sc = b := by rw [ead]; rfl
  refine ⟨ad, e4, fun i hi => ?_, fun q hq => ?_, ⟨vx_Zqof (ht _ t1) (ht _ t3) (hf _ n1) hA, vx_Zqof (ht _ t2) (ht _ t3) (hf _ n2) hA⟩, va_Zof (ht _ t4) (ht _ t5) (va_eqi (hf _ n3)) hA, ?_, fun q hq => va_Nw.of rfl (ht _ (ss_cast q hq)), fun q hq => va_Nc.of (hf _ (ss_nc q hq)), fun q hq => va_Nw.of rfl (ht _ (ss_nest q hq)), va_AO.of (ht _ ss_ao), fun q hq => va_Nw.of rfl (ht _ (ss_decl q hq))⟩
  · rw [e1 i hi, e2 i hi]; exact (hf9 i hi).1
  · obtain ⟨i, hi⟩ := List.getElem?_of_mem hq
    have hlt : i < am_nS := by
      rw [← ss_len]
      rcases Nat.lt_or_ge i am_strs.length with z | z
      · exact z
      · rw [List.getElem?_eq_none z] at hi; cases hi
    have hq9 : am_strs.getD i ("", 0, "", 0) = q := by rw [List.getD_eq_getElem?_getD, hi]; rfl
    have hix := ss_idx i hlt
    rw [hq9] at hix
    rw [hix, e1 i hlt]
    have hev := (hf9 i hlt).2
    unfold ss_T at hev
    rw [hq9] at hev
    exact vk_R.of (ht _ (ss_ref q hq)) hev
  · rw [e3]; exact hfm
/-- classes and array classes at the law's start -/
theorem am_K_start {args : Array Value} {s : State} (hts : ∀ w ∈ lw_tbl, w.before args s = true) : ∃ (D : va_G) (G : am_Gt), va_K D vwCl (am_tys G) s := by
  have htT : ∀ w ∈ am_T, w.before args s = true := fun w hw => hts w (List.mem_filter.mp hw).1
  have ht : ∀ w ∈ tables_1, w.before args s = true := fun w hw => hts w (List.mem_append_right _ hw)
  obtain ⟨-, -, -, -, -, -, -, t8, t9, t10⟩ := ss_st1
  obtain ⟨c0, i0, h0⟩ := u_known (C := RX0) (T := TX0) (N := 9) (n := 9) htT cls_X0.2.1 (htT _ aw_239)
  obtain ⟨c1, i1, h1⟩ := u_known (C := RX1) (T := TX1) (N := 8) (n := 8) htT cls_X1.2.1 (htT _ aw_182)
  obtain ⟨c2, i2, h2⟩ := u_known (C := RX3) (T := TX3) (N := 2) (n := 2) htT cls_X3.2.1 (htT _ aw_299)
  obtain ⟨c3, i3, h3⟩ := u_known (C := RX4) (T := TX4) (N := 3) (n := 3) htT cls_X4.2.1 (htT _ aw_216)
  obtain ⟨c4, i4, h4⟩ := u_known (C := RX5) (T := TX5) (N := 3) (n := 3) htT cls_X5.2.1 (htT _ aw_233)
  obtain ⟨c5, i5, h5⟩ := u_known (C := RX6) (T := TX6) (N := 19) (n := 19) htT cls_X6.2.1 (htT _ aw_77)
  obtain ⟨c6, i6, h6⟩ := u_known (C := RX8) (T := TX8) (N := 2) (n := 2) htT cls_X8.2.1 (htT _ aw_37)
  obtain ⟨c7, i7, h7⟩ := u_known (C := RX9) (T := TX9) (N := 5) (n := 5) htT cls_X9.2.1 (htT _ aw_54)
  obtain ⟨c8, i8, h8⟩ := u_known (C := RX10) (T := TX10) (N := 19) (n := 19) htT cls_X10.2.1 (htT _ aw_29)
  obtain ⟨c9, i9, h9⟩ := u_known (C := RX11) (T := TX11) (N := 21) (n := 21) htT cls_X11.2.1 (htT _ aw_1226)
  obtain ⟨a1, k1, m1, f1, g1, j1⟩ := Cond.arrayClass_spec (ht _ t8)
  obtain ⟨a2, k2, m2, f2, g2, j2⟩ := Cond.arrayClass_spec (ht _ t9)
  obtain ⟨a3, k3, m3, f3, g3, j3⟩ := Cond.arrayClass_spec (ht _ t10)
  obtain ⟨m4, a4, k4, f4, -, g4, j4, p4⟩ := Cond.arrayOver_spec (ht _ ss_ao)
  refine ⟨(fun k => if k = 0 then c0 else if k = 1 then c1 else if k = 2 then c2 else if k = 3 then c3 else if k = 4 then c4 else if k = 5 then c5 else if k = 6 then c6 else if k = 7 then c7 else if k = 8 then c8 else c9, fun k => if k = 0 then i0 else if k = 1 then i1 else if k = 2 then i2 else if k = 3 then i3 else if k = 4 then i4 else if k = 5 then i5 else if k = 6 then i6 else if k = 7 then i7 else if k = 8 then i8 else i9), (a1, a2, a3, a4), ?_, ?_⟩
  · intro k q hq
    match k, hq with
    | 0, hq => cases hq; exact h0
    | 1, hq => cases hq; exact h1
    | 2, hq => cases hq; exact h2
    | 3, hq => cases hq; exact h3
    | 4, hq => cases hq; exact h4
    | 5, hq => cases hq; exact h5
    | 6, hq => cases hq; exact h6
    | 7, hq => cases hq; exact h7
    | 8, hq => cases hq; exact h8
    | 9, hq => cases hq; exact h9
    | k + 10, hq => simp [vwCl] at hq
  · intro k q hq
    match k, hq with
    | 0, hq => cases hq; exact ⟨fun n z => ⟨fun k h => (by cases h), k1, g1, m1, j1⟩, f1⟩
    | 1, hq => cases hq; exact ⟨fun n z => ⟨fun k h => (by cases h), k2, g2, m2, j2⟩, f2⟩
    | 2, hq => cases hq; exact ⟨fun n z => ⟨fun k h => (by cases h), k3, g3, m3, j3⟩, f3⟩
    | 3, hq => cases hq; exact ⟨fun n z => ⟨fun k h => (by cases h), k4, g4, m4, j4⟩, k4, m4, g4, j4, f4, p4⟩
    | k + 4, hq => simp [am_tys] at hq
set_option maxRecDepth 100000 in
set_option maxHeartbeats 4000000 in
/-- THE LAW, from its entry, over what its loop does -/
theorem whole_start_open {p : Program} {e : Env} {s : State} {m : MethodId} {below : List Frame} {meth : Method} {c : Code} (l : Launch) (hl9 : l.stackTraces = false) {b L : Nat} {xs : Nat → Int32} (hL9 : L ≤ 3072) (C0 : lw_At p s m meth c b L xs) {N : Nat} {MF : Mm} (hpure : f_L_loop N L xs 600 (0 : Int32) MI = some MF) : W p l e room_1 s m #[Value.ref b] below meth c s.heap [] 0 0 (lw_Z below #[Value.ref b] s) (entryFrame m ([Value.ref b] : List Value).toArray 7) := by
  obtain ⟨hx, hb, hr, hml, hown, hts, hX, hbl, hlocks, hgv⟩ := id C0
  have hA : ∀ q : Nat, s.heap.size ≤ q → (fun q : Nat => s.heap.size ≤ q) q := fun _ h => h
  obtain ⟨ad0, had, hB⟩ := am_B_start (A := fun q : Nat => s.heap.size ≤ q) b hts hgv (fun a h => Nat.not_le.mpr h)
  obtain ⟨D, G, hK⟩ := am_K_start hts
  obtain ⟨X, eX⟩ : ∃ X : am_X, X = (p, l, e, room_1, s, m, #[Value.ref b], below, meth, c, D, G, ad0, fun q : Nat => s.heap.size ≤ q) := ⟨_, rfl⟩
  have hC : am_C (am_sd X ad0) l room_1 cL_law_ RL (some .boolean) := by
    rw [eX]
    exact ⟨hx, hb, hown, fun w hw => hts w (List.mem_filter.mp hw).1, hK, hA, hlocks, hB, hr, rfl, rfl⟩
  have key : am_V (am_sd X ad0) [] (fun _ _ => 0) 0 0 (lw_Z below #[Value.ref b] s) 0 [some (.ref am_sc), none, none, none, none, none, none] [] := by
    refine n_new (n := 0) hC [1, 1, 1, 1, 1, 1, 1, 1, 1, 0, 0, 1, 1, 0, 0, 1, 0, 1, 1] rfl cls_X10 aw_28 aw_29 aw_1 df_X10 (by decide) (fun _ h => nomatch h) (fun _ => rfl) (nr_ok (⟨Or.inr (by decide), trivial⟩) (trivial)) (by decide) (by decide) (by decide) dL_law__0 (fun ad1 e1 hC => ?_)
    refine v_dup hC dL_law__3 rfl ?_
    refine n_callN (ly1 := [] ++ rel 0 RT10) (k := 1) hC rfl (okn_X10 (l0 := []) (z := 0) (M := fun _ _ => 0) rfl (fun _ h => nomatch h) (fun _ _ _ => rfl) (by decide) rfl rfl) ⟨aw_32, aw_1, ⟨by decide, by decide⟩, by decide +kernel⟩ aw_31 rfl (Or.inl aw_30) (Nat.le_of_ble_eq_true rfl) (nr_ok (⟨Or.inr (by decide), trivial⟩) (⟨lr_lt (by decide), trivial⟩)) ⟨by decide, by decide⟩ ⟨by decide, by decide⟩ dL_law__4 (fun ad2 e2 hC => ?_)
    refine w_astore_n hC dL_law__7 (ltk rfl) [some (.ref am_sc), some (.ref 0), none, none, none, none, none] rfl ?_
    refine v_mem (M1 := MI1) rfl ?_
    refine v_ly (ly1 := rel 0 RT10) rfl ?_
    refine n_new (n := 208) hC [0, 1, 1, 1, 1, 1, 0, 0, 1, 0, 0, 0, 0, 0, 0, 1, 0, 1, 0, 1, 1] rfl cls_X11 aw_1225 aw_1226 aw_11 df_X11 (by decide) RT10_ok (fun j => zb_MI1 _ j (Nat.le_refl _)) (nr_ok (⟨Or.inr (by decide), lr_lt (by decide), trivial⟩) (trivial)) (by decide) (by decide) (by decide) dL_law__8 (fun ad3 e3 hC => ?_)
    refine v_dup hC dL_law__11 rfl ?_
    refine n_callN (ly1 := rel 0 RT10 ++ rel 208 [(13, 0, [0, 3, 4, 5, 6, 7, 0, 0, 8, 0, 0, 0, 0, 0, 0, 9, 0, 10, 0, 11, 12]), (0, 2107, []), (0, 1258, []), (0, 1258, []), (0, 409, []), (0, 4908, []), (1, 400, []), (0, 5, []), (0, 400, []), (0, 8, []), (0, 201, [])]) (k := 209) hC rfl (okn_X11 (l0 := rel 0 RT10) (z := 208) (M := MI1) rfl RT10_ok zb_MI1 (by decide) rfl rfl) ⟨aw_1229, aw_11, ⟨by decide, by decide⟩, by decide +kernel⟩ aw_1228 rfl (Or.inl aw_1227) (Nat.le_of_ble_eq_true rfl) (nr_ok (⟨Or.inr (by decide), lr_lt (by decide), trivial⟩) (⟨lr_lt (by decide), trivial⟩)) ⟨by decide, by decide⟩ ⟨by decide, by decide⟩ dL_law__12 (fun ad4 e4 hC => ?_)
    refine w_astore_n hC dL_law__15 (ltk rfl) [some (.ref am_sc), some (.ref 0), some (.ref 208), none, none, none, none] rfl ?_
    refine v_mem (M1 := MI) rfl ?_
    refine v_iconst (v := (1 : Int32)) hC dL_law__16 rfl ?_
    refine n_newarr (n := 219) (N := 1) hC .long 2 (by decide) rfl rfl (by decide) aw_1835 (am_okz rfl (am_okapp [(13, 0, [0, 3, 4, 5, 6, 7, 0, 0, 8, 0, 0, 0, 0, 0, 0, 9, 0, 10, 0, 11, 12]), (0, 2107, []), (0, 1258, []), (0, 1258, []), (0, 409, []), (0, 4908, []), (1, 400, []), (0, 5, []), (0, 400, []), (0, 8, []), (0, 201, [])] (l0 := rel 0 RT10) (z := 208) rfl RT10_ok (by decide))) (fun j => zb_MI _ j (Nat.le_refl _)) (nr_ok (⟨Or.inr (by decide), lr_lt (by decide), lr_lt (by decide), trivial⟩) (trivial)) (by decide) (by decide) (by decide) dL_law__17 (fun ad5 e5 hC => ?_)
    refine v_ly (ly1 := LY) LY_eq ?_
    refine w_astore_n hC dL_law__19 (ltk rfl) [some (.ref am_sc), some (.ref 0), some (.ref 208), some (.ref 219), none, none, none] rfl ?_
    refine v_iconst (v := (0 : Int32)) hC dL_law__20 rfl ?_
    refine w_istore hC dL_law__21 (ltk rfl) [some (.ref am_sc), some (.ref 0), some (.ref 208), some (.ref 219), some (.int (0 : Int32)), none, none] rfl ?_
    have hx5 : am_ext 0 ad0 ad5 := (am_ext.trans (am_ext.trans (am_ext.trans (am_ext.trans e1 (Nat.zero_le _) e2) (Nat.zero_le _) e3) (Nat.zero_le _) e4) (Nat.zero_le _) e5)
    have hs : am_SC (am_sd X ad5) xs L := by
      rw [eX]
      have h9 : ad5 am_sc = b := by rw [hx5 am_sc (Or.inr (by decide)), had]
      show va_X (ad5 am_sc) L xs s s.heap ∧ ad5 am_sc < s.heap.size ∧ ¬ s.heap.size ≤ ad5 am_sc
      rw [h9]
      exact ⟨hX, hbl, Nat.not_le.mpr hbl⟩
    refine ok_loop (N := N) hl9 hC hs MF 10000 100000 (by decide) (by decide) (fun M v4 ce sl h1 h2 => ?_) 600 (0 : Int32) MI MF _ _ (by decide) (by decide) hpure
    refine v_iconst (v := (1 : Int32)) hC dL_law__2650 rfl ?_
    rw [eX]
    intro H locs ls hP hD hS hL hm
    refine va_forget (fun q hq => hS.2.2 q hq) ?_
    refine W.widen (k := 601024) (n := 7293034) (Nat.le_trans h1 (by decide)) (Nat.le_trans h2 (by decide)) ?_
    exact lw_ret hx hb hr hlocks dL_law__2651
  rw [lg_entry_eq]
  rw [eX] at key
  have hl := lv_entry ([Value.ref b]) (n := 7) (Nat.le_of_ble_eq_true rfl)
  refine key s.heap [] _ (fun k q h => by simp [am_w] at h) ⟨fun i j p q hp => by simp [am_w] at hp, fun k q h => by simp [am_w] at h⟩ va_S.rf ⟨hl.1, hl.2.1, fun k v hk => ?_, fun k v hk => ?_⟩ hml
  · match k with
    | 0 => cases hk; show _ = some (Slot.val (Value.ref (ad0 am_sc))); rw [had]; rfl
    | 1 | 2 | 3 | 4 | 5 | 6 => cases hk
    | k + 7 => simp at hk
  · match k with
    | 0 => cases hk; rfl
    | 1 | 2 | 3 | 4 | 5 | 6 => cases hk
    | k + 7 => simp at hk
