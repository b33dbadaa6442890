/-! THE STRINGS at the start -/
def ss_T (i : Nat) : Term := .string (am_strs.getD i ("", 0, "", 0)).1 (am_strs.getD i ("", 0, "", 0)).2.1
def ss_F (i : Nat) : Term := .field (ss_T i) "java/lang/String" "value" "[B"
def ss_c (i : Nat) : List Cond := Cond.exactly (ss_T i) "java/lang/String" :: Cond.eq (.field (ss_T i) "java/lang/String" "coder" "B") (.int 0) :: Cond.arrayOf (ss_F i) .byte :: Cond.eq (.length (ss_F i)) (.int (Int32.ofNat (am_lenS.getD i 0))) :: (List.range (am_lenS.getD i 0)).map (fun j => Cond.eq (.elem (ss_F i) (.int (Int32.ofNat j))) (.int ((am_bytS.getD i []).getD j 0)))
def ss_seg : List (Nat × Nat) := [(63, 111), (174, 21), (195, 22), (217, 26), (243, 25), (268, 26), (294, 27), (321, 25), (346, 22), (368, 22), (390, 27), (417, 27), (444, 9), (453, 9), (462, 6), (468, 8), (476, 10), (486, 10), (496, 7), (503, 8), (511, 9), (520, 9), (529, 9), (538, 8), (546, 10), (556, 8), (564, 9), (573, 6), (579, 7), (586, 8), (594, 7), (601, 7), (608, 6)]
theorem ss_at : ∀ i, i < am_nS → ss_c i = ((flatC (Jvm.Cond.and given_1 narrow_1)).drop (ss_seg.getD i (0, 0)).1).take (ss_seg.getD i (0, 0)).2 := by decide +kernel
theorem ss_mem {i : Nat} (hi : i < am_nS) {c : Cond} (h : c ∈ ss_c i) : c ∈ flatC (Jvm.Cond.and given_1 narrow_1) := by
  rw [ss_at i hi] at h
  exact List.mem_of_mem_drop (List.mem_of_mem_take h)
theorem ss_one {args : Array Value} {s : State} {A : Nat → Prop} (hg : (Jvm.Cond.and given_1 narrow_1).before args s = true) (hA : ∀ a : Nat, a < s.heap.size → ¬ A a) {i : Nat} (hi : i < am_nS) : ∃ k v : Nat, vk_S 1 [am_lenS.getD i 0] [am_bytS.getD i []] (fun _ => k) (fun _ => v) A s s.heap ∧ (ss_T i).eval args s none [] s = some (.ref k) := by
  have hf := flat_of_before _ hg
  have hc : ∀ c ∈ ss_c i, c.before args s = true := fun c h => hf c (ss_mem hi h)
  have hlen : am_lenS.getD i 0 < 2 ^ 31 := (s_all i hi).1
  obtain ⟨adK, adV, h1, h2⟩ := vk_Sof (args := args) (s := s) (N := 1) (tm := fun _ => ss_T i) (len := [am_lenS.getD i 0]) (byt := [am_bytS.getD i []]) (A := A)
    (fun j hj => by have : j = 0 := by omega
                    subst this; exact hlen)
    (fun j hj => hc _ (by simp [ss_c]))
    (fun j hj => hc _ (by simp [ss_c]))
    (fun j hj => hc _ (by simp [ss_c, ss_F]))
    (fun j hj => by have : j = 0 := by omega
                    subst this; exact hc _ (by simp [ss_c, ss_F]))
    (fun j hj k hk => by
      have : j = 0 := by omega
      subst this
      refine hc _ ?_
      have hk2 : k < am_lenS.getD i 0 := hk
      simp only [ss_c, List.mem_cons, List.mem_map, List.mem_range]
      exact Or.inr (Or.inr (Or.inr (Or.inr ⟨k, hk2, rfl⟩))))
    (fun a b ha hb hne => absurd (by omega : a = b) hne) hA
  refine ⟨adK 0, adV 0, ?_, h2 0 (by decide)⟩
  refine ⟨fun j hj => ?_, fun a b ha hb _ => by omega⟩
  have : j = 0 := by omega
  subst this
  exact h1.1 0 (by decide)
