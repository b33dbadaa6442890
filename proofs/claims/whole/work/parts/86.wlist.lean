/-! The list of words is its 21 words, each with a blank behind it. -/
def ixs : List Nat := [12, 13, 14, 15, 16, 17, 18, 19, 20, 21, 22, 23, 24, 25, 26, 27, 32, 31, 28, 29, 30]
def catW : List Nat → List Nat
  | [] => []
  | i :: r => wN i ++ 32 :: catW r
theorem wN_cat : wN 0 = catW ixs := by decide +kernel
theorem ixs_ns : ∀ i ∈ ixs, ∀ c ∈ wN i, c ≠ 32 := by decide +kernel
section WL
variable {tp : List Nat} {q e : Nat}
/-- the place of the first word of the list that stands between q and e -/
def wF (tp : List Nat) (q e : Nat) : List Nat → Nat → Nat
  | [], _ => 302
  | i :: r, w => if wE tp i q e = true then w else wF tp q e r (w + 1)
theorem wo_F (he : e ≤ 400) : ∀ (l : List Nat) (w : Nat), (∀ i ∈ l, ∀ c ∈ wN i, c ≠ 32) → wo9 tp q e (catW l) w q = wF tp q e l w := by
  intro l
  induction l with
  | nil => intro w _; rfl
  | cons i r ih =>
    intro w h
    rw [catW, wo_word he (wN i) q (h i (List.mem_cons_self)), wM_wE, wF, ih (w + 1) (fun j hj => h j (List.mem_cons_of_mem _ hj))]
theorem wo_eq (he : e ≤ 400) : wo9 tp q e (wN 0) 256 q = wF tp q e ixs 256 := by
  rw [wN_cat]
  exact wo_F he ixs 256 ixs_ns
end WL
