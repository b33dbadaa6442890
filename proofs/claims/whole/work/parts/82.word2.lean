/-! The list of words, word by word. -/
section WW
variable {tp : List Nat} {q e : Nat}
def wM (tp : List Nat) (e : Nat) : List Nat → Nat → Bool
  | [], s => decide (s = e)
  | c :: cs, s => decide (s < e ∧ tf tp s = c) && wM tp e cs (s + 1)
theorem wo_far (he : e ≤ 400) {cs : List Nat} {w : Nat} : ∀ (wd : List Nat), (∀ c ∈ wd, c ≠ 32) → wo9 tp q e (wd ++ 32 :: cs) w 401 = wo9 tp q e cs (w + 1) q := by
  intro wd
  induction wd with
  | nil =>
    intro _
    rw [List.nil_append, wo9, if_pos rfl, if_neg (by omega)]
  | cons c wd ih =>
    intro h
    rw [List.cons_append, wo9, if_neg (h c (List.mem_cons_self)), if_neg (fun h9 => by omega)]
    exact ih (fun c' hc => h c' (List.mem_cons_of_mem _ hc))
theorem wo_word (he : e ≤ 400) {cs : List Nat} {w : Nat} : ∀ (wd : List Nat) (s : Nat), (∀ c ∈ wd, c ≠ 32) → wo9 tp q e (wd ++ 32 :: cs) w s = if wM tp e wd s = true then w else wo9 tp q e cs (w + 1) q := by
  intro wd
  induction wd with
  | nil =>
    intro s _
    rw [List.nil_append, wo9, if_pos rfl, wM]
    by_cases c : s = e
    · rw [if_pos c, if_pos (decide_eq_true c)]
    · rw [if_neg c, if_neg (fun h9 => c (of_decide_eq_true h9))]
  | cons c wd ih =>
    intro s h
    have h2 : ∀ c' ∈ wd, c' ≠ 32 := fun c' hc => h c' (List.mem_cons_of_mem _ hc)
    rw [List.cons_append, wo9, if_neg (h c (List.mem_cons_self)), wM]
    by_cases k : s < e ∧ tf tp s = c
    · rw [if_pos k, decide_eq_true k, Bool.true_and]
      exact ih (s + 1) h2
    · rw [if_neg k, decide_eq_false k, Bool.false_and, if_neg (show ¬ false = true by decide)]
      exact wo_far he wd h2
end WW
