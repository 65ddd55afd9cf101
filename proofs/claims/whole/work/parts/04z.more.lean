theorem cat_sum1 (rest : List Value) (h1 : ∀ v ∈ rest, v.category = 1) (h : rest.length ≤ 8) : (rest.map fun v => v.category).sum ≤ 8 := by
  have key : ∀ l : List Value, (∀ v ∈ l, v.category = 1) → (l.map fun v => v.category).sum = l.length := by
    intro l
    induction l with
    | nil => intro _; rfl
    | cons a l ih =>
      intro hl
      rw [List.map_cons, List.sum_cons, List.length_cons, hl a List.mem_cons_self, ih (fun v hv => hl v (List.mem_cons_of_mem _ hv))]
      omega
  rw [key rest h1]
  exact h
