/-! ===== the room that is really used ===== -/
section
theorem fold_sum (l : List Cell) : ∀ n : Nat, l.foldl (fun n c => n + c.slots.size) n = n + (l.map (fun c => c.slots.size)).sum := by
  induction l with
  | nil => intro n; rfl
  | cons a l ih =>
    intro n
    rw [List.foldl_cons, ih, List.map_cons, List.sum_cons]
    omega
theorem sOf_fold (H : Heap) : H.foldl (fun n c => n + c.slots.size) 0 = sOf H := by
  rw [← Array.foldl_toList, fold_sum, Nat.zero_add]
  rfl
variable {p : Program} {l : Launch} {e : Env} {R : Room} {s : State} {m : MethodId} {args : Array Value} {below : List Frame} {meth : Method} {c : Code} {H : Heap} {locs : List Loc} {cells slots : Nat} {Q : State → Prop} {E : Ev} {σ σ0 : SS}
theorem W_narrow {g : JFrame} {k n : Nat} (hg : GS E σ s H locs) (h0 : HB E σ0 s.heap) (hk : sz σ ≤ sz σ0 + k) (hn : 9 * (sz σ - sz σ0) ≤ n) (kk : W p l e R s m args below meth c H locs k n Q g) : W p l e R s m args below meth c H locs cells slots Q g := by
  intro T hT X
  refine kk T hT { X with same := ?_ }
  have hbook := X.book
  have hroom := X.room
  obtain ⟨a1, a2, a3, a4, a5, a6⟩ := X.same
  have hs : s.slotsUsed = sOf s.heap := by
    simp only [State.hasRoom, Bool.and_eq_true] at hroom
    have h2 : s.slotsTrue = true := hroom.2
    unfold State.slotsTrue at h2
    rw [sOf_fold] at h2
    exact eq_of_beq h2
  have ht : T.slotsUsed = sOf H := by
    unfold State.slotsTrue at hbook
    rw [sOf_fold, hT] at hbook
    exact eq_of_beq hbook
  have z1 := HB_sz hg.1
  have z2 := HB_sz h0
  have y1 : sOf H = es E + 9 * (sz σ - ez E) := hg.1.2.2.2.2.2.2.2.2.2
  have y2 : sOf s.heap = es E + 9 * (sz σ0 - ez E) := h0.2.2.2.2.2.2.2.2.2
  have y3 : ez E ≤ sz σ0 := h0.2.2.2.2.2.2.2.2.1
  have hT2 : (T.setVm s.vm).heap = H := hT
  have hu2 : (T.setVm s.vm).slotsUsed = T.slotsUsed := rfl
  rw [hT2] at a2 a3
  refine ⟨a1, by rw [hT2]; exact a2, by rw [hT2, z1, z2]; exact hk, a4, ?_, a6⟩
  rw [hu2, ht, hs, y1, y2] at a4
  rw [z1, z2] at a2
  omega
theorem HB_of_GS (hg : GS E σ s H locs) : HB E σ H := hg.1
end
