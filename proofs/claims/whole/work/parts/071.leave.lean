/-! ===== versions ===== -/
def aKeep (a : AS) : AS := (a.1, (a.1 :: a.2.1).take 12, a.2.2)
theorem tmod12 {x : Nat} : Int.tmod (x : Int) 12 = ((x % 12 : Nat) : Int) := by
  rw [Int.tmod_eq_emod_of_nonneg (by omega)]; omega
theorem sp_leave_L {nx : Nat} {Q : SS → Prop} (hnx : nx < 12) : ∀ (f : Nat) {i : Nat} {σ : SS}, i + f = 6 → sn σ 4 2 = nx → (0 ≤ sn σ 4 1 ∧ sn σ 4 1 ≤ 12) →
    (∀ σ', (∀ x k, sf σ' x k = if x = 5 ∧ nx * 6 + i ≤ k ∧ k < nx * 6 + 6 then sf σ 3 (k - nx * 6) else sf σ x k) → (∀ x k, ¬ (x = 4 ∧ (k = 1 ∨ k = 2)) → sn σ' x k = sn σ x k) → sn σ' 4 2 = ((nx + 1) % 12 : Nat) → sn σ' 4 1 = min (sn σ 4 1 + 1) 12 → sS σ' = sS σ → sz σ' = sz σ → Q σ') → wX7_leave_L2 Q (f + 1) (i : Int) σ := by
  intro f
  induction f with
  | zero =>
    intro i σ hi hn hc hq
    have : i = 6 := by omega
    subst this
    rw [wX7_leave_L2, hn]
    have e1 : ((nx : Int) + 1) = ((nx + 1 : Nat) : Int) := by omega
    rw [e1, tmod12]
    refine ⟨⟨by omega, by omega⟩, fun _ => ⟨⟨by omega, by omega⟩, ⟨by omega, by omega⟩, ?_⟩, fun c => by omega⟩
    have e2 : sn (un σ 4 2 (((nx + 1) % 12 : Nat) : Int)) 4 1 = sn σ 4 1 := sn_un_k _ _ (by omega)
    rw [e2]
    refine ⟨⟨by omega, by omega⟩, hq _ (fun x k => ?_) (fun x k h => ?_) ?_ ?_ rfl rfl⟩
    · rw [if_neg (by omega)]; rfl
    · rw [sn_un, sn_un, if_neg (by omega), if_neg (by omega)]
    · rw [sn_un_k _ _ (by omega), sn_un_same]
    · rw [sn_un_same]
  | succ f ih =>
    intro i σ hi hn hc hq
    rw [wX7_leave_L2, hn, Int.toNat_natCast]
    have e1 : ((nx : Int) * 6 + (i : Int)).toNat = nx * 6 + i := by omega
    refine ⟨⟨by omega, by omega⟩, fun c => by omega, fun _ => ⟨by omega, by omega, by omega, by omega, ?_⟩⟩
    rw [e1]
    have e3 : ((i : Int) + 1) = ((i + 1 : Nat) : Int) := by omega
    rw [e3]
    refine ih (by omega) hn hc (fun σ' hf hs h2 h1 hS hz => hq σ' (fun x k => ?_) hs h2 h1 hS hz)
    rw [hf]
    by_cases c1 : x = 5 ∧ nx * 6 + (i + 1) ≤ k ∧ k < nx * 6 + 6
    · rw [if_pos c1, if_pos ⟨c1.1, by omega, c1.2.2⟩, sf_uf_i _ _ (by omega)]
    · rw [if_neg c1, sf_uf]
      by_cases c2 : x = 5 ∧ k = nx * 6 + i
      · rw [if_pos c2, if_pos ⟨c2.1, by omega, by omega⟩, c2.2]
        congr 1
        omega
      · rw [if_neg c2, if_neg (by omega)]
section
variable {Z : Nat} {rb : Int} {σ : SS} {P : Nat → Prop} {a : AS}
theorem sp_leave {n : Nat} {Q : SS → Prop} (h : CI Z rb σ P a) (hw : AW n a) (hq : ∀ σ', CI Z rb σ' P (aKeep a) → Fr σ σ' → (∀ x k, x ≠ 5 → sf σ' x k = sf σ x k) → (∀ x k, x ≠ 4 → sn σ' x k = sn σ x k) → sS σ' = sS σ → sz σ' = sz σ → Q σ') : wX7_leave σ Q := by
  obtain ⟨c1, c2, ⟨nx, v1, v2, v3, v4, v5⟩, c4, c5, c6, c7, c8, c9, c10⟩ := h
  have hp := hw.2.1
  refine ⟨7, sp_leave_L v1 6 (i := 0) rfl v2 ⟨by omega, by omega⟩ (fun σ' hf hs h2 h1 hS hz => ?_)⟩
  have sm : Sm [4, 5] σ σ' := ⟨fun i hi k => ⟨hs i k (fun q => hi (by simp [q.1])), by rw [hf, if_neg (fun q => hi (by simp [q.1]))]⟩, hS, hz⟩
  have h64 : ∀ i ∈ [4, 5], i < 64 := fun i hi => by simp at hi; omega
  have f5 : ∀ x k, x ≠ 5 → sf σ' x k = sf σ x k := fun x k hx => by rw [hf, if_neg (fun q => hx q.1)]
  have n4 : ∀ x k, x ≠ 4 → sn σ' x k = sn σ x k := fun x k hx => hs x k (fun q => hx q.1)
  refine hq σ' ⟨sm.GI (fun i q => by simp at q; omega) c1, fun m hm => ?_, ⟨(nx + 1) % 12, Nat.mod_lt _ (by decide), h2, ?_, fun j M hM m hm => ?_, fun j hj1 hj2 m hm => ?_⟩, fun i q => ?_, fun i q => ?_, ?_, fun j hj => ?_, ?_, fun i c q => ?_, ?_⟩ (Fr.sm sm (fun i hi => by simp at hi; omega)) f5 n4 hS hz
  · rw [f5 3 m (by decide)]; exact sm.TT h64 (c2 m hm)
  · rw [h1, v3]
    show _ = ((List.take 12 (aM a :: aP a)).length : Int)
    rw [List.length_take, List.length_cons]
    omega
  · have hM' : (List.take 12 (aM a :: aP a))[j]? = some M := hM
    rw [List.getElem?_take] at hM'
    by_cases hj : j < 12
    · rw [if_pos hj] at hM'
      cases j with
      | zero =>
        rw [List.getElem?_cons_zero] at hM'
        cases hM'
        have e : vs ((nx + 1) % 12) 0 = nx := by unfold vs; omega
        rw [e, hf, if_pos ⟨rfl, by omega, by omega⟩, show nx * 6 + m - nx * 6 = m by omega]
        exact sm.TT h64 (c2 m hm)
      | succ j =>
        rw [List.getElem?_cons_succ] at hM'
        have e : vs ((nx + 1) % 12) (j + 1) = vs nx j := by unfold vs; omega
        have e2 : vs nx j ≠ nx := by unfold vs; omega
        rw [e, hf, if_neg (by omega)]
        exact sm.TT h64 (v4 j M hM' m hm)
    · rw [if_neg hj] at hM'
      cases hM'
  · have hlen : (List.take 12 (aM a :: aP a)).length ≤ j := hj1
    rw [List.length_take, List.length_cons] at hlen
    obtain ⟨i, rfl⟩ : ∃ i, j = i + 1 := ⟨j - 1, by omega⟩
    have e : vs ((nx + 1) % 12) (i + 1) = vs nx i := by unfold vs; omega
    have e2 : vs nx i ≠ nx := by unfold vs; omega
    rw [e, hf, if_neg (by omega)]
    exact v5 i (by omega) (by omega) m hm
  · obtain ⟨l, t, hl⟩ := c4 i q
    rw [f5 13 i (by decide)]; exact ⟨l, sm.TT h64 t, hl⟩
  · obtain ⟨l, t, hl⟩ := c5 i q
    rw [f5 14 i (by decide)]; exact ⟨l, sm.TT h64 t, hl⟩
  · rw [n4 0 _ (by decide)]; exact c6
  · rw [n4 0 _ (by decide)]; exact c7 j hj
  · rw [n4 2 _ (by decide)]; exact c8
  · rw [n4 6 _ (by decide)]; exact c9 i c q
  · rw [n4 1 _ (by decide)]; exact c10
/-- a map's root is laid -/
theorem CI.map (h : CI Z rb σ P a) {m : Nat} (hm : m < 6) {r : Option Nat} {l : List KV} (ht : TT σ P r l) : CI Z rb (uf σ 3 m r) P ((fun i => if i = m then l else a.1 i), a.2) := by
  have sm : Sm [3] σ (uf σ 3 m r) := Sm.uf (by simp)
  have h64 : ∀ i ∈ [3], i < 64 := fun i hi => by simp at hi; omega
  obtain ⟨c1, c2, ⟨nx, v1, v2, v3, v4, v5⟩, c4, c5, c6, c7, c8, c9, c10⟩ := h
  refine ⟨sm.GI (fun i q => by simp at q; omega) c1, fun i hi => ?_, ⟨nx, v1, v2, v3, fun j M hM m hm => ?_, fun j h1 h2 m hm => ?_⟩, fun i q => ?_, fun i q => ?_, c6, c7, c8, c9, c10⟩
  · show TT _ P _ (if i = m then l else a.1 i)
    by_cases q : i = m
    · subst q
      rw [sf_uf_same, if_pos rfl]; exact sm.TT h64 ht
    · rw [sf_uf_k _ _ q, if_neg q]; exact sm.TT h64 (c2 i hi)
  · rw [sf_uf_i _ _ (by omega)]; exact sm.TT h64 (v4 j M hM m hm)
  · rw [sf_uf_i _ _ (by omega)]; exact v5 j h1 h2 m hm
  · obtain ⟨l', t, hl⟩ := c4 i q
    rw [sf_uf_i _ _ (by omega)]; exact ⟨l', sm.TT h64 t, hl⟩
  · obtain ⟨l', t, hl⟩ := c5 i q
    rw [sf_uf_i _ _ (by omega)]; exact ⟨l', sm.TT h64 t, hl⟩
theorem sp_settle {n : Nat} {m : Nat} {r : Option Nat} {l : List KV} {Q : Int → SS → Prop} (hm : m < 6) (h : CI Z rb σ P a) (hw : AW n a) (ht : TT σ P r l) (hq : ∀ σ', CI Z rb σ' P (aSet a m l) → Fr σ σ' → Q (l.length : Int) σ') : wX8_settle (m : Int) r σ Q := by
  unfold wX8_settle
  refine sp_leave h hw (fun σ1 c1 f1 g1 g2 g3 g4 => ⟨by omega, by omega, ?_⟩)
  rw [Int.toNat_natCast]
  have ht1 : TT σ1 P r l := ht.elim fun d t => ⟨d, T_keep (fun _ h => h) (fun b _ k _ => g2 _ _ (by omega)) (fun b _ k _ => g1 _ _ (by omega)) t⟩
  have sm : Sm [3] σ1 (uf σ1 3 m r) := Sm.uf (by simp)
  have h64 : ∀ i ∈ [3], i < 64 := fun i hi => by simp at hi; omega
  obtain ⟨d, ht2⟩ := sm.TT h64 ht1
  exact sp_countOf ht2 (hq _ (c1.map hm ht1) (f1.tr (Fr.sm sm (fun i hi => by simp at hi; omega))))
theorem sp_bring_L {nx : Nat} {Q : SS → Prop} (hnx : nx < 12) : ∀ (f : Nat) {i : Nat} {σ : SS}, i + f = 6 → sn σ 4 2 = nx →
    (∀ σ', (∀ x k, sf σ' x k = if x = 3 ∧ i ≤ k ∧ k < 6 then sf σ 5 (nx * 6 + k) else if x = 5 ∧ nx * 6 + i ≤ k ∧ k < nx * 6 + 6 then none else sf σ x k) → sn σ' = sn σ → sS σ' = sS σ → sz σ' = sz σ → Q σ') → wX7_bringLast_L32 Q (f + 1) (i : Int) σ := by
  intro f
  induction f with
  | zero =>
    intro i σ hi hn hq
    have : i = 6 := by omega
    subst this
    rw [wX7_bringLast_L32]
    refine ⟨⟨by omega, by omega⟩, fun _ => hq σ (fun x k => ?_) rfl rfl rfl, fun c => by omega⟩
    rw [if_neg (by omega), if_neg (by omega)]
  | succ f ih =>
    intro i σ hi hn hq
    have e1 : ((nx : Int) * 6 + (i : Int)).toNat = nx * 6 + i := by omega
    rw [wX7_bringLast_L32, hn, Int.toNat_natCast, e1, sn_uf, hn, e1]
    refine ⟨⟨by omega, by omega⟩, fun c => by omega, fun _ => ⟨by omega, by omega, by omega, by omega, by omega, by omega, ?_⟩⟩
    have e3 : ((i : Int) + 1) = ((i + 1 : Nat) : Int) := by omega
    rw [e3]
    refine ih (by omega) hn (fun σ' hf hs hS hz => hq σ' (fun x k => ?_) hs hS hz)
    rw [hf]
    by_cases c1 : x = 3
    · subst c1
      by_cases c2 : i + 1 ≤ k ∧ k < 6
      · rw [if_pos ⟨rfl, c2⟩, if_pos ⟨rfl, by omega, c2.2⟩, sf_uf_k _ _ (by omega), sf_uf_i _ _ (by omega)]
      · rw [if_neg (by omega), if_neg (by omega), sf_uf_i _ _ (by omega)]
        by_cases c3 : k = i
        · subst c3
          rw [sf_uf_same, if_pos ⟨rfl, by omega, by omega⟩]
        · rw [sf_uf_k _ _ c3, if_neg (by omega), if_neg (by omega)]
    · simp only [c1, false_and, if_false]
      by_cases c2 : x = 5
      · subst c2
        by_cases c3 : nx * 6 + (i + 1) ≤ k ∧ k < nx * 6 + 6
        · rw [if_pos ⟨rfl, c3⟩, if_pos ⟨rfl, by omega, c3.2⟩]
        · rw [if_neg (fun q => c3 q.2)]
          by_cases c4 : k = nx * 6 + i
          · subst c4
            rw [sf_uf_same, if_pos ⟨rfl, by omega, by omega⟩]
          · rw [sf_uf_k _ _ c4, sf_uf_i _ _ (by omega), if_neg (by omega)]
      · simp only [c2, false_and, if_false]
        rw [sf_uf_i _ _ c2, sf_uf_i _ _ c1]
theorem sp_bringLast {n : Nat} {Q : SS → Prop} {M : Nat → List KV} {rest : List (Nat → List KV)} (h : CI Z rb σ P a) (hw : AW n a) (hM : aP a = M :: rest) (hq : ∀ σ', CI Z rb σ' P (M, rest, a.2.2) → Fr σ σ' → Q σ') : wX7_bringLast σ Q := by
  obtain ⟨c1, c2, ⟨nx, v1, v2, v3, v4, v5⟩, c4, c5, c6, c7, c8, c9, c10⟩ := h
  have hp := hw.2.1
  rw [hM] at v3 v4 v5 hp
  rw [List.length_cons] at v3 v5 hp
  unfold wX7_bringLast
  rw [v2]
  have e1 : ((nx : Int) + 12 - 1) = ((nx + 11 : Nat) : Int) := by omega
  rw [e1, tmod12]
  have e2 : sn (un σ 4 2 (((nx + 11) % 12 : Nat) : Int)) 4 1 = (rest.length : Int) + 1 := by rw [sn_un_k _ _ (by omega), v3]; omega
  rw [e2]
  obtain ⟨σ1, hσ1⟩ : ∃ s, s = un (un σ 4 2 (((nx + 11) % 12 : Nat) : Int)) 4 1 (max ((rest.length : Int) + 1 - 1) 0) := ⟨_, rfl⟩
  rw [← hσ1]
  refine ⟨⟨by omega, by omega⟩, ⟨by omega, by omega⟩, ⟨by omega, by omega⟩, 7, ?_⟩
  have hnx' : (nx + 11) % 12 < 12 := Nat.mod_lt _ (by decide)
  have s42 : sn σ1 4 2 = ((nx + 11) % 12 : Nat) := by rw [hσ1, sn_un_k _ _ (by omega), sn_un_same]
  have s41 : sn σ1 4 1 = rest.length := by rw [hσ1, sn_un_same]; omega
  have sO : ∀ x k, x ≠ 4 → sn σ1 x k = sn σ x k := fun x k hx => by rw [hσ1, sn_un_i _ _ hx, sn_un_i _ _ hx]
  have fO : sf σ1 = sf σ := by rw [hσ1]; rfl
  refine sp_bring_L hnx' 6 (i := 0) rfl s42 (fun σ' hf hs hS hz => ?_)
  rw [fO] at hf
  have S' : sS σ' = sS σ := by rw [hS, hσ1]; rfl
  have z' : sz σ' = sz σ := by rw [hz, hσ1]; rfl
  have sm : Sm [3, 4, 5] σ σ' := ⟨fun i hi k => ⟨by rw [hs, sO i k (fun q => hi (by simp [q]))], by rw [hf, if_neg (fun q => hi (by simp [q.1])), if_neg (fun q => hi (by simp [q.1]))]⟩, S', z'⟩
  have h64 : ∀ i ∈ [3, 4, 5], i < 64 := fun i hi => by simp at hi; omega
  have n4 : ∀ x k, x ≠ 4 → sn σ' x k = sn σ x k := fun x k hx => by rw [hs]; exact sO x k hx
  refine hq σ' ⟨sm.GI (fun i q => by simp at q; omega) c1, fun m hm => ?_, ⟨(nx + 11) % 12, hnx', by rw [hs]; exact s42, by rw [hs]; exact s41, fun j M' hM' m hm => ?_, fun j hj1 hj2 m hm => ?_⟩, fun i q => ?_, fun i q => ?_, ?_, fun j hj => ?_, ?_, fun i c q => ?_, ?_⟩ (Fr.sm sm (fun i hi => by simp at hi; omega))
  · rw [hf, if_pos ⟨rfl, by omega, hm⟩]
    have := v4 0 M rfl m hm
    have e : vs nx 0 = (nx + 11) % 12 := rfl
    rw [e] at this
    exact sm.TT h64 this
  · have e : vs ((nx + 11) % 12) j = vs nx (j + 1) := by
      have : j < rest.length := (List.getElem?_eq_some_iff.mp hM').1
      unfold vs; omega
    have e2 : vs nx (j + 1) ≠ (nx + 11) % 12 := by
      have : j < rest.length := (List.getElem?_eq_some_iff.mp hM').1
      unfold vs; omega
    rw [e, hf, if_neg (by omega), if_neg (by omega)]
    exact sm.TT h64 (v4 (j + 1) M' hM' m hm)
  · have hj1' : rest.length ≤ j := hj1
    rw [hf, if_neg (by omega)]
    by_cases q : j = 11
    · have e : vs ((nx + 11) % 12) j = (nx + 11) % 12 := by unfold vs; omega
      rw [e, if_pos ⟨rfl, by omega, by omega⟩]
    · have e : vs ((nx + 11) % 12) j = vs nx (j + 1) := by unfold vs; omega
      rw [e]
      split
      · rfl
      · exact v5 (j + 1) (by omega) (by omega) m hm
  · obtain ⟨l, t, hl⟩ := c4 i q
    rw [hf, if_neg (by omega), if_neg (by omega)]; exact ⟨l, sm.TT h64 t, hl⟩
  · obtain ⟨l, t, hl⟩ := c5 i q
    rw [hf, if_neg (by omega), if_neg (by omega)]; exact ⟨l, sm.TT h64 t, hl⟩
  · rw [n4 0 _ (by decide)]; exact c6
  · rw [n4 0 _ (by decide)]; exact c7 j hj
  · rw [n4 2 _ (by decide)]; exact c8
  · rw [n4 6 _ (by decide)]; exact c9 i c q
  · rw [n4 1 _ (by decide)]; exact c10
end
