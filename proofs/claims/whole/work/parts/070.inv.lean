/-! ===== what an object is: maps, versions, counts, mixer, text; the class's cells hold it ===== -/
abbrev AS : Type := (Nat → List KV) × List (Nat → List KV) × (Nat → Int) × Int × List Int
def aM (a : AS) : Nat → List KV := a.1
def aP (a : AS) : List (Nat → List KV) := a.2.1
def aR (a : AS) : Nat → Int := a.2.2.1
def aX (a : AS) : Int := a.2.2.2.1
def aT (a : AS) : List Int := a.2.2.2.2
def Gd (l : List KV) : Prop := Srt l ∧ (∀ p ∈ l, -500 ≤ p.1 ∧ p.1 ≤ 500) ∧ Vok l ∧ l.length ≤ 200
def AW (n : Nat) (a : AS) : Prop := (∀ m, m < 6 → Gd (aM a m)) ∧ (aP a).length ≤ 12 ∧ (∀ M ∈ aP a, ∀ m, m < 6 → Gd (M m)) ∧ (0 ≤ aX a ∧ aX a ≤ 5) ∧ (aT a).length ≤ 120 ∧ (∀ c ∈ aT a, 0 ≤ c ∧ c ≤ 127) ∧ (∀ j, 0 ≤ aR a j ∧ aR a j ≤ n)
/-- a call is refused: 0 bad, 1 no, 2 full -/
def aRef (a : AS) (j : Nat) : AS := (a.1, a.2.1, (fun i => if i = j then a.2.2.1 i + 1 else a.2.2.1 i), a.2.2.2)
def aSet (a : AS) (m : Nat) (l : List KV) : AS := ((fun i => if i = m then l else a.1 i), (a.1 :: a.2.1).take 12, a.2.2)
theorem AW.up {n k : Nat} {a : AS} (h : AW n a) (hk : n ≤ k) : AW k a := ⟨h.1, h.2.1, h.2.2.1, h.2.2.2.1, h.2.2.2.2.1, h.2.2.2.2.2.1, fun j => by have := h.2.2.2.2.2.2 j; omega⟩
theorem AW.ref {n : Nat} {a : AS} (h : AW n a) (j : Nat) : AW (n + 1) (aRef a j) := by
  refine ⟨h.1, h.2.1, h.2.2.1, h.2.2.2.1, h.2.2.2.2.1, h.2.2.2.2.2.1, fun i => ?_⟩
  have h1 := h.2.2.2.2.2.2 i
  unfold aR aRef at *
  dsimp only at *
  split <;> omega
theorem AW.set {n : Nat} {a : AS} (h : AW n a) {m : Nat} {l : List KV} (hl : Gd l) : AW n (aSet a m l) := by
  refine ⟨fun i hi => ?_, ?_, fun M hM i hi => ?_, h.2.2.2.1, h.2.2.2.2.1, h.2.2.2.2.2.1, h.2.2.2.2.2.2⟩
  · unfold aM aSet
    dsimp only
    split
    · exact hl
    · exact h.1 i hi
  · unfold aP aSet
    dsimp only
    rw [List.length_take]; omega
  · have := List.mem_of_mem_take hM
    rcases List.mem_cons.mp this with rfl | q
    · exact h.1 i hi
    · exact h.2.2.1 M q i hi
/-- the class's cells -/
def vs (nx j : Nat) : Nat := (nx + 11 - j) % 12
def CI (Z : Nat) (rb : Int) (σ : SS) (P : Nat → Prop) (a : AS) : Prop :=
  GI Z σ P ∧ (∀ m, m < 6 → TT σ P (sf σ 3 m) (aM a m)) ∧
  (∃ nx : Nat, nx < 12 ∧ sn σ 4 2 = nx ∧ sn σ 4 1 = (aP a).length ∧ (∀ (j : Nat) (M : Nat → List KV), (aP a)[j]? = some M → ∀ m, m < 6 → TT σ P (sf σ 5 (vs nx j * 6 + m)) (M m)) ∧ (∀ j, (aP a).length ≤ j → j < 12 → ∀ m, m < 6 → sf σ 5 (vs nx j * 6 + m) = none)) ∧
  (∀ i, i < 6 → ∃ l, TT σ P (sf σ 13 i) l ∧ l.length ≤ 400) ∧ (∀ i, i < 120 → ∃ l, TT σ P (sf σ 14 i) l ∧ l.length ≤ 400) ∧
  sn σ 0 10 = (aT a).length ∧ (∀ j, j < 3 → sn σ 0 (11 + j) = aR a j) ∧ sn σ 2 1 = aX a ∧ (∀ (i : Nat) (c : Int), (aT a)[i]? = some c → sn σ 6 i = c) ∧ sn σ 1 3 ≤ rb
/-- the reference's cells stay -/
def Fr (σ σ' : SS) : Prop := ∀ i, 21 ≤ i → i < 39 → ∀ k, sn σ' i k = sn σ i k
theorem Fr.rf (σ : SS) : Fr σ σ := fun _ _ _ _ => rfl
theorem Fr.tr {σ σ1 σ2 : SS} (h1 : Fr σ σ1) (h2 : Fr σ1 σ2) : Fr σ σ2 := fun i a b k => (h2 i a b k).trans (h1 i a b k)
theorem Fr.ext {n : Int} {σ σ1 : SS} {P P1 : Nat → Prop} (h : Ext n σ P σ1 P1) : Fr σ σ1 := fun i a b k => (h.2.2.2.1 i (by omega) (by omega) k).1
theorem Fr.sc {σ σ1 : SS} {P P1 : Nat → Prop} (h : SC σ P σ1 P1) : Fr σ σ1 := fun i a b k => (h.2.1 i (by omega) (by omega) k).1
theorem Fr.sm {is : List Nat} {σ σ1 : SS} (h : Sm is σ σ1) (hi : ∀ i ∈ is, ¬ (21 ≤ i ∧ i < 39)) : Fr σ σ1 := fun i a b k => (h.1 i (fun q => hi i q ⟨a, b⟩) k).1
section
variable {Z : Nat} {rb : Int} {σ σ' : SS} {P P' : Nat → Prop} {a : AS}
/-- writes elsewhere -/
theorem CI.sm {is : List Nat} (h : CI Z rb σ P a) (hs : Sm is σ σ') (hi : ∀ i ∈ is, i < 64 ∧ 6 < i ∧ i ≠ 13 ∧ i ≠ 14) : CI Z rb σ' P a := by
  have ho : ∀ i, (i ≤ 6 ∨ i = 13 ∨ i = 14) → ∀ k, sn σ' i k = sn σ i k ∧ sf σ' i k = sf σ i k := fun i hh k => hs.1 i (fun q => by have := hi i q; omega) k
  have h64 : ∀ i ∈ is, i < 64 := fun i q => (hi i q).1
  obtain ⟨c1, c2, ⟨nx, v1, v2, v3, v4, v5⟩, c4, c5, c6, c7, c8, c9, c10⟩ := h
  refine ⟨hs.GI (fun i q => by have := hi i q; omega) c1, fun m hm => ?_, ⟨nx, v1, ?_, ?_, fun j M hM m hm => ?_, fun j h1 h2 m hm => ?_⟩, fun i q => ?_, fun i q => ?_, ?_, fun j hj => ?_, ?_, fun i c q => ?_, ?_⟩
  · rw [(ho 3 (by omega) m).2]; exact hs.TT h64 (c2 m hm)
  · rw [(ho 4 (by omega) 2).1]; exact v2
  · rw [(ho 4 (by omega) 1).1]; exact v3
  · rw [(ho 5 (by omega) _).2]; exact hs.TT h64 (v4 j M hM m hm)
  · rw [(ho 5 (by omega) _).2]; exact v5 j h1 h2 m hm
  · obtain ⟨l, t, hl⟩ := c4 i q
    rw [(ho 13 (by omega) _).2]; exact ⟨l, hs.TT h64 t, hl⟩
  · obtain ⟨l, t, hl⟩ := c5 i q
    rw [(ho 14 (by omega) _).2]; exact ⟨l, hs.TT h64 t, hl⟩
  · rw [(ho 0 (by omega) _).1]; exact c6
  · rw [(ho 0 (by omega) _).1]; exact c7 j hj
  · rw [(ho 2 (by omega) _).1]; exact c8
  · rw [(ho 6 (by omega) _).1]; exact c9 i c q
  · rw [(ho 1 (by omega) _).1]; exact c10
theorem CI.ext {n : Int} (h : CI Z rb σ P a) (hs : Ext n σ P σ' P') (hg : GI Z σ' P') : CI Z rb σ' P' a := by
  have ho : ∀ i, i < 64 → i ≠ 1 → ∀ k, sn σ' i k = sn σ i k ∧ sf σ' i k = sf σ i k := hs.2.2.2.1
  obtain ⟨c1, c2, ⟨nx, v1, v2, v3, v4, v5⟩, c4, c5, c6, c7, c8, c9, c10⟩ := h
  refine ⟨hg, fun m hm => ?_, ⟨nx, v1, ?_, ?_, fun j M hM m hm => ?_, fun j h1 h2 m hm => ?_⟩, fun i q => ?_, fun i q => ?_, ?_, fun j hj => ?_, ?_, fun i c q => ?_, ?_⟩
  · rw [(ho 3 (by omega) (by omega) m).2]; exact hs.TT (c2 m hm)
  · rw [(ho 4 (by omega) (by omega) 2).1]; exact v2
  · rw [(ho 4 (by omega) (by omega) 1).1]; exact v3
  · rw [(ho 5 (by omega) (by omega) _).2]; exact hs.TT (v4 j M hM m hm)
  · rw [(ho 5 (by omega) (by omega) _).2]; exact v5 j h1 h2 m hm
  · obtain ⟨l, t, hl⟩ := c4 i q
    rw [(ho 13 (by omega) (by omega) _).2]; exact ⟨l, hs.TT t, hl⟩
  · obtain ⟨l, t, hl⟩ := c5 i q
    rw [(ho 14 (by omega) (by omega) _).2]; exact ⟨l, hs.TT t, hl⟩
  · rw [(ho 0 (by omega) (by omega) _).1]; exact c6
  · rw [(ho 0 (by omega) (by omega) _).1]; exact c7 j hj
  · rw [(ho 2 (by omega) (by omega) _).1]; exact c8
  · rw [(ho 6 (by omega) (by omega) _).1]; exact c9 i c q
  · rw [hs.2.2.2.2.1]; exact c10
theorem vs_lt (nx j : Nat) : vs nx j < 12 := Nat.mod_lt _ (by decide)
theorem CI.rok {n : Nat} (h : CI Z rb σ P a) (hw : AW n a) : Rok σ P := by
  obtain ⟨c1, c2, ⟨nx, v1, v2, v3, v4, v5⟩, c4, c5, -⟩ := h
  intro r hr
  obtain ⟨x, j, hx, hj, rfl⟩ := rts_of hr
  rcases hx with rfl | rfl | rfl | rfl
  · have hj : j < 6 := hj
    exact ⟨_, c2 j hj, by have := (hw.1 j hj).2.2.2; omega⟩
  · have hj : j < 72 := hj
    -- the version of that place
    obtain ⟨q, m, hm, rfl⟩ : ∃ q m, m < 6 ∧ j = q * 6 + m := ⟨j / 6, j % 6, Nat.mod_lt _ (by decide), by omega⟩
    obtain ⟨i, hi, hv⟩ : ∃ i, i < 12 ∧ vs nx i = q := ⟨(nx + 11 - q) % 12, Nat.mod_lt _ (by decide), by unfold vs; omega⟩
    rw [← hv]
    by_cases hlt : i < (aP a).length
    · exact ⟨_, v4 i _ (List.getElem?_eq_getElem hlt) m hm, by have := (hw.2.2.1 _ (List.getElem_mem hlt) m hm).2.2.2; omega⟩
    · rw [v5 i (by omega) hi m hm]
      exact ⟨[], TT_nil, by simp⟩
  · exact c4 j hj
  · exact c5 j hj
theorem CI.sc {n : Nat} (h : CI Z rb σ P a) (hw : AW n a) (hs : SC σ P σ' P') (hg : GI Z σ' P') : CI Z (rb + 1) σ' P' a := by
  have ho : ∀ i, i < 64 → i ≠ 1 → ∀ k, sn σ' i k = sn σ i k ∧ sf σ' i k = sf σ i k := hs.2.1
  obtain ⟨c1, c2, ⟨nx, v1, v2, v3, v4, v5⟩, c4, c5, c6, c7, c8, c9, c10⟩ := h
  have ht : ∀ x, (x = 3 ∨ x = 5 ∨ x = 13 ∨ x = 14) → ∀ j, j < fln x → ∀ l, TT σ P (sf σ x j) l → TT σ' P' (sf σ' x j) l := fun x hx j hj l t => by
    rw [(ho x (by omega) (by omega) j).2]; exact hs.1 _ (rts_in hx hj) l t
  refine ⟨hg, fun m hm => ht 3 (by decide) m hm _ (c2 m hm), ⟨nx, v1, ?_, ?_, fun j M hM m hm => ?_, fun j h1 h2 m hm => ?_⟩, fun i q => ?_, fun i q => ?_, ?_, fun j hj => ?_, ?_, fun i c q => ?_, ?_⟩
  · rw [(ho 4 (by omega) (by omega) 2).1]; exact v2
  · rw [(ho 4 (by omega) (by omega) 1).1]; exact v3
  · have := vs_lt nx j
    exact ht 5 (by decide) _ (show vs nx j * 6 + m < 72 by omega) _ (v4 j M hM m hm)
  · rw [(ho 5 (by omega) (by omega) _).2]; exact v5 j h1 h2 m hm
  · obtain ⟨l, t, hl⟩ := c4 i q
    exact ⟨l, ht 13 (by decide) i q l t, hl⟩
  · obtain ⟨l, t, hl⟩ := c5 i q
    exact ⟨l, ht 14 (by decide) i q l t, hl⟩
  · rw [(ho 0 (by omega) (by omega) _).1]; exact c6
  · rw [(ho 0 (by omega) (by omega) _).1]; exact c7 j hj
  · rw [(ho 2 (by omega) (by omega) _).1]; exact c8
  · rw [(ho 6 (by omega) (by omega) _).1]; exact c9 i c q
  · have := hs.2.2.2; omega
theorem sp_start {n : Nat} {Q : SS → Prop} (h : CI Z rb σ P a) (hw : AW n a) (hrb : rb ≤ 2147000000) (hq : ∀ σ' P', CI Z (rb + 1) σ' P' a → sn σ' 1 2 ≤ 8191 → Fr σ σ' → (∀ i, i < 64 → i ≠ 1 → ∀ k, sn σ' i k = sn σ i k ∧ sf σ' i k = sf σ i k) → Q σ') : wX8_startChange σ Q :=
  sp_startChange h.1 (h.rok hw) (by have := h.2.2.2.2.2.2.2.2.2; omega) (fun σ' P' g s => hq σ' P' (h.sc hw s g) s.2.2.1 (Fr.sc s) s.2.1)
/-- refusals -/
theorem CI.ref (h : CI Z rb σ P a) {j : Nat} (hj : j < 3) : CI Z rb (un σ 0 (11 + j) (sn σ 0 (11 + j) + 1)) P (aRef a j) := by
  have hs : Sm [0] σ (un σ 0 (11 + j) (sn σ 0 (11 + j) + 1)) := Sm.un (by simp)
  have ho : ∀ i, i ≠ 0 → ∀ k, sn (un σ 0 (11 + j) (sn σ 0 (11 + j) + 1)) i k = sn σ i k := fun i hi k => sn_un_i _ _ hi
  have h64 : ∀ i ∈ [0], i < 64 := fun i hi => by simp at hi; omega
  obtain ⟨c1, c2, ⟨nx, v1, v2, v3, v4, v5⟩, c4, c5, c6, c7, c8, c9, c10⟩ := h
  refine ⟨hs.GI (fun i q => by simp at q; omega) c1, fun m hm => hs.TT h64 (c2 m hm), ⟨nx, v1, v2, v3, fun j M hM m hm => hs.TT h64 (v4 j M hM m hm), v5⟩, fun i q => ?_, fun i q => ?_, ?_, fun i hi => ?_, ?_, fun i c q => ?_, ?_⟩
  · obtain ⟨l, t, hl⟩ := c4 i q
    exact ⟨l, hs.TT h64 t, hl⟩
  · obtain ⟨l, t, hl⟩ := c5 i q
    exact ⟨l, hs.TT h64 t, hl⟩
  · rw [sn_un_k _ _ (by omega)]; exact c6
  · rw [sn_un]
    by_cases q : i = j
    · subst q
      rw [if_pos ⟨rfl, rfl⟩, c7 i hi]
      simp [aR, aRef]
    · rw [if_neg (by omega), c7 i hi]
      simp [aR, aRef, q]
  · exact c8
  · exact c9 i c q
  · exact c10
theorem sp_bad {n : Nat} {Q : Int → SS → Prop} (h : CI Z rb σ P a) (hw : AW n a) (hn : n ≤ 1000000) (hq : ∀ σ', CI Z rb σ' P (aRef a 0) → Fr σ σ' → Q (-2000000002) σ') : wX8_bad σ Q := by
  have h1 := h.2.2.2.2.2.2.1 0 (by decide)
  have h2 := hw.2.2.2.2.2.2 0
  have h1' : sn σ 0 11 = aR a 0 := h1
  exact ⟨⟨by omega, by omega⟩, hq _ (h.ref (j := 0) (by decide)) (Fr.sm (is := [0]) (Sm.un (by simp)) (fun i hi => by simp at hi; omega))⟩
theorem sp_no {n : Nat} {Q : Int → SS → Prop} (h : CI Z rb σ P a) (hw : AW n a) (hn : n ≤ 1000000) (hq : ∀ σ', CI Z rb σ' P (aRef a 1) → Fr σ σ' → Q (-2000000003) σ') : wX8_no σ Q := by
  have h1 := h.2.2.2.2.2.2.1 1 (by decide)
  have h2 := hw.2.2.2.2.2.2 1
  have h1' : sn σ 0 12 = aR a 1 := h1
  exact ⟨⟨by omega, by omega⟩, hq _ (h.ref (j := 1) (by decide)) (Fr.sm (is := [0]) (Sm.un (by simp)) (fun i hi => by simp at hi; omega))⟩
theorem sp_full {n : Nat} {Q : Int → SS → Prop} (h : CI Z rb σ P a) (hw : AW n a) (hn : n ≤ 1000000) (hq : ∀ σ', CI Z rb σ' P (aRef a 2) → Fr σ σ' → Q (-2000000004) σ') : wX8_full σ Q := by
  have h1 := h.2.2.2.2.2.2.1 2 (by decide)
  have h2 := hw.2.2.2.2.2.2 2
  have h1' : sn σ 0 13 = aR a 2 := h1
  exact ⟨⟨by omega, by omega⟩, hq _ (h.ref (j := 2) (by decide)) (Fr.sm (is := [0]) (Sm.un (by simp)) (fun i hi => by simp at hi; omega))⟩
end
