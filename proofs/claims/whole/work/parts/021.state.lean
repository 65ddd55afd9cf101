/-! ===== the state: what each cell holds, by small numbers =====
cells 0 .. 20 the class's, 21 .. 38 the reference's, b + 64 the node at the address b -/
section
abbrev SS : Type := (Nat → Nat → Int) × (Nat → Nat → Option Nat) × (Nat → Prop) × Nat
def sn (σ : SS) : Nat → Nat → Int := σ.1
def sf (σ : SS) : Nat → Nat → Option Nat := σ.2.1
def sS (σ : SS) : Nat → Prop := σ.2.2.1
def sz (σ : SS) : Nat := σ.2.2.2
def un (σ : SS) (i k : Nat) (v : Int) : SS := (fun j q => if j = i ∧ q = k then v else σ.1 j q, σ.2)
def uf (σ : SS) (i k : Nat) (r : Option Nat) : SS := (σ.1, fun j q => if j = i ∧ q = k then r else σ.2.1 j q, σ.2.2)
def unew (σ : SS) : SS := (fun j q => if j = σ.2.2.2 + 64 then 0 else σ.1 j q, fun j q => if j = σ.2.2.2 + 64 then none else σ.2.1 j q, fun b => σ.2.2.1 b ∨ b = σ.2.2.2, σ.2.2.2 + 1)
theorem sn_un (σ : SS) (i k : Nat) (v : Int) (j q : Nat) : sn (un σ i k v) j q = if j = i ∧ q = k then v else sn σ j q := rfl
theorem sn_un_same (σ : SS) (i k : Nat) (v : Int) : sn (un σ i k v) i k = v := by simp [sn_un]
theorem sn_un_i (σ : SS) {i k j q : Nat} (v : Int) (h : j ≠ i) : sn (un σ i k v) j q = sn σ j q := by simp [sn_un, h]
theorem sn_un_k (σ : SS) {i k j q : Nat} (v : Int) (h : q ≠ k) : sn (un σ i k v) j q = sn σ j q := by simp [sn_un, h]
theorem sf_un (σ : SS) (i k : Nat) (v : Int) : sf (un σ i k v) = sf σ := rfl
theorem sS_un (σ : SS) (i k : Nat) (v : Int) : sS (un σ i k v) = sS σ := rfl
theorem sz_un (σ : SS) (i k : Nat) (v : Int) : sz (un σ i k v) = sz σ := rfl
theorem sf_uf (σ : SS) (i k : Nat) (v : Option Nat) (j q : Nat) : sf (uf σ i k v) j q = if j = i ∧ q = k then v else sf σ j q := rfl
theorem sf_uf_same (σ : SS) (i k : Nat) (v : Option Nat) : sf (uf σ i k v) i k = v := by simp [sf_uf]
theorem sf_uf_i (σ : SS) {i k j q : Nat} (v : Option Nat) (h : j ≠ i) : sf (uf σ i k v) j q = sf σ j q := by simp [sf_uf, h]
theorem sf_uf_k (σ : SS) {i k j q : Nat} (v : Option Nat) (h : q ≠ k) : sf (uf σ i k v) j q = sf σ j q := by simp [sf_uf, h]
theorem sn_uf (σ : SS) (i k : Nat) (v : Option Nat) : sn (uf σ i k v) = sn σ := rfl
theorem sS_uf (σ : SS) (i k : Nat) (v : Option Nat) : sS (uf σ i k v) = sS σ := rfl
theorem sz_uf (σ : SS) (i k : Nat) (v : Option Nat) : sz (uf σ i k v) = sz σ := rfl
theorem sn_unew (σ : SS) (j q : Nat) : sn (unew σ) j q = if j = sz σ + 64 then 0 else sn σ j q := rfl
theorem sf_unew (σ : SS) (j q : Nat) : sf (unew σ) j q = if j = sz σ + 64 then none else sf σ j q := rfl
theorem sS_unew (σ : SS) (b : Nat) : sS (unew σ) b = (sS σ b ∨ b = sz σ) := rfl
theorem sz_unew (σ : SS) : sz (unew σ) = sz σ + 1 := rfl
/-- what a cell is: the number of its class; 20 an int row, 21 a byte row, 22 a row of nodes -/
def fcl (i : Nat) : Nat := match i with
  | 0 => 8 | 1 => 2 | 2 => 1 | 3 => 22 | 4 => 7 | 5 => 22 | 6 => 21 | 7 => 4 | 8 => 20 | 9 => 20 | 10 => 5 | 11 => 20 | 12 => 0 | 13 => 22 | 14 => 22
  | 15 => 6 | 16 => 20 | 17 => 20 | 18 => 6 | 19 => 20 | 20 => 20 | 21 => 9 | _ => 20
/-- how many fields, or places -/
def fln (i : Nat) : Nat := match i with
  | 0 => 14 | 1 => 4 | 2 => 2 | 3 => 6 | 4 => 3 | 5 => 72 | 6 => 120 | 7 => 3 | 8 => 120 | 9 => 120 | 10 => 11 | 11 => 120 | 12 => 4 | 13 => 6 | 14 => 120
  | 15 => 3 | 16 => 200 | 17 => 200 | 18 => 3 | 19 => 200 | 20 => 200 | 21 => 27 | 22 => 1200 | 23 => 6 | 24 => 14400 | 25 => 72 | 26 => 1200 | 27 => 6 | 28 => 201 | 29 => 3
  | 30 => 120 | 31 => 130 | 32 => 130 | 33 => 60 | 34 => 60 | 35 => 130 | 36 => 130 | 37 => 130 | _ => 6
/-- the kind of a class's field: 0 an int, 1 a long, 2 a node or null, 3 a fixed cell -/
def ffk (c k : Nat) : Nat := match c with
  | 0 => match k with | 3 => 0 | _ => 3
  | 1 => match k with | 0 => 3 | _ => 0
  | 2 => match k with | 0 => 2 | 1 => 2 | _ => 0
  | 3 => match k with | 3 => 1 | 4 => 2 | 5 => 2 | 6 => 2 | 7 => 2 | _ => 0
  | 4 => match k with | 0 => 3 | 1 => 3 | _ => 0
  | 5 => match k with | 0 => 3 | 1 => 3 | 2 => 3 | _ => 0
  | 6 => match k with | 0 => 3 | 1 => 3 | _ => 0
  | 7 => match k with | 0 => 3 | _ => 0
  | 8 => match k with | 10 => 0 | 11 => 0 | 12 => 0 | 13 => 0 | _ => 3
  | 9 => match k with | 4 => 0 | 9 => 0 | 11 => 0 | 13 => 0 | 15 => 0 | 18 => 0 | 20 => 0 | 24 => 0 | 25 => 0 | 26 => 0 | _ => 3
  | _ => 0
/-- which fixed cell a field names -/
def frt (i k : Nat) : Nat := match i with
  | 0 => match k with | 0 => 1 | 1 => 2 | 2 => 3 | 3 => 4 | 4 => 6 | 5 => 7 | 6 => 10 | 7 => 12 | 8 => 15 | _ => 18
  | 2 => 1
  | 4 => 5
  | 7 => match k with | 0 => 8 | _ => 9
  | 10 => match k with | 0 => 6 | 1 => 7 | _ => 11
  | 12 => match k with | 0 => 13 | 1 => 14 | _ => 1
  | 15 => match k with | 0 => 16 | _ => 17
  | 18 => match k with | 0 => 19 | _ => 20
  | _ => match k with | 0 => 22 | 1 => 23 | 2 => 24 | 3 => 25 | 5 => 26 | 6 => 27 | 7 => 28 | 8 => 29 | 10 => 30 | 12 => 31 | 14 => 32 | 16 => 33 | 17 => 34 | 19 => 35 | 21 => 36 | 22 => 37 | _ => 38
/-- the launch's numbers: classes and slots, row classes, the first cell of ours, where the fixed cells are, the heap when all of them stood: cells, slots -/
abbrev Ev : Type := va_G × ClassId × ClassId × ClassId × Nat × (Nat → Nat) × Nat × Nat
def eD (E : Ev) : va_G := E.1
def eI (E : Ev) : ClassId := E.2.1
def eB (E : Ev) : ClassId := E.2.2.1
def eR (E : Ev) : ClassId := E.2.2.2.1
def e0 (E : Ev) : Nat := E.2.2.2.2.1
def ea (E : Ev) : Nat → Nat := E.2.2.2.2.2.1
def ez (E : Ev) : Nat := E.2.2.2.2.2.2.1
def es (E : Ev) : Nat := E.2.2.2.2.2.2.2
def cv (E : Ev) (σ : SS) (c i : Nat) (k : Nat) : Value := match ffk c k with
  | 0 => .int (iI (sn σ i k))
  | 1 => .long (lI (sn σ i k))
  | 2 => va_rf (sf σ i k)
  | _ => .ref (ea E (frt i k))
def HC (E : Ev) (σ : SS) (i : Nat) (H : Heap) : Prop := match fcl i with
  | 20 => H[ea E i]? = some (arrV (eI E) (fln i) (fun k => .int (iI (sn σ i k))))
  | 21 => H[ea E i]? = some (arrV (eB E) (fln i) (fun k => .int (iI (sn σ i k))))
  | 22 => H[ea E i]? = some (arrV (eR E) (fln i) (fun k => va_rf (sf σ i k)))
  | c => t_OB (ea E i) ((eD E).1 c) (fln i) ((eD E).2 c) H (cv E σ c i)
abbrev HN (E : Ev) (σ : SS) (b : Nat) (H : Heap) : Prop := t_OB b ((eD E).1 3) 9 ((eD E).2 3) H (cv E σ 3 (b + 64))
/-- the slots of all cells -/
def sOf (H : Heap) : Nat := (H.toList.map (fun c => c.slots.size)).sum
def HB (E : Ev) (σ : SS) (H : Heap) : Prop :=
  (∀ i, i < 39 → HC E σ i H) ∧ (∀ b, sS σ b → HN E σ b H) ∧ (∀ i j, i < 39 → j < 39 → ea E i = ea E j → i = j) ∧ (∀ i, i < 39 → e0 E ≤ ea E i) ∧
  (∀ b, sS σ b → e0 E ≤ b ∧ ∀ i, i < 39 → b ≠ ea E i) ∧ (∀ i k, R32 (sn σ i k)) ∧ (∀ i k b, sf σ i k = some b → sS σ b) ∧ H.size = sz σ ∧ ez E ≤ sz σ ∧ sOf H = es E + 9 * (sz σ - ez E)
abbrev KK (E : Ev) (s : State) : Prop := va_K (eD E) vwCl [(eI E, .int), (eB E, .byte), (eR E, .object "JoinMaps$Node")] s
abbrev Av (E : Ev) : Nat → Prop := fun q => e0 E ≤ q
def GS (E : Ev) (σ : SS) (s : State) (H : Heap) (locs : List Loc) : Prop := HB E σ H ∧ va_S (Av E) s.heap H locs
theorem HC_congr {E : Ev} {σ σ' : SS} {i : Nat} {H H' : Heap} (h1 : ∀ k, sn σ' i k = sn σ i k) (h2 : ∀ k, sf σ' i k = sf σ i k) (hq : H'[ea E i]? = H[ea E i]?) (h : HC E σ i H) : HC E σ' i H' := by
  have e1 : (fun k => Value.int (iI (sn σ' i k))) = (fun k => Value.int (iI (sn σ i k))) := by funext k; rw [h1]
  have e2 : (fun k => va_rf (sf σ' i k)) = (fun k => va_rf (sf σ i k)) := by funext k; rw [h2]
  have e3 : ∀ c, cv E σ' c i = cv E σ c i := by
    intro c; funext k; unfold cv; rw [h1, h2]
  unfold HC at h ⊢
  rw [e1, e2, hq]
  simp only [e3]
  split at h
  · exact h
  · exact h
  · exact h
  · exact h.kept hq
theorem HN_congr {E : Ev} {σ σ' : SS} {b : Nat} {H H' : Heap} (h1 : ∀ k, sn σ' (b + 64) k = sn σ (b + 64) k) (h2 : ∀ k, sf σ' (b + 64) k = sf σ (b + 64) k) (hq : H'[b]? = H[b]?) (h : HN E σ b H) : HN E σ' b H' := by
  have e3 : cv E σ' 3 (b + 64) = cv E σ 3 (b + 64) := by
    funext k; unfold cv; rw [h1, h2]
  unfold HN
  rw [e3]
  exact h.kept hq
theorem sOf_same {H H' : Heap} {a : Nat} {cell cell' : Cell} (h : H[a]? = some cell) (h' : H'[a]? = some cell') (hs : cell'.slots.size = cell.slots.size) (z : H'.size = H.size) (oq : ∀ q, q ≠ a → H'[q]? = H[q]?) : sOf H' = sOf H := by
  unfold sOf
  congr 1
  apply List.ext_getElem?
  intro q
  rw [List.getElem?_map, List.getElem?_map, Array.getElem?_toList, Array.getElem?_toList]
  by_cases hq : q = a
  · rw [hq, h, h']
    simp [hs]
  · rw [oq q hq]
theorem sOf_push (H : Heap) (c : Cell) : sOf (H.push c) = sOf H + c.slots.size := by
  unfold sOf
  rw [Array.toList_push, List.map_append, List.sum_append]
  simp
theorem setSlot_size (c : Cell) (i : Nat) (v : Value) : (c.setSlot i v).slots.size = c.slots.size := by simp [Cell.setSlot]
/-- one cell is written -/
theorem HB_upd {E : Ev} {σ σ' : SS} {H H' : Heap} (h : HB E σ H) {a : Nat} {cell cell' : Cell} (hc : H[a]? = some cell) (hc' : H'[a]? = some cell') (hs : cell'.slots.size = cell.slots.size) (z : H'.size = H.size) (oq : ∀ q, q ≠ a → H'[q]? = H[q]?)
    (hfix : ∀ i, i < 39 → ea E i ≠ a → (∀ k, sn σ' i k = sn σ i k) ∧ ∀ k, sf σ' i k = sf σ i k) (hnod : ∀ b, sS σ b → b ≠ a → (∀ k, sn σ' (b + 64) k = sn σ (b + 64) k) ∧ ∀ k, sf σ' (b + 64) k = sf σ (b + 64) k)
    (hthis : ∀ i, i < 39 → ea E i = a → HC E σ' i H') (hthisN : sS σ a → HN E σ' a H') (hS : sS σ' = sS σ) (hz : sz σ' = sz σ) (hR : ∀ i k, R32 (sn σ' i k)) (hF : ∀ i k b, sf σ' i k = some b → sS σ b) : HB E σ' H' := by
  obtain ⟨a1, a2, a3, a4, a5, a6, a7, a8, a9, a10⟩ := h
  refine ⟨fun i hi => ?_, fun b hb => ?_, a3, a4, by rw [hS]; exact a5, hR, by rw [hS]; exact hF, by rw [z, hz]; exact a8, by rw [hz]; exact a9, by rw [sOf_same hc hc' hs z oq, hz]; exact a10⟩
  · by_cases hia : ea E i = a
    · exact hthis i hi hia
    · exact HC_congr (hfix i hi hia).1 (hfix i hi hia).2 (oq _ hia) (a1 i hi)
  · rw [hS] at hb
    by_cases hba : b = a
    · subst hba; exact hthisN hb
    · exact HN_congr (hnod b hb hba).1 (hnod b hb hba).2 (oq _ hba) (a2 b hb)
theorem HB_R {E : Ev} {σ : SS} {H : Heap} (h : HB E σ H) (i k : Nat) : R32 (sn σ i k) := h.2.2.2.2.2.1 i k
theorem HB_F {E : Ev} {σ : SS} {H : Heap} (h : HB E σ H) {i k b : Nat} (hb : sf σ i k = some b) : sS σ b := h.2.2.2.2.2.2.1 i k b hb
theorem HB_inj {E : Ev} {σ : SS} {H : Heap} (h : HB E σ H) {i j : Nat} (hi : i < 39) (hj : j < 39) (e : ea E i = ea E j) : i = j := h.2.2.1 i j hi hj e
theorem HB_e0 {E : Ev} {σ : SS} {H : Heap} (h : HB E σ H) {i : Nat} (hi : i < 39) : e0 E ≤ ea E i := h.2.2.2.1 i hi
theorem HB_nn {E : Ev} {σ : SS} {H : Heap} (h : HB E σ H) {b : Nat} (hb : sS σ b) : e0 E ≤ b ∧ ∀ i, i < 39 → b ≠ ea E i := h.2.2.2.2.1 b hb
theorem HB_sz {E : Ev} {σ : SS} {H : Heap} (h : HB E σ H) : H.size = sz σ := h.2.2.2.2.2.2.2.1
theorem GS_R {E : Ev} {σ : SS} {s : State} {H : Heap} {locs : List Loc} (h : GS E σ s H locs) (i k : Nat) : R32 (sn σ i k) := HB_R h.1 i k
theorem GS_F {E : Ev} {σ : SS} {s : State} {H : Heap} {locs : List Loc} (h : GS E σ s H locs) {i k b : Nat} (hb : sf σ i k = some b) : sS σ b := HB_F h.1 hb
end
