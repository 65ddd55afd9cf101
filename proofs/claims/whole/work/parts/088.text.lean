/-! ===== sums: what a text says ===== -/
abbrev Tok : Type := Int × List Int
abbrev PSt : Type := Nat × Nat × Int × List Int × List Tok × List Int × List (Int × List Tok)
def bt (t : List Int) (i : Nat) : Int := (t[i]?).getD (-1)
abbrev isL (c : Int) : Prop := 97 ≤ c ∧ c ≤ 102
abbrev isDg (c : Int) : Prop := 48 ≤ c ∧ c ≤ 57
/-- how many figures stand from a place on -/
def dgs (t : List Int) : Nat → Nat → Nat
  | 0, _ => 0
  | f + 1, i => if isDg (bt t i) then dgs t f (i + 1) + 1 else 0
/-- the number that the first n figures from a place on make -/
def dgv (t : List Int) (i : Nat) : Nat → Int
  | 0 => 0
  | n + 1 => dgv t i n * 10 + bt t (i + n) - 48
def nst (t : List Int) (i : Nat) : Nat := if bt t i = 45 then i + 1 else i
def ndg (t : List Int) (i : Nat) : Nat := dgs t (t.length + 1) (nst t i)
def nmb (t : List Int) (i : Nat) : Option (Int × Nat) := if 1 ≤ ndg t i ∧ ndg t i ≤ 3 ∧ dgv t (nst t i) (ndg t i) ≤ 500 then some (if bt t i = 45 then -(dgv t (nst t i) (ndg t i)) else dgv t (nst t i) (ndg t i), nst t i + ndg t i) else none
def str (s : Int) : Int := if s = -1 then 0 else if s = 1 then 2 else 1
def popW (least : Int) : List Int → List Int × List Tok
  | [] => ([], [])
  | s :: w => if str s < least then (s :: w, []) else ((popW least w).1, (s, []) :: (popW least w).2)
def sgn (c : Int) : Option Int := if c = 43 then some 0 else if c = 38 then some 1 else if c = 45 then some 2 else if c = 94 then some 3 else none
def stp (t : List Int) : PSt → Option PSt
  | (i, w, tg, q, k, g, d) =>
    if w = 0 then (if isL (bt t i) then some (i + 1, 1, bt t i - 97, q, k, g, d) else none)
    else if w = 1 then (if bt t i = 61 then some (i + 1, 2, tg, q, k, g, d) else none)
    else if w = 2 then (if isL (bt t i) then some (i + 1, 3, tg, q, k ++ [(4, [bt t i - 97])], g, d) else if bt t i = 40 then some (i + 1, 2, tg, -1 :: q, k, g, d) else if bt t i = 123 then some (i + 1, 4, tg, q, k, [], d) else none)
    else if w = 3 then (match sgn (bt t i) with
      | some s => some (i + 1, 2, tg, s :: (popW (str s) q).1, k ++ (popW (str s) q).2, g, d)
      | none => if bt t i = 41 then (if -1 ∈ q then some (i + 1, 3, tg, (popW 1 q).1.tail, k ++ (popW 1 q).2, g, d) else none) else if bt t i = 59 then (if -1 ∈ q then none else some (i + 1, 0, tg, [], [], g, d ++ [(tg, k ++ (popW 1 q).2)])) else none)
    else if w = 4 ∧ bt t i = 125 then some (i + 1, 3, tg, q, k ++ [(5, [])], g, d)
    else if w = 4 ∨ w = 5 then (match nmb t i with
      | some (v, e) => some (e, 6, tg, q, k, g ++ [v], d)
      | none => none)
    else (if bt t i = 125 then some (i + 1, 3, tg, q, k ++ [(5, g)], g, d) else if bt t i = 44 ∧ g.length < 8 then some (i + 1, 5, tg, q, k, g, d) else none)
def rd (t : List Int) : Nat → PSt → Int × List (Int × List Tok)
  | 0, _ => (0, [])
  | f + 1, s => if t.length ≤ s.1 then (if s.2.1 = 0 ∧ s.2.2.2.2.2.2 ≠ [] then (-1, s.2.2.2.2.2.2) else ((t.length : Int), [])) else if bt t s.1 = 32 then rd t f (s.1 + 1, s.2) else (match stp t s with
    | some s' => rd t f s'
    | none => ((s.1 : Int), []))
theorem dgs_le (t : List Int) : ∀ (f i : Nat), i ≤ t.length → i + dgs t f i ≤ t.length := by
  intro f
  induction f with
  | zero => intro i hi; simpa [dgs] using hi
  | succ f ih =>
    intro i hi
    rw [dgs]
    split
    · rename_i h
      have : i < t.length := by
        refine Decidable.byContradiction fun c => ?_
        unfold bt at h
        rw [List.getElem?_eq_none (by omega)] at h
        simp at h; omega
      have := ih (i + 1) (by omega)
      omega
    · simpa using hi
theorem bt_lt {t : List Int} {i : Nat} {c : Int} (h : bt t i = c) (hc : c ≠ -1) : i < t.length := by
  refine Decidable.byContradiction fun q => hc ?_
  rw [← h]; unfold bt; rw [List.getElem?_eq_none (by omega)]; rfl
theorem nmb_lt {t : List Int} {i : Nat} {v : Int} {e : Nat} (hi : i < t.length) (h : nmb t i = some (v, e)) : i < e ∧ e ≤ t.length ∧ e = nst t i + ndg t i ∧ 1 ≤ ndg t i ∧ ndg t i ≤ 3 := by
  unfold nmb at h
  split at h
  · rename_i c
    have h2 := Option.some.inj h
    have h3 : nst t i + ndg t i = e := (Prod.mk.inj h2).2
    have hn : i ≤ nst t i ∧ nst t i ≤ i + 1 := by unfold nst; split <;> omega
    have := dgs_le t (t.length + 1) (nst t i) (by omega)
    have e2 : dgs t (t.length + 1) (nst t i) = ndg t i := rfl
    exact ⟨by omega, by omega, by omega, c.1, c.2.1⟩
  · cases h
theorem stp_lt {t : List Int} {s s' : PSt} (hi : s.1 < t.length) (h : stp t s = some s') : s.1 < s'.1 ∧ s'.1 ≤ t.length := by
  obtain ⟨i, w, tg, q, k, g, d⟩ := s
  dsimp only at hi ⊢
  rw [stp] at h
  repeat' split at h
  all_goals first
    | (cases h; done)
    | (cases h; dsimp only; omega)
    | skip
  all_goals (
    rename_i hn
    have := nmb_lt hi hn
    cases h
    dsimp only; omega)
theorem rd_mono {t : List Int} : ∀ (f : Nat) (s : PSt), s.1 ≤ t.length → t.length + 1 - s.1 ≤ f → rd t (f + 1) s = rd t f s := by
  intro f
  induction f with
  | zero => intro s h1 h2; omega
  | succ f ih =>
    intro s h1 h2
    rw [rd]
    conv => rhs; rw [rd]
    split
    · rfl
    · rename_i c
      split
      · exact ih _ (by dsimp only; omega) (by dsimp only; omega)
      · cases hs : stp t s with
        | none => rfl
        | some s' =>
          have := stp_lt (by omega) hs
          exact ih s' (by omega) (by omega)
def rdp (t : List Int) (s : PSt) : Int × List (Int × List Tok) := rd t (t.length + 1) s
theorem rdp_end {t : List Int} {i w : Nat} {tg : Int} {q : List Int} {k : List Tok} {g : List Int} {d : List (Int × List Tok)} (h : t.length ≤ i) : rdp t (i, w, tg, q, k, g, d) = if w = 0 ∧ d ≠ [] then (-1, d) else ((t.length : Int), []) := by
  unfold rdp; rw [rd, if_pos h]
theorem rdp_sp {t : List Int} {i w : Nat} {tg : Int} {q : List Int} {k : List Tok} {g : List Int} {d : List (Int × List Tok)} (h : i < t.length) (hc : bt t i = 32) : rdp t (i, w, tg, q, k, g, d) = rdp t (i + 1, w, tg, q, k, g, d) := by
  unfold rdp
  rw [rd_mono t.length (i + 1, w, tg, q, k, g, d) (by dsimp only; omega) (by dsimp only; omega), rd, if_neg (by dsimp only; omega), if_pos hc]
theorem rdp_go {t : List Int} {s s' : PSt} (h : s.1 < t.length) (hc : bt t s.1 ≠ 32) (hs : stp t s = some s') : rdp t s = rdp t s' := by
  have := stp_lt h hs
  unfold rdp
  rw [rd_mono t.length s' (by omega) (by omega), rd, if_neg (by omega), if_neg hc, hs]
theorem rdp_no {t : List Int} {s : PSt} (h : s.1 < t.length) (hc : bt t s.1 ≠ 32) (hs : stp t s = none) : rdp t s = ((s.1 : Int), []) := by
  unfold rdp
  rw [rd, if_neg (by omega), if_neg hc, hs]
/-- what is to be done, deed by deed -/
def flT : List Tok → List KV
  | [] => []
  | x :: k => (if x.1 = 4 then [(4, x.2.headD 0)] else if x.1 = 5 then (5, 0) :: x.2.map (fun v => ((6 : Int), v)) else [(x.1, 0)]) ++ flT k
def flD : List (Int × List Tok) → List KV
  | [] => []
  | x :: d => flT x.2 ++ (7, x.1) :: flD d
theorem flT_app (a b : List Tok) : flT (a ++ b) = flT a ++ flT b := by
  induction a with
  | nil => rfl
  | cons x a ih => rw [List.cons_append, flT, flT, ih, List.append_assoc]
theorem flD_app (a b : List (Int × List Tok)) : flD (a ++ b) = flD a ++ flD b := by
  induction a with
  | nil => rfl
  | cons x a ih => rw [List.cons_append, flD, flD, ih, List.append_assoc]; rfl
/-- how high the pile stands after a row of marks -/
def wf : List Tok → Nat → Option Nat
  | [], h => some h
  | x :: k, h => if 4 ≤ x.1 then wf k (h + 1) else if 2 ≤ h then wf k (h - 1) else none
theorem wf_app (a b : List Tok) (h : Nat) : wf (a ++ b) h = (wf a h).bind (wf b) := by
  induction a generalizing h with
  | nil => rfl
  | cons x a ih =>
    rw [List.cons_append, wf, wf]
    split
    · exact ih _
    · split
      · exact ih _
      · rfl
def sg (q : List Int) : Nat := (q.filter (fun s => decide (s ≠ -1))).length
def stc (k : List Tok) : Nat := (k.filter (fun x => decide (x.1 = 5))).length
abbrev okT (x : Tok) : Prop := ((0 ≤ x.1 ∧ x.1 ≤ 3) ∧ x.2 = []) ∨ (x.1 = 4 ∧ ∃ m : Int, isM m ∧ x.2 = [m]) ∨ (x.1 = 5 ∧ x.2.length ≤ 8 ∧ ∀ v ∈ x.2, isK v)
abbrev okQ (q : List Int) : Prop := ∀ s ∈ q, -1 ≤ s ∧ s ≤ 3
abbrev okD (d : List (Int × List Tok)) : Prop := ∀ x ∈ d, isM x.1 ∧ (∀ y ∈ x.2, okT y) ∧ wf x.2 0 = some 1
def PV (t : List Int) (s : PSt) : Prop :=
  s.1 ≤ t.length ∧ s.2.1 ≤ 6 ∧ isM s.2.2.1 ∧ okQ s.2.2.2.1 ∧ (∀ y ∈ s.2.2.2.2.1, okT y) ∧ (∀ v ∈ s.2.2.2.2.2.1, isK v) ∧ okD s.2.2.2.2.2.2 ∧
  (s.2.1 ≤ 1 → s.2.2.2.1 = [] ∧ s.2.2.2.2.1 = []) ∧ (2 ≤ s.2.1 → wf s.2.2.2.2.1 0 = some (sg s.2.2.2.1 + if s.2.1 = 3 then 1 else 0)) ∧ (s.2.1 = 4 → s.2.2.2.2.2.1 = []) ∧ (s.2.1 = 5 → s.2.2.2.2.2.1.length < 8) ∧ (s.2.1 = 6 → s.2.2.2.2.2.1.length ≤ 8) ∧
  (flD s.2.2.2.2.2.2).length + (flT s.2.2.2.2.1).length + (if 4 ≤ s.2.1 then 1 + s.2.2.2.2.2.1.length else 0) + s.2.2.2.1.length + stc s.2.2.2.2.1 ≤ s.1
theorem popW_ok {l : Int} : ∀ {q : List Int}, okQ q → okQ (popW l q).1 ∧ (∀ y ∈ (popW l q).2, okT y ∨ y.1 = -1)
  | [], _ => ⟨fun s hs => by simp [popW] at hs, fun y hy => by simp [popW] at hy⟩
  | s :: w, h => by
    rw [popW]
    have hw : okQ w := fun x hx => h x (List.mem_cons_of_mem _ hx)
    have ih := popW_ok (l := l) hw
    split
    · exact ⟨h, fun y hy => by cases hy⟩
    · refine ⟨ih.1, fun y hy => ?_⟩
      rcases List.mem_cons.mp hy with rfl | hy
      · have := h s List.mem_cons_self
        by_cases c : s = -1
        · exact Or.inr c
        · exact Or.inl (Or.inl ⟨by dsimp only; omega, rfl⟩)
      · exact ih.2 y hy
theorem str_pos {s : Int} (h : -1 ≤ s ∧ s ≤ 3) : (str s < 1 ↔ s = -1) ∧ (1 ≤ str s ∨ s = -1) := by
  unfold str
  constructor
  · constructor
    · intro c; split at c
      · assumption
      · split at c <;> omega
    · intro c; rw [if_pos c]; omega
  · split
    · right; assumption
    · left; split <;> omega
theorem popW_tok {l : Int} (hl : 1 ≤ l) : ∀ {q : List Int}, okQ q → (∀ y ∈ (popW l q).2, okT y ∧ 0 ≤ y.1 ∧ y.1 ≤ 3) ∧ (∀ h, wf (popW l q).2 (h + sg q + 1) = some (h + sg (popW l q).1 + 1)) ∧ (flT (popW l q).2).length + (popW l q).1.length = q.length ∧ stc (popW l q).2 = 0
  | [], _ => ⟨fun y hy => by simp [popW] at hy, fun h => by simp [popW, wf], rfl, rfl⟩
  | s :: w, h => by
    rw [popW]
    have hw : okQ w := fun x hx => h x (List.mem_cons_of_mem _ hx)
    obtain ⟨i1, i2, i3, i4⟩ := popW_tok hl hw
    have hs := h s List.mem_cons_self
    split
    · exact ⟨fun y hy => (by cases hy), fun h => by rw [wf], by simp [flT], rfl⟩
    · rename_i c
      have hs1 : s ≠ -1 := fun q => c (by rw [q]; unfold str; rw [if_pos rfl]; omega)
      have e : sg (s :: w) = sg w + 1 := by unfold sg; rw [List.filter_cons, if_pos (by simpa using hs1)]; rfl
      refine ⟨fun y hy => ?_, fun z => ?_, ?_, ?_⟩
      · rcases List.mem_cons.mp hy with rfl | hy
        · exact ⟨Or.inl ⟨by dsimp only; omega, rfl⟩, by dsimp only; omega, by dsimp only; omega⟩
        · exact i1 y hy
      · dsimp only
        rw [wf, if_neg (by dsimp only; omega), if_pos (by omega), e, ← i2 z]
        congr 1
      · dsimp only
        rw [flT, if_neg (by dsimp only; omega), if_neg (by dsimp only; omega), List.length_append, List.length_cons]
        simp only [List.length_cons, List.length_nil]; omega
      · dsimp only
        unfold stc
        rw [List.filter_cons, if_neg (by simp; omega)]
        exact i4
theorem popW_one : ∀ {q : List Int}, okQ q → ((-1 : Int) ∉ q → (popW 1 q).1 = []) ∧ ((-1 : Int) ∈ q → ∃ w, (popW 1 q).1 = -1 :: w)
  | [], _ => ⟨fun _ => rfl, fun h => by cases h⟩
  | s :: w, h => by
    have hw : okQ w := fun x hx => h x (List.mem_cons_of_mem _ hx)
    have ih := popW_one hw
    have hs := (str_pos (h s List.mem_cons_self)).1
    rw [popW]
    by_cases c : s = -1
    · rw [if_pos (hs.mpr c), c]
      exact ⟨fun z => absurd List.mem_cons_self z, fun _ => ⟨w, rfl⟩⟩
    · rw [if_neg (fun z => c (hs.mp z))]
      refine ⟨fun z => ih.1 (fun z2 => z (List.mem_cons_of_mem _ z2)), fun z => ih.2 ?_⟩
      rcases List.mem_cons.mp z with z | z
      · exact absurd z.symm c
      · exact z
theorem sgn_in {c s : Int} (h : sgn c = some s) : 0 ≤ s ∧ s ≤ 3 ∧ 1 ≤ str s := by
  unfold sgn at h
  split at h
  · cases h; decide
  · split at h
    · cases h; decide
    · split at h
      · cases h; decide
      · split at h
        · cases h; decide
        · cases h
theorem dgv_in {t : List Int} {i : Nat} : ∀ (n : Nat), n ≤ 3 → (∀ j, j < n → isDg (bt t (i + j))) → 0 ≤ dgv t i n := by
  intro n
  induction n with
  | zero => intro _ _; simp [dgv]
  | succ n ih =>
    intro h1 h2
    have := ih (by omega) (fun j hj => h2 j (by omega))
    have := h2 n (by omega)
    rw [dgv]; omega
theorem dgs_all {t : List Int} : ∀ (f i j : Nat), j < dgs t f i → isDg (bt t (i + j)) := by
  intro f
  induction f with
  | zero => intro i j h; simp [dgs] at h
  | succ f ih =>
    intro i j h
    rw [dgs] at h
    split at h
    · rename_i c
      cases j with
      | zero => exact c
      | succ j =>
        have := ih (i + 1) j (by omega)
        rw [show i + 1 + j = i + (j + 1) by omega] at this; exact this
    · omega
theorem nmb_in {t : List Int} {i : Nat} {v : Int} {e : Nat} (h : nmb t i = some (v, e)) : isK v := by
  unfold nmb at h
  split at h
  · rename_i c
    have h2 := (Prod.mk.inj (Option.some.inj h)).1
    have := dgv_in (t := t) (i := nst t i) (ndg t i) c.2.1 (fun j hj => dgs_all _ _ _ hj)
    rw [← h2]
    split <;> omega
  · cases h
theorem okT_app {a b : List Tok} (ha : ∀ y ∈ a, okT y) (hb : ∀ y ∈ b, okT y) : ∀ y ∈ a ++ b, okT y := fun y hy => (List.mem_append.mp hy).elim (ha y) (hb y)
theorem stc_app (a b : List Tok) : stc (a ++ b) = stc a + stc b := by unfold stc; rw [List.filter_append, List.length_append]
theorem sg_cons {s : Int} {q : List Int} : sg (s :: q) = sg q + if s = -1 then 0 else 1 := by
  unfold sg; rw [List.filter_cons]
  by_cases c : s = -1 <;> simp [c]
