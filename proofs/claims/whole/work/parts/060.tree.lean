/-! ===== trees of nodes as lists of entries ===== -/
abbrev KV : Type := Int × Int
def sumv : List KV → Int
  | [] => 0
  | p :: l => p.2 + sumv l
theorem sumv_app (a b : List KV) : sumv (a ++ b) = sumv a + sumv b := by
  induction a with
  | nil => simp [sumv]
  | cons p a ih => simp [sumv, ih, Int.add_assoc]
def tw (l : List KV) : Nat := l.length + 1
def bal (a b : Nat) : Prop := a ≤ 3 * b ∧ b ≤ 3 * a
def Srt (l : List KV) : Prop := l.Pairwise (fun a b => a.1 < b.1)
/-- r is a balanced tree of live nodes, not deeper than d, with the entries l -/
def T (σ : SS) (P : Nat → Prop) : Nat → Option Nat → List KV → Prop
  | 0, r, l => r = none ∧ l = []
  | d + 1, r, l => (r = none ∧ l = []) ∨ ∃ (b : Nat) (l1 l2 : List KV), r = some b ∧ P b ∧ T σ P d (sf σ (b + 64) 4) l1 ∧ T σ P d (sf σ (b + 64) 5) l2 ∧ l = l1 ++ (sn σ (b + 64) 0, sn σ (b + 64) 1) :: l2 ∧ sn σ (b + 64) 2 = l.length ∧ sn σ (b + 64) 3 = sumv l ∧ bal (tw l1) (tw l2)
section
variable {σ σ' : SS} {P P' : Nat → Prop}
theorem T_nil (d : Nat) : T σ P d none [] := by
  cases d with
  | zero => exact ⟨rfl, rfl⟩
  | succ d => exact Or.inl ⟨rfl, rfl⟩
theorem T_none {d : Nat} {l : List KV} (h : T σ P d none l) : l = [] := by
  cases d with
  | zero => exact h.2
  | succ d =>
    rcases h with h | ⟨b, l1, l2, hb, -⟩
    · exact h.2
    · cases hb
theorem T_some {d b : Nat} {l : List KV} (h : T σ P d (some b) l) : ∃ (e : Nat) (l1 l2 : List KV), d = e + 1 ∧ P b ∧ T σ P e (sf σ (b + 64) 4) l1 ∧ T σ P e (sf σ (b + 64) 5) l2 ∧ l = l1 ++ (sn σ (b + 64) 0, sn σ (b + 64) 1) :: l2 ∧ sn σ (b + 64) 2 = l.length ∧ sn σ (b + 64) 3 = sumv l ∧ bal (tw l1) (tw l2) := by
  cases d with
  | zero => cases h.1
  | succ d =>
    rcases h with h | ⟨b', l1, l2, hb, h⟩
    · cases h.1
    · cases hb
      exact ⟨d, l1, l2, rfl, h⟩
theorem T_mk {d b : Nat} {l1 l2 l : List KV} (hP : P b) (h1 : T σ P d (sf σ (b + 64) 4) l1) (h2 : T σ P d (sf σ (b + 64) 5) l2) (hl : l = l1 ++ (sn σ (b + 64) 0, sn σ (b + 64) 1) :: l2) (hc : sn σ (b + 64) 2 = l.length) (hs : sn σ (b + 64) 3 = sumv l) (hb : bal (tw l1) (tw l2)) : T σ P (d + 1) (some b) l :=
  Or.inr ⟨b, l1, l2, rfl, hP, h1, h2, hl, hc, hs, hb⟩
theorem T_up {d : Nat} : ∀ {r : Option Nat} {l : List KV}, T σ P d r l → T σ P (d + 1) r l := by
  induction d with
  | zero => intro r l h; exact Or.inl h
  | succ d ih =>
    intro r l h
    rcases h with h | ⟨b, l1, l2, hb, hP, h1, h2, h⟩
    · exact Or.inl h
    · exact Or.inr ⟨b, l1, l2, hb, hP, ih h1, ih h2, h⟩
theorem T_le {d e : Nat} (h : d ≤ e) {r : Option Nat} {l : List KV} (ht : T σ P d r l) : T σ P e r l := by
  induction e with
  | zero => rw [Nat.le_zero.mp h] at ht; exact ht
  | succ e ih =>
    by_cases q : d = e + 1
    · subst q; exact ht
    · exact T_up (ih (by omega))
theorem T_isnil {d : Nat} {r : Option Nat} {l : List KV} (h : T σ P d r l) : r = none ↔ l = [] := by
  constructor
  · intro e; subst e; exact T_none h
  · intro e
    subst e
    cases r with
    | none => rfl
    | some b =>
      obtain ⟨e, l1, l2, -, -, -, -, hl, -⟩ := T_some h
      simp at hl
/-- trees stay where their nodes' fields stay -/
theorem T_keep (hP : ∀ b, P b → P' b) (hn : ∀ b, P b → ∀ k, k < 4 → sn σ' (b + 64) k = sn σ (b + 64) k) (hf : ∀ b, P b → ∀ k, k = 4 ∨ k = 5 → sf σ' (b + 64) k = sf σ (b + 64) k) {d : Nat} : ∀ {r : Option Nat} {l : List KV}, T σ P d r l → T σ' P' d r l := by
  induction d with
  | zero => intro r l h; exact h
  | succ d ih =>
    intro r l h
    rcases h with h | ⟨b, l1, l2, hb, hPb, h1, h2, hl, hc, hs, hw⟩
    · exact Or.inl h
    · refine Or.inr ⟨b, l1, l2, hb, hP b hPb, ?_, ?_, ?_, ?_, ?_, hw⟩
      · rw [hf b hPb 4 (Or.inl rfl)]; exact ih h1
      · rw [hf b hPb 5 (Or.inr rfl)]; exact ih h2
      · rw [hn b hPb 0 (by decide), hn b hPb 1 (by decide)]; exact hl
      · rw [hn b hPb 2 (by decide)]; exact hc
      · rw [hn b hPb 3 (by decide)]; exact hs
/-- how deep a balanced tree of a weight can be -/
def dp : Nat → Nat → Nat
  | 0, _ => 0
  | n + 1, w => if w ≤ 1 then 0 else 1 + dp n (3 * w / 4)
theorem T_deep : ∀ (n : Nat) {d w : Nat} {r : Option Nat} {l : List KV}, T σ P d r l → tw l ≤ w → w ≤ n → T σ P (dp n w) r l := by
  intro n
  induction n with
  | zero =>
    intro d w r l h hw hn
    unfold tw at hw
    omega
  | succ n ih =>
    intro d w r l h hw hn
    unfold dp
    cases r with
    | none =>
      rw [T_none h]
      exact T_nil _
    | some b =>
      obtain ⟨e, l1, l2, -, hP, h1, h2, hl, hc, hs, hb⟩ := T_some h
      have hlen : tw l = tw l1 + tw l2 := by rw [hl]; unfold tw; simp; omega
      have p1 : 1 ≤ tw l1 := by unfold tw; omega
      have p2 : 1 ≤ tw l2 := by unfold tw; omega
      rw [if_neg (by omega)]
      obtain ⟨b1, b2⟩ := hb
      have q : dp n (3 * w / 4) + 1 = 1 + dp n (3 * w / 4) := Nat.add_comm _ _
      rw [← q]
      exact T_mk hP (ih h1 (by omega) (by omega)) (ih h2 (by omega) (by omega)) hl hc hs ⟨b1, b2⟩
end
/-! sorted lists -/
theorem Srt_app {l1 l2 : List KV} {p : KV} : Srt (l1 ++ p :: l2) ↔ Srt l1 ∧ Srt l2 ∧ (∀ a ∈ l1, a.1 < p.1) ∧ (∀ b ∈ l2, p.1 < b.1) := by
  unfold Srt
  rw [List.pairwise_append, List.pairwise_cons]
  constructor
  · rintro ⟨h1, ⟨h2, h3⟩, h4⟩
    exact ⟨h1, h3, fun a ha => h4 a ha p List.mem_cons_self, h2⟩
  · rintro ⟨h1, h2, h3, h4⟩
    refine ⟨h1, ⟨h4, h2⟩, fun a ha b hb => ?_⟩
    rcases List.mem_cons.mp hb with rfl | hb
    · exact h3 a ha
    · have := h3 a ha; have := h4 b hb; omega
/-- what a list holds at a key -/
def lk : List KV → Int → Option Int
  | [], _ => none
  | p :: l, k => if p.1 = k then some p.2 else lk l k
theorem lk_none {l : List KV} {k : Int} : lk l k = none ↔ ∀ p ∈ l, p.1 ≠ k := by
  induction l with
  | nil => simp [lk]
  | cons p l ih =>
    unfold lk
    by_cases h : p.1 = k
    · simp [h]
    · simp [h, ih]
theorem lk_some {l : List KV} (hs : Srt l) {k v : Int} : lk l k = some v ↔ (k, v) ∈ l := by
  induction l with
  | nil => simp [lk]
  | cons p l ih =>
    have h2 := List.pairwise_cons.mp hs
    unfold lk
    by_cases h : p.1 = k
    · rw [if_pos h]
      constructor
      · intro e
        cases e
        exact List.mem_cons.mpr (Or.inl (by rw [← h]))
      · intro e
        rcases List.mem_cons.mp e with e | e
        · rw [← e]
        · have := h2.1 _ e
          simp at this
          omega
    · rw [if_neg h, ih h2.2]
      constructor
      · intro e; exact List.mem_cons_of_mem _ e
      · intro e
        rcases List.mem_cons.mp e with e | e
        · exact absurd (by rw [← e]) h
        · exact e
theorem lk_app {l1 l2 : List KV} {p : KV} (hs : Srt (l1 ++ p :: l2)) (k : Int) : lk (l1 ++ p :: l2) k = if k < p.1 then lk l1 k else if k = p.1 then some p.2 else lk l2 k := by
  obtain ⟨h1, h2, h3, h4⟩ := Srt_app.mp hs
  have key : ∀ (a b : List KV), (∀ q ∈ a, q.1 ≠ k) → lk (a ++ b) k = lk b k := by
    intro a b
    induction a with
    | nil => intro _; rfl
    | cons q a ih =>
      intro h
      rw [List.cons_append, lk, if_neg (h q List.mem_cons_self)]
      exact ih (fun x hx => h x (List.mem_cons_of_mem _ hx))
  have key2 : ∀ (a b : List KV), (∀ q ∈ b, q.1 ≠ k) → lk (a ++ b) k = lk a k := by
    intro a b hb
    induction a with
    | nil => rw [List.nil_append, lk]; exact lk_none.mpr hb
    | cons q a ih =>
      rw [List.cons_append, lk, lk, ih]
  by_cases c1 : k < p.1
  · rw [if_pos c1]
    apply key2
    intro q hq
    rcases List.mem_cons.mp hq with rfl | hq
    · omega
    · have := h4 q hq; omega
  · rw [if_neg c1]
    rw [key l1 _ (fun q hq => by have := h3 q hq; omega), lk]
    by_cases c2 : k = p.1
    · rw [if_pos c2, if_pos c2.symm]
    · rw [if_neg c2, if_neg (fun e => c2 e.symm)]
/-- two sorted lists that hold the same are the same -/
theorem Srt_ext {a b : List KV} (ha : Srt a) (hb : Srt b) (h : ∀ k, lk a k = lk b k) : a = b := by
  induction a generalizing b with
  | nil =>
    cases b with
    | nil => rfl
    | cons q b =>
      have := h q.1
      simp [lk] at this
  | cons p a ih =>
    cases b with
    | nil =>
      have := h p.1
      simp [lk] at this
    | cons q b =>
      have ha2 := List.pairwise_cons.mp ha
      have hb2 := List.pairwise_cons.mp hb
      have e1 : p.1 = q.1 := by
        rcases Int.lt_trichotomy p.1 q.1 with c | c | c
        · have := h p.1
          rw [lk, if_pos rfl, lk, if_neg (by omega)] at this
          have h5 := (lk_some hb2.2).mp this.symm
          have := hb2.1 _ h5
          simp at this
          omega
        · exact c
        · have := h q.1
          rw [lk, if_neg (by omega), lk, if_pos rfl] at this
          have h5 := (lk_some ha2.2).mp this
          have := ha2.1 _ h5
          simp at this
          omega
      have e2 : p.2 = q.2 := by
        have := h p.1
        rw [lk, if_pos rfl, lk, if_pos e1.symm] at this
        exact Option.some.inj this
      have e3 : a = b := by
        apply ih ha2.2 hb2.2
        intro k
        by_cases c : p.1 = k
        · have n1 : lk a k = none := lk_none.mpr (fun x hx => by have := ha2.1 x hx; omega)
          have n2 : lk b k = none := lk_none.mpr (fun x hx => by have := hb2.1 x hx; omega)
          rw [n1, n2]
        · have := h k
          rw [lk, if_neg c, lk, if_neg (by rw [← e1]; exact c)] at this
          exact this
      rw [e3, show p = q from Prod.ext e1 e2]
