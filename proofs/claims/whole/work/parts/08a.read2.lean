/-! ===== sums: the class's reader ===== -/
def opn (q : List Int) : Nat := (q.filter (fun s => decide (s = -1))).length
def PlI (σ : SS) (pl : List KV) : Prop := sn σ 7 2 = (pl.length : Int) ∧ ∀ (j : Nat) (p : KV), pl[j]? = some p → sn σ 8 j = p.1 ∧ sn σ 9 j = p.2
def Wt (σ : SS) (q : List Int) : Prop := sn σ 10 3 = (q.length : Int) ∧ ∀ (j : Nat) (s : Int), q.reverse[j]? = some s → sn σ 11 j = s
def pln (w : Nat) (k : List Tok) (g : List Int) (d : List (Int × List Tok)) : List KV := flD d ++ flT k ++ (if 4 ≤ w then (5, 0) :: g.map (fun v => ((6 : Int), v)) else [])
def RdI (σ : SS) (L : Nat) : PSt → Prop
  | (i, w, tg, q, k, g, d) => sn σ 10 4 = (L : Int) ∧ sn σ 10 5 = (i : Int) ∧ sn σ 10 6 = (w : Int) ∧ (w ≠ 0 → sn σ 10 7 = tg) ∧ Wt σ q ∧ sn σ 10 8 = (opn q : Int) ∧ (4 ≤ w → sn σ 10 9 = (g.length : Int)) ∧ sn σ 10 10 = (d.length : Int) ∧ PlI σ (pln w k g d)
abbrev rdc : List Nat := [7, 8, 9, 10, 11]
/-- the plan, and what waits, change; the reader's other fields stay -/
def Fw (σ σ' : SS) : Prop := Sm rdc σ σ' ∧ ∀ k, k ≠ 3 → sn σ' 10 k = sn σ 10 k
theorem Fw.rf (σ : SS) : Fw σ σ := ⟨Sm.rf _ _, fun _ _ => rfl⟩
theorem Fw.tr {σ σ1 σ2 : SS} (h1 : Fw σ σ1) (h2 : Fw σ1 σ2) : Fw σ σ2 := ⟨h1.1.tr h2.1, fun k hk => (h2.2 k hk).trans (h1.2 k hk)⟩
theorem PlI.of {σ σ' : SS} {pl : List KV} (h : PlI σ pl) (h1 : sn σ' 7 2 = sn σ 7 2) (h2 : ∀ k, sn σ' 8 k = sn σ 8 k) (h3 : ∀ k, sn σ' 9 k = sn σ 9 k) : PlI σ' pl := ⟨h1.trans h.1, fun j p hp => by rw [h2, h3]; exact h.2 j p hp⟩
theorem Wt.of {σ σ' : SS} {q : List Int} (h : Wt σ q) (h1 : sn σ' 10 3 = sn σ 10 3) (h2 : ∀ k, sn σ' 11 k = sn σ 11 k) : Wt σ' q := ⟨h1.trans h.1, fun j s hs => by rw [h2]; exact h.2 j s hs⟩
section
variable {σ : SS} {t : List Int}
theorem sp_padd {Q : SS → Prop} {de nu : Int} {pl : List KV} (h : PlI σ pl) (hl : pl.length < 120) (hq : ∀ σ', PlI σ' (pl ++ [(de, nu)]) → Sm [7, 8, 9] σ σ' → Q σ') : wX4_add de nu σ Q := by
  unfold wX4_add
  rw [h.1, Int.toNat_natCast]
  have e1 : sn (un σ 8 pl.length de) 7 2 = (pl.length : Int) := by rw [sn_un_i _ _ (by omega)]; exact h.1
  rw [e1, Int.toNat_natCast]
  have e2 : sn (un (un σ 8 pl.length de) 9 pl.length nu) 7 2 = (pl.length : Int) := by rw [sn_un_i _ _ (by omega)]; exact e1
  rw [e2]
  refine ⟨fun c => by omega, fun _ => ⟨by omega, by omega, by omega, by omega, ⟨by omega, by omega⟩, hq _ ⟨?_, fun j p hp => ?_⟩ (((Sm.un (by simp)).tr (Sm.un (by simp))).tr (Sm.un (by simp)))⟩⟩
  · rw [sn_un_same, List.length_append]; simp
  · rw [sn_un_i _ _ (by omega), sn_un_i _ _ (by omega), sn_un_i _ _ (show (9 : Nat) ≠ 7 by omega)]
    rw [List.getElem?_append] at hp
    split at hp
    · rename_i c
      rw [sn_un_k _ _ (by omega), sn_un_k _ _ (by omega), sn_un_i _ _ (by omega)]; exact h.2 j p hp
    · have hj : j = pl.length := by
        have := (List.getElem?_eq_some_iff.mp hp).1
        simp at this; omega
      subst hj
      simp at hp
      rw [sn_un_same, sn_un_same, ← hp]
      exact ⟨rfl, rfl⟩
theorem Fw.pl {σ' : SS} (s : Sm [7, 8, 9] σ σ') : Fw σ σ' := ⟨s.up (by simp), fun k _ => (s.1 10 (by simp) k).1⟩
theorem sp_letWait {Q : SS → Prop} {s : Int} {q : List Int} (h : Wt σ q) (hl : q.length < 120) (hq : ∀ σ', Wt σ' (s :: q) → Sm [10, 11] σ σ' → (∀ k, k ≠ 3 → sn σ' 10 k = sn σ 10 k) → Q σ') : wX5_letWait s σ Q := by
  unfold wX5_letWait
  rw [h.1, Int.toNat_natCast]
  have e1 : sn (un σ 11 q.length s) 10 3 = (q.length : Int) := by rw [sn_un_i _ _ (by omega)]; exact h.1
  rw [e1]
  refine ⟨fun c => by omega, fun _ => ⟨by omega, by omega, ⟨by omega, by omega⟩, hq _ ⟨?_, fun j p hp => ?_⟩ ((Sm.un (by simp)).tr (Sm.un (by simp))) (fun k hk => by rw [sn_un_k _ _ hk, sn_un_i _ _ (by omega)])⟩⟩
  · rw [sn_un_same, List.length_cons]; omega
  · rw [sn_un_i _ _ (by omega), sn_un]
    rw [List.reverse_cons, List.getElem?_append] at hp
    split at hp
    · rename_i c
      rw [List.length_reverse] at c
      rw [if_neg (by omega)]; exact h.2 j p hp
    · rename_i c
      rw [List.length_reverse] at c hp
      have hj : j = q.length := by
        have := (List.getElem?_eq_some_iff.mp hp).1
        simp at this; omega
      subst hj
      simp at hp
      rw [if_pos ⟨rfl, rfl⟩, hp]
theorem sp_strength {Q : Int → SS → Prop} {s : Int} (hq : Q (str s) σ) : wX5_strength s σ Q := by
  unfold str at hq
  refine ⟨fun c => ⟨fun c2 => ?_, fun c2 => ?_⟩, fun c => ?_⟩
  · rw [if_neg c, if_neg c2] at hq; exact hq
  · rw [if_neg c, if_pos c2] at hq; exact hq
  · rw [if_pos c] at hq; exact hq
theorem sp_ww_L {Q : SS → Prop} {l : Int} (hl1 : 1 ≤ l) : ∀ (q : List Int) {σ : SS} {pl : List KV}, okQ q → Wt σ q → PlI σ pl → pl.length + q.length ≤ 120 → (∀ σ', Wt σ' (popW l q).1 → PlI σ' (pl ++ flT (popW l q).2) → Fw σ σ' → Q σ') → wX5_writeWaiting_L0 l Q (q.length + 1) σ := by
  intro q
  induction q with
  | nil =>
    intro σ pl ho hw hp hl hq
    rw [List.length_nil, wX5_writeWaiting_L0, hw.1]
    exact ⟨fun _ => hq σ hw (by simpa [popW, flT] using hp) (Fw.rf σ), fun c => absurd (by simp) c⟩
  | cons s q ih =>
    intro σ pl ho hw hp hl hq
    have hs := ho s List.mem_cons_self
    have h11 : sn σ 11 q.length = s := hw.2 q.length s (by rw [List.reverse_cons, List.getElem?_append_right (by simp)]; simp)
    rw [List.length_cons] at hl
    rw [List.length_cons, wX5_writeWaiting_L0, hw.1, List.length_cons]
    have e1 : (((q.length + 1 : Nat) : Int) - 1).toNat = q.length := by omega
    have e2 : ((q.length + 1 : Nat) : Int) - 1 = (q.length : Int) := by omega
    rw [e1, h11]
    rw [popW] at hq
    refine ⟨fun c => by omega, fun _ => ⟨by omega, by omega, sp_strength ⟨fun c => ?_, fun c => ?_⟩⟩⟩
    · rw [if_pos c] at hq
      exact hq σ hw (by simpa [flT] using hp) (Fw.rf σ)
    · rw [if_neg c] at hq
      have hs1 : s ≠ -1 := fun z => c (by rw [z]; unfold str; rw [if_pos rfl]; omega)
      rw [hw.1, List.length_cons, e2]
      have e3 : sn (un σ 10 3 (q.length : Int)) 10 3 = (q.length : Int) := sn_un_same _ _ _ _
      rw [e3, Int.toNat_natCast]
      have e4 : sn (un σ 10 3 (q.length : Int)) 11 q.length = s := by rw [sn_un_i _ _ (by omega)]; exact h11
      rw [e4]
      refine ⟨⟨by omega, by omega⟩, by omega, by omega, sp_padd (hp.of (sn_un_i _ _ (by omega)) (fun k => sn_un_i _ _ (by omega)) (fun k => sn_un_i _ _ (by omega))) (by omega) (fun σ1 p1 s1 => ?_)⟩
      refine ih (fun x hx => ho x (List.mem_cons_of_mem _ hx)) ⟨?_, fun j x hx => ?_⟩ p1 (by rw [List.length_append, List.length_singleton]; omega) (fun σ2 w2 p2 f2 => ?_)
      · rw [(s1.1 10 (by simp) 3).1]; exact e3
      · rw [(s1.1 11 (by simp) _).1, sn_un_i _ _ (by omega)]
        have hj := (List.getElem?_eq_some_iff.mp hx).1
        exact hw.2 j x (by rw [List.reverse_cons, List.getElem?_append_left hj]; exact hx)
      · have ef : flT ((s, []) :: (popW l q).2) = [(s, 0)] ++ flT (popW l q).2 := by
          rw [flT, if_neg (by dsimp only; omega), if_neg (by dsimp only; omega)]
        refine hq σ2 w2 ?_ (Fw.tr ?_ f2)
        · dsimp only
          rw [ef, ← List.append_assoc]; exact p2
        · refine ⟨(Sm.un (by simp)).tr (s1.up (by simp)), fun k hk => ?_⟩
          rw [(s1.1 10 (by simp) k).1, sn_un_k _ _ hk]
theorem sp_ww {Q : SS → Prop} {l : Int} (hl1 : 1 ≤ l) {q : List Int} {pl : List KV} (ho : okQ q) (hw : Wt σ q) (hp : PlI σ pl) (hl : pl.length + q.length ≤ 120) (hq : ∀ σ', Wt σ' (popW l q).1 → PlI σ' (pl ++ flT (popW l q).2) → Fw σ σ' → Q σ') : wX5_writeWaiting l σ Q := ⟨_, sp_ww_L hl1 q ho hw hp hl hq⟩
theorem opn_sg {q : List Int} : opn q + sg q = q.length := by
  induction q with
  | nil => rfl
  | cons s q ih =>
    unfold opn sg at *
    rw [List.filter_cons, List.filter_cons, List.length_cons]
    by_cases c : s = -1 <;> simp [c] at * <;> omega
theorem opn_cons {s : Int} {q : List Int} : opn (s :: q) = opn q + if s = -1 then 1 else 0 := by
  unfold opn; rw [List.filter_cons]
  by_cases c : s = -1 <;> simp [c]
theorem opn_pop {l : Int} (hl : 1 ≤ l) : ∀ {q : List Int}, opn (popW l q).1 = opn q
  | [] => rfl
  | s :: q => by
    rw [popW]
    split
    · rfl
    · rename_i c
      have hs1 : s ≠ -1 := fun z => c (by rw [z]; unfold str; rw [if_pos rfl]; omega)
      dsimp only
      rw [opn_pop hl, opn_cons, if_neg hs1]; rfl
theorem opn_zero {q : List Int} : opn q = 0 ↔ (-1 : Int) ∉ q := by
  unfold opn
  rw [List.length_eq_zero_iff, List.filter_eq_nil_iff]
  constructor
  · intro h z; have := h _ z; simp at this
  · intro h a ha; simp; exact fun z => h (z ▸ ha)
/-- the text stands in the class's bytes -/
def Tx (σ : SS) (t : List Int) : Prop := ∀ j, j < t.length → sn σ 6 j = bt t j
theorem sp_num_L {Q : Int → SS → Prop} {c : Int} {st : Nat} (hx : Tx σ t) (h4 : sn σ 10 4 = (t.length : Int)) (hL : t.length ≤ 120) (hst : st ≤ t.length) (hq : wX5_acceptsNumber_L84 c Q (st : Int) ((st + dgs t (t.length + 1) st : Nat) : Int) (dgv t st (min (dgs t (t.length + 1) st) 3)) σ) : ∀ (f : Nat) {j : Nat}, st + j ≤ t.length → t.length + 1 ≤ st + j + f → j + dgs t f (st + j) = dgs t (t.length + 1) st → (∀ x, x < j → isDg (bt t (st + x))) → wX5_acceptsNumber_L25 c Q (f + 1) (st : Int) ((st + j : Nat) : Int) (dgv t st (min j 3)) σ := by
  intro f
  induction f with
  | zero => intro j h1 h2; omega
  | succ f ih =>
    intro j h1 h2 h3 h5
    have hin : 0 ≤ dgv t st (min j 3) ∧ dgv t st (min j 3) ≤ 999 := by
      have h6 := dgv_in (t := t) (i := st) (min j 3) (by omega) (fun x hx => h5 x (by omega))
      refine ⟨h6, ?_⟩
      have b : ∀ n, n ≤ 3 → n ≤ j → dgv t st n ≤ (if n = 0 then 0 else if n = 1 then 9 else if n = 2 then 99 else 999) := by
        intro n
        induction n with
        | zero => intro _ _; simp [dgv]
        | succ n ihn =>
          intro a1 a2
          have := ihn (by omega) (by omega)
          have h7 := h5 n (by omega)
          rw [dgv]
          have : n = 0 ∨ n = 1 ∨ n = 2 := by omega
          rcases this with rfl | rfl | rfl <;> simp at * <;> omega
      have := b (min j 3) (by omega) (by omega)
      split at this
      · omega
      · split at this
        · omega
        · split at this <;> omega
    have fin : dgs t (f + 1) (st + j) = 0 → wX5_acceptsNumber_L84 c Q (st : Int) ((st + j : Nat) : Int) (dgv t st (min j 3)) σ := by
      intro z
      rw [z, Nat.add_zero] at h3
      rw [← h3] at hq; exact hq
    rw [wX5_acceptsNumber_L25, h4, Int.toNat_natCast]
    refine ⟨⟨by omega, by omega⟩, fun cc => fin ?_, fun cc => ⟨by omega, by omega, ?_⟩⟩
    · rw [dgs, if_neg]
      unfold bt
      rw [List.getElem?_eq_none (by omega)]; simp
    · rw [hx (st + j) (by omega)]
      refine sp_isIn (fun hd => ⟨o1, fun _ => ?_⟩) (fun hd => ⟨fun _ => fin (by rw [dgs, if_neg hd]), o0⟩)
      have e : (((st + j : Nat) : Int) + 1) = ((st + (j + 1) : Nat) : Int) := by omega
      have h3' : j + 1 + dgs t f (st + (j + 1)) = dgs t (t.length + 1) st := by
        rw [dgs, if_pos hd] at h3
        rw [← h3]; have : st + j + 1 = st + (j + 1) := by omega
        rw [this]; omega
      have h5' : ∀ x, x < j + 1 → isDg (bt t (st + x)) := fun x hx' => by
        by_cases z : x = j
        · rw [z]; exact hd
        · exact h5 x (by omega)
      have ih' := ih (j := j + 1) (by omega) (by omega) h3' h5'
      rw [e]
      refine ⟨⟨by omega, by omega⟩, fun c3 => ?_, fun c3 => ⟨by omega, by omega, ?_⟩⟩
      · rw [show min (j + 1) 3 = min j 3 by omega] at ih'; exact ih'
      · rw [show min (j + 1) 3 = min j 3 + 1 by omega, dgv, show st + min j 3 = st + j by omega] at ih'
        rw [hx (st + j) (by omega)]
        exact ih'
theorem sp_num {Q : Int → SS → Prop} {i : Nat} (hi : i < t.length) (hL : t.length ≤ 120) (hx : Tx σ t) (h4 : sn σ 10 4 = (t.length : Int)) (h5 : sn σ 10 5 = (i : Int)) (hn : nmb t i = none → Q 0 σ) (hs : ∀ v e, nmb t i = some (v, e) → wX4_add 6 v σ (fun s29 => (R32 (sn s29 10 9 + 1) ∧ (R32 ((e : Nat) : Int) ∧ Q 1 (un (un (un s29 10 9 (sn s29 10 9 + 1)) 10 5 ((e : Nat) : Int)) 10 6 6))))) : wX5_acceptsNumber (bt t i) σ Q := by
  have hnst : nst t i ≤ t.length := by unfold nst; split <;> omega
  have key : ∃ kk, wX5_acceptsNumber_L25 (bt t i) Q kk ((nst t i : Nat) : Int) ((nst t i : Nat) : Int) 0 σ := by
    refine ⟨t.length + 1 + 1, ?_⟩
    have hdl := dgs_le t (t.length + 1) (nst t i) hnst
    have hall : ∀ j, j < ndg t i → isDg (bt t (nst t i + j)) := fun j hj => dgs_all _ _ _ hj
    have := sp_num_L (Q := Q) (c := bt t i) (st := nst t i) hx h4 hL hnst ?_ (t.length + 1) (j := 0) (by omega) (by omega) (by rw [Nat.zero_add]; rfl) (fun x hx => by omega)
    · rw [Nat.add_zero] at this; simpa [dgv] using this
    · have e0 : dgs t (t.length + 1) (nst t i) = ndg t i := rfl
      rw [e0] at hdl ⊢
      have e1 : (((nst t i + ndg t i : Nat) : Int) - ((nst t i : Nat) : Int)) = (ndg t i : Int) := by omega
      unfold wX5_acceptsNumber_L84
      rw [e1]
      unfold nmb at hn hs
      refine ⟨⟨by omega, by omega⟩, sp_isIn (fun c => ⟨o1, fun _ => ?_⟩) (fun c => ⟨fun _ => hn (if_neg (fun z => c ⟨by omega, by omega⟩)), o0⟩)⟩
      have e2 : min (ndg t i) 3 = ndg t i := by omega
      rw [e2]
      have h0 := dgv_in (t := t) (i := nst t i) (ndg t i) (by omega) hall
      have b1 : dgv t (nst t i) (ndg t i) ≤ 999 := by
        have hc : ndg t i = 1 ∨ ndg t i = 2 ∨ ndg t i = 3 := by omega
        have a0 := hall 0 (by omega)
        rcases hc with z | z | z
        · rw [z]; simp [dgv] at *; omega
        · have a1 := hall 1 (by omega)
          rw [z]; simp [dgv] at *; omega
        · have a1 := hall 1 (by omega)
          have a2 := hall 2 (by omega)
          rw [z]; simp [dgv] at *; omega
      refine ⟨⟨by omega, by omega⟩, fun c2 => ?_, fun c2 => hn (if_neg (fun z => c2 z.2.2))⟩
      have hs' := hs _ _ (if_pos ⟨by omega, by omega, c2⟩)
      refine ⟨fun c3 => ?_, fun c3 => ?_⟩
      · rw [if_neg c3] at hs'
        exact ⟨by decide, ⟨by omega, by omega⟩, hs'⟩
      · rw [if_pos c3] at hs'
        exact ⟨by decide, ⟨by omega, by omega⟩, hs'⟩
  unfold wX5_acceptsNumber
  rw [h5]
  unfold nst at key
  refine ⟨fun c => ?_, fun c => ?_⟩
  · rw [if_neg c] at key; exact key
  · rw [if_pos c] at key
    rw [show ((i : Int) + 1) = ((i + 1 : Nat) : Int) by omega]; exact key
end
