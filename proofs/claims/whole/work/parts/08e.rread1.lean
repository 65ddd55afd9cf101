/-! ===== sums: the reference's reader: its cells, skips, numbers ===== -/
def kys : List Tok → List Int
  | [] => []
  | x :: k => (if x.1 = 5 then x.2 else []) ++ kys k
theorem kys_app (a b : List Tok) : kys (a ++ b) = kys a ++ kys b := by
  induction a with
  | nil => rfl
  | cons x a ih => rw [List.cons_append, kys, kys, ih, List.append_assoc]
def cod (k : List Tok) (x : Tok) : Int := if x.1 = 4 then x.2.headD 0 else if x.1 = 5 then 20 + (stc k : Int) else 10 + x.1
/-- marks, sets and keys -/
def MkI (σ : SS) (k : List Tok) (g : List Int) : Prop := sn σ 21 13 = (k.length : Int) ∧ sn σ 21 18 = (stc k : Int) ∧ sn σ 21 20 = ((kys k ++ g).length : Int) ∧ (∀ (j : Nat) (v : Int), (kys k ++ g)[j]? = some v → sn σ 35 j = v) ∧
  ∀ (a : List Tok) (x : Tok) (b : List Tok), k = a ++ x :: b → sn σ 31 a.length = cod a x ∧ (x.1 = 5 → sn σ 33 (stc a) = ((kys a).length : Int) ∧ sn σ 34 (stc a) = ((kys a).length : Int) + (x.2.length : Int))
/-- what is open -/
def OpI (σ : SS) (q : List Int) : Prop := sn σ 21 15 = (q.length : Int) ∧ ∀ (j : Nat) (s : Int), q.reverse[j]? = some s → sn σ 32 j = if s = -1 then 40 else s
/-- the text -/
def Ty (σ : SS) (t : List Int) : Prop := sn σ 21 11 = (t.length : Int) ∧ (∀ j, j < t.length → sn σ 30 j = bt t j) ∧ ∀ c ∈ t, 0 ≤ c ∧ c ≤ 127
theorem Ty.bR {σ : SS} {t : List Int} (h : Ty σ t) (j : Nat) : R32 (bt t j) := by
  unfold bt
  cases hj : t[j]? with
  | none => decide
  | some c => have := h.2.2 c (List.mem_of_getElem? hj); exact ⟨by simp; omega, by simp; omega⟩
def F21 (is ks : List Nat) (σ σ' : SS) : Prop := Sm (21 :: is) σ σ' ∧ ∀ k, k ∉ ks → sn σ' 21 k = sn σ 21 k
theorem F21.rf (is ks : List Nat) (σ : SS) : F21 is ks σ σ := ⟨Sm.rf _ _, fun _ _ => rfl⟩
theorem F21.tr {is ks : List Nat} {σ σ1 σ2 : SS} (h1 : F21 is ks σ σ1) (h2 : F21 is ks σ1 σ2) : F21 is ks σ σ2 := ⟨h1.1.tr h2.1, fun k hk => (h2.2 k hk).trans (h1.2 k hk)⟩
theorem F21.up {is ks is' ks' : List Nat} {σ σ1 : SS} (h : F21 is ks σ σ1) (h1 : ∀ i ∈ is, i ∈ is') (h2 : ∀ k ∈ ks, k ∈ ks') : F21 is' ks' σ σ1 := ⟨h.1.up (fun i hi => (List.mem_cons.mp hi).elim (fun e => by rw [e]; exact List.mem_cons_self) (fun q => List.mem_cons_of_mem _ (h1 i q))), fun k hk => h.2 k (fun q => hk (h2 k q))⟩
theorem F21.u21 {is ks : List Nat} {σ : SS} {k : Nat} {v : Int} (hk : k ∈ ks) : F21 is ks σ (un σ 21 k v) := ⟨Sm.un List.mem_cons_self, fun j hj => sn_un_k _ _ (fun e => hj (e ▸ hk))⟩
theorem F21.un {is ks : List Nat} {σ : SS} {i k : Nat} {v : Int} (hi : i ∈ is) (h : i ≠ 21) : F21 is ks σ (un σ i k v) := ⟨Sm.un (List.mem_cons_of_mem _ hi), fun j _ => sn_un_i _ _ (Ne.symm h)⟩
theorem F21.ot {is ks : List Nat} {σ σ' : SS} (h : F21 is ks σ σ') {i : Nat} (hi : i ∉ is) (h1 : i ≠ 21) (k : Nat) : sn σ' i k = sn σ i k := (h.1.1 i (fun q => (List.mem_cons.mp q).elim h1 hi) k).1
section
variable {σ σ' : SS} {t : List Int} {is ks : List Nat} {k : List Tok} {g q : List Int}
theorem Ty.f (h : Ty σ t) (f : F21 is ks σ σ') (h1 : 30 ∉ is) (h2 : 11 ∉ ks) : Ty σ' t := ⟨(f.2 11 h2).trans h.1, fun j hj => by rw [f.ot h1 (by omega)]; exact h.2.1 j hj, h.2.2⟩
theorem MkI.f (h : MkI σ k g) (f : F21 is ks σ σ') (h1 : 31 ∉ is) (h3 : 33 ∉ is) (h4 : 34 ∉ is) (h5 : 35 ∉ is) (k1 : 13 ∉ ks) (k2 : 18 ∉ ks) (k3 : 20 ∉ ks) : MkI σ' k g := by
  refine ⟨(f.2 13 k1).trans h.1, (f.2 18 k2).trans h.2.1, (f.2 20 k3).trans h.2.2.1, fun j v hv => by rw [f.ot h5 (by omega)]; exact h.2.2.2.1 j v hv, fun a x b e => ?_⟩
  rw [f.ot h1 (by omega), f.ot h3 (by omega), f.ot h4 (by omega)]
  exact h.2.2.2.2 a x b e
theorem OpI.f (h : OpI σ q) (f : F21 is ks σ σ') (h1 : 32 ∉ is) (k1 : 15 ∉ ks) : OpI σ' q := ⟨(f.2 15 k1).trans h.1, fun j s hs => by rw [f.ot h1 (by omega)]; exact h.2 j s hs⟩
theorem snoc_split {α : Type} {x y : α} : ∀ {a k b : List α}, k ++ [x] = a ++ y :: b → (b = [] ∧ a = k ∧ y = x) ∨ ∃ b', b = b' ++ [x] ∧ k = a ++ y :: b'
  | [], [], b, h => by
    have := List.cons.inj h
    exact Or.inl ⟨this.2.symm, rfl, this.1.symm⟩
  | [], z :: k, b, h => by
    have := List.cons.inj h
    exact Or.inr ⟨k, this.2.symm, by rw [this.1]; rfl⟩
  | c :: a, [], b, h => by
    have := (List.cons.inj h).2
    cases a <;> simp at this
  | c :: a, z :: k, b, h => by
    have h2 := List.cons.inj h
    rcases snoc_split h2.2 with ⟨e1, e2, e3⟩ | ⟨b', e1, e2⟩
    · exact Or.inl ⟨e1, by rw [e2, h2.1], e3⟩
    · exact Or.inr ⟨b', e1, by rw [e2, h2.1]; rfl⟩
theorem stc_lt {a b : List Tok} {x : Tok} (hx : x.1 = 5) : stc a < stc (a ++ x :: b) := by
  rw [stc_app]
  unfold stc
  rw [List.filter_cons, if_pos (by simpa using hx), List.length_cons]; omega
/-- a mark that is no set -/
theorem MkI.add {x : Tok} (h : MkI σ k g) (hx : x.1 ≠ 5) (h13 : sn σ' 21 13 = ((k.length + 1 : Nat) : Int)) (h18 : sn σ' 21 18 = sn σ 21 18) (h20 : sn σ' 21 20 = sn σ 21 20) (h35 : ∀ j, sn σ' 35 j = sn σ 35 j) (h33 : ∀ j, sn σ' 33 j = sn σ 33 j) (h34 : ∀ j, sn σ' 34 j = sn σ 34 j) (h31 : ∀ j, j ≠ k.length → sn σ' 31 j = sn σ 31 j) (h31' : sn σ' 31 k.length = cod k x) : MkI σ' (k ++ [x]) g := by
  have e1 : kys (k ++ [x]) = kys k := by rw [kys_app]; simp [kys, hx]
  have e2 : stc (k ++ [x]) = stc k := by rw [stc_app]; simp [stc, hx]
  refine ⟨by rw [h13, List.length_append]; rfl, by rw [h18, e2]; exact h.2.1, by rw [h20, e1]; exact h.2.2.1, fun j v hv => by rw [h35]; rw [e1] at hv; exact h.2.2.2.1 j v hv, fun a y b e => ?_⟩
  rcases snoc_split e with ⟨-, rfl, rfl⟩ | ⟨b', -, e4⟩
  · exact ⟨h31', fun q => absurd q hx⟩
  · have := h.2.2.2.2 a y b' e4
    have hl : a.length < k.length := by rw [e4]; simp
    rw [h31 _ (by omega), h33, h34]; exact this
/-- a key of a set -/
theorem MkI.key {v : Int} (h : MkI σ k g) (h13 : sn σ' 21 13 = sn σ 21 13) (h18 : sn σ' 21 18 = sn σ 21 18) (h20 : sn σ' 21 20 = (((kys k ++ g).length + 1 : Nat) : Int)) (h35 : ∀ j, j ≠ (kys k ++ g).length → sn σ' 35 j = sn σ 35 j) (h35' : sn σ' 35 (kys k ++ g).length = v) (h31 : ∀ j, sn σ' 31 j = sn σ 31 j) (h33 : ∀ j, sn σ' 33 j = sn σ 33 j) (h34 : ∀ j, sn σ' 34 j = sn σ 34 j) : MkI σ' k (g ++ [v]) := by
  refine ⟨h13.trans h.1, h18.trans h.2.1, by rw [h20, ← List.append_assoc, List.length_append (as := kys k ++ g)]; rfl, fun j w hw => ?_, fun a y b e => by rw [h31, h33, h34]; exact h.2.2.2.2 a y b e⟩
  rw [← List.append_assoc, List.getElem?_append] at hw
  split at hw
  · rw [h35 _ (by omega)]; exact h.2.2.2.1 j w hw
  · have hj : j = (kys k ++ g).length := by
      have := (List.getElem?_eq_some_iff.mp hw).1
      simp only [List.length_singleton] at this; omega
    subst hj
    simp at hw
    rw [h35', hw]
/-- a set -/
theorem MkI.set (h : MkI σ k g) (h33 : sn σ 33 (stc k) = ((kys k).length : Int)) (h13 : sn σ' 21 13 = ((k.length + 1 : Nat) : Int)) (h18 : sn σ' 21 18 = ((stc k + 1 : Nat) : Int)) (h20 : sn σ' 21 20 = sn σ 21 20) (h35 : ∀ j, sn σ' 35 j = sn σ 35 j) (h31 : ∀ j, j ≠ k.length → sn σ' 31 j = sn σ 31 j) (h31' : sn σ' 31 k.length = 20 + (stc k : Int)) (h3 : ∀ j, sn σ' 33 j = sn σ 33 j) (h34 : ∀ j, j ≠ stc k → sn σ' 34 j = sn σ 34 j) (h34' : sn σ' 34 (stc k) = ((kys k ++ g).length : Int)) : MkI σ' (k ++ [(5, g)]) [] := by
  have e1 : kys (k ++ [(5, g)]) ++ [] = kys k ++ g := by rw [kys_app]; simp [kys]
  have e2 : stc (k ++ [(5, g)]) = stc k + 1 := by rw [stc_app]; simp [stc]
  refine ⟨by rw [h13, List.length_append]; rfl, by rw [h18, e2], by rw [h20, e1]; exact h.2.2.1, fun j v hv => by rw [h35]; rw [e1] at hv; exact h.2.2.2.1 j v hv, fun a y b e => ?_⟩
  rcases snoc_split e with ⟨-, rfl, rfl⟩ | ⟨b', -, e4⟩
  · refine ⟨by rw [h31']; unfold cod; rw [if_neg (show ¬ (5 : Int) = 4 by decide), if_pos rfl], fun _ => ⟨by rw [h3]; exact h33, ?_⟩⟩
    rw [h34', List.length_append]; simp
  · have := h.2.2.2.2 a y b' e4
    have hl : a.length < k.length := by rw [e4]; simp
    refine ⟨by rw [h31 _ (by omega)]; exact this.1, fun q => ?_⟩
    have hs : stc a < stc k := by rw [e4]; exact stc_lt q
    rw [h3, h34 _ (by omega)]; exact this.2 q
theorem sr_byteAt {Q : Int → SS → Prop} (hL : t.length ≤ 120) (h : Ty σ t) {i : Nat} (hq : Q (bt t i) σ) : wX9_byteAt (i : Int) σ Q := by
  unfold wX9_byteAt
  rw [h.1]
  refine ⟨fun c => ?_, fun c => ⟨by omega, by omega, ?_⟩⟩
  · have : bt t i = -1 := by unfold bt; rw [List.getElem?_eq_none (by omega)]; rfl
    rw [this] at hq; exact hq
  · rw [Int.toNat_natCast, h.2.1 i (by omega)]; exact hq
/-- spaces are gone over -/
def Sk (t : List Int) (i j : Nat) : Prop := i ≤ j ∧ j ≤ t.length ∧ bt t j ≠ 32 ∧ ∀ (w : Nat) (tg : Int) (q : List Int) (k : List Tok) (g : List Int) (d : List (Int × List Tok)), rdp t (i, w, tg, q, k, g, d) = rdp t (j, w, tg, q, k, g, d)
theorem sr_skips_L {Q : SS → Prop} (hL : t.length ≤ 120) : ∀ (f : Nat) {i : Nat} {σ : SS}, t.length + 1 ≤ i + f → i ≤ t.length → Ty σ t → sn σ 21 24 = (i : Int) → (∀ (σ' : SS) (j : Nat), Sk t i j → sn σ' 21 24 = (j : Int) → F21 [] [24] σ σ' → Q σ') → wX9_skips_L0 Q f σ := by
  intro f
  induction f with
  | zero => intro i σ h1 h2; omega
  | succ f ih =>
    intro i σ h1 h2 hT h24 hq
    rw [wX9_skips_L0, h24]
    refine sr_byteAt hL hT ⟨fun c => hq σ i ⟨Nat.le_refl _, h2, c, fun _ _ _ _ _ _ => rfl⟩ h24 (F21.rf _ _ _), fun c => ?_⟩
    have hi : i < t.length := bt_lt c (by decide)
    have fr : F21 [] [24] σ (un σ 21 24 ((i + 1 : Nat) : Int)) := F21.u21 (by simp)
    rw [h24, show ((i : Int) + 1) = ((i + 1 : Nat) : Int) by omega]
    refine ⟨⟨by omega, by omega⟩, ih (by omega) (by omega) (hT.f fr (by simp) (by simp)) (sn_un_same _ _ _ _) (fun σ' j hj h' f' => hq σ' j ⟨by have := hj.1; omega, hj.2.1, hj.2.2.1, fun w tg q k g d => ?_⟩ h' (fr.tr f'))⟩
    rw [rdp_sp hi c]; exact hj.2.2.2 w tg q k g d
theorem sr_skips {Q : SS → Prop} {i : Nat} (hL : t.length ≤ 120) (hi : i ≤ t.length) (hT : Ty σ t) (h24 : sn σ 21 24 = (i : Int)) (hq : ∀ (σ' : SS) (j : Nat), Sk t i j → sn σ' 21 24 = (j : Int) → F21 [] [24] σ σ' → Q σ') : wX9_skips σ Q := ⟨t.length + 1, sr_skips_L hL (t.length + 1) (by omega) hi hT h24 hq⟩
theorem PV.le {i j w : Nat} {tg : Int} {q : List Int} {k : List Tok} {g : List Int} {d : List (Int × List Tok)} (h : PV t (i, w, tg, q, k, g, d)) (h1 : i ≤ j) (h2 : j ≤ t.length) : PV t (j, w, tg, q, k, g, d) := by
  unfold PV at *
  dsimp only at *
  obtain ⟨a1, a2, a3, a4, a5, a6, a7, a8, a9, a10, a11, a12, a13⟩ := h
  exact ⟨h2, a2, a3, a4, a5, a6, a7, a8, a9, a10, a11, a12, by omega⟩
theorem rdp_rej {i w : Nat} {tg : Int} {q : List Int} {k : List Tok} {g : List Int} {d : List (Int × List Tok)} (hi : i ≤ t.length) (hc : bt t i ≠ 32) (hs : stp t (i, w, tg, q, k, g, d) = none) (hw : w ≠ 0 ∨ d = [] ∨ i < t.length) : rdp t (i, w, tg, q, k, g, d) = ((i : Int), []) := by
  by_cases c : i < t.length
  · exact rdp_no c hc hs
  · have : i = t.length := by omega
    rw [rdp_end (by omega), if_neg (fun z => hw.elim (fun y => y z.1) (fun y => y.elim (fun y => z.2 y) (fun y => c y))), this]
theorem dgs_ge : ∀ (f j i : Nat), j ≤ f → (∀ x, x < j → isDg (bt t (i + x))) → j ≤ dgs t f i := by
  intro f
  induction f with
  | zero => intro j i h _; omega
  | succ f ih =>
    intro j i h hx
    cases j with
    | zero => omega
    | succ j =>
      rw [dgs, if_pos (by have := hx 0 (by omega); rwa [Nat.add_zero] at this)]
      have := ih j (i + 1) (by omega) (fun x hx' => by have := hx (x + 1) (by omega); rwa [show i + (x + 1) = i + 1 + x by omega] at this)
      omega
theorem dgs_eq {f j i : Nat} (h : j ≤ f) (hx : ∀ x, x < j → isDg (bt t (i + x))) (hn : ¬ isDg (bt t (i + j))) : dgs t f i = j := by
  have h1 := dgs_ge f j i h hx
  by_cases c : j < dgs t f i
  · exact absurd (dgs_all f i j c) hn
  · omega
theorem nmb_lt2 {i : Nat} {v : Int} {e : Nat} (h : nmb t i = some (v, e)) : i < t.length := by
  unfold nmb at h
  split at h
  · rename_i c
    have h0 : isDg (bt t (nst t i + 0)) := dgs_all _ _ 0 (show 0 < ndg t i by omega)
    rw [Nat.add_zero] at h0
    have h1 : nst t i < t.length := bt_lt rfl (by omega)
    unfold nst at h1
    split at h1 <;> omega
  · cases h
theorem dgv_hi {i : Nat} : ∀ (n : Nat), n ≤ 4 → (∀ j, j < n → isDg (bt t (i + j))) → 0 ≤ dgv t i n ∧ dgv t i n ≤ 9999 ∧ (n ≤ 3 → dgv t i n ≤ 999) ∧ (n ≤ 2 → dgv t i n ≤ 99) ∧ (n ≤ 1 → dgv t i n ≤ 9) ∧ (n = 0 → dgv t i n = 0) := by
  intro n
  induction n with
  | zero => intro _ _; simp [dgv]
  | succ n ih =>
    intro h1 h2
    have := ih (by omega) (fun j hj => h2 j (by omega))
    have := h2 n (by omega)
    rw [dgv]
    have hn : n = 0 ∨ n = 1 ∨ n = 2 ∨ n = 3 := by omega
    rcases hn with rfl | rfl | rfl | rfl <;> simp at * <;> omega
theorem sr_reads94 {Q : Int → SS → Prop} {v1 st i : Nat} {v3 u0 : Int} (hu : u0 = 0 ∨ u0 = 1) (h24 : sn σ 21 24 = (i : Int)) (b1 : v1 ≤ 1000) (b2 : st ≤ 1000) (b3 : 0 ≤ v3 ∧ v3 ≤ 9999) (hq : ∀ σ', sn σ' 21 24 = (if u0 = 0 then (i : Int) else (v1 : Int)) → sn σ' 21 26 = (if st ≤ i then v3 else -v3) → F21 [] [24, 26] σ σ' → Q u0 σ') : wX9_reads_L94 Q (v1 : Int) (st : Int) v3 u0 σ := by
  unfold wX9_reads_L94
  rw [h24]
  have hR : R32 u0 := by rcases hu with rfl | rfl <;> decide
  have fr : ∀ (x y : Int), F21 [] [24, 26] σ (un (un σ 21 26 x) 21 24 y) := fun x y => (F21.u21 (by simp)).tr (F21.u21 (by simp))
  have e : ∀ x : Int, sn (un σ 21 26 x) 21 24 = (i : Int) := fun x => by rw [sn_un_k _ _ (by omega)]; exact h24
  refine ⟨⟨by omega, by omega⟩, fun c => ⟨⟨by omega, by omega⟩, hR, fun c2 => ⟨hu, hq _ ?_ ?_ (fr _ _)⟩, fun c2 => ⟨⟨by omega, by omega⟩, hu, hq _ ?_ ?_ (fr _ _)⟩⟩, fun c => ⟨⟨by omega, by omega⟩, hR, fun c2 => ⟨hu, hq _ ?_ ?_ (fr _ _)⟩, fun c2 => ⟨⟨by omega, by omega⟩, hu, hq _ ?_ ?_ (fr _ _)⟩⟩⟩
  · rw [sn_un_same, e, if_pos c2]
  · rw [sn_un_k _ _ (by omega), sn_un_same, if_pos (by omega)]
  · rw [sn_un_same, if_neg c2]
  · rw [sn_un_k _ _ (by omega), sn_un_same, if_pos (by omega)]
  · rw [sn_un_same, e, if_pos c2]
  · rw [sn_un_k _ _ (by omega), sn_un_same, if_neg (by omega)]
  · rw [sn_un_same, if_neg c2]
  · rw [sn_un_k _ _ (by omega), sn_un_same, if_neg (by omega)]
theorem sr_reads_L {Q : Int → SS → Prop} {st : Nat} (hL : t.length ≤ 120) (hT : Ty σ t) (hst : st ≤ t.length) (hq : ∀ J, J ≤ 4 → st + J ≤ t.length → (∀ x, x < J → isDg (bt t (st + x))) → (J < 4 → dgs t (t.length + 1) st = J) → (J = 4 → 4 ≤ dgs t (t.length + 1) st) → wX9_reads_L70 Q ((st + J : Nat) : Int) (st : Int) (dgv t st J) σ) : ∀ (f : Nat) {j : Nat}, j + f = 5 → j ≤ 4 → st + j ≤ t.length → (∀ x, x < j → isDg (bt t (st + x))) → wX9_reads_L31 Q f ((st + j : Nat) : Int) (st : Int) (dgv t st j) σ := by
  intro f
  induction f with
  | zero => intro j h1 h2; omega
  | succ f ih =>
    intro j h1 h2 h3 h4
    have e1 : (((st + j : Nat) : Int) - (st : Int)) = (j : Int) := by omega
    have e2 : (((st + j : Nat) : Int) + 1) = ((st + (j + 1) : Nat) : Int) := by omega
    rw [wX9_reads_L31, e1, e2]
    refine ⟨⟨by omega, by omega⟩, sr_byteAt hL hT (sr_in (fun hd => ⟨o1, fun _ => ⟨⟨by omega, by omega⟩, fun c => ?_, fun c => ?_⟩⟩) (fun hd => ⟨fun _ => ?_, o0⟩))⟩
    · have hj : j = 4 := by omega
      subst hj
      exact hq 4 (Nat.le_refl _) h3 h4 (fun z => by omega) (fun _ => dgs_ge _ _ _ (by omega) h4)
    · have hlt : st + j < t.length := bt_lt rfl (by omega)
      refine ⟨by omega, by omega, ?_⟩
      have := ih (j := j + 1) (by omega) (by omega) (by omega) (fun x hx => by
        by_cases z : x = j
        · rw [z]; exact hd
        · exact h4 x (by omega))
      rw [dgv] at this
      rw [Int.toNat_natCast, hT.2.1 _ hlt, show 10 * dgv t st j = dgv t st j * 10 by omega]; exact this
    · refine hq j h2 h3 h4 (fun _ => dgs_eq (by omega) h4 hd) (fun z => ?_)
      subst z; exact dgs_ge _ _ _ (by omega) h4
theorem sr_reads {Q : Int → SS → Prop} {i : Nat} (hL : t.length ≤ 120) (hT : Ty σ t) (hi : i ≤ t.length) (h24 : sn σ 21 24 = (i : Int)) (hs : ∀ (v : Int) (e : Nat), nmb t i = some (v, e) → ∀ σ', sn σ' 21 24 = (e : Int) → sn σ' 21 26 = v → F21 [] [24, 26] σ σ' → Q 1 σ') (hn : nmb t i = none → ∀ σ', sn σ' 21 24 = (i : Int) → F21 [] [24, 26] σ σ' → Q 0 σ') : wX9_reads σ Q := by
  have hnst : nst t i ≤ t.length := by
    unfold nst; split
    · rename_i c; have := bt_lt c (by decide); omega
    · exact hi
  have key : ∃ kk, wX9_reads_L31 Q kk ((nst t i : Nat) : Int) ((nst t i : Nat) : Int) 0 σ := by
    refine ⟨5, ?_⟩
    have := sr_reads_L (Q := Q) hL hT hnst ?_ 5 (j := 0) (by omega) (by omega) (by omega) (fun x hx => by omega)
    · rw [Nat.add_zero] at this; simpa [dgv] using this
    · intro J hJ hJL hJd hJ1 hJ2
      have e0 : dgs t (t.length + 1) (nst t i) = ndg t i := rfl
      rw [e0] at hJ1 hJ2
      have hv := dgv_hi (t := t) (i := nst t i) J hJ hJd
      have e1 : (((nst t i + J : Nat) : Int) - ((nst t i : Nat) : Int)) = (J : Int) := by omega
      have sgn1 : nst t i ≤ i ↔ ¬ bt t i = 45 := by
        unfold nst; split <;> rename_i c <;> simp [c]
      have no : ¬ (1 ≤ ndg t i ∧ ndg t i ≤ 3 ∧ dgv t (nst t i) (ndg t i) ≤ 500) → wX9_reads_L94 Q ((nst t i + J : Nat) : Int) ((nst t i : Nat) : Int) (dgv t (nst t i) J) 0 σ := fun z =>
        sr_reads94 (Or.inl rfl) h24 (by omega) (by omega) ⟨hv.1, hv.2.1⟩ (fun σ' a1 a2 f' => hn (by unfold nmb; rw [if_neg z]) σ' (by rw [a1, if_pos rfl]) f')
      unfold wX9_reads_L70 wX9_reads_L93
      rw [e1]
      refine ⟨⟨by omega, by omega⟩, ⟨by omega, by omega⟩, fun c => no (fun z => ?_), fun c => ⟨⟨by omega, by omega⟩, fun c2 => no (fun z => ?_), fun c2 => ⟨⟨by omega, by omega⟩, fun c3 => no (fun z => ?_), fun c3 => ?_⟩⟩⟩
      · have : J = 0 := by omega
        have := hJ1 (by omega); omega
      · have := hJ2 (by omega); omega
      · have := hJ1 (by omega)
        rw [this] at z; omega
      · have hJn := hJ1 (by omega)
        refine sr_reads94 (Or.inr rfl) h24 (by omega) (by omega) ⟨hv.1, hv.2.1⟩ (fun σ' a1 a2 f' => ?_)
        rw [if_neg (by decide)] at a1
        refine hs (if bt t i = 45 then -(dgv t (nst t i) (ndg t i)) else dgv t (nst t i) (ndg t i)) (nst t i + ndg t i) ?_ σ' (by rw [a1, hJn]) ?_ f'
        · unfold nmb; rw [if_pos ⟨by omega, by omega, by rw [hJn]; omega⟩]
        · rw [a2, hJn]
          by_cases c45 : bt t i = 45
          · rw [if_neg (fun z => sgn1.mp z c45), if_pos c45]
          · rw [if_pos (sgn1.mpr c45), if_neg c45]
  unfold wX9_reads
  rw [h24]
  refine sr_byteAt hL hT ⟨fun c => ?_, fun c => ?_⟩
  · rw [h24]; unfold nst at key; rw [if_neg c] at key; exact key
  · rw [h24]; unfold nst at key; rw [if_pos c] at key
    rw [show ((i : Int) + 1) = ((i + 1 : Nat) : Int) by omega]; exact key
end
