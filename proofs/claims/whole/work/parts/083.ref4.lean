/-! ===== the reference: rows are changed ===== -/
abbrev updM (M : Nat → List KV) (m : Nat) (l : List KV) : Nat → List KV := fun i => if i = m then l else M i
theorem hi_drop {l : List KV} (hs : Srt l) (k : Int) : hi l k = l.drop (lo l (k + 1)).length := by
  induction l with
  | nil => simp [hi]
  | cons p l ih =>
    have hs2 := List.pairwise_cons.mp hs
    by_cases c : p.1 < k + 1
    · have e : lo (p :: l) (k + 1) = p :: lo l (k + 1) := by unfold lo; rw [List.filter_cons, if_pos (by simpa using c)]
      have e2 : hi (p :: l) k = hi l k := by unfold hi; rw [List.filter_cons, if_neg (by simp; omega)]
      rw [e, e2, List.length_cons, List.drop_succ_cons]
      exact ih hs2.2
    · rw [lo_stop hs c, List.length_nil, List.drop_zero]
      unfold hi
      rw [List.filter_eq_self]
      intro q hq
      rcases List.mem_cons.mp hq with rfl | hq
      · simp; omega
      · have := hs2.1 q hq; simp; omega
theorem lo_succ {l : List KV} (hs : Srt l) (k : Int) : (lo l (k + 1)).length = (lo l k).length + if lk l k = none then 0 else 1 := by
  induction l with
  | nil => simp [lo, lk]
  | cons p l ih =>
    have hs2 := List.pairwise_cons.mp hs
    by_cases c : p.1 < k
    · have e : lo (p :: l) (k + 1) = p :: lo l (k + 1) := by unfold lo; rw [List.filter_cons, if_pos (by simp; omega)]
      have e2 : lo (p :: l) k = p :: lo l k := by unfold lo; rw [List.filter_cons, if_pos (by simpa using c)]
      have e4 : lk (p :: l) k = lk l k := by rw [lk, if_neg (by omega)]
      rw [e, e2, List.length_cons, List.length_cons, ih hs2.2, e4]
      omega
    · rw [lo_stop hs c, lk]
      by_cases c2 : p.1 = k
      · have e : lo (p :: l) (k + 1) = p :: lo l (k + 1) := by unfold lo; rw [List.filter_cons, if_pos (by simp; omega)]
        have e3 : lo l (k + 1) = [] := by
          unfold lo
          rw [List.filter_eq_nil_iff]
          intro q hq
          have := hs2.1 q hq
          simp; omega
        rw [e, e3, if_pos c2]; rfl
      · rw [lo_stop hs (by omega), if_neg c2]
        have : lk l k = none := lk_none.mpr (fun q hq => by have := hs2.1 q hq; omega)
        rw [this]; rfl
theorem ins_eq {l : List KV} (hs : Srt l) (k v : Int) : ins l k v = l.take (lo l k).length ++ (k, v) :: l.drop ((lo l k).length + if lk l k = none then 0 else 1) := by
  unfold ins
  rw [hi_drop hs, lo_succ hs, (lo_split hs k).1]
theorem del_eq {l : List KV} (hs : Srt l) (x y : Int) : del l x y = l.take (lo l x).length ++ l.drop (lo l (y + 1)).length := by
  unfold del
  rw [hi_drop hs, (lo_split hs x).1]
section
variable {n : Nat} {σ : SS} {a : AS} {M : Nat → List KV}
theorem MI.set {σ' : SS} (h : MI σ M) (hg : GM M) {m : Nat} {l : List KV} (h22 : ∀ k, ¬ (200 * m ≤ k ∧ k < 200 * m + 200) → sn σ' 22 k = sn σ 22 k) (h23 : ∀ k, k ≠ m → sn σ' 23 k = sn σ 23 k) (hr : Rg σ' 22 (200 * m) l) (hs : sn σ' 23 m = (l.length : Int)) : MI σ' (updM M m l) := by
  intro i hi
  unfold updM
  by_cases c : i = m
  · rw [if_pos c, c]; exact ⟨hr, hs⟩
  · rw [if_neg c]
    refine ⟨fun j p hp => ?_, ?_⟩
    · have hj := (List.getElem?_eq_some_iff.mp hp).1
      have hll := (hg i hi).2.2.2
      rw [h22 _ (by omega)]; exact (h i hi).1 j p hp
    · rw [h23 _ c]; exact (h i hi).2
theorem RI.sets {σ' : SS} {M' : Nat → List KV} {is : List Nat} (h : RI σ a) (hs : Sm is σ σ') (hM : MI σ' M') (h1 : 21 ∉ is) (h2 : 24 ∉ is) (h3 : 25 ∉ is) (h4 : 29 ∉ is) (h5 : 30 ∉ is) : RI σ' (M', a.2) := ⟨hM, h.2.1.sm hs h1 h2 h3, h.2.2.of (fun k => (hs.1 29 h4 k).1) (hs.1 21 h1 9).1 (hs.1 21 h1 11).1 (fun k => (hs.1 30 h5 k).1)⟩
theorem sr_lays27 {Q : SS → Prop} {m k v : Int} {i : Nat} (hm : isM m) (hk : isK k) (hv : isV v) (hi : i < 200) : ∀ (f : Nat) {σ : SS}, i + f < 200 → (0 ≤ sn σ 23 m.toNat ∧ sn σ 23 m.toNat ≤ 200) → (∀ σ', Sm [22] σ σ' → (∀ q, sn σ' 22 q = if 200 * m.toNat + i < q ∧ q ≤ 200 * m.toNat + (i + f) then sn σ 22 (q - 1) else sn σ 22 q) → Q (un (un σ' 23 m.toNat (sn σ 23 m.toNat + 1)) 22 (200 * m.toNat + i) (pk (k, v)))) → wX9_lays_L27 m k v Q (f + 1) (i : Int) ((i + f : Nat) : Int) σ := by
  intro f
  induction f with
  | zero =>
    intro σ hf hs hq
    have e : (200 * m + (i : Int)).toNat = 200 * m.toNat + i := by omega
    rw [wX9_lays_L27, e]
    refine ⟨⟨by omega, by omega⟩, ⟨by omega, by omega⟩, fun _ => ⟨by omega, by omega, by omega, by omega, ⟨by omega, by omega⟩, sr_entry hk hv ⟨by omega, by omega, ?_⟩⟩, fun c => by omega⟩
    exact hq σ (Sm.rf _ _) (fun q => by rw [if_neg (by omega)])
  | succ f ih =>
    intro σ hf hs hq
    have e1 : (200 * m + ((i + (f + 1) : Nat) : Int)).toNat = 200 * m.toNat + (i + (f + 1)) := by omega
    have e2 : (200 * m + ((i + (f + 1) : Nat) : Int) - 1).toNat = 200 * m.toNat + (i + f) := by omega
    have e3 : (((i + (f + 1) : Nat) : Int) + (-1)) = ((i + f : Nat) : Int) := by omega
    rw [wX9_lays_L27, e1, e2, e3]
    refine ⟨⟨by omega, by omega⟩, ⟨by omega, by omega⟩, fun c => by omega, fun _ => ⟨by omega, by omega, by omega, by omega, ih (by omega) (by rw [sn_un_i _ _ (by omega)]; exact hs) (fun σ' hsm hrow => ?_)⟩⟩
    rw [sn_un_i _ _ (by omega)]
    refine hq σ' ((Sm.un (by simp)).tr hsm) (fun q => ?_)
    rw [hrow]
    by_cases c : 200 * m.toNat + i < q ∧ q ≤ 200 * m.toNat + (i + f)
    · rw [if_pos c, if_pos ⟨c.1, by omega⟩, sn_un_k _ _ (by omega)]
    · rw [if_neg c, sn_un]
      by_cases c2 : q = 200 * m.toNat + (i + (f + 1))
      · rw [if_pos ⟨rfl, c2⟩, if_pos ⟨by omega, by omega⟩, c2]
        congr 1
      · rw [if_neg (by omega), if_neg (by omega)]
theorem sr_lays {Q : SS → Prop} {m k v : Int} (h : MI σ M) (hg : GM M) (hm : isM m) (hk : isK k) (hv : isV v) (hroom : lk (M m.toNat) k = none → (M m.toNat).length < 200) (hq : ∀ σ', MI σ' (updM M m.toNat (ins (M m.toNat) k v)) → Sm [22, 23] σ σ' → Q σ') : wX9_lays m k v σ Q := by
  have g := hg.mp hm
  have hl := g.2.2.2
  have hlo := lo_len (M m.toNat) k
  unfold wX9_lays
  refine sr_below h hg hm (sr_isThere h hg hm (fun w hw hp => ⟨fun _ => sr_entry hk hv ⟨by omega, by have := (List.getElem?_eq_some_iff.mp hp).1; omega, ?_⟩, o1⟩) (fun hw => ⟨o0, fun _ => ⟨by omega, by omega, (M m.toNat).length - (lo (M m.toNat) k).length + 1, ?_⟩⟩))
  · have hi := (List.getElem?_eq_some_iff.mp hp).1
    have e : (200 * m + ((lo (M m.toNat) k).length : Int)).toNat = 200 * m.toNat + (lo (M m.toNat) k).length := by omega
    rw [e]
    have hins := ins_eq g.1 k v
    rw [hw] at hins
    simp only [reduceCtorEq, if_false] at hins
    have hlen : (ins (M m.toNat) k v).length = (M m.toNat).length := by rw [hins]; simp; omega
    refine hq _ (h.set hg (fun q hq' => ?_) (fun q hq' => ?_) (fun j p hp' => ?_) ?_) (Sm.un (by simp))
    · rw [sn_un, if_neg (by omega)]
    · exact sn_un_i _ _ (by omega)
    · rw [hins] at hp'
      rw [sn_un]
      by_cases c : j = (lo (M m.toNat) k).length
      · rw [if_pos ⟨rfl, by omega⟩]
        rw [c, List.getElem?_append_right (by rw [List.length_take]; omega), List.length_take, show (lo (M m.toNat) k).length - min (lo (M m.toNat) k).length (M m.toNat).length = 0 by omega] at hp'
        simp at hp'
        rw [← hp']
      · rw [if_neg (by omega)]
        refine (h m.toNat (by omega)).1 j p ?_
        by_cases c2 : j < (lo (M m.toNat) k).length
        · rw [List.getElem?_append_left (by rw [List.length_take]; omega), List.getElem?_take, if_pos c2] at hp'; exact hp'
        · rw [List.getElem?_append_right (by rw [List.length_take]; omega), List.length_take] at hp'
          obtain ⟨j', hj'⟩ : ∃ j', j - min (lo (M m.toNat) k).length (M m.toNat).length = j' + 1 := ⟨j - (lo (M m.toNat) k).length - 1, by omega⟩
          rw [hj', List.getElem?_cons_succ, List.getElem?_drop] at hp'
          rw [← hp']; congr 1; omega
    · rw [sn_un_i _ _ (by omega), hlen]; exact h.siz hm
  · have hr := hroom hw
    have hins := ins_eq g.1 k v
    rw [hw] at hins
    simp only [if_true, Nat.add_zero] at hins
    have hlen : (ins (M m.toNat) k v).length = (M m.toNat).length + 1 := by rw [hins]; simp; omega
    rw [h.siz hm]
    have e : ((M m.toNat).length : Int) = (((lo (M m.toNat) k).length + ((M m.toNat).length - (lo (M m.toNat) k).length) : Nat) : Int) := by omega
    rw [e]
    refine sr_lays27 hm hk hv (by omega) _ (by omega) (by rw [h.siz hm]; omega) (fun σ' sm hrow => ?_)
    rw [h.siz hm]
    refine hq _ (h.set hg (fun q hq' => ?_) (fun q hq' => ?_) (fun j p hp' => ?_) ?_) (((sm.up (by simp)).tr (Sm.un (by simp))).tr (Sm.un (by simp)))
    · rw [sn_un, if_neg (by omega), sn_un_i _ _ (by omega), hrow, if_neg (by omega)]
    · rw [sn_un_i _ _ (by omega), sn_un_k _ _ hq']; exact (sm.1 23 (by simp) q).1
    · have hj := (List.getElem?_eq_some_iff.mp hp').1
      rw [hlen] at hj
      rw [hins] at hp'
      rw [sn_un]
      by_cases c : j = (lo (M m.toNat) k).length
      · rw [if_pos ⟨rfl, by omega⟩]
        rw [c, List.getElem?_append_right (by rw [List.length_take]; omega), List.length_take, show (lo (M m.toNat) k).length - min (lo (M m.toNat) k).length (M m.toNat).length = 0 by omega] at hp'
        simp at hp'
        rw [← hp']
      · rw [if_neg (by omega), sn_un_i _ _ (by omega), hrow]
        by_cases c2 : j < (lo (M m.toNat) k).length
        · rw [if_neg (by omega)]
          refine (h m.toNat (by omega)).1 j p ?_
          rw [List.getElem?_append_left (by rw [List.length_take]; omega), List.getElem?_take, if_pos c2] at hp'; exact hp'
        · rw [if_pos ⟨by omega, by omega⟩]
          rw [List.getElem?_append_right (by rw [List.length_take]; omega), List.length_take] at hp'
          obtain ⟨j', hj'⟩ : ∃ j', j - min (lo (M m.toNat) k).length (M m.toNat).length = j' + 1 := ⟨j - (lo (M m.toNat) k).length - 1, by omega⟩
          rw [hj', List.getElem?_cons_succ, List.getElem?_drop] at hp'
          rw [← (h m.toNat (by omega)).1 _ p hp']
          congr 1; omega
    · rw [sn_un_i _ _ (by omega), sn_un_same, hlen]; omega
theorem sr_goes_L {Q : SS → Prop} {m : Int} {i j N : Nat} {v : Nat → Int} (hm : isM m) (hij : i ≤ j) (hjN : j ≤ N) (hN : N ≤ 200) : ∀ (f : Nat) {t : Nat} {σ : SS}, j + t + f = N → sn σ 23 m.toNat = N → (∀ q, t ≤ q → j + q < N → sn σ 22 (200 * m.toNat + (j + q)) = v q) → Q (un (wr 22 (200 * m.toNat + i) v f t σ) 23 m.toNat ((N : Int) - ((j : Int) - i))) → wX9_goes_L3 m (i : Int) (j : Int) Q (f + 1) ((j + t : Nat) : Int) σ := by
  intro f
  induction f with
  | zero =>
    intro t σ hf hs hv hQ
    rw [wX9_goes_L3, hs]
    exact ⟨by omega, by omega, ⟨by omega, by omega⟩, fun _ => ⟨by omega, by omega, by omega, by omega, ⟨by omega, by omega⟩, hQ⟩, fun c => by omega⟩
  | succ f ih =>
    intro t σ hf hs hv hQ
    have e1 : (200 * m + ((j + t : Nat) : Int)).toNat = 200 * m.toNat + (j + t) := by omega
    have e2 : (200 * m + (i : Int) + ((j + t : Nat) : Int) - (j : Int)).toNat = 200 * m.toNat + i + t := by omega
    have e3 : (((j + t : Nat) : Int) + 1) = ((j + (t + 1) : Nat) : Int) := by omega
    rw [wX9_goes_L3, hs, e1, e2, e3, hv t (by omega) (by omega)]
    rw [wr] at hQ
    refine ⟨by omega, by omega, ⟨by omega, by omega⟩, fun c => by omega, fun _ => ⟨by omega, by omega, by omega, by omega, ih (by omega) (by rw [sn_un_i _ _ (by omega)]; exact hs) (fun q h1 h2 => ?_) hQ⟩⟩
    rw [sn_un_k _ _ (by omega)]; exact hv q (by omega) h2
theorem sr_goes {Q : SS → Prop} {m : Int} {i j : Nat} (h : MI σ M) (hg : GM M) (hm : isM m) (hij : i ≤ j) (hj : j ≤ (M m.toNat).length) (hq : ∀ σ', MI σ' (updM M m.toNat ((M m.toNat).take i ++ (M m.toNat).drop j)) → Sm [22, 23] σ σ' → Q σ') : wX9_goes m (i : Int) (j : Int) σ Q := by
  have g := hg.mp hm
  have hl := g.2.2.2
  refine ⟨(M m.toNat).length - j + 1, sr_goes_L hm hij hj hl _ (t := 0) (v := fun q => sn σ 22 (200 * m.toNat + (j + q))) (by omega) (h.siz hm) (fun _ _ _ => rfl) (hq _ (h.set hg (fun q hq' => ?_) (fun q hq' => ?_) (fun t p hp => ?_) ?_) ((wr_sm (by simp) _ _ _).tr (Sm.un (by simp))))⟩
  · rw [sn_un_i _ _ (by omega), wr_sn, if_neg (by omega)]
  · rw [sn_un_k _ _ hq', wr_sn, if_neg (by omega)]
  · have ht := (List.getElem?_eq_some_iff.mp hp).1
    rw [List.length_append, List.length_take, List.length_drop] at ht
    rw [sn_un_i _ _ (by omega), wr_sn]
    by_cases c : t < i
    · rw [if_neg (by omega)]
      rw [List.getElem?_append_left (by rw [List.length_take]; omega), List.getElem?_take, if_pos c] at hp
      exact (h m.toNat (by omega)).1 t p hp
    · rw [if_pos ⟨rfl, by omega, by omega⟩]
      rw [List.getElem?_append_right (by rw [List.length_take]; omega), List.length_take, List.getElem?_drop] at hp
      rw [← (h m.toNat (by omega)).1 _ p hp]
      congr 1; omega
  · rw [sn_un_same, List.length_append, List.length_take, List.length_drop]; omega
theorem sr_copies_L {Q : SS → Prop} {m t : Int} {fr N : Nat} {v : Nat → Int} (hm : isM m) (ht : isM t) (hN : fr + N ≤ 200) : ∀ (f : Nat) {i : Nat} {σ : SS}, i + f = N → (∀ q, i ≤ q → q < N → sn σ 22 (200 * m.toNat + fr + q) = v q) → Q (un (wr 22 (200 * t.toNat) v f i σ) 23 t.toNat (N : Int)) → wX9_copies_L3 m (fr : Int) (N : Int) t Q (f + 1) (i : Int) σ := by
  intro f
  induction f with
  | zero =>
    intro i σ hf hv hQ
    rw [wX9_copies_L3]
    exact ⟨⟨by omega, by omega⟩, fun _ => ⟨by omega, by omega, hQ⟩, fun c => by omega⟩
  | succ f ih =>
    intro i σ hf hv hQ
    have e1 : (200 * m + (fr : Int) + (i : Int)).toNat = 200 * m.toNat + fr + i := by omega
    have e2 : (200 * t + (i : Int)).toNat = 200 * t.toNat + i := by omega
    have e3 : ((i : Int) + 1) = ((i + 1 : Nat) : Int) := by omega
    rw [wX9_copies_L3, e1, e2, e3, hv i (by omega) (by omega)]
    rw [wr] at hQ
    refine ⟨⟨by omega, by omega⟩, fun c => by omega, fun _ => ⟨by omega, by omega, by omega, by omega, ih (by omega) (fun q h1 h2 => ?_) hQ⟩⟩
    rw [sn_un_k _ _ (by omega)]; exact hv q (by omega) h2
theorem sr_copies {Q : SS → Prop} {m t : Int} {fr N : Nat} (h : MI σ M) (hg : GM M) (hm : isM m) (ht : isM t) (hN : fr + N = (M m.toNat).length) (hq : ∀ σ', MI σ' (updM M t.toNat ((M m.toNat).drop fr)) → Sm [22, 23] σ σ' → Q σ') : wX9_copies m (fr : Int) (N : Int) t σ Q := by
  have g := hg.mp hm
  have hl := g.2.2.2
  refine ⟨N + 1, sr_copies_L hm ht (by omega) N (i := 0) (v := fun q => sn σ 22 (200 * m.toNat + fr + q)) (by omega) (fun _ _ _ => rfl) (hq _ (h.set hg (fun q hq' => ?_) (fun q hq' => ?_) (fun j p hp => ?_) ?_) ((wr_sm (by simp) _ _ _).tr (Sm.un (by simp))))⟩
  · rw [sn_un_i _ _ (by omega), wr_sn, if_neg (by omega)]
  · rw [sn_un_k _ _ hq', wr_sn, if_neg (by omega)]
  · have hj := (List.getElem?_eq_some_iff.mp hp).1
    rw [List.length_drop] at hj
    rw [List.getElem?_drop] at hp
    rw [sn_un_i _ _ (by omega), wr_sn, if_pos ⟨rfl, by omega, by omega⟩, ← (h m.toNat (by omega)).1 _ p hp]
    congr 1; omega
  · rw [sn_un_same, List.length_drop]; omega
theorem sr_becomes_L {Q : SS → Prop} {m : Int} {N : Nat} {v : Nat → Int} (hm : isM m) (hN : N ≤ 200) : ∀ (f : Nat) {i : Nat} {σ : SS}, i + f = N → (∀ q, q < N → sn σ 28 q = v q) → Q (un (wr 22 (200 * m.toNat) v f i σ) 23 m.toNat (N : Int)) → wX9_becomes_L2 m (N : Int) Q (f + 1) (i : Int) σ := by
  intro f
  induction f with
  | zero =>
    intro i σ hf hv hQ
    rw [wX9_becomes_L2]
    exact ⟨⟨by omega, by omega⟩, fun _ => ⟨by omega, by omega, hQ⟩, fun c => by omega⟩
  | succ f ih =>
    intro i σ hf hv hQ
    have e2 : (200 * m + (i : Int)).toNat = 200 * m.toNat + i := by omega
    have e3 : ((i : Int) + 1) = ((i + 1 : Nat) : Int) := by omega
    rw [wX9_becomes_L2, e2, e3, Int.toNat_natCast, hv i (by omega)]
    rw [wr] at hQ
    refine ⟨⟨by omega, by omega⟩, fun c => by omega, fun _ => ⟨by omega, by omega, by omega, by omega, ih (by omega) (fun q h1 => ?_) hQ⟩⟩
    rw [sn_un_i _ _ (by omega)]; exact hv q h1
theorem sr_becomes {Q : SS → Prop} {m : Int} {l : List KV} (h : MI σ M) (hg : GM M) (hm : isM m) (hl : l.length ≤ 200) (hr : Rg σ 28 0 l) (hq : ∀ σ', MI σ' (updM M m.toNat l) → Sm [22, 23] σ σ' → Q σ') : wX9_becomes m (l.length : Int) σ Q := by
  refine ⟨l.length + 1, sr_becomes_L hm hl _ (i := 0) (v := fun q => sn σ 28 q) (by omega) (fun _ _ => rfl) (hq _ (h.set hg (fun q hq' => ?_) (fun q hq' => ?_) (fun j p hp => ?_) ?_) ((wr_sm (by simp) _ _ _).tr (Sm.un (by simp))))⟩
  · rw [sn_un_i _ _ (by omega), wr_sn, if_neg (by omega)]
  · rw [sn_un_k _ _ hq', wr_sn, if_neg (by omega)]
  · have hj := (List.getElem?_eq_some_iff.mp hp).1
    rw [sn_un_i _ _ (by omega), wr_sn, if_pos ⟨rfl, by omega, by omega⟩, ← hr j p hp]
    congr 1; omega
  · exact sn_un_same _ _ _ _
end
