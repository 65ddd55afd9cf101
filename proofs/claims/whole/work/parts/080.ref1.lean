/-! ===== the reference: its rows ===== -/
def pk (p : KV) : Int := (p.1 + 500) * 2097152 + (p.2 + 1000000)
def Rg (σ : SS) (x b : Nat) (l : List KV) : Prop := ∀ (i : Nat) (p : KV), l[i]? = some p → sn σ x (b + i) = pk p
def MI (σ : SS) (M : Nat → List KV) : Prop := ∀ m, m < 6 → Rg σ 22 (200 * m) (M m) ∧ sn σ 23 m = ((M m).length : Int)
def GM (M : Nat → List KV) : Prop := ∀ m, m < 6 → Gd (M m)
def PI (σ : SS) (P : List (Nat → List KV)) : Prop := sn σ 21 4 = (P.length : Int) ∧ P.length ≤ 12 ∧ ∀ (j : Nat) (M : Nat → List KV), P[j]? = some M → ∀ m, m < 6 → Rg σ 24 (1200 * (P.length - 1 - j) + 200 * m) (M m) ∧ sn σ 25 (6 * (P.length - 1 - j) + m) = ((M m).length : Int)
def OI (σ : SS) (a : AS) : Prop := (∀ j, j < 3 → sn σ 29 j = aR a j) ∧ sn σ 21 9 = aX a ∧ sn σ 21 11 = ((aT a).length : Int) ∧ ∀ (i : Nat) (c : Int), (aT a)[i]? = some c → sn σ 30 i = c
def RI (σ : SS) (a : AS) : Prop := MI σ (aM a) ∧ PI σ (aP a) ∧ OI σ a
abbrev rcl : List Nat := [21, 22, 23, 24, 25, 26, 27, 28, 29, 30, 31, 32, 33, 34, 35, 36, 37, 38]
abbrev Dr (σ : SS) (Q : Int → SS → Prop) (r : Int × AS) : Prop := ∀ σ', RI σ' r.2 → Sm rcl σ σ' → Q r.1 σ'
theorem MI.of {σ σ' : SS} {M : Nat → List KV} (h : MI σ M) (h2 : ∀ k, sn σ' 22 k = sn σ 22 k) (h3 : ∀ k, sn σ' 23 k = sn σ 23 k) : MI σ' M := fun m hm => ⟨fun i p hp => by rw [h2]; exact (h m hm).1 i p hp, by rw [h3]; exact (h m hm).2⟩
theorem PI.of {σ σ' : SS} {P : List (Nat → List KV)} (h : PI σ P) (h1 : sn σ' 21 4 = sn σ 21 4) (h2 : ∀ k, sn σ' 24 k = sn σ 24 k) (h3 : ∀ k, sn σ' 25 k = sn σ 25 k) : PI σ' P := ⟨h1.trans h.1, h.2.1, fun j M hM m hm => ⟨fun i p hp => by rw [h2]; exact (h.2.2 j M hM m hm).1 i p hp, by rw [h3]; exact (h.2.2 j M hM m hm).2⟩⟩
theorem OI.of {σ σ' : SS} {a : AS} (h : OI σ a) (h1 : ∀ k, sn σ' 29 k = sn σ 29 k) (h2 : sn σ' 21 9 = sn σ 21 9) (h3 : sn σ' 21 11 = sn σ 21 11) (h4 : ∀ k, sn σ' 30 k = sn σ 30 k) : OI σ' a := ⟨fun j hj => by rw [h1]; exact h.1 j hj, h2.trans h.2.1, h3.trans h.2.2.1, fun i c hc => by rw [h4]; exact h.2.2.2 i c hc⟩
theorem MI.sm {σ σ' : SS} {M : Nat → List KV} {is : List Nat} (h : MI σ M) (hs : Sm is σ σ') (h2 : 22 ∉ is) (h3 : 23 ∉ is) : MI σ' M := h.of (fun k => (hs.1 22 h2 k).1) (fun k => (hs.1 23 h3 k).1)
theorem PI.sm {σ σ' : SS} {P : List (Nat → List KV)} {is : List Nat} (h : PI σ P) (hs : Sm is σ σ') (h1 : 21 ∉ is) (h2 : 24 ∉ is) (h3 : 25 ∉ is) : PI σ' P := h.of (hs.1 21 h1 4).1 (fun k => (hs.1 24 h2 k).1) (fun k => (hs.1 25 h3 k).1)
theorem OI.sm {σ σ' : SS} {a : AS} {is : List Nat} (h : OI σ a) (hs : Sm is σ σ') (h1 : 21 ∉ is) (h2 : 29 ∉ is) (h3 : 30 ∉ is) : OI σ' a := h.of (fun k => (hs.1 29 h2 k).1) (hs.1 21 h1 9).1 (hs.1 21 h1 11).1 (fun k => (hs.1 30 h3 k).1)
theorem AW.gm {n : Nat} {a : AS} (h : AW n a) : GM (aM a) := h.1
/-- a row of writes -/
def wr (x b : Nat) (v : Nat → Int) : Nat → Nat → SS → SS
  | 0, _, σ => σ
  | f + 1, i, σ => wr x b v f (i + 1) (un σ x (b + i) (v i))
theorem wr_sn {x b : Nat} {v : Nat → Int} : ∀ (f : Nat) (i : Nat) (σ : SS) (y q : Nat), sn (wr x b v f i σ) y q = if y = x ∧ b + i ≤ q ∧ q < b + i + f then v (q - b) else sn σ y q := by
  intro f
  induction f with
  | zero => intro i σ y q; rw [wr, if_neg (by omega)]
  | succ f ih =>
    intro i σ y q
    rw [wr, ih]
    by_cases c : y = x ∧ b + (i + 1) ≤ q ∧ q < b + (i + 1) + f
    · rw [if_pos c, if_pos ⟨c.1, by omega, by omega⟩]
    · rw [if_neg c, sn_un]
      by_cases c2 : y = x ∧ q = b + i
      · rw [if_pos c2, if_pos ⟨c2.1, by omega, by omega⟩, c2.2]
        congr 1; omega
      · rw [if_neg c2, if_neg (by omega)]
theorem wr_sm {x b : Nat} {v : Nat → Int} {is : List Nat} (hx : x ∈ is) : ∀ (f : Nat) (i : Nat) (σ : SS), Sm is σ (wr x b v f i σ) := by
  intro f
  induction f with
  | zero => intro i σ; exact Sm.rf _ _
  | succ f ih => intro i σ; rw [wr]; exact (Sm.un hx).tr (ih (i + 1) _)
theorem pkd_in {p : KV} (hk : isK p.1) (hv : -1000000 ≤ p.2 ∧ p.2 ≤ 1000000) : 0 ≤ pk p ∧ pk p ≤ 2147483647 := by unfold pk; omega
theorem pk_inj {p q : KV} (hv : -1000000 ≤ p.2 ∧ p.2 ≤ 1000000) (hv' : -1000000 ≤ q.2 ∧ q.2 ≤ 1000000) (h : pk p = pk q) : p = q := by
  unfold pk at h
  exact Prod.ext (by omega) (by omega)
theorem two21 : (2 : Int) ^ ((21 : Int).toNat) = 2097152 := by decide
theorem or21 (m b : Nat) (h : b < 2097152) : (m * 2097152) ||| b = m * 2097152 + b := by
  have := Nat.two_pow_add_eq_or_of_lt (i := 21) (b := b) (by simpa using h) m
  have e : (2 : Nat) ^ 21 = 2097152 := by decide
  rw [e, Nat.mul_comm] at this
  exact this.symm
theorem and21 (m b : Nat) (h : b < 2097152) : (m * 2097152 + b) &&& 2097151 = b := by
  have := Nat.and_two_pow_sub_one_eq_mod (m * 2097152 + b) 21
  have e : (2 : Nat) ^ 21 - 1 = 2097151 := by decide
  have e2 : (2 : Nat) ^ 21 = 2097152 := by decide
  rw [e, e2] at this
  rw [this]; omega
section
variable {n : Nat} {σ : SS} {a : AS} {M : Nat → List KV}
theorem sr_in {Q : Int → SS → Prop} {x y z : Int} (h1 : y ≤ x ∧ x ≤ z → Q 1 σ) (h0 : ¬ (y ≤ x ∧ x ≤ z) → Q 0 σ) : wX9_in x y z σ Q := ⟨fun c => h0 (by omega), fun c => ⟨fun c2 => h0 (by omega), fun c2 => h1 (by omega)⟩⟩
theorem sr_isMap {Q : Int → SS → Prop} {m : Int} (h1 : isM m → Q 1 σ) (h0 : ¬ isM m → Q 0 σ) : wX9_isMap m σ Q := sr_in h1 h0
theorem sr_isKey {Q : Int → SS → Prop} {m : Int} (h1 : isK m → Q 1 σ) (h0 : ¬ isK m → Q 0 σ) : wX9_isKey m σ Q := sr_in h1 h0
theorem sr_isRange {Q : Int → SS → Prop} {x y : Int} (h1 : isRg x y → Q 1 σ) (h0 : ¬ isRg x y → Q 0 σ) : wX9_isRange x y σ Q :=
  sr_isKey (fun k1 => ⟨o1, fun _ => sr_isKey (fun k2 => ⟨o1, fun _ => ⟨fun c => h0 (fun q => by have := q.2.2; omega), fun c => h1 ⟨k1, k2, by omega⟩⟩⟩) (fun k2 => ⟨fun _ => h0 (fun q => k2 q.2.1), o0⟩)⟩) (fun k1 => ⟨fun _ => h0 (fun q => k1 q.1), o0⟩)
theorem sr_held {Q : Int → SS → Prop} {x : Int} (hq : Q (hd x) σ) : wX9_held x σ Q := by
  unfold hd at hq
  refine ⟨fun c => ⟨fun c2 => ⟨⟨by omega, by omega⟩, ?_⟩, fun c2 => ⟨by decide, ?_⟩⟩, fun c => ⟨by decide, ?_⟩⟩
  · rw [show max (-1000000) (min 1000000 x) = x by omega] at hq; exact hq
  · rw [show max (-1000000) (min 1000000 x) = 1000000 by omega] at hq; exact hq
  · rw [show max (-1000000) (min 1000000 x) = -1000000 by omega] at hq; exact hq
theorem sr_refuses {Q : Int → SS → Prop} {j : Nat} {r : Int} (hj : j < 3) (hr : r = -2000000002 - j) (h : RI σ a) (hw : AW n a) (hn : n ≤ 1000000) (hq : Dr σ Q (r, aRef a j)) : wX9_refuses r σ Q := by
  have e : (-2000000002 - r).toNat = j := by omega
  have h1 := h.2.2.1 j hj
  have h2 := hw.2.2.2.2.2.2 j
  unfold wX9_refuses
  rw [e, h1]
  refine ⟨by omega, by omega, by omega, by omega, ⟨by omega, by omega⟩, hq _ ⟨?_, ?_, ?_, ?_, ?_, ?_⟩ (Sm.un (by simp))⟩
  · exact h.1.of (fun k => sn_un_i _ _ (by omega)) (fun k => sn_un_i _ _ (by omega))
  · exact h.2.1.of (sn_un_i _ _ (by omega)) (fun k => sn_un_i _ _ (by omega)) (fun k => sn_un_i _ _ (by omega))
  · intro i hi
    rw [sn_un]
    by_cases c : i = j
    · rw [if_pos ⟨rfl, c⟩]; simp [aR, aRef, c]
    · rw [if_neg (by omega), h.2.2.1 i hi]; simp [aR, aRef, c]
  · rw [sn_un_i _ _ (by omega)]; exact h.2.2.2.1
  · rw [sn_un_i _ _ (by omega)]; exact h.2.2.2.2.1
  · intro i c hc
    rw [sn_un_i _ _ (by omega)]; exact h.2.2.2.2.2 i c hc
theorem dr_bad {Q : Int → SS → Prop} (h : RI σ a) (hw : AW n a) (hn : n ≤ 1000000) (hq : Dr σ Q (oBad a)) : wX9_refuses (-2000000002) σ Q := sr_refuses (j := 0) (by decide) (by decide) h hw hn hq
theorem dr_no {Q : Int → SS → Prop} (h : RI σ a) (hw : AW n a) (hn : n ≤ 1000000) (hq : Dr σ Q (oNo a)) : wX9_refuses (-2000000003) σ Q := sr_refuses (j := 1) (by decide) (by decide) h hw hn hq
theorem dr_full {Q : Int → SS → Prop} (h : RI σ a) (hw : AW n a) (hn : n ≤ 1000000) (hq : Dr σ Q (oFull a)) : wX9_refuses (-2000000004) σ Q := sr_refuses (j := 2) (by decide) (by decide) h hw hn hq
theorem dr_same {Q : Int → SS → Prop} {r : Int} (h : RI σ a) (hq : Dr σ Q (r, a)) : Q r σ := hq σ h (Sm.rf _ _)
theorem sr_entry {Q : Int → SS → Prop} {k v : Int} (hk : isK k) (hv : isV v) (hq : Q (pk (k, v)) σ) : wX9_entry k v σ Q := by
  have e : (((k - -500) * 2097152).toNat ||| (v + 1000000).toNat : Nat) = (k + 500).toNat * 2097152 + (v + 1000000).toNat := by
    rw [← or21 _ _ (by omega)]
    congr 1
    omega
  have e2 : (((k + 500).toNat * 2097152 + (v + 1000000).toNat : Nat) : Int) = pk (k, v) := by unfold pk; dsimp only; omega
  unfold wX9_entry
  rw [two21, e, e2]
  have := pkd_in (p := (k, v)) hk hv
  exact ⟨by omega, ⟨by omega, by omega⟩, by omega, ⟨by omega, by omega⟩, ⟨by omega, by omega⟩, ⟨by omega, by omega⟩, hq⟩
theorem sr_keyOf {Q : Int → SS → Prop} {p : KV} (hk : isK p.1) (hv : isV p.2) (hq : Q p.1 σ) : wX9_keyOf (pk p) σ Q := by
  have h := pkd_in hk hv
  have e : pk p / 2097152 + -500 = p.1 := by unfold pk; omega
  unfold wX9_keyOf
  rw [two21, e]
  exact ⟨h, ⟨by omega, by omega⟩, hq⟩
theorem sr_valueOf {Q : Int → SS → Prop} {p : KV} (hk : isK p.1) (hv : isV p.2) (hq : Q p.2 σ) : wX9_valueOf (pk p) σ Q := by
  have h := pkd_in hk hv
  have e : (((pk p).toNat &&& (2097151 : Int).toNat : Nat) : Int) - 1000000 = p.2 := by
    have e1 : (pk p).toNat = (p.1 + 500).toNat * 2097152 + (p.2 + 1000000).toNat := by unfold pk; omega
    have e2 : (2097151 : Int).toNat = 2097151 := rfl
    rw [e1, e2, and21 _ _ (by omega)]
    omega
  unfold wX9_valueOf
  rw [e]
  exact ⟨h, by decide, ⟨by omega, by omega⟩, hq⟩
theorem MI.row (h : MI σ M) {m : Int} (hm : isM m) {i : Nat} {p : KV} (hp : (M m.toNat)[i]? = some p) : sn σ 22 (200 * m + (i : Int)).toNat = pk p := by
  rw [← (h m.toNat (by omega)).1 i p hp]
  congr 1; omega
theorem MI.siz (h : MI σ M) {m : Int} (hm : isM m) : sn σ 23 m.toNat = ((M m.toNat).length : Int) := (h m.toNat (by omega)).2
theorem GM.mp (h : GM M) {m : Int} (hm : isM m) : Gd (M m.toNat) := h m.toNat (by omega)
theorem sr_keyAt {Q : Int → SS → Prop} {m : Int} {i : Nat} {p : KV} (h : MI σ M) (hg : GM M) (hm : isM m) (hp : (M m.toNat)[i]? = some p) (hq : Q p.1 σ) : wX9_keyAt m (i : Int) σ Q := by
  have g := hg.mp hm
  have hi := (List.getElem?_eq_some_iff.mp hp).1
  have hl := g.2.2.2
  unfold wX9_keyAt
  rw [h.row hm hp]
  exact ⟨by omega, by omega, sr_keyOf (g.2.1 p (List.mem_of_getElem? hp)) (g.2.2.1 p (List.mem_of_getElem? hp)) hq⟩
theorem sr_valueAt {Q : Int → SS → Prop} {m : Int} {i : Nat} {p : KV} (h : MI σ M) (hg : GM M) (hm : isM m) (hp : (M m.toNat)[i]? = some p) (hq : Q p.2 σ) : wX9_valueAt m (i : Int) σ Q := by
  have g := hg.mp hm
  have hi := (List.getElem?_eq_some_iff.mp hp).1
  have hl := g.2.2.2
  unfold wX9_valueAt
  rw [h.row hm hp]
  exact ⟨by omega, by omega, sr_valueOf (g.2.1 p (List.mem_of_getElem? hp)) (g.2.2.1 p (List.mem_of_getElem? hp)) hq⟩
theorem lo_stop {p : KV} {rest : List KV} (hs : Srt (p :: rest)) {k : Int} (hk : ¬ p.1 < k) : lo (p :: rest) k = [] := by
  unfold lo
  rw [List.filter_eq_nil_iff]
  intro q hq
  rcases List.mem_cons.mp hq with rfl | h
  · simp; omega
  · have := (List.pairwise_cons.mp hs).1 q h
    simp; omega
theorem Srt_drop {l : List KV} (h : Srt l) (i : Nat) : Srt (l.drop i) := List.Pairwise.sublist (List.drop_sublist _ _) h
theorem Srt_take {l : List KV} (h : Srt l) (i : Nat) : Srt (l.take i) := List.Pairwise.sublist (List.take_sublist _ _) h
theorem sr_below_L {Q : Int → SS → Prop} {m k : Int} (h : MI σ M) (hg : GM M) (hm : isM m) (hq : Q ((lo (M m.toNat) k).length : Int) σ) : ∀ (rest : List KV) {i : Nat}, (M m.toNat).drop i = rest → i ≤ (M m.toNat).length → lo (M m.toNat) k = (M m.toNat).take i ++ lo rest k → wX9_below_L2 m k Q (rest.length + 1) (i : Int) σ := by
  have hl := (hg.mp hm).2.2.2
  intro rest
  induction rest with
  | nil =>
    intro i hdr hi hlo
    have := drop_nil hdr hi
    rw [List.length_nil, wX9_below_L2, h.siz hm]
    refine ⟨by omega, by omega, ⟨by omega, by omega⟩, fun _ => ?_, fun c => by omega⟩
    have e : (lo (M m.toNat) k).length = i := by
      rw [hlo, List.length_append, List.length_take]; simp [lo]; omega
    rw [← e]; exact hq
  | cons p rest ih =>
    intro i hdr hi hlo
    obtain ⟨hp, hd2, hi2, hi3⟩ := drop_cons hdr
    have e : ((i : Int) + 1) = ((i + 1 : Nat) : Int) := by omega
    rw [List.length_cons, wX9_below_L2, h.siz hm, e]
    refine ⟨by omega, by omega, ⟨by omega, by omega⟩, fun c => by omega, fun _ => sr_keyAt h hg hm hp ⟨fun c => ?_, fun c => ih hd2 (by omega) ?_⟩⟩
    · have hs : Srt (p :: rest) := by rw [← hdr]; exact Srt_drop (hg.mp hm).1 i
      have e : (lo (M m.toNat) k).length = i := by
        rw [hlo, lo_stop hs (by omega), List.length_append, List.length_take]; simp; omega
      rw [← e]; exact hq
    · rw [hlo, take_succ hp, List.append_assoc]
      congr 1
      unfold lo
      rw [List.filter_cons, if_pos (by simp; omega)]; rfl
theorem sr_below {Q : Int → SS → Prop} {m k : Int} (h : MI σ M) (hg : GM M) (hm : isM m) (hq : Q ((lo (M m.toNat) k).length : Int) σ) : wX9_below m k σ Q :=
  ⟨_, sr_below_L h hg hm hq (M m.toNat) (i := 0) rfl (Nat.zero_le _) (by simp)⟩
/-- the place of a key -/
theorem lo_split {l : List KV} (hs : Srt l) (k : Int) : l.take (lo l k).length = lo l k ∧ ∀ p ∈ l.drop (lo l k).length, k ≤ p.1 := by
  induction l with
  | nil => simp [lo]
  | cons p l ih =>
    by_cases c : p.1 < k
    · have e : lo (p :: l) k = p :: lo l k := by unfold lo; rw [List.filter_cons, if_pos (by simpa using c)]
      have h := ih (List.pairwise_cons.mp hs).2
      rw [e, List.length_cons, List.take_succ_cons, List.drop_succ_cons, h.1]
      exact ⟨rfl, h.2⟩
    · rw [lo_stop hs c]
      refine ⟨rfl, fun q hq => ?_⟩
      rcases List.mem_cons.mp hq with rfl | hq
      · omega
      · have := (List.pairwise_cons.mp hs).1 q hq; omega
theorem lk_at {l : List KV} (hs : Srt l) (k : Int) : lk l k = (match l[(lo l k).length]? with | some p => if p.1 = k then some p.2 else none | none => none) := by
  induction l with
  | nil => rfl
  | cons p l ih =>
    by_cases c : p.1 < k
    · have e : lo (p :: l) k = p :: lo l k := by unfold lo; rw [List.filter_cons, if_pos (by simpa using c)]
      rw [e, List.length_cons, List.getElem?_cons_succ, lk, if_neg (by omega)]
      exact ih (List.pairwise_cons.mp hs).2
    · rw [lo_stop hs c, List.length_nil, List.getElem?_cons_zero, lk]
      by_cases c2 : p.1 = k
      · simp [c2]
      · rw [if_neg c2]
        simp only [c2, if_false]
        exact lk_none.mpr (fun q hq => by have := (List.pairwise_cons.mp hs).1 q hq; omega)
theorem sr_isThere {Q : Int → SS → Prop} {m k : Int} (h : MI σ M) (hg : GM M) (hm : isM m) (h1 : ∀ v, lk (M m.toNat) k = some v → (M m.toNat)[(lo (M m.toNat) k).length]? = some (k, v) → Q 1 σ) (h0 : lk (M m.toNat) k = none → Q 0 σ) : wX9_isThere m ((lo (M m.toNat) k).length : Int) k σ Q := by
  have hlk := lk_at (hg.mp hm).1 k
  unfold wX9_isThere
  rw [h.siz hm]
  refine ⟨by omega, by omega, fun c => ?_, fun c => ?_⟩
  · rw [List.getElem?_eq_none (by omega)] at hlk
    exact h0 hlk
  · have hp := List.getElem?_eq_getElem (show (lo (M m.toNat) k).length < (M m.toNat).length by omega)
    generalize (M m.toNat)[(lo (M m.toNat) k).length] = p at hp
    rw [hp] at hlk
    refine sr_keyAt h hg hm hp ⟨fun c2 => h0 ?_, fun c2 => h1 p.2 ?_ ?_⟩
    · rw [hlk]; simp [c2]
    · rw [hlk]; simp [c2]
    · rw [hp, ← c2]
/-- all is kept -/
theorem sr_keeps117 {Q : SS → Prop} {q : Nat} (hq : q < 12) : ∀ (f : Nat) {i : Nat} {σ : SS}, i + f = 6 → sn σ 21 4 = q → Q (un (wr 25 (6 * q) (sn σ 23) f i σ) 21 4 (q + 1)) → wX9_keeps_L117 Q (f + 1) (i : Int) σ := by
  intro f
  induction f with
  | zero =>
    intro i σ hi h hQ
    rw [wX9_keeps_L117, h]
    exact ⟨⟨by omega, by omega⟩, fun _ => ⟨⟨by omega, by omega⟩, hQ⟩, fun c => by omega⟩
  | succ f ih =>
    intro i σ hi h hQ
    have e : ((i : Int) + 1) = ((i + 1 : Nat) : Int) := by omega
    have e2 : (6 * (q : Int) + (i : Int)).toNat = 6 * q + i := by omega
    rw [wX9_keeps_L117, h, e, e2, Int.toNat_natCast]
    refine ⟨⟨by omega, by omega⟩, fun c => by omega, fun _ => ⟨by omega, by omega, by omega, by omega, ih (by omega) (by rw [sn_un_i _ _ (by omega)]; exact h) ?_⟩⟩
    have e3 : sn (un σ 25 (6 * q + i) (sn σ 23 i)) 23 = sn σ 23 := by funext k; exact sn_un_i _ _ (by omega)
    rw [e3]; exact hQ
theorem sr_keeps81 {Q : SS → Prop} {q : Nat} (hq : q < 12) : ∀ (f : Nat) {i : Nat} {σ : SS}, i + f = 1200 → sn σ 21 4 = q → Q (un (wr 25 (6 * q) (sn σ 23) 6 0 (wr 24 (1200 * q) (sn σ 22) f i σ)) 21 4 (q + 1)) → wX9_keeps_L81 Q (f + 1) (i : Int) σ := by
  intro f
  induction f with
  | zero =>
    intro i σ hi h hQ
    rw [wX9_keeps_L81]
    exact ⟨⟨by omega, by omega⟩, fun _ => ⟨7, sr_keeps117 hq 6 (i := 0) rfl h hQ⟩, fun c => by omega⟩
  | succ f ih =>
    intro i σ hi h hQ
    have e : ((i : Int) + 1) = ((i + 1 : Nat) : Int) := by omega
    have e2 : (1200 * (q : Int) + (i : Int)).toNat = 1200 * q + i := by omega
    rw [wX9_keeps_L81, h, e, e2, Int.toNat_natCast]
    refine ⟨⟨by omega, by omega⟩, fun c => by omega, fun _ => ⟨by omega, by omega, by omega, by omega, ih (by omega) (by rw [sn_un_i _ _ (by omega)]; exact h) ?_⟩⟩
    have e3 : sn (un σ 24 (1200 * q + i) (sn σ 22 i)) 22 = sn σ 22 := by funext k; exact sn_un_i _ _ (by omega)
    have e4 : sn (un σ 24 (1200 * q + i) (sn σ 22 i)) 23 = sn σ 23 := by funext k; exact sn_un_i _ _ (by omega)
    rw [e3, e4]; exact hQ
theorem sr_keeps42 {Q : SS → Prop} {K : Int → SS → Prop} {v : Nat → Int} : ∀ (f : Nat) {i : Nat} {σ : SS}, i + f = 66 → sn σ 21 4 = 12 → (∀ j, i ≤ j → j < 66 → sn σ 25 (j + 6) = v j) → K 0 (un (wr 25 0 v f i σ) 21 4 11) → wX9_keeps_L42 Q K (f + 1) (i : Int) σ := by
  intro f
  induction f with
  | zero =>
    intro i σ hi h hv hQ
    rw [wX9_keeps_L42, h]
    exact ⟨⟨by omega, by omega⟩, fun _ => ⟨by decide, hQ⟩, fun c => by omega⟩
  | succ f ih =>
    intro i σ hi h hv hQ
    have e : ((i : Int) + 1) = ((i + 1 : Nat) : Int) := by omega
    have e2 : ((i : Int) + 6).toNat = i + 6 := by omega
    rw [wX9_keeps_L42, e, e2, Int.toNat_natCast, hv i (by omega) (by omega)]
    refine ⟨⟨by omega, by omega⟩, fun c => by omega, fun _ => ⟨by omega, by omega, by omega, by omega, ih (by omega) (by rw [sn_un_i _ _ (by omega)]; exact h) (fun j h1 h2 => ?_) ?_⟩⟩
    · rw [sn_un_k _ _ (by omega)]; exact hv j (by omega) h2
    · rw [wr, Nat.zero_add] at hQ; exact hQ
theorem sr_keeps11 {Q : SS → Prop} {K : Int → SS → Prop} {v w : Nat → Int} : ∀ (f : Nat) {i : Nat} {σ : SS}, i + f = 13200 → sn σ 21 4 = 12 → (∀ j, i ≤ j → j < 13200 → sn σ 24 (j + 1200) = v j) → (∀ j, j < 66 → sn σ 25 (j + 6) = w j) → K 0 (un (wr 25 0 w 66 0 (wr 24 0 v f i σ)) 21 4 11) → wX9_keeps_L11 Q K (f + 1) (i : Int) σ := by
  intro f
  induction f with
  | zero =>
    intro i σ hi h hv hw hQ
    rw [wX9_keeps_L11]
    exact ⟨⟨by omega, by omega⟩, fun _ => ⟨67, sr_keeps42 66 (i := 0) rfl h (fun j _ h2 => hw j h2) hQ⟩, fun c => by omega⟩
  | succ f ih =>
    intro i σ hi h hv hw hQ
    have e : ((i : Int) + 1) = ((i + 1 : Nat) : Int) := by omega
    have e2 : ((i : Int) + 1200).toNat = i + 1200 := by omega
    rw [wX9_keeps_L11, e, e2, Int.toNat_natCast, hv i (by omega) (by omega)]
    refine ⟨⟨by omega, by omega⟩, fun c => by omega, fun _ => ⟨by omega, by omega, by omega, by omega, ih (by omega) (by rw [sn_un_i _ _ (by omega)]; exact h) (fun j h1 h2 => ?_) (fun j h2 => ?_) ?_⟩⟩
    · rw [sn_un_k _ _ (by omega)]; exact hv j (by omega) h2
    · rw [sn_un_i _ _ (by omega)]; exact hw j h2
    · have e5 : wr 24 0 v (f + 1) i σ = wr 24 0 v f (i + 1) (un σ 24 i (v i)) := by rw [wr, Nat.zero_add]
      rw [e5] at hQ; exact hQ
end
