/-! ===== the calls, one by one: what they answer and do; the class does so ===== -/
abbrev isM (m : Int) : Prop := 0 ≤ m ∧ m ≤ 5
abbrev isK (k : Int) : Prop := -500 ≤ k ∧ k ≤ 500
abbrev isV (v : Int) : Prop := -1000000 ≤ v ∧ v ≤ 1000000
abbrev isRg (a b : Int) : Prop := isK a ∧ isK b ∧ a ≤ b
def oBad (a : AS) : Int × AS := (-2000000002, aRef a 0)
def oNo (a : AS) : Int × AS := (-2000000003, aRef a 1)
def oFull (a : AS) : Int × AS := (-2000000004, aRef a 2)
def opPut (a : AS) (m k v : Int) : Int × AS := if isM m ∧ isK k ∧ isV v then (match lk (aM a m.toNat) k with
    | some w => (w, aSet a m.toNat (ins (aM a m.toNat) k v))
    | none => if (aM a m.toNat).length < 200 then (-2000000001, aSet a m.toNat (ins (aM a m.toNat) k v)) else oFull a) else oBad a
def opRemove (a : AS) (m k : Int) : Int × AS := if isM m ∧ isK k then (match lk (aM a m.toNat) k with
    | some w => (w, aSet a m.toNat (del (aM a m.toNat) k k))
    | none => oNo a) else oBad a
def opGet (a : AS) (m k : Int) : Int × AS := if isM m ∧ isK k then ((lk (aM a m.toNat) k).getD (-2000000001), a) else oBad a
def opSize (a : AS) (m : Int) : Int × AS := if isM m then (((aM a m.toNat).length : Int), a) else oBad a
def opRank (a : AS) (m k : Int) : Int × AS := if isM m ∧ -501 ≤ k ∧ k ≤ 501 then (((lo (aM a m.toNat) k).length : Int), a) else oBad a
def opNth (a : AS) (m i : Int) : Int × AS := if isM m ∧ 0 ≤ i then (nk (aM a m.toNat) i, a) else oBad a
def opNear (a : AS) (m k w : Int) : Int × AS := if isM m ∧ isK k ∧ (w = -1 ∨ w = 1) then (nk (aM a m.toNat) (if w = 1 then ((lo (aM a m.toNat) k).length : Int) else (lo (aM a m.toNat) (k + 1)).length - 1), a) else oBad a
def opWithin (a : AS) (m x y : Int) : Int × AS := if isM m ∧ isRg x y then (((lo (aM a m.toNat) (y + 1)).length : Int) - (lo (aM a m.toNat) x).length, a) else oBad a
def opSum (a : AS) (m x y : Int) : Int × AS := if isM m ∧ isRg x y then (sumv (lo (aM a m.toNat) (y + 1)) - sumv (lo (aM a m.toNat) x), a) else oBad a
def opMiddle (a : AS) (m x y : Int) : Int × AS := if isM m ∧ isRg x y then (if ((lo (aM a m.toNat) (y + 1)).length : Int) - (lo (aM a m.toNat) x).length = 0 then -2000000001 else nk (aM a m.toNat) ((lo (aM a m.toNat) x).length + (((lo (aM a m.toNat) (y + 1)).length : Int) - (lo (aM a m.toNat) x).length - 1) / 2), a) else oBad a
def opCut (a : AS) (m k t : Int) : Int × AS := if isM m ∧ isK k ∧ isM t ∧ m ≠ t then (((hi (aM a m.toNat) (k - 1)).length : Int), ((fun i => if i = t.toNat then hi (aM a m.toNat) (k - 1) else if i = m.toNat then lo (aM a m.toNat) k else a.1 i), (aKeep a).2)) else oBad a
def opGlue (a : AS) (x y : Int) : Int × AS := if isM x ∧ isM y ∧ x ≠ y then (if 0 < (aM a x.toNat).length ∧ 0 < (aM a y.toNat).length ∧ ¬ nk (aM a x.toNat) ((aM a x.toNat).length - 1) < nk (aM a y.toNat) 0 then oNo a else if (aM a x.toNat).length + (aM a y.toNat).length ≤ 200 then (((aM a x.toNat).length : Int) + (aM a y.toNat).length, ((fun i => if i = y.toNat then [] else if i = x.toNat then aM a x.toNat ++ aM a y.toNat else a.1 i), (aKeep a).2)) else oFull a) else oBad a
def opShare (a : AS) (m t : Int) : Int × AS := if isM m ∧ isM t then (((aM a m.toNat).length : Int), aSet a t.toNat (aM a m.toNat)) else oBad a
def opClears (a : AS) (m x y : Int) : Int × AS := if isM m ∧ isRg x y then (((lo (aM a m.toNat) (y + 1)).length : Int) - (lo (aM a m.toNat) x).length, aSet a m.toNat (del (aM a m.toNat) x y)) else oBad a
def opSound (a : AS) (m : Int) : Int × AS := if isM m then (1, a) else oBad a
def opMixer (a : AS) (k : Int) : Int × AS := if isM k then (aX a, (a.1, a.2.1, a.2.2.1, k, a.2.2.2.2)) else oBad a
def opType (a : AS) (c : Int) : Int × AS := if 0 ≤ c ∧ c ≤ 127 then (if (aT a).length < 120 then (((aT a).length : Int) + 1, (a.1, a.2.1, a.2.2.1, a.2.2.2.1, aT a ++ [c])) else oFull a) else oBad a
def opClear (a : AS) : Int × AS := ((aT a).length, (a.1, a.2.1, a.2.2.1, a.2.2.2.1, []))
def opBack (a : AS) : Int × AS := match aP a with
  | [] => oNo a
  | M :: rest => ((rest.length : Int), (M, rest, a.2.2))
theorem o1 {A : Prop} (c : (1 : Int) = 0) : A := absurd c (by decide)
theorem o0 {A : Prop} (c : ¬ (0 : Int) = 0) : A := absurd rfl c
section
variable {Z tp n : Nat} {rb : Int} {σ : SS} {P : Nat → Prop} {a : AS}
theorem CI.rbu {rb' : Int} (h : CI Z rb σ P a) (hr : rb ≤ rb') : CI Z rb' σ P a := ⟨h.1, h.2.1, h.2.2.1, h.2.2.2.1, h.2.2.2.2.1, h.2.2.2.2.2.1, h.2.2.2.2.2.2.1, h.2.2.2.2.2.2.2.1, h.2.2.2.2.2.2.2.2.1, by have := h.2.2.2.2.2.2.2.2.2; omega⟩
theorem CI.mp (h : CI Z rb σ P a) {m : Int} (hm : isM m) : TT σ P (sf σ 3 m.toNat) (aM a m.toNat) := h.2.1 m.toNat (by omega)
theorem AW.mp (h : AW n a) {m : Int} (hm : isM m) : Gd (aM a m.toNat) := h.1 m.toNat (by omega)
theorem sp_isMap {Q : Int → SS → Prop} {m : Int} (h1 : isM m → Q 1 σ) (h0 : ¬ isM m → Q 0 σ) : wX8_isMap m σ Q := sp_isIn h1 h0
theorem sp_isKey {Q : Int → SS → Prop} {m : Int} (h1 : isK m → Q 1 σ) (h0 : ¬ isK m → Q 0 σ) : wX8_isKey m σ Q := sp_isIn h1 h0
theorem sp_isValue {Q : Int → SS → Prop} {m : Int} (h1 : isV m → Q 1 σ) (h0 : ¬ isV m → Q 0 σ) : wX8_isValue m σ Q := sp_isIn h1 h0
theorem sp_isRange {Q : Int → SS → Prop} {x y : Int} (h1 : isRg x y → Q 1 σ) (h0 : ¬ isRg x y → Q 0 σ) : wX8_isRange x y σ Q :=
  sp_isKey (fun k1 => ⟨o1, fun _ => sp_isKey (fun k2 => ⟨o1, fun _ => ⟨fun c => h0 (fun q => by have := q.2.2; omega), fun c => h1 ⟨k1, k2, by omega⟩⟩⟩) (fun k2 => ⟨fun _ => h0 (fun q => k2 q.2.1), o0⟩)⟩) (fun k1 => ⟨fun _ => h0 (fun q => k1 q.1), o0⟩)
/-- what every call of the class is to do -/
abbrev Dn (Z : Nat) (rb : Int) (σ : SS) (Q : Int → SS → Prop) (r : Int × AS) : Prop := ∀ σ' P', CI Z (rb + 200) σ' P' r.2 → Fr σ σ' → Q r.1 σ'
theorem dn_bad {Q : Int → SS → Prop} (h : CI Z rb σ P a) (hw : AW n a) (hn : n ≤ 1000000) (hq : Dn Z rb σ Q (oBad a)) : wX8_bad σ Q := sp_bad h hw hn (fun σ' c f => hq σ' P (c.rbu (by omega)) f)
theorem dn_no {Q : Int → SS → Prop} (h : CI Z rb σ P a) (hw : AW n a) (hn : n ≤ 1000000) (hq : Dn Z rb σ Q (oNo a)) : wX8_no σ Q := sp_no h hw hn (fun σ' c f => hq σ' P (c.rbu (by omega)) f)
theorem dn_full {Q : Int → SS → Prop} (h : CI Z rb σ P a) (hw : AW n a) (hn : n ≤ 1000000) (hq : Dn Z rb σ Q (oFull a)) : wX8_full σ Q := sp_full h hw hn (fun σ' c f => hq σ' P (c.rbu (by omega)) f)
theorem dn_same {Q : Int → SS → Prop} {r : Int} (h : CI Z rb σ P a) (hq : Dn Z rb σ Q (r, a)) : Q r σ := hq σ P (h.rbu (by omega)) (Fr.rf σ)
theorem cs_get {Q : Int → SS → Prop} {m k : Int} (h : CI Z rb σ P a) (hw : AW n a) (hn : n ≤ 1000000) (hq : Dn Z rb σ Q (opGet a m k)) : wX8_get m k σ Q := by
  unfold opGet at hq
  refine sp_isMap (fun hm => ⟨o1, fun _ => sp_isKey (fun hk => ⟨fun _ => ⟨by omega, by omega, ?_⟩, o1⟩) (fun hk => ⟨o0, fun _ => ?_⟩)⟩) (fun hm => ⟨fun _ => ?_, o0⟩)
  · rw [if_pos ⟨hm, hk⟩] at hq
    obtain ⟨d, ht⟩ := h.mp hm
    refine sp_find ht (hw.mp hm).1 (fun e => ⟨fun _ => ?_, fun b e2 => by cases e2⟩) (fun b v e hP h0 h1 => ⟨fun e2 => (by cases e2), fun b' e2 => ?_⟩)
    · rw [e] at hq; exact dn_same h hq
    · cases e2
      rw [e] at hq
      rw [h1]; exact dn_same h hq
  · rw [if_neg (fun q => hk q.2)] at hq; exact dn_bad h hw hn hq
  · rw [if_neg (fun q => hm q.1)] at hq; exact dn_bad h hw hn hq
theorem cs_size {Q : Int → SS → Prop} {m : Int} (h : CI Z rb σ P a) (hw : AW n a) (hn : n ≤ 1000000) (hq : Dn Z rb σ Q (opSize a m)) : wX8_size m σ Q := by
  unfold opSize at hq
  refine sp_isMap (fun hm => ⟨o1, fun _ => ⟨by omega, by omega, ?_⟩⟩) (fun hm => ⟨fun _ => ?_, o0⟩)
  · rw [if_pos hm] at hq
    obtain ⟨d, ht⟩ := h.mp hm
    exact sp_countOf ht (dn_same h hq)
  · rw [if_neg hm] at hq; exact dn_bad h hw hn hq
theorem cs_rank {Q : Int → SS → Prop} {m k : Int} (h : CI Z rb σ P a) (hw : AW n a) (hn : n ≤ 1000000) (hq : Dn Z rb σ Q (opRank a m k)) : wX8_rank m k σ Q := by
  unfold opRank at hq
  refine sp_isMap (fun hm => ⟨o1, fun _ => sp_isIn (fun hk => ⟨fun _ => ⟨by omega, by omega, ?_⟩, o1⟩) (fun hk => ⟨o0, fun _ => ?_⟩)⟩) (fun hm => ⟨fun _ => ?_, o0⟩)
  · rw [if_pos ⟨hm, hk⟩] at hq
    obtain ⟨d, ht⟩ := h.mp hm
    have hg := hw.mp hm
    exact sp_countBelow ht hg.1 (by have := hg.2.2.2; omega) (dn_same h hq)
  · rw [if_neg (fun q => hk q.2)] at hq; exact dn_bad h hw hn hq
  · rw [if_neg (fun q => hm q.1)] at hq; exact dn_bad h hw hn hq
theorem cs_nth {Q : Int → SS → Prop} {m i : Int} (hi : R32 i) (h : CI Z rb σ P a) (hw : AW n a) (hn : n ≤ 1000000) (hq : Dn Z rb σ Q (opNth a m i)) : wX8_nth m i σ Q := by
  unfold opNth at hq
  refine sp_isMap (fun hm => ⟨o1, fun _ => ⟨fun c => ⟨by omega, by omega, ?_⟩, fun c => ?_⟩⟩) (fun hm => ⟨fun _ => ?_, o0⟩)
  · rw [if_pos ⟨hm, c⟩] at hq
    obtain ⟨d, ht⟩ := h.mp hm
    have hg := hw.mp hm
    exact sp_keyAt ht (by have := hg.2.2.2; omega) hi (by omega) (dn_same h hq)
  · rw [if_neg (fun q => c q.2)] at hq; exact dn_bad h hw hn hq
  · rw [if_neg (fun q => hm q.1)] at hq; exact dn_bad h hw hn hq
theorem cs_near {Q : Int → SS → Prop} {m k w : Int} (h : CI Z rb σ P a) (hw : AW n a) (hn : n ≤ 1000000) (hq : Dn Z rb σ Q (opNear a m k w)) : wX8_near m k w σ Q := by
  unfold opNear at hq
  refine sp_isMap (fun hm => ⟨o1, fun _ => sp_isKey (fun hk => ⟨o1, fun _ => ?_⟩) (fun hk => ⟨fun _ => ?_, o0⟩)⟩) (fun hm => ⟨fun _ => ?_, o0⟩)
  · obtain ⟨d, ht⟩ := h.mp hm
    have hg := hw.mp hm
    have hl := hg.2.2.2
    have go : (w = -1 ∨ w = 1) → wX8_near_L29 m k w Q σ := by
      intro hw1
      rw [if_pos ⟨hm, hk, hw1⟩] at hq
      unfold wX8_near_L29
      refine ⟨fun c => ⟨by omega, by omega, ⟨by omega, by omega⟩, ?_⟩, fun c => ⟨by omega, by omega, ?_⟩⟩
      · rw [if_neg c] at hq
        have h1 := lo_len (aM a m.toNat) (k + 1)
        exact sp_countBelow ht hg.1 (by omega) ⟨by omega, by omega, ⟨by omega, by omega⟩, sp_keyAt ht (by omega) ⟨by omega, by omega⟩ (by omega) (dn_same h hq)⟩
      · rw [if_pos c] at hq
        have h1 := lo_len (aM a m.toNat) k
        exact sp_countBelow ht hg.1 (by omega) ⟨by omega, by omega, sp_keyAt ht (by omega) ⟨by omega, by omega⟩ (by omega) (dn_same h hq)⟩
    refine ⟨fun c => go (Or.inl c), fun c => ⟨fun c2 => go (Or.inr c2), fun c2 => ?_⟩⟩
    rw [if_neg (fun q => by have := q.2.2; omega)] at hq; exact dn_bad h hw hn hq
  · rw [if_neg (fun q => hk q.2.1)] at hq; exact dn_bad h hw hn hq
  · rw [if_neg (fun q => hm q.1)] at hq; exact dn_bad h hw hn hq
theorem cs_within {Q : Int → SS → Prop} {m x y : Int} (h : CI Z rb σ P a) (hw : AW n a) (hn : n ≤ 1000000) (hq : Dn Z rb σ Q (opWithin a m x y)) : wX8_within m x y σ Q := by
  unfold opWithin at hq
  refine sp_isMap (fun hm => ⟨o1, fun _ => sp_isRange (fun hk => ⟨o1, fun _ => ⟨by omega, by omega, ?_⟩⟩) (fun hk => ⟨fun _ => ?_, o0⟩)⟩) (fun hm => ⟨fun _ => ?_, o0⟩)
  · rw [if_pos ⟨hm, hk⟩] at hq
    obtain ⟨d, ht⟩ := h.mp hm
    have hg := hw.mp hm
    exact sp_countWithin ht hg.1 (by have := hg.2.2.2; omega) (by have := hk.2.1; omega) (by have := hk.2.1; omega) (dn_same h hq)
  · rw [if_neg (fun q => hk q.2)] at hq; exact dn_bad h hw hn hq
  · rw [if_neg (fun q => hm q.1)] at hq; exact dn_bad h hw hn hq
theorem cs_sum {Q : Int → SS → Prop} {m x y : Int} (h : CI Z rb σ P a) (hw : AW n a) (hn : n ≤ 1000000) (hq : Dn Z rb σ Q (opSum a m x y)) : wX8_sum m x y σ Q := by
  unfold opSum at hq
  refine sp_isMap (fun hm => ⟨o1, fun _ => sp_isRange (fun hk => ⟨fun _ => ⟨by omega, by omega, ⟨by have := hk.2.1; omega, by have := hk.2.1; omega⟩, ?_⟩, o1⟩) (fun hk => ⟨o0, fun _ => ?_⟩)⟩) (fun hm => ⟨fun _ => ?_, o0⟩)
  · rw [if_pos ⟨hm, hk⟩] at hq
    obtain ⟨d, ht⟩ := h.mp hm
    have hg := hw.mp hm
    exact sp_sumBelow ht hg.1 ⟨by omega, by omega, sp_sumBelow ht hg.1 (dn_same h hq)⟩
  · rw [if_neg (fun q => hk q.2)] at hq; exact dn_bad h hw hn hq
  · rw [if_neg (fun q => hm q.1)] at hq; exact dn_bad h hw hn hq
theorem lo_mono {l : List KV} {x y : Int} (h : x ≤ y) : (lo l x).length ≤ (lo l y).length := by
  induction l with
  | nil => simp [lo]
  | cons p l ih =>
    unfold lo at *
    rw [List.filter_cons, List.filter_cons]
    by_cases c : p.1 < x
    · have c2 : p.1 < y := by omega
      simp [c, c2]; exact ih
    · by_cases c2 : p.1 < y
      · simp [c, c2]; omega
      · simp [c, c2]; exact ih
theorem cs_middle {Q : Int → SS → Prop} {m x y : Int} (h : CI Z rb σ P a) (hw : AW n a) (hn : n ≤ 1000000) (hq : Dn Z rb σ Q (opMiddle a m x y)) : wX8_middle m x y σ Q := by
  unfold opMiddle at hq
  refine sp_isMap (fun hm => ⟨o1, fun _ => sp_isRange (fun hk => ⟨fun _ => ⟨by omega, by omega, ?_⟩, o1⟩) (fun hk => ⟨o0, fun _ => ?_⟩)⟩) (fun hm => ⟨fun _ => ?_, o0⟩)
  · rw [if_pos ⟨hm, hk⟩] at hq
    obtain ⟨d, ht⟩ := h.mp hm
    have hg := hw.mp hm
    have hl := hg.2.2.2
    have h1 := lo_len (aM a m.toNat) (y + 1)
    have h2 := lo_mono (l := aM a m.toNat) (show x ≤ y + 1 by have := hk.2.2; omega)
    refine sp_countWithin ht hg.1 (by omega) (by have := hk.2.1; omega) (by have := hk.2.1; omega) ⟨fun c => ⟨by omega, by omega, by omega, by omega, ?_⟩, fun c => ?_⟩
    · rw [if_neg c] at hq
      refine sp_countBelow ht hg.1 (by omega) ⟨⟨by omega, by omega⟩, ?_⟩
      rw [Int.tdiv_eq_ediv_of_nonneg (by omega)]
      exact ⟨⟨by omega, by omega⟩, sp_keyAt ht (by omega) ⟨by omega, by omega⟩ (by omega) (dn_same h hq)⟩
    · rw [if_pos c] at hq; exact dn_same h hq
  · rw [if_neg (fun q => hk q.2)] at hq; exact dn_bad h hw hn hq
  · rw [if_neg (fun q => hm q.1)] at hq; exact dn_bad h hw hn hq
theorem cs_sound {Q : Int → SS → Prop} {m : Int} (h : CI Z rb σ P a) (hw : AW n a) (hn : n ≤ 1000000) (hq : Dn Z rb σ Q (opSound a m)) : wX8_sound m σ Q := by
  unfold opSound at hq
  refine sp_isMap (fun hm => ?_) (fun hm => ?_)
  · rw [if_pos hm] at hq
    have hg := hw.mp hm
    exact ⟨fun _ => ⟨by omega, by omega, sp_isWell 15 (T_15 (h.mp hm) hg.2.2.2) hg.1 hg.2.2.1 (by have := hg.2.2.2; omega) (fun p hp => by have := hg.2.1 p hp; omega) (by omega) (by omega) (by omega) ⟨o1, fun _ => dn_same h hq⟩⟩, o1⟩
  · rw [if_neg hm] at hq
    first
      | exact ⟨fun _ => dn_bad h hw hn hq, o0⟩
      | exact ⟨o0, fun _ => dn_bad h hw hn hq⟩
end
