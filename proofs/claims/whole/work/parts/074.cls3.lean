/-- all entries of all maps -/
def cnt6 (a : AS) : Nat → Int
  | 0 => 0
  | m + 1 => cnt6 a m + (aM a m).length
def tld (a : AS) (w : Int) : Int := if w = 0 then aR a 0 else if w = 1 then aR a 1 else if w = 2 then aR a 2 else if w = 3 then (aP a).length else if w = 4 then (aT a).length else if w = 5 then aX a else cnt6 a 6
def opTold (a : AS) (w : Int) : Int × AS := if 0 ≤ w ∧ w ≤ 6 then (tld a w, a) else oBad a
/-- the digest's steps -/
def dgT (a : AS) : Nat → Int
  | 0 => 1889
  | k + 1 => 31 * dgT a k + tld a k
def dgL (h : Int) : List KV → Int
  | [] => h
  | p :: l => dgL (31 * (31 * h + p.1) + p.2) l
def dgM (a : AS) : Nat → Int
  | 0 => dgT a 7
  | m + 1 => dgL (31 * dgM a m + (aM a m).length) (aM a m)
def opDigest (a : AS) : Int × AS := (dgM a 6, a)
/-- mixes -/
def mixL (s mk : Int) (la lb l : List KV) : Prop := Srt l ∧ ∀ k, lk l k = jn s mk (lk la k) (lk lb k)
section
variable {Z tp n : Nat} {rb : Int} {σ : SS} {P : Nat → Prop} {a : AS}
theorem cs_mixer {Q : Int → SS → Prop} {k : Int} (h : CI Z rb σ P a) (hw : AW n a) (hn : n ≤ 1000000) (hq : Dn Z rb σ Q (opMixer a k)) : wX8_mixer k σ Q := by
  unfold opMixer at hq
  refine sp_isIn (fun hk => ⟨fun _ => ?_, o1⟩) (fun hk => ⟨o0, fun _ => ?_⟩)
  · rw [if_pos hk] at hq
    have hx := h.2.2.2.2.2.2.2.1
    rw [hx]
    have sm : Sm [2] σ (un σ 2 1 k) := Sm.un (by simp)
    have h64 : ∀ i ∈ [2], i < 64 := fun i hi => by simp at hi; omega
    obtain ⟨c1, c2, ⟨nx, v1, v2, v3, v4, v5⟩, c4, c5, c6, c7, c8, c9, c10⟩ := h
    refine hq _ P ⟨sm.GI (fun i q => by simp at q; omega) c1, fun i hi => sm.TT h64 (c2 i hi), ⟨nx, v1, v2, v3, fun j M hM m hm => sm.TT h64 (v4 j M hM m hm), v5⟩, fun i q => ?_, fun i q => ?_, c6, c7, ?_, c9, ?_⟩ (Fr.sm sm (fun i hi => by simp at hi; omega))
    · obtain ⟨l, t, hl⟩ := c4 i q
      exact ⟨l, sm.TT h64 t, hl⟩
    · obtain ⟨l, t, hl⟩ := c5 i q
      exact ⟨l, sm.TT h64 t, hl⟩
    · rw [sn_un_same]; rfl
    · rw [sn_un_i _ _ (by omega)]; omega
  · rw [if_neg hk] at hq; exact dn_bad h hw hn hq
theorem cs_type {Q : Int → SS → Prop} {c : Int} (h : CI Z rb σ P a) (hw : AW n a) (hn : n ≤ 1000000) (hq : Dn Z rb σ Q (opType a c)) : wX8_type c σ Q := by
  unfold opType at hq
  have ht := h.2.2.2.2.2.1
  refine sp_isIn (fun hk => ⟨fun _ => ?_, o1⟩) (fun hk => ⟨o0, fun _ => ?_⟩)
  · rw [if_pos hk] at hq
    rw [ht]
    refine ⟨fun q => ?_, fun q => ?_⟩
    · rw [if_pos (by omega)] at hq
      rw [Int.toNat_natCast]
      have e1 : sn (un σ 6 (aT a).length c) 0 10 = (aT a).length := by rw [sn_un_i _ _ (by omega)]; exact ht
      rw [e1]
      refine ⟨hk, by omega, q, ⟨by omega, by omega⟩, ?_⟩
      rw [sn_un_same]
      have sm : Sm [0, 6] σ (un (un σ 6 (aT a).length c) 0 10 (((aT a).length : Int) + 1)) := (Sm.un (by simp)).tr (Sm.un (by simp))
      have h64 : ∀ i ∈ [0, 6], i < 64 := fun i hi => by simp at hi; omega
      obtain ⟨c1, c2, ⟨nx, v1, v2, v3, v4, v5⟩, c4, c5, c6, c7, c8, c9, c10⟩ := h
      refine hq _ P ⟨sm.GI (fun i q => by simp at q; omega) c1, fun i hi => sm.TT h64 (c2 i hi), ⟨nx, v1, ?_, ?_, fun j M hM m hm => sm.TT h64 (v4 j M hM m hm), v5⟩, fun i q => ?_, fun i q => ?_, ?_, fun j hj => ?_, ?_, fun i x q => ?_, ?_⟩ (Fr.sm sm (fun i hi => by simp at hi; omega))
      · rw [sn_un_i _ _ (by omega), sn_un_i _ _ (by omega)]; exact v2
      · rw [sn_un_i _ _ (by omega), sn_un_i _ _ (by omega)]; exact v3
      · obtain ⟨l, t, hl⟩ := c4 i q
        exact ⟨l, sm.TT h64 t, hl⟩
      · obtain ⟨l, t, hl⟩ := c5 i q
        exact ⟨l, sm.TT h64 t, hl⟩
      · rw [sn_un_same]
        show _ = (((aT a ++ [c]).length : Nat) : Int)
        rw [List.length_append]; simp
      · rw [sn_un_k _ _ (by omega), sn_un_i _ _ (by omega)]; exact c7 j hj
      · rw [sn_un_i _ _ (by omega), sn_un_i _ _ (by omega)]; exact c8
      · have q' : (aT a ++ [c])[i]? = some x := q
        rw [sn_un_i _ _ (by omega)]
        by_cases hi : i < (aT a).length
        · rw [List.getElem?_append_left hi] at q'
          rw [sn_un_k _ _ (by omega)]; exact c9 i x q'
        · rw [List.getElem?_append_right (by omega)] at q'
          have : i - (aT a).length < 1 := (List.getElem?_eq_some_iff.mp q').1
          have e2 : i = (aT a).length := by omega
          subst e2
          simp at q'
          rw [sn_un_same]; exact q'
      · rw [sn_un_i _ _ (by omega), sn_un_i _ _ (by omega)]; omega
    · rw [if_neg (by omega)] at hq; exact dn_full h hw hn hq
  · rw [if_neg hk] at hq; exact dn_bad h hw hn hq
theorem cs_clear {Q : Int → SS → Prop} (h : CI Z rb σ P a) (hq : Dn Z rb σ Q (opClear a)) : wX8_clear σ Q := by
  unfold wX8_clear
  have ht := h.2.2.2.2.2.1
  rw [ht]
  have sm : Sm [0] σ (un σ 0 10 0) := Sm.un (by simp)
  have h64 : ∀ i ∈ [0], i < 64 := fun i hi => by simp at hi; omega
  obtain ⟨c1, c2, ⟨nx, v1, v2, v3, v4, v5⟩, c4, c5, c6, c7, c8, c9, c10⟩ := h
  refine hq _ P ⟨sm.GI (fun i q => by simp at q; omega) c1, fun i hi => sm.TT h64 (c2 i hi), ⟨nx, v1, v2, v3, fun j M hM m hm => sm.TT h64 (v4 j M hM m hm), v5⟩, fun i q => ?_, fun i q => ?_, ?_, fun j hj => ?_, c8, fun i x q => ?_, ?_⟩ (Fr.sm sm (fun i hi => by simp at hi; omega))
  · obtain ⟨l, t, hl⟩ := c4 i q
    exact ⟨l, sm.TT h64 t, hl⟩
  · obtain ⟨l, t, hl⟩ := c5 i q
    exact ⟨l, sm.TT h64 t, hl⟩
  · rw [sn_un_same]; rfl
  · rw [sn_un_k _ _ (by omega)]; exact c7 j hj
  · have : ([] : List Int)[i]? = some x := q
    simp at this
  · rw [sn_un_i _ _ (by omega)]; omega
theorem sp_entries_L {Q : Int → SS → Prop} (h : CI Z rb σ P a) (hw : AW n a) (hq : Q (cnt6 a 6) σ) : ∀ (f : Nat) {m : Nat}, m + f = 6 → 0 ≤ cnt6 a m → cnt6 a m ≤ 200 * m → wX8_entriesOfAll_L4 Q (f + 1) (cnt6 a m) (m : Int) σ := by
  intro f
  induction f with
  | zero =>
    intro m hm h0 h1
    have : m = 6 := by omega
    subst this
    rw [wX8_entriesOfAll_L4]
    exact ⟨⟨by omega, by omega⟩, fun _ => ⟨⟨by omega, by omega⟩, hq⟩, fun c => by omega⟩
  | succ f ih =>
    intro m hm h0 h1
    rw [wX8_entriesOfAll_L4, Int.toNat_natCast]
    refine ⟨⟨by omega, by omega⟩, fun c => by omega, fun _ => ⟨by omega, by omega, ?_⟩⟩
    obtain ⟨d, ht⟩ := h.2.1 m (by omega)
    have hl := (hw.1 m (by omega)).2.2.2
    refine sp_countOf ht ?_
    have e : ((m : Int) + 1) = ((m + 1 : Nat) : Int) := by omega
    rw [e]
    exact ih (m := m + 1) (by omega) (by rw [cnt6]; omega) (by rw [cnt6]; omega)
theorem sp_told {Q : Int → SS → Prop} {w : Int} (hw0 : 0 ≤ w ∧ w ≤ 6) (h : CI Z rb σ P a) (hw : AW n a) (hq : Q (tld a w) σ) : wX8_told w σ Q := by
  unfold tld at hq
  have h7 := h.2.2.2.2.2.2.1
  have hc : sn σ 4 1 = (aP a).length := h.2.2.1.elim fun nx q => q.2.2.1
  refine ⟨fun c => by omega, fun c => ?_, fun c => ?_, fun c => ?_, fun c => ?_, fun c => ?_, fun c => ?_, fun c => ?_⟩
  · rw [if_pos c] at hq; rw [show sn σ 0 11 = aR a 0 from h7 0 (by omega)]; exact hq
  · rw [if_neg (by omega), if_pos c] at hq; rw [show sn σ 0 12 = aR a 1 from h7 1 (by omega)]; exact hq
  · rw [if_neg (by omega), if_neg (by omega), if_pos c] at hq; rw [show sn σ 0 13 = aR a 2 from h7 2 (by omega)]; exact hq
  · rw [if_neg (by omega), if_neg (by omega), if_neg (by omega), if_pos c] at hq; rw [hc]; exact hq
  · rw [if_neg (by omega), if_neg (by omega), if_neg (by omega), if_neg (by omega), if_pos c] at hq; rw [h.2.2.2.2.2.1]; exact hq
  · rw [if_neg (by omega), if_neg (by omega), if_neg (by omega), if_neg (by omega), if_neg (by omega), if_pos c] at hq; rw [h.2.2.2.2.2.2.2.1]; exact hq
  · rw [if_neg (by omega), if_neg (by omega), if_neg (by omega), if_neg (by omega), if_neg (by omega), if_neg (by omega)] at hq
    exact ⟨7, sp_entries_L h hw hq 6 (m := 0) rfl (by simp [cnt6]) (by simp [cnt6])⟩
theorem cs_told {Q : Int → SS → Prop} {w : Int} (h : CI Z rb σ P a) (hw : AW n a) (hn : n ≤ 1000000) (hq : Dn Z rb σ Q (opTold a w)) : wX8_told w σ Q := by
  unfold opTold at hq
  by_cases c : 0 ≤ w ∧ w ≤ 6
  · rw [if_pos c] at hq
    exact sp_told c h hw (dn_same h hq)
  · rw [if_neg c] at hq
    exact ⟨fun _ => dn_bad h hw hn hq, fun q => by omega, fun q => by omega, fun q => by omega, fun q => by omega, fun q => by omega, fun q => by omega, fun q => by omega⟩
theorem sp_dg70 {Q : Int → SS → Prop} {K : Int → Int → SS → Prop} {l : List KV} {m : Int} : ∀ (rest : List KV) {i : Nat} {hh : Int} {σ : SS}, RowIs σ 15 l → l.drop i = rest → i ≤ l.length → K (dgL hh rest) (m + 1) σ → wX8_digest_L70 Q K (rest.length + 1) hh m (i : Int) σ := by
  intro rest
  induction rest with
  | nil =>
    intro i hh σ hr hd hi hq
    have hlen := congrArg List.length hd
    rw [List.length_drop] at hlen
    have h1 := hr.1
    have h2 := hr.2.1
    simp at hlen
    rw [wX8_digest_L70, h1]
    exact ⟨⟨by omega, by omega⟩, fun _ => hq, fun c => by omega⟩
  | cons p rest ih =>
    intro i hh σ hr hd hi hq
    have hlen := congrArg List.length hd
    rw [List.length_drop, List.length_cons] at hlen
    have h1 := hr.1
    have h2 := hr.2.1
    have hp : l[i]? = some p := by
      have := congrArg (fun x => x[0]?) hd
      simpa using this
    rw [List.length_cons, wX8_digest_L70, h1]
    refine ⟨⟨by omega, by omega⟩, fun c => by omega, fun _ => sp_rkeyAt hr (sp_rvalueAt hr ?_)⟩
    rw [nk_at hp, nv_at hp]
    have e : ((i : Int) + 1) = ((i + 1 : Nat) : Int) := by omega
    rw [e]
    refine ih hr ?_ (by omega) hq
    rw [← List.drop_drop, hd]; rfl
theorem sp_dg33 {Q : Int → SS → Prop} : ∀ (f : Nat) {m : Nat} {σ : SS}, m + f = 6 → CI Z rb σ P a → AW n a → (∀ σ', CI Z rb σ' P a → Fr σ σ' → Q (dgM a 6) σ') → wX8_digest_L33 Q (f + 1) (dgM a m) (m : Int) σ := by
  intro f
  induction f with
  | zero =>
    intro m σ hm h hw hq
    have : m = 6 := by omega
    subst this
    rw [wX8_digest_L33]
    exact ⟨⟨by omega, by omega⟩, fun _ => hq σ h (Fr.rf σ), fun c => by omega⟩
  | succ f ih =>
    intro m σ hm h hw hq
    rw [wX8_digest_L33, Int.toNat_natCast]
    refine ⟨⟨by omega, by omega⟩, fun c => by omega, fun _ => ⟨by omega, by omega, ?_⟩⟩
    have hl := (hw.1 m (by omega)).2.2.2
    refine sp_take (Or.inl rfl) (h.2.1 m (by omega)) hl (fun σ1 s1 r1 => ⟨(aM a m).length + 1, ?_⟩)
    rw [r1.1]
    have c1 := h.sm s1 (fun i hi => by simp at hi; omega)
    have f1 : Fr σ σ1 := Fr.sm s1 (fun i hi => by simp at hi; omega)
    refine sp_dg70 (aM a m) (i := 0) r1 rfl (by omega) ?_
    have e : ((m : Int) + 1) = ((m + 1 : Nat) : Int) := by omega
    rw [e]
    exact ih (m := m + 1) (by omega) c1 hw (fun σ' c f => hq σ' c (f1.tr f))
theorem sp_dg6 {Q : Int → SS → Prop} (h : CI Z rb σ P a) (hw : AW n a) (hq : ∀ σ', CI Z rb σ' P a → Fr σ σ' → Q (dgM a 6) σ') : ∀ (f : Nat) {k : Nat}, k + f = 7 → wX8_digest_L6 Q (f + 1) (dgT a k) (k : Int) σ := by
  intro f
  induction f with
  | zero =>
    intro k hk
    have : k = 7 := by omega
    subst this
    rw [wX8_digest_L6]
    exact ⟨⟨by omega, by omega⟩, fun _ => ⟨7, sp_dg33 6 (m := 0) rfl h hw hq⟩, fun c => by omega⟩
  | succ f ih =>
    intro k hk
    rw [wX8_digest_L6]
    refine ⟨⟨by omega, by omega⟩, fun c => by omega, fun _ => sp_told ⟨by omega, by omega⟩ h hw ?_⟩
    have e : ((k : Int) + 1) = ((k + 1 : Nat) : Int) := by omega
    rw [e]
    exact ih (k := k + 1) (by omega)
theorem cs_digest {Q : Int → SS → Prop} (h : CI Z rb σ P a) (hw : AW n a) (hq : Dn Z rb σ Q (opDigest a)) : wX8_digest σ Q :=
  ⟨8, sp_dg6 h hw (fun σ' c f => hq σ' P (c.rbu (by omega)) f) 7 (k := 0) rfl⟩
/-- mix: what it becomes is said by its lookups -/
theorem cs_mix {Q : Int → SS → Prop} {s x y t : Int} (hB : BT Z tp 500000) (hrb : rb ≤ 2000000000) (h : CI Z rb σ P a) (hw : AW n a) (hn : n ≤ 1000000)
    (hbad : ¬ ((0 ≤ s ∧ s ≤ 3) ∧ isM x ∧ isM y ∧ isM t) → Dn Z rb σ Q (oBad a)) (hfull : ∀ l, isM x → isM y → mixL s (aX a) (aM a x.toNat) (aM a y.toNat) l → 200 < l.length → Dn Z rb σ Q (oFull a)) (hok : ∀ l, isM x → isM y → mixL s (aX a) (aM a x.toNat) (aM a y.toNat) l → l.length ≤ 200 → Dn Z rb σ Q ((l.length : Int), aSet a t.toNat l)) : wX8_mix tp s x y t σ Q := by
  refine sp_isIn (fun hs => ⟨o1, fun _ => sp_isMap (fun hx => ⟨o1, fun _ => sp_isMap (fun hy => ⟨o1, fun _ => sp_isMap (fun htt => ⟨fun _ => ?_, o1⟩) (fun ht => ⟨o0, fun _ => dn_bad h hw hn (hbad (fun q => ht q.2.2.2))⟩)⟩) (fun hy => ⟨fun _ => dn_bad h hw hn (hbad (fun q => hy q.2.2.1)), o0⟩)⟩) (fun hx => ⟨fun _ => dn_bad h hw hn (hbad (fun q => hx q.2.1)), o0⟩)⟩) (fun hs => ⟨fun _ => dn_bad h hw hn (hbad (fun q => hs q.1)), o0⟩)
  have gx := hw.mp hx
  have gy := hw.mp hy
  refine sp_start h hw (by omega) (fun σ1 P1 c1 t1 f1 g1 => ⟨by omega, by omega, by omega, by omega, ?_⟩)
  have lx := gx.2.2.2
  refine sp_blend (mk := aX a) hB hs 15 (T_15 (c1.mp hx) gx.2.2.2) (c1.mp hy) gx.1 gy.1 gx.2.2.2 gy.2.2.2 gx.2.2.1 gy.2.2.1 (by omega) (by omega) (by omega) c1.1 (by omega) c1.2.2.2.2.2.2.2.1 (fun r σ2 P2 l' g2 e2 t2 s2 k2 v2 n2 => ?_)
  have c2 := c1.ext e2 g2
  have f2 := f1.tr (Fr.ext e2)
  obtain ⟨d2, t2'⟩ := id t2
  refine sp_countOf t2' ⟨fun c => ?_, fun c => ?_⟩
  · rw [show t = ((t.toNat : Nat) : Int) by omega]
    exact sp_settle (by omega) c2 hw t2 (fun σ3 c3 f3 => hok l' hx hy ⟨s2, k2⟩ (by omega) σ3 P2 (c3.rbu (by omega)) (f2.tr f3))
  · exact sp_full c2 hw hn (fun σ3 c3 f3 => hfull l' hx hy ⟨s2, k2⟩ (by omega) σ3 P2 (c3.rbu (by omega)) (f2.tr f3))
end
