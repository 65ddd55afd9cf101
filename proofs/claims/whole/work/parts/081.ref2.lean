/-! ===== the reference: kept versions, reads ===== -/
section
variable {n : Nat} {σ : SS} {a : AS} {M : Nat → List KV}
theorem keeps_PI {ρ τ : SS} {q : Nat} {P : List (Nat → List KV)} (hq : q < 12) (h4 : sn τ 21 4 = (q : Int) + 1) (h24 : ∀ k, sn τ 24 k = if 1200 * q ≤ k ∧ k < 1200 * q + 1200 then sn σ 22 (k - 1200 * q) else sn ρ 24 k) (h25 : ∀ k, sn τ 25 k = if 6 * q ≤ k ∧ k < 6 * q + 6 then sn σ 23 (k - 6 * q) else sn ρ 25 k)
    (hM : MI σ M) (hg : GM M) (hl : P.length = q) (hP : ∀ (j : Nat) (N : Nat → List KV), P[j]? = some N → GM N ∧ ∀ m, m < 6 → Rg ρ 24 (1200 * (q - 1 - j) + 200 * m) (N m) ∧ sn ρ 25 (6 * (q - 1 - j) + m) = ((N m).length : Int)) : PI τ (M :: P) := by
  refine ⟨by rw [h4, List.length_cons, hl]; omega, by rw [List.length_cons]; omega, fun j N hN m hm => ?_⟩
  rw [List.length_cons, hl]
  cases j with
  | zero =>
    rw [List.getElem?_cons_zero] at hN
    cases hN
    refine ⟨fun i p hp => ?_, ?_⟩
    · have hi := (List.getElem?_eq_some_iff.mp hp).1
      have hll := (hg m hm).2.2.2
      rw [h24, if_pos (by omega), ← (hM m hm).1 i p hp]
      congr 1; omega
    · rw [h25, if_pos (by omega), ← (hM m hm).2]
      congr 1; omega
  | succ j =>
    rw [List.getElem?_cons_succ] at hN
    have hj := (List.getElem?_eq_some_iff.mp hN).1
    obtain ⟨gN, hN2⟩ := hP j N hN
    have e : q + 1 - 1 - (j + 1) = q - 1 - j := by omega
    rw [e]
    refine ⟨fun i p hp => ?_, ?_⟩
    · have hi := (List.getElem?_eq_some_iff.mp hp).1
      have hll := (gN m hm).2.2.2
      rw [h24, if_neg (by omega)]
      exact (hN2 m hm).1 i p hp
    · rw [h25, if_neg (by omega)]
      exact (hN2 m hm).2
theorem sr_keeps {Q : SS → Prop} (h : RI σ a) (hw : AW n a) (hq : ∀ σ', RI σ' (aKeep a) → Sm [21, 24, 25] σ σ' → Q σ') : wX9_keeps σ Q := by
  obtain ⟨hM, hP, hO⟩ := h
  have hg := hw.1
  have hgP := hw.2.2.1
  -- what the last loops leave
  have fin : ∀ (q : Nat) (ρ : SS), q < 12 → sn ρ 21 4 = q → (∀ k, sn ρ 22 k = sn σ 22 k) → (∀ k, sn ρ 23 k = sn σ 23 k) → (∀ k, k ≠ 4 → sn ρ 21 k = sn σ 21 k) → Sm [21, 24, 25] σ ρ → ((aP a).take 11).length = q → (∀ (j : Nat) (N : Nat → List KV), ((aP a).take 11)[j]? = some N → ∀ m, m < 6 → Rg ρ 24 (1200 * (q - 1 - j) + 200 * m) (N m) ∧ sn ρ 25 (6 * (q - 1 - j) + m) = ((N m).length : Int)) → wX9_keeps_L81 Q 1201 0 ρ := by
    intro q ρ hq12 h4 h22 h23 h21 hsm hlen hN
    refine sr_keeps81 hq12 1200 (i := 0) rfl h4 ?_
    generalize hτ : un (wr 25 (6 * q) (sn ρ 23) 6 0 (wr 24 (1200 * q) (sn ρ 22) 1200 0 ρ)) 21 4 ((q : Int) + 1) = τ
    have sm1 : Sm [21, 24, 25] ρ τ := by
      rw [← hτ]
      exact ((wr_sm (x := 24) (by simp) _ _ _).tr (wr_sm (x := 25) (by simp) _ _ _)).tr (Sm.un (by simp))
    have sm := hsm.tr sm1
    have t24 : ∀ k, sn τ 24 k = if 1200 * q ≤ k ∧ k < 1200 * q + 1200 then sn σ 22 (k - 1200 * q) else sn ρ 24 k := by
      intro k
      rw [← hτ, sn_un_i _ _ (by omega), wr_sn, if_neg (by omega), wr_sn]
      by_cases c : 1200 * q ≤ k ∧ k < 1200 * q + 1200
      · rw [if_pos c, if_pos ⟨rfl, by omega, by omega⟩, h22]
      · rw [if_neg c, if_neg (by omega)]
    have t25 : ∀ k, sn τ 25 k = if 6 * q ≤ k ∧ k < 6 * q + 6 then sn σ 23 (k - 6 * q) else sn ρ 25 k := by
      intro k
      rw [← hτ, sn_un_i _ _ (by omega), wr_sn]
      by_cases c : 6 * q ≤ k ∧ k < 6 * q + 6
      · rw [if_pos c, if_pos ⟨rfl, by omega, by omega⟩, h23]
      · rw [if_neg c, if_neg (by omega), wr_sn, if_neg (by omega)]
    have t21 : ∀ k, k ≠ 4 → sn τ 21 k = sn σ 21 k := fun k hk => by
      rw [← hτ, sn_un_k _ _ hk, wr_sn, if_neg (by omega), wr_sn, if_neg (by omega)]; exact h21 k hk
    have t4 : sn τ 21 4 = (q : Int) + 1 := by rw [← hτ, sn_un_same]
    refine hq τ ⟨hM.sm sm (by simp) (by simp), ?_, hO.of (fun k => (sm.1 29 (by simp) k).1) (t21 9 (by omega)) (t21 11 (by omega)) (fun k => (sm.1 30 (by simp) k).1)⟩ sm
    have hkeep : aP (aKeep a) = aM a :: (aP a).take 11 := rfl
    rw [hkeep]
    exact keeps_PI hq12 t4 t24 t25 hM hg hlen (fun j N hj => ⟨hgP N (List.mem_of_mem_take (List.mem_of_getElem? hj)), hN j N hj⟩)
  refine ⟨fun c => ⟨1201, ?_⟩, fun c => ⟨13201, ?_⟩⟩
  · have hlt : (aP a).length < 12 := by have := hP.1; have := hP.2.1; omega
    have ht : (aP a).take 11 = aP a := List.take_of_length_le (by omega)
    refine fin (aP a).length σ hlt hP.1 (fun _ => rfl) (fun _ => rfl) (fun _ _ => rfl) (Sm.rf _ _) (by rw [ht]) (fun j N hj => ?_)
    rw [ht] at hj
    exact hP.2.2 j N hj
  · have h12 : (aP a).length = 12 := by have := hP.1; omega
    refine sr_keeps11 13200 (i := 0) (v := fun j => sn σ 24 (j + 1200)) (w := fun j => sn σ 25 (j + 6)) rfl c (fun _ _ _ => rfl) (fun _ _ => rfl) ?_
    refine ⟨1201, ?_⟩
    generalize hρ : un (wr 25 0 (fun j => sn σ 25 (j + 6)) 66 0 (wr 24 0 (fun j => sn σ 24 (j + 1200)) 13200 0 σ)) 21 4 11 = ρ
    have sm : Sm [21, 24, 25] σ ρ := by
      rw [← hρ]
      exact ((wr_sm (x := 24) (by simp) _ _ _).tr (wr_sm (x := 25) (by simp) _ _ _)).tr (Sm.un (by simp))
    refine fin 11 ρ (by omega) (by rw [← hρ, sn_un_same]; rfl) (fun k => (sm.1 22 (by simp) k).1) (fun k => (sm.1 23 (by simp) k).1) (fun k hk => by rw [← hρ, sn_un_k _ _ hk, wr_sn, if_neg (by omega), wr_sn, if_neg (by omega)]) sm (by rw [List.length_take]; omega) (fun j N hj m hm => ?_)
    rw [List.getElem?_take] at hj
    split at hj
    · rename_i hj11
      obtain ⟨r1, r2⟩ := hP.2.2 j N hj m hm
      have gN := hgP N (List.mem_of_getElem? hj) m hm
      rw [h12] at r1 r2
      refine ⟨fun i p hp => ?_, ?_⟩
      · have hi := (List.getElem?_eq_some_iff.mp hp).1
        have hll := gN.2.2.2
        rw [← r1 i p hp, ← hρ, sn_un_i _ _ (by omega), wr_sn, if_neg (by omega), wr_sn, if_pos ⟨rfl, by omega, by omega⟩]
        congr 1; omega
      · rw [← r2, ← hρ, sn_un_i _ _ (by omega), wr_sn, if_pos ⟨rfl, by omega, by omega⟩]
        congr 1; omega
    · cases hj
theorem rs_get {Q : Int → SS → Prop} {m k : Int} (h : RI σ a) (hw : AW n a) (hn : n ≤ 1000000) (hq : Dr σ Q (opGet a m k)) : wX9_get m k σ Q := by
  unfold opGet at hq
  refine sr_isMap (fun hm => ⟨o1, fun _ => sr_isKey (fun hk => ⟨fun _ => sr_below h.1 hw.gm hm (sr_isThere h.1 hw.gm hm (fun v hv hp => ⟨o1, fun _ => sr_valueAt h.1 hw.gm hm hp ?_⟩) (fun hv => ⟨fun _ => ?_, o0⟩)), o1⟩) (fun hk => ⟨o0, fun _ => ?_⟩)⟩) (fun hm => ⟨fun _ => ?_, o0⟩)
  · rw [if_pos ⟨hm, hk⟩, hv] at hq; exact dr_same h hq
  · rw [if_pos ⟨hm, hk⟩, hv] at hq; exact dr_same h hq
  · rw [if_neg (fun q => hk q.2)] at hq; exact dr_bad h hw hn hq
  · rw [if_neg (fun q => hm q.1)] at hq; exact dr_bad h hw hn hq
theorem rs_size {Q : Int → SS → Prop} {m : Int} (h : RI σ a) (hw : AW n a) (hn : n ≤ 1000000) (hq : Dr σ Q (opSize a m)) : wX9_size m σ Q := by
  unfold opSize at hq
  refine sr_isMap (fun hm => ⟨o1, fun _ => ⟨by omega, by omega, ?_⟩⟩) (fun hm => ⟨fun _ => ?_, o0⟩)
  · rw [if_pos hm] at hq; rw [h.1.siz hm]; exact dr_same h hq
  · rw [if_neg hm] at hq; exact dr_bad h hw hn hq
theorem rs_rank {Q : Int → SS → Prop} {m k : Int} (h : RI σ a) (hw : AW n a) (hn : n ≤ 1000000) (hq : Dr σ Q (opRank a m k)) : wX9_rank m k σ Q := by
  unfold opRank at hq
  refine sr_isMap (fun hm => ⟨o1, fun _ => sr_in (fun hk => ⟨o1, fun _ => sr_below h.1 hw.gm hm ?_⟩) (fun hk => ⟨fun _ => ?_, o0⟩)⟩) (fun hm => ⟨fun _ => ?_, o0⟩)
  · rw [if_pos ⟨hm, hk⟩] at hq; exact dr_same h hq
  · rw [if_neg (fun q => hk q.2)] at hq; exact dr_bad h hw hn hq
  · rw [if_neg (fun q => hm q.1)] at hq; exact dr_bad h hw hn hq
theorem nk_out {l : List KV} {i : Int} (h : i < 0 ∨ (l.length : Int) ≤ i) : nk l i = -2000000001 := by
  unfold nk
  by_cases c : 0 ≤ i
  · rw [if_pos c, List.getElem?_eq_none (by omega)]
  · rw [if_neg c]
theorem sr_nk {Q : Int → SS → Prop} {m i : Int} (h : MI σ M) (hg : GM M) (hm : isM m) (h0 : 0 ≤ i) (h1 : i < (M m.toNat).length) (hq : Q (nk (M m.toNat) i) σ) : wX9_keyAt m i σ Q := by
  obtain ⟨j, rfl⟩ : ∃ j : Nat, i = j := ⟨i.toNat, by omega⟩
  have hp := List.getElem?_eq_getElem (show j < (M m.toNat).length by omega)
  rw [nk_at hp] at hq
  exact sr_keyAt h hg hm hp hq
theorem rs_nth {Q : Int → SS → Prop} {m i : Int} (h : RI σ a) (hw : AW n a) (hn : n ≤ 1000000) (hq : Dr σ Q (opNth a m i)) : wX9_nth m i σ Q := by
  unfold opNth at hq
  refine sr_isMap (fun hm => ⟨o1, fun _ => ⟨fun c => ⟨by omega, by omega, ?_⟩, fun c => ?_⟩⟩) (fun hm => ⟨fun _ => ?_, o0⟩)
  · rw [if_pos ⟨hm, c⟩] at hq
    rw [h.1.siz hm]
    refine ⟨fun c2 => ?_, fun c2 => sr_nk h.1 hw.gm hm c (by omega) (dr_same h hq)⟩
    rw [nk_out (by omega)] at hq; exact dr_same h hq
  · rw [if_neg (fun q => c q.2)] at hq; exact dr_bad h hw hn hq
  · rw [if_neg (fun q => hm q.1)] at hq; exact dr_bad h hw hn hq
theorem rs_near {Q : Int → SS → Prop} {m k w : Int} (h : RI σ a) (hw : AW n a) (hn : n ≤ 1000000) (hq : Dr σ Q (opNear a m k w)) : wX9_near m k w σ Q := by
  unfold opNear at hq
  refine sr_isMap (fun hm => ⟨o1, fun _ => sr_isKey (fun hk => ⟨o1, fun _ => ?_⟩) (fun hk => ⟨fun _ => ?_, o0⟩)⟩) (fun hm => ⟨fun _ => ?_, o0⟩)
  · have hl := (hw.mp hm).2.2.2
    have l1 := lo_len (aM a m.toNat) k
    have l2 := lo_len (aM a m.toNat) (k + 1)
    have L55 : ∀ i : Int, -1 ≤ i → i ≤ 200 → Q (nk (aM a m.toNat) i) σ → wX9_near_L55 m k w Q i σ := by
      intro i hi1 hi2 hQ
      unfold wX9_near_L55
      rw [h.1.siz hm]
      refine ⟨⟨by omega, by omega⟩, by omega, by omega, ⟨by omega, by omega⟩, sr_in (fun c => ⟨o1, fun _ => sr_nk h.1 hw.gm hm (by omega) (by omega) hQ⟩) (fun c => ⟨fun _ => ?_, o0⟩)⟩
      rw [nk_out (by omega)] at hQ; exact hQ
    have go : (w = -1 ∨ w = 1) → wX9_near_L31 m k w Q σ := by
      intro hw1
      rw [if_pos ⟨hm, hk, hw1⟩] at hq
      refine ⟨fun c => ⟨⟨by omega, by omega⟩, sr_below h.1 hw.gm hm (L55 _ (by omega) (by omega) ?_)⟩, fun c => sr_below h.1 hw.gm hm (L55 _ (by omega) (by omega) ?_)⟩
      · rw [if_neg c] at hq; exact dr_same h hq
      · rw [if_pos c] at hq; exact dr_same h hq
    refine ⟨fun c => go (Or.inl c), fun c => ⟨fun c2 => go (Or.inr c2), fun c2 => ?_⟩⟩
    rw [if_neg (fun q => by have := q.2.2; omega)] at hq; exact dr_bad h hw hn hq
  · rw [if_neg (fun q => hk q.2.1)] at hq; exact dr_bad h hw hn hq
  · rw [if_neg (fun q => hm q.1)] at hq; exact dr_bad h hw hn hq
theorem rs_within {Q : Int → SS → Prop} {m x y : Int} (h : RI σ a) (hw : AW n a) (hn : n ≤ 1000000) (hq : Dr σ Q (opWithin a m x y)) : wX9_within m x y σ Q := by
  unfold opWithin at hq
  refine sr_isMap (fun hm => ⟨o1, fun _ => sr_isRange (fun hk => ⟨o1, fun _ => ?_⟩) (fun hk => ⟨fun _ => ?_, o0⟩)⟩) (fun hm => ⟨fun _ => ?_, o0⟩)
  · rw [if_pos ⟨hm, hk⟩] at hq
    have hl := (hw.mp hm).2.2.2
    have l1 := lo_len (aM a m.toNat) x
    have l2 := lo_len (aM a m.toNat) (y + 1)
    have := hk.2.1
    exact ⟨⟨by omega, by omega⟩, sr_below h.1 hw.gm hm (sr_below h.1 hw.gm hm ⟨⟨by omega, by omega⟩, dr_same h hq⟩)⟩
  · rw [if_neg (fun q => hk q.2)] at hq; exact dr_bad h hw hn hq
  · rw [if_neg (fun q => hm q.1)] at hq; exact dr_bad h hw hn hq
theorem rs_sum_L {Q : Int → SS → Prop} {m x y : Int} (h : MI σ M) (hg : GM M) (hm : isM m) (hy : isK y) (hq : Q (sumv (lo (M m.toNat) (y + 1)) - sumv (lo (M m.toNat) x)) σ) : ∀ (f : Nat) {i : Nat} {s : Int}, i + f = (lo (M m.toNat) (y + 1)).length → s = sumv ((M m.toNat).take i) - sumv (lo (M m.toNat) x) → wX9_sum_L34 m x y Q (f + 1) s (i : Int) σ := by
  have hl := (hg.mp hm).2.2.2
  have l2 := lo_len (M m.toNat) (y + 1)
  have ht := (lo_split (hg.mp hm).1 (y + 1)).1
  intro f
  induction f with
  | zero =>
    intro i s hi hs
    rw [wX9_sum_L34]
    refine ⟨⟨by omega, by omega⟩, sr_below h hg hm ⟨⟨by omega, by omega⟩, fun _ => ?_, fun c => by omega⟩⟩
    rw [show i = (lo (M m.toNat) (y + 1)).length by omega, ht] at hs
    rw [hs]; exact hq
  | succ f ih =>
    intro i s hi hs
    rw [wX9_sum_L34]
    have hp := List.getElem?_eq_getElem (show i < (M m.toNat).length by omega)
    have e : ((i : Int) + 1) = ((i + 1 : Nat) : Int) := by omega
    rw [e]
    refine ⟨⟨by omega, by omega⟩, sr_below h hg hm ⟨⟨by omega, by omega⟩, fun c => by omega, fun _ => sr_valueAt h hg hm hp (ih (by omega) ?_)⟩⟩
    rw [take_succ hp, sumv_app, hs]
    simp only [sumv]
    omega
theorem rs_sum {Q : Int → SS → Prop} {m x y : Int} (h : RI σ a) (hw : AW n a) (hn : n ≤ 1000000) (hq : Dr σ Q (opSum a m x y)) : wX9_sum m x y σ Q := by
  unfold opSum at hq
  refine sr_isMap (fun hm => ⟨o1, fun _ => sr_isRange (fun hk => ⟨fun _ => ?_, o1⟩) (fun hk => ⟨o0, fun _ => ?_⟩)⟩) (fun hm => ⟨fun _ => ?_, o0⟩)
  · rw [if_pos ⟨hm, hk⟩] at hq
    have hmo := lo_mono (l := aM a m.toNat) (show x ≤ y + 1 by have := hk.2.2; omega)
    refine sr_below h.1 hw.gm hm ⟨(lo (aM a m.toNat) (y + 1)).length - (lo (aM a m.toNat) x).length + 1, ?_⟩
    refine rs_sum_L h.1 hw.gm hm hk.2.1 (dr_same h hq) _ (i := (lo (aM a m.toNat) x).length) (by omega) ?_
    rw [(lo_split (hw.mp hm).1 x).1]; omega
  · rw [if_neg (fun q => hk q.2)] at hq; exact dr_bad h hw hn hq
  · rw [if_neg (fun q => hm q.1)] at hq; exact dr_bad h hw hn hq
theorem rs_most_L {Q : Int → SS → Prop} {m x y w : Int} (h : MI σ M) (hg : GM M) (hm : isM m) (hy : isK y) : ∀ (f : Nat) {i : Nat} {best : Int}, i + f = (lo (M m.toNat) (y + 1)).length → (-2000000001 ≤ best ∧ best ≤ 1000000) → Q (mostF w best (seg (M m.toNat) i (lo (M m.toNat) (y + 1)).length)) σ → wX9_most_L45 m x y w Q (f + 1) best (i : Int) σ := by
  have hl := (hg.mp hm).2.2.2
  have l2 := lo_len (M m.toNat) (y + 1)
  intro f
  induction f with
  | zero =>
    intro i best hi hb hq
    rw [wX9_most_L45]
    refine ⟨⟨by omega, by omega⟩, sr_below h hg hm ⟨⟨by omega, by omega⟩, fun _ => ⟨⟨by omega, by omega⟩, ?_⟩, fun c => by omega⟩⟩
    rw [seg_nil (by omega)] at hq; exact hq
  | succ f ih =>
    intro i best hi hb hq
    rw [wX9_most_L45]
    have hp := List.getElem?_eq_getElem (show i < (M m.toNat).length by omega)
    generalize (M m.toNat)[i] = p at hp
    have e : ((i : Int) + 1) = ((i + 1 : Nat) : Int) := by omega
    have hv := (hg.mp hm).2.2.1 p (List.mem_of_getElem? hp)
    rw [seg_cons (by omega) l2 hp, mostF] at hq
    rw [e]
    have stay : ∀ v : Int, (if best = -2000000001 ∨ (if w = 0 then best < p.2 else p.2 < best) then p.2 else best) = v → (-2000000001 ≤ v ∧ v ≤ 1000000) → wX9_most_L45 m x y w Q (f + 1) v ((i + 1 : Nat) : Int) σ := fun v hv' hb' => ih (by omega) hb' (by rw [hv'] at hq; exact hq)
    refine ⟨⟨by omega, by omega⟩, sr_below h hg hm ⟨⟨by omega, by omega⟩, fun c => by omega, fun _ => sr_valueAt h hg hm hp ⟨⟨by omega, by omega⟩, fun c => stay _ (if_pos (Or.inl c)) (by omega), fun c => ⟨fun c2 => ⟨fun c3 => stay _ (if_neg ?_) hb, fun c3 => stay _ (if_pos ?_) (by omega)⟩, fun c2 => ⟨fun c3 => stay _ (if_neg ?_) hb, fun c3 => stay _ (if_pos ?_) (by omega)⟩⟩⟩⟩⟩
    · rw [if_neg c2]; omega
    · rw [if_neg c2]; omega
    · rw [if_pos c2]; omega
    · rw [if_pos c2]; omega
theorem rs_most {Q : Int → SS → Prop} {m x y w : Int} (h : RI σ a) (hw : AW n a) (hn : n ≤ 1000000) (hq : Dr σ Q (opMost a m x y w)) : wX9_most m x y w σ Q := by
  unfold opMost at hq
  refine sr_isMap (fun hm => ⟨o1, fun _ => sr_isRange (fun hk => ⟨o1, fun _ => sr_in (fun hv => ⟨fun _ => ?_, o1⟩) (fun hv => ⟨o0, fun _ => ?_⟩)⟩) (fun hk => ⟨fun _ => ?_, o0⟩)⟩) (fun hm => ⟨fun _ => ?_, o0⟩)
  · rw [if_pos ⟨hm, hk, hv⟩] at hq
    have hmo := lo_mono (l := aM a m.toNat) (show x ≤ y + 1 by have := hk.2.2; omega)
    refine sr_below h.1 hw.gm hm ⟨(lo (aM a m.toNat) (y + 1)).length - (lo (aM a m.toNat) x).length + 1, ?_⟩
    exact rs_most_L h.1 hw.gm hm hk.2.1 _ (i := (lo (aM a m.toNat) x).length) (by omega) (by omega) (dr_same h hq)
  · rw [if_neg (fun q => hv q.2.2)] at hq; exact dr_bad h hw hn hq
  · rw [if_neg (fun q => hk q.2.1)] at hq; exact dr_bad h hw hn hq
  · rw [if_neg (fun q => hm q.1)] at hq; exact dr_bad h hw hn hq
theorem rs_middle {Q : Int → SS → Prop} {m x y : Int} (h : RI σ a) (hw : AW n a) (hn : n ≤ 1000000) (hq : Dr σ Q (opMiddle a m x y)) : wX9_middle m x y σ Q := by
  unfold opMiddle at hq
  refine sr_isMap (fun hm => ⟨o1, fun _ => sr_isRange (fun hk => ⟨fun _ => ?_, o1⟩) (fun hk => ⟨o0, fun _ => ?_⟩)⟩) (fun hm => ⟨fun _ => ?_, o0⟩)
  · rw [if_pos ⟨hm, hk⟩] at hq
    have hmo := lo_mono (l := aM a m.toNat) (show x ≤ y + 1 by have := hk.2.2; omega)
    have hl := (hw.mp hm).2.2.2
    have l2 := lo_len (aM a m.toNat) (y + 1)
    have hy := hk.2.1
    refine sr_below h.1 hw.gm hm ⟨⟨by omega, by omega⟩, sr_below h.1 hw.gm hm ⟨⟨by omega, by omega⟩, fun c => ⟨⟨by omega, by omega⟩, ?_⟩, fun c => ?_⟩⟩
    · rw [if_neg c] at hq
      have e : Int.tdiv (((lo (aM a m.toNat) (y + 1)).length : Int) - (lo (aM a m.toNat) x).length - 1) 2 = (((lo (aM a m.toNat) (y + 1)).length : Int) - (lo (aM a m.toNat) x).length - 1) / 2 := Int.tdiv_eq_ediv_of_nonneg (by omega)
      rw [e]
      exact ⟨⟨by omega, by omega⟩, sr_nk h.1 hw.gm hm (by omega) (by omega) (dr_same h hq)⟩
    · rw [if_pos c] at hq; exact dr_same h hq
  · rw [if_neg (fun q => hk q.2)] at hq; exact dr_bad h hw hn hq
  · rw [if_neg (fun q => hm q.1)] at hq; exact dr_bad h hw hn hq
theorem rs_sound {Q : Int → SS → Prop} {m : Int} (h : RI σ a) (hw : AW n a) (hn : n ≤ 1000000) (hq : Dr σ Q (opSound a m)) : wX9_sound m σ Q := by
  unfold opSound at hq
  refine sr_isMap (fun hm => ⟨o1, fun _ => ?_⟩) (fun hm => ⟨fun _ => ?_, o0⟩)
  · rw [if_pos hm] at hq; exact dr_same h hq
  · rw [if_neg hm] at hq; exact dr_bad h hw hn hq
theorem rs_gap_L {Q : Int → SS → Prop} {m : Int} (h : MI σ M) (hg : GM M) (hm : isM m) : ∀ (rest : List KV) {i : Nat} {best : Int} {pv : KV}, (M m.toNat)[i]? = some pv → (M m.toNat).drop (i + 1) = rest → (-2000000001 ≤ best ∧ best ≤ 1000000) → Q (gapF best pv.1 rest) σ → wX9_gap_L19 m Q (rest.length + 1) best ((i + 1 : Nat) : Int) σ := by
  have hl := (hg.mp hm).2.2.2
  intro rest
  induction rest with
  | nil =>
    intro i best pv hp hdr hb hq
    have hi := (List.getElem?_eq_some_iff.mp hp).1
    have := drop_nil hdr (by omega)
    rw [List.length_nil, wX9_gap_L19, h.siz hm]
    exact ⟨by omega, by omega, ⟨by omega, by omega⟩, fun _ => ⟨⟨by omega, by omega⟩, hq⟩, fun c => by omega⟩
  | cons p rest ih =>
    intro i best pv hp hdr hb hq
    obtain ⟨hp2, hd2, hi2, hi3⟩ := drop_cons hdr
    have k1 := (hg.mp hm).2.1 p (List.mem_of_getElem? hp2)
    have k2 := (hg.mp hm).2.1 pv (List.mem_of_getElem? hp)
    have e : (((i + 1 : Nat) : Int) + 1) = ((i + 1 + 1 : Nat) : Int) := by omega
    have e2 : (((i + 1 : Nat) : Int) - 1) = (i : Int) := by omega
    rw [List.length_cons, wX9_gap_L19, h.siz hm, e, e2]
    rw [gapF] at hq
    refine ⟨by omega, by omega, ⟨by omega, by omega⟩, fun c => by omega, fun _ => sr_keyAt h hg hm hp2 ⟨⟨by omega, by omega⟩, sr_keyAt h hg hm hp ⟨⟨by omega, by omega⟩, ⟨by omega, by omega⟩, fun c => ih hp2 hd2 hb ?_, fun c => ih hp2 hd2 (by omega) ?_⟩⟩⟩
    · rw [show max best (p.1 - pv.1) = best by omega] at hq; exact hq
    · rw [show max best (p.1 - pv.1) = p.1 - pv.1 by omega] at hq; exact hq
theorem rs_gap {Q : Int → SS → Prop} {m : Int} (h : RI σ a) (hw : AW n a) (hn : n ≤ 1000000) (hq : Dr σ Q (opGap a m)) : wX9_gap m σ Q := by
  unfold opGap at hq
  refine sr_isMap (fun hm => ⟨fun _ => ?_, o1⟩) (fun hm => ⟨o0, fun _ => ?_⟩)
  · rw [if_pos hm] at hq
    have hs := h.1.siz hm
    cases hl : aM a m.toNat with
    | nil =>
      rw [hl] at hq hs
      refine ⟨1, ?_⟩
      rw [wX9_gap_L19, hs]
      exact ⟨by omega, by omega, by decide, fun _ => ⟨by decide, dr_same h hq⟩, fun c => absurd (by simp) c⟩
    | cons p rest =>
      rw [hl] at hq
      exact ⟨_, rs_gap_L (M := aM a) h.1 hw.gm hm rest (i := 0) (pv := p) (by rw [hl]; rfl) (by rw [hl]; rfl) (by omega) (dr_same h hq)⟩
  · rw [if_neg hm] at hq; exact dr_bad h hw hn hq
end
