section
variable {Z tp n : Nat} {rb : Int} {σ : SS} {P : Nat → Prop} {a : AS}
theorem sf3 {σ σ' : SS} (h : ∀ i, i < 64 → i ≠ 1 → ∀ k, sn σ' i k = sn σ i k ∧ sf σ' i k = sf σ i k) (k : Nat) : sf σ' 3 k = sf σ 3 k := (h 3 (by omega) (by omega) k).2
theorem cs_put {Q : Int → SS → Prop} {m k v : Int} (hB : BT Z tp 500000) (hrb : rb ≤ 2000000000) (h : CI Z rb σ P a) (hw : AW n a) (hn : n ≤ 1000000) (hq : Dn Z rb σ Q (opPut a m k v)) : wX8_put tp m k v σ Q := by
  unfold opPut at hq
  refine sp_isMap (fun hm => ⟨o1, fun _ => sp_isKey (fun hk => ⟨o1, fun _ => sp_isValue (fun hv => ⟨fun _ => ⟨by omega, by omega, ?_⟩, o1⟩) (fun hv => ⟨o0, fun _ => ?_⟩)⟩) (fun hk => ⟨fun _ => ?_, o0⟩)⟩) (fun hm => ⟨fun _ => ?_, o0⟩)
  · rw [if_pos ⟨hm, hk, hv⟩] at hq
    obtain ⟨d, ht⟩ := h.mp hm
    have hg := hw.mp hm
    have go : ∀ u : Int, R32 u → Dn Z rb σ Q (u, aSet a m.toNat (ins (aM a m.toNat) k v)) → wX8_put_L78 tp m k v Q u σ := by
      intro u hu hq
      unfold wX8_put_L78
      refine sp_start h hw (by omega) (fun σ1 P1 c1 t1 f1 g1 => ⟨by omega, by omega, ?_⟩)
      refine sp_with hB (c1.mp hm) hg.1 hg.2.2.2 c1.1 (by omega) hg.2.2.1 hv (fun r σ2 P2 g2 e2 t2 => ?_)
      have c2 := c1.ext e2 g2
      rw [show m = ((m.toNat : Nat) : Int) by omega]
      refine sp_settle (by omega) c2 hw t2 (fun σ3 c3 f3 => ⟨hu, ?_⟩)
      exact hq σ3 P2 (c3.rbu (by omega)) ((f1.tr (Fr.ext e2)).tr f3)
    refine sp_find ht hg.1 (fun e => ⟨fun _ => ⟨by omega, by omega, sp_countOf ht ⟨fun c => ?_, fun c => ?_⟩⟩, fun b e2 => by cases e2⟩) (fun b w e hP h0 h1 => ⟨fun e2 => (by cases e2), fun b' e2 => ?_⟩)
    · rw [e] at hq
      dsimp only at hq
      rw [if_pos (by omega)] at hq
      unfold wX8_put_L63
      exact ⟨fun _ => go _ (by decide) hq, fun b e2 => by cases e2⟩
    · rw [e] at hq
      dsimp only at hq
      rw [if_neg (by omega)] at hq
      exact dn_full h hw hn hq
    · cases e2
      rw [e] at hq
      dsimp only at hq
      unfold wX8_put_L63
      refine ⟨fun e2 => (by cases e2), fun b' e2 => ?_⟩
      cases e2
      rw [h1]
      have := hg.2.2.1 _ (lk_mem e)
      exact go _ ⟨by dsimp only at this; omega, by dsimp only at this; omega⟩ hq
  · rw [if_neg (fun q => hv q.2.2)] at hq; exact dn_bad h hw hn hq
  · rw [if_neg (fun q => hk q.2.1)] at hq; exact dn_bad h hw hn hq
  · rw [if_neg (fun q => hm q.1)] at hq; exact dn_bad h hw hn hq
theorem cs_remove {Q : Int → SS → Prop} {m k : Int} (hB : BT Z tp 500000) (hrb : rb ≤ 2000000000) (h : CI Z rb σ P a) (hw : AW n a) (hn : n ≤ 1000000) (hq : Dn Z rb σ Q (opRemove a m k)) : wX8_remove tp m k σ Q := by
  unfold opRemove at hq
  refine sp_isMap (fun hm => ⟨o1, fun _ => sp_isKey (fun hk => ⟨fun _ => ⟨by omega, by omega, ?_⟩, o1⟩) (fun hk => ⟨o0, fun _ => ?_⟩)⟩) (fun hm => ⟨fun _ => ?_, o0⟩)
  · rw [if_pos ⟨hm, hk⟩] at hq
    obtain ⟨d, ht⟩ := h.mp hm
    have hg := hw.mp hm
    refine sp_find ht hg.1 (fun e => ⟨fun _ => ?_, fun b e2 => by cases e2⟩) (fun b w e hP h0 h1 => ⟨fun e2 => (by cases e2), fun b' e2 => ?_⟩)
    · rw [e] at hq
      exact dn_no h hw hn hq
    · cases e2
      rw [e] at hq
      dsimp only at hq
      rw [h1]
      refine sp_start h hw (by omega) (fun σ1 P1 c1 t1 f1 g1 => ⟨by omega, by omega, ?_⟩)
      refine sp_without hB (Int.le_refl _) (c1.mp hm) hg.1 hg.2.2.2 c1.1 (by omega) hg.2.2.1 (fun r σ2 P2 g2 e2 t2 => ?_)
      have c2 := c1.ext e2 g2
      rw [show m = ((m.toNat : Nat) : Int) by omega]
      exact sp_settle (by omega) c2 hw t2 (fun σ3 c3 f3 => hq σ3 P2 (c3.rbu (by omega)) ((f1.tr (Fr.ext e2)).tr f3))
  · rw [if_neg (fun q => hk q.2)] at hq; exact dn_bad h hw hn hq
  · rw [if_neg (fun q => hm q.1)] at hq; exact dn_bad h hw hn hq
theorem cs_clears {Q : Int → SS → Prop} {m x y : Int} (hB : BT Z tp 500000) (hrb : rb ≤ 2000000000) (h : CI Z rb σ P a) (hw : AW n a) (hn : n ≤ 1000000) (hq : Dn Z rb σ Q (opClears a m x y)) : wX8_clears tp m x y σ Q := by
  unfold opClears at hq
  refine sp_isMap (fun hm => ?_) (fun hm => ?_)
  · have hbad : ¬ isRg x y → wX8_bad σ (fun r s => Q r s) := fun hk => by rw [if_neg (fun q => hk q.2)] at hq; exact dn_bad h hw hn hq
    have hgo : isRg x y → 0 ≤ m ∧ m < 6 ∧ wX3_countWithin (sf σ 3 m.toNat) x y σ (fun r16 s15 => wX8_startChange s15 (fun s18 => 0 ≤ m ∧ m < 6 ∧ wX2_without tp (sf s18 3 m.toNat) x y s18 (fun r26 s25 => wX8_settle m r26 s25 (fun r30 s29 => Q r16 s29)))) := by
      intro hk
      rw [if_pos ⟨hm, hk⟩] at hq
      obtain ⟨d, ht⟩ := h.mp hm
      have hg := hw.mp hm
      refine ⟨by omega, by omega, sp_countWithin ht hg.1 (by have := hg.2.2.2; omega) (by have := hk.2.1; omega) (by have := hk.2.1; omega) ?_⟩
      refine sp_start h hw (by omega) (fun σ1 P1 c1 t1 f1 g1 => ⟨by omega, by omega, ?_⟩)
      refine sp_without hB hk.2.2 (c1.mp hm) hg.1 hg.2.2.2 c1.1 (by omega) hg.2.2.1 (fun r σ2 P2 g2 e2 t2 => ?_)
      have c2 := c1.ext e2 g2
      rw [show m = ((m.toNat : Nat) : Int) by omega]
      exact sp_settle (by omega) c2 hw t2 (fun σ3 c3 f3 => hq σ3 P2 (c3.rbu (by omega)) ((f1.tr (Fr.ext e2)).tr f3))
    first
      | exact ⟨o1, fun _ => sp_isRange (fun hk => ⟨fun _ => hgo hk, o1⟩) (fun hk => ⟨o0, fun _ => hbad hk⟩)⟩
      | exact ⟨o1, fun _ => sp_isRange (fun hk => ⟨o1, fun _ => hgo hk⟩) (fun hk => ⟨fun _ => hbad hk, o0⟩)⟩
  · rw [if_neg (fun q => hm q.1)] at hq
    exact ⟨fun _ => dn_bad h hw hn hq, o0⟩
theorem cs_share {Q : Int → SS → Prop} {m t : Int} (h : CI Z rb σ P a) (hw : AW n a) (hn : n ≤ 1000000) (hq : Dn Z rb σ Q (opShare a m t)) : wX8_share m t σ Q := by
  unfold opShare at hq
  refine sp_isMap (fun hm => ⟨o1, fun _ => sp_isMap (fun hk => ⟨fun _ => ⟨by omega, by omega, ?_⟩, o1⟩) (fun hk => ⟨o0, fun _ => ?_⟩)⟩) (fun hm => ⟨fun _ => ?_, o0⟩)
  · rw [if_pos ⟨hm, hk⟩] at hq
    rw [show t = ((t.toNat : Nat) : Int) by omega]
    exact sp_settle (by omega) h hw (h.mp hm) (fun σ3 c3 f3 => hq σ3 P (c3.rbu (by omega)) f3)
  · rw [if_neg (fun q => hk q.2)] at hq; exact dn_bad h hw hn hq
  · rw [if_neg (fun q => hm q.1)] at hq; exact dn_bad h hw hn hq
theorem cs_cut {Q : Int → SS → Prop} {m k t : Int} (hB : BT Z tp 500000) (hrb : rb ≤ 2000000000) (h : CI Z rb σ P a) (hw : AW n a) (hn : n ≤ 1000000) (hq : Dn Z rb σ Q (opCut a m k t)) : wX8_cut tp m k t σ Q := by
  unfold opCut at hq
  refine sp_isMap (fun hm => ⟨o1, fun _ => sp_isKey (fun hk => ⟨o1, fun _ => sp_isMap (fun hv => ⟨o1, fun _ => ⟨fun c => ?_, fun c => ?_⟩⟩) (fun hv => ⟨fun _ => ?_, o0⟩)⟩) (fun hk => ⟨fun _ => ?_, o0⟩)⟩) (fun hm => ⟨fun _ => ?_, o0⟩)
  · rw [if_pos ⟨hm, hk, hv, c⟩] at hq
    have hg := hw.mp hm
    refine sp_start h hw (by omega) (fun σ1 P1 c1 t1 f1 g1 => ?_)
    refine sp_leave c1 hw (fun σ2 c2 f2 g2 g3 g4 g5 => ⟨by omega, by omega, ?_⟩)
    have tm : TT σ2 P1 (sf σ2 3 m.toNat) (aM a m.toNat) := c2.2.1 m.toNat (by omega)
    refine sp_below200 hB tm hg.1 hg.2.2.2 c2.1 (by rw [g3 1 2 (by decide)]; omega) hg.2.2.1 (fun r σ3 P3 g6 e3 t3 => ⟨by omega, by omega, ⟨by omega, by omega⟩, ?_⟩)
    have c3 := (c2.ext e3 g6).map (m := m.toNat) (by omega) t3
    have sm : Sm [3] σ3 (uf σ3 3 m.toNat r) := Sm.uf (by simp)
    have h64 : ∀ i ∈ [3], i < 64 := fun i hi => by simp at hi; omega
    refine sp_above200 hB (sm.TT h64 (e3.TT tm)) hg.1 hg.2.2.2 c3.1 (by rw [sn_uf]; have := e3.tk; rw [g3 1 2 (by decide)] at this; omega) hg.2.2.1 (fun r' σ4 P4 g7 e4 t4 => ⟨by omega, by omega, by omega, by omega, ?_⟩)
    have c4 := (c3.ext e4 g7).map (m := t.toNat) (by omega) t4
    rw [sf_uf_same]
    have sm2 : Sm [3] σ4 (uf σ4 3 t.toNat r') := Sm.uf (by simp)
    obtain ⟨d4, t4'⟩ := sm2.TT h64 t4
    refine sp_countOf t4' (hq _ P4 (c4.rbu (by omega)) ?_)
    exact ((((f1.tr f2).tr (Fr.ext e3)).tr (Fr.sm sm (fun i hi => by simp at hi; omega))).tr (Fr.ext e4)).tr (Fr.sm sm2 (fun i hi => by simp at hi; omega))
  · rw [if_neg (fun q => q.2.2.2 c)] at hq; exact dn_bad h hw hn hq
  · rw [if_neg (fun q => hv q.2.2.1)] at hq; exact dn_bad h hw hn hq
  · rw [if_neg (fun q => hk q.2.1)] at hq; exact dn_bad h hw hn hq
  · rw [if_neg (fun q => hm q.1)] at hq; exact dn_bad h hw hn hq
/-- what chaining needs of keys -/
theorem nk_last {l : List KV} (h : 0 < l.length) : ∃ p ∈ l, nk l ((l.length : Int) - 1) = p.1 ∧ (Srt l → ∀ q ∈ l, q.1 ≤ p.1) := by
  have hlt : l.length - 1 < l.length := by omega
  refine ⟨l[l.length - 1], List.getElem_mem hlt, ?_, fun hs q hq => ?_⟩
  · rw [show (l.length : Int) - 1 = ((l.length - 1 : Nat) : Int) by omega, nk_at (List.getElem?_eq_getElem hlt)]
  · obtain ⟨i, hi, rfl⟩ := List.mem_iff_getElem.mp hq
    by_cases c : i = l.length - 1
    · subst c; exact Int.le_refl _
    · have := List.pairwise_iff_getElem.mp hs i (l.length - 1) hi hlt (by omega)
      omega
theorem nk_first {l : List KV} (h : 0 < l.length) : ∃ p ∈ l, nk l 0 = p.1 ∧ (Srt l → ∀ q ∈ l, p.1 ≤ q.1) := by
  refine ⟨l[0], List.getElem_mem h, ?_, fun hs q hq => ?_⟩
  · rw [show (0 : Int) = ((0 : Nat) : Int) from rfl, nk_at (List.getElem?_eq_getElem h)]
  · obtain ⟨i, hi, rfl⟩ := List.mem_iff_getElem.mp hq
    by_cases c : i = 0
    · subst c; exact Int.le_refl _
    · have := List.pairwise_iff_getElem.mp hs 0 i h hi (by omega)
      omega
theorem cs_glue {Q : Int → SS → Prop} {x y : Int} (hB : BT Z tp 500000) (hrb : rb ≤ 2000000000) (h : CI Z rb σ P a) (hw : AW n a) (hn : n ≤ 1000000) (hq : Dn Z rb σ Q (opGlue a x y)) : wX8_glue tp x y σ Q := by
  unfold opGlue at hq
  refine sp_isMap (fun hx => ⟨o1, fun _ => sp_isMap (fun hy => ⟨o1, fun _ => ⟨fun c => ⟨by omega, by omega, ?_⟩, fun c => ?_⟩⟩) (fun hy => ⟨fun _ => ?_, o0⟩)⟩) (fun hx => ⟨fun _ => ?_, o0⟩)
  · rw [if_pos ⟨hx, hy, c⟩] at hq
    obtain ⟨d1, t1⟩ := h.mp hx
    obtain ⟨d2, t2⟩ := h.mp hy
    have gx := hw.mp hx
    have gy := hw.mp hy
    have lx := gx.2.2.2
    have ly := gy.2.2.2
    have go : ¬ (0 < (aM a x.toNat).length ∧ 0 < (aM a y.toNat).length ∧ ¬ nk (aM a x.toNat) ((aM a x.toNat).length - 1) < nk (aM a y.toNat) 0) → wX8_glue_L84 tp x y Q ((aM a x.toNat).length : Int) ((aM a y.toNat).length : Int) σ := by
      intro hc
      rw [if_neg hc] at hq
      unfold wX8_glue_L84
      refine ⟨⟨by omega, by omega⟩, fun c2 => ?_, fun c2 => ?_⟩
      · rw [if_pos (by omega)] at hq
        refine sp_start h hw (by omega) (fun σ1 P1 c1 tk1 f1 g1 => ⟨by omega, by omega, by omega, by omega, ?_⟩)
        have vxy : Vok (aM a x.toNat ++ aM a y.toNat) := fun p hp => (List.mem_append.mp hp).elim (gx.2.2.1 p) (gy.2.2.1 p)
        refine sp_chain hB (c1.mp hx) (c1.mp hy) gy.1 vxy (by omega) c1.1 (by omega) (fun r σ2 P2 g2 e2 t2 => ?_)
        have c2' := c1.ext e2 g2
        rw [show x = ((x.toNat : Nat) : Int) by omega]
        refine sp_settle (by omega) c2' hw (by simpa using t2) (fun σ3 c3 f3 => ⟨by omega, by omega, ?_⟩)
        have c4 := c3.map (m := y.toNat) (by omega) (r := none) (l := []) TT_nil
        have sm2 : Sm [3] σ3 (uf σ3 3 y.toNat none) := Sm.uf (by simp)
        refine hq _ P2 (CI.rbu (rb := rb + 1) ?_ (by omega)) (((f1.tr (Fr.ext e2)).tr f3).tr (Fr.sm sm2 (fun i hi => by simp at hi; omega)))
        exact c4
      · rw [if_neg (by omega)] at hq; exact dn_full h hw hn hq
    refine sp_countOf t1 ⟨by omega, by omega, sp_countOf t2 ⟨fun c1 => go (fun q => by omega), fun c1 => ⟨fun c2 => go (fun q => by omega), fun c2 => ⟨by omega, by omega, ⟨by omega, by omega⟩, ?_⟩⟩⟩⟩
    refine sp_keyAt t1 (by omega) ⟨by omega, by omega⟩ (by omega) ⟨by omega, by omega, sp_keyAt t2 (by omega) (by decide) (by omega) ⟨fun c3 => go (fun q => q.2.2 c3), fun c3 => ?_⟩⟩
    rw [if_pos ⟨by omega, by omega, c3⟩] at hq; exact dn_no h hw hn hq
  · rw [if_neg (fun q => q.2.2 c)] at hq; exact dn_bad h hw hn hq
  · rw [if_neg (fun q => hy q.2.1)] at hq; exact dn_bad h hw hn hq
  · rw [if_neg (fun q => hx q.1)] at hq; exact dn_bad h hw hn hq
theorem cs_back {Q : Int → SS → Prop} (h : CI Z rb σ P a) (hw : AW n a) (hn : n ≤ 1000000) (hq : Dn Z rb σ Q (opBack a)) : wX8_back σ Q := by
  have hc : sn σ 4 1 = (aP a).length := h.2.2.1.elim fun nx q => q.2.2.1
  unfold opBack at hq
  have hp := hw.2.1
  cases e : aP a with
  | nil =>
    rw [e] at hq hc
    unfold wX8_back
    first
      | exact ⟨fun c => absurd hc c, fun _ => dn_no h hw hn hq⟩
      | exact ⟨fun _ => dn_no h hw hn hq, fun c => absurd hc c⟩
  | cons M rest =>
    rw [e] at hq hc
    rw [List.length_cons] at hc
    have go : wX7_bringLast σ (fun s => Q (sn s 4 1) s) := by
      refine sp_bringLast h hw e (fun σ' c f => ?_)
      have h2 : sn σ' 4 1 = rest.length := c.2.2.1.elim fun nx q => q.2.2.1
      rw [h2]
      exact hq σ' P (c.rbu (by omega)) f
    unfold wX8_back
    first
      | exact ⟨fun _ => go, fun c => by omega⟩
      | exact ⟨fun c => by omega, fun _ => go⟩
end
