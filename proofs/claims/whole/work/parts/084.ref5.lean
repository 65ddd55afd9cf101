/-! ===== the reference: changes ===== -/
section
variable {n : Nat} {σ : SS} {a : AS} {M : Nat → List KV}
theorem fin_set {σ1 σ2 : SS} {M' : Nat → List KV} {Q : Int → SS → Prop} {r : Int} (hq : Dr σ Q (r, (M', (aKeep a).2))) (h1 : RI σ1 (aKeep a)) (s1 : Sm [21, 24, 25] σ σ1) (hM : MI σ2 M') (s2 : Sm [22, 23, 28] σ1 σ2) : Q r σ2 :=
  hq σ2 (h1.sets s2 hM (by simp) (by simp) (by simp) (by simp) (by simp)) ((s1.up (by simp)).tr (s2.up (by simp)))
theorem MI.cut {σ : SS} {M' : Nat → List KV} (h : MI σ M') {m : Nat} {l : List KV} {v : Int} (hv : v = (l.length : Int)) (hl : ∀ (i : Nat) (p : KV), l[i]? = some p → (M' m)[i]? = some p) : MI (un σ 23 m v) (updM M' m l) := by
  intro i hi
  unfold updM
  by_cases c : i = m
  · subst c
    rw [if_pos rfl, sn_un_same, hv]
    exact ⟨fun j p hp => by rw [sn_un_i _ _ (by omega)]; exact (h i hi).1 j p (hl j p hp), rfl⟩
  · rw [if_neg c, sn_un_k _ _ c]
    exact ⟨fun j p hp => by rw [sn_un_i _ _ (by omega)]; exact (h i hi).1 j p hp, (h i hi).2⟩
theorem rs_put {Q : Int → SS → Prop} {m k v : Int} (h : RI σ a) (hw : AW n a) (hn : n ≤ 1000000) (hq : Dr σ Q (opPut a m k v)) : wX9_put m k v σ Q := by
  unfold opPut at hq
  refine sr_isMap (fun hm => ⟨o1, fun _ => sr_isKey (fun hk => ⟨o1, fun _ => sr_in (fun hv => ⟨fun _ => sr_below h.1 hw.gm hm ?_, o1⟩) (fun hv => ⟨o0, fun _ => ?_⟩)⟩) (fun hk => ⟨fun _ => ?_, o0⟩)⟩) (fun hm => ⟨fun _ => ?_, o0⟩)
  · rw [if_pos ⟨hm, hk, hv⟩] at hq
    have hl := (hw.mp hm).2.2.2
    have hlo := lo_len (aM a m.toNat) k
    refine sr_isThere h.1 hw.gm hm (fun w hw' hp => ⟨fun _ => ?_, o1⟩) (fun hw' => ⟨o0, fun _ => ⟨by omega, by omega, ?_⟩⟩)
    · rw [hw'] at hq
      refine sr_keeps h hw (fun σ1 h1 s1 => ⟨by decide, fun q => absurd q (by decide), fun _ => ⟨⟨by omega, by omega⟩, sr_valueAt (M := aM a) h1.1 hw.gm hm hp (sr_lays (M := aM a) h1.1 hw.gm hm hk hv (fun q => by rw [hw'] at q; cases q) (fun σ2 h2 s2 => ?_))⟩⟩)
      exact fin_set hq h1 s1 h2 (s2.up (by simp))
    · rw [hw'] at hq
      rw [h.1.siz hm]
      refine ⟨fun c => ?_, fun c => ?_⟩
      · rw [if_pos (by omega)] at hq
        refine sr_keeps h hw (fun σ1 h1 s1 => ⟨by decide, fun _ => sr_lays (M := aM a) h1.1 hw.gm hm hk hv (fun _ => by omega) (fun σ2 h2 s2 => ?_), fun q => absurd rfl q⟩)
        exact fin_set hq h1 s1 h2 (s2.up (by simp))
      · rw [if_neg (by omega)] at hq; exact dr_full h hw hn hq
  · rw [if_neg (fun q => hv q.2.2)] at hq; exact dr_bad h hw hn hq
  · rw [if_neg (fun q => hk q.2.1)] at hq; exact dr_bad h hw hn hq
  · rw [if_neg (fun q => hm q.1)] at hq; exact dr_bad h hw hn hq
theorem rs_remove {Q : Int → SS → Prop} {m k : Int} (h : RI σ a) (hw : AW n a) (hn : n ≤ 1000000) (hq : Dr σ Q (opRemove a m k)) : wX9_remove m k σ Q := by
  unfold opRemove at hq
  refine sr_isMap (fun hm => ⟨o1, fun _ => sr_isKey (fun hk => ⟨fun _ => sr_below h.1 hw.gm hm ?_, o1⟩) (fun hk => ⟨o0, fun _ => ?_⟩)⟩) (fun hm => ⟨fun _ => ?_, o0⟩)
  · rw [if_pos ⟨hm, hk⟩] at hq
    have g := hw.mp hm
    have hl := g.2.2.2
    refine sr_isThere h.1 hw.gm hm (fun w hw' hp => ⟨fun _ => ?_, o1⟩) (fun hw' => ⟨o0, fun _ => ?_⟩)
    · rw [hw'] at hq
      have hi := (List.getElem?_eq_some_iff.mp hp).1
      have e : (((lo (aM a m.toNat) k).length : Int) + 1) = (((lo (aM a m.toNat) k).length + 1 : Nat) : Int) := by omega
      have hd : del (aM a m.toNat) k k = (aM a m.toNat).take (lo (aM a m.toNat) k).length ++ (aM a m.toNat).drop ((lo (aM a m.toNat) k).length + 1) := by
        rw [del_eq g.1, lo_succ g.1, hw']; rfl
      refine sr_keeps h hw (fun σ1 h1 s1 => sr_valueAt (M := aM a) h1.1 hw.gm hm hp ⟨⟨by omega, by omega⟩, ?_⟩)
      rw [e]
      refine sr_goes (M := aM a) h1.1 hw.gm hm (by omega) (by omega) (fun σ2 h2 s2 => ?_)
      rw [← hd] at h2
      exact fin_set hq h1 s1 h2 (s2.up (by simp))
    · rw [hw'] at hq; exact dr_no h hw hn hq
  · rw [if_neg (fun q => hk q.2)] at hq; exact dr_bad h hw hn hq
  · rw [if_neg (fun q => hm q.1)] at hq; exact dr_bad h hw hn hq
theorem rs_clears {Q : Int → SS → Prop} {m x y : Int} (h : RI σ a) (hw : AW n a) (hn : n ≤ 1000000) (hq : Dr σ Q (opClears a m x y)) : wX9_clears m x y σ Q := by
  unfold opClears at hq
  refine sr_isMap (fun hm => ⟨o1, fun _ => sr_isRange (fun hk => ⟨fun _ => ?_, o1⟩) (fun hk => ⟨o0, fun _ => ?_⟩)⟩) (fun hm => ⟨fun _ => ?_, o0⟩)
  · rw [if_pos ⟨hm, hk⟩] at hq
    have g := hw.mp hm
    have hl := g.2.2.2
    have hmo := lo_mono (l := aM a m.toNat) (show x ≤ y + 1 by have := hk.2.2; omega)
    have l2 := lo_len (aM a m.toNat) (y + 1)
    have hy := hk.2.1
    refine sr_keeps h hw (fun σ1 h1 s1 => sr_below (M := aM a) h1.1 hw.gm hm ⟨⟨by omega, by omega⟩, sr_below (M := aM a) h1.1 hw.gm hm (sr_goes (M := aM a) h1.1 hw.gm hm hmo l2 (fun σ2 h2 s2 => ⟨⟨by omega, by omega⟩, ?_⟩))⟩)
    rw [← del_eq g.1] at h2
    exact fin_set hq h1 s1 h2 (s2.up (by simp))
  · rw [if_neg (fun q => hk q.2)] at hq; exact dr_bad h hw hn hq
  · rw [if_neg (fun q => hm q.1)] at hq; exact dr_bad h hw hn hq
theorem rs_cut {Q : Int → SS → Prop} {m k t : Int} (h : RI σ a) (hw : AW n a) (hn : n ≤ 1000000) (hq : Dr σ Q (opCut a m k t)) : wX9_cut m k t σ Q := by
  unfold opCut at hq
  refine sr_isMap (fun hm => ⟨o1, fun _ => sr_isKey (fun hk => ⟨o1, fun _ => sr_isMap (fun ht => ⟨o1, fun _ => ⟨fun c => ?_, fun c => ?_⟩⟩) (fun ht => ⟨fun _ => ?_, o0⟩)⟩) (fun hk => ⟨fun _ => ?_, o0⟩)⟩) (fun hm => ⟨fun _ => ?_, o0⟩)
  · rw [if_pos ⟨hm, hk, ht, c⟩] at hq
    have g := hw.mp hm
    have hl := g.2.2.2
    have l2 := lo_len (aM a m.toNat) k
    have hhi : hi (aM a m.toNat) (k - 1) = (aM a m.toNat).drop (lo (aM a m.toNat) k).length := by
      rw [hi_drop g.1, show k - 1 + 1 = k by omega]
    refine sr_keeps h hw (fun σ1 h1 s1 => sr_below (M := aM a) h1.1 hw.gm hm ⟨by omega, by omega, ?_⟩)
    rw [MI.siz (M := aM a) h1.1 hm]
    refine ⟨⟨by omega, by omega⟩, ?_⟩
    rw [show ((aM a m.toNat).length : Int) - (lo (aM a m.toNat) k).length = (((aM a m.toNat).length - (lo (aM a m.toNat) k).length : Nat) : Int) by omega]
    refine sr_copies (M := aM a) h1.1 hw.gm hm ht (by omega) (fun σ2 h2 s2 => ⟨by omega, by omega, by omega, by omega, ?_⟩)
    have hlt := (lo_split g.1 k).1
    have h3 := h2.cut (m := m.toNat) (l := lo (aM a m.toNat) k) (v := ((lo (aM a m.toNat) k).length : Int)) rfl (fun i p hp => by
      unfold updM
      rw [if_neg (by omega)]
      rw [← hlt, List.getElem?_take] at hp
      split at hp
      · exact hp
      · cases hp)
    have e : sn (un σ2 23 m.toNat ((lo (aM a m.toNat) k).length : Int)) 23 t.toNat = ((hi (aM a m.toNat) (k - 1)).length : Int) := by
      rw [sn_un_k _ _ (by omega), (h2 t.toNat (by omega)).2, hhi]
      simp [updM]
    rw [e]
    refine fin_set hq h1 s1 (M' := _) ?_ ((s2.up (by simp)).tr (Sm.un (by simp)))
    intro i hi
    have := h3 i hi
    unfold updM at this
    by_cases c1 : i = t.toNat
    · rw [if_neg (by omega), if_pos c1, ← hhi] at this
      simp only [if_pos c1]; exact this
    · by_cases c2 : i = m.toNat
      · rw [if_pos c2] at this
        simp only [if_neg c1, if_pos c2]; exact this
      · rw [if_neg c2, if_neg c1] at this
        simp only [if_neg c1, if_neg c2]; exact this
  · rw [if_neg (fun q => q.2.2.2 c)] at hq; exact dr_bad h hw hn hq
  · rw [if_neg (fun q => ht q.2.2.1)] at hq; exact dr_bad h hw hn hq
  · rw [if_neg (fun q => hk q.2.1)] at hq; exact dr_bad h hw hn hq
  · rw [if_neg (fun q => hm q.1)] at hq; exact dr_bad h hw hn hq
theorem rs_share {Q : Int → SS → Prop} {m t : Int} (h : RI σ a) (hw : AW n a) (hn : n ≤ 1000000) (hq : Dr σ Q (opShare a m t)) : wX9_share m t σ Q := by
  unfold opShare at hq
  refine sr_isMap (fun hm => ⟨o1, fun _ => sr_isMap (fun ht => ⟨fun _ => ?_, o1⟩) (fun ht => ⟨o0, fun _ => ?_⟩)⟩) (fun hm => ⟨fun _ => ?_, o0⟩)
  · rw [if_pos ⟨hm, ht⟩] at hq
    refine sr_keeps h hw (fun σ1 h1 s1 => ⟨by omega, by omega, ?_⟩)
    rw [MI.siz (M := aM a) h1.1 hm]
    refine sr_copies (M := aM a) (fr := 0) h1.1 hw.gm hm ht (by omega) (fun σ2 h2 s2 => ⟨by omega, by omega, ?_⟩)
    rw [List.drop_zero] at h2
    have e : sn σ2 23 t.toNat = ((aM a m.toNat).length : Int) := by
      rw [(h2 t.toNat (by omega)).2]; simp [updM]
    rw [e]
    exact fin_set hq h1 s1 h2 (s2.up (by simp))
  · rw [if_neg (fun q => ht q.2)] at hq; exact dr_bad h hw hn hq
  · rw [if_neg (fun q => hm q.1)] at hq; exact dr_bad h hw hn hq
theorem rs_glue_L {Q : Int → SS → Prop} {x y : Int} {A B : Nat} {v : Nat → Int} (hx : isM x) (hy : isM y) (hxy : x ≠ y) (hAB : A + B ≤ 200) : ∀ (f : Nat) {i : Nat} {σ : SS}, i + f = B → sn σ 23 x.toNat = A → sn σ 23 y.toNat = B → (∀ q, q < B → sn σ 22 (200 * y.toNat + q) = v q) → Q ((A : Int) + B) (un (un (wr 22 (200 * x.toNat + A) v f i σ) 23 x.toNat ((A : Int) + B)) 23 y.toNat 0) → wX9_glue_L105 x y Q (f + 1) (i : Int) σ := by
  intro f
  induction f with
  | zero =>
    intro i σ hf hA hB hv hQ
    rw [wX9_glue_L105, hA, hB]
    refine ⟨by omega, by omega, ⟨by omega, by omega⟩, fun _ => ⟨by omega, by omega, by omega, by omega, by omega, by omega, ⟨by omega, by omega⟩, by omega, by omega, by omega, by omega, ?_⟩, fun c => by omega⟩
    rw [sn_un_k _ _ (by omega), sn_un_same]; exact hQ
  | succ f ih =>
    intro i σ hf hA hB hv hQ
    have e1 : (200 * y + (i : Int)).toNat = 200 * y.toNat + i := by omega
    have e2 : (200 * x + (A : Int) + (i : Int)).toNat = 200 * x.toNat + A + i := by omega
    have e3 : ((i : Int) + 1) = ((i + 1 : Nat) : Int) := by omega
    rw [wX9_glue_L105, hA, hB, e1, e2, e3, hv i (by omega)]
    rw [wr] at hQ
    exact ⟨by omega, by omega, ⟨by omega, by omega⟩, fun c => by omega, fun _ => ⟨by omega, by omega, by omega, by omega, by omega, by omega, ih (by omega) (by rw [sn_un_i _ _ (by omega)]; exact hA) (by rw [sn_un_i _ _ (by omega)]; exact hB) (fun q hq => by rw [sn_un_k _ _ (by omega)]; exact hv q hq) hQ⟩⟩
theorem rs_glue {Q : Int → SS → Prop} {x y : Int} (h : RI σ a) (hw : AW n a) (hn : n ≤ 1000000) (hq : Dr σ Q (opGlue a x y)) : wX9_glue x y σ Q := by
  unfold opGlue at hq
  refine sr_isMap (fun hx => ⟨o1, fun _ => sr_isMap (fun hy => ⟨o1, fun _ => ⟨fun c => ⟨by omega, by omega, ?_⟩, fun c => ?_⟩⟩) (fun hy => ⟨fun _ => ?_, o0⟩)⟩) (fun hx => ⟨fun _ => ?_, o0⟩)
  · rw [if_pos ⟨hx, hy, c⟩] at hq
    have lx := (hw.mp hx).2.2.2
    have ly := (hw.mp hy).2.2.2
    have go : ¬ (0 < (aM a x.toNat).length ∧ 0 < (aM a y.toNat).length ∧ ¬ nk (aM a x.toNat) ((aM a x.toNat).length - 1) < nk (aM a y.toNat) 0) → wX9_glue_L73 x y Q σ := by
      intro hc
      rw [if_neg hc] at hq
      unfold wX9_glue_L73
      rw [h.1.siz hx, h.1.siz hy]
      refine ⟨by omega, by omega, by omega, by omega, ⟨by omega, by omega⟩, fun c2 => ?_, fun c2 => ?_⟩
      · rw [if_pos (by omega)] at hq
        refine sr_keeps h hw (fun σ1 h1 s1 => ⟨(aM a y.toNat).length + 1, ?_⟩)
        refine rs_glue_L hx hy c (by omega) _ (i := 0) (by omega) (MI.siz (M := aM a) h1.1 hx) (MI.siz (M := aM a) h1.1 hy) (v := fun q => sn σ1 22 (200 * y.toNat + q)) (fun _ _ => rfl) ?_
        have h2 : MI (un (wr 22 (200 * x.toNat + (aM a x.toNat).length) (fun q => sn σ1 22 (200 * y.toNat + q)) (aM a y.toNat).length 0 σ1) 23 x.toNat (((aM a x.toNat).length : Int) + (aM a y.toNat).length)) (updM (aM a) x.toNat (aM a x.toNat ++ aM a y.toNat)) := by
          refine MI.set (M := aM a) h1.1 hw.gm (fun q hq' => ?_) (fun q hq' => ?_) (fun j p hp => ?_) ?_
          · rw [sn_un_i _ _ (by omega), wr_sn, if_neg (by omega)]
          · rw [sn_un_k _ _ hq', wr_sn, if_neg (by omega)]
          · have hj := (List.getElem?_eq_some_iff.mp hp).1
            rw [List.length_append] at hj
            rw [sn_un_i _ _ (by omega), wr_sn, List.getElem?_append] at *
            by_cases c3 : j < (aM a x.toNat).length
            · rw [if_pos c3] at hp
              rw [if_neg (by omega)]
              exact (h1.1 x.toNat (by omega)).1 j p hp
            · rw [if_neg c3] at hp
              rw [if_pos ⟨rfl, by omega, by omega⟩, ← (h1.1 y.toNat (by omega)).1 _ p hp]
              congr 1; omega
          · rw [sn_un_same, List.length_append]; omega
        have h3 := h2.cut (m := y.toNat) (l := []) (v := 0) rfl (fun i p hp => by simp at hp)
        exact fin_set hq h1 s1 h3 (((wr_sm (by simp) _ _ _).tr (Sm.un (by simp))).tr (Sm.un (by simp)))
      · rw [if_neg (by omega)] at hq; exact dr_full h hw hn hq
    rw [h.1.siz hx]
    refine ⟨fun c1 => go (fun q => by omega), fun c1 => ⟨by omega, by omega, ?_⟩⟩
    rw [h.1.siz hy]
    refine ⟨fun c2 => go (fun q => by omega), fun c2 => ⟨by omega, by omega, ⟨by omega, by omega⟩, sr_nk h.1 hw.gm hx (by omega) (by omega) (sr_nk h.1 hw.gm hy (by omega) (by omega) ⟨fun c3 => go (fun q => q.2.2 c3), fun c3 => ?_⟩)⟩⟩
    rw [if_pos ⟨by omega, by omega, c3⟩] at hq; exact dr_no h hw hn hq
  · rw [if_neg (fun q => q.2.2 c)] at hq; exact dr_bad h hw hn hq
  · rw [if_neg (fun q => hy q.2.1)] at hq; exact dr_bad h hw hn hq
  · rw [if_neg (fun q => hx q.1)] at hq; exact dr_bad h hw hn hq
theorem fillL_at (fr st : Int) : ∀ (k j : Nat) (p : KV), (fillL fr st k)[j]? = some p → p = (fr + j * st, hd ((fr + j * st) * fr)) := by
  intro k
  induction k with
  | zero => intro j p h; simp [fillL] at h
  | succ k ih =>
    intro j p h
    rw [fillL, List.getElem?_append] at h
    split at h
    · exact ih j p h
    · rename_i c
      rw [fillL_len] at c h
      have : j = k := by
        have := (List.getElem?_eq_some_iff.mp h).1
        simp at this; omega
      subst this
      simp at h
      exact h.symm
theorem rs_fill_L {Q : Int → SS → Prop} {m fr st : Int} {k : Nat} (hm : isM m) (hfr : isK fr) (hst : 1 ≤ st ∧ st ≤ 50) (hk : k ≤ 200) (hend : k = 0 ∨ fr + ((k : Int) - 1) * st ≤ 500) : ∀ (f : Nat) {i : Nat} {σ : SS}, i + f = k → Q (k : Int) (un (wr 22 (200 * m.toNat) (fun j => pk (fr + j * st, hd ((fr + j * st) * fr))) f i σ) 23 m.toNat (k : Int)) → wX9_fill_L78 m fr (k : Int) st Q (f + 1) (i : Int) σ := by
  intro f
  induction f with
  | zero =>
    intro i σ hf hQ
    rw [wX9_fill_L78]
    exact ⟨⟨by omega, by omega⟩, fun _ => ⟨by omega, by omega, hQ⟩, fun c => by omega⟩
  | succ f ih =>
    intro i σ hf hQ
    have hmul : (i : Int) * st ≤ ((k : Int) - 1) * st := Int.mul_le_mul_of_nonneg_right (by omega) (by omega)
    have hmul0 : 0 ≤ (i : Int) * st := Int.mul_nonneg (by omega) (by omega)
    have hkey : -500 ≤ fr + (i : Int) * st ∧ fr + (i : Int) * st ≤ 500 := by omega
    have hprod := mul_b hkey hfr
    have e2 : (200 * m + (i : Int)).toNat = 200 * m.toNat + i := by omega
    have e3 : ((i : Int) + 1) = ((i + 1 : Nat) : Int) := by omega
    rw [wX9_fill_L78, e2, e3]
    rw [wr] at hQ
    exact ⟨⟨by omega, by omega⟩, fun c => by omega, fun _ => ⟨⟨by omega, by omega⟩, ⟨by omega, by omega⟩, sr_held (sr_entry hkey (hd_in _) ⟨by omega, by omega, ih (by omega) hQ⟩)⟩⟩
theorem rs_fill {Q : Int → SS → Prop} {m fr k st : Int} (h : RI σ a) (hw : AW n a) (hn : n ≤ 1000000) (hq : Dr σ Q (opFill a m fr k st)) : wX9_fill m fr k st σ Q := by
  unfold opFill at hq
  refine sr_isMap (fun hm => ⟨o1, fun _ => sr_isKey (fun hf => ⟨o1, fun _ => sr_in (fun hk => ⟨o1, fun _ => sr_in (fun hs => ⟨fun _ => ?_, o1⟩) (fun hs => ⟨o0, fun _ => ?_⟩)⟩) (fun hk => ⟨fun _ => ?_, o0⟩)⟩) (fun hf => ⟨fun _ => ?_, o0⟩)⟩) (fun hm => ⟨fun _ => ?_, o0⟩)
  · rw [if_pos ⟨hm, hf, hk, hs⟩] at hq
    have go : ¬ (0 < k ∧ ¬ fr + (k - 1) * st ≤ 500) → wX9_keeps σ (fun s27 => ∃ kk, wX9_fill_L78 m fr k st Q kk 0 s27) := by
      intro hc
      rw [if_neg hc] at hq
      refine sr_keeps h hw (fun σ1 h1 s1 => ⟨k.toNat + 1, ?_⟩)
      have hk2 : k = ((k.toNat : Nat) : Int) := by omega
      rw [hk2]
      refine rs_fill_L hm hf hs (by omega) ?_ k.toNat (i := 0) (by omega) ?_
      · by_cases q : k.toNat = 0
        · exact Or.inl q
        · right
          rw [← hk2]
          exact Decidable.byContradiction fun q2 => hc ⟨by omega, q2⟩
      · rw [← hk2]
        refine fin_set hq h1 s1 (MI.set (M := aM a) (l := fillL fr st k.toNat) h1.1 hw.gm (fun q hq' => ?_) (fun q hq' => ?_) (fun j p hp => ?_) ?_) ((wr_sm (by simp) _ _ _).tr (Sm.un (by simp)))
        · rw [sn_un_i _ _ (by omega), wr_sn, if_neg (by omega)]
        · rw [sn_un_k _ _ hq', wr_sn, if_neg (by omega)]
        · have hj := (List.getElem?_eq_some_iff.mp hp).1
          rw [fillL_len] at hj
          rw [fillL_at fr st _ j p hp, sn_un_i _ _ (by omega), wr_sn, if_pos ⟨rfl, by omega, by omega⟩, show 200 * m.toNat + j - 200 * m.toNat = j by omega]
        · rw [sn_un_same, fillL_len]; omega
    refine ⟨fun c => go (fun q => by omega), fun c => ?_⟩
    have h1 : (k - 1) * st ≤ (k - 1) * 50 := Int.mul_le_mul_of_nonneg_left (by omega) (by omega)
    have h2 : 0 ≤ (k - 1) * st := Int.mul_nonneg (by omega) (by omega)
    refine ⟨⟨by omega, by omega⟩, fun c2 => go (fun q => q.2 c2), fun c2 => ?_⟩
    rw [if_pos ⟨by omega, c2⟩] at hq; exact dr_no h hw hn hq
  · rw [if_neg (fun q => hs q.2.2.2)] at hq; exact dr_bad h hw hn hq
  · rw [if_neg (fun q => hk q.2.2.1)] at hq; exact dr_bad h hw hn hq
  · rw [if_neg (fun q => hf q.2.1)] at hq; exact dr_bad h hw hn hq
  · rw [if_neg (fun q => hm q.1)] at hq; exact dr_bad h hw hn hq
end
