/-! ===== sums: the reference does a term ===== -/
section
variable {σ : SS} {M : Nat → List KV} {mk : Int}
def Pn (σ : SS) (vs : List (Option Int)) : Prop := ∀ (i : Nat) (o : Option Int), vs.reverse[i]? = some o → sn σ 36 i = oc o
theorem Pn.push {σ' : SS} {vs : List (Option Int)} {o : Option Int} (h : Pn σ vs) (h1 : ∀ j, j ≠ vs.length → sn σ' 36 j = sn σ 36 j) (h2 : sn σ' 36 vs.length = oc o) : Pn σ' (o :: vs) := by
  intro j x hx
  rw [List.reverse_cons, List.getElem?_append] at hx
  split at hx
  · rename_i c
    rw [List.length_reverse] at c
    rw [h1 j (by omega)]; exact h j x hx
  · rename_i c
    rw [List.length_reverse] at c hx
    have hj : j = vs.length := by
      have := (List.getElem?_eq_some_iff.mp hx).1
      simp only [List.length_singleton] at this; omega
    subst hj
    simp at hx
    rw [h2, hx]
theorem Pn.top {vs : List (Option Int)} {o : Option Int} (h : Pn σ (o :: vs)) : sn σ 36 vs.length = oc o := h vs.length o (by rw [List.reverse_cons, List.getElem?_append_right (by simp)]; simp)
theorem Pn.tl {vs : List (Option Int)} {o : Option Int} (h : Pn σ (o :: vs)) : Pn σ vs := fun j x hx => by
  have hj := (List.getElem?_eq_some_iff.mp hx).1
  exact h j x (by rw [List.reverse_cons, List.getElem?_append_left hj]; exact hx)
theorem vT_len {y : Int} : ∀ (k : List Tok) (vs : List (Option Int)) (h : Nat), (∀ z ∈ k, okT z) → wf k vs.length = some h → (vT mk M y k vs).length = h := by
  intro k
  induction k with
  | nil => intro vs h _ h2; rw [wf] at h2; exact Option.some.inj h2
  | cons x k ih =>
    intro vs h hk h2
    have ih' := fun vs h => ih vs h (fun y hy => hk y (List.mem_cons_of_mem _ hy))
    rw [vT]
    rw [wf] at h2
    unfold vX
    rcases hk x List.mem_cons_self with ⟨a1, -⟩ | ⟨a1, -⟩ | ⟨a1, -⟩
    · rw [if_neg (by omega), if_neg (by omega)]
      rw [if_neg (by omega)] at h2
      split at h2
      · refine ih' _ _ ?_
        rw [List.length_cons, List.length_tail, List.length_tail, show vs.length - 1 - 1 + 1 = vs.length - 1 by omega]; exact h2
      · cases h2
    · rw [if_pos a1]
      rw [if_pos (by omega)] at h2
      exact ih' _ _ h2
    · rw [if_neg (by omega), if_pos a1]
      rw [if_pos (by omega)] at h2
      exact ih' _ _ h2
theorem Ov_hdO {vs : List (Option Int)} (h : ∀ o ∈ vs, Ov o) : Ov (hdO vs) := by
  cases vs with
  | nil => intro v hv; cases hv
  | cons o vs => exact h o List.mem_cons_self
theorem vT_Ov {y : Int} (hg : GM M) : ∀ (k : List Tok) (vs : List (Option Int)), (∀ z ∈ k, okT z) → isK y → (∀ o ∈ vs, Ov o) → ∀ o ∈ vT mk M y k vs, Ov o := by
  intro k
  induction k with
  | nil => intro vs _ _ h; exact h
  | cons x k ih =>
    intro vs hk hy h
    rw [vT]
    refine ih _ (fun y hy => hk y (List.mem_cons_of_mem _ hy)) hy ?_
    intro o ho
    unfold vX at ho
    have ht : ∀ o ∈ vs.tail, Ov o := fun o ho => h o (List.mem_of_mem_tail ho)
    rcases hk x List.mem_cons_self with ⟨a1, -⟩ | ⟨a1, m, a2, a3⟩ | ⟨a1, -⟩
    · rw [if_neg (by omega), if_neg (by omega)] at ho
      rcases List.mem_cons.mp ho with rfl | ho
      · exact Ov_jn (Ov_hdO ht) (Ov_hdO h)
      · exact ht o (List.mem_of_mem_tail ho)
    · rw [if_pos a1, a3] at ho
      rcases List.mem_cons.mp ho with rfl | ho
      · exact Ov_lk (hg.mp a2).2.2.1 y
      · exact h o ho
    · rw [if_neg (by omega), if_pos a1] at ho
      rcases List.mem_cons.mp ho with rfl | ho
      · intro v hv
        split at hv
        · cases hv; exact ⟨by omega, by omega⟩
        · cases hv
      · exact h o ho
theorem sr_isOf_L {Q : Int → SS → Prop} {y : Int} {z e : Nat} (hz : z < 60) (he : e ≤ 130) (h34 : sn σ 34 z = (e : Int)) : ∀ (ks : List Int) {b : Nat} {v3 : Int}, b + ks.length = e → (∀ (j : Nat) (v : Int), ks[j]? = some v → sn σ 35 (b + j) = v) → (v3 = 0 ∨ v3 = 1) → ((v3 = 1 ∨ y ∈ ks) → Q 1 σ) → (¬ (v3 = 1 ∨ y ∈ ks) → Q 0 σ) → wX9_isOf_L10 (z : Int) y Q (ks.length + 1) v3 (b : Int) σ := by
  intro ks
  induction ks with
  | nil =>
    intro b v3 hb hk hv h1 h0
    rw [List.length_nil] at hb
    rw [List.length_nil, wX9_isOf_L10, Int.toNat_natCast, h34]
    refine ⟨by omega, by omega, ⟨by omega, by omega⟩, fun _ => ⟨hv, ?_⟩, fun c => by omega⟩
    rcases hv with rfl | rfl
    · exact h0 (fun z => z.elim (by decide) (fun z => by cases z))
    · exact h1 (Or.inl rfl)
  | cons v ks ih =>
    intro b v3 hb hk hv h1 h0
    rw [List.length_cons] at hb
    have hv0 : sn σ 35 b = v := by have := hk 0 v rfl; rwa [Nat.add_zero] at this
    have e1 : ((b : Int) + 1) = ((b + 1 : Nat) : Int) := by omega
    have ih' : ∀ {v3 : Int}, (v3 = 0 ∨ v3 = 1) → ((v3 = 1 ∨ y ∈ ks) → Q 1 σ) → (¬ (v3 = 1 ∨ y ∈ ks) → Q 0 σ) → wX9_isOf_L10 (z : Int) y Q (ks.length + 1) v3 ((b + 1 : Nat) : Int) σ := fun hv h1 h0 => ih (b := b + 1) (by omega) (fun j w hw => by have := hk (j + 1) w hw; rwa [show b + (j + 1) = b + 1 + j by omega] at this) hv h1 h0
    rw [List.length_cons, wX9_isOf_L10, Int.toNat_natCast, h34, Int.toNat_natCast, hv0, e1]
    refine ⟨by omega, by omega, ⟨by omega, by omega⟩, fun c => by omega, fun _ => ⟨z_R hv, fun c => ih' (Or.inr rfl) (fun _ => h1 (Or.inl (by omega))) (fun q => absurd (Or.inl rfl) q), fun c => ⟨by omega, by omega, fun c2 => ih' (Or.inl rfl) (fun q => h1 (q.elim (fun q => absurd q (by decide)) (fun q => Or.inr (List.mem_cons_of_mem _ q)))) (fun q => h0 (fun z => z.elim (fun z => by omega) (fun z => (List.mem_cons.mp z).elim (fun z => c2 z.symm) (fun z => q (Or.inr z))))), fun c2 => ih' (Or.inr rfl) (fun _ => h1 (Or.inr (by rw [c2]; exact List.mem_cons_self))) (fun q => absurd (Or.inl rfl) q)⟩⟩⟩
theorem sr_isOf {Q : Int → SS → Prop} {y : Int} {k a b : List Tok} {x : Tok} (hm : MkI σ k []) (hk : k = a ++ x :: b) (hx : x.1 = 5) (h60 : stc k ≤ 60) (hn : (kys k).length ≤ 130) (h1 : y ∈ x.2 → Q 1 σ) (h0 : y ∉ x.2 → Q 0 σ) : wX9_isOf (stc a : Int) y σ Q := by
  have h2 := (hm.2.2.2.2 a x b hk).2 hx
  have hs : stc a < stc k := by rw [hk]; exact stc_lt hx
  have hkk : kys k = kys a ++ (x.2 ++ kys b) := by rw [hk, kys_app, kys, if_pos hx]
  have hlen : (kys a).length + x.2.length ≤ (kys k).length := by rw [hkk, List.length_append, List.length_append]; omega
  unfold wX9_isOf
  rw [Int.toNat_natCast, h2.1]
  refine ⟨by omega, by omega, x.2.length + 1, ?_⟩
  refine sr_isOf_L (e := (kys a).length + x.2.length) (by omega) (by omega) (by rw [h2.2]; omega) x.2 (b := (kys a).length) (v3 := 0) rfl (fun j v hv => hm.2.2.2.1 _ v ?_) (Or.inl rfl) (fun z => h1 (z.elim (fun z => absurd z (by decide)) id)) (fun z => h0 (fun q => z (Or.inr q)))
  have hj := (List.getElem?_eq_some_iff.mp hv).1
  rw [List.append_nil, hkk, List.getElem?_append_right (by omega), show (kys a).length + j - (kys a).length = j by omega, List.getElem?_append_left hj]; exact hv
/-- the places in the maps -/
def Pc6 (σ : SS) (M : Nat → List KV) (y : Int) : Prop := ∀ m, m < 6 → sn σ 38 m = ((lo (M m) y).length : Int)
/-- what was counted -/
def Cn (σ : SS) (mk : Int) (M : Nat → List KV) (k : List Tok) (j u : Nat) : Prop := ∀ (i : Nat) (x : Tok), k[i]? = some x → x.1 ≤ 3 → sn σ 37 i = ((tab (fJ mk M k [] i) (if i < j then u + 1 else u)).length : Int)
theorem tab_succ {f : Int → Option Int} {u : Nat} : (tab f (u + 1)).length = (tab f u).length + if f (-500 + (u : Int)) = none then 0 else 1 := by
  rw [tab, List.length_append]
  cases f (-500 + (u : Int)) <;> simp
theorem tab_b (f : Int → Option Int) : ∀ u : Nat, (tab f u).length ≤ u := by
  intro u
  induction u with
  | zero => simp [tab]
  | succ u ih => rw [tab_succ]; split <;> omega
theorem wf_take : ∀ (a b : List Tok) {h r : Nat}, wf (a ++ b) h = some r → ∃ h1, wf a h = some h1 ∧ wf b h1 = some r := by
  intro a b h r e
  rw [wf_app] at e
  cases hh : wf a h with
  | none => rw [hh] at e; cases e
  | some h1 => rw [hh] at e; exact ⟨h1, rfl, e⟩
theorem wf_le : ∀ (k : List Tok) {h r : Nat}, wf k h = some r → r ≤ h + k.length := by
  intro k
  induction k with
  | nil => intro h r e; rw [wf] at e; cases e; simp
  | cons x k ih =>
    intro h r e
    rw [wf] at e
    rw [List.length_cons]
    split at e
    · have := ih e; omega
    · split at e
      · have := ih e; omega
      · cases e
theorem sr_termAt_L {Q : Int → SS → Prop} {k : List Tok} {u : Nat} (hg : GM M) (hmk2 : 0 ≤ mk ∧ mk ≤ 5) (hok : ∀ z ∈ k, okT z) (hwf : wf k 0 = some 1) (hl : k.length ≤ 120) (h60 : stc k ≤ 60) (hky : (kys k).length ≤ 130) (hu : u ≤ 1000) : ∀ (b : List Tok) {a : List Tok} {σ : SS}, k = a ++ b → MI σ M → MkI σ k [] → sn σ 21 9 = mk → Pc6 σ M (-500 + (u : Int)) → Pn σ (vT mk M (-500 + (u : Int)) a []) → Cn σ mk M k a.length u → (∀ σ', Cn σ' mk M k k.length u → Sm [36, 37] σ σ' → Q (oc (hdO (vT mk M (-500 + (u : Int)) k []))) σ') → wX9_termAt_L4 (-500 + (u : Int)) Q (b.length + 1) ((vT mk M (-500 + (u : Int)) a []).length : Int) (a.length : Int) σ := by
  intro b
  induction b with
  | nil =>
    intro a σ hk hM hm hmk hp hpn hc hq
    rw [List.append_nil] at hk
    subst hk
    rw [List.length_nil, wX9_termAt_L4, hm.1]
    refine ⟨⟨by omega, by omega⟩, fun _ => ?_, fun c => by omega⟩
    have hlen : (vT mk M (-500 + (u : Int)) k []).length = 1 := vT_len k [] 1 hok hwf
    obtain ⟨o, ho⟩ := List.length_eq_one_iff.mp hlen
    have := hq σ hc (Sm.rf _ _)
    rw [ho] at this hpn
    rw [show ((0 : Int).toNat) = 0 from rfl, hpn 0 o rfl]; exact this
  | cons x b ih =>
    intro a σ hk hM hm hmk hp hpn hc hq
    have hx : okT x := hok x (by rw [hk]; simp)
    have hka : k.length = a.length + b.length + 1 := by rw [hk, List.length_append, List.length_cons]; omega
    have hkj : k[a.length]? = some x := by rw [hk, List.getElem?_append_right (by omega), Nat.sub_self]; rfl
    have h31 := (hm.2.2.2.2 a x b hk).1
    obtain ⟨h1, w1, w2⟩ := wf_take a (x :: b) (by rw [← hk]; exact hwf)
    have hoa : ∀ z ∈ a, okT z := fun z hz => hok z (by rw [hk]; exact List.mem_append_left _ hz)
    have hvl : (vT mk M (-500 + (u : Int)) a []).length = h1 := vT_len a [] h1 hoa w1
    have hh1 := wf_le a w1
    have hOv : ∀ o ∈ vT mk M (-500 + (u : Int)) a [], Ov o := vT_Ov hg a [] hoa ⟨by omega, by omega⟩ (fun o ho => by cases ho)
    generalize hvs : vT mk M (-500 + (u : Int)) a [] = vs at *
    have hnext : vT mk M (-500 + (u : Int)) (a ++ [x]) [] = vX mk M (-500 + (u : Int)) x vs := by rw [vT_app, hvs]; rfl
    have hk' : k = (a ++ [x]) ++ b := by rw [hk, List.append_assoc]; rfl
    have e1 : ((a.length : Int) + 1) = ((a ++ [x]).length : Int) := by rw [List.length_append, List.length_singleton]; omega
    have hfJ : fJ mk M k [] a.length (-500 + (u : Int)) = hdO (vX mk M (-500 + (u : Int)) x vs) := by
      unfold fJ
      rw [hk', show (a ++ [x] ++ b).take (a.length + 1) = a ++ [x] by rw [List.take_append_of_le_length (by simp), List.take_of_length_le (by simp)], List.map_nil, hnext]
    -- the next mark
    have next : ∀ {σ' : SS} {v2 : Int} {is : List Nat}, v2 = ((vX mk M (-500 + (u : Int)) x vs).length : Int) → Sm [36, 37] σ σ' → Pn σ' (vX mk M (-500 + (u : Int)) x vs) → Cn σ' mk M k (a ++ [x]).length u → wX9_termAt_L4 (-500 + (u : Int)) Q (b.length + 1) v2 ((a ++ [x]).length : Int) σ' := by
      intro σ' v2 is ev s1 p1 c1
      rw [ev, ← hnext]
      refine ih hk' (hM.sm s1 (by simp) (by simp)) ?_ (by rw [(s1.1 21 (by simp) 9).1]; exact hmk) (fun m hm' => by rw [(s1.1 38 (by simp) m).1]; exact hp m hm') (by rw [hnext]; exact p1) c1 (fun σ2 d1 d2 => hq σ2 d1 (s1.tr d2))
      exact hm.f (is := [36, 37]) (ks := []) ⟨s1.up (by simp), fun j _ => (s1.1 21 (by simp) j).1⟩ (by simp) (by simp) (by simp) (by simp) (by simp) (by simp) (by simp)
    have cnN : ∀ {σ' : SS}, ¬ x.1 ≤ 3 → (∀ i, sn σ' 37 i = sn σ 37 i) → Cn σ' mk M k (a ++ [x]).length u := by
      intro σ' h3 h37 i z hz hz3
      have hi : i ≠ a.length := fun e => h3 (by rw [e, hkj] at hz; rw [Option.some.inj hz]; exact hz3)
      rw [h37, hc i z hz hz3, List.length_append, List.length_singleton]
      by_cases c : i < a.length
      · rw [if_pos c, if_pos (by omega)]
      · rw [if_neg c, if_neg (by omega)]
    rw [List.length_cons, wX9_termAt_L4, hm.1, Int.toNat_natCast, h31, e1]
    refine ⟨⟨by omega, by omega⟩, fun c => by rw [hka] at c; omega, fun _ => ⟨by omega, by omega, ?_⟩⟩
    rcases hx with ⟨a1, a2⟩ | ⟨a1, m, a2, a3⟩ | ⟨a1, a2, a3⟩
    · -- a sign
      have ec : cod a x = 10 + x.1 := by unfold cod; rw [if_neg (by omega), if_neg (by omega)]
      rw [wf, if_neg (by omega)] at w2
      have h2 : 2 ≤ h1 := Decidable.byContradiction fun z => by rw [if_neg z] at w2; cases w2
      obtain ⟨y, w, vs2, rfl⟩ : ∃ y w vs2, vs = y :: w :: vs2 := by
        match vs, hvl with
        | [], h => simp at h; omega
        | [_], h => simp at h; omega
        | y :: w :: vs2, _ => exact ⟨y, w, vs2, rfl⟩
      rw [List.length_cons, List.length_cons] at hvl
      have eX : vX mk M (-500 + (u : Int)) x (y :: w :: vs2) = jn x.1 mk w y :: vs2 := by unfold vX; rw [if_neg (by omega), if_neg (by omega)]; rfl
      have t1 : sn σ 36 (vs2.length + 1) = oc y := hpn.top
      have t2 : sn σ 36 vs2.length = oc w := hpn.tl.top
      have n1 : (((y :: w :: vs2).length : Int) + -1 - 1) = (vs2.length : Int) := by rw [List.length_cons, List.length_cons]; omega
      have n2 : (((y :: w :: vs2).length : Int) + -1) = ((vs2.length + 1 : Nat) : Int) := by rw [List.length_cons, List.length_cons]; omega
      have oy : Ov y := hOv y List.mem_cons_self
      have ow : Ov w := hOv w (List.mem_cons_of_mem _ List.mem_cons_self)
      have oj := Ov_jn (s := x.1) (mk := mk) ow oy
      rw [ec, n1, n2]
      simp only [Int.toNat_natCast]
      rw [t1, t2, show (10 + x.1 - 10) = x.1 by omega]
      refine ⟨fun _ => ⟨fun c => by omega, fun _ => ⟨by omega, by omega, by omega, by omega, ⟨by omega, by omega⟩, sr_joins a1 hmk hmk2 ow oy ⟨by omega, by omega, by omega, by omega, by omega, by omega, ?_⟩⟩⟩, fun c => by omega⟩
      have hcn := hc a.length x hkj a1.2
      rw [if_neg (by omega)] at hcn
      have h37 : sn (un σ 36 vs2.length (oc (jn x.1 mk w y))) 37 a.length = ((tab (fJ mk M k [] a.length) u).length : Int) := by rw [sn_un_i _ _ (by omega)]; exact hcn
      have hb := tab_b (fJ mk M k [] a.length) u
      have hts := tab_succ (f := fJ mk M k [] a.length) (u := u)
      have hfv : fJ mk M k [] a.length (-500 + (u : Int)) = jn x.1 mk w y := by rw [hfJ, eX]; rfl
      rw [hfv] at hts
      rw [sn_un_same, h37]
      have fin : ∀ dd : Int, ((tab (fJ mk M k [] a.length) u).length : Int) + dd = ((tab (fJ mk M k [] a.length) (u + 1)).length : Int) → wX9_termAt_L4 (-500 + (u : Int)) Q (b.length + 1) ((vs2.length + 1 : Nat) : Int) ((a ++ [x]).length : Int) (un (un σ 36 vs2.length (oc (jn x.1 mk w y))) 37 a.length (((tab (fJ mk M k [] a.length) u).length : Int) + dd)) := by
        intro dd hdd
        refine next (is := []) (by rw [eX, List.length_cons]) ((Sm.un (by simp)).tr (Sm.un (by simp))) ?_ ?_
        · rw [eX]
          refine (hpn.tl.tl).push (fun i hi => ?_) ?_
          · rw [sn_un_i _ _ (by omega), sn_un_k _ _ hi]
          · rw [sn_un_i _ _ (by omega), sn_un_same]
        · intro i z hz hz3
          rw [List.length_append, List.length_singleton, sn_un]
          by_cases ci : i = a.length
          · rw [if_pos ⟨rfl, ci⟩, ci, if_pos (by omega), hdd]
          · rw [if_neg (fun q => ci q.2), sn_un_i _ _ (by omega), hc i z hz hz3]
            by_cases c : i < a.length
            · rw [if_pos c, if_pos (by omega)]
            · rw [if_neg c, if_neg (by omega)]
      refine ⟨fun c => ⟨by omega, by omega, ⟨by omega, by omega⟩, fin 1 ?_⟩, fun c => ⟨by omega, by omega, ⟨by omega, by omega⟩, fin 0 ?_⟩⟩
      · rw [hts, if_neg (fun z => c ((oc_none oj).mpr z))]; omega
      · rw [hts, if_pos ((oc_none oj).mp c)]; omega
    · -- a map
      have ec : cod a x = m := by unfold cod; rw [if_pos a1, a3]; rfl
      have eX : vX mk M (-500 + (u : Int)) x vs = lk (M m.toNat) (-500 + (u : Int)) :: vs := by unfold vX; rw [if_pos a1, a3]; rfl
      have hp6 := hp m.toNat (by omega)
      have fin : ∀ {o : Option Int} {v : Int}, lk (M m.toNat) (-500 + (u : Int)) = o → v = oc o → wX9_termAt_L4 (-500 + (u : Int)) Q (b.length + 1) ((vs.length : Int) + 1) ((a ++ [x]).length : Int) (un σ 36 vs.length v) := by
        intro o v ho hv
        refine next (is := []) (by rw [eX, List.length_cons]; omega) (Sm.un (by simp)) ?_ (cnN (by omega) (fun i => sn_un_i _ _ (by omega)))
        rw [eX]
        exact hpn.push (fun i hi => sn_un_k _ _ hi) (by rw [sn_un_same, hv, ho])
      rw [ec, hp6]
      refine ⟨fun _ => ⟨fun _ => ⟨by omega, by omega, sr_isThere hM hg a2 (fun v hv hpp => ⟨o1, fun _ => ⟨by omega, by omega, ?_⟩⟩) (fun hv => ⟨fun _ => ⟨by omega, by omega, ?_⟩, o0⟩)⟩, fun c => by omega⟩, fun c => by omega⟩
      · rw [hp6]
        refine sr_valueAt hM hg a2 hpp ⟨by omega, by omega, ?_⟩
        rw [Int.toNat_natCast]
        exact fin hv rfl
      · rw [Int.toNat_natCast]
        exact fin hv rfl
    · -- a set
      have ec : cod a x = 20 + (stc a : Int) := by unfold cod; rw [if_neg (by omega), if_pos a1]
      have eX : vX mk M (-500 + (u : Int)) x vs = (if (-500 + (u : Int)) ∈ x.2 then some (-500 + (u : Int)) else none) :: vs := by unfold vX; rw [if_neg (by omega), if_pos a1]
      have fin : ∀ {v : Int}, v = oc (if (-500 + (u : Int)) ∈ x.2 then some (-500 + (u : Int)) else none) → wX9_termAt_L4 (-500 + (u : Int)) Q (b.length + 1) ((vs.length : Int) + 1) ((a ++ [x]).length : Int) (un σ 36 vs.length v) := by
        intro v hv
        refine next (is := []) (by rw [eX, List.length_cons]; omega) (Sm.un (by simp)) ?_ (cnN (by omega) (fun i => sn_un_i _ _ (by omega)))
        rw [eX]
        exact hpn.push (fun i hi => sn_un_k _ _ hi) (by rw [sn_un_same, hv])
      have hst : stc a < stc k := by rw [hk]; exact stc_lt a1
      rw [ec, show (20 + (stc a : Int) - 20) = (stc a : Int) by omega]
      refine ⟨fun c => by omega, fun _ => ⟨⟨by omega, by omega⟩, sr_isOf hm hk a1 h60 hky (fun hin => ⟨o1, fun _ => ⟨by omega, by omega, ?_⟩⟩) (fun hin => ⟨fun _ => ⟨by omega, by omega, ?_⟩, o0⟩)⟩⟩
      · rw [Int.toNat_natCast]; exact fin (by rw [if_pos hin]; rfl)
      · rw [Int.toNat_natCast]; exact fin (by rw [if_neg hin]; rfl)
end
