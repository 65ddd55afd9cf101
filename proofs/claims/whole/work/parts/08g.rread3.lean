/-! ===== sums: the reference's reader: a term ===== -/
section
variable {σ : SS} {t : List Int}
abbrev sc4 : List Nat := [31, 32, 33, 34, 35]
abbrev sc5 : List Nat := [13, 15, 18, 20, 24, 26]
theorem OpI.push {σ' : SS} {q : List Int} {s v : Int} (h : OpI σ q) (h15 : sn σ' 21 15 = ((q.length + 1 : Nat) : Int)) (h32 : ∀ j, j ≠ q.length → sn σ' 32 j = sn σ 32 j) (h32' : sn σ' 32 q.length = v) (hv : v = if s = -1 then 40 else s) : OpI σ' (s :: q) := by
  refine ⟨by rw [h15, List.length_cons], fun j x hx => ?_⟩
  rw [List.reverse_cons, List.getElem?_append] at hx
  split at hx
  · rename_i c
    rw [List.length_reverse] at c
    rw [h32 j (by omega)]; exact h.2 j x hx
  · rename_i c
    rw [List.length_reverse] at c hx
    have hj : j = q.length := by
      have := (List.getElem?_eq_some_iff.mp hx).1
      simp only [List.length_singleton] at this; omega
    subst hj
    simp at hx
    rw [h32', hv, hx]
theorem sr_term_L {Q : Int → SS → Prop} (hL : t.length ≤ 120) : ∀ (f : Nat) {i w : Nat} {tg : Int} {q : List Int} {k : List Tok} {g : List Int} {d : List (Int × List Tok)} {σ : SS}, t.length + 1 ≤ i + f → PV t (i, w, tg, q, k, g, d) → (w = 2 ∨ w = 3) → Ty σ t → sn σ 21 24 = (i : Int) → MkI σ k [] → OpI σ q →
    (∀ (σ' : SS) (i' : Nat) (k' : List Tok) (g' : List Int), rdp t (i, w, tg, q, k, g, d) = rdp t (i', 0, tg, [], [], g', d ++ [(tg, k')]) → PV t (i', 0, tg, [], [], g', d ++ [(tg, k')]) → i < i' → sn σ' 21 24 = (i' : Int) → MkI σ' k' [] → stc k' ≤ 60 → F21 sc4 sc5 σ σ' → Q 1 σ') → (∀ (σ' : SS) (j : Nat), rdp t (i, w, tg, q, k, g, d) = ((j : Int), []) → sn σ' 21 24 = (j : Int) → F21 sc4 sc5 σ σ' → Q 0 σ') → wX9_readsTerm_L24 Q f (opn q : Int) (if w = 2 then 1 else 0) σ := by
  intro f
  induction f with
  | zero => intro i w tg q k g d σ h1 h2; have := h2.1; dsimp only at this; omega
  | succ f ih =>
    intro i w tg q k g d σ hf hP0 hw hT0 h240 hm0 ho0 hok0 hno0
    rw [wX9_readsTerm_L24]
    refine sr_skips hL hP0.1 hT0 h240 (fun σ1 j hsk h24 f1 => ?_)
    have hT := hT0.f f1 (by simp) (by simp)
    have hm := hm0.f f1 (by simp) (by simp) (by simp) (by simp) (by simp) (by simp) (by simp)
    have ho := ho0.f f1 (by simp) (by simp)
    have hP := hP0.le hsk.1 hsk.2.1
    have f1' : F21 sc4 sc5 σ σ1 := f1.up (by simp) (by simp)
    have hij := hsk.1
    have hr0 := hsk.2.2.2 w tg q k g d
    have hc := hsk.2.2.1
    have hok : ∀ (σ' : SS) (i' : Nat) (k' : List Tok) (g' : List Int), rdp t (j, w, tg, q, k, g, d) = rdp t (i', 0, tg, [], [], g', d ++ [(tg, k')]) → PV t (i', 0, tg, [], [], g', d ++ [(tg, k')]) → j < i' → sn σ' 21 24 = (i' : Int) → MkI σ' k' [] → stc k' ≤ 60 → F21 sc4 sc5 σ1 σ' → Q 1 σ' := fun σ' i' k' g' a1 a2 a3 a4 a5 a7 a6 => hok0 σ' i' k' g' (hr0.trans a1) a2 (by omega) a4 a5 a7 (f1'.tr a6)
    have hno : ∀ (σ' : SS) (j' : Nat), rdp t (j, w, tg, q, k, g, d) = ((j' : Int), []) → sn σ' 21 24 = (j' : Int) → F21 sc4 sc5 σ1 σ' → Q 0 σ' := fun σ' j' a1 a2 a3 => hno0 σ' j' (hr0.trans a1) a2 (f1'.tr a3)
    clear hok0 hno0 hr0 hP0 hT0 hm0 ho0 h240
    obtain ⟨v1, v2, v3, v4, v5, v6, v7, v8, v9, v10, v11, v12, v13⟩ := id hP
    dsimp only at v1 v2 v4 v13
    rw [if_neg (by omega)] at v13
    have kl := kys_len (k := k)
    have opl := opn_sg (q := q)
    have rej : stp t (j, w, tg, q, k, g, d) = none → Q 0 σ1 := fun hs => hno σ1 j (rdp_rej v1 hc hs (Or.inl (by omega))) h24 (F21.rf _ _ _)
    -- a step, and on
    have go : ∀ {w' : Nat} {q' : List Int} {k' : List Tok} {g' : List Int} {σ' : SS} {vd va : Int}, stp t (j, w, tg, q, k, g, d) = some (j + 1, w', tg, q', k', g', d) → (w' = 2 ∨ w' = 3) → j < t.length → sn σ' 21 24 = ((j + 1 : Nat) : Int) → MkI σ' k' [] → OpI σ' q' → F21 sc4 sc5 σ1 σ' → vd = (opn q' : Int) → va = (if w' = 2 then 1 else 0) → wX9_readsTerm_L24 Q f vd va σ' := by
      intro w' q' k' g' σ' vd va hs hw' hj a24 am ao af evd eva
      have P' := PV_stp hP (by dsimp only; exact hj) hs
      have r' := rdp_go (s := (j, w, tg, q, k, g, d)) (by dsimp only; exact hj) (by dsimp only; exact hc) hs
      rw [evd, eva]
      exact ih (by omega) P' hw' (hT.f af (by simp) (by simp)) a24 am ao (fun σ2 i2 k2 g2 b1 b2 b3 b4 b5 b7 b6 => hok σ2 i2 k2 g2 (r'.trans b1) b2 (by omega) b4 b5 b7 (af.tr b6)) (fun σ2 j2 b1 b2 b3 => hno σ2 j2 (r'.trans b1) b2 (af.tr b3))
    rw [h24]
    refine sr_byteAt hL hT ?_
    rcases hw with rfl | rfl
    · -- an atom
      have e2 : (if (2 : Nat) = 2 then (1 : Int) else 0) = 1 := if_pos rfl
      have hstp : stp t (j, 2, tg, q, k, g, d) = (if isL (bt t j) then some (j + 1, 3, tg, q, k ++ [(4, [bt t j - 97])], g, d) else if bt t j = 40 then some (j + 1, 2, tg, -1 :: q, k, g, d) else if bt t j = 123 then some (j + 1, 4, tg, q, k, [], d) else none) := by
        rw [stp, if_neg (by omega), if_neg (by omega), if_pos rfl]
      rw [e2]
      refine ⟨by decide, o1, fun _ => ⟨fun c40 => ?_, fun c40 => ?_⟩⟩
      · have l173 : ¬ isL (bt t j) → ¬ bt t j = 123 → wX9_readsTerm_L173 Q (fun v1 v2 sL => wX9_readsTerm_L24 Q f v1 v2 sL) (opn q : Int) 1 (bt t j) σ1 := fun c1 c2 =>
          ⟨by decide, fun _ => ⟨by decide, fun _ => ⟨by decide, fun _ => rej (by rw [hstp, if_neg c1, if_neg c40, if_neg c2]), o1⟩, o1⟩, o1⟩
        have bR : R32 (bt t j) := hT.bR j
        refine ⟨by decide, o1, fun _ => ⟨bR, fun c1 => ⟨by decide, o1, fun _ => ⟨bR, sr_in (fun hl => ⟨o1, fun _ => ?_⟩) (fun hl => ⟨fun _ => l173 hl c1, o0⟩)⟩⟩, fun c1 => ?_⟩⟩
        · have hj : j < t.length := bt_lt rfl (by omega)
          rw [hm.1, Int.toNat_natCast]
          have e3 : sn (un σ1 31 k.length (bt t j - 97)) 21 13 = (k.length : Int) := by rw [sn_un_i _ _ (by omega)]; exact hm.1
          rw [e3, show ((k.length : Int) + 1) = ((k.length + 1 : Nat) : Int) by omega]
          have e4 : sn (un (un σ1 31 k.length (bt t j - 97)) 21 13 ((k.length + 1 : Nat) : Int)) 21 24 = (j : Int) := by rw [sn_un_k _ _ (by omega), sn_un_i _ _ (by omega)]; exact h24
          rw [e4, show ((j : Int) + 1) = ((j + 1 : Nat) : Int) by omega]
          have fr : F21 [31] [13, 24] σ1 (un (un (un σ1 31 k.length (bt t j - 97)) 21 13 ((k.length + 1 : Nat) : Int)) 21 24 ((j + 1 : Nat) : Int)) := ((F21.un (by simp) (by omega)).tr (F21.u21 (by simp))).tr (F21.u21 (by simp))
          refine ⟨by omega, by omega, ⟨by omega, by omega⟩, ⟨by omega, by omega⟩, ⟨by omega, by omega⟩, go (w' := 3) (by rw [hstp, if_pos hl]) (Or.inr rfl) hj (sn_un_same _ _ _ _) (hm.add (x := (4, [bt t j - 97])) (by dsimp only; omega) ?_ (fr.2 18 (by simp)) (fr.2 20 (by simp)) (fr.ot (by simp) (by omega)) (fr.ot (by simp) (by omega)) (fr.ot (by simp) (by omega)) (fun x hx => ?_) ?_) (ho.f fr (by simp) (by simp)) (fr.up (by simp) (by simp)) rfl rfl⟩
          · rw [sn_un_k _ _ (by omega), sn_un_same]
          · rw [sn_un_i _ _ (by omega), sn_un_i _ _ (by omega), sn_un_k _ _ hx]
          · rw [sn_un_i _ _ (by omega), sn_un_i _ _ (by omega), sn_un_same]; rfl
        · have hj : j < t.length := bt_lt c1 (by decide)
          have hs : stp t (j, 2, tg, q, k, g, d) = some (j + 1, 4, tg, q, k, [], d) := by rw [hstp, if_neg (by omega), if_neg (by omega), if_pos c1]
          have P' := PV_stp hP (by dsimp only; exact hj) hs
          have r' := rdp_go (s := (j, 2, tg, q, k, g, d)) (by dsimp only; exact hj) (by dsimp only; exact hc) hs
          rw [h24, show ((j : Int) + 1) = ((j + 1 : Nat) : Int) by omega]
          have fr : F21 [] [24] σ1 (un σ1 21 24 ((j + 1 : Nat) : Int)) := F21.u21 (by simp)
          have fr' : F21 sc4 sc5 σ1 (un σ1 21 24 ((j + 1 : Nat) : Int)) := fr.up (by simp) (by simp)
          refine ⟨⟨by omega, by omega⟩, sr_readsSet hL P' (hT.f fr (by simp) (by simp)) (sn_un_same _ _ _ _) (hm.f fr (by simp) (by simp) (by simp) (by simp) (by simp) (by simp) (by simp)) (fun σ2 i2 g2 b1 b2 b3 b4 b5 b6 => ⟨fun _ => ?_, o1⟩) (fun σ2 j2 b1 b2 b3 => ⟨o0, fun _ => hno σ2 j2 (r'.trans b1) b2 (fr'.tr (b3.up (by simp) (by simp)))⟩)⟩
          have f12 : F21 sc4 sc5 σ1 σ2 := fr'.tr (b6.up (by simp) (by simp))
          have := ih (w := 3) (i := i2) (by omega) b2 (Or.inr rfl) (hT.f f12 (by simp) (by simp)) b4 b5 ((ho.f fr (by simp) (by simp)).f b6 (by simp) (by simp)) (fun σ3 i3 k3 g3 d1 d2 d3 d4 d5 d7 d6 => hok σ3 i3 k3 g3 ((r'.trans b1).trans d1) d2 (by omega) d4 d5 d7 (f12.tr d6)) (fun σ3 j3 d1 d2 d3 => hno σ3 j3 ((r'.trans b1).trans d1) d2 (f12.tr d3))
          exact this
      · have hj : j < t.length := bt_lt c40 (by decide)
        rw [ho.1, Int.toNat_natCast, c40]
        have e3 : sn (un σ1 32 q.length 40) 21 15 = (q.length : Int) := by rw [sn_un_i _ _ (by omega)]; exact ho.1
        rw [e3, show ((q.length : Int) + 1) = ((q.length + 1 : Nat) : Int) by omega]
        have e4 : sn (un (un σ1 32 q.length 40) 21 15 ((q.length + 1 : Nat) : Int)) 21 24 = (j : Int) := by rw [sn_un_k _ _ (by omega), sn_un_i _ _ (by omega)]; exact h24
        rw [e4, show ((j : Int) + 1) = ((j + 1 : Nat) : Int) by omega]
        have fr : F21 [32] [15, 24] σ1 (un (un (un σ1 32 q.length 40) 21 15 ((q.length + 1 : Nat) : Int)) 21 24 ((j + 1 : Nat) : Int)) := ((F21.un (by simp) (by omega)).tr (F21.u21 (by simp))).tr (F21.u21 (by simp))
        refine ⟨by omega, by omega, ⟨by omega, by omega⟩, ⟨by omega, by omega⟩, go (w' := 2) (q' := -1 :: q) (by rw [hstp, if_neg (by omega), if_pos c40]) (Or.inl rfl) hj (sn_un_same _ _ _ _) (hm.f fr (by simp) (by simp) (by simp) (by simp) (by simp) (by simp) (by simp)) (ho.push (v := 40) ?_ (fun x hx => ?_) ?_ rfl) (fr.up (by simp) (by simp)) ?_ rfl⟩
        · rw [sn_un_k _ _ (by omega), sn_un_same]
        · rw [sn_un_i _ _ (by omega), sn_un_i _ _ (by omega), sn_un_k _ _ hx]
        · rw [sn_un_i _ _ (by omega), sn_un_i _ _ (by omega), sn_un_same]
        · rw [opn_cons, if_pos rfl]; omega
    · -- behind an atom
      have e2 : (if (3 : Nat) = 2 then (1 : Int) else 0) = 0 := if_neg (by decide)
      have bR : R32 (bt t j) := hT.bR j
      have hstp : stp t (j, 3, tg, q, k, g, d) = (match sgn (bt t j) with
        | some s => some (j + 1, 2, tg, s :: (popW (str s) q).1, k ++ (popW (str s) q).2, g, d)
        | none => if bt t j = 41 then (if -1 ∈ q then some (j + 1, 3, tg, (popW 1 q).1.tail, k ++ (popW 1 q).2, g, d) else none) else if bt t j = 59 then (if -1 ∈ q then none else some (j + 1, 0, tg, [], [], g, d ++ [(tg, k ++ (popW 1 q).2)])) else none) := by
        rw [stp, if_neg (by omega), if_neg (by omega), if_neg (by omega), if_pos rfl]
        cases sgn (bt t j) <;> rfl
      have zR : R32 (opn q : Int) := ⟨by omega, by omega⟩
      have l249 : (sgn (bt t j) = none → stp t (j, 3, tg, q, k, g, d) = none) → wX9_readsTerm_L249 Q (fun v1 v2 sL => wX9_readsTerm_L24 Q f v1 v2 sL) (opn q : Int) 0 (bt t j) σ1 := by
        intro hn
        refine ⟨by decide, o0, fun _ => ⟨bR, sr_sortBy (fun hs => ⟨fun _ => rej (hn hs), fun c => absurd rfl c⟩) (fun s hs => ⟨fun c => ?_, fun c => ?_⟩)⟩⟩
        · have := sgn_in hs; omega
        · have hin := sgn_in hs
          have hj : j < t.length := bt_lt rfl (fun z => by rw [z] at hs; simp [sgn] at hs)
          refine sr_sortBy (fun hs' => by rw [hs] at hs'; cases hs') (fun s' hs' => ?_)
          have : s' = s := by rw [hs] at hs'; exact (Option.some.inj hs').symm
          subst this
          refine sr_does ⟨hin.1, hin.2.1⟩ v4 ho hm (by omega) (fun σ2 o2 m2 f2 => ?_)
          refine sr_sortBy (fun hs' => by rw [hs] at hs'; cases hs') (fun s2 hs2 => ?_)
          have : s2 = s' := by rw [hs] at hs2; exact (Option.some.inj hs2).symm
          subst this
          have p3 := (popW_tok hin.2.2 v4).2.2.1
          generalize hq' : (popW (str s2) q).1 = q' at *
          generalize hk' : (popW (str s2) q).2 = k' at *
          rw [o2.1, Int.toNat_natCast]
          have e3 : sn (un σ2 32 q'.length s2) 21 15 = (q'.length : Int) := by rw [sn_un_i _ _ (by omega)]; exact o2.1
          rw [e3, show ((q'.length : Int) + 1) = ((q'.length + 1 : Nat) : Int) by omega]
          have e4 : sn (un (un σ2 32 q'.length s2) 21 15 ((q'.length + 1 : Nat) : Int)) 21 24 = (j : Int) := by rw [sn_un_k _ _ (by omega), sn_un_i _ _ (by omega), f2.2 24 (by simp)]; exact h24
          rw [e4, show ((j : Int) + 1) = ((j + 1 : Nat) : Int) by omega]
          have fr : F21 [32] [15, 24] σ2 (un (un (un σ2 32 q'.length s2) 21 15 ((q'.length + 1 : Nat) : Int)) 21 24 ((j + 1 : Nat) : Int)) := ((F21.un (by simp) (by omega)).tr (F21.u21 (by simp))).tr (F21.u21 (by simp))
          refine ⟨by omega, by omega, ⟨by omega, by omega⟩, ⟨by omega, by omega⟩, go (w' := 2) (q' := s2 :: q') (k' := k ++ k') (g' := g) (by rw [hstp, hs]; dsimp only; rw [hq', hk']) (Or.inl rfl) hj (sn_un_same _ _ _ _) (m2.f fr (by simp) (by simp) (by simp) (by simp) (by simp) (by simp) (by simp)) (o2.push (v := s2) ?_ (fun x hx => ?_) ?_ (by rw [if_neg (by omega)])) ((f2.up (by simp) (by simp)).tr (fr.up (by simp) (by simp))) ?_ rfl⟩
          · rw [sn_un_k _ _ (by omega), sn_un_same]
          · rw [sn_un_i _ _ (by omega), sn_un_i _ _ (by omega), sn_un_k _ _ hx]
          · rw [sn_un_i _ _ (by omega), sn_un_i _ _ (by omega), sn_un_same]
          · rw [opn_cons, if_neg (by omega), ← hq', opn_pop hin.2.2]; omega
      have s0 : str 0 = 1 := by decide
      have l218 : (bt t j = 41 → opn q = 0) → wX9_readsTerm_L218 Q (fun v1 v2 sL => wX9_readsTerm_L24 Q f v1 v2 sL) (opn q : Int) 0 (bt t j) σ1 := by
        intro h41
        have h41' : bt t j = 41 → (-1 : Int) ∉ q := fun z => opn_zero.mp (h41 z)
        refine ⟨by decide, o0, fun _ => ⟨bR, fun c59 => l249 (fun hn => ?_), fun c59 => ⟨zR, fun c0 => l249 (fun hn => ?_), fun c0 => ?_⟩⟩⟩
        · rw [hstp, hn]; dsimp only
          by_cases c41 : bt t j = 41
          · rw [if_pos c41, if_neg (h41' c41)]
          · rw [if_neg c41, if_neg c59]
        · rw [hstp, hn]; dsimp only
          rw [if_neg (by omega), if_pos c59, if_pos]
          exact Decidable.byContradiction fun z => c0 (by have := opn_zero.mpr z; omega)
        · have hj : j < t.length := bt_lt c59 (by decide)
          have hn1 : (-1 : Int) ∉ q := opn_zero.mp (by omega)
          refine sr_does (by decide) v4 ho hm (by omega) (fun σ2 o2 m2 f2 => ?_)
          rw [s0] at m2
          have b24 : sn σ2 21 24 = (j : Int) := by rw [f2.2 24 (by simp)]; exact h24
          rw [b24, show ((j : Int) + 1) = ((j + 1 : Nat) : Int) by omega]
          have hs : stp t (j, 3, tg, q, k, g, d) = some (j + 1, 0, tg, [], [], g, d ++ [(tg, k ++ (popW 1 q).2)]) := by
            have : sgn (bt t j) = none := by rw [c59]; decide
            rw [hstp, this]; dsimp only
            rw [if_neg (by omega), if_pos c59, if_neg hn1]
          have fr : F21 [] [24] σ2 (un σ2 21 24 ((j + 1 : Nat) : Int)) := F21.u21 (by simp)
          exact ⟨⟨by omega, by omega⟩, hok _ (j + 1) (k ++ (popW 1 q).2) g (rdp_go (s := (j, 3, tg, q, k, g, d)) (by dsimp only; exact hj) (by dsimp only; exact hc) hs) (PV_stp hP (by dsimp only; exact hj) hs) (by omega) (sn_un_same _ _ _ _) (m2.f fr (by simp) (by simp) (by simp) (by simp) (by simp) (by simp) (by simp)) (by rw [stc_app, (popW_tok (Int.le_refl 1) v4).2.2.2]; omega) ((f2.up (by simp) (by simp)).tr (fr.up (by simp) (by simp)))⟩
      rw [e2]
      refine ⟨by decide, fun _ => ⟨by decide, fun _ => ⟨by decide, fun _ => ⟨by decide, o0, fun _ => ⟨bR, fun c41 => l218 (fun z => absurd z c41), fun c41 => ⟨zR, fun c0 => l218 (fun _ => by omega), fun c0 => ?_⟩⟩⟩, o0⟩, o0⟩, o0⟩
      have hj : j < t.length := bt_lt c41 (by decide)
      have hm1 : (-1 : Int) ∈ q := Decidable.byContradiction fun z => c0 (by have := opn_zero.mpr z; omega)
      obtain ⟨q1, hq1⟩ := (popW_one v4).2 hm1
      refine sr_does (by decide) v4 ho hm (by omega) (fun σ2 o2 m2 f2 => ?_)
      rw [s0] at m2 o2
      have hop := opn_pop (Int.le_refl 1) (q := q)
      rw [hq1] at o2 hop
      rw [opn_cons, if_pos rfl] at hop
      have p3 := (popW_tok (Int.le_refl 1) v4).2.2.1
      rw [hq1, List.length_cons] at p3
      rw [o2.1, List.length_cons, show (((q1.length + 1 : Nat) : Int) - 1) = (q1.length : Int) by omega]
      have e4 : sn (un σ2 21 15 (q1.length : Int)) 21 24 = (j : Int) := by rw [sn_un_k _ _ (by omega), f2.2 24 (by simp)]; exact h24
      rw [e4, show ((j : Int) + 1) = ((j + 1 : Nat) : Int) by omega]
      have fr : F21 [] [15, 24] σ2 (un (un σ2 21 15 (q1.length : Int)) 21 24 ((j + 1 : Nat) : Int)) := (F21.u21 (by simp)).tr (F21.u21 (by simp))
      have hs : stp t (j, 3, tg, q, k, g, d) = some (j + 1, 3, tg, q1, k ++ (popW 1 q).2, g, d) := by
        have : sgn (bt t j) = none := by rw [c41]; decide
        rw [hstp, this]; dsimp only
        rw [if_pos c41, if_pos hm1, hq1]; rfl
      refine ⟨⟨by omega, by omega⟩, ⟨by omega, by omega⟩, go (w' := 3) (q' := q1) hs (Or.inr rfl) hj (sn_un_same _ _ _ _) (m2.f fr (by simp) (by simp) (by simp) (by simp) (by simp) (by simp) (by simp)) ⟨?_, fun x s hx => ?_⟩ ((f2.up (by simp) (by simp)).tr (fr.up (by simp) (by simp))) (by omega) rfl⟩
      · rw [sn_un_k _ _ (by omega), sn_un_same]
      · rw [fr.ot (by simp) (by omega)]
        have hxl := (List.getElem?_eq_some_iff.mp hx).1
        exact o2.2 x s (by rw [List.reverse_cons, List.getElem?_append_left hxl]; exact hx)
theorem sr_readsTerm {Q : Int → SS → Prop} (hL : t.length ≤ 120) {i : Nat} {tg : Int} {g : List Int} {d : List (Int × List Tok)} (hP : PV t (i, 2, tg, [], [], g, d)) (hT : Ty σ t) (h24 : sn σ 21 24 = (i : Int))
    (hok : ∀ (σ' : SS) (i' : Nat) (k' : List Tok) (g' : List Int), rdp t (i, 2, tg, [], [], g, d) = rdp t (i', 0, tg, [], [], g', d ++ [(tg, k')]) → PV t (i', 0, tg, [], [], g', d ++ [(tg, k')]) → i < i' → sn σ' 21 24 = (i' : Int) → MkI σ' k' [] → stc k' ≤ 60 → F21 sc4 sc5 σ σ' → Q 1 σ') (hno : ∀ (σ' : SS) (j : Nat), rdp t (i, 2, tg, [], [], g, d) = ((j : Int), []) → sn σ' 21 24 = (j : Int) → F21 sc4 sc5 σ σ' → Q 0 σ') : wX9_readsTerm σ Q := by
  have fr : F21 sc4 sc5 σ (un (un (un (un σ 21 13 0) 21 15 0) 21 18 0) 21 20 0) := (((F21.u21 (by simp)).tr (F21.u21 (by simp))).tr (F21.u21 (by simp))).tr (F21.u21 (by simp))
  refine ⟨t.length + 1, ?_⟩
  have := sr_term_L (Q := Q) hL (t.length + 1) (i := i) (w := 2) (q := []) (k := []) (by omega) hP (Or.inl rfl) (hT.f fr (by simp) (by simp)) (show sn (un (un (un (un σ 21 13 0) 21 15 0) 21 18 0) 21 20 0) 21 24 = (i : Int) by simp [sn_un, h24]) ⟨by simp [sn_un], by simp [sn_un, stc], by simp [sn_un, kys], fun j v hv => by simp [kys] at hv, fun a x b e => by simp at e⟩ ⟨by simp [sn_un], fun j s hs => by simp at hs⟩ (fun σ' i' k' g' a1 a2 a3 a4 a5 a7 a6 => hok σ' i' k' g' a1 a2 a3 a4 a5 a7 (fr.tr a6)) (fun σ' j a1 a2 a3 => hno σ' j a1 a2 (fr.tr a3))
  exact this
end
