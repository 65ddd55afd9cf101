/-! ===== sums: the class's reader, step by step ===== -/
def RdT (τ : SS) (L i w : Nat) (tg : Int) (q : List Int) (k : List Tok) (g : List Int) (d : List (Int × List Tok)) : Prop := sn τ 10 4 = (L : Int) ∧ sn τ 10 5 = (i : Int) ∧ (w ≠ 0 → sn τ 10 7 = tg) ∧ Wt τ q ∧ sn τ 10 8 = (opn q : Int) ∧ (4 ≤ w → sn τ 10 9 = (g.length : Int)) ∧ sn τ 10 10 = (d.length : Int) ∧ PlI τ (pln w k g d)
section
variable {σ : SS} {t : List Int}
theorem sp_goOn {Q : Int → SS → Prop} {L i w : Nat} {tg w' : Int} {q : List Int} {k : List Tok} {g : List Int} {d : List (Int × List Tok)} (hw : w' = (w : Int)) (hi : i ≤ 1000) (h : RdT σ L i w tg q k g d) (hq : ∀ σ', RdI σ' L (i + 1, w, tg, q, k, g, d) → Sm [10] σ σ' → Q 1 σ') : wX5_goOn w' σ Q := by
  obtain ⟨r4, r5, r7, rW, r8, r9, r10, rP⟩ := h
  unfold wX5_goOn
  rw [r5]
  refine ⟨⟨by omega, by omega⟩, hq _ ⟨?_, ?_, ?_, fun z => ?_, ?_, ?_, fun z => ?_, ?_, ?_⟩ ((Sm.un (by simp)).tr (Sm.un (by simp)))⟩
  · rw [sn_un_k _ _ (by omega), sn_un_k _ _ (by omega)]; exact r4
  · rw [sn_un_k _ _ (by omega), sn_un_same]; omega
  · rw [sn_un_same]; exact hw
  · rw [sn_un_k _ _ (by omega), sn_un_k _ _ (by omega)]; exact r7 z
  · exact rW.of (by rw [sn_un_k _ _ (by omega), sn_un_k _ _ (by omega)]) (fun k => by rw [sn_un_i _ _ (by omega), sn_un_i _ _ (by omega)])
  · rw [sn_un_k _ _ (by omega), sn_un_k _ _ (by omega)]; exact r8
  · rw [sn_un_k _ _ (by omega), sn_un_k _ _ (by omega)]; exact r9 z
  · rw [sn_un_k _ _ (by omega), sn_un_k _ _ (by omega)]; exact r10
  · exact rP.of (by rw [sn_un_i _ _ (by omega), sn_un_i _ _ (by omega)]) (fun k => by rw [sn_un_i _ _ (by omega), sn_un_i _ _ (by omega)]) (fun k => by rw [sn_un_i _ _ (by omega), sn_un_i _ _ (by omega)])
theorem pln_lo {w w' : Nat} (h : w < 4) (h' : w' < 4) {k : List Tok} {g g' : List Int} {d : List (Int × List Tok)} : pln w k g d = pln w' k g' d := by unfold pln; rw [if_neg (by omega), if_neg (by omega)]
theorem flD_len (d : List (Int × List Tok)) : d.length ≤ (flD d).length := by
  induction d with
  | nil => simp
  | cons x d ih => rw [flD, List.length_append, List.length_cons, List.length_cons]; omega
theorem sp_accepts {Q : Int → SS → Prop} {i w : Nat} {tg : Int} {q : List Int} {k : List Tok} {g : List Int} {d : List (Int × List Tok)} (hP : PV t (i, w, tg, q, k, g, d)) (hi : i < t.length) (hL : t.length ≤ 120) (hx : Tx σ t) (h : RdI σ t.length (i, w, tg, q, k, g, d)) (hs : ∀ s', stp t (i, w, tg, q, k, g, d) = some s' → ∀ σ', RdI σ' t.length s' → Sm rdc σ σ' → Q 1 σ') (hn : stp t (i, w, tg, q, k, g, d) = none → Q 0 σ) : wX5_accepts (bt t i) σ Q := by
  unfold PV at hP
  dsimp only at hP
  obtain ⟨v1, v2, v3, v4, v5, v6, v7, v8, v9, v10, v11, v12, v13⟩ := hP
  obtain ⟨r4, r5, r6, r7, rW, r8, r9, r10, rP⟩ := h
  have i1000 : i ≤ 1000 := by omega
  rw [stp] at hs hn
  unfold wX5_accepts
  rw [r6]
  -- numbers, at 4 and 5
  have num : (w = 4 ∨ w = 5) → ¬ (w = 4 ∧ bt t i = 125) → wX5_acceptsNumber (bt t i) σ Q := by
    intro w45 w4
    rw [if_neg (by omega), if_neg (by omega), if_neg (by omega), if_neg (by omega), if_neg w4, if_pos w45] at hs hn
    rw [if_pos (by omega)] at v13
    refine sp_num hi hL hx r4 r5 (fun z => hn (by rw [z])) (fun v e z => ?_)
    have hb := nmb_lt hi z
    rw [z] at hs
    refine sp_padd rP ?_ (fun σ1 p1 s1 => ?_)
    · unfold pln; rw [if_pos (by omega)]; simp only [List.length_append, List.length_cons, List.length_map]; omega
    · have hg9 : sn σ1 10 9 = (g.length : Int) := by rw [(s1.1 10 (by simp) 9).1]; exact r9 (by omega)
      rw [hg9]
      have hgl : g.length ≤ 8 := by
        rcases w45 with y | y
        · rw [v10 y]; simp
        · exact Nat.le_of_lt (v11 y)
      refine ⟨⟨by omega, by omega⟩, ⟨by omega, by omega⟩, hs _ rfl _ ⟨?_, ?_, ?_, fun y => ?_, ?_, ?_, fun y => ?_, ?_, ?_⟩ (((s1.up (by simp)).tr (Sm.un (by simp))).tr ((Sm.un (by simp)).tr (Sm.un (by simp))))⟩
      · rw [sn_un_k _ _ (by omega), sn_un_k _ _ (by omega), sn_un_k _ _ (by omega), (s1.1 10 (by simp) 4).1]; exact r4
      · rw [sn_un_k _ _ (by omega), sn_un_same]
      · rw [sn_un_same]; rfl
      · rw [sn_un_k _ _ (by omega), sn_un_k _ _ (by omega), sn_un_k _ _ (by omega), (s1.1 10 (by simp) 7).1]; exact r7 (by omega)
      · exact rW.of (by rw [sn_un_k _ _ (by omega), sn_un_k _ _ (by omega), sn_un_k _ _ (by omega), (s1.1 10 (by simp) 3).1]) (fun k => by rw [sn_un_i _ _ (by omega), sn_un_i _ _ (by omega), sn_un_i _ _ (by omega), (s1.1 11 (by simp) k).1])
      · rw [sn_un_k _ _ (by omega), sn_un_k _ _ (by omega), sn_un_k _ _ (by omega), (s1.1 10 (by simp) 8).1]; exact r8
      · rw [sn_un_k _ _ (by omega), sn_un_k _ _ (by omega), sn_un_same, List.length_append, List.length_singleton]; omega
      · rw [sn_un_k _ _ (by omega), sn_un_k _ _ (by omega), sn_un_k _ _ (by omega), (s1.1 10 (by simp) 10).1]; exact r10
      · have e : pln 6 k (g ++ [v]) d = pln w k g d ++ [(6, v)] := by
          unfold pln; rw [if_pos (by omega), if_pos (by omega), List.map_append, List.append_assoc, List.append_assoc, List.append_assoc]; rfl
        rw [e]
        exact p1.of (by rw [sn_un_i _ _ (by omega), sn_un_i _ _ (by omega), sn_un_i _ _ (by omega)]) (fun k => by rw [sn_un_i _ _ (by omega), sn_un_i _ _ (by omega), sn_un_i _ _ (by omega)]) (fun k => by rw [sn_un_i _ _ (by omega), sn_un_i _ _ (by omega), sn_un_i _ _ (by omega)])
  refine ⟨fun c => ?_, fun c => ?_, fun c => ?_, fun c => ?_, fun c => ?_, fun c => ?_, fun c => num (by omega) (by omega)⟩
  · -- comma
    have w6 : w = 6 := by omega
    rw [if_neg (by omega), if_neg (by omega), if_neg (by omega), if_neg (by omega), if_neg (by omega), if_neg (by omega)] at hs hn
    refine ⟨fun c1 => ⟨fun c2 => hn (by rw [if_neg c1, if_neg (fun z => c2 z.1)]), fun c2 => ?_⟩, fun c1 => ?_⟩
    · rw [r9 (by omega)]
      refine ⟨fun c3 => hn (by rw [if_neg c1, if_neg (fun z => by have := z.2; omega)]), fun c3 => ?_⟩
      rw [if_neg c1, if_pos ⟨c2, by omega⟩] at hs
      refine sp_goOn (w := 5) (L := t.length) (i := i) (tg := tg) (q := q) (k := k) (g := g) (d := d) rfl i1000 ⟨r4, r5, fun z => r7 (by omega), rW, r8, fun _ => r9 (by omega), r10, ?_⟩ (fun σ' h' s' => ⟨o1, fun _ => hs _ rfl σ' h' (s'.up (by simp))⟩)
      have : pln 5 k g d = pln w k g d := by unfold pln; rw [if_pos (by omega), if_pos (by omega)]
      rw [this]; exact rP
    · rw [if_pos c1] at hs
      refine sp_goOn (w := 3) (L := t.length) (i := i) (tg := tg) (q := q) (k := k ++ [(5, g)]) (g := g) (d := d) rfl i1000 ⟨r4, r5, fun z => r7 (by omega), rW, r8, fun z => by omega, r10, ?_⟩ (fun σ' h' s' => hs _ rfl σ' h' (s'.up (by simp)))
      have : pln 3 (k ++ [(5, g)]) g d = pln w k g d := by
        unfold pln; rw [if_neg (by omega), if_pos (by omega), flT_app, List.append_nil, ← List.append_assoc]
        simp [flT]
      rw [this]; exact rP
  · -- target
    have w0 : w = 0 := by omega
    rw [if_pos w0] at hs hn
    unfold wX5_acceptsTarget wX5_isLetter
    refine sp_isIn (fun hl => ⟨fun _ => ?_, o1⟩) (fun hl => ⟨o0, fun _ => hn (if_neg hl)⟩)
    rw [if_pos hl] at hs
    refine ⟨⟨by omega, by omega⟩, sp_goOn (w := 1) (L := t.length) (i := i) (tg := bt t i - 97) (q := q) (k := k) (g := g) (d := d) rfl i1000 ⟨?_, ?_, fun _ => sn_un_same _ _ _ _, ?_, ?_, fun z => by omega, ?_, ?_⟩ (fun σ' h' s' => hs _ rfl σ' h' ((Sm.un (by simp)).tr (s'.up (by simp))))⟩
    · rw [sn_un_k _ _ (by omega)]; exact r4
    · rw [sn_un_k _ _ (by omega)]; exact r5
    · exact rW.of (sn_un_k _ _ (by omega)) (fun k => sn_un_i _ _ (by omega))
    · rw [sn_un_k _ _ (by omega)]; exact r8
    · rw [sn_un_k _ _ (by omega)]; exact r10
    · rw [pln_lo (w' := w) (g' := g) (by omega) (by omega)]
      exact rP.of (sn_un_i _ _ (by omega)) (fun k => sn_un_i _ _ (by omega)) (fun k => sn_un_i _ _ (by omega))
  · -- equals
    have w1 : w = 1 := by omega
    rw [if_neg (by omega), if_pos w1] at hs hn
    refine ⟨fun c1 => hn (if_neg c1), fun c1 => ?_⟩
    rw [if_pos c1] at hs
    refine sp_goOn (w := 2) (L := t.length) (i := i) (tg := tg) (q := q) (k := k) (g := g) (d := d) rfl i1000 ⟨r4, r5, fun z => r7 (by omega), rW, r8, fun z => by omega, r10, ?_⟩ (fun σ' h' s' => ⟨o1, fun _ => hs _ rfl σ' h' (s'.up (by simp))⟩)
    rw [pln_lo (w' := w) (g' := g) (by omega) (by omega)]; exact rP
  · -- atom
    have w2 : w = 2 := by omega
    rw [if_neg (by omega), if_neg (by omega), if_pos w2] at hs hn
    rw [if_neg (by omega)] at v13
    have hpl : (pln w k g d).length = (flD d).length + (flT k).length := by unfold pln; rw [if_neg (by omega)]; simp
    unfold wX5_acceptsAtom wX5_isLetter
    refine sp_isIn (fun hl => ⟨o1, fun _ => ?_⟩) (fun hl => ⟨fun _ => ⟨fun c1 => ⟨fun c2 => hn (by rw [if_neg hl, if_neg c1, if_neg c2]), fun c2 => ?_⟩, fun c1 => ?_⟩, o0⟩)
    · rw [if_pos hl] at hs
      refine ⟨⟨by omega, by omega⟩, sp_padd rP (by omega) (fun σ1 p1 s1 => sp_goOn (w := 3) (L := t.length) (i := i) (tg := tg) (q := q) (k := k ++ [(4, [bt t i - 97])]) (g := g) (d := d) rfl i1000 ⟨?_, ?_, fun _ => ?_, ?_, ?_, fun z => by omega, ?_, ?_⟩ (fun σ' h' s' => hs _ rfl σ' h' ((s1.up (by simp)).tr (s'.up (by simp)))))⟩
      · rw [(s1.1 10 (by simp) 4).1]; exact r4
      · rw [(s1.1 10 (by simp) 5).1]; exact r5
      · rw [(s1.1 10 (by simp) 7).1]; exact r7 (by omega)
      · exact rW.of (s1.1 10 (by simp) 3).1 (fun k => (s1.1 11 (by simp) k).1)
      · rw [(s1.1 10 (by simp) 8).1]; exact r8
      · rw [(s1.1 10 (by simp) 10).1]; exact r10
      · have : pln 3 (k ++ [(4, [bt t i - 97])]) g d = pln w k g d ++ [(4, bt t i - 97)] := by
          unfold pln; rw [if_neg (by omega), if_neg (by omega), flT_app]
          simp [flT]
        rw [this]; exact p1
    · rw [if_neg hl, if_neg c1, if_pos c2] at hs
      refine sp_padd rP (by omega) (fun σ1 p1 s1 => sp_goOn (w := 4) (L := t.length) (i := i) (tg := tg) (q := q) (k := k) (g := []) (d := d) rfl i1000 ⟨?_, ?_, fun _ => ?_, ?_, ?_, fun _ => ?_, ?_, ?_⟩ (fun σ' h' s' => hs _ rfl σ' h' (((s1.up (by simp)).tr (Sm.un (by simp))).tr (s'.up (by simp)))))
      · rw [sn_un_k _ _ (by omega), (s1.1 10 (by simp) 4).1]; exact r4
      · rw [sn_un_k _ _ (by omega), (s1.1 10 (by simp) 5).1]; exact r5
      · rw [sn_un_k _ _ (by omega), (s1.1 10 (by simp) 7).1]; exact r7 (by omega)
      · exact rW.of (by rw [sn_un_k _ _ (by omega), (s1.1 10 (by simp) 3).1]) (fun k => by rw [sn_un_i _ _ (by omega), (s1.1 11 (by simp) k).1])
      · rw [sn_un_k _ _ (by omega), (s1.1 10 (by simp) 8).1]; exact r8
      · rw [sn_un_same]; rfl
      · rw [sn_un_k _ _ (by omega), (s1.1 10 (by simp) 10).1]; exact r10
      · have : pln 4 k [] d = pln w k g d ++ [(5, 0)] := by
          unfold pln; rw [if_pos (by omega), if_neg (by omega)]
          simp
        rw [this]
        exact p1.of (sn_un_i _ _ (by omega)) (fun k => sn_un_i _ _ (by omega)) (fun k => sn_un_i _ _ (by omega))
    · rw [if_neg hl, if_pos c1] at hs
      have ho := opn_sg (q := q)
      refine sp_letWait rW (by omega) (fun σ1 w1 s1 f1 => ?_)
      have e8 : sn σ1 10 8 = (opn q : Int) := by rw [f1 8 (by omega)]; exact r8
      rw [e8]
      refine ⟨⟨by omega, by omega⟩, sp_goOn (w := 2) (L := t.length) (i := i) (tg := tg) (q := -1 :: q) (k := k) (g := g) (d := d) rfl i1000 ⟨?_, ?_, fun _ => ?_, ?_, ?_, fun z => by omega, ?_, ?_⟩ (fun σ' h' s' => hs _ rfl σ' h' (((s1.up (by simp)).tr (Sm.un (by simp))).tr (s'.up (by simp))))⟩
      · rw [sn_un_k _ _ (by omega), f1 4 (by omega)]; exact r4
      · rw [sn_un_k _ _ (by omega), f1 5 (by omega)]; exact r5
      · rw [sn_un_k _ _ (by omega), f1 7 (by omega)]; exact r7 (by omega)
      · exact w1.of (sn_un_k _ _ (by omega)) (fun k => sn_un_i _ _ (by omega))
      · rw [sn_un_same, opn_cons, if_pos rfl]; omega
      · rw [sn_un_k _ _ (by omega), f1 10 (by omega)]; exact r10
      · rw [pln_lo (w' := w) (g' := g) (by omega) (by omega)]
        exact rP.of (by rw [sn_un_i _ _ (by omega), (s1.1 7 (by simp) 2).1]) (fun k => by rw [sn_un_i _ _ (by omega), (s1.1 8 (by simp) k).1]) (fun k => by rw [sn_un_i _ _ (by omega), (s1.1 9 (by simp) k).1])
  · -- sign
    have w3 : w = 3 := by omega
    rw [if_neg (by omega), if_neg (by omega), if_neg (by omega), if_pos w3] at hs hn
    rw [if_neg (by omega)] at v13
    have hpl : (pln w k g d).length = (flD d).length + (flT k).length := by unfold pln; rw [if_neg (by omega)]; simp
    have hplk : ∀ x : List Tok, pln 2 (k ++ x) g d = pln w k g d ++ flT x := fun x => by
      unfold pln; rw [if_neg (by omega), if_neg (by omega), flT_app]; simp
    have ho := opn_sg (q := q)
    have takes : ∀ s : Int, sgn (bt t i) = some s → wX5_takesSign s σ (fun r2 s1 => Q r2 s1) := by
      intro s hsg
      rw [hsg] at hs
      have hr := sgn_in hsg
      obtain ⟨p1, p2, p3, p4⟩ := popW_tok hr.2.2 v4
      refine sp_strength (sp_ww hr.2.2 v4 rW rP (by omega) (fun σ1 w1 q1 f1 => sp_letWait (s := s) w1 (by omega) (fun σ2 w2 s2 f2 => ?_)))
      refine sp_goOn (w := 2) (L := t.length) (i := i) (tg := tg) (q := s :: (popW (str s) q).1) (k := k ++ (popW (str s) q).2) (g := g) (d := d) rfl i1000 ⟨?_, ?_, fun _ => ?_, w2, ?_, fun z => by omega, ?_, ?_⟩ (fun σ' h' s' => hs _ rfl σ' h' ((f1.1.tr (s2.up (by simp))).tr (s'.up (by simp))))
      · rw [f2 4 (by omega), f1.2 4 (by omega)]; exact r4
      · rw [f2 5 (by omega), f1.2 5 (by omega)]; exact r5
      · rw [f2 7 (by omega), f1.2 7 (by omega)]; exact r7 (by omega)
      · rw [f2 8 (by omega), f1.2 8 (by omega), opn_cons, if_neg (by omega), opn_pop hr.2.2]; exact r8
      · rw [f2 10 (by omega), f1.2 10 (by omega)]; exact r10
      · rw [hplk]
        exact q1.of (s2.1 7 (by simp) 2).1 (fun k => (s2.1 8 (by simp) k).1) (fun k => (s2.1 9 (by simp) k).1)
    refine ⟨fun z => hn ?_, fun z => takes 1 (by unfold sgn; rw [if_neg (by omega), if_pos z]), fun z => ?_, fun z => takes 0 (by unfold sgn; rw [if_pos z]), fun z => takes 2 (by unfold sgn; rw [if_neg (by omega), if_neg (by omega), if_pos z]), fun z => ?_, fun z => takes 3 (by unfold sgn; rw [if_neg (by omega), if_neg (by omega), if_neg (by omega), if_pos z])⟩
    · have : sgn (bt t i) = none := by unfold sgn; rw [if_neg (by omega), if_neg (by omega), if_neg (by omega), if_neg (by omega)]
      rw [this]
      dsimp only
      rw [if_neg (by omega), if_neg (by omega)]
    · have hsn : sgn (bt t i) = none := by unfold sgn; rw [if_neg (by omega), if_neg (by omega), if_neg (by omega), if_neg (by omega)]
      rw [hsn] at hs hn
      dsimp only at hs hn
      rw [if_pos z] at hs hn
      unfold wX5_closesBracket
      rw [r8]
      refine ⟨fun c1 => ?_, fun c1 => hn (if_neg (opn_zero.mp (by omega)))⟩
      have hm : (-1 : Int) ∈ q := Decidable.byContradiction fun y => c1 (by rw [opn_zero.mpr y]; rfl)
      rw [if_pos hm] at hs
      obtain ⟨p1, p2, p3, p4⟩ := popW_tok (Int.le_refl 1) v4
      obtain ⟨y, hy⟩ := (popW_one v4).2 hm
      have ho1 := opn_pop (Int.le_refl 1) (q := q)
      refine sp_strength (sp_ww (Int.le_refl 1) v4 rW rP (by omega) (fun σ1 w1 q1 f1 => ?_))
      rw [show str 0 = 1 from rfl] at w1 q1
      rw [hy] at w1 ho1 p3 hs
      rw [List.tail_cons] at hs
      rw [List.length_cons] at p3
      have e3 : sn σ1 10 3 = ((y.length : Nat) : Int) + 1 := by rw [w1.1, List.length_cons]; omega
      have e8 : sn σ1 10 8 = (opn q : Int) := by rw [f1.2 8 (by omega)]; exact r8
      rw [e3, show max ((y.length : Int) + 1 - 1) 0 = (y.length : Int) by omega, sn_un_k _ _ (by omega), e8]
      rw [opn_cons, if_pos rfl] at ho1
      refine ⟨⟨by omega, by omega⟩, ⟨by omega, by omega⟩, sp_goOn (w := 3) (L := t.length) (i := i) (tg := tg) (q := y) (k := k ++ (popW 1 q).2) (g := g) (d := d) rfl i1000 ⟨?_, ?_, fun _ => ?_, ?_, ?_, fun z => by omega, ?_, ?_⟩ (fun σ' h' s' => hs _ rfl σ' h' ((f1.1.tr ((Sm.un (by simp)).tr (Sm.un (by simp)))).tr (s'.up (by simp))))⟩
      · rw [sn_un_k _ _ (by omega), sn_un_k _ _ (by omega), f1.2 4 (by omega)]; exact r4
      · rw [sn_un_k _ _ (by omega), sn_un_k _ _ (by omega), f1.2 5 (by omega)]; exact r5
      · rw [sn_un_k _ _ (by omega), sn_un_k _ _ (by omega), f1.2 7 (by omega)]; exact r7 (by omega)
      · refine ⟨?_, fun j s hjs => ?_⟩
        · rw [sn_un_k _ _ (by omega), sn_un_same]
        · rw [sn_un_i _ _ (by omega), sn_un_i _ _ (by omega)]
          have hj := (List.getElem?_eq_some_iff.mp hjs).1
          exact w1.2 j s (by rw [List.reverse_cons, List.getElem?_append_left hj]; exact hjs)
      · rw [sn_un_same]; omega
      · rw [sn_un_k _ _ (by omega), sn_un_k _ _ (by omega), f1.2 10 (by omega)]; exact r10
      · rw [pln_lo (w' := 2) (g' := g) (by omega) (by omega), hplk]
        exact q1.of (by rw [sn_un_i _ _ (by omega), sn_un_i _ _ (by omega)]) (fun k => by rw [sn_un_i _ _ (by omega), sn_un_i _ _ (by omega)]) (fun k => by rw [sn_un_i _ _ (by omega), sn_un_i _ _ (by omega)])
    · have hsn : sgn (bt t i) = none := by unfold sgn; rw [if_neg (by omega), if_neg (by omega), if_neg (by omega), if_neg (by omega)]
      rw [hsn] at hs hn
      dsimp only at hs hn
      rw [if_neg (by omega), if_pos z] at hs hn
      unfold wX5_endsSum
      rw [r8]
      refine ⟨fun c1 => ?_, fun c1 => hn (if_pos (Decidable.byContradiction fun y => c1 (by rw [opn_zero.mpr y]; simp)))⟩
      have hm : (-1 : Int) ∉ q := opn_zero.mp (by omega)
      rw [if_neg hm] at hs
      obtain ⟨p1, p2, p3, p4⟩ := popW_tok (Int.le_refl 1) v4
      have hy := (popW_one v4).1 hm
      refine sp_strength (sp_ww (Int.le_refl 1) v4 rW rP (by omega) (fun σ1 w1 q1 f1 => ?_))
      rw [show str 0 = 1 from rfl] at w1 q1
      rw [hy] at w1 p3
      rw [List.length_nil] at p3
      have e7 : sn σ1 10 7 = tg := by rw [f1.2 7 (by omega)]; exact r7 (by omega)
      rw [e7]
      refine sp_padd q1 (by rw [List.length_append]; omega) (fun σ2 q2 s2 => ?_)
      have e10 : sn σ2 10 10 = (d.length : Int) := by rw [(s2.1 10 (by simp) 10).1, f1.2 10 (by omega)]; exact r10
      have hdl := flD_len d
      rw [e10]
      refine ⟨⟨by omega, by omega⟩, sp_goOn (w := 0) (L := t.length) (i := i) (tg := tg) (q := []) (k := []) (g := g) (d := d ++ [(tg, k ++ (popW 1 q).2)]) rfl i1000 ⟨?_, ?_, fun z => absurd rfl z, ?_, ?_, fun z => by omega, ?_, ?_⟩ (fun σ' h' s' => hs _ rfl σ' h' ((f1.1.tr ((s2.up (by simp)).tr (Sm.un (by simp)))).tr (s'.up (by simp))))⟩
      · rw [sn_un_k _ _ (by omega), (s2.1 10 (by simp) 4).1, f1.2 4 (by omega)]; exact r4
      · rw [sn_un_k _ _ (by omega), (s2.1 10 (by simp) 5).1, f1.2 5 (by omega)]; exact r5
      · exact w1.of (by rw [sn_un_k _ _ (by omega), (s2.1 10 (by simp) 3).1]) (fun k => by rw [sn_un_i _ _ (by omega), (s2.1 11 (by simp) k).1])
      · rw [sn_un_k _ _ (by omega), (s2.1 10 (by simp) 8).1, f1.2 8 (by omega), r8, opn_zero.mpr hm]; rfl
      · rw [sn_un_same, List.length_append, List.length_singleton]; omega
      · have e : pln 0 [] g (d ++ [(tg, k ++ (popW 1 q).2)]) = pln w k g d ++ flT (popW 1 q).2 ++ [(7, tg)] := by
          unfold pln; rw [if_neg (by omega), if_neg (by omega), flD_app, flD, flD, flT_app]; simp [flT]
        rw [e]
        exact q2.of (sn_un_i _ _ (by omega)) (fun k => sn_un_i _ _ (by omega)) (fun k => sn_un_i _ _ (by omega))
  · -- first number
    have w4 : w = 4 := by omega
    refine ⟨fun c1 => num (by omega) (by omega), fun c1 => ?_⟩
    rw [if_neg (by omega), if_neg (by omega), if_neg (by omega), if_neg (by omega), if_pos ⟨w4, c1⟩] at hs
    refine sp_goOn (w := 3) (L := t.length) (i := i) (tg := tg) (q := q) (k := k ++ [(5, [])]) (g := g) (d := d) rfl i1000 ⟨r4, r5, fun z => r7 (by omega), rW, r8, fun z => by omega, r10, ?_⟩ (fun σ' h' s' => hs _ rfl σ' h' (s'.up (by simp)))
    have : pln 3 (k ++ [(5, [])]) g d = pln w k g d := by
      unfold pln; rw [if_neg (by omega), if_pos (by omega), flT_app, v10 w4, List.append_nil, ← List.append_assoc]
      simp [flT]
    rw [this]; exact rP
theorem sp_read_L {Q : Int → SS → Prop} {n0 : Int} (hL : t.length ≤ 120) : ∀ (f : Nat) {i w : Nat} {tg : Int} {q : List Int} {k : List Tok} {g : List Int} {d : List (Int × List Tok)} {v : Nat} {σ : SS}, t.length - i ≤ f → v ≤ i → PV t (i, w, tg, q, k, g, d) → Tx σ t → RdI σ t.length (i, w, tg, q, k, g, d) → (∀ σ', Sm rdc σ σ' → (∀ d', rdp t (i, w, tg, q, k, g, d) = (-1, d') → PlI σ' (flD d') ∧ sn σ' 10 10 = (d'.length : Int) ∧ okD d') → Q (rdp t (i, w, tg, q, k, g, d)).1 σ') → wX5_read_L48 n0 Q (f + 1) (v : Int) σ := by
  intro f
  induction f with
  | zero =>
    intro i w tg q k g d v σ hf hv hP hx h hq
    have hi := hP.1
    dsimp only at hi
    obtain ⟨r4, r5, r6, r7, rW, r8, r9, r10, rP⟩ := id h
    rw [rdp_end (by omega)] at hq
    have fin : ((¬ sn σ 10 6 = 0 → Q (sn σ 10 4) σ) ∧ (sn σ 10 6 = 0 → ((sn σ 10 10 ≤ 0 → Q (sn σ 10 4) σ) ∧ (¬ sn σ 10 10 ≤ 0 → Q (-1) σ)))) := by
      rw [r4, r6, r10]
      refine ⟨fun c => ?_, fun c => ⟨fun c2 => ?_, fun c2 => ?_⟩⟩
      · rw [if_neg (fun z => c (by rw [z.1]; rfl))] at hq
        exact hq σ (Sm.rf _ _) (fun d' z => by have := (Prod.mk.inj z).1; omega)
      · have hd : d = [] := List.length_eq_zero_iff.mp (by omega)
        rw [if_neg (fun z => z.2 hd)] at hq
        exact hq σ (Sm.rf _ _) (fun d' z => by have := (Prod.mk.inj z).1; omega)
      · rw [if_pos ⟨by omega, fun z => c2 (by rw [z]; simp)⟩] at hq
        refine hq σ (Sm.rf _ _) (fun d' z => ?_)
        have := (Prod.mk.inj z).2
        subst this
        have hk := (hP.2.2.2.2.2.2.2.1 (by dsimp only; omega)).2
        dsimp only at hk
        refine ⟨?_, r10, hP.2.2.2.2.2.2.1⟩
        have e : pln w k g d = flD d := by unfold pln; rw [if_neg (by omega), hk]; simp [flT]
        rw [e] at rP; exact rP
    rw [wX5_read_L48]
    refine ⟨⟨by omega, by omega⟩, fun c => fin, fun c => ⟨fun c2 => fin, fun c2 => ?_⟩⟩
    rw [r4, r5] at c2; omega
  | succ f ih =>
    intro i w tg q k g d v σ hf hv hP hx h hq
    have hi := hP.1
    dsimp only at hi
    obtain ⟨r4, r5, r6, r7, rW, r8, r9, r10, rP⟩ := id h
    by_cases hend : t.length ≤ i
    · -- as above
      have := ih (v := v) (σ := σ) (i := i) (by omega) hv hP hx h hq
      rw [wX5_read_L48] at this ⊢
      refine ⟨this.1, this.2.1, fun c => ⟨fun c2 => (this.2.2 c).1 c2, fun c2 => ?_⟩⟩
      rw [r4, r5] at c2; omega
    · have e : ((v : Int) + 1) = ((v + 1 : Nat) : Int) := by omega
      rw [wX5_read_L48, r4, r5, e, Int.toNat_natCast, hx i (by omega)]
      refine ⟨⟨by omega, by omega⟩, fun c => by omega, fun c => ⟨fun c2 => by omega, fun c2 => ⟨by omega, by omega, fun c3 => ?_, fun c3 => ⟨⟨by omega, by omega⟩, ?_⟩⟩⟩⟩
      · refine sp_accepts hP (by omega) hL hx h (fun s' hs' σ' h' sm => ⟨fun _ => ?_, o1⟩) (fun hs' => ⟨o0, fun _ => ?_⟩)
        · have hlt := stp_lt (show (i, w, tg, q, k, g, d).1 < t.length by dsimp only; omega) hs'
          have hP' := PV_stp hP (by dsimp only; omega) hs'
          rw [rdp_go (show (i, w, tg, q, k, g, d).1 < t.length by dsimp only; omega) c3 hs'] at hq
          obtain ⟨i', w', tg', q', k', g', d'⟩ := s'
          dsimp only at hlt
          refine ih (by omega) (by omega) hP' (fun j hj => by rw [(sm.1 6 (by simp) j).1]; exact hx j hj) h' (fun σ2 s2 hd => hq σ2 (sm.tr s2) hd)
        · rw [rdp_no (show (i, w, tg, q, k, g, d).1 < t.length by dsimp only; omega) c3 hs'] at hq
          rw [r5]
          exact hq σ (Sm.rf _ _) (fun d' z => by have := (Prod.mk.inj z).1; dsimp only at this; omega)
      · rw [rdp_sp (by omega) c3] at hq
        rw [show ((i : Int) + 1) = ((i + 1 : Nat) : Int) by omega]
        refine ih (i := i + 1) (by omega) (by omega) (PV_sp hP (by omega)) (fun j hj => by rw [sn_un_i _ _ (by omega)]; exact hx j hj) ⟨?_, sn_un_same _ _ _ _, ?_, fun z => ?_, ?_, ?_, fun z => ?_, ?_, ?_⟩ (fun σ2 s2 hd => hq σ2 ((Sm.un (by simp)).tr s2) hd)
        · rw [sn_un_k _ _ (by omega)]; exact r4
        · rw [sn_un_k _ _ (by omega)]; exact r6
        · rw [sn_un_k _ _ (by omega)]; exact r7 z
        · exact rW.of (sn_un_k _ _ (by omega)) (fun k => sn_un_i _ _ (by omega))
        · rw [sn_un_k _ _ (by omega)]; exact r8
        · rw [sn_un_k _ _ (by omega)]; exact r9 z
        · rw [sn_un_k _ _ (by omega)]; exact r10
        · exact rP.of (sn_un_i _ _ (by omega)) (fun k => sn_un_i _ _ (by omega)) (fun k => sn_un_i _ _ (by omega))
theorem sp_read {Q : Int → SS → Prop} (hL : t.length ≤ 120) (hx : Tx σ t) (hq : ∀ σ', Sm rdc σ σ' → (∀ d', rdp t ps0 = (-1, d') → PlI σ' (flD d') ∧ sn σ' 10 10 = (d'.length : Int) ∧ okD d') → Q (rdp t ps0).1 σ') : wX5_read (t.length : Int) σ Q := by
  refine ⟨t.length + 1, ?_⟩
  rw [show min (t.length : Int) 120 = (t.length : Int) by omega]
  generalize hτ : un (un (un (un (un (un (un σ 10 4 (t.length : Int)) 10 5 0) 10 6 0) 10 3 0) 10 8 0) 10 10 0) 7 2 0 = τ
  have sm : Sm rdc σ τ := by
    rw [← hτ]
    exact ((((((Sm.un (by simp)).tr (Sm.un (by simp))).tr (Sm.un (by simp))).tr (Sm.un (by simp))).tr (Sm.un (by simp))).tr (Sm.un (by simp))).tr (Sm.un (by simp))
  have hv : sn τ 10 4 = (t.length : Int) ∧ sn τ 10 5 = 0 ∧ sn τ 10 6 = 0 ∧ sn τ 10 3 = 0 ∧ sn τ 10 8 = 0 ∧ sn τ 10 10 = 0 ∧ sn τ 7 2 = 0 := by
    rw [← hτ]
    simp [sn_un]
  refine sp_read_L (n0 := (t.length : Int)) hL t.length (i := 0) (v := 0) (by omega) (Nat.le_refl _) (PV_0 t) (fun j hj => by rw [(sm.1 6 (by simp) j).1]; exact hx j hj) ⟨hv.1, hv.2.1, hv.2.2.1, fun z => absurd rfl z, ⟨hv.2.2.2.1, fun j s hs => by simp at hs⟩, hv.2.2.2.2.1, fun z => absurd z (by decide), hv.2.2.2.2.2.1, hv.2.2.2.2.2.2, fun j p hp => by simp [pln, flD, flT] at hp⟩ (fun σ' s' hd => hq σ' (sm.tr s') hd)
end
