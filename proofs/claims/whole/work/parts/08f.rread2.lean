/-! ===== sums: the reference's reader: what waits, sets, terms ===== -/
section
variable {σ : SS} {t : List Int}
theorem str_in {s : Int} (h : 0 ≤ s ∧ s ≤ 3) : (s = 1 → str s = 2) ∧ (s ≠ 1 → str s = 1) := by
  unfold str
  exact ⟨fun c => by rw [if_neg (by omega), if_pos c], fun c => by rw [if_neg (by omega), if_neg c]⟩
theorem sr_does_L {Q : SS → Prop} {a1 : Int} (ha : 0 ≤ a1 ∧ a1 ≤ 3) {g : List Int} : ∀ (q : List Int) {σ : SS} {k : List Tok}, okQ q → OpI σ q → MkI σ k g → k.length + q.length ≤ 125 → (∀ σ', OpI σ' (popW (str a1) q).1 → MkI σ' (k ++ (popW (str a1) q).2) g → F21 [31] [13, 15] σ σ' → Q σ') → wX9_does_L0 a1 Q (q.length + 1) σ := by
  intro q
  induction q with
  | nil =>
    intro σ k ho hw hm hl hq
    rw [List.length_nil, wX9_does_L0, hw.1]
    exact ⟨fun _ => hq σ hw (by simpa [popW] using hm) (F21.rf _ _ _), fun c => absurd (by simp) c⟩
  | cons s q ih =>
    intro σ k ho hw hm hl hq
    have hs := ho s List.mem_cons_self
    have h32 : sn σ 32 q.length = if s = -1 then 40 else s := hw.2 q.length s (by rw [List.reverse_cons, List.getElem?_append_right (by simp)]; simp)
    rw [List.length_cons] at hl
    have e1 : (((s :: q).length : Int) - 1).toNat = q.length := by rw [List.length_cons]; omega
    have e2 : ((s :: q).length : Int) - 1 = (q.length : Int) := by rw [List.length_cons]; omega
    have ha1 := str_in ha
    rw [List.length_cons, wX9_does_L0, hw.1, e1, h32]
    rw [popW] at hq
    have go : ¬ s = -1 → ¬ str s < str a1 → wX9_does_L43 a1 Q (fun sL => wX9_does_L0 a1 Q (q.length + 1) sL) σ := by
      intro c1 c2
      rw [if_neg c2] at hq
      unfold wX9_does_L43
      rw [hw.1, e2]
      have f1 : sn (un σ 21 15 (q.length : Int)) 21 15 = (q.length : Int) := sn_un_same _ _ _ _
      have f2 : sn (un σ 21 15 (q.length : Int)) 21 13 = (k.length : Int) := by rw [sn_un_k _ _ (by omega)]; exact hm.1
      have f3 : sn (un σ 21 15 (q.length : Int)) 32 q.length = s := by rw [sn_un_i _ _ (by omega), h32, if_neg c1]
      rw [f1, f2, Int.toNat_natCast, Int.toNat_natCast, f3]
      have f4 : sn (un (un σ 21 15 (q.length : Int)) 31 k.length (10 + s)) 21 13 = (k.length : Int) := by rw [sn_un_i _ _ (by omega)]; exact f2
      rw [f4, show ((k.length : Int) + 1) = ((k.length + 1 : Nat) : Int) by omega]
      have fr : F21 [31] [13, 15] σ (un (un (un σ 21 15 (q.length : Int)) 31 k.length (10 + s)) 21 13 ((k.length + 1 : Nat) : Int)) := ((F21.u21 (by simp)).tr (F21.un (by simp) (by omega))).tr (F21.u21 (by simp))
      refine ⟨⟨by omega, by omega⟩, by omega, by omega, by omega, by omega, ⟨by omega, by omega⟩, ⟨by omega, by omega⟩, ?_⟩
      refine ih (k := k ++ [(s, [])]) (fun x hx => ho x (List.mem_cons_of_mem _ hx)) ⟨?_, fun j x hx => ?_⟩ (hm.add (x := (s, [])) (by dsimp only; omega) (sn_un_same _ _ _ _) (fr.2 18 (by simp)) (fr.2 20 (by simp)) (fr.ot (by simp) (by omega)) (fr.ot (by simp) (by omega)) (fr.ot (by simp) (by omega)) (fun j hj => ?_) ?_) (by rw [List.length_append, List.length_singleton]; omega) (fun σ' a1 a2 a3 => hq σ' a1 ?_ (fr.tr a3))
      · simp [sn_un]
      · rw [fr.ot (by simp) (by omega)]
        have hj := (List.getElem?_eq_some_iff.mp hx).1
        exact hw.2 j x (by rw [List.reverse_cons, List.getElem?_append_left hj]; exact hx)
      · rw [sn_un_i _ _ (by omega), sn_un_k _ _ hj, sn_un_i _ _ (by omega)]
      · rw [sn_un_i _ _ (by omega), sn_un_same]
        unfold cod
        rw [if_neg (by dsimp only; omega), if_neg (by dsimp only; omega)]
      · rw [List.append_assoc] at a2; exact a2
    have stop : str s < str a1 → Q σ := by
      intro c
      rw [if_pos c] at hq
      exact hq σ hw (by simpa using hm) (F21.rf _ _ _)
    have hpos := str_pos hs
    refine ⟨fun c => by rw [List.length_cons] at c; omega, fun _ => ⟨by rw [List.length_cons]; omega, by rw [List.length_cons]; omega, fun c => ?_, fun c => ?_⟩⟩
    · have c1 : s = -1 := by
        by_cases z : s = -1
        · exact z
        · rw [if_neg z] at c; omega
      refine stop ?_
      have := hpos.1.mpr c1
      rcases (Decidable.em (a1 = 1)) with z | z
      · rw [ha1.1 z]; omega
      · rw [ha1.2 z]; omega
    · have c1 : ¬ s = -1 := fun z => c (by rw [if_pos z])
      have s3 := str_in (s := s) (by omega)
      rw [if_neg c1]
      refine ⟨fun c2 => go c1 ?_, fun c2 => ⟨by rw [List.length_cons]; omega, by rw [List.length_cons]; omega, fun c3 => stop ?_, fun c3 => go c1 ?_⟩⟩
      · rw [ha1.2 c2]; have := hpos.2; omega
      · rw [ha1.1 c2, s3.2 c3]; omega
      · rw [ha1.1 c2, s3.1 c3]; omega
theorem sr_does {Q : SS → Prop} {a1 : Int} (ha : 0 ≤ a1 ∧ a1 ≤ 3) {g q : List Int} {k : List Tok} (ho : okQ q) (hw : OpI σ q) (hm : MkI σ k g) (hl : k.length + q.length ≤ 125) (hq : ∀ σ', OpI σ' (popW (str a1) q).1 → MkI σ' (k ++ (popW (str a1) q).2) g → F21 [31] [13, 15] σ σ' → Q σ') : wX9_does a1 σ Q := ⟨_, sr_does_L ha q ho hw hm hl hq⟩
theorem sr_sortBy {Q : Int → SS → Prop} {c : Int} (h0 : sgn c = none → Q (-2000000001) σ) (h1 : ∀ s, sgn c = some s → Q s σ) : wX9_sortBy c σ Q := by
  unfold sgn at h0 h1
  refine ⟨fun c1 => ⟨fun c2 => ⟨fun c3 => ⟨fun c4 => h0 (by rw [if_neg c1, if_neg c2, if_neg c3, if_neg c4]), fun c4 => h1 3 (by rw [if_neg c1, if_neg c2, if_neg c3, if_pos c4])⟩, fun c3 => h1 2 (by rw [if_neg c1, if_neg c2, if_pos c3])⟩, fun c2 => h1 1 (by rw [if_neg c1, if_pos c2])⟩, fun c1 => h1 0 (by rw [if_pos c1])⟩
/-- a set's end -/
theorem sr_set129 {Q : Int → SS → Prop} {j : Nat} {k : List Tok} {g : List Int} (h24 : sn σ 21 24 = (j : Int)) (hj : j ≤ 1000) (hm : MkI σ k g) (h33 : sn σ 33 (stc k) = ((kys k).length : Int)) (b1 : stc k < 60) (b2 : k.length < 130) (hq : ∀ σ', sn σ' 21 24 = ((j + 1 : Nat) : Int) → MkI σ' (k ++ [(5, g)]) [] → F21 [31, 34] [13, 18, 24] σ σ' → Q 1 σ') : wX9_readsSet_L129 Q σ := by
  obtain ⟨m1, m2, m3, -, -⟩ := id hm
  unfold wX9_readsSet_L129
  rw [h24, show ((j : Int) + 1) = ((j + 1 : Nat) : Int) by omega]
  have e1 : sn (un σ 21 24 ((j + 1 : Nat) : Int)) 21 18 = (stc k : Int) := by rw [sn_un_k _ _ (by omega)]; exact m2
  have e2 : sn (un σ 21 24 ((j + 1 : Nat) : Int)) 21 20 = ((kys k ++ g).length : Int) := by rw [sn_un_k _ _ (by omega)]; exact m3
  rw [e1, e2, Int.toNat_natCast]
  generalize hτ : un (un σ 21 24 ((j + 1 : Nat) : Int)) 34 (stc k) ((kys k ++ g).length : Int) = τ
  have e3 : sn τ 21 13 = (k.length : Int) := by rw [← hτ, sn_un_i _ _ (by omega), sn_un_k _ _ (by omega)]; exact m1
  have e4 : sn τ 21 18 = (stc k : Int) := by rw [← hτ, sn_un_i _ _ (by omega), sn_un_k _ _ (by omega)]; exact m2
  have f1 : F21 [31, 34] [13, 18, 24] σ τ := by rw [← hτ]; exact (F21.u21 (by simp)).tr (F21.un (by simp) (by omega))
  rw [e3, e4, Int.toNat_natCast]
  have e5 : sn (un τ 31 k.length (20 + (stc k : Int))) 21 13 = (k.length : Int) := by rw [sn_un_i _ _ (by omega)]; exact e3
  rw [e5, show ((k.length : Int) + 1) = ((k.length + 1 : Nat) : Int) by omega]
  have e6 : sn (un (un τ 31 k.length (20 + (stc k : Int))) 21 13 ((k.length + 1 : Nat) : Int)) 21 18 = (stc k : Int) := by rw [sn_un_k _ _ (by omega), sn_un_i _ _ (by omega)]; exact e4
  rw [e6, show ((stc k : Int) + 1) = ((stc k + 1 : Nat) : Int) by omega]
  have f2 : F21 [31, 34] [13, 18, 24] τ (un (un (un τ 31 k.length (20 + (stc k : Int))) 21 13 ((k.length + 1 : Nat) : Int)) 21 18 ((stc k + 1 : Nat) : Int)) := ((F21.un (by simp) (by omega)).tr (F21.u21 (by simp))).tr (F21.u21 (by simp))
  refine ⟨⟨by omega, by omega⟩, by omega, by omega, by omega, by omega, ⟨by omega, by omega⟩, ⟨by omega, by omega⟩, ⟨by omega, by omega⟩, hq _ ?_ (hm.set h33 ?_ (sn_un_same _ _ _ _) ((f1.tr f2).2 20 (by simp)) ((f1.tr f2).ot (by simp) (by omega)) (fun x hx => ?_) ?_ ((f1.tr f2).ot (by simp) (by omega)) (fun x hx => ?_) ?_) (f1.tr f2)⟩
  · rw [sn_un_k _ _ (by omega), sn_un_k _ _ (by omega), sn_un_i _ _ (by omega), ← hτ, sn_un_i _ _ (by omega), sn_un_same]
  · rw [sn_un_k _ _ (by omega), sn_un_same]
  · rw [sn_un_i _ _ (by omega), sn_un_i _ _ (by omega), sn_un_k _ _ hx, ← hτ, sn_un_i _ _ (by omega), sn_un_i _ _ (by omega)]
  · rw [sn_un_i _ _ (by omega), sn_un_i _ _ (by omega), sn_un_same]
  · rw [sn_un_i _ _ (by omega), sn_un_i _ _ (by omega), sn_un_i _ _ (by omega), ← hτ, sn_un_k _ _ hx, sn_un_i _ _ (by omega)]
  · rw [sn_un_i _ _ (by omega), sn_un_i _ _ (by omega), sn_un_i _ _ (by omega), ← hτ, sn_un_same]
theorem kys_len {k : List Tok} : (kys k).length + stc k ≤ (flT k).length ∧ k.length ≤ (flT k).length := by
  induction k with
  | nil => simp [kys, stc, flT]
  | cons x k ih =>
    rw [kys, flT, List.length_append, List.length_append, List.length_cons]
    have e : stc (x :: k) = stc k + if x.1 = 5 then 1 else 0 := by
      unfold stc; rw [List.filter_cons]
      by_cases c : x.1 = 5 <;> simp [c]
    rw [e]
    by_cases c4 : x.1 = 4
    · rw [if_neg (by omega), if_neg (by omega), if_pos c4]; simp; omega
    · by_cases c5 : x.1 = 5
      · rw [if_pos c5, if_pos c5, if_neg c4, if_pos c5]; simp; omega
      · rw [if_neg c5, if_neg c5, if_neg c4, if_neg c5]; simp; omega
abbrev sc1 : List Nat := [31, 34, 35]
abbrev sc2 : List Nat := [13, 18, 20, 24, 26]
/-- a set from a number's place on -/
theorem sr_set_L {Q : Int → SS → Prop} (hL : t.length ≤ 120) : ∀ (f : Nat) {i w : Nat} {tg : Int} {q : List Int} {k : List Tok} {g : List Int} {d : List (Int × List Tok)} {σ : SS}, 8 ≤ g.length + f → PV t (i, w, tg, q, k, g, d) → (w = 4 ∧ g = [] ∨ w = 5 ∧ 0 < g.length) → bt t i ≠ 32 → Ty σ t → sn σ 21 24 = (i : Int) → MkI σ k g → sn σ 33 (stc k) = ((kys k).length : Int) →
    (∀ (σ' : SS) (i' : Nat) (g' : List Int), rdp t (i, w, tg, q, k, g, d) = rdp t (i', 3, tg, q, k ++ [(5, g')], g', d) → PV t (i', 3, tg, q, k ++ [(5, g')], g', d) → i < i' → sn σ' 21 24 = (i' : Int) → MkI σ' (k ++ [(5, g')]) [] → F21 sc1 sc2 σ σ' → Q 1 σ') → (∀ (σ' : SS) (j : Nat), rdp t (i, w, tg, q, k, g, d) = ((j : Int), []) → sn σ' 21 24 = (j : Int) → F21 sc1 sc2 σ σ' → Q 0 σ') → wX9_readsSet_L19 Q (f + 1) (g.length : Int) σ := by
  intro f
  induction f with
  | zero =>
    intro i w tg q k g d σ hf hP hw hc hT h24 hm h33 hok hno
    have h11 := hP.2.2.2.2.2.2.2.2.2.2.1
    dsimp only at h11
    rcases hw with ⟨-, rfl⟩ | ⟨w5, -⟩
    · simp at hf
    · have := h11 w5; omega
  | succ f ih =>
    intro i w tg q k g d σ hf hP hw hc hT h24 hm h33 hok hno
    obtain ⟨v1, v2, v3, v4, v5, v6, v7, v8, v9, v10, v11, v12, v13⟩ := id hP
    dsimp only at v1 v2 v10 v11 v12 v13
    have hg8 : g.length < 8 := by
      rcases hw with ⟨-, rfl⟩ | ⟨w5, -⟩
      · simp
      · exact v11 w5
    rw [if_pos (by omega)] at v13
    have kl := kys_len (k := k)
    have step : ¬ (w = 4 ∧ bt t i = 125) → wX9_readsSet_L36 Q (fun v1 sL => wX9_readsSet_L19 Q (f + 1) v1 sL) (fun sL => wX9_readsSet_L129 Q sL) (g.length : Int) σ := by
      intro hn
      have hstp : stp t (i, w, tg, q, k, g, d) = (match nmb t i with | some (v, e) => some (e, 6, tg, q, k, g ++ [v], d) | none => none) := by
        rw [stp, if_neg (by omega), if_neg (by omega), if_neg (by omega), if_neg (by omega), if_neg hn, if_pos (by omega)]
        cases nmb t i <;> rfl
      unfold wX9_readsSet_L36
      refine sr_reads hL hT v1 h24 (fun v e hv σ1 a24 a26 f1 => ⟨fun _ => ?_, o1⟩) (fun hv σ1 a24 f1 => ⟨o0, fun _ => ?_⟩)
      · have hi := nmb_lt2 hv
        have hb := nmb_lt hi hv
        rw [hv] at hstp
        dsimp only at hstp
        have hP1 := PV_stp hP (by dsimp only; exact hi) hstp
        have hr1 := rdp_go (s := (i, w, tg, q, k, g, d)) (by dsimp only; exact hi) hc hstp
        have m1 : MkI σ1 k g := hm.f f1 (by simp) (by simp) (by simp) (by simp) (by simp) (by simp) (by simp)
        have h20 := m1.2.2.1
        have hlen : (kys k ++ g).length = (kys k).length + g.length := List.length_append
        rw [h20, Int.toNat_natCast, a26]
        have e1 : sn (un σ1 35 (kys k ++ g).length v) 21 20 = ((kys k ++ g).length : Int) := by rw [sn_un_i _ _ (by omega)]; exact h20
        rw [e1, show (((kys k ++ g).length : Int) + 1) = (((kys k ++ g).length + 1 : Nat) : Int) by omega]
        generalize hτ : un (un σ1 35 (kys k ++ g).length v) 21 20 (((kys k ++ g).length + 1 : Nat) : Int) = τ
        have f2 : F21 [35] [20] σ1 τ := by rw [← hτ]; exact (F21.un (by simp) (by omega)).tr (F21.u21 (by simp))
        have m2 : MkI τ k (g ++ [v]) := m1.key (f2.2 13 (by simp)) (f2.2 18 (by simp)) (by rw [← hτ]; exact sn_un_same _ _ _ _) (fun x hx => by rw [← hτ, sn_un_i _ _ (by omega), sn_un_k _ _ hx]) (by rw [← hτ, sn_un_i _ _ (by omega), sn_un_same]) (f2.ot (by simp) (by omega)) (f2.ot (by simp) (by omega)) (f2.ot (by simp) (by omega))
        have T2 : Ty τ t := (hT.f f1 (by simp) (by simp)).f f2 (by simp) (by simp)
        have g12 : F21 sc1 sc2 σ τ := (f1.up (by simp) (by simp)).tr (f2.up (by simp) (by simp))
        refine ⟨by omega, by omega, ⟨by omega, by omega⟩, sr_skips hL hb.2.1 T2 (by rw [f2.2 24 (by simp)]; exact a24) (fun σ3 j hsk b24 f3 => ?_)⟩
        have T3 : Ty σ3 t := T2.f f3 (by simp) (by simp)
        have m3 : MkI σ3 k (g ++ [v]) := m2.f f3 (by simp) (by simp) (by simp) (by simp) (by simp) (by simp) (by simp)
        have P3 : PV t (j, 6, tg, q, k, g ++ [v], d) := hP1.le hsk.1 hsk.2.1
        have r3 : rdp t (i, w, tg, q, k, g, d) = rdp t (j, 6, tg, q, k, g ++ [v], d) := hr1.trans (hsk.2.2.2 _ _ _ _ _ _)
        have g13 : F21 sc1 sc2 σ σ3 := g12.tr (f3.up (by simp) (by simp))
        have k33 : sn σ3 33 (stc k) = ((kys k).length : Int) := by rw [g13.ot (by simp) (by omega)]; exact h33
        have stp6 : stp t (j, 6, tg, q, k, g ++ [v], d) = (if bt t j = 125 then some (j + 1, 3, tg, q, k ++ [(5, g ++ [v])], g ++ [v], d) else if bt t j = 44 ∧ (g ++ [v]).length < 8 then some (j + 1, 5, tg, q, k, g ++ [v], d) else none) := by
          rw [stp, if_neg (by omega), if_neg (by omega), if_neg (by omega), if_neg (by omega), if_neg (by omega), if_neg (by omega)]
        have gl : (g ++ [v]).length = g.length + 1 := by rw [List.length_append, List.length_singleton]
        rw [b24]
        refine sr_byteAt hL T3 ⟨fun c1 => ?_, fun c1 => ?_⟩
        · rw [b24]
          refine sr_byteAt hL T3 ⟨fun c2 => ?_, fun c2 => ⟨⟨by omega, by omega⟩, fun c3 => ?_, fun c3 => ?_⟩⟩
          · refine hno σ3 j ?_ b24 g13
            rw [r3]
            exact rdp_rej hsk.2.1 hsk.2.2.1 (by rw [stp6, if_neg c1, if_neg (fun z => c2 z.1)]) (Or.inl (by omega))
          · have hj : j < t.length := bt_lt c2 (by decide)
            have s5 : stp t (j, 6, tg, q, k, g ++ [v], d) = some (j + 1, 5, tg, q, k, g ++ [v], d) := by rw [stp6, if_neg c1, if_pos ⟨c2, by omega⟩]
            have P5 := PV_stp P3 (by dsimp only; exact hj) s5
            have r5 := rdp_go (s := (j, 6, tg, q, k, g ++ [v], d)) (by dsimp only; exact hj) (by dsimp only; exact hsk.2.2.1) s5
            rw [b24, show ((j : Int) + 1) = ((j + 1 : Nat) : Int) by omega]
            have f4 : F21 [] [24] σ3 (un σ3 21 24 ((j + 1 : Nat) : Int)) := F21.u21 (by simp)
            refine ⟨⟨by omega, by omega⟩, sr_skips hL (by omega) (T3.f f4 (by simp) (by simp)) (sn_un_same _ _ _ _) (fun σ5 j5 sk5 d24 f5 => ?_)⟩
            have f45 := f4.tr f5
            have g15 : F21 sc1 sc2 σ σ5 := g13.tr (f45.up (by simp) (by simp))
            have r15 : rdp t (i, w, tg, q, k, g, d) = rdp t (j5, 5, tg, q, k, g ++ [v], d) := r3.trans (r5.trans (sk5.2.2.2 _ _ _ _ _ _))
            rw [show ((g.length : Int) + 1) = ((g ++ [v]).length : Int) by rw [gl]; omega]
            refine ih (w := 5) (by omega) (P5.le sk5.1 sk5.2.1) (Or.inr ⟨rfl, by omega⟩) sk5.2.2.1 (T3.f f45 (by simp) (by simp)) d24 (m3.f f45 (by simp) (by simp) (by simp) (by simp) (by simp) (by simp) (by simp)) (by rw [f45.ot (by simp) (by omega)]; exact k33) (fun σ' i' g' h1 h2 h3 h4 h5 h6 => hok σ' i' g' (r15.trans h1) h2 (by have := hsk.1; have := sk5.1; omega) h4 h5 (g15.tr h6)) (fun σ' j' h1 h2 h3 => hno σ' j' (r15.trans h1) h2 (g15.tr h3))
          · refine hno σ3 j ?_ b24 g13
            rw [r3]
            exact rdp_rej hsk.2.1 hsk.2.2.1 (by rw [stp6, if_neg c1, if_neg (fun z => by have := z.2; omega)]) (Or.inl (by omega))
        · have hj : j < t.length := bt_lt c1 (by decide)
          have s5 : stp t (j, 6, tg, q, k, g ++ [v], d) = some (j + 1, 3, tg, q, k ++ [(5, g ++ [v])], g ++ [v], d) := by rw [stp6, if_pos c1]
          have P5 := PV_stp P3 (by dsimp only; exact hj) s5
          have r5 := rdp_go (s := (j, 6, tg, q, k, g ++ [v], d)) (by dsimp only; exact hj) (by dsimp only; exact hsk.2.2.1) s5
          refine sr_set129 b24 (by omega) m3 k33 (by omega) (by omega) (fun σ' h1 h2 h3 => hok σ' (j + 1) (g ++ [v]) (r3.trans r5) P5 (by have := hsk.1; omega) h1 h2 (g13.tr (h3.up (by simp) (by simp))))
      · refine hno σ1 i ?_ a24 (f1.up (by simp) (by simp))
        rw [hv] at hstp
        exact rdp_rej v1 hc hstp (Or.inl (by omega))
    rw [wX9_readsSet_L19]
    refine ⟨⟨by omega, by omega⟩, fun c => step (fun z => ?_), fun c => ?_⟩
    · rcases hw with ⟨-, rfl⟩ | ⟨w5, -⟩
      · simp at c
      · omega
    · have w4 : w = 4 ∧ g = [] := by
        rcases hw with z | ⟨-, z⟩
        · exact z
        · omega
      rw [h24]
      refine sr_byteAt hL hT ⟨fun c1 => ?_, fun c1 => step (fun z => c1 z.2)⟩
      have hi : i < t.length := bt_lt c1 (by decide)
      have s5 : stp t (i, w, tg, q, k, g, d) = some (i + 1, 3, tg, q, k ++ [(5, [])], g, d) := by
        rw [stp, if_neg (by omega), if_neg (by omega), if_neg (by omega), if_neg (by omega), if_pos ⟨w4.1, c1⟩]
      have P5 := PV_stp hP (by dsimp only; exact hi) s5
      have r5 := rdp_go (s := (i, w, tg, q, k, g, d)) (by dsimp only; exact hi) (by dsimp only; exact hc) s5
      obtain ⟨-, rfl⟩ := w4
      exact sr_set129 h24 (by omega) hm h33 (by omega) (by omega) (fun σ' h1 h2 h3 => hok σ' (i + 1) [] r5 P5 (by omega) h1 h2 (h3.up (by simp) (by simp)))
abbrev sc3 : List Nat := [31, 33, 34, 35]
theorem sr_readsSet {Q : Int → SS → Prop} (hL : t.length ≤ 120) {i : Nat} {tg : Int} {q : List Int} {k : List Tok} {d : List (Int × List Tok)} (hP : PV t (i, 4, tg, q, k, [], d)) (hT : Ty σ t) (h24 : sn σ 21 24 = (i : Int)) (hm : MkI σ k []) 
    (hok : ∀ (σ' : SS) (i' : Nat) (g' : List Int), rdp t (i, 4, tg, q, k, [], d) = rdp t (i', 3, tg, q, k ++ [(5, g')], g', d) → PV t (i', 3, tg, q, k ++ [(5, g')], g', d) → i < i' → sn σ' 21 24 = (i' : Int) → MkI σ' (k ++ [(5, g')]) [] → F21 sc3 sc2 σ σ' → Q 1 σ') (hno : ∀ (σ' : SS) (j : Nat), rdp t (i, 4, tg, q, k, [], d) = ((j : Int), []) → sn σ' 21 24 = (j : Int) → F21 sc3 sc2 σ σ' → Q 0 σ') : wX9_readsSet σ Q := by
  have v1 := hP.1
  have v13 := hP.2.2.2.2.2.2.2.2.2.2.2.2
  dsimp only at v1 v13
  rw [if_pos (by omega)] at v13
  have kl := kys_len (k := k)
  have m2 := hm.2.1
  have m3 := hm.2.2.1
  rw [List.append_nil] at m3
  unfold wX9_readsSet
  rw [m2, m3, Int.toNat_natCast]
  have f1 : F21 [33] [] σ (un σ 33 (stc k) ((kys k).length : Int)) := F21.un (by simp) (by omega)
  have M1 : MkI (un σ 33 (stc k) ((kys k).length : Int)) k [] := by
    refine ⟨hm.1, hm.2.1, hm.2.2.1, hm.2.2.2.1, fun a x b e => ⟨(hm.2.2.2.2 a x b e).1, fun c => ?_⟩⟩
    have : stc a < stc k := by rw [e]; exact stc_lt c
    rw [sn_un_k _ _ (by omega), sn_un_i _ _ (by omega)]
    exact (hm.2.2.2.2 a x b e).2 c
  refine ⟨by omega, by omega, sr_skips hL v1 (hT.f f1 (by simp) (by simp)) h24 (fun σ2 j hsk b24 f2 => ⟨9, ?_⟩)⟩
  have g12 : F21 sc3 sc2 σ σ2 := (f1.up (by simp) (by simp)).tr (f2.up (by simp) (by simp))
  refine sr_set_L hL 8 (i := j) (w := 4) (g := []) (by simp) (hP.le hsk.1 hsk.2.1) (Or.inl ⟨rfl, rfl⟩) hsk.2.2.1 ((hT.f f1 (by simp) (by simp)).f f2 (by simp) (by simp)) b24 (M1.f f2 (by simp) (by simp) (by simp) (by simp) (by simp) (by simp) (by simp)) (by rw [f2.ot (by simp) (by omega)]; exact sn_un_same _ _ _ _) (fun σ' i' g' h1 h2 h3 h4 h5 h6 => hok σ' i' g' ((hsk.2.2.2 _ _ _ _ _ _).trans h1) h2 (by have := hsk.1; omega) h4 h5 (g12.tr (h6.up (by simp) (by simp)))) (fun σ' j' h1 h2 h3 => hno σ' j' ((hsk.2.2.2 _ _ _ _ _ _).trans h1) h2 (g12.tr (h3.up (by simp) (by simp))))
end
