/-! ===== sums: the reference does a term, goes through a text ===== -/
section
variable {σ : SS} {M : Nat → List KV} {mk : Int}
theorem lo_min {l : List KV} (h : Gd l) : lo l (-500) = [] := by
  unfold lo
  rw [List.filter_eq_nil_iff]
  intro p hp
  have := h.2.1 p hp
  simp; omega
theorem Cn.next {k : List Tok} {u : Nat} (h : Cn σ mk M k k.length u) : Cn σ mk M k 0 (u + 1) := fun i x hx h3 => by
  have hi := (List.getElem?_eq_some_iff.mp hx).1
  rw [h i x hx h3, if_pos hi, if_neg (by omega)]
theorem Cn.sm {σ' : SS} {k : List Tok} {j u : Nat} {is : List Nat} (h : Cn σ mk M k j u) (s : Sm is σ σ') (h1 : 37 ∉ is) : Cn σ' mk M k j u := fun i x hx h3 => by rw [(s.1 37 h1 i).1]; exact h i x hx h3
theorem MkI.sm {σ' : SS} {k : List Tok} {g : List Int} {is : List Nat} (h : MkI σ k g) (s : Sm is σ σ') (h0 : 21 ∉ is) (h1 : 31 ∉ is) (h3 : 33 ∉ is) (h4 : 34 ∉ is) (h5 : 35 ∉ is) : MkI σ' k g :=
  h.f (is := is) (ks := []) ⟨s.up (fun i hi => List.mem_cons_of_mem _ hi), fun j _ => (s.1 21 h0 j).1⟩ h1 h3 h4 h5 (by simp) (by simp) (by simp)
theorem sr_places {Q : Int → SS → Prop} {K : Int → Int → SS → Prop} {a1 v2 v4 : Int} {u : Nat} (hg : GM M) (hu : u ≤ 1000) : ∀ (f : Nat) {j : Nat} {σ : SS}, j + f = 6 → MI σ M → (∀ m, m < 6 → sn σ 38 m = ((lo (M m) (if m < j then -500 + ((u + 1 : Nat) : Int) else -500 + (u : Int))).length : Int)) →
    (∀ σ', Sm [38] σ σ' → Pc6 σ' M (-500 + ((u + 1 : Nat) : Int)) → R32 v4 ∧ (v4 = (-2000000001) → K v2 (-500 + (u : Int) + 1) σ') ∧ (¬ v4 = (-2000000001) → R32 v2 ∧ (200 < v2 → K v2 (-500 + (u : Int) + 1) σ') ∧ (¬ 200 < v2 → R32 (-500 + (u : Int)) ∧ wX9_entry (-500 + (u : Int)) v4 σ' (fun r52 s51 => 0 ≤ v2 ∧ v2 < 201 ∧ K (v2 + 1) (-500 + (u : Int) + 1) (un s51 28 (v2 : Int).toNat r52))))) → wX9_sets_L67 a1 Q K (f + 1) v2 (-500 + (u : Int)) v4 (j : Int) σ := by
  intro f
  induction f with
  | zero =>
    intro j σ hj hM hp hq
    rw [wX9_sets_L67]
    exact ⟨⟨by omega, by omega⟩, fun _ => hq σ (Sm.rf _ _) (fun m hm => by rw [hp m hm, if_pos (by omega)]), fun c => by omega⟩
  | succ f ih =>
    intro j σ hj hM hp hq
    have e1 : ((j : Int) + 1) = ((j + 1 : Nat) : Int) := by omega
    have h38 := hp j (by omega)
    rw [if_neg (by omega)] at h38
    have hgj := hg j (by omega)
    have hs := lo_succ hgj.1 (-500 + (u : Int))
    rw [show -500 + (u : Int) + 1 = -500 + ((u + 1 : Nat) : Int) by omega] at hs
    have hl := lo_len (M j) (-500 + (u : Int))
    have hl2 := hgj.2.2.2
    have hnx : ∀ dd : Int, ((lo (M j) (-500 + (u : Int))).length : Int) + dd = ((lo (M j) (-500 + ((u + 1 : Nat) : Int))).length : Int) → wX9_sets_L67 a1 Q K (f + 1) v2 (-500 + (u : Int)) v4 ((j + 1 : Nat) : Int) (un σ 38 j (((lo (M j) (-500 + (u : Int))).length : Int) + dd)) := by
      intro dd hdd
      have s1 : Sm [38] σ (un σ 38 j (((lo (M j) (-500 + (u : Int))).length : Int) + dd)) := Sm.un (by simp)
      refine ih (by omega) (hM.sm s1 (by simp) (by simp)) (fun m hm => ?_) (fun σ' s' p' => hq σ' (s1.tr s') p')
      rw [sn_un]
      by_cases c : m = j
      · rw [if_pos ⟨rfl, c⟩, c, if_pos (by omega), hdd]
      · rw [if_neg (fun z => c z.2), hp m hm]
        by_cases c2 : m < j
        · rw [if_pos c2, if_pos (by omega)]
        · rw [if_neg c2, if_neg (by omega)]
    have hM0 := hM
    rw [wX9_sets_L67, Int.toNat_natCast, h38, e1]
    have it := sr_isThere (k := -500 + (u : Int)) (m := (j : Int)) (Q := fun r64 s63 => (((r64 = 0 → (0 ≤ (j : Int) ∧ (j : Int) < 6 ∧ R32 (((lo (M j) (-500 + (u : Int))).length : Int) + 0) ∧ (wX9_sets_L67 a1 Q K (f + 1) v2 (-500 + (u : Int)) v4 ((j + 1 : Nat) : Int) (un s63 38 j (((lo (M j) (-500 + (u : Int))).length : Int) + 0))))) ∧ (¬ r64 = 0 → (0 ≤ (j : Int) ∧ (j : Int) < 6 ∧ R32 (((lo (M j) (-500 + (u : Int))).length : Int) + 1) ∧ (wX9_sets_L67 a1 Q K (f + 1) v2 (-500 + (u : Int)) v4 ((j + 1 : Nat) : Int) (un s63 38 j (((lo (M j) (-500 + (u : Int))).length : Int) + 1)))))))) hM hg ⟨by omega, by omega⟩ (fun v hv _ => ⟨o1, fun _ => ⟨by omega, by omega, ⟨by omega, by omega⟩, hnx 1 ?_⟩⟩) (fun hv => ⟨fun _ => ⟨by omega, by omega, ⟨by omega, by omega⟩, hnx 0 ?_⟩, o0⟩)
    · rw [Int.toNat_natCast] at it
      exact ⟨⟨by omega, by omega⟩, fun c => by omega, fun _ => ⟨by omega, by omega, by omega, by omega, ⟨by omega, by omega⟩, it⟩⟩
    · rw [Int.toNat_natCast] at hv
      rw [hs, hv]; simp
    · rw [Int.toNat_natCast] at hv
      rw [hs, hv]; simp
theorem sr_sets50 {Q : Int → SS → Prop} {a1 : Int} {k : List Tok} {F : Int → Option Int} (hF : F = fun y => hdO (vT mk M y k [])) (hg : GM M) (hmk2 : 0 ≤ mk ∧ mk ≤ 5) (hok : ∀ z ∈ k, okT z) (hwf : wf k 0 = some 1) (hl : k.length ≤ 120) (h60 : stc k ≤ 60) (hky : (kys k).length ≤ 130) : ∀ (f : Nat) {u n : Nat} {σ : SS}, u + f = 1001 → n ≤ 201 → ((tab F u).length ≤ 200 → n = (tab F u).length ∧ Rg σ 28 0 (tab F u)) → MI σ M → MkI σ k [] → sn σ 21 9 = mk → Pc6 σ M (-500 + (u : Int)) → Cn σ mk M k 0 u →
    (∀ (σ' : SS) (n' : Nat), n' ≤ 201 → Sm [28, 36, 37, 38] σ σ' → ((tabL F).length ≤ 200 → n' = (tabL F).length ∧ Rg σ' 28 0 (tabL F)) → Cn σ' mk M k 0 1001 → ∃ kk, wX9_sets_L152 a1 Q kk (n' : Int) 1 0 σ') → wX9_sets_L50 a1 Q (f + 1) (n : Int) (-500 + (u : Int)) σ := by
  intro f
  induction f with
  | zero =>
    intro u n σ hu hn hr hM hm hmk hp hc hq
    have : u = 1001 := by omega
    subst this
    rw [wX9_sets_L50]
    exact ⟨⟨by omega, by omega⟩, fun _ => hq σ n hn (Sm.rf _ _) hr hc, fun c => by omega⟩
  | succ f ih =>
    intro u n σ hu hn hr hM hm hmk hp hc hq
    have oF : Ov (F (-500 + (u : Int))) := by
      rw [hF]
      exact Ov_hdO (vT_Ov hg k [] hok ⟨by omega, by omega⟩ (fun o ho => by cases ho))
    have hts := tab_succ (f := F) (u := u)
    rw [wX9_sets_L50]
    refine ⟨⟨by omega, by omega⟩, fun c => by omega, fun _ => ⟨k.length + 1, ?_⟩⟩
    refine sr_termAt_L hg hmk2 hok hwf hl h60 hky (by omega) k (a := []) rfl hM hm hmk hp (fun i o ho => by simp [vT] at ho) hc (fun σ1 c1 s1 => ⟨7, ?_⟩)
    have hM1 : MI σ1 M := hM.sm s1 (by simp) (by simp)
    have ev : hdO (vT mk M (-500 + (u : Int)) k []) = F (-500 + (u : Int)) := by rw [hF]
    rw [ev]
    refine sr_places hg (by omega) 6 (j := 0) rfl hM1 (fun m hm' => by rw [if_neg (by omega), (s1.1 38 (by simp) m).1]; exact hp m hm') (fun σ2 s2 p2 => ?_)
    have c2 : Cn σ2 mk M k 0 (u + 1) := (c1.next).sm s2 (by simp)
    have M2 : MI σ2 M := hM1.sm s2 (by simp) (by simp)
    have m2 : MkI σ2 k [] := (hm.sm s1 (by simp) (by simp) (by simp) (by simp) (by simp)).sm s2 (by simp) (by simp) (by simp) (by simp) (by simp)
    have k2 : sn σ2 21 9 = mk := by rw [(s2.1 21 (by simp) 9).1, (s1.1 21 (by simp) 9).1]; exact hmk
    have s12 : Sm [28, 36, 37, 38] σ σ2 := (s1.up (by simp)).tr (s2.up (by simp))
    have g28 : ∀ j, sn σ2 28 j = sn σ 28 j := fun j => by rw [(s2.1 28 (by simp) j).1, (s1.1 28 (by simp) j).1]
    have ek : -500 + (u : Int) + 1 = -500 + ((u + 1 : Nat) : Int) := by omega
    rw [ek]
    have stay : ((tab F (u + 1)).length ≤ 200 → n = (tab F (u + 1)).length ∧ Rg σ2 28 0 (tab F (u + 1))) → wX9_sets_L50 a1 Q (f + 1) (n : Int) (-500 + ((u + 1 : Nat) : Int)) σ2 := fun hr2 => ih (by omega) hn hr2 M2 m2 k2 p2 c2 (fun σ' n' b1 b2 b3 b4 => hq σ' n' b1 (s12.tr b2) b3 b4)
    refine ⟨oc_R oF, fun c => stay ?_, fun c => ⟨⟨by omega, by omega⟩, fun c3 => stay (fun h3 => ?_), fun c3 => ⟨⟨by omega, by omega⟩, ?_⟩⟩⟩
    · have hn' := (oc_none oF).mp c
      have et : tab F (u + 1) = tab F u := by rw [tab, hn', List.append_nil]
      rw [et]
      exact fun h3 => ⟨(hr h3).1, fun i p hp => by rw [g28]; exact (hr h3).2 i p hp⟩
    · have := (hr (by omega)).1
      omega
    · cases hv : F (-500 + (u : Int)) with
      | none => rw [hv] at c; exact absurd rfl c
      | some v =>
        have et : tab F (u + 1) = tab F u ++ [(-500 + (u : Int), v)] := by rw [tab, hv]
        have e3 : oc (some v) = v := rfl
        rw [e3]
        refine sr_entry ⟨by omega, by omega⟩ (oF v hv) ⟨by omega, by omega, ?_⟩
        rw [Int.toNat_natCast, show ((n : Int) + 1) = ((n + 1 : Nat) : Int) by omega]
        have s3 : Sm [28] σ2 (un σ2 28 n (pk (-500 + (u : Int), v))) := Sm.un (by simp)
        refine ih (by omega) (by omega) (fun h3 => ?_) (M2.sm s3 (by simp) (by simp)) (m2.sm s3 (by simp) (by simp) (by simp) (by simp) (by simp)) k2 (fun m hm' => by rw [(s3.1 38 (by simp) m).1]; exact p2 m hm') (c2.sm s3 (by simp)) (fun σ' n' b1 b2 b3 b4 => hq σ' n' b1 ((s12.tr (s3.up (by simp))).tr b2) b3 b4)
        rw [et, List.length_append, List.length_singleton] at h3
        have hr' := hr (by omega)
        rw [et]
        refine ⟨by rw [List.length_append, List.length_singleton, ← hr'.1], Rg_add (σ := σ2) (fun i p hp => by rw [g28]; exact hr'.2 i p hp) (fun i hi => sn_un_k _ _ (by rw [hr'.1]; exact hi)) (by rw [← hr'.1]; exact sn_un_same _ _ _ _)⟩
theorem sr_sets152 {Q : Int → SS → Prop} {a1 : Int} {k : List Tok} {n : Nat} (hn : n ≤ 201) (hm : MkI σ k []) (hok : ∀ z ∈ k, okT z) (hl : k.length ≤ 120) (hc : Cn σ mk M k 0 1001)
    (hfit : (∀ (i : Nat) (x : Tok), k[i]? = some x → (x.1 = 0 ∨ x.1 = 3) → (tabL (fJ mk M k [] i)).length ≤ 200) → wX9_becomes a1 (n : Int) σ (fun s22 => (((1 : Int) = 0 ∨ (1 : Int) = 1) ∧ Q 1 s22))) (hnot : (∃ (i : Nat) (x : Tok), k[i]? = some x ∧ (x.1 = 0 ∨ x.1 = 3) ∧ 200 < (tabL (fJ mk M k [] i)).length) → Q 0 σ) :
    ∀ (b : List Tok) {a : List Tok} {v3 : Int}, k = a ++ b → (v3 = 1 ∧ (∀ (i : Nat) (x : Tok), i < a.length → k[i]? = some x → (x.1 = 0 ∨ x.1 = 3) → (tabL (fJ mk M k [] i)).length ≤ 200) ∨ v3 = 0 ∧ (∃ (i : Nat) (x : Tok), k[i]? = some x ∧ (x.1 = 0 ∨ x.1 = 3) ∧ 200 < (tabL (fJ mk M k [] i)).length)) → wX9_sets_L152 a1 Q (b.length + 1) (n : Int) v3 (a.length : Int) σ := by
  intro b
  induction b with
  | nil =>
    intro a v3 hk hv
    rw [List.append_nil] at hk
    rw [List.length_nil, wX9_sets_L152, hm.1, hk]
    refine ⟨⟨by rw [← hk]; omega, by rw [← hk]; omega⟩, fun _ => ?_, fun c => by omega⟩
    rcases hv with ⟨rfl, h⟩ | ⟨rfl, h⟩
    · refine ⟨by decide, o1, fun _ => ⟨⟨by omega, by omega⟩, ?_⟩⟩
      exact hfit (fun i x hx h0 => h i x (by rw [← hk]; exact (List.getElem?_eq_some_iff.mp hx).1) hx h0)
    · exact ⟨by decide, fun _ => ⟨Or.inl rfl, hnot h⟩, o0⟩
  | cons x b ih =>
    intro a v3 hk hv
    have hx : okT x := hok x (by rw [hk]; simp)
    have hka : k.length = a.length + b.length + 1 := by rw [hk, List.length_append, List.length_cons]; omega
    have hkj : k[a.length]? = some x := by rw [hk, List.getElem?_append_right (by omega), Nat.sub_self]; rfl
    have h31 := (hm.2.2.2.2 a x b hk).1
    have hk' : k = (a ++ [x]) ++ b := by rw [hk, List.append_assoc]; rfl
    have e1 : ((a.length : Int) + 1) = ((a ++ [x]).length : Int) := by rw [List.length_append, List.length_singleton]; omega
    rw [List.length_cons, wX9_sets_L152, hm.1, Int.toNat_natCast, h31, e1]
    refine ⟨⟨by omega, by omega⟩, fun c => by rw [hka] at c; omega, fun _ => ?_⟩
    rcases hv with ⟨rfl, h⟩ | ⟨rfl, h⟩
    · have yes : ((x.1 = 0 ∨ x.1 = 3) → (tabL (fJ mk M k [] a.length)).length ≤ 200) → wX9_sets_L152 a1 Q (b.length + 1) (n : Int) 1 ((a ++ [x]).length : Int) σ := fun hh => ih hk' (Or.inl ⟨rfl, fun i z hi hz hz0 => by
          rw [List.length_append, List.length_singleton] at hi
          by_cases c : i = a.length
          · rw [c] at hz ⊢
            have : x = z := by rw [hkj] at hz; exact Option.some.inj hz
            exact hh (by rw [this]; exact hz0)
          · exact h i z (by omega) hz hz0⟩)
      have no : (x.1 = 0 ∨ x.1 = 3) → 200 < (tabL (fJ mk M k [] a.length)).length → wX9_sets_L152 a1 Q (b.length + 1) (n : Int) 0 ((a ++ [x]).length : Int) σ := fun h1 h2 => ih hk' (Or.inr ⟨rfl, a.length, x, hkj, h1, h2⟩)
      refine ⟨by decide, o1, fun _ => ⟨by omega, by omega, fun c10 => ?_, fun c10 => ⟨by omega, by omega, fun c13 => yes (fun z => ?_), fun c13 => ?_⟩⟩⟩
      · have hx0 : x.1 = 0 := by
          unfold cod at c10
          rcases hx with ⟨q1, -⟩ | ⟨q1, m, q2, q3⟩ | ⟨q1, -⟩
          · rw [if_neg (by omega), if_neg (by omega)] at c10; omega
          · rw [if_pos q1, q3] at c10; have : m = 10 := c10; omega
          · rw [if_neg (by omega), if_pos q1] at c10; omega
        have hcn := hc a.length x hkj (by omega)
        rw [if_neg (by omega)] at hcn
        have hcn2 : sn σ 37 a.length = ((tabL (fJ mk M k [] a.length)).length : Int) := hcn
        rw [hcn2]
        exact ⟨by omega, by omega, fun c => no (Or.inl hx0) (by omega), fun c => yes (fun _ => by omega)⟩
      · exfalso
        unfold cod at c10 c13
        rcases z with z | z
        · rw [if_neg (by omega), if_neg (by omega)] at c10; omega
        · rw [if_neg (by omega), if_neg (by omega)] at c13; omega
      · have hx3 : x.1 = 3 := by
          unfold cod at c13
          rcases hx with ⟨q1, -⟩ | ⟨q1, m, q2, q3⟩ | ⟨q1, -⟩
          · rw [if_neg (by omega), if_neg (by omega)] at c13; omega
          · rw [if_pos q1, q3] at c13; have : m = 13 := c13; omega
          · rw [if_neg (by omega), if_pos q1] at c13; omega
        have hcn := hc a.length x hkj (by omega)
        rw [if_neg (by omega)] at hcn
        have hcn2 : sn σ 37 a.length = ((tabL (fJ mk M k [] a.length)).length : Int) := hcn
        rw [hcn2]
        exact ⟨by omega, by omega, fun c => no (Or.inr hx3) (by omega), fun c => yes (fun _ => by omega)⟩
    · exact ⟨by decide, fun _ => ih hk' (Or.inr ⟨rfl, h⟩), o0⟩
end
