/-! ===== sums: the reference goes through a text ===== -/
section
variable {σ : SS} {M : Nat → List KV} {mk : Int} {n : Nat} {a : AS} {t : List Int}
theorem sr_sets23 {Q : Int → SS → Prop} {a1 : Int} {N : Nat} (hN : N ≤ 120) : ∀ (f : Nat) {i : Nat} {σ : SS}, i + f = N → sn σ 21 13 = (N : Int) → (∀ j, j < i → sn σ 37 j = 0) → (∀ σ', Sm [37] σ σ' → (∀ j, j < N → sn σ' 37 j = 0) → ∃ kk, wX9_sets_L50 a1 Q kk 0 (-500) σ') → wX9_sets_L23 a1 Q (f + 1) (i : Int) σ := by
  intro f
  induction f with
  | zero =>
    intro i σ hi h13 h0 hq
    rw [wX9_sets_L23, h13]
    exact ⟨⟨by omega, by omega⟩, fun _ => hq σ (Sm.rf _ _) (fun j hj => h0 j (by omega)), fun c => by omega⟩
  | succ f ih =>
    intro i σ hi h13 h0 hq
    have s1 : Sm [37] σ (un σ 37 i 0) := Sm.un (by simp)
    rw [wX9_sets_L23, h13, Int.toNat_natCast, show ((i : Int) + 1) = ((i + 1 : Nat) : Int) by omega]
    refine ⟨⟨by omega, by omega⟩, fun c => by omega, fun _ => ⟨by omega, by omega, ih (by omega) (by rw [(s1.1 21 (by simp) 13).1]; exact h13) (fun j hj => ?_) (fun σ' s' h' => hq σ' (s1.tr s') h')⟩⟩
    rw [sn_un]
    by_cases c : j = i
    · rw [if_pos ⟨rfl, c⟩]
    · rw [if_neg (fun z => c z.2)]; exact h0 j (by omega)
theorem sr_sets2 {Q : Int → SS → Prop} {a1 : Int} : ∀ (f : Nat) {i : Nat} {σ : SS}, i + f = 6 → (∀ j, j < i → sn σ 38 j = 0) → (∀ σ', Sm [38] σ σ' → (∀ j, j < 6 → sn σ' 38 j = 0) → ∃ kk, wX9_sets_L23 a1 Q kk 0 σ') → wX9_sets_L2 a1 Q (f + 1) (i : Int) σ := by
  intro f
  induction f with
  | zero =>
    intro i σ hi h0 hq
    rw [wX9_sets_L2]
    exact ⟨⟨by omega, by omega⟩, fun _ => hq σ (Sm.rf _ _) (fun j hj => h0 j (by omega)), fun c => by omega⟩
  | succ f ih =>
    intro i σ hi h0 hq
    have s1 : Sm [38] σ (un σ 38 i 0) := Sm.un (by simp)
    rw [wX9_sets_L2, Int.toNat_natCast, show ((i : Int) + 1) = ((i + 1 : Nat) : Int) by omega]
    refine ⟨⟨by omega, by omega⟩, fun c => by omega, fun _ => ⟨by omega, by omega, ih (by omega) (fun j hj => ?_) (fun σ' s' h' => hq σ' (s1.tr s') h')⟩⟩
    rw [sn_un]
    by_cases c : j = i
    · rw [if_pos ⟨rfl, c⟩]
    · rw [if_neg (fun z => c z.2)]; exact h0 j (by omega)
abbrev sts : List Nat := [22, 23, 28, 36, 37, 38]
theorem sr_sets {Q : Int → SS → Prop} {m : Int} {k : List Tok} (hm : isM m) (hM : MI σ M) (hg : GM M) (hk : MkI σ k []) (hmk : sn σ 21 9 = mk) (hmk2 : 0 ≤ mk ∧ mk ≤ 5) (hok : ∀ z ∈ k, okT z) (hwf : wf k 0 = some 1) (hl : k.length ≤ 120) (h60 : stc k ≤ 60) (hky : (kys k).length ≤ 130)
    (hq1 : ∀ (st : List (List KV)) (σ' : SS), dT mk M k [] = some st → MI σ' (updM M m.toNat (hdL st)) → Sm sts σ σ' → Q 1 σ') (hq0 : ∀ σ', dT mk M k [] = none → Sm sts σ σ' → Q 0 σ') : wX9_sets m σ Q := by
  have dok := dT_ok hg hmk2 k [] hok (fun l hl => by cases hl)
  refine ⟨7, sr_sets2 6 (i := 0) rfl (fun j hj => by omega) (fun σ1 s1 z1 => ⟨k.length + 1, ?_⟩)⟩
  have k1 : MkI σ1 k [] := hk.sm s1 (by simp) (by simp) (by simp) (by simp) (by simp)
  refine sr_sets23 hl k.length (i := 0) (by omega) k1.1 (fun j hj => by omega) (fun σ2 s2 z2 => ⟨1002, ?_⟩)
  have k2 : MkI σ2 k [] := k1.sm s2 (by simp) (by simp) (by simp) (by simp) (by simp)
  have M2 : MI σ2 M := (hM.sm s1 (by simp) (by simp)).sm s2 (by simp) (by simp)
  have s12 : Sm sts σ σ2 := (s1.up (by simp)).tr (s2.up (by simp))
  have h50 := sr_sets50 (Q := Q) (a1 := m) (F := fun y => hdO (vT mk M y k [])) rfl hg hmk2 hok hwf hl h60 hky 1001 (u := 0) (n := 0) (σ := σ2) rfl (by omega) (fun _ => ⟨rfl, fun i p hp => by simp [tab] at hp⟩) M2 k2 (by rw [(s2.1 21 (by simp) 9).1, (s1.1 21 (by simp) 9).1]; exact hmk) (fun m' hm' => by
      rw [(s2.1 38 (by simp) m').1, z1 m' hm', show -500 + ((0 : Nat) : Int) = -500 by omega, lo_min (hg m' hm')]; rfl) (fun i x hx h3 => by
      rw [z2 i (List.getElem?_eq_some_iff.mp hx).1, if_neg (by omega)]; rfl) (fun σ3 n' hn' s3 hr hc => ⟨k.length + 1, ?_⟩)
  · simpa using h50
  · have k3 : MkI σ3 k [] := k2.sm s3 (by simp) (by simp) (by simp) (by simp) (by simp)
    have s13 : Sm sts σ σ3 := s12.tr (s3.up (by simp))
    refine sr_sets152 (mk := mk) (M := M) hn' k3 hok hl hc (fun hf => ?_) (fun hf => ?_) k (a := []) rfl (Or.inl ⟨rfl, fun i x hi => by simp at hi⟩)
    · cases hd : dT mk M k [] with
      | none =>
        obtain ⟨i, x, b1, b2, b3⟩ := dok.2 hd
        have := hf i x b1 b2
        omega
      | some st =>
        obtain ⟨d1, d2, -⟩ := dok.1 st hd
        have hlen := dT_len k [] st 1 hok hd hwf
        obtain ⟨l, rfl⟩ := List.length_eq_one_iff.mp hlen
        have gl : Gd l := d1 l List.mem_cons_self
        have hF : tabL (fun y => hdO (vT mk M y k [])) = l := by
          refine (tabL_of gl.1 (fun y => ?_) (fun y hy => ?_)).symm
          · have := d2 y
            rw [List.map_nil] at this
            rw [this]; rfl
          · have := d2 y
            rw [List.map_nil] at this
            rw [this]
            exact lkx_out gl.2.1 hy
        rw [hF] at hr
        obtain ⟨e1, e2⟩ := hr gl.2.2.2
        rw [e1]
        have M3 : MI σ3 M := M2.sm s3 (by simp) (by simp)
        exact sr_becomes M3 hg hm gl.2.2.2 e2 (fun σ4 h4 s4 => ⟨Or.inr rfl, hq1 [l] σ4 hd h4 (s13.tr (s4.up (by simp)))⟩)
    · cases hd : dT mk M k [] with
      | none => exact hq0 σ3 hd s13
      | some st =>
        obtain ⟨i, x, b1, b2, b3⟩ := hf
        have := (dok.1 st hd).2.2 i x b1 (by omega)
        omega
/-- a sum's front, and its term -/
theorem sr_gt32 {Q : Int → SS → Prop} {K : SS → Prop} {a1 : Int} (hL : t.length ≤ 120) {i : Nat} {tg : Int} {g : List Int} {d : List (Int × List Tok)} (hP : PV t (i, 0, tg, [], [], g, d)) (hc : bt t i ≠ 32) (hend : i < t.length ∨ d = []) (hT : Ty σ t) (h24 : sn σ 21 24 = (i : Int))
    (hno : ∀ (σ' : SS) (j : Nat), rdp t (i, 0, tg, [], [], g, d) = ((j : Int), []) → F21 sc4 sc5 σ σ' → Q (j : Int) σ')
    (hok : ∀ (σ' : SS) (i' : Nat) (k' : List Tok) (g' : List Int) (tg' : Int), isM tg' → rdp t (i, 0, tg, [], [], g, d) = rdp t (i', 0, tg', [], [], g', d ++ [(tg', k')]) → PV t (i', 0, tg', [], [], g', d ++ [(tg', k')]) → i < i' → sn σ' 21 24 = (i' : Int) → MkI σ' k' [] → stc k' ≤ 60 → F21 sc4 sc5 σ σ' →
      (((a1 = 0 → (R32 (((sn σ' 21 25) + 1)) ∧ (wX9_skips (un σ' 21 25 (((sn σ' 21 25) + 1))) (fun s36 => (K (s36)))))) ∧ (¬ a1 = 0 → (R32 tg' ∧ wX9_sets tg' σ' (fun r41 s40 => (((¬ r41 = 0 → (R32 (((sn s40 21 25) + 1)) ∧ (wX9_skips (un s40 21 25 (((sn s40 21 25) + 1))) (fun s46 => (K (s46)))))) ∧ (r41 = 0 → Q (-2000000004) (s40)))))))))) : wX9_goesThrough_L32 a1 Q K σ := by
  have v1 := hP.1
  dsimp only at v1
  unfold wX9_goesThrough_L32
  rw [h24]
  refine sr_byteAt hL hT (sr_in (fun hl => ⟨fun _ => ?_, o1⟩) (fun hl => ⟨o0, fun _ => ?_⟩))
  · have hi : i < t.length := bt_lt rfl (by omega)
    have s1 : stp t (i, 0, tg, [], [], g, d) = some (i + 1, 1, bt t i - 97, [], [], g, d) := by rw [stp, if_pos rfl, if_pos hl]
    have P1 := PV_stp hP (by dsimp only; exact hi) s1
    have r1 := rdp_go (s := (i, 0, tg, [], [], g, d)) (by dsimp only; exact hi) (by dsimp only; exact hc) s1
    rw [h24, show ((i : Int) + 1) = ((i + 1 : Nat) : Int) by omega]
    have f1 : F21 [] [24] σ (un σ 21 24 ((i + 1 : Nat) : Int)) := F21.u21 (by simp)
    refine ⟨⟨by omega, by omega⟩, sr_skips hL (by omega) (hT.f f1 (by simp) (by simp)) (sn_un_same _ _ _ _) (fun σ2 j hsk b24 f2 => ?_)⟩
    have f12 := f1.tr f2
    have T2 := hT.f f12 (by simp) (by simp)
    have P2 := P1.le hsk.1 hsk.2.1
    have r2 := r1.trans (hsk.2.2.2 _ _ _ _ _ _)
    have g12 : F21 sc4 sc5 σ σ2 := f12.up (by simp) (by simp)
    have hij := hsk.1
    rw [b24]
    refine sr_byteAt hL T2 ⟨fun c61 => ?_, fun c61 => ?_⟩
    · have hj : j < t.length := bt_lt c61 (by decide)
      have s3 : stp t (j, 1, bt t i - 97, [], [], g, d) = some (j + 1, 2, bt t i - 97, [], [], g, d) := by rw [stp, if_neg (by omega), if_pos rfl, if_pos c61]
      have P3 := PV_stp P2 (by dsimp only; exact hj) s3
      have r3 := r2.trans (rdp_go (s := (j, 1, bt t i - 97, [], [], g, d)) (by dsimp only; exact hj) (by dsimp only; exact hsk.2.2.1) s3)
      rw [b24, show ((j : Int) + 1) = ((j + 1 : Nat) : Int) by omega]
      have f3 : F21 [] [24] σ2 (un σ2 21 24 ((j + 1 : Nat) : Int)) := F21.u21 (by simp)
      have g13 : F21 sc4 sc5 σ (un σ2 21 24 ((j + 1 : Nat) : Int)) := g12.tr (f3.up (by simp) (by simp))
      refine ⟨⟨by omega, by omega⟩, sr_readsTerm hL P3 (T2.f f3 (by simp) (by simp)) (sn_un_same _ _ _ _) (fun σ4 i' k' g' a1 a2 a3 a4 a5 a7 a6 => ⟨fun _ => ?_, o1⟩) (fun σ4 j' a1 a2 a3 => ⟨o0, fun _ => ?_⟩)⟩
      · exact hok σ4 i' k' g' (bt t i - 97) ⟨by omega, by omega⟩ (r3.trans a1) a2 (by omega) a4 a5 a7 (g13.tr a6)
      · rw [a2]
        exact hno σ4 j' (r3.trans a1) (g13.tr a3)
    · rw [b24]
      refine hno σ2 j (r2.trans (rdp_rej hsk.2.1 hsk.2.2.1 ?_ (Or.inl (by decide)))) g12
      rw [stp, if_neg (by omega), if_pos rfl, if_neg c61]
  · rw [h24]
    refine hno σ i (rdp_rej v1 hc ?_ (Or.inr (hend.elim (fun h => Or.inr h) (fun h => Or.inl h)))) (F21.rf _ _ _)
    rw [stp, if_pos rfl, if_neg hl]
abbrev sc6 : List Nat := [13, 15, 18, 20, 24, 25, 26]
/-- the first time: what the text says -/
theorem sr_gt0_L {Q : Int → SS → Prop} (hL : t.length ≤ 120) : ∀ (f : Nat) {i : Nat} {tg : Int} {g : List Int} {d : List (Int × List Tok)} {σ : SS}, t.length + 1 ≤ i + f → PV t (i, 0, tg, [], [], g, d) → bt t i ≠ 32 → Ty σ t → sn σ 21 24 = (i : Int) → sn σ 21 25 = (d.length : Int) → d.length ≤ i → (∀ σ', F21 sc4 sc6 σ σ' → Q (if (rdp t (i, 0, tg, [], [], g, d)).1 = -1 then -2000000001 else (rdp t (i, 0, tg, [], [], g, d)).1) σ') → wX9_goesThrough_L14 0 Q f σ := by
  intro f
  induction f with
  | zero => intro i tg g d σ h1 h2; have := h2.1; dsimp only at this; omega
  | succ f ih =>
    intro i tg g d σ hf hP hc hT h24 h25 hdl hq
    have v1 := hP.1
    dsimp only at v1
    have key : (i < t.length ∨ d = []) → wX9_goesThrough_L32 0 Q (fun sL => wX9_goesThrough_L14 0 Q f sL) σ := by
      intro hend
      refine sr_gt32 hL hP hc hend hT h24 (fun σ' j hr fr => ?_) (fun σ' i' k' g' tg' htg hr P' hlt b24 bm b60 fr => ⟨fun _ => ?_, fun c => absurd rfl c⟩)
      · have := hq σ' (fr.up (by simp) (by simp))
        rw [hr] at this
        rw [if_neg (by dsimp only; omega)] at this
        exact this
      · have b25 : sn σ' 21 25 = (d.length : Int) := by rw [fr.2 25 (by simp)]; exact h25
        have hP1 := P'.1
        dsimp only at hP1
        rw [b25, show ((d.length : Int) + 1) = ((d ++ [(tg', k')]).length : Int) by rw [List.length_append, List.length_singleton]; omega]
        have f1 : F21 [] [25] σ' (un σ' 21 25 ((d ++ [(tg', k')]).length : Int)) := F21.u21 (by simp)
        have T1 : Ty (un σ' 21 25 ((d ++ [(tg', k')]).length : Int)) t := (hT.f fr (by simp) (by simp)).f f1 (by simp) (by simp)
        have hdl' : (d ++ [(tg', k')]).length ≤ i' := by rw [List.length_append, List.length_singleton]; omega
        refine ⟨⟨by omega, by omega⟩, sr_skips hL hP1 T1 (by rw [f1.2 24 (by simp)]; exact b24) (fun σ2 j hsk c24 f2 => ?_)⟩
        have hij := hsk.1
        have g2 : F21 sc4 sc6 σ σ2 := ((fr.up (by simp) (by simp)).tr (f1.up (by simp) (by simp))).tr (f2.up (by simp) (by simp))
        refine ih (i := j) (by omega) (P'.le hsk.1 hsk.2.1) hsk.2.2.1 (T1.f f2 (by simp) (by simp)) c24 (by rw [f2.2 25 (by simp)]; exact sn_un_same _ _ _ _) (by omega) (fun σ3 f3 => ?_)
        have := hq σ3 (g2.tr f3)
        rw [hr, hsk.2.2.2] at this
        exact this
    rw [wX9_goesThrough_L14, h24, hT.1, h25]
    refine ⟨fun c => key (Or.inl (by omega)), fun c => ⟨fun c2 => ?_, fun c2 => key (Or.inr (List.length_eq_zero_iff.mp (by omega)))⟩⟩
    have := hq σ (F21.rf _ _ _)
    have er : rdp t (i, 0, tg, [], [], g, d) = (-1, d) := by rw [rdp_end (by omega), if_pos ⟨rfl, fun z => c2 (by rw [z]; rfl)⟩]
    rw [er, if_pos rfl] at this
    exact this
theorem sr_gt0 {Q : Int → SS → Prop} (hL : t.length ≤ 120) (hT : Ty σ t) (hq : ∀ σ', F21 sc4 sc6 σ σ' → Q (if (rdp t ps0).1 = -1 then -2000000001 else (rdp t ps0).1) σ') : wX9_goesThrough 0 σ Q := by
  have f1 : F21 [] [24, 25] σ (un (un σ 21 24 0) 21 25 0) := (F21.u21 (by simp)).tr (F21.u21 (by simp))
  have T1 := hT.f f1 (by simp) (by simp)
  refine sr_skips hL (i := 0) (Nat.zero_le _) T1 (by simp [sn_un]) (fun σ2 j hsk c24 f2 => ⟨t.length + 1, ?_⟩)
  refine sr_gt0_L hL (t.length + 1) (i := j) (tg := 0) (g := []) (d := []) (by omega) ((PV_0 t).le (Nat.zero_le _) hsk.2.1) hsk.2.2.1 (T1.f f2 (by simp) (by simp)) c24 (by rw [f2.2 25 (by simp)]; simp [sn_un]) (by simp) (fun σ3 f3 => ?_)
  have := hq σ3 (((f1.up (by simp) (by simp)).tr (f2.up (by simp) (by simp))).tr f3)
  unfold ps0 at this
  rw [hsk.2.2.2] at this
  exact this
abbrev st2 : List Nat := [22, 23, 28, 31, 32, 33, 34, 35, 36, 37, 38]
theorem F21.sm {σ' : SS} {is ks : List Nat} (s : Sm is σ σ') (h : 21 ∉ is) : F21 is ks σ σ' := ⟨s.up (fun i hi => List.mem_cons_of_mem _ hi), fun k _ => (s.1 21 h k).1⟩
/-- the second time: it is done -/
theorem sr_gt1_L {Q : Int → SS → Prop} {M0 : Nat → List KV} {D : List (Int × List Tok)} (hL : t.length ≤ 120) (hmk2 : 0 ≤ mk ∧ mk ≤ 5) : ∀ (f : Nat) {i : Nat} {tg : Int} {g : List Int} {d : List (Int × List Tok)} {σ : SS} {M : Nat → List KV}, t.length + 1 ≤ i + f → PV t (i, 0, tg, [], [], g, d) → bt t i ≠ 32 → Ty σ t → sn σ 21 24 = (i : Int) → sn σ 21 25 = (d.length : Int) → d.length ≤ i → rdp t (i, 0, tg, [], [], g, d) = (-1, D) → exD mk d M0 = some M → MI σ M → GM M → sn σ 21 9 = mk →
    (∀ σ' M', exD mk D M0 = some M' → MI σ' M' → GM M' → sn σ' 21 25 = (D.length : Int) → F21 st2 sc6 σ σ' → Q (-2000000001) σ') → (∀ σ', exD mk D M0 = none → F21 st2 sc6 σ σ' → Q (-2000000004) σ') → wX9_goesThrough_L14 1 Q f σ := by
  intro f
  induction f with
  | zero => intro i tg g d σ M h1 h2; have := h2.1; dsimp only at this; omega
  | succ f ih =>
    intro i tg g d σ M hf hP hc hT h24 h25 hdl hD hM0 hM hg hmk hq hq0
    have v1 := hP.1
    dsimp only at v1
    have key : (i < t.length ∨ d = []) → wX9_goesThrough_L32 1 Q (fun sL => wX9_goesThrough_L14 1 Q f sL) σ := by
      intro hend
      refine sr_gt32 hL hP hc hend hT h24 (fun σ' j hr fr => ?_) (fun σ' i' k' g' tg' htg hr P' hlt b24 bm b60 fr => ⟨fun c => absurd c (by decide), fun _ => ⟨⟨by omega, by omega⟩, ?_⟩⟩)
      · exfalso
        rw [hr] at hD
        have := (Prod.mk.inj hD).1; omega
      · have hP1 := P'.1
        have hP7 := P'.2.2.2.2.2.2.1
        have hP13 := P'.2.2.2.2.2.2.2.2.2.2.2.2
        dsimp only at hP1 hP7 hP13
        rw [flD_app, List.length_append] at hP13
        simp only [flD, List.length_append, List.length_cons, List.length_nil] at hP13
        have kl := kys_len (k := k')
        have hx := hP7 (tg', k') (List.mem_append_right _ List.mem_cons_self)
        dsimp only at hx
        rw [hr] at hD
        obtain ⟨-, -, r, hrD⟩ := rd_fin _ _ P' D hD
        dsimp only at hrD
        have fM : MI σ' M := hM.of (fun j => fr.ot (by simp) (by omega) j) (fun j => fr.ot (by simp) (by omega) j)
        have fk : sn σ' 21 9 = mk := by rw [fr.2 9 (by simp)]; exact hmk
        have fr' : F21 st2 sc6 σ σ' := fr.up (by simp) (by simp)
        refine sr_sets htg fM hg bm fk hmk2 hx.2.1 hx.2.2 (by omega) b60 (by omega) (fun st σ2 hd M2 s2 => ⟨fun _ => ?_, o1⟩) (fun σ2 hd s2 => ⟨o0, fun _ => ?_⟩)
        · have fs : F21 st2 sc6 σ' σ2 := F21.sm (s2.up (by simp)) (by simp)
          have b25 : sn σ2 21 25 = (d.length : Int) := by rw [(s2.1 21 (by simp) 25).1, fr.2 25 (by simp)]; exact h25
          rw [b25, show ((d.length : Int) + 1) = ((d ++ [(tg', k')]).length : Int) by rw [List.length_append, List.length_singleton]; omega]
          have hdl' : (d ++ [(tg', k')]).length ≤ i' := by rw [List.length_append, List.length_singleton]; omega
          have f1 : F21 [] [25] σ2 (un σ2 21 25 ((d ++ [(tg', k')]).length : Int)) := F21.u21 (by simp)
          have T2 : Ty σ2 t := ((hT.f fr (by simp) (by simp))).f (F21.sm (is := sts) (ks := []) s2 (by simp)) (by simp) (by simp)
          have T1 : Ty (un σ2 21 25 ((d ++ [(tg', k')]).length : Int)) t := T2.f f1 (by simp) (by simp)
          refine ⟨⟨by omega, by omega⟩, sr_skips hL hP1 T1 (by rw [f1.2 24 (by simp), (s2.1 21 (by simp) 24).1]; exact b24) (fun σ3 j hsk c24 f2 => ?_)⟩
          have hij := hsk.1
          have f13 : F21 [] [24, 25] σ2 σ3 := (f1.up (by simp) (by simp)).tr (f2.up (by simp) (by simp))
          have g2 : F21 st2 sc6 σ σ3 := (fr'.tr fs).tr (f13.up (by simp) (by simp))
          have gu : Gd (hdL st) := hdL_ok ((dT_ok hg hmk2 k' [] hx.2.1 (fun l hl => by cases hl)).1 st hd).1
          refine ih (i := j) (by omega) (P'.le hsk.1 hsk.2.1) hsk.2.2.1 (T1.f f2 (by simp) (by simp)) c24 (by rw [f2.2 25 (by simp)]; exact sn_un_same _ _ _ _) (by omega) (by rw [← hsk.2.2.2]; exact hD) ?_ (M2.of (fun x => f13.ot (by simp) (by omega) x) (fun x => f13.ot (by simp) (by omega) x)) (GM_upd hg gu) (by rw [f13.2 9 (by simp), (s2.1 21 (by simp) 9).1]; exact fk) (fun σ4 M' e1 e2 e3 e4 e5 => hq σ4 M' e1 e2 e3 e4 (g2.tr e5)) (fun σ4 e1 e2 => hq0 σ4 e1 (g2.tr e2))
          rw [exD_app, hM0]
          show exD mk [(tg', k')] M = _
          rw [exD]; dsimp only
          rw [hd]; rfl
        · refine hq0 σ2 ?_ (fr'.tr (F21.sm (s2.up (by simp)) (by simp)))
          rw [hrD, exD_app, exD_app, hM0]
          show (exD mk [(tg', k')] M).bind _ = none
          rw [exD]; dsimp only
          rw [hd]; rfl
    rw [wX9_goesThrough_L14, h24, hT.1, h25]
    refine ⟨fun c => key (Or.inl (by omega)), fun c => ⟨fun c2 => ?_, fun c2 => key (Or.inr (List.length_eq_zero_iff.mp (by omega)))⟩⟩
    rw [rdp_end (by omega), if_pos ⟨rfl, fun z => c2 (by rw [z]; rfl)⟩] at hD
    have := (Prod.mk.inj hD).2
    subst this
    exact hq σ M hM0 hM hg h25 (F21.rf _ _ _)
theorem sr_gt1 {Q : Int → SS → Prop} {D : List (Int × List Tok)} (hL : t.length ≤ 120) (hmk2 : 0 ≤ mk ∧ mk ≤ 5) (hT : Ty σ t) (hD : rdp t ps0 = (-1, D)) (hM : MI σ M) (hg : GM M) (hmk : sn σ 21 9 = mk) (hq : ∀ σ' M', exD mk D M = some M' → MI σ' M' → GM M' → sn σ' 21 25 = (D.length : Int) → F21 st2 sc6 σ σ' → Q (-2000000001) σ') (hq0 : ∀ σ', exD mk D M = none → F21 st2 sc6 σ σ' → Q (-2000000004) σ') : wX9_goesThrough 1 σ Q := by
  have f1 : F21 [] [24, 25] σ (un (un σ 21 24 0) 21 25 0) := (F21.u21 (by simp)).tr (F21.u21 (by simp))
  have T1 := hT.f f1 (by simp) (by simp)
  refine sr_skips hL (i := 0) (Nat.zero_le _) T1 (by simp [sn_un]) (fun σ2 j hsk c24 f2 => ⟨t.length + 1, ?_⟩)
  have f12 : F21 [] [24, 25] σ σ2 := f1.tr (f2.up (by simp) (by simp))
  unfold ps0 at hD
  rw [hsk.2.2.2] at hD
  refine sr_gt1_L (M0 := M) hL hmk2 (t.length + 1) (i := j) (tg := 0) (g := []) (d := []) (by omega) ((PV_0 t).le (Nat.zero_le _) hsk.2.1) hsk.2.2.1 (T1.f f2 (by simp) (by simp)) c24 (by rw [f2.2 25 (by simp)]; simp [sn_un]) (by simp) hD rfl (hM.of (fun x => f12.ot (by simp) (by omega) x) (fun x => f12.ot (by simp) (by omega) x)) hg (by rw [f12.2 9 (by simp)]; exact hmk) (fun σ3 M' e1 e2 e3 e4 e5 => hq σ3 M' e1 e2 e3 e4 ((f12.up (by simp) (by simp)).tr e5)) (fun σ3 e1 e2 => hq0 σ3 e1 ((f12.up (by simp) (by simp)).tr e2))
theorem rs_sums {Q : Int → SS → Prop} (h : RI σ a) (hw : AW n a) (hn : n ≤ 1000000) (hq : Dr σ Q (opSums a)) : wX9_sums σ Q := by
  have hL := hw.2.2.2.2.1
  have hc := hw.2.2.2.2.2.1
  obtain ⟨hM, hPI, hO⟩ := id h
  have hT : Ty σ (aT a) := ⟨hO.2.2.1, fun j hj => by
    have e : (aT a)[j]? = some (aT a)[j] := List.getElem?_eq_getElem hj
    rw [hO.2.2.2 j _ e]; unfold bt; rw [e]; rfl, hc⟩
  have rst : ∀ {σ' : SS} {M' : Nat → List KV}, F21 st2 sc6 σ σ' → MI σ' M' → RI σ' (M', a.2) := fun f m => ⟨m, hPI.of (f.2 4 (by simp)) (fun k => f.ot (by simp) (by omega) k) (fun k => f.ot (by simp) (by omega) k), hO.of (fun k => f.ot (by simp) (by omega) k) (f.2 9 (by simp)) (f.2 11 (by simp)) (fun k => f.ot (by simp) (by omega) k)⟩
  have smR : ∀ {σ1 σ2 : SS} {is ks : List Nat}, (∀ i ∈ is, i ∈ rcl) → F21 is ks σ1 σ2 → Sm rcl σ1 σ2 := fun hi f => f.1.up (fun i q => (List.mem_cons.mp q).elim (fun e => by rw [e]; simp) (hi i))
  unfold opSums at hq
  refine sr_gt0 hL hT (fun σ1 f1 => ?_)
  have f1' : F21 st2 sc6 σ σ1 := f1.up (by simp) (by simp)
  have R1 : RI σ1 a := rst f1' (hM.of (fun k => f1.ot (by simp) (by omega) k) (fun k => f1.ot (by simp) (by omega) k))
  have rng := rd_rng (t := aT a) ((aT a).length + 1) ps0 (by simp [ps0])
  have er : (rd (aT a) ((aT a).length + 1) ps0).1 = (rdp (aT a) ps0).1 := rfl
  rw [er] at rng
  by_cases c : (rdp (aT a) ps0).1 = -1
  · rw [if_pos c] at hq ⊢
    generalize hDD : (rdp (aT a) ps0).2 = D at hq
    have hr : rdp (aT a) ps0 = (-1, D) := Prod.ext c hDD
    obtain ⟨ho, -, -⟩ := rd_fin _ ps0 (PV_0 _) D hr
    rw [dst_D _ _ ho] at hq
    refine ⟨fun _ => sr_aside0 R1.1 hw.gm (fun σ2 s2 b2 => ?_), fun q => absurd rfl q⟩
    have T2 : Ty σ2 (aT a) := (hT.f f1 (by simp) (by simp)).f (F21.sm (is := [26, 27]) (ks := []) s2 (by simp)) (by simp) (by simp)
    have R2 : RI σ2 a := R1.sets s2 (R1.1.sm s2 (by simp) (by simp)) (by simp) (by simp) (by simp) (by simp) (by simp)
    refine sr_gt1 hL hw.2.2.2.1 T2 hr R2.1 hw.gm R2.2.2.2.1 (fun σ3 M' e1 e2 e3 e4 e5 => ⟨fun _ => ?_, fun q => absurd q (by decide)⟩) (fun σ3 e1 e5 => ⟨fun q => absurd rfl q, fun _ => ?_⟩)
    · have b3 : Bf σ3 (aM a) := b2.sm e5.1 (by simp) (by simp)
      have R3 : RI σ3 (M', a.2) := ⟨e2, R2.2.1.of (e5.2 4 (by simp)) (fun k => e5.ot (by simp) (by omega) k) (fun k => e5.ot (by simp) (by omega) k), R2.2.2.of (fun k => e5.ot (by simp) (by omega) k) (e5.2 9 (by simp)) (e5.2 11 (by simp)) (fun k => e5.ot (by simp) (by omega) k)⟩
      rw [e1] at hq
      refine sr_keepsAside2 R3 (hw.cur e3) b3 hw.gm (fun σ4 h4 s4 h25 => ?_)
      rw [h25, e4]
      exact hq σ4 h4 ((((smR (by simp) f1).tr (s2.up (by simp))).tr (smR (by simp) e5)).tr s4)
    · have b3 : Bf σ3 (aM a) := b2.sm e5.1 (by simp) (by simp)
      rw [e1] at hq
      refine sr_aside1 b3 hw.gm (fun σ4 s4 hM4 => ?_)
      have R4 : RI σ4 a := ⟨hM4, (R2.2.1.of (e5.2 4 (by simp)) (fun k => e5.ot (by simp) (by omega) k) (fun k => e5.ot (by simp) (by omega) k)).sm s4 (by simp) (by simp) (by simp), (R2.2.2.of (fun k => e5.ot (by simp) (by omega) k) (e5.2 9 (by simp)) (e5.2 11 (by simp)) (fun k => e5.ot (by simp) (by omega) k)).sm s4 (by simp) (by simp) (by simp)⟩
      refine dr_full R4 hw hn (fun σ5 h5 s5 => hq σ5 h5 (((((smR (by simp) f1).tr (s2.up (by simp))).tr (smR (by simp) e5)).tr (s4.up (by simp))).tr s5))
  · rw [if_neg c] at hq ⊢
    refine ⟨fun q => by omega, fun _ => ⟨⟨by omega, by omega⟩, hq σ1 R1 (smR (by simp) f1)⟩⟩
end
