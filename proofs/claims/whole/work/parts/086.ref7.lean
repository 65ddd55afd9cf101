/-! ===== the reference: mix, scatter ===== -/
def oc (o : Option Int) : Int := o.getD (-2000000001)
def Ov (o : Option Int) : Prop := ∀ v, o = some v → isV v
theorem oc_R {o : Option Int} (h : Ov o) : R32 (oc o) := by
  cases o with
  | none => decide
  | some v => have := h v rfl; unfold oc; exact ⟨by dsimp only [Option.getD]; omega, by dsimp only [Option.getD]; omega⟩
theorem oc_none {o : Option Int} (h : Ov o) : oc o = -2000000001 ↔ o = none := by
  cases o with
  | none => simp [oc]
  | some v => have := h v rfl; simp [oc]; omega
theorem Ov_lk {l : List KV} (h : Vok l) (k : Int) : Ov (lk l k) := fun _ hv => h _ (lk_mem hv)
theorem Ov_jn {s mk : Int} {x y : Option Int} (hx : Ov x) (hy : Ov y) : Ov (jn s mk x y) := by
  intro v hv
  cases x with
  | none =>
    cases y with
    | none => simp [jn] at hv
    | some b =>
      simp only [jn] at hv
      split at hv
      · exact hy v hv
      · cases hv
  | some a =>
    cases y with
    | none =>
      simp only [jn] at hv
      split at hv
      · cases hv
      · exact hx v hv
    | some b =>
      simp only [jn] at hv
      split at hv
      · have := Option.some.inj hv
        rw [← this]; exact mixv_in (hx a rfl) (hy b rfl)
      · cases hv
section
variable {n : Nat} {σ : SS} {a : AS} {M : Nat → List KV}
theorem sr_mixed {Q : Int → SS → Prop} {x y mk : Int} (hmk : sn σ 21 9 = mk) (hmk2 : 0 ≤ mk ∧ mk ≤ 5) (hx : isV x) (hy : isV y) (hq : Q (mixv mk x y) σ) : wX9_mixed x y σ Q := by
  unfold wX9_mixed
  rw [hmk]
  have h1 := hd_in (x + y)
  unfold mixv at hq
  refine ⟨fun c => ⟨⟨by omega, by omega⟩, sr_held ⟨⟨by omega, by omega⟩, sr_held ?_⟩⟩, fun c => ?_, fun c => ?_, fun c => ⟨⟨by omega, by omega⟩, sr_held ?_⟩, fun c => ⟨fun c2 => ?_, fun c2 => ?_⟩, fun c => ⟨fun c2 => ?_, fun c2 => ?_⟩⟩
  · rw [if_neg (by omega), if_neg (by omega), if_neg (by omega), if_neg (by omega), if_pos (by omega)] at hq; exact hq
  · rw [if_neg (by omega), if_neg (by omega), if_neg (by omega), if_neg (by omega), if_neg (by omega)] at hq; exact hq
  · rw [if_pos c] at hq; exact hq
  · rw [if_neg (by omega), if_pos c] at hq; exact hq
  · rw [if_neg (by omega), if_neg (by omega), if_pos c, show max x y = y by omega] at hq; exact hq
  · rw [if_neg (by omega), if_neg (by omega), if_pos c, show max x y = x by omega] at hq; exact hq
  · rw [if_neg (by omega), if_neg (by omega), if_neg (by omega), if_pos c, show min x y = y by omega] at hq; exact hq
  · rw [if_neg (by omega), if_neg (by omega), if_neg (by omega), if_pos c, show min x y = x by omega] at hq; exact hq
theorem sr_joins {Q : Int → SS → Prop} {s mk : Int} {x y : Option Int} (hs : 0 ≤ s ∧ s ≤ 3) (hmk : sn σ 21 9 = mk) (hmk2 : 0 ≤ mk ∧ mk ≤ 5) (hx : Ov x) (hy : Ov y) (hq : Q (oc (jn s mk x y)) σ) : wX9_joins s (oc x) (oc y) σ Q := by
  unfold wX9_joins wX9_joins_L29
  cases x with
  | none =>
    have e : oc (none : Option Int) = -2000000001 := rfl
    cases y with
    | none =>
      rw [jn_nn] at hq
      rw [e] at hq ⊢
      exact ⟨fun _ => ⟨fun _ => ⟨fun _ => hq, fun _ => ⟨fun _ => hq, fun q => absurd rfl q⟩⟩, fun _ => hq⟩, fun q => absurd rfl q⟩
    | some b =>
      have hb := hy b rfl
      have e2 : oc (some b) = b := rfl
      rw [e, e2]
      simp only [jn] at hq
      refine ⟨fun _ => ⟨fun c => ⟨fun c2 => ?_, fun c2 => ⟨fun _ => ?_, fun q => absurd rfl q⟩⟩, fun c => ?_⟩, fun q => absurd rfl q⟩
      · rw [if_neg (by omega)] at hq; exact hq
      · rw [if_pos (by omega)] at hq; exact hq
      · rw [if_neg (by omega)] at hq; exact hq
  | some x =>
    have ha := hx x rfl
    have e1 : oc (some x) = x := rfl
    cases y with
    | none =>
      have e : oc (none : Option Int) = -2000000001 := rfl
      rw [e, e1]
      simp only [jn] at hq
      refine ⟨fun c => by omega, fun _ => ⟨fun _ => ⟨fun c => ⟨fun c2 => ?_, fun c2 => ⟨fun c3 => by omega, fun c3 => ?_⟩⟩, fun c => ?_⟩, fun q => absurd rfl q⟩⟩
      · rw [if_neg c] at hq; exact hq
      · rw [if_neg c] at hq; exact hq
      · rw [if_pos c] at hq; exact hq
    | some b =>
      have hb := hy b rfl
      have e2 : oc (some b) = b := rfl
      rw [e1, e2]
      simp only [jn] at hq
      refine ⟨fun c => by omega, fun _ => ⟨fun c => by omega, fun _ => ⟨fun c => ?_, fun c => sr_mixed hmk hmk2 ha hb ?_⟩⟩⟩
      · rw [if_neg (by omega)] at hq; exact hq
      · rw [if_pos (by omega)] at hq; exact hq
theorem rs_mix_L {Q : Int → SS → Prop} {s x y t mk : Int} {F : Int → Option Int} (hg : GM M) (hs : 0 ≤ s ∧ s ≤ 3) (hx : isM x) (hy : isM y) (hmk2 : 0 ≤ mk ∧ mk ≤ 5) (hF : F = fun k => jn s mk (lk (M x.toNat) k) (lk (M y.toNat) k)) : ∀ (f : Nat) {u : Nat} {σ : SS}, u + f = 1001 → (tab F u).length ≤ 201 → Rg σ 28 0 (tab F u) → MI σ M → sn σ 21 9 = mk → (∀ (σ' : SS) (w : Nat), Sm [28] σ σ' → w ≤ 201 → ((tabL F).length ≤ 200 → w = (tabL F).length ∧ Rg σ' 28 0 (tabL F)) → (200 < (tabL F).length → 200 < w) → wX9_mix_L198 s x y t Q (w : Int) σ') → wX9_mix_L55 s x y t Q (f + 1) ((lo (M x.toNat) (-500 + (u : Int))).length : Int) ((lo (M y.toNat) (-500 + (u : Int))).length : Int) ((tab F u).length : Int) (-500 + (u : Int)) σ := by
  have gx := hg.mp hx
  have gy := hg.mp hy
  have lx := gx.2.2.2
  have ly := gy.2.2.2
  intro f
  induction f with
  | zero =>
    intro u σ hu hlen hr h hmk hend
    have : u = 1001 := by omega
    subst this
    rw [wX9_mix_L55]
    exact ⟨⟨by omega, by omega⟩, fun _ => hend σ _ (Sm.rf _ _) hlen (fun _ => ⟨rfl, hr⟩) (fun q => q), fun c => by omega⟩
  | succ f ih =>
    intro u σ hu hlen hr h hmk hend
    have hle : (tab F u).length ≤ (tabL F).length := tab_le (by omega)
    have l1 := lo_len (M x.toNat) (-500 + (u : Int))
    have l2 := lo_len (M y.toNat) (-500 + (u : Int))
    rw [wX9_mix_L55]
    refine ⟨⟨by omega, by omega⟩, fun c => by omega, fun _ => ⟨⟨by omega, by omega⟩, fun c => hend σ _ (Sm.rf _ _) hlen (fun q => by omega) (fun _ => by omega), fun c => ⟨⟨by omega, by omega⟩, ?_⟩⟩⟩
    have o1x := Ov_lk gx.2.2.1 (-500 + (u : Int))
    have o2x := Ov_lk gy.2.2.1 (-500 + (u : Int))
    have oj := Ov_jn (s := s) (mk := mk) o1x o2x
    have hFu : F (-500 + (u : Int)) = jn s mk (lk (M x.toNat) (-500 + (u : Int))) (lk (M y.toNat) (-500 + (u : Int))) := by rw [hF]
    have s1 := lo_succ gx.1 (-500 + (u : Int))
    have s2 := lo_succ gy.1 (-500 + (u : Int))
    have ek : -500 + (u : Int) + 1 = -500 + ((u + 1 : Nat) : Int) := by omega
    rw [ek] at s1 s2
    -- the step's end
    have step : ∀ (d1 d2 : Int), ((lo (M x.toNat) (-500 + (u : Int))).length : Int) + d1 = (lo (M x.toNat) (-500 + ((u + 1 : Nat) : Int))).length → ((lo (M y.toNat) (-500 + (u : Int))).length : Int) + d2 = (lo (M y.toNat) (-500 + ((u + 1 : Nat) : Int))).length → wX9_mix_L154 s x y t Q (fun v5 v6 v7 v8 sL => wX9_mix_L55 s x y t Q (f + 1) v5 v6 v7 v8 sL) (((lo (M x.toNat) (-500 + (u : Int))).length : Int) + d1) ((tab F u).length : Int) (-500 + (u : Int)) (oc (lk (M x.toNat) (-500 + (u : Int)))) (oc (lk (M y.toNat) (-500 + (u : Int)))) d2 ((lo (M y.toNat) (-500 + (u : Int))).length : Int) σ := by
      intro d1 d2 h1 h2
      unfold wX9_mix_L154
      refine ⟨oc_R o1x, oc_R o2x, sr_joins hs hmk hmk2 o1x o2x ⟨fun c1 => ?_, fun c1 => ⟨⟨by omega, by omega⟩, ?_⟩⟩⟩
      · have hn := (oc_none oj).mp c1
        have et : tab F (u + 1) = tab F u := by rw [tab, hFu, hn, List.append_nil]
        rw [h1, h2, ek]
        have := ih (u := u + 1) (by omega) (by rw [et]; exact hlen) (by rw [et]; exact hr) h hmk hend
        rw [et] at this; exact this
      · cases hv : jn s mk (lk (M x.toNat) (-500 + (u : Int))) (lk (M y.toNat) (-500 + (u : Int))) with
        | none => rw [hv] at c1; exact absurd rfl c1
        | some v =>
          have et : tab F (u + 1) = tab F u ++ [(-500 + (u : Int), v)] := by rw [tab, hFu, hv]
          have e3 : oc (some v) = v := rfl
          rw [e3]
          refine sr_entry (by omega) (oj v hv) ⟨by omega, by omega, ?_⟩
          rw [h1, h2, ek, Int.toNat_natCast]
          have := ih (u := u + 1) (σ := un σ 28 (tab F u).length (pk (-500 + (u : Int), v))) (by omega) (by rw [et, List.length_append, List.length_singleton]; omega) (by
            rw [et]; exact Rg_add hr (fun k hk => sn_un_k _ _ hk) (sn_un_same _ _ _ _)) (h.sm (is := [28]) (Sm.un (by simp)) (by simp) (by simp)) (by rw [sn_un_i _ _ (by omega)]; exact hmk) (fun σ' w s' a1 a2 a3 => hend σ' w ((Sm.un (by simp)).tr s') a1 a2 a3)
          rw [et, List.length_append, List.length_singleton] at this
          exact this
    have L121 : wX9_mix_L121 s x y t Q (fun v5 v6 v7 v8 sL => wX9_mix_L55 s x y t Q (f + 1) v5 v6 v7 v8 sL) ((lo (M x.toNat) (-500 + (u : Int))).length : Int) ((lo (M y.toNat) (-500 + (u : Int))).length : Int) ((tab F u).length : Int) (-500 + (u : Int)) (oc (lk (M x.toNat) (-500 + (u : Int)))) (oc (lk (M y.toNat) (-500 + (u : Int)))) σ := by
      refine ⟨oc_R o1x, fun c1 => ⟨oc_R o2x, fun c2 => step 1 1 ?_ ?_, fun c2 => step 1 0 ?_ ?_⟩, fun c1 => ⟨oc_R o2x, fun c2 => step 0 1 ?_ ?_, fun c2 => step 0 0 ?_ ?_⟩⟩
      all_goals first
        | (rw [s1, if_neg (fun q => c1 ((oc_none o1x).mpr q))]; omega)
        | (rw [s1, if_pos ((oc_none o1x).mp c1)]; omega)
        | (rw [s2, if_neg (fun q => c2 ((oc_none o2x).mpr q))]; omega)
        | (rw [s2, if_pos ((oc_none o2x).mp c2)]; omega)
    have L95 : wX9_mix_L95 s x y t Q (fun v5 v6 v7 v8 sL => wX9_mix_L55 s x y t Q (f + 1) v5 v6 v7 v8 sL) ((lo (M x.toNat) (-500 + (u : Int))).length : Int) ((lo (M y.toNat) (-500 + (u : Int))).length : Int) ((tab F u).length : Int) (-500 + (u : Int)) (oc (lk (M x.toNat) (-500 + (u : Int)))) σ := by
      refine ⟨⟨by omega, by omega⟩, ⟨by omega, by omega⟩, sr_isThere h hg hy (fun v hv hp => ⟨o1, fun _ => sr_valueAt h hg hy hp ?_⟩) (fun hv => ⟨fun _ => ?_, o0⟩)⟩
      · rw [hv] at L121; exact L121
      · rw [hv] at L121; exact L121
    refine sr_isThere h hg hx (fun v hv hp => ⟨o1, fun _ => sr_valueAt h hg hx hp ?_⟩) (fun hv => ⟨fun _ => ?_, o0⟩)
    · rw [hv] at L95; exact L95
    · rw [hv] at L95; exact L95
theorem rs_mix {Q : Int → SS → Prop} {s x y t : Int} (h : RI σ a) (hw : AW n a) (hn : n ≤ 1000000) (hq : Dr σ Q (opMix a s x y t)) : wX9_mix s x y t σ Q := by
  unfold opMix at hq
  refine sr_in (fun hs => ⟨o1, fun _ => sr_isMap (fun hx => ⟨o1, fun _ => sr_isMap (fun hy => ⟨o1, fun _ => sr_isMap (fun ht => ⟨fun _ => ?_, o1⟩) (fun ht => ⟨o0, fun _ => ?_⟩)⟩) (fun hy => ⟨fun _ => ?_, o0⟩)⟩) (fun hx => ⟨fun _ => ?_, o0⟩)⟩) (fun hs => ⟨fun _ => ?_, o0⟩)
  · rw [if_pos ⟨hs, hx, hy, ht⟩] at hq
    refine ⟨1002, ?_⟩
    have e1 : ((lo (aM a x.toNat) (-500 + ((0 : Nat) : Int))).length : Int) = 0 := by
      have : lo (aM a x.toNat) (-500 + ((0 : Nat) : Int)) = [] := List.filter_eq_nil_iff.mpr (fun p hp => by have := (hw.mp hx).2.1 p hp; simp; omega)
      rw [this]; rfl
    have e2 : ((lo (aM a y.toNat) (-500 + ((0 : Nat) : Int))).length : Int) = 0 := by
      have : lo (aM a y.toNat) (-500 + ((0 : Nat) : Int)) = [] := List.filter_eq_nil_iff.mpr (fun p hp => by have := (hw.mp hy).2.1 p hp; simp; omega)
      rw [this]; rfl
    have key := rs_mix_L (Q := Q) (s := s) (x := x) (y := y) (t := t) (M := aM a) (F := fun k => jn s (aX a) (lk (aM a x.toNat) k) (lk (aM a y.toNat) k)) hw.gm hs hx hy hw.2.2.2.1 rfl 1001 (u := 0) (σ := σ) rfl (by simp [tab]) (fun i p hp => by simp [tab] at hp) h.1 h.2.2.2.1 (fun σ1 w s1 hw1 hok hfull => ?_)
    · rw [e1, e2] at key; exact key
    · have h1 : RI σ1 a := ⟨h.1.sm s1 (by simp) (by simp), h.2.1.sm s1 (by simp) (by simp) (by simp), h.2.2.sm s1 (by simp) (by simp) (by simp)⟩
      refine ⟨⟨by omega, by omega⟩, fun c => ?_, fun c => ?_⟩
      · by_cases hl : (tabL (fun k => jn s (aX a) (lk (aM a x.toNat) k) (lk (aM a y.toNat) k))).length ≤ 200
        · rw [if_pos hl] at hq
          obtain ⟨hw2, hr⟩ := hok hl
          rw [hw2]
          refine sr_keeps h1 hw (fun σ2 h2 s2 => sr_becomes (M := aM a) h2.1 hw.gm ht hl (fun i p hp => by rw [(s2.1 28 (by simp) _).1]; exact hr i p hp) (fun σ3 h3 s3 => ?_))
          exact hq σ3 (h2.sets s3 h3 (by simp) (by simp) (by simp) (by simp) (by simp)) (((s1.up (by simp)).tr (s2.up (by simp))).tr (s3.up (by simp)))
        · have := hfull (by omega); omega
      · rw [if_neg (fun q => by have := (hok q).1; omega)] at hq
        exact dr_full h1 hw hn (fun σ' r' s' => hq σ' r' ((s1.up (by simp)).tr s'))
  · rw [if_neg (fun q => ht q.2.2.2)] at hq; exact dr_bad h hw hn hq
  · rw [if_neg (fun q => hy q.2.2.1)] at hq; exact dr_bad h hw hn hq
  · rw [if_neg (fun q => hx q.2.1)] at hq; exact dr_bad h hw hn hq
  · rw [if_neg (fun q => hs q.1)] at hq; exact dr_bad h hw hn hq
/-- what was put aside -/
def Bf (σ : SS) (M : Nat → List KV) : Prop := ∀ m, m < 6 → Rg σ 26 (200 * m) (M m) ∧ sn σ 27 m = ((M m).length : Int)
theorem Bf.sm {σ' : SS} {is : List Nat} (h : Bf σ M) (hs : Sm is σ σ') (h2 : 26 ∉ is) (h3 : 27 ∉ is) : Bf σ' M := fun m hm => ⟨fun i p hp => by rw [(hs.1 26 h2 _).1]; exact (h m hm).1 i p hp, by rw [(hs.1 27 h3 _).1]; exact (h m hm).2⟩
theorem sr_aside48_0 {Q : SS → Prop} : ∀ (f : Nat) {i : Nat} {σ : SS}, i + f = 6 → Q (wr 27 0 (sn σ 23) f i σ) → wX9_aside_L48 0 Q (f + 1) (i : Int) σ := by
  intro f
  induction f with
  | zero =>
    intro i σ hi hQ
    rw [wX9_aside_L48]
    exact ⟨⟨by omega, by omega⟩, fun _ => hQ, fun c => by omega⟩
  | succ f ih =>
    intro i σ hi hQ
    have e : ((i : Int) + 1) = ((i + 1 : Nat) : Int) := by omega
    rw [wX9_aside_L48, e, Int.toNat_natCast]
    rw [wr, Nat.zero_add] at hQ
    refine ⟨⟨by omega, by omega⟩, fun c => by omega, fun _ => ⟨fun _ => ⟨by omega, by omega, by omega, by omega, ih (by omega) ?_⟩, fun c => absurd rfl c⟩⟩
    rw [show sn (un σ 27 i (sn σ 23 i)) 23 = sn σ 23 by funext k; exact sn_un_i _ _ (by omega)]; exact hQ
theorem sr_aside2_0 {Q : SS → Prop} : ∀ (f : Nat) {i : Nat} {σ : SS}, i + f = 1200 → Q (wr 27 0 (sn σ 23) 6 0 (wr 26 0 (sn σ 22) f i σ)) → wX9_aside_L2 0 Q (f + 1) (i : Int) σ := by
  intro f
  induction f with
  | zero =>
    intro i σ hi hQ
    rw [wX9_aside_L2]
    exact ⟨⟨by omega, by omega⟩, fun _ => ⟨7, sr_aside48_0 6 (i := 0) rfl hQ⟩, fun c => by omega⟩
  | succ f ih =>
    intro i σ hi hQ
    have e : ((i : Int) + 1) = ((i + 1 : Nat) : Int) := by omega
    have e5 : wr 26 0 (sn σ 22) (f + 1) i σ = wr 26 0 (sn σ 22) f (i + 1) (un σ 26 i (sn σ 22 i)) := by rw [wr, Nat.zero_add]
    rw [wX9_aside_L2, e, Int.toNat_natCast]
    rw [e5] at hQ
    refine ⟨⟨by omega, by omega⟩, fun c => by omega, fun _ => ⟨fun _ => ⟨by omega, by omega, by omega, by omega, ih (by omega) ?_⟩, fun c => absurd rfl c⟩⟩
    rw [show sn (un σ 26 i (sn σ 22 i)) 23 = sn σ 23 by funext k; exact sn_un_i _ _ (by omega), show sn (un σ 26 i (sn σ 22 i)) 22 = sn σ 22 by funext k; exact sn_un_i _ _ (by omega)]; exact hQ
theorem sr_aside48_1 {Q : SS → Prop} : ∀ (f : Nat) {i : Nat} {σ : SS}, i + f = 6 → Q (wr 23 0 (sn σ 27) f i σ) → wX9_aside_L48 1 Q (f + 1) (i : Int) σ := by
  intro f
  induction f with
  | zero =>
    intro i σ hi hQ
    rw [wX9_aside_L48]
    exact ⟨⟨by omega, by omega⟩, fun _ => hQ, fun c => by omega⟩
  | succ f ih =>
    intro i σ hi hQ
    have e : ((i : Int) + 1) = ((i + 1 : Nat) : Int) := by omega
    rw [wX9_aside_L48, e, Int.toNat_natCast]
    rw [wr, Nat.zero_add] at hQ
    refine ⟨⟨by omega, by omega⟩, fun c => by omega, fun _ => ⟨o1, fun _ => ⟨by omega, by omega, by omega, by omega, ih (by omega) ?_⟩⟩⟩
    rw [show sn (un σ 23 i (sn σ 27 i)) 27 = sn σ 27 by funext k; exact sn_un_i _ _ (by omega)]; exact hQ
theorem sr_aside2_1 {Q : SS → Prop} : ∀ (f : Nat) {i : Nat} {σ : SS}, i + f = 1200 → Q (wr 23 0 (sn σ 27) 6 0 (wr 22 0 (sn σ 26) f i σ)) → wX9_aside_L2 1 Q (f + 1) (i : Int) σ := by
  intro f
  induction f with
  | zero =>
    intro i σ hi hQ
    rw [wX9_aside_L2]
    exact ⟨⟨by omega, by omega⟩, fun _ => ⟨7, sr_aside48_1 6 (i := 0) rfl hQ⟩, fun c => by omega⟩
  | succ f ih =>
    intro i σ hi hQ
    have e : ((i : Int) + 1) = ((i + 1 : Nat) : Int) := by omega
    have e5 : wr 22 0 (sn σ 26) (f + 1) i σ = wr 22 0 (sn σ 26) f (i + 1) (un σ 22 i (sn σ 26 i)) := by rw [wr, Nat.zero_add]
    rw [wX9_aside_L2, e, Int.toNat_natCast]
    rw [e5] at hQ
    refine ⟨⟨by omega, by omega⟩, fun c => by omega, fun _ => ⟨o1, fun _ => ⟨by omega, by omega, by omega, by omega, ih (by omega) ?_⟩⟩⟩
    rw [show sn (un σ 22 i (sn σ 26 i)) 27 = sn σ 27 by funext k; exact sn_un_i _ _ (by omega), show sn (un σ 22 i (sn σ 26 i)) 26 = sn σ 26 by funext k; exact sn_un_i _ _ (by omega)]; exact hQ
theorem sr_aside0 {Q : SS → Prop} (h : MI σ M) (hg : GM M) (hq : ∀ σ', Sm [26, 27] σ σ' → Bf σ' M → Q σ') : wX9_aside 0 σ Q := by
  refine ⟨1201, sr_aside2_0 1200 (i := 0) rfl (hq _ ((wr_sm (by simp) _ _ _).tr (wr_sm (by simp) _ _ _)) (fun m hm => ⟨fun i p hp => ?_, ?_⟩))⟩
  · have hi := (List.getElem?_eq_some_iff.mp hp).1
    have hl := (hg m hm).2.2.2
    rw [wr_sn, if_neg (by omega), wr_sn, if_pos ⟨rfl, by omega, by omega⟩]
    exact (h m hm).1 i p hp
  · rw [wr_sn, if_pos ⟨rfl, by omega, by omega⟩]; exact (h m hm).2
theorem sr_aside1 {Q : SS → Prop} (h : Bf σ M) (hg : GM M) (hq : ∀ σ', Sm [22, 23] σ σ' → MI σ' M → Q σ') : wX9_aside 1 σ Q := by
  refine ⟨1201, sr_aside2_1 1200 (i := 0) rfl (hq _ ((wr_sm (by simp) _ _ _).tr (wr_sm (by simp) _ _ _)) (fun m hm => ⟨fun i p hp => ?_, ?_⟩))⟩
  · have hi := (List.getElem?_eq_some_iff.mp hp).1
    have hl := (hg m hm).2.2.2
    rw [wr_sn, if_neg (by omega), wr_sn, if_pos ⟨rfl, by omega, by omega⟩]
    exact (h m hm).1 i p hp
  · rw [wr_sn, if_pos ⟨rfl, by omega, by omega⟩]; exact (h m hm).2
theorem sr_ka44 {Q : SS → Prop} {q : Nat} (hq : q < 12) : ∀ (f : Nat) {i : Nat} {σ : SS}, i + f = 6 → sn σ 21 4 = (q : Int) + 1 → Q (wr 25 (6 * q) (sn σ 27) f i σ) → wX9_keepsAside_L44 Q (f + 1) (i : Int) σ := by
  intro f
  induction f with
  | zero =>
    intro i σ hi h hQ
    rw [wX9_keepsAside_L44]
    exact ⟨⟨by omega, by omega⟩, fun _ => hQ, fun c => by omega⟩
  | succ f ih =>
    intro i σ hi h hQ
    have e : ((i : Int) + 1) = ((i + 1 : Nat) : Int) := by omega
    have e2 : (6 * ((q : Int) + 1 - 1) + (i : Int)).toNat = 6 * q + i := by omega
    rw [wX9_keepsAside_L44, h, e, e2, Int.toNat_natCast]
    rw [wr] at hQ
    refine ⟨⟨by omega, by omega⟩, fun c => by omega, fun _ => ⟨by omega, by omega, by omega, by omega, ih (by omega) (by rw [sn_un_i _ _ (by omega)]; exact h) ?_⟩⟩
    rw [show sn (un σ 25 (6 * q + i) (sn σ 27 i)) 27 = sn σ 27 by funext k; exact sn_un_i _ _ (by omega)]; exact hQ
theorem sr_ka6 {Q : SS → Prop} {q : Nat} (hq : q < 12) : ∀ (f : Nat) {i : Nat} {σ : SS}, i + f = 1200 → sn σ 21 4 = (q : Int) + 1 → Q (wr 25 (6 * q) (sn σ 27) 6 0 (wr 24 (1200 * q) (sn σ 26) f i σ)) → wX9_keepsAside_L6 Q (f + 1) (i : Int) σ := by
  intro f
  induction f with
  | zero =>
    intro i σ hi h hQ
    rw [wX9_keepsAside_L6]
    exact ⟨⟨by omega, by omega⟩, fun _ => ⟨7, sr_ka44 hq 6 (i := 0) rfl h hQ⟩, fun c => by omega⟩
  | succ f ih =>
    intro i σ hi h hQ
    have e : ((i : Int) + 1) = ((i + 1 : Nat) : Int) := by omega
    have e2 : (1200 * ((q : Int) + 1 - 1) + (i : Int)).toNat = 1200 * q + i := by omega
    have e5 : wr 24 (1200 * q) (sn σ 26) (f + 1) i σ = wr 24 (1200 * q) (sn σ 26) f (i + 1) (un σ 24 (1200 * q + i) (sn σ 26 i)) := by rw [wr]
    rw [wX9_keepsAside_L6, h, e, e2, Int.toNat_natCast]
    rw [e5] at hQ
    refine ⟨⟨by omega, by omega⟩, fun c => by omega, fun _ => ⟨by omega, by omega, by omega, by omega, ih (by omega) (by rw [sn_un_i _ _ (by omega)]; exact h) ?_⟩⟩
    rw [show sn (un σ 24 (1200 * q + i) (sn σ 26 i)) 27 = sn σ 27 by funext k; exact sn_un_i _ _ (by omega), show sn (un σ 24 (1200 * q + i) (sn σ 26 i)) 26 = sn σ 26 by funext k; exact sn_un_i _ _ (by omega)]; exact hQ
theorem sr_keepsAside {Q : SS → Prop} (h : RI σ a) (hw : AW n a) (hb : Bf σ M) (hg : GM M) (hq : ∀ σ', RI σ' (a.1, (M :: a.2.1).take 12, a.2.2) → Sm rcl σ σ' → Q σ') : wX9_keepsAside σ Q := by
  refine sr_keeps h hw (fun σ1 h1 s1 => ?_)
  have hP := h1.2.1
  have hk : aP (aKeep a) = aM a :: (aP a).take 11 := rfl
  rw [hk] at hP
  obtain ⟨p1, p2, p3⟩ := hP
  rw [List.length_cons] at p1 p2
  generalize hq0 : ((aP a).take 11).length = q at p1 p2
  have b1 := hb.sm s1 (by simp) (by simp)
  refine ⟨1201, sr_ka6 (q := q) (by omega) 1200 (i := 0) rfl (by rw [p1]; omega) ?_⟩
  generalize hτ : wr 25 (6 * q) (sn σ1 27) 6 0 (wr 24 (1200 * q) (sn σ1 26) 1200 0 σ1) = τ
  have sm : Sm [24, 25] σ1 τ := by rw [← hτ]; exact (wr_sm (by simp) _ _ _).tr (wr_sm (by simp) _ _ _)
  refine hq τ ⟨MI.sm (M := aM a) h1.1 sm (by simp) (by simp), ?_, OI.of h1.2.2 (fun k => (sm.1 29 (by simp) k).1) (sm.1 21 (by simp) 9).1 (sm.1 21 (by simp) 11).1 (fun k => (sm.1 30 (by simp) k).1)⟩ ((s1.up (by simp)).tr (sm.up (by simp)))
  show PI τ (M :: (aP a).take 11)
  refine ⟨by rw [(sm.1 21 (by simp) 4).1, p1, List.length_cons, hq0], by rw [List.length_cons, hq0]; exact p2, fun j N hN m hm => ?_⟩
  rw [List.length_cons, hq0]
  cases j with
  | zero =>
    rw [List.getElem?_cons_zero] at hN
    cases hN
    refine ⟨fun i p hp => ?_, ?_⟩
    · have hi := (List.getElem?_eq_some_iff.mp hp).1
      have hl := (hg m hm).2.2.2
      rw [← hτ, wr_sn, if_neg (by omega), wr_sn, if_pos ⟨rfl, by omega, by omega⟩, ← (b1 m hm).1 i p hp]
      congr 1; omega
    · rw [← hτ, wr_sn, if_pos ⟨rfl, by omega, by omega⟩, ← (b1 m hm).2]
      congr 1; omega
  | succ j =>
    rw [List.getElem?_cons_succ] at hN
    have hj := (List.getElem?_eq_some_iff.mp hN).1
    obtain ⟨r1, r2⟩ := p3 (j + 1) N (by rw [List.getElem?_cons_succ]; exact hN) m hm
    have gN := hw.2.2.1 N (List.mem_of_mem_take (List.mem_of_getElem? hN)) m hm
    rw [List.length_cons, hq0] at r1 r2
    refine ⟨fun i p hp => ?_, ?_⟩
    · have hi := (List.getElem?_eq_some_iff.mp hp).1
      have hl := gN.2.2.2
      rw [← hτ, wr_sn, if_neg (by omega), wr_sn, if_neg (by omega)]
      exact r1 i p hp
    · rw [← hτ, wr_sn, if_neg (by omega), wr_sn, if_neg (by omega)]; exact r2
end
