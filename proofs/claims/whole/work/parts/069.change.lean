/-! ===== sparing, and a change's start ===== -/
def Sq (σ σ' : SS) : Prop := sn σ' = sn σ ∧ sS σ' = sS σ ∧ sz σ' = sz σ ∧ ∀ i k, ¬ (k = 7 ∧ 64 ≤ i) → ¬ (i = 1 ∧ k = 1) → sf σ' i k = sf σ i k
theorem Sq.rf (σ : SS) : Sq σ σ := ⟨rfl, rfl, rfl, fun _ _ _ _ => rfl⟩
theorem Sq.tr {σ σ1 σ2 : SS} (h1 : Sq σ σ1) (h2 : Sq σ1 σ2) : Sq σ σ2 := ⟨h2.1.trans h1.1, h2.2.1.trans h1.2.1, h2.2.2.1.trans h1.2.2.1, fun i k a b => (h2.2.2.2 i k a b).trans (h1.2.2.2 i k a b)⟩
def umk (σ : SS) (b : Nat) : Bool := decide (¬ sn σ (b + 64) 8 = sn σ 1 3)
theorem sp_spare_L : ∀ (rest : List Nat) {sp : List Nat} {v1 : Option Nat} {σ : SS} {Q : SS → Prop}, Ch σ 6 v1 rest → Ch σ 7 (sf σ 1 1) sp → rest.Nodup → (∀ b ∈ rest, b ∉ sp) → (∀ σ', Sq σ σ' → Ch σ' 7 (sf σ' 1 1) ((rest.filter (umk σ)).reverse ++ sp) → Q σ') → wX2_spareTheRest_L15 Q (rest.length + 1) v1 σ := by
  intro rest
  induction rest with
  | nil =>
    intro sp v1 σ Q h1 h2 h3 h4 hq
    rw [wX2_spareTheRest_L15]
    exact ⟨fun _ => hq σ (Sq.rf σ) (by simpa using h2), fun b e => by rw [show v1 = none from h1] at e; cases e⟩
  | cons b rest ih =>
    intro sp v1 σ Q h1 h2 h3 h4 hq
    obtain ⟨hv, h1⟩ := h1
    have nd := List.nodup_cons.mp h3
    rw [List.length_cons, wX2_spareTheRest_L15]
    refine ⟨fun e => (by rw [hv] at e; cases e), fun b' e => ?_⟩
    have hb : b' = b := by rw [hv] at e; cases e; rfl
    subst hb
    refine ⟨fun c => ?_, fun c => ?_⟩
    · refine ih h1 h2 nd.2 (fun x hx => h4 x (List.mem_cons_of_mem _ hx)) (fun σ' s hc => hq σ' s ?_)
      have : umk σ b' = false := by simp [umk, c]
      rw [List.filter_cons, if_neg (by simp [this])]
      exact hc
    · obtain ⟨σ1, e1⟩ : ∃ s, s = uf (uf σ (b' + 64) 7 (sf σ 1 1)) 1 1 v1 := ⟨_, rfl⟩
      rw [← e1]
      have s1 : Sq σ σ1 := by
        rw [e1]
        refine ⟨rfl, rfl, rfl, fun i k q1 q2 => ?_⟩
        rw [sf_uf, sf_uf, if_neg q2, if_neg (by omega)]
      have f6 : ∀ x, sf σ1 (x + 64) 6 = sf σ (x + 64) 6 := fun x => s1.2.2.2 _ _ (by omega) (by omega)
      have f11 : sf σ1 1 1 = some b' := by rw [e1, sf_uf_same]; exact hv
      have f7 : sf σ1 (b' + 64) 7 = sf σ 1 1 := by rw [e1, sf_uf_i _ _ (by omega), sf_uf_same]
      have f7' : ∀ x, x ≠ b' → sf σ1 (x + 64) 7 = sf σ (x + 64) 7 := fun x hx => by rw [e1, sf_uf_i _ _ (by omega), sf_uf_i _ _ (by omega)]
      rw [f6]
      have um1 : umk σ1 = umk σ := by funext x; unfold umk; rw [s1.1]
      refine ih (sp := b' :: sp) (Ch_keep (fun x _ => f6 x) h1) ?_ nd.2 ?_ (fun σ' s hc => hq σ' (s1.tr s) ?_)
      · rw [f11]
        refine ⟨rfl, ?_⟩
        rw [f7]
        exact Ch_keep (fun x hx => f7' x (fun q => h4 b' List.mem_cons_self (q ▸ hx))) h2
      · intro x hx hx2
        rcases List.mem_cons.mp hx2 with q | q
        · exact nd.1 (q ▸ hx)
        · exact h4 x (List.mem_cons_of_mem _ hx) q
      · have : umk σ b' = true := by simp [umk, c]
        rw [um1] at hc
        rw [List.filter_cons, if_pos this, List.reverse_cons]
        simpa using hc
/-- a tree's nodes -/
def NL (f : Nat → Nat → Option Nat) : Nat → Option Nat → List Nat
  | 0, _ => []
  | d + 1, r => match r with
    | none => []
    | some b => NL f d (f (b + 64) 4) ++ b :: NL f d (f (b + 64) 5)
theorem NL_len {σ : SS} {P : Nat → Prop} : ∀ {d : Nat} {r : Option Nat} {l : List KV}, T σ P d r l → (NL (sf σ) d r).length = l.length := by
  intro d
  induction d with
  | zero => intro r l h; rw [h.2]; rfl
  | succ d ih =>
    intro r l h
    cases r with
    | none => rw [T_none h]; rfl
    | some b =>
      obtain ⟨e, l1, l2, he, hP, h1, h2, hl, -⟩ := T_some h
      cases he
      rw [NL, List.length_append, List.length_cons, ih h1, ih h2, hl]
      simp
theorem NL_in {f : Nat → Nat → Option Nat} : ∀ {d : Nat} {r : Option Nat} {x : Nat}, In f d r x → x ∈ NL f d r := by
  intro d
  induction d with
  | zero => intro r x h; cases h
  | succ d ih =>
    intro r x h
    obtain ⟨b, rfl, h⟩ := h
    rw [NL]
    rcases h with h | h | h
    · simp [h]
    · exact List.mem_append_left _ (ih h)
    · exact List.mem_append_right _ (List.mem_cons_of_mem _ (ih h))
theorem nodup_len {α : Type} [DecidableEq α] : ∀ {a b : List α}, a.Nodup → (∀ x ∈ a, x ∈ b) → a.length ≤ b.length := by
  intro a
  induction a with
  | nil => intro b _ _; simp
  | cons x a ih =>
    intro b hn hs
    have nd := List.nodup_cons.mp hn
    have hx := hs x List.mem_cons_self
    have h1 := ih (b := b.erase x) nd.2 (fun y hy => by
      have hne : y ≠ x := fun e => nd.1 (e ▸ hy)
      exact (List.mem_erase_of_ne hne).mpr (hs y (List.mem_cons_of_mem _ hy)))
    rw [List.length_erase_of_mem hx] at h1
    have : 0 < b.length := List.length_pos_of_mem hx
    rw [List.length_cons]
    omega
theorem flat_len {α β : Type} (g : α → List β) (n : Nat) : ∀ (l : List α), (∀ x ∈ l, (g x).length ≤ n) → (l.flatMap g).length ≤ l.length * n := by
  intro l
  induction l with
  | nil => intro _; simp
  | cons x l ih =>
    intro h
    rw [List.flatMap_cons, List.length_append, List.length_cons, Nat.succ_mul]
    have h1 := h x List.mem_cons_self
    have h2 := ih (fun y hy => h y (List.mem_cons_of_mem _ hy))
    omega
/-- all roots that a change keeps -/
def rts (σ : SS) : List (Option Nat) := (List.range 6).map (sf σ 3) ++ ((List.range 72).map (sf σ 5) ++ ((List.range 6).map (sf σ 13) ++ (List.range 120).map (sf σ 14)))
theorem rts_len (σ : SS) : (rts σ).length = 204 := by simp [rts]
theorem rts_in {σ : SS} {x j : Nat} (hx : x = 3 ∨ x = 5 ∨ x = 13 ∨ x = 14) (hj : j < fln x) : sf σ x j ∈ rts σ := by
  unfold rts
  rcases hx with rfl | rfl | rfl | rfl
  · exact List.mem_append_left _ (List.mem_map.mpr ⟨j, List.mem_range.mpr hj, rfl⟩)
  · exact List.mem_append_right _ (List.mem_append_left _ (List.mem_map.mpr ⟨j, List.mem_range.mpr hj, rfl⟩))
  · exact List.mem_append_right _ (List.mem_append_right _ (List.mem_append_left _ (List.mem_map.mpr ⟨j, List.mem_range.mpr hj, rfl⟩)))
  · exact List.mem_append_right _ (List.mem_append_right _ (List.mem_append_right _ (List.mem_map.mpr ⟨j, List.mem_range.mpr hj, rfl⟩)))
theorem rts_of {σ : SS} {r : Option Nat} (h : r ∈ rts σ) : ∃ x j, (x = 3 ∨ x = 5 ∨ x = 13 ∨ x = 14) ∧ j < fln x ∧ r = sf σ x j := by
  unfold rts at h
  rcases List.mem_append.mp h with h | h
  · obtain ⟨j, hj, rfl⟩ := List.mem_map.mp h
    exact ⟨3, j, by decide, List.mem_range.mp hj, rfl⟩
  rcases List.mem_append.mp h with h | h
  · obtain ⟨j, hj, rfl⟩ := List.mem_map.mp h
    exact ⟨5, j, by decide, List.mem_range.mp hj, rfl⟩
  rcases List.mem_append.mp h with h | h
  · obtain ⟨j, hj, rfl⟩ := List.mem_map.mp h
    exact ⟨13, j, by decide, List.mem_range.mp hj, rfl⟩
  · obtain ⟨j, hj, rfl⟩ := List.mem_map.mp h
    exact ⟨14, j, by decide, List.mem_range.mp hj, rfl⟩
def Rok (σ : SS) (P : Nat → Prop) : Prop := ∀ r ∈ rts σ, ∃ l, TT σ P r l ∧ l.length ≤ 400
/-- a change has begun -/
def SC (σ : SS) (P : Nat → Prop) (σ' : SS) (P' : Nat → Prop) : Prop := (∀ r ∈ rts σ, ∀ l, TT σ P r l → TT σ' P' r l) ∧ (∀ i, i < 64 → i ≠ 1 → ∀ k, sn σ' i k = sn σ i k ∧ sf σ' i k = sf σ i k) ∧ sn σ' 1 2 ≤ 8191 ∧ sn σ' 1 3 ≤ sn σ 1 3 + 1
theorem sp_startChange {Z : Nat} {σ : SS} {P : Nat → Prop} {Q : SS → Prop} (hG : GI Z σ P) (hR : Rok σ P) (hr : sn σ 1 3 ≤ 2147000000) (hq : ∀ σ' P', GI Z σ' P' → SC σ P σ' P' → Q σ') : wX8_startChange σ Q := by
  unfold wX8_startChange wX2_isCrowded
  refine ⟨fun c => ⟨fun _ => hq σ P hG ⟨fun r _ l t => t, fun _ _ _ _ => ⟨rfl, rfl⟩, by omega, by omega⟩, fun q => absurd rfl q⟩, fun c => ⟨fun q => absurd q (by decide), fun _ => ?_⟩⟩
  obtain ⟨all, sp, c1, c2, c3, c4, c5, c6, c7, c8, c9, c10, c11, c13, c12⟩ := hG
  unfold wX2_startKeeping
  refine ⟨⟨by omega, by omega⟩, ?_⟩
  obtain ⟨σ0, e0⟩ : ∃ s, s = un σ 1 3 (sn σ 1 3 + 1) := ⟨_, rfl⟩
  rw [← e0]
  have f0 : sf σ0 = sf σ := by rw [e0]; rfl
  have n0 : ∀ i k, ¬ (i = 1 ∧ k = 3) → sn σ0 i k = sn σ i k := fun i k h => by rw [e0, sn_un, if_neg h]
  have n13 : sn σ0 1 3 = sn σ 1 3 + 1 := by rw [e0, sn_un_same]
  have S0 : sS σ0 = sS σ := by rw [e0]; rfl
  have z0 : sz σ0 = sz σ := by rw [e0]; rfl
  have T0 : ∀ {d : Nat} {r : Option Nat} {l : List KV}, T σ P d r l → T σ0 P d r l := fun h => T_keep (fun _ h => h) (fun b _ k _ => n0 _ _ (by omega)) (fun b _ k _ => by rw [f0]) h
  have nom : ∀ b, b ∈ all → ¬ mkd σ0 b := fun b hb h => by
    unfold mkd at h
    rw [n0 _ _ (by omega), n13] at h
    have := c12 b hb
    omega
  have C0 : Cla σ0 P := by
    intro n x lx hx _ hm
    obtain ⟨l1, l2, hP, -⟩ := TT_some hx
    exact absurd hm (nom x ((c7 x).mp hP).1)
  have r0 : ∀ x, (x = 3 ∨ x = 5 ∨ x = 13 ∨ x = 14) → ∀ j, j < fln x → ∃ l, TT σ0 P (sf σ0 x j) l ∧ l.length ≤ 400 := fun x hx j hj => by
    obtain ⟨l, ⟨d, ht⟩, hl⟩ := hR _ (rts_in hx hj)
    exact ⟨l, ⟨d, by rw [f0]; exact T0 ht⟩, hl⟩
  have step : ∀ {σ1 : SS}, Km σ0 σ1 → ∀ x, (x = 3 ∨ x = 5 ∨ x = 13 ∨ x = 14) → ∀ j, j < fln x → ∃ l, TT σ1 P (sf σ1 x j) l ∧ l.length ≤ 400 := fun k x hx j hj => by
    obtain ⟨l, ⟨d, ht⟩, hl⟩ := r0 x hx j hj
    exact ⟨l, ⟨d, by rw [k.2.1]; exact k.fwd ht⟩, hl⟩
  refine sp_keepAll (by decide) (by decide) (r0 3 (by decide)) C0 (fun σ1 k1 C1 a1 b1 => ?_)
  refine sp_keepAll (by decide) (by decide) (step k1 5 (by decide)) C1 (fun σ2 k2 C2 a2 b2 => ?_)
  have k12 := k1.tr k2
  refine sp_keepAll (by decide) (by decide) (step k12 13 (by decide)) C2 (fun σ3 k3 C3 a3 b3 => ?_)
  have k13 := k12.tr k3
  refine sp_keepAll (by decide) (by decide) (step k13 14 (by decide)) C3 (fun σ4 k4 C4 a4 b4 => ?_)
  have k14 := k13.tr k4
  rw [k1.2.1, f0] at a2 b2
  rw [k12.2.1, f0] at a3 b3
  rw [k13.2.1, f0] at a4 b4
  rw [f0] at a1 b1
  have f4 : sf σ4 = sf σ := k14.2.1.trans f0
  -- marked: just the nodes of the roots
  have mk1 : ∀ r ∈ rts σ, ∀ y, Nd (sf σ) r y → mkd σ4 y := by
    intro r hr' y hy
    obtain ⟨x, j, hx, hj, rfl⟩ := rts_of hr'
    rcases hx with rfl | rfl | rfl | rfl
    · exact (k2.tr (k3.tr k4)).mk (a1 j hj y hy)
    · exact (k3.tr k4).mk (a2 j hj y hy)
    · exact k4.mk (a3 j hj y hy)
    · exact a4 j hj y hy
  have mk2 : ∀ y, y ∈ all → mkd σ4 y → ∃ r ∈ rts σ, Nd (sf σ) r y := by
    intro y hy hm
    rcases b4 y hm with q | ⟨j, hj, q⟩
    · rcases b3 y q with q | ⟨j, hj, q⟩
      · rcases b2 y q with q | ⟨j, hj, q⟩
        · rcases b1 y q with q | ⟨j, hj, q⟩
          · exact absurd q (nom y hy)
          · exact ⟨_, rts_in (by decide) hj, q⟩
        · exact ⟨_, rts_in (by decide) hj, q⟩
      · exact ⟨_, rts_in (by decide) hj, q⟩
    · exact ⟨_, rts_in (by decide) hj, q⟩
  unfold wX2_spareTheRest
  obtain ⟨σ5, e5⟩ : ∃ s, s = un (uf σ4 1 1 none) 1 2 0 := ⟨_, rfl⟩
  rw [← e5]
  have f5 : ∀ i k, ¬ (i = 1 ∧ k = 1) → sf σ5 i k = sf σ i k := fun i k h => by rw [e5, sf_un, sf_uf, if_neg h, f4]
  have f511 : sf σ5 1 1 = none := by rw [e5, sf_un, sf_uf_same]
  have n5 : ∀ i k, ¬ (i = 1 ∧ k = 2) → sn σ5 i k = sn σ4 i k := fun i k h => by rw [e5, sn_un, if_neg h]; rfl
  have n512 : sn σ5 1 2 = 0 := by rw [e5, sn_un_same]
  have S5 : sS σ5 = sS σ := by rw [e5]; exact k14.2.2.1.trans S0
  have z5 : sz σ5 = sz σ := by rw [e5]; exact k14.2.2.2.1.trans z0
  have m5 : ∀ b, (sn σ5 (b + 64) 8 = sn σ5 1 3) ↔ mkd σ4 b := fun b => by
    unfold mkd
    rw [n5 _ _ (by omega), n5 _ _ (by omega)]
  refine ⟨all.length + 1, ?_⟩
  rw [f5 1 0 (by omega)]
  refine sp_spare_L all (sp := []) (Ch_keep (fun b _ => f5 _ _ (by omega)) c1) f511 c2 (fun b _ => List.not_mem_nil) (fun σ6 s6 hc => ?_)
  rw [List.append_nil] at hc
  obtain ⟨P', eP⟩ : ∃ P' : Nat → Prop, P' = fun b => b ∈ all ∧ mkd σ4 b := ⟨_, rfl⟩
  have um : ∀ b, umk σ5 b = true ↔ ¬ mkd σ4 b := fun b => by
    unfold umk
    rw [decide_eq_true_eq, m5]
  have n6 : ∀ i k, sn σ6 i k = sn σ5 i k := fun i k => by rw [s6.1]
  have Tfin : ∀ r ∈ rts σ, ∀ l, TT σ P r l → TT σ6 P' r l := by
    intro r hr' l ht
    obtain ⟨d, ht⟩ := ht
    refine ⟨d, ?_⟩
    have h1 : T σ P' d r l := T_sub ht (fun x hx => by
      rw [eP]
      refine ⟨?_, mk1 r hr' x hx⟩
      have : ∀ {d : Nat} {r : Option Nat} {l : List KV}, T σ P d r l → ∀ x, In (sf σ) d r x → P x := by
        intro d
        induction d with
        | zero => intro r l _ x h; cases h
        | succ d ih =>
          intro r l ht x h
          obtain ⟨b, rfl, h⟩ := h
          obtain ⟨e, l1, l2, he, hP, h1, h2, -⟩ := T_some ht
          cases he
          rcases h with h | h | h
          · subst h; exact hP
          · exact ih h1 x h
          · exact ih h2 x h
      exact ((c7 x).mp (this ht x (T_In ht x hx))).1)
    refine T_keep (fun _ h => h) (fun b _ k hk => ?_) (fun b _ k hk => ?_) h1
    · rw [n6, n5 _ _ (by omega), k14.1 _ _ (Or.inr (by omega)), n0 _ _ (by omega)]
    · rw [s6.2.2.2 _ _ (by omega) (by omega), f5 _ _ (by omega)]
  have nd6 : (all.filter (umk σ5)).reverse.Nodup := by
    unfold List.Nodup
    rw [List.pairwise_reverse]
    exact (List.Pairwise.filter _ c2).imp (fun h => Ne.symm h)
  refine hq σ6 P' ⟨all, (all.filter (umk σ5)).reverse, ?_, c2, hc, nd6, ?_, ?_, ?_, ?_, ?_, ?_, ?_, ?_, ?_⟩ ⟨Tfin, fun i hi h1i k => ⟨?_, ?_⟩, ?_, ?_⟩
  · rw [s6.2.2.2 1 0 (by omega) (by omega), f5 1 0 (by omega)]
    exact Ch_keep (fun b _ => by rw [s6.2.2.2 _ _ (by omega) (by omega), f5 _ _ (by omega)]) c1
  · intro b hb
    exact (List.mem_filter.mp (List.mem_reverse.mp hb)).1
  · rw [s6.2.1, S5]; exact c6
  · intro b
    rw [eP]
    constructor
    · rintro ⟨h1, h2⟩
      refine ⟨h1, fun h3 => ?_⟩
      exact (um b).mp (List.mem_filter.mp (List.mem_reverse.mp h3)).2 h2
    · rintro ⟨h1, h2⟩
      refine ⟨h1, Classical.byContradiction fun h3 => h2 ?_⟩
      exact List.mem_reverse.mpr (List.mem_filter.mpr ⟨h1, (um b).mpr h3⟩)
  · rw [s6.2.2.1, z5]; exact c8
  · rw [s6.2.2.1, z5]; exact c9
  · rw [n6, n512, List.length_reverse]
    have hsplit : all.length = (all.filter (umk σ5)).length + (all.filter (fun b => !umk σ5 b)).length := by
      rw [← List.countP_eq_length_filter, ← List.countP_eq_length_filter]
      have := List.length_eq_countP_add_countP (umk σ5) (l := all)
      simpa using this
    have hcount : (all.filter (fun b => !umk σ5 b)).length ≤ 81600 := by
      have h1 : (all.filter (fun b => !umk σ5 b)).length ≤ ((rts σ).flatMap (NL (sf σ) 18)).length := by
        refine nodup_len (c2.filter _) (fun b hb => ?_)
        have hb2 := List.mem_filter.mp hb
        have hmb : mkd σ4 b := Classical.byContradiction fun h => by
          have := (um b).mpr h
          rw [this] at hb2
          simp at hb2
        obtain ⟨r, hr', hn⟩ := mk2 b hb2.1 hmb
        obtain ⟨l, ht, hl⟩ := hR r hr'
        exact List.mem_flatMap.mpr ⟨r, hr', NL_in (T_In (T_18 ht (by omega)) b hn)⟩
      have h2 := flat_len (NL (sf σ) 18) 400 (rts σ) (fun r hr' => by
        obtain ⟨l, ht, hl⟩ := hR r hr'
        rw [NL_len (T_18 ht (by omega))]; exact hl)
      rw [rts_len] at h2
      omega
    omega
  · rw [n6, n512]; omega
  · rw [n6, n5 _ _ (by omega), k14.1 _ _ (Or.inl (by omega)), n13]; omega
  · intro b hb
    rw [n6, n6, n5 _ _ (by omega), n5 _ _ (by omega), k14.1 1 3 (Or.inl (by omega)), n13]
    rcases k14.2.2.2.2 b with q | q
    · rw [q, n0 _ _ (by omega)]
      have := c12 b hb
      omega
    · rw [q, n13]; omega
  · rw [n6, n5 _ _ (by omega), k14.1 _ _ (Or.inl hi), n0 _ _ (by omega)]
  · rw [s6.2.2.2 _ _ (by omega) (by omega), f5 _ _ (by omega)]
  · rw [n6, n512]; omega
  · rw [n6, n5 _ _ (by omega), k14.1 _ _ (Or.inl (by omega)), n13]; omega
