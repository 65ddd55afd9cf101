/-! ===== the grove: all nodes, the spare ones, the live ones ===== -/
def Ch (σ : SS) (fld : Nat) : Option Nat → List Nat → Prop
  | r, [] => r = none
  | r, b :: L => r = some b ∧ Ch σ fld (sf σ (b + 64) fld) L
theorem Ch_keep {σ σ' : SS} {fld : Nat} : ∀ {L : List Nat} {r : Option Nat}, (∀ b ∈ L, sf σ' (b + 64) fld = sf σ (b + 64) fld) → Ch σ fld r L → Ch σ' fld r L := by
  intro L
  induction L with
  | nil => intro r _ h; exact h
  | cons b L ih =>
    intro r hk h
    refine ⟨h.1, ?_⟩
    rw [hk b List.mem_cons_self]
    exact ih (fun x hx => hk x (List.mem_cons_of_mem _ hx)) h.2
/-- the grove's own order: Z cells besides the nodes, P the live nodes -/
def GI (Z : Nat) (σ : SS) (P : Nat → Prop) : Prop := ∃ all sp : List Nat, Ch σ 6 (sf σ 1 0) all ∧ all.Nodup ∧ Ch σ 7 (sf σ 1 1) sp ∧ sp.Nodup ∧ (∀ b ∈ sp, b ∈ all) ∧ (∀ b, sS σ b ↔ b ∈ all) ∧ (∀ b, P b ↔ (b ∈ all ∧ b ∉ sp)) ∧ sz σ = Z + all.length ∧ (∀ b ∈ all, b < sz σ) ∧ (all.length : Int) ≤ 81600 + sn σ 1 2 + sp.length ∧ 0 ≤ sn σ 1 2 ∧ 0 ≤ sn σ 1 3 ∧ (∀ b ∈ all, sn σ (b + 64) 8 ≤ sn σ 1 3)
/-- what making nodes keeps: n nodes at most -/
def Ext (n : Int) (σ : SS) (P : Nat → Prop) (σ' : SS) (P' : Nat → Prop) : Prop :=
  (∀ b, P b → P' b) ∧ (∀ b, P b → ∀ k, k < 4 → sn σ' (b + 64) k = sn σ (b + 64) k) ∧ (∀ b, P b → ∀ k, k = 4 ∨ k = 5 → sf σ' (b + 64) k = sf σ (b + 64) k) ∧ (∀ i, i < 64 → i ≠ 1 → ∀ k, sn σ' i k = sn σ i k ∧ sf σ' i k = sf σ i k) ∧ sn σ' 1 3 = sn σ 1 3 ∧ sn σ' 1 2 ≤ sn σ 1 2 + n
theorem Ext.rf {σ : SS} {P : Nat → Prop} : Ext 0 σ P σ P := ⟨fun _ h => h, fun _ _ _ _ => rfl, fun _ _ _ _ => rfl, fun _ _ _ _ => ⟨rfl, rfl⟩, rfl, by omega⟩
theorem Ext.tr {n m k : Int} {σ σ1 σ2 : SS} {P P1 P2 : Nat → Prop} (h1 : Ext n σ P σ1 P1) (h2 : Ext m σ1 P1 σ2 P2) (hk : n + m ≤ k) : Ext k σ P σ2 P2 := by
  obtain ⟨a1, a2, a3, a4, a5, a6⟩ := h1
  obtain ⟨b1, b2, b3, b4, b5, b6⟩ := h2
  refine ⟨fun b h => b1 b (a1 b h), fun b h k hk => (b2 b (a1 b h) k hk).trans (a2 b h k hk), fun b h k hk => (b3 b (a1 b h) k hk).trans (a3 b h k hk), fun i hi h1 k => ⟨(b4 i hi h1 k).1.trans (a4 i hi h1 k).1, (b4 i hi h1 k).2.trans (a4 i hi h1 k).2⟩, b5.trans a5, by omega⟩
theorem Ext.up {n k : Int} {σ σ1 : SS} {P P1 : Nat → Prop} (h1 : Ext n σ P σ1 P1) (hk : n ≤ k) : Ext k σ P σ1 P1 := ⟨h1.1, h1.2.1, h1.2.2.1, h1.2.2.2.1, h1.2.2.2.2.1, by have := h1.2.2.2.2.2; omega⟩
theorem Ext.T {n : Int} {σ σ1 : SS} {P P1 : Nat → Prop} (h : Ext n σ P σ1 P1) {d : Nat} {r : Option Nat} {l : List KV} (ht : T σ P d r l) : T σ1 P1 d r l := T_keep h.1 h.2.1 h.2.2.1 ht
theorem Ext.tk {n : Int} {σ σ1 : SS} {P P1 : Nat → Prop} (h : Ext n σ P σ1 P1) : sn σ1 1 2 ≤ sn σ 1 2 + n := h.2.2.2.2.2
/-- entries whose values are within their bounds -/
def Vok (l : List KV) : Prop := ∀ p ∈ l, -1000000 ≤ p.2 ∧ p.2 ≤ 1000000
theorem Vok_app {l1 l2 : List KV} {p : KV} : Vok (l1 ++ p :: l2) ↔ Vok l1 ∧ (-1000000 ≤ p.2 ∧ p.2 ≤ 1000000) ∧ Vok l2 := by
  unfold Vok
  constructor
  · intro h
    exact ⟨fun q hq => h q (by simp [hq]), h p (by simp), fun q hq => h q (by simp [hq])⟩
  · rintro ⟨h1, h2, h3⟩ q hq
    simp only [List.mem_append, List.mem_cons] at hq
    rcases hq with hq | rfl | hq
    · exact h1 q hq
    · exact h2
    · exact h3 q hq
theorem sumv_in {l : List KV} (h : Vok l) : -(1000000 * (l.length : Int)) ≤ sumv l ∧ sumv l ≤ 1000000 * (l.length : Int) := by
  induction l with
  | nil => simp [sumv]
  | cons p l ih =>
    have h1 := h p List.mem_cons_self
    have h2 := ih (fun q hq => h q (List.mem_cons_of_mem _ hq))
    rw [sumv, List.length_cons]
    have e : ((l.length + 1 : Nat) : Int) = (l.length : Int) + 1 := by omega
    rw [e]
    omega
/-- a node is made -/
theorem sp_node {Z tp d : Nat} {σ : SS} {P : Nat → Prop} {a1 a4 : Option Nat} {k v TM : Int} {l1 l2 : List KV} {Q : Option Nat → SS → Prop} (hG : GI Z σ P) (ht : sn σ 1 2 + 1 ≤ TM) (hTM : TM ≤ 1000000) (htp : Z + 81600 + TM.toNat ≤ tp) (h1 : T σ P d a1 l1) (h2 : T σ P d a4 l2) (hV : Vok (l1 ++ (k, v) :: l2)) (hlen : (l1 ++ (k, v) :: l2).length ≤ 1000) (hb : bal (tw l1) (tw l2))
    (hq : ∀ (b : Nat) (σ' : SS) (P' : Nat → Prop), GI Z σ' P' → Ext 1 σ P σ' P' → T σ' P' (d + 1) (some b) (l1 ++ (k, v) :: l2) → Q (some b) σ') : wX2_node tp a1 k v a4 σ Q := by
  obtain ⟨all, sp, c1, c2, c3, c4, c5, c6, c7, c8, c9, c10, c11, c13, c12⟩ := hG
  have hs1 := sumv_in hV
  have hlen2 : (l1.length : Int) + 1 + l2.length ≤ 1000 := by simp only [List.length_append, List.length_cons] at hlen; omega
  obtain ⟨v1, vk, v2⟩ := Vok_app.mp hV
  have s1 := sumv_in v1
  have s2 := sumv_in v2
  -- what is common to both ways: b a place that is no live node, the state s0 ahead of the writing
  have key : ∀ (b : Nat) (s0 : SS) (all' sp' : List Nat), ¬ P b → b ∈ all' → b ∉ sp' → (∀ x, P x → x ∈ all') → (∀ x, P x → x ∉ sp') → (∀ x, x ∈ all' ∧ x ∉ sp' → P x ∨ x = b) → Ch s0 6 (sf s0 1 0) all' → all'.Nodup → Ch s0 7 (sf s0 1 1) sp' → sp'.Nodup → (∀ x ∈ sp', x ∈ all') → (∀ x, sS s0 x ↔ x ∈ all') → sz s0 = Z + all'.length → (∀ x ∈ all', x < sz s0) → (all'.length : Int) ≤ 81600 + (sn s0 1 2 + 1) + sp'.length → 0 ≤ sn s0 1 2 → (∀ x ∈ all', sn s0 (x + 64) 8 ≤ sn s0 1 3) →
      (∀ x, P x → ∀ q, sn s0 (x + 64) q = sn σ (x + 64) q) → (∀ x, P x → ∀ q, q = 4 ∨ q = 5 → sf s0 (x + 64) q = sf σ (x + 64) q) → (∀ i, i < 64 → i ≠ 1 → ∀ q, sn s0 i q = sn σ i q ∧ sf s0 i q = sf σ i q) → sn s0 1 3 = sn σ 1 3 → sn s0 1 2 = sn σ 1 2 → wX2_node_L47 tp a1 k v a4 Q (some b) s0 := by
    intro b s0 all' sp' nb x1 x2 x3 x4 x5 e1 e2 e3 e4 e5 e6 e7 e8 e9 e10 e11 f1 f2 f3 f4 f5
    unfold wX2_node_L47
    refine ⟨⟨by omega, by omega⟩, b, rfl, ?_⟩
    -- the state behind the first writes
    obtain ⟨t, et⟩ : ∃ t : SS, t = uf (uf (un (un (un s0 1 2 (sn s0 1 2 + 1)) (b + 64) 0 k) (b + 64) 1 v) (b + 64) 4 a1) (b + 64) 5 a4 := ⟨_, rfl⟩
    rw [← et]
    have tn : ∀ i q, i ≠ b + 64 → i ≠ 1 → sn t i q = sn s0 i q := fun i q h h' => by rw [et]; simp [sn_uf, sn_un, h, h']
    have tf : ∀ i q, i ≠ b + 64 → sf t i q = sf s0 i q := fun i q h => by rw [et]; simp [sf_uf, sf_un, h]
    have tS : sS t = sS s0 := by rw [et]; rfl
    have tz : sz t = sz s0 := by rw [et]; rfl
    have tT : ∀ {r : Option Nat} {l : List KV}, T σ P d r l → T t P d r l := fun h => T_keep (fun _ h => h) (fun x hx q _ => by
        have : x ≠ b := fun e => nb (e ▸ hx)
        rw [tn (x + 64) q (by omega) (by omega)]; exact f1 x hx q) (fun x hx q hq => by
        have : x ≠ b := fun e => nb (e ▸ hx)
        rw [tf (x + 64) q (by omega)]; exact f2 x hx q hq) h
    refine sp_countOf (tT h1) (sp_countOf (tT h2) ⟨⟨by omega, by omega⟩, ?_⟩)
    obtain ⟨u, eu⟩ : ∃ u : SS, u = un t (b + 64) 2 ((l1.length : Int) + 1 + l2.length) := ⟨_, rfl⟩
    rw [← eu]
    have un_ : ∀ i q, i ≠ b + 64 → sn u i q = sn t i q := fun i q h => by rw [eu]; simp [sn_un, h]
    have uf_ : ∀ i q, sf u i q = sf t i q := fun i q => by rw [eu, sf_un]
    have uT : ∀ {r : Option Nat} {l : List KV}, T σ P d r l → T u P d r l := fun h => T_keep (fun _ h => h) (fun x hx q _ => by
        have : x ≠ b := fun e => nb (e ▸ hx)
        exact un_ (x + 64) q (by omega)) (fun x hx q hq => uf_ _ _) (tT h)
    refine sp_sumOf (uT h1) (sp_sumOf (uT h2) ⟨⟨by omega, by omega⟩, ?_⟩)
    obtain ⟨w, ew⟩ : ∃ w : SS, w = un u (b + 64) 3 (sumv l1 + v + sumv l2) := ⟨_, rfl⟩
    rw [← ew]
    have wn : ∀ i q, i ≠ b + 64 → sn w i q = sn t i q := fun i q h => by rw [ew, sn_un_i _ _ h]; exact un_ i q h
    have wf : ∀ i q, sf w i q = sf t i q := fun i q => by rw [ew, sf_un]; exact uf_ i q
    have wS : sS w = sS s0 := by rw [ew, sS_un, eu, sS_un]; exact tS
    have wz : sz w = sz s0 := by rw [ew, sz_un, eu, sz_un]; exact tz
    have w12 : sn w 1 2 = sn s0 1 2 + 1 := by rw [wn 1 2 (by omega), et]; simp [sn_uf, sn_un]
    have w13 : sn w 1 3 = sn s0 1 3 := by rw [wn 1 3 (by omega), et]; simp [sn_uf, sn_un]
    have wb0 : sn w (b + 64) 0 = k := by rw [ew, eu, et]; simp [sn_uf, sn_un]
    have wb1 : sn w (b + 64) 1 = v := by rw [ew, eu, et]; simp [sn_uf, sn_un]
    have wb2 : sn w (b + 64) 2 = (l1.length : Int) + 1 + l2.length := by rw [ew, eu]; simp [sn_un]
    have wb3 : sn w (b + 64) 3 = sumv l1 + v + sumv l2 := by rw [ew]; simp [sn_un]
    have wb4 : sf w (b + 64) 4 = a1 := by rw [wf, et]; simp [sf_uf]
    have wb5 : sf w (b + 64) 5 = a4 := by rw [wf, et]; simp [sf_uf]
    have wb8 : ∀ x, sn w (x + 64) 8 = sn s0 (x + 64) 8 := fun x => by
      rw [ew, eu, et]; simp [sn_uf, sn_un]
    have wl : ∀ x q, q = 6 ∨ q = 7 → sf w (x + 64) q = sf s0 (x + 64) q := fun x q hq => by
      rw [wf, et]; rcases hq with rfl | rfl <;> simp [sf_uf, sf_un]
    refine hq b w (fun x => P x ∨ x = b) ?_ ?_ ?_
    · refine ⟨all', sp', ?_, e2, ?_, e4, e5, ?_, ?_, ?_, ?_, ?_, ?_, by rw [w13, f4]; exact c13, ?_⟩
      · rw [wf, tf 1 0 (by omega)]
        exact Ch_keep (fun x _ => wl x 6 (Or.inl rfl)) e1
      · rw [wf, tf 1 1 (by omega)]
        exact Ch_keep (fun x _ => wl x 7 (Or.inr rfl)) e3
      · rw [wS]; exact e6
      · intro x
        constructor
        · rintro (h | rfl)
          · exact ⟨x3 x h, x4 x h⟩
          · exact ⟨x1, x2⟩
        · exact x5 x
      · rw [wz]; exact e7
      · rw [wz]; exact e8
      · rw [w12]; exact e9
      · rw [w12]; omega
      · intro x hx
        rw [wb8, w13]; exact e11 x hx
    · refine ⟨fun x h => Or.inl h, fun x hx q hq' => ?_, fun x hx q hq' => ?_, fun i hi h1i q => ?_, w13.trans f4, by rw [w12, f5]; exact Int.le_refl _⟩
      · have : x ≠ b := fun e => nb (e ▸ hx)
        rw [wn (x + 64) q (by omega), tn (x + 64) q (by omega) (by omega)]; exact f1 x hx q
      · have : x ≠ b := fun e => nb (e ▸ hx)
        rw [wf, tf (x + 64) q (by omega)]; exact f2 x hx q hq'
      · rw [wn i q (by omega), wf, tn i q (by omega) h1i, tf i q (by omega)]; exact f3 i hi h1i q
    · have TT : ∀ {r : Option Nat} {l : List KV}, T σ P d r l → T w (fun x => P x ∨ x = b) d r l := fun h => T_keep (fun _ h => Or.inl h) (fun x hx q _ => by
          have : x ≠ b := fun e => nb (e ▸ hx)
          exact wn (x + 64) q (by omega)) (fun x hx q hq => wf _ _) (tT h)
      refine T_mk (Or.inr rfl) (by rw [wb4]; exact TT h1) (by rw [wb5]; exact TT h2) (by rw [wb0, wb1]) ?_ ?_ hb
      · rw [wb2]; simp only [List.length_append, List.length_cons]; omega
      · rw [wb3, sumv_app, sumv]; omega
  refine ⟨fun e => ?_, fun b e => ?_⟩
  · -- no spare node: a new one
    cases sp with
    | cons x sp => rw [c3.1] at e; cases e
    | nil =>
      have hnz : sz σ ∉ all := fun h => by have := c9 _ h; omega
      refine ⟨by simp at c10; omega, ?_⟩
      refine key (sz σ) _ (sz σ :: all) [] (fun h => hnz ((c7 _).mp h).1) List.mem_cons_self List.not_mem_nil (fun x h => List.mem_cons_of_mem _ ((c7 x).mp h).1) (fun x _ => List.not_mem_nil) ?_ ?_ (List.nodup_cons.mpr ⟨hnz, c2⟩) ?_ List.nodup_nil (fun x h => by cases h) ?_ ?_ ?_ ?_ ?_ ?_ ?_ ?_ ?_ ?_ ?_
      · rintro x ⟨h, -⟩
        rcases List.mem_cons.mp h with h | h
        · exact Or.inr h
        · exact Or.inl ((c7 x).mpr ⟨h, List.not_mem_nil⟩)
      · refine ⟨by simp [sf_uf], ?_⟩
        have e2 : sf (uf (uf (unew σ) (sz σ + 64) 6 (sf (unew σ) 1 0)) 1 0 (some (sz σ))) (sz σ + 64) 6 = sf σ 1 0 := by
          simp [sf_uf, sf_unew]
        rw [e2]
        refine Ch_keep (fun x hx => ?_) c1
        have : x ≠ sz σ := fun h => hnz (h ▸ hx)
        simp [sf_uf, sf_unew, this]
      · show sf _ 1 1 = none
        simp [sf_uf, sf_unew, e]
      · intro x
        rw [sS_uf, sS_uf, sS_unew, c6, List.mem_cons]
        constructor
        · rintro (h | h)
          · exact Or.inr h
          · exact Or.inl h
        · rintro (h | h)
          · exact Or.inr h
          · exact Or.inl h
      · rw [sz_uf, sz_uf, sz_unew, c8, List.length_cons]; omega
      · intro x hx
        rw [sz_uf, sz_uf, sz_unew]
        rcases List.mem_cons.mp hx with h | h
        · omega
        · have := c9 x h; omega
      · rw [sn_uf, sn_uf, sn_unew, if_neg (by omega)]
        simp at c10 ⊢
        omega
      · rw [sn_uf, sn_uf, sn_unew, if_neg (by omega)]; exact c11
      · intro x hx
        rw [sn_uf, sn_uf, sn_unew, sn_unew, if_neg (show ¬ 1 = sz σ + 64 by omega)]
        rcases List.mem_cons.mp hx with h | h
        · rw [if_pos (by rw [h])]
          exact c13
        · have hne : x ≠ sz σ := fun h' => hnz (h' ▸ h)
          rw [if_neg (by omega)]; exact c12 x h
      · intro x hx q
        have hne : x ≠ sz σ := fun h' => hnz (h' ▸ ((c7 x).mp hx).1)
        rw [sn_uf, sn_uf, sn_unew, if_neg (by omega)]
      · intro x hx q hq'
        have hne : x ≠ sz σ := fun h' => hnz (h' ▸ ((c7 x).mp hx).1)
        rcases hq' with rfl | rfl <;> simp [sf_uf, sf_unew, hne]
      · intro i hi h1i q
        constructor
        · rw [sn_uf, sn_uf, sn_unew, if_neg (by omega)]
        · have hi2 : i ≠ sz σ + 64 := by omega
          simp [sf_uf, sf_unew, hi2, h1i]
      · rw [sn_uf, sn_uf, sn_unew, if_neg (by omega)]
      · rw [sn_uf, sn_uf, sn_unew, if_neg (by omega)]
  · -- a spare one
    cases sp with
    | nil => rw [show sf σ 1 1 = none from c3] at e; cases e
    | cons x sp =>
      have hx : x = b := by have := c3.1.symm.trans e; cases this; rfl
      subst hx
      have hnd := List.nodup_cons.mp c4
      rw [e]
      refine key x _ all sp (fun h => ((c7 x).mp h).2 List.mem_cons_self) (c5 x List.mem_cons_self) hnd.1 (fun y h => ((c7 y).mp h).1) (fun y h h2 => ((c7 y).mp h).2 (List.mem_cons_of_mem _ h2)) ?_ ?_ c2 ?_ hnd.2 (fun y h => c5 y (List.mem_cons_of_mem _ h)) ?_ ?_ ?_ ?_ ?_ ?_ ?_ ?_ ?_ ?_ ?_
      · rintro y ⟨h, h2⟩
        by_cases hy : y = x
        · exact Or.inr hy
        · exact Or.inl ((c7 y).mpr ⟨h, fun h3 => by
            rcases List.mem_cons.mp h3 with h3 | h3
            · exact hy h3
            · exact h2 h3⟩)
      · have e2 : sf (uf σ 1 1 (sf σ (x + 64) 7)) 1 0 = sf σ 1 0 := by simp [sf_uf]
        rw [e2]
        refine Ch_keep (fun y _ => ?_) c1
        rw [sf_uf_i _ _ (by omega)]
      · have e2 : sf (uf σ 1 1 (sf σ (x + 64) 7)) 1 1 = sf σ (x + 64) 7 := by simp [sf_uf]
        rw [e2]
        refine Ch_keep (fun y _ => ?_) c3.2
        rw [sf_uf_i _ _ (by omega)]
      · exact c6
      · exact c8
      · exact c9
      · rw [sn_uf]
        simp only [List.length_cons] at c10
        omega
      · exact c11
      · exact c12
      · intro y hy q; rfl
      · intro y hy q hq'
        rw [sf_uf_i _ _ (by omega)]
      · intro i hi h1i q
        exact ⟨rfl, by rw [sf_uf_i _ _ h1i]⟩
      · rfl
      · rfl
