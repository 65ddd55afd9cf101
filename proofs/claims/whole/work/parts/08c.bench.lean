/-! ===== sums: what the deeds do; the class does them ===== -/
def hdL (st : List (List KV)) : List KV := st.headD []
def jnF (s mk : Int) (la lb : List KV) : Int → Option Int := fun k => jn s mk (lk la k) (lk lb k)
def dst (mk : Int) : List KV → (Nat → List KV) → List (List KV) → Option ((Nat → List KV) × List (List KV))
  | [], M, st => some (M, st)
  | x :: ds, M, st => if x.1 = 4 then dst mk ds M (M x.2.toNat :: st) else if x.1 = 5 then dst mk ds M ([] :: st) else if x.1 = 6 then dst mk ds M (ins (hdL st) x.2 x.2 :: st.tail) else if x.1 = 7 then dst mk ds (updM M x.2.toNat (hdL st)) st.tail
    else if (tabL (jnF x.1 mk (hdL st.tail) (hdL st))).length ≤ 200 then dst mk ds M (tabL (jnF x.1 mk (hdL st.tail) (hdL st)) :: st.tail.tail) else none
/-- deeds that can be done: n is how long the pile's top may be -/
def okd : List KV → Nat → Prop
  | [], _ => True
  | x :: ds, n => (x.1 = 4 ∧ isM x.2 ∧ okd ds 200) ∨ (x.1 = 5 ∧ okd ds 0) ∨ (x.1 = 6 ∧ isK x.2 ∧ n < 200 ∧ okd ds (n + 1)) ∨ (x.1 = 7 ∧ isM x.2 ∧ okd ds 200) ∨ ((0 ≤ x.1 ∧ x.1 ≤ 3) ∧ okd ds 200)
theorem okd_set {ds : List KV} (h : ∀ n, okd ds n) : ∀ (ks : List Int) {n : Nat}, (∀ v ∈ ks, isK v) → n + ks.length ≤ 200 → okd (ks.map (fun v => ((6 : Int), v)) ++ ds) n := by
  intro ks
  induction ks with
  | nil => intro n _ _; exact h n
  | cons v ks ih =>
    intro n h1 h2
    rw [List.length_cons] at h2
    refine Or.inr (Or.inr (Or.inl ⟨rfl, h1 v List.mem_cons_self, by omega, ih (fun x hx => h1 x (List.mem_cons_of_mem _ hx)) (by omega)⟩))
theorem okd_T {ds : List KV} (h : ∀ n, okd ds n) : ∀ (k : List Tok), (∀ y ∈ k, okT y) → ∀ n, okd (flT k ++ ds) n := by
  intro k
  induction k with
  | nil => intro _ n; exact h n
  | cons x k ih =>
    intro hk n
    have ih' := ih (fun y hy => hk y (List.mem_cons_of_mem _ hy))
    rw [flT, List.append_assoc]
    rcases hk x List.mem_cons_self with ⟨h1, h2⟩ | ⟨h1, m, h2, h3⟩ | ⟨h1, h2, h3⟩
    · rw [if_neg (by omega), if_neg (by omega)]
      exact Or.inr (Or.inr (Or.inr (Or.inr ⟨h1, ih' 200⟩)))
    · rw [if_pos h1, h3]
      exact Or.inl ⟨rfl, h2, ih' 200⟩
    · rw [if_neg (by omega), if_pos h1]
      refine Or.inr (Or.inl ⟨rfl, ?_⟩)
      exact okd_set ih' x.2 h3 (by omega)
theorem okd_D : ∀ {d : List (Int × List Tok)}, okD d → ∀ n, okd (flD d) n := by
  intro d
  induction d with
  | nil => intro _ n; trivial
  | cons x d ih =>
    intro h n
    rw [flD]
    have hx := h x List.mem_cons_self
    refine okd_T (fun n => ?_) x.2 hx.2.1 n
    exact Or.inr (Or.inr (Or.inr (Or.inl ⟨rfl, hx.1, ih (fun y hy => h y (List.mem_cons_of_mem _ hy)) 200⟩)))
/-- the bench -/
def Bn (σ : SS) (P : Nat → Prop) (M : Nat → List KV) (st : List (List KV)) : Prop := sn σ 12 3 = (st.length : Int) ∧ (∀ m, m < 6 → TT σ P (sf σ 13 m) (M m)) ∧ ∀ (j : Nat) (l : List KV), st.reverse[j]? = some l → TT σ P (sf σ 14 j) l
section
variable {Z tp n : Nat} {rb : Int} {σ : SS} {P : Nat → Prop} {a : AS} {M : Nat → List KV} {st : List (List KV)}
theorem CI.congr {p : List (Nat → List KV) × (Nat → Int) × Int × List Int} {M' : Nat → List KV} (h : CI Z rb σ P (M', p)) (hM : ∀ j, j < 6 → M' j = M j) : CI Z rb σ P (M, p) := ⟨h.1, fun m hm => by show TT σ P _ (M m); rw [← hM m hm]; exact h.2.1 m hm, h.2.2⟩
theorem CI.uf14 (h : CI Z rb σ P a) {i : Nat} {r : Option Nat} {l : List KV} (ht : TT σ P r l) (hl : l.length ≤ 400) : CI Z rb (uf σ 14 i r) P a := by
  have sm : Sm [14] σ (uf σ 14 i r) := Sm.uf (by simp)
  have h64 : ∀ i ∈ [14], i < 64 := fun i hi => by simp at hi; omega
  obtain ⟨c1, c2, ⟨nx, v1, v2, v3, v4, v5⟩, c4, c5, c6, c7, c8, c9, c10⟩ := h
  refine ⟨sm.GI (fun i q => by simp at q; omega) c1, fun i hi => ?_, ⟨nx, v1, v2, v3, fun j M hM m hm => ?_, fun j h1 h2 m hm => ?_⟩, fun i q => ?_, fun j q => ?_, c6, c7, c8, c9, c10⟩
  · rw [sf_uf_i _ _ (by omega)]; exact sm.TT h64 (c2 i hi)
  · rw [sf_uf_i _ _ (by omega)]; exact sm.TT h64 (v4 j M hM m hm)
  · rw [sf_uf_i _ _ (by omega)]; exact v5 j h1 h2 m hm
  · obtain ⟨l', t, hl⟩ := c4 i q
    rw [sf_uf_i _ _ (by omega)]; exact ⟨l', sm.TT h64 t, hl⟩
  · rw [sf_uf]
    by_cases z : j = i
    · rw [if_pos ⟨rfl, z⟩]; exact ⟨l, sm.TT h64 ht, hl⟩
    · rw [if_neg (fun y => z y.2)]
      obtain ⟨l', t, hl⟩ := c5 j q
      exact ⟨l', sm.TT h64 t, hl⟩
theorem CI.uf13 (h : CI Z rb σ P a) {i : Nat} {r : Option Nat} {l : List KV} (ht : TT σ P r l) (hl : l.length ≤ 400) : CI Z rb (uf σ 13 i r) P a := by
  have sm : Sm [13] σ (uf σ 13 i r) := Sm.uf (by simp)
  have h64 : ∀ i ∈ [13], i < 64 := fun i hi => by simp at hi; omega
  obtain ⟨c1, c2, ⟨nx, v1, v2, v3, v4, v5⟩, c4, c5, c6, c7, c8, c9, c10⟩ := h
  refine ⟨sm.GI (fun i q => by simp at q; omega) c1, fun i hi => ?_, ⟨nx, v1, v2, v3, fun j M hM m hm => ?_, fun j h1 h2 m hm => ?_⟩, fun j q => ?_, fun j q => ?_, c6, c7, c8, c9, c10⟩
  · rw [sf_uf_i _ _ (by omega)]; exact sm.TT h64 (c2 i hi)
  · rw [sf_uf_i _ _ (by omega)]; exact sm.TT h64 (v4 j M hM m hm)
  · rw [sf_uf_i _ _ (by omega)]; exact v5 j h1 h2 m hm
  · rw [sf_uf]
    by_cases z : j = i
    · rw [if_pos ⟨rfl, z⟩]; exact ⟨l, sm.TT h64 ht, hl⟩
    · rw [if_neg (fun y => z y.2)]
      obtain ⟨l', t, hl⟩ := c4 j q
      exact ⟨l', sm.TT h64 t, hl⟩
  · obtain ⟨l', t, hl⟩ := c5 j q
    rw [sf_uf_i _ _ (by omega)]; exact ⟨l', sm.TT h64 t, hl⟩
theorem TT_uf {x i : Nat} {v : Option Nat} {r : Option Nat} {l : List KV} (hx : x < 64) (h : TT σ P r l) : TT (uf σ x i v) P r l := (Sm.uf (is := [x]) (by simp)).TT (fun j hj => by simp at hj; omega) h
theorem TT_un {x i : Nat} {v : Int} {r : Option Nat} {l : List KV} (hx : x < 64) (h : TT σ P r l) : TT (un σ x i v) P r l := (Sm.un (is := [x]) (by simp)).TT (fun j hj => by simp at hj; omega) h
abbrev bnc : List Nat := [12, 13, 14]
/-- what is left over after the top is taken -/
theorem sp_pop {Q : Option Nat → SS → Prop} (h : CI Z rb σ P a) (hb : Bn σ P M st) (hst : st.length ≤ 120) (hq : ∀ r σ', CI Z rb σ' P a → Bn σ' P M st.tail → TT σ' P r (hdL st) → Sm bnc σ σ' → Q r σ') : wX0_pop σ Q := by
  obtain ⟨b1, b2, b3⟩ := id hb
  unfold wX0_pop
  rw [b1]
  cases st with
  | nil => exact ⟨fun c => absurd (by simp) c, fun _ => hq none σ h hb TT_nil (Sm.rf _ _)⟩
  | cons l st =>
    rw [List.length_cons] at hst
    have e1 : (((l :: st).length : Int) - 1) = (st.length : Int) := by rw [List.length_cons]; omega
    have e2 : sn (un σ 12 3 (st.length : Int)) 12 3 = (st.length : Int) := sn_un_same _ _ _ _
    rw [e1, e2, Int.toNat_natCast]
    refine ⟨fun c => ⟨⟨by omega, by omega⟩, by omega, by omega, by omega, by omega, ?_⟩, fun c => by rw [List.length_cons] at c; omega⟩
    have ht : TT σ P (sf σ 14 st.length) l := b3 st.length l (by rw [List.reverse_cons, List.getElem?_append_right (by simp)]; simp)
    have hc : CI Z rb (un σ 12 3 (st.length : Int)) P a := h.sm (is := [12]) (Sm.un (by simp)) (fun i hi => by simp at hi; omega)
    refine hq _ _ (hc.uf14 TT_nil (by simp)) ⟨?_, fun m hm => ?_, fun j l' hl' => ?_⟩ ?_ ((Sm.un (by simp)).tr (Sm.uf (by simp)))
    · exact e2
    · rw [sf_uf_i _ _ (by omega)]; exact TT_uf (by omega) (TT_un (by omega) (b2 m hm))
    · have hl'' : st.reverse[j]? = some l' := hl'
      have hj := (List.getElem?_eq_some_iff.mp hl'').1
      rw [List.length_reverse] at hj
      rw [sf_uf_k _ _ (by omega)]
      exact TT_uf (by omega) (TT_un (by omega) (b3 j l' (by rw [List.reverse_cons, List.getElem?_append_left (by rw [List.length_reverse]; exact hj)]; exact hl'')))
    · exact TT_uf (by omega) (TT_un (by omega) ht)
theorem sp_push {Q : SS → Prop} {r : Option Nat} {l : List KV} (h : CI Z rb σ P a) (hb : Bn σ P M st) (hst : st.length < 120) (ht : TT σ P r l) (hl : l.length ≤ 400) (hq : ∀ σ', CI Z rb σ' P a → Bn σ' P M (l :: st) → TT σ' P r l → Sm bnc σ σ' → Q σ') : wX0_push r σ Q := by
  obtain ⟨b1, b2, b3⟩ := id hb
  unfold wX0_push
  rw [b1, Int.toNat_natCast]
  have e1 : sn (uf σ 14 st.length r) 12 3 = (st.length : Int) := b1
  rw [e1]
  refine ⟨fun c => by omega, fun _ => ⟨by omega, by omega, ⟨by omega, by omega⟩, hq _ ((h.uf14 ht hl).sm (is := [12]) (Sm.un (by simp)) (fun i hi => by simp at hi; omega)) ⟨?_, fun m hm => ?_, fun j l' hl' => ?_⟩ (TT_un (by omega) (TT_uf (by omega) ht)) ((Sm.uf (by simp)).tr (Sm.un (by simp)))⟩⟩
  · rw [sn_un_same, List.length_cons]; omega
  · exact TT_un (by omega) (TT_uf (by omega) (b2 m hm))
  · rw [List.reverse_cons, List.getElem?_append] at hl'
    show TT _ P (sf (uf σ 14 st.length r) 14 j) l'
    split at hl'
    · rename_i c
      rw [List.length_reverse] at c
      rw [sf_uf_k _ _ (by omega)]
      exact TT_un (by omega) (TT_uf (by omega) (b3 j l' hl'))
    · rename_i c
      rw [List.length_reverse] at c hl'
      have hj : j = st.length := by
        have := (List.getElem?_eq_some_iff.mp hl').1
        simp at this; omega
      subst hj
      simp at hl'
      rw [sf_uf_same, ← hl']
      exact TT_un (by omega) (TT_uf (by omega) ht)
theorem Bn.ext {k : Int} {σ' : SS} {P' : Nat → Prop} (h : Bn σ P M st) (hs : Ext k σ P σ' P') : Bn σ' P' M st := by
  have ho : ∀ i, i < 64 → i ≠ 1 → ∀ k, sn σ' i k = sn σ i k ∧ sf σ' i k = sf σ i k := hs.2.2.2.1
  exact ⟨by rw [(ho 12 (by omega) (by omega) 3).1]; exact h.1, fun m hm => by rw [(ho 13 (by omega) (by omega) m).2]; exact hs.TT (h.2.1 m hm), fun j l hl => by rw [(ho 14 (by omega) (by omega) j).2]; exact hs.TT (h.2.2 j l hl)⟩
theorem hdL_ok {st : List (List KV)} (h : ∀ l ∈ st, Gd l) : Gd (hdL st) := by
  cases st with
  | nil => exact Gd_nil
  | cons l st => exact h l List.mem_cons_self
/-- a deed that is no blend is done -/
theorem sp_act {Q : SS → Prop} {de nu : Int} {ds : List KV} {top : Nat} (hde : ¬ de ≤ 3) (hB : BT Z tp 500000) (h : CI Z rb σ P a) (htk : sn σ 1 2 ≤ 8191) (hb : Bn σ P M st) (hst : st.length < 120) (hg : GM M) (hgs : ∀ l ∈ st, Gd l) (hmk : 0 ≤ aX a ∧ aX a ≤ 5) (htop : (hdL st).length ≤ top) (ho : okd ((de, nu) :: ds) top)
    (hq : ∀ σ' P' M' st' top', dst (aX a) ((de, nu) :: ds) M st = dst (aX a) ds M' st' → CI Z rb σ' P' a → Bn σ' P' M' st' → GM M' → (∀ l ∈ st', Gd l) → st'.length ≤ st.length + 1 → (hdL st').length ≤ top' → okd ds top' → Fr σ σ' → (∀ i, 6 < i → i < 12 → ∀ k, sn σ' i k = sn σ i k) → Q σ') : wX0_act tp de nu σ Q := by
  have fr : ∀ {σ1 σ2 : SS}, Sm bnc σ1 σ2 → Fr σ1 σ2 := fun s => Fr.sm s (fun i hi => by simp at hi; omega)
  have f7 : ∀ {σ1 σ2 : SS}, Sm bnc σ1 σ2 → ∀ i, 6 < i → i < 12 → ∀ k, sn σ2 i k = sn σ1 i k := fun s i h1 h2 k => (s.1 i (by simp; omega) k).1
  have g7 : ∀ {σ1 σ2 : SS} {P1 P2 : Nat → Prop} {k : Int}, Ext k σ1 P1 σ2 P2 → ∀ i, 6 < i → i < 12 → ∀ k, sn σ2 i k = sn σ1 i k := fun s i h1 h2 k => (s.2.2.2.1 i (by omega) (by omega) k).1
  have tl : ∀ l ∈ st.tail, Gd l := fun l hl => hgs l (List.mem_of_mem_tail hl)
  have ghd := hdL_ok hgs
  rw [dst] at hq
  unfold wX0_act
  rcases ho with ⟨z, hm, hok⟩ | ⟨z, hok⟩ | ⟨z, hk, hn, hok⟩ | ⟨z, hm, hok⟩ | ⟨z, hok⟩
  · dsimp only at z hm hq
    rw [if_pos z] at hq
    refine ⟨fun c => by omega, fun _ => ?_, fun c => by omega, fun c => by omega, fun c => by omega⟩
    refine sp_isMap (fun _ => ⟨o1, fun _ => ⟨by omega, by omega, ?_⟩⟩) (fun y => absurd hm y)
    have gm := hg.mp hm
    refine sp_push h hb hst (hb.2.1 nu.toNat (by omega)) (by have := gm.2.2.2; omega) (fun σ1 c1 b1 t1 s1 => ?_)
    exact hq σ1 P M _ 200 rfl c1 b1 hg (fun l hl => (List.mem_cons.mp hl).elim (fun e => by rw [e]; exact gm) (hgs l)) (by rw [List.length_cons]; omega) gm.2.2.2 hok (fr s1) (f7 s1)
  · dsimp only at z hq
    rw [if_neg (by omega), if_pos z] at hq
    refine ⟨fun c => by omega, fun c => by omega, fun _ => ?_, fun c => by omega, fun c => by omega⟩
    refine sp_push h hb hst TT_nil (by simp) (fun σ1 c1 b1 t1 s1 => ?_)
    exact hq σ1 P M _ 0 rfl c1 b1 hg (fun l hl => (List.mem_cons.mp hl).elim (fun e => by rw [e]; exact Gd_nil) (hgs l)) (by rw [List.length_cons]; omega) (by simp [hdL]) hok (fr s1) (f7 s1)
  · dsimp only at z hk hq
    rw [if_neg (by omega), if_neg (by omega), if_pos z] at hq
    refine ⟨fun c => by omega, fun c => by omega, fun c => by omega, fun _ => ?_, fun c => by omega⟩
    refine sp_pop h hb (by omega) (fun r σ1 c1 b1 t1 s1 => ?_)
    have htk1 : sn σ1 1 2 ≤ 8191 := by rw [(s1.1 1 (by simp) 2).1]; exact htk
    refine sp_with hB t1 ghd.1 ghd.2.2.2 c1.1 (by omega) ghd.2.2.1 ⟨by omega, by omega⟩ (fun r2 σ2 P2 g2 e2 t2 => ?_)
    have hil := ins_len (l := hdL st) nu nu
    have gi : Gd (ins (hdL st) nu nu) := Gd_ins ghd hk ⟨by omega, by omega⟩ (by omega)
    have htl : st.tail.length ≤ st.length := by rw [List.length_tail]; omega
    refine sp_push (c1.ext e2 g2) (b1.ext e2) (by omega) t2 (by omega) (fun σ3 c3 b3 t3 s3 => ?_)
    exact hq σ3 P2 M _ (top + 1) rfl c3 b3 hg (fun l hl => (List.mem_cons.mp hl).elim (fun e => by rw [e]; exact gi) (tl l)) (by rw [List.length_cons]; omega) (by show (ins (hdL st) nu nu).length ≤ _; omega) hok (((fr s1).tr (Fr.ext e2)).tr (fr s3)) (fun i h1 h2 k => by rw [f7 s3 i h1 h2, g7 e2 i h1 h2, f7 s1 i h1 h2])
  · dsimp only at z hm hq
    rw [if_neg (by omega), if_neg (by omega), if_neg (by omega), if_pos z] at hq
    refine ⟨fun c => by omega, fun c => by omega, fun c => by omega, fun c => by omega, fun _ => ?_⟩
    refine sp_pop h hb (by omega) (fun r σ1 c1 b1 t1 s1 => sp_isMap (fun _ => ⟨o1, fun _ => ⟨by omega, by omega, ?_⟩⟩) (fun y => absurd hm y))
    have sm : Sm bnc σ1 (uf σ1 13 nu.toNat r) := Sm.uf (by simp)
    refine hq _ P (updM M nu.toNat (hdL st)) st.tail 200 rfl (c1.uf13 t1 (by have := ghd.2.2.2; omega)) ⟨b1.1, fun m hm' => ?_, fun j l hl => ?_⟩ (GM_upd hg ghd) tl (by rw [List.length_tail]; omega) (hdL_ok tl).2.2.2 hok ((fr s1).tr (fr sm)) (fun i h1 h2 k => by rw [f7 sm i h1 h2, f7 s1 i h1 h2])
    · unfold updM
      by_cases y : m = nu.toNat
      · rw [if_pos y, y, sf_uf_same]; exact TT_uf (by omega) t1
      · rw [if_neg y, sf_uf_k _ _ y]; exact TT_uf (by omega) (b1.2.1 m hm')
    · rw [sf_uf_i _ _ (by omega)]; exact TT_uf (by omega) (b1.2.2 j l hl)
  · dsimp only at z
    omega
/-- a blend is done, or it is too much -/
theorem sp_bld {Q1 Q0 : SS → Prop} {de nu : Int} {ds : List KV} {top : Nat} (hde : de ≤ 3) (hB : BT Z tp 500000) (h : CI Z rb σ P a) (htk : sn σ 1 2 ≤ 8191) (hb : Bn σ P M st) (hst : st.length < 120) (hg : GM M) (hgs : ∀ l ∈ st, Gd l) (hmk : 0 ≤ aX a ∧ aX a ≤ 5) (htop : (hdL st).length ≤ top) (ho : okd ((de, nu) :: ds) top)
    (hq : ∀ σ' P' M' st' top', dst (aX a) ((de, nu) :: ds) M st = dst (aX a) ds M' st' → CI Z rb σ' P' a → Bn σ' P' M' st' → GM M' → (∀ l ∈ st', Gd l) → st'.length ≤ st.length + 1 → (hdL st').length ≤ top' → okd ds top' → Fr σ σ' → (∀ i, 6 < i → i < 12 → ∀ k, sn σ' i k = sn σ i k) → Q1 σ')
    (hf : ∀ σ' P', dst (aX a) ((de, nu) :: ds) M st = none → CI Z rb σ' P' a → Fr σ σ' → Q0 σ') :
    wX0_pop σ (fun r1 s1 => wX0_pop s1 (fun r2 s2 => wX1_blend 44 tp de r2 r1 0 s2 (fun r3 s3 => wX3_countOf r3 s3 (fun cc s4 => (cc ≤ 200 → wX0_push r3 s4 Q1) ∧ (¬ cc ≤ 200 → Q0 s4))))) := by
  have fr : ∀ {σ1 σ2 : SS}, Sm bnc σ1 σ2 → Fr σ1 σ2 := fun s => Fr.sm s (fun i hi => by simp at hi; omega)
  have f7 : ∀ {σ1 σ2 : SS}, Sm bnc σ1 σ2 → ∀ i, 6 < i → i < 12 → ∀ k, sn σ2 i k = sn σ1 i k := fun s i h1 h2 k => (s.1 i (by simp; omega) k).1
  have g7 : ∀ {σ1 σ2 : SS} {P1 P2 : Nat → Prop} {k : Int}, Ext k σ1 P1 σ2 P2 → ∀ i, 6 < i → i < 12 → ∀ k, sn σ2 i k = sn σ1 i k := fun s i h1 h2 k => (s.2.2.2.1 i (by omega) (by omega) k).1
  have tl : ∀ l ∈ st.tail, Gd l := fun l hl => hgs l (List.mem_of_mem_tail hl)
  have ghd := hdL_ok hgs
  rw [dst] at hq hf
  rcases ho with ⟨z, hm, hok⟩ | ⟨z, hok⟩ | ⟨z, hk, hn, hok⟩ | ⟨z, hm, hok⟩ | ⟨z, hok⟩
  · dsimp only at z; omega
  · dsimp only at z; omega
  · dsimp only at z; omega
  · dsimp only at z; omega
  · dsimp only at z hq hf
    rw [if_neg (by omega), if_neg (by omega), if_neg (by omega), if_neg (by omega)] at hq hf
    have gh2 := hdL_ok tl
    have ttl : ∀ l ∈ st.tail.tail, Gd l := fun l hl => tl l (List.mem_of_mem_tail hl)
    refine sp_pop h hb (by omega) (fun r σ1 c1 b1 t1 s1 => ?_)
    refine sp_pop c1 b1 (by rw [List.length_tail]; omega) (fun r2 σ2 c2 b2 t2 s2 => ?_)
    have t1' : TT σ2 P r (hdL st) := s2.TT (fun i hi => by simp at hi; omega) t1
    have htk2 : sn σ2 1 2 ≤ 8191 := by rw [(s2.1 1 (by simp) 2).1, (s1.1 1 (by simp) 2).1]; exact htk
    have l1 := ghd.2.2.2
    have l2 := gh2.2.2.2
    have hlt : st.tail.tail.length ≤ st.length := by rw [List.length_tail, List.length_tail]; omega
    refine sp_blend (mk := aX a) hB z 15 (T_15 t2 l2) t1' gh2.1 ghd.1 l2 l1 gh2.2.2.1 ghd.2.2.1 (by omega) (by omega) (by omega) c2.1 (by omega) c2.2.2.2.2.2.2.2.1 (fun r3 σ3 P3 l' g3 e3 t3 s3 k3 v3 n3 => ?_)
    have hl' : l' = tabL (jnF de (aX a) (hdL st.tail) (hdL st)) := tabL_of s3 k3 (fun k hk => by unfold jnF; rw [lkx_out gh2.2.1 hk, lkx_out ghd.2.1 hk]; rfl)
    obtain ⟨dd, t3'⟩ := id t3
    have hfr : Fr σ σ3 := ((fr s1).tr (fr s2)).tr (Fr.ext e3)
    refine sp_countOf t3' ⟨fun c => ?_, fun c => ?_⟩
    · refine sp_push (c2.ext e3 g3) (b2.ext e3) (by omega) t3 (by omega) (fun σ4 c4 b4 t4 s4 => ?_)
      rw [hl'] at c b4
      rw [if_pos (by omega)] at hq
      have gt : Gd (tabL (jnF de (aX a) (hdL st.tail) (hdL st))) := by rw [← hl']; exact ⟨s3, fun p hp => (by rw [hl'] at hp; have := tab_mem hp; omega), v3, by rw [hl']; omega⟩
      exact hq σ4 P3 M _ 200 rfl c4 b4 hg (fun l hl => (List.mem_cons.mp hl).elim (fun e => by rw [e]; exact gt) (ttl l)) (by rw [List.length_cons]; omega) gt.2.2.2 hok (hfr.tr (fr s4)) (fun i h1 h2 k => by rw [f7 s4 i h1 h2, g7 e3 i h1 h2, f7 s2 i h1 h2, f7 s1 i h1 h2])
    · rw [hl'] at c
      rw [if_neg (by omega)] at hf
      exact hf σ3 P3 rfl (c2.ext e3 g3) hfr
/-- laying the bench, bringing it back -/
theorem sp_lay30 {Q : SS → Prop} : ∀ (f : Nat) {i : Nat} {σ : SS}, i + f = 120 → CI Z rb σ P a → Bn σ P M [] → (∀ σ', CI Z rb σ' P a → Bn σ' P M [] → Sm bnc σ σ' → Q σ') → wX0_lay_L30 Q (f + 1) (i : Int) σ := by
  intro f
  induction f with
  | zero =>
    intro i σ hi h hb hq
    rw [wX0_lay_L30]
    exact ⟨⟨by omega, by omega⟩, fun _ => hq σ h hb (Sm.rf _ _), fun c => by omega⟩
  | succ f ih =>
    intro i σ hi h hb hq
    rw [wX0_lay_L30, Int.toNat_natCast, show ((i : Int) + 1) = ((i + 1 : Nat) : Int) by omega]
    refine ⟨⟨by omega, by omega⟩, fun c => by omega, fun _ => ⟨by omega, by omega, ih (by omega) (h.uf14 TT_nil (by simp)) ⟨hb.1, fun m hm => ?_, fun j l hl => by simp at hl⟩ (fun σ' c' b' s' => hq σ' c' b' ((Sm.uf (by simp)).tr s'))⟩⟩
    rw [sf_uf_i _ _ (by omega)]; exact TT_uf (by omega) (hb.2.1 m hm)
theorem sp_lay7 {Q : SS → Prop} (hg : GM (aM a)) : ∀ (f : Nat) {i : Nat} {σ : SS}, i + f = 6 → CI Z rb σ P a → sn σ 12 3 = 0 → (∀ m, m < i → sf σ 13 m = sf σ 3 m) → (∀ σ', CI Z rb σ' P a → Bn σ' P (aM a) [] → Sm bnc σ σ' → Q σ') → wX0_lay_L7 Q (f + 1) (i : Int) σ := by
  intro f
  induction f with
  | zero =>
    intro i σ hi h h0 hm hq
    rw [wX0_lay_L7]
    exact ⟨⟨by omega, by omega⟩, fun _ => ⟨121, sp_lay30 120 (i := 0) rfl h ⟨h0, fun m hm' => by rw [hm m (by omega)]; exact h.2.1 m hm', fun j l hl => by simp at hl⟩ hq⟩, fun c => by omega⟩
  | succ f ih =>
    intro i σ hi h h0 hm hq
    rw [wX0_lay_L7, Int.toNat_natCast, show ((i : Int) + 1) = ((i + 1 : Nat) : Int) by omega]
    refine ⟨⟨by omega, by omega⟩, fun c => by omega, fun _ => ⟨by omega, by omega, by omega, by omega, ih (by omega) (h.uf13 (h.2.1 i (by omega)) (by have := (hg i (by omega)).2.2.2; omega)) h0 (fun m hm' => ?_) (fun σ' c' b' s' => hq σ' c' b' ((Sm.uf (by simp)).tr s'))⟩⟩
    rw [sf_uf_i _ _ (show (3 : Nat) ≠ 13 by omega), sf_uf]
    by_cases y : m = i
    · rw [if_pos ⟨rfl, y⟩, y]
    · rw [if_neg (fun z => y z.2)]; exact hm m (by omega)
theorem sp_lay {Q : SS → Prop} (hg : GM (aM a)) (h : CI Z rb σ P a) (hq : ∀ σ', CI Z rb σ' P a → Bn σ' P (aM a) [] → Sm bnc σ σ' → Q σ') : wX0_lay σ Q :=
  ⟨7, sp_lay7 hg 6 (i := 0) rfl (h.sm (is := [12]) (Sm.un (by simp)) (fun i hi => by simp at hi; omega)) (sn_un_same _ _ _ _) (fun m hm => by omega) (fun σ' c' b' s' => hq σ' c' b' ((Sm.un (by simp)).tr s'))⟩
theorem sp_bring {Q : SS → Prop} {p : List (Nat → List KV) × (Nat → Int) × Int × List Int} : ∀ (f : Nat) {i : Nat} {σ : SS} {Mc : Nat → List KV}, i + f = 6 → CI Z rb σ P (Mc, p) → (∀ m, m < 6 → TT σ P (sf σ 13 m) (M m)) → (∀ m, m < i → Mc m = M m) → (∀ σ', CI Z rb σ' P (M, p) → Sm [3] σ σ' → Q σ') → wX0_bring_L2 Q (f + 1) (i : Int) σ := by
  intro f
  induction f with
  | zero =>
    intro i σ Mc hi h hb hm hq
    rw [wX0_bring_L2]
    exact ⟨⟨by omega, by omega⟩, fun _ => hq σ (h.congr (fun j hj => hm j (by omega))) (Sm.rf _ _), fun c => by omega⟩
  | succ f ih =>
    intro i σ Mc hi h hb hm hq
    rw [wX0_bring_L2, Int.toNat_natCast, show ((i : Int) + 1) = ((i + 1 : Nat) : Int) by omega]
    refine ⟨⟨by omega, by omega⟩, fun c => by omega, fun _ => ⟨by omega, by omega, by omega, by omega, ih (by omega) (h.map (m := i) (by omega) (hb i (by omega))) (fun m hm' => ?_) (fun m hm' => ?_) (fun σ' c' s' => hq σ' c' ((Sm.uf (by simp)).tr s'))⟩⟩
    · rw [sf_uf_i _ _ (by omega)]; exact TT_uf (by omega) (hb m hm')
    · dsimp only
      split
      · rename_i e; rw [e]
      · exact hm m (by omega)
end
def opSums (a : AS) : Int × AS := if (rdp (aT a) ps0).1 = -1 then (match dst (aX a) (flD (rdp (aT a) ps0).2) (aM a) [] with
    | some r => (((rdp (aT a) ps0).2.length : Int), (r.1, (aKeep a).2))
    | none => oFull a) else (-10 - (rdp (aT a) ps0).1, a)
