/-! ===== the reference: sieve, raise, slide, zip, mix, scatter ===== -/
/-- a map told by its lookups: the keys from -500 on -/
def tab (f : Int → Option Int) : Nat → List KV
  | 0 => []
  | t + 1 => tab f t ++ (match f (-500 + (t : Int)) with | some v => [(-500 + (t : Int), v)] | none => [])
theorem tab_mem {f : Int → Option Int} : ∀ {t : Nat} {p : KV}, p ∈ tab f t → -500 ≤ p.1 ∧ p.1 < -500 + (t : Int) ∧ f p.1 = some p.2 := by
  intro t
  induction t with
  | zero => intro p h; cases h
  | succ t ih =>
    intro p h
    rw [tab] at h
    rcases List.mem_append.mp h with h | h
    · have := ih h; exact ⟨this.1, by omega, this.2.2⟩
    · cases hf : f (-500 + (t : Int)) with
      | none => rw [hf] at h; cases h
      | some v =>
        rw [hf] at h
        have := List.mem_singleton.mp h
        subst this
        exact ⟨by dsimp only; omega, by dsimp only; omega, hf⟩
theorem tab_srt {f : Int → Option Int} : ∀ (t : Nat), Srt (tab f t) := by
  intro t
  induction t with
  | zero => exact List.Pairwise.nil
  | succ t ih =>
    rw [tab]
    refine List.pairwise_append.mpr ⟨ih, ?_, fun p hp q hq => ?_⟩
    · cases f (-500 + (t : Int)) with
      | none => exact List.Pairwise.nil
      | some v => exact List.pairwise_singleton _ _
    · have := tab_mem hp
      cases hf : f (-500 + (t : Int)) with
      | none => rw [hf] at hq; cases hq
      | some v =>
        rw [hf] at hq
        have := List.mem_singleton.mp hq
        subst this
        dsimp only; omega
theorem tab_lk {f : Int → Option Int} (t : Nat) (k : Int) : lk (tab f t) k = if -500 ≤ k ∧ k < -500 + (t : Int) then f k else none := by
  induction t with
  | zero => rw [if_neg (by omega)]; rfl
  | succ t ih =>
    rw [tab, lk_append, ih]
    by_cases c : -500 ≤ k ∧ k < -500 + (t : Int)
    · rw [if_pos c, if_pos (by omega)]
      cases hf : f k with
      | some v => rfl
      | none =>
        have : lk (match f (-500 + (t : Int)) with | some v => [(-500 + (t : Int), v)] | none => []) k = none := by
          cases f (-500 + (t : Int)) with
          | none => rfl
          | some v => simp only [lk]; rw [if_neg (by omega)]
        exact this
    · rw [if_neg c]
      by_cases c2 : k = -500 + (t : Int)
      · rw [if_pos (by omega), c2]
        cases f (-500 + (t : Int)) with
        | none => rfl
        | some v => simp [lk]
      · rw [if_neg (by omega)]
        cases f (-500 + (t : Int)) with
        | none => rfl
        | some v =>
          have : lk [(-500 + (t : Int), v)] k = none := by simp only [lk]; rw [if_neg (by omega)]
          exact this
theorem tab_le {f : Int → Option Int} {t u : Nat} (h : t ≤ u) : (tab f t).length ≤ (tab f u).length := by
  induction u with
  | zero => have : t = 0 := by omega
            rw [this]; exact Nat.le_refl _
  | succ u ih =>
    by_cases c : t = u + 1
    · rw [c]; exact Nat.le_refl _
    · have := ih (by omega)
      rw [tab, List.length_append]; omega
abbrev tabL (f : Int → Option Int) : List KV := tab f 1001
theorem tabL_of {l : List KV} {f : Int → Option Int} (hs : Srt l) (hl : ∀ k, lk l k = f k) (hf : ∀ k, ¬ isK k → f k = none) : l = tabL f := by
  refine Srt_ext hs (tab_srt _) (fun k => ?_)
  rw [tab_lk, hl]
  by_cases c : isK k
  · rw [if_pos (by omega)]
  · rw [if_neg (by omega), hf k c]
theorem lkx_out {l : List KV} (hg : ∀ p ∈ l, -500 ≤ p.1 ∧ p.1 ≤ 500) {k : Int} (hk : ¬ isK k) : lk l k = none := lk_none.mpr (fun p hp => by have := hg p hp; omega)
def opMix (a : AS) (s x y t : Int) : Int × AS := if (0 ≤ s ∧ s ≤ 3) ∧ isM x ∧ isM y ∧ isM t then (if (tabL (fun k => jn s (aX a) (lk (aM a x.toNat) k) (lk (aM a y.toNat) k))).length ≤ 200 then (((tabL (fun k => jn s (aX a) (lk (aM a x.toNat) k) (lk (aM a y.toNat) k))).length : Int), aSet a t.toNat (tabL (fun k => jn s (aX a) (lk (aM a x.toNat) k) (lk (aM a y.toNat) k)))) else oFull a) else oBad a
theorem cs_mix2 {Z tp n : Nat} {rb : Int} {σ : SS} {P : Nat → Prop} {a : AS} {Q : Int → SS → Prop} {s x y t : Int} (hB : BT Z tp 500000) (hrb : rb ≤ 2000000000) (h : CI Z rb σ P a) (hw : AW n a) (hn : n ≤ 1000000) (hq : Dn Z rb σ Q (opMix a s x y t)) : wX8_mix tp s x y t σ Q := by
  unfold opMix at hq
  have key : ∀ l, isM x → isM y → mixL s (aX a) (aM a x.toNat) (aM a y.toNat) l → l = tabL (fun k => jn s (aX a) (lk (aM a x.toNat) k) (lk (aM a y.toNat) k)) := fun l hx hy hl => tabL_of hl.1 hl.2 (fun k hk => by rw [lkx_out (hw.mp hx).2.1 hk, lkx_out (hw.mp hy).2.1 hk]; rfl)
  by_cases c : (0 ≤ s ∧ s ≤ 3) ∧ isM x ∧ isM y ∧ isM t
  · rw [if_pos c] at hq
    refine cs_mix hB hrb h hw hn (fun q => absurd c q) (fun l hx hy hl hlen => ?_) (fun l hx hy hl hlen => ?_)
    · rw [key l hx hy hl] at hlen
      rw [if_neg (by omega)] at hq; exact hq
    · have := key l hx hy hl
      rw [if_pos (by rw [← this]; exact hlen), ← this] at hq; exact hq
  · rw [if_neg c] at hq
    unfold wX8_mix
    refine sp_isIn (fun hs => ⟨o1, fun _ => sp_isMap (fun hx => ⟨o1, fun _ => sp_isMap (fun hy => ⟨o1, fun _ => sp_isMap (fun htt => absurd ⟨hs, hx, hy, htt⟩ c) (fun ht => ⟨o0, fun _ => dn_bad h hw hn hq⟩)⟩) (fun hy => ⟨fun _ => dn_bad h hw hn hq, o0⟩)⟩) (fun hx => ⟨fun _ => dn_bad h hw hn hq, o0⟩)⟩) (fun hs => ⟨fun _ => dn_bad h hw hn hq, o0⟩)
section
variable {n : Nat} {σ : SS} {a : AS} {M : Nat → List KV}
theorem sr_passes {Q : Int → SS → Prop} {kind x k v : Int} (hk : 0 ≤ kind ∧ kind ≤ 4) (h1 : ps kind x (k, v) → Q 1 σ) (h0 : ¬ ps kind x (k, v) → Q 0 σ) : wX9_passes kind x k v σ Q := by
  unfold ps at h1 h0
  dsimp only at h1 h0
  have hr : R32 (Int.tmod k 2) := by
    have e := Int.tmod_lt_of_pos k (show (0 : Int) < 2 by decide)
    have e2 := Int.lt_tmod_of_pos k (show (0 : Int) < 2 by decide)
    exact ⟨by omega, by omega⟩
  have L31 : ∀ u : Int, (u = 1 ↔ (x < v ∧ 0 < k)) → (u = 0 ∨ u = 1) → kind ≠ 0 → (kind = 1 → ¬ Int.tmod k 2 = 0) → wX9_passes_L31 kind x k v Q u σ := by
    intro u hu hu01 hk0 hk1
    have ru := z_R hu01
    refine ⟨fun c => ⟨fun c2 => ⟨fun c3 => h0 (fun z => by omega), fun c3 => ⟨ru, fun c4 => h0 (fun z => by omega), fun c4 => h1 (by right; right; right; right; exact ⟨c3, by omega⟩)⟩⟩, fun c2 => ⟨ru, fun c4 => h1 (by right; right; right; left; exact ⟨c2, by omega⟩), fun c4 => ⟨fun c3 => h0 (fun z => by omega), fun c3 => by omega⟩⟩⟩, fun c => ⟨fun c2 => h1 (by right; right; left; exact ⟨c, c2⟩), fun c2 => ⟨fun c3 => ⟨fun c4 => h0 (fun z => by omega), fun c4 => by omega⟩, fun c3 => by omega⟩⟩⟩
  have L14 : ∀ u : Int, (u = 1 ↔ (x < v ∧ 0 < k)) → (u = 0 ∨ u = 1) → wX9_passes_L14 kind x k v Q u σ := by
    intro u hu hu01
    exact ⟨fun c => h1 (Or.inl c), fun c => ⟨fun c2 => L31 u hu hu01 c (fun q => absurd q c2), fun c2 => ⟨hr, fun c3 => h1 (Or.inr (Or.inl ⟨c2, c3⟩)), fun c3 => L31 u hu hu01 c (fun _ => c3)⟩⟩⟩
  exact ⟨fun c => L14 0 (by omega) (by omega), fun c => ⟨fun c2 => L14 0 (by omega) (by omega), fun c2 => L14 1 (by omega) (by omega)⟩⟩
theorem Rg_add {σ' : SS} {l : List KV} {p : KV} (h : Rg σ 28 0 l) (h2 : ∀ k, k ≠ l.length → sn σ' 28 k = sn σ 28 k) (h3 : sn σ' 28 l.length = pk p) : Rg σ' 28 0 (l ++ [p]) := by
  intro i q hq
  rw [List.getElem?_append] at hq
  split at hq
  · rw [h2 _ (by omega)]; exact h i q hq
  · have : i = l.length := by
      have := (List.getElem?_eq_some_iff.mp hq).1
      simp at this; omega
    subst this
    simp at hq
    rw [← hq, Nat.zero_add]; exact h3
theorem rs_sieve_L {Q : Int → SS → Prop} {m kind x t : Int} (hg : GM M) (hm : isM m) (ht : isM t) (hk : 0 ≤ kind ∧ kind ≤ 4) : ∀ (rest : List KV) {i : Nat} {σ : SS}, MI σ M → (M m.toNat).drop i = rest → i ≤ (M m.toNat).length → Rg σ 28 0 (svL kind x ((M m.toNat).take i)) → (∀ σ', MI σ' (updM M t.toNat (svL kind x (M m.toNat))) → Sm [22, 23, 28] σ σ' → Q ((svL kind x (M m.toNat)).length : Int) σ') → wX9_sieve_L58 m kind x t Q (rest.length + 1) ((svL kind x ((M m.toNat).take i)).length : Int) (i : Int) σ := by
  have g := hg.mp hm
  have hl := g.2.2.2
  have hsv : ∀ z : List KV, (svL kind x z).length ≤ z.length := fun z => List.length_filter_le _ _
  intro rest
  induction rest with
  | nil =>
    intro i σ h hdr hi hr hq
    have e := drop_nil hdr hi
    have hs1 := hsv (M m.toNat)
    rw [List.length_nil, wX9_sieve_L58, h.siz hm]
    rw [e, List.take_length] at hr ⊢
    exact ⟨by omega, by omega, ⟨by omega, by omega⟩, fun _ => ⟨⟨by omega, by omega⟩, sr_becomes h hg ht (by omega) hr (fun σ' h' s' => hq σ' h' (s'.up (by simp)))⟩, fun c => by omega⟩
  | cons p rest ih =>
    intro i σ h hdr hi hr hq
    obtain ⟨hp, hd2, hi3, hi4⟩ := drop_cons hdr
    have hs1 := hsv ((M m.toNat).take i)
    rw [List.length_take] at hs1
    have e : ((i : Int) + 1) = ((i + 1 : Nat) : Int) := by omega
    rw [List.length_cons, wX9_sieve_L58, h.siz hm, e]
    refine ⟨by omega, by omega, ⟨by omega, by omega⟩, fun c => by omega, fun _ => sr_keyAt h hg hm hp (sr_valueAt h hg hm hp (sr_passes hk (fun hps => ⟨o1, fun _ => ⟨by omega, by omega, by omega, by omega, ?_⟩⟩) (fun hps => ⟨fun _ => ?_, o0⟩)))⟩
    · have e2 : svL kind x ((M m.toNat).take (i + 1)) = svL kind x ((M m.toNat).take i) ++ [p] := by rw [take_succ hp, sv_cons, if_pos (by simpa using hps)]
      have := ih (σ := un σ 28 (svL kind x ((M m.toNat).take i)).length (pk p)) (h.sm (is := [28]) (Sm.un (by simp)) (by simp) (by simp)) hd2 (by omega) (by
        rw [e2]; exact Rg_add hr (fun k hk => sn_un_k _ _ hk) (sn_un_same _ _ _ _)) (fun σ' h' s' => hq σ' h' ((Sm.un (by simp)).tr s'))
      rw [h.row hm hp, Int.toNat_natCast]
      rw [e2, List.length_append, List.length_singleton] at this
      exact this
    · have e2 : svL kind x ((M m.toNat).take (i + 1)) = svL kind x ((M m.toNat).take i) := by rw [take_succ hp, sv_cons, if_neg (by simpa using hps)]
      have := ih h hd2 (by omega) (by rw [e2]; exact hr) hq
      rw [e2] at this; exact this
theorem rs_sieve {Q : Int → SS → Prop} {m kind x t : Int} (h : RI σ a) (hw : AW n a) (hn : n ≤ 1000000) (hq : Dr σ Q (opSieve a m kind x t)) : wX9_sieve m kind x t σ Q := by
  unfold opSieve at hq
  refine sr_isMap (fun hm => ⟨o1, fun _ => sr_in (fun hk => ⟨o1, fun _ => sr_in (fun hx => ⟨o1, fun _ => sr_isMap (fun ht => ⟨fun _ => ?_, o1⟩) (fun ht => ⟨o0, fun _ => ?_⟩)⟩) (fun hx => ⟨fun _ => ?_, o0⟩)⟩) (fun hk => ⟨fun _ => ?_, o0⟩)⟩) (fun hm => ⟨fun _ => ?_, o0⟩)
  · rw [if_pos ⟨hm, hk, hx, ht⟩] at hq
    refine sr_keeps h hw (fun σ1 h1 s1 => ⟨_, rs_sieve_L (M := aM a) hw.gm hm ht hk (aM a m.toNat) (i := 0) h1.1 rfl (Nat.zero_le _) (fun i p hp => by simp [svL] at hp) (fun σ2 h2 s2 => fin_set hq h1 s1 h2 s2)⟩)
  · rw [if_neg (fun q => ht q.2.2.2)] at hq; exact dr_bad h hw hn hq
  · rw [if_neg (fun q => hx q.2.2.1)] at hq; exact dr_bad h hw hn hq
  · rw [if_neg (fun q => hk q.2.1)] at hq; exact dr_bad h hw hn hq
  · rw [if_neg (fun q => hm q.1)] at hq; exact dr_bad h hw hn hq
/-- reads of a row that is being changed -/
theorem sr_keyAtR {Q : Int → SS → Prop} {m : Int} {i : Nat} {p : KV} (hm : isM m) (hi : i < 200) (hr : sn σ 22 (200 * m.toNat + i) = pk p) (hk : isK p.1) (hv : isV p.2) (hq : Q p.1 σ) : wX9_keyAt m (i : Int) σ Q := by
  unfold wX9_keyAt
  rw [show (200 * m + (i : Int)).toNat = 200 * m.toNat + i by omega, hr]
  exact ⟨by omega, by omega, sr_keyOf hk hv hq⟩
theorem sr_valueAtR {Q : Int → SS → Prop} {m : Int} {i : Nat} {p : KV} (hm : isM m) (hi : i < 200) (hr : sn σ 22 (200 * m.toNat + i) = pk p) (hk : isK p.1) (hv : isV p.2) (hq : Q p.2 σ) : wX9_valueAt m (i : Int) σ Q := by
  unfold wX9_valueAt
  rw [show (200 * m + (i : Int)).toNat = 200 * m.toNat + i by omega, hr]
  exact ⟨by omega, by omega, sr_valueOf hk hv hq⟩
def ch (l : List KV) (g : KV → KV) (j : Nat) : Int := match l[j]? with | some p => pk (g p) | none => 0
theorem rs_raise_L {Q : Int → SS → Prop} {m x y d : Int} {l : List KV} {i0 N : Nat} (hg : Gd l) (hm : isM m) (hd0 : -1000 ≤ d ∧ d ≤ 1000) (hN : N ≤ l.length) (hi0 : i0 ≤ N) : ∀ (f : Nat) {i : Nat} {σ : SS}, i + f = N → (∀ (j : Nat) (p : KV), i ≤ j → l[j]? = some p → sn σ 22 (200 * m.toNat + j) = pk p) → Q ((N : Int) - i0) (wr 22 (200 * m.toNat) (ch l (fun p => (p.1, hd (p.2 + d)))) f i σ) → wX9_raise_L63 m x y d Q (f + 1) (i0 : Int) (N : Int) (i : Int) σ := by
  have hl := hg.2.2.2
  intro f
  induction f with
  | zero =>
    intro i σ hf hr hQ
    rw [wX9_raise_L63]
    exact ⟨⟨by omega, by omega⟩, ⟨by omega, by omega⟩, fun _ => ⟨⟨by omega, by omega⟩, hQ⟩, fun c => by omega⟩
  | succ f ih =>
    intro i σ hf hr hQ
    have hp := List.getElem?_eq_getElem (show i < l.length by omega)
    generalize l[i]'(by omega) = p at hp
    have kp := hg.2.1 p (List.mem_of_getElem? hp)
    have vp := hg.2.2.1 p (List.mem_of_getElem? hp)
    have e2 : (200 * m + (i : Int)).toNat = 200 * m.toNat + i := by omega
    have e3 : ((i : Int) + 1) = ((i + 1 : Nat) : Int) := by omega
    rw [wr, show ch l (fun p => (p.1, hd (p.2 + d))) i = pk (p.1, hd (p.2 + d)) by unfold ch; rw [hp]] at hQ
    rw [wX9_raise_L63, e2, e3]
    have hri := hr i p (Nat.le_refl _) hp
    exact ⟨⟨by omega, by omega⟩, ⟨by omega, by omega⟩, fun c => by omega, fun _ => sr_keyAtR hm (by omega) hri kp vp (sr_valueAtR hm (by omega) hri kp vp ⟨⟨by omega, by omega⟩, sr_held (sr_entry kp (hd_in _) ⟨by omega, by omega, ih (by omega) (fun j q hj hq => by rw [sn_un_k _ _ (by omega)]; exact hr j q (by omega) hq) hQ⟩)⟩)⟩
theorem rs_raise {Q : Int → SS → Prop} {m x y d : Int} (h : RI σ a) (hw : AW n a) (hn : n ≤ 1000000) (hq : Dr σ Q (opRaise a m x y d)) : wX9_raise m x y d σ Q := by
  unfold opRaise at hq
  refine sr_isMap (fun hm => ⟨o1, fun _ => sr_isRange (fun hk => ⟨o1, fun _ => sr_in (fun hv => ⟨fun _ => ?_, o1⟩) (fun hv => ⟨o0, fun _ => ?_⟩)⟩) (fun hk => ⟨fun _ => ?_, o0⟩)⟩) (fun hm => ⟨fun _ => ?_, o0⟩)
  · rw [if_pos ⟨hm, hk, hv⟩] at hq
    have g := hw.mp hm
    have hl := g.2.2.2
    have hmo := lo_mono (l := aM a m.toNat) (show x ≤ y + 1 by have := hk.2.2; omega)
    have l2 := lo_len (aM a m.toNat) (y + 1)
    have hy := hk.2.1
    refine sr_keeps h hw (fun σ1 h1 s1 => sr_below (M := aM a) h1.1 hw.gm hm ⟨⟨by omega, by omega⟩, sr_below (M := aM a) h1.1 hw.gm hm ⟨(lo (aM a m.toNat) (y + 1)).length - (lo (aM a m.toNat) x).length + 1, ?_⟩⟩)
    refine rs_raise_L g hm hv l2 hmo _ (by omega) (fun j p _ hp => (h1.1 m.toNat (by omega)).1 j p hp) ?_
    have hlen : (rsL x y d (aM a m.toNat)).length = (aM a m.toNat).length := by unfold rsL; rw [List.length_map]
    refine fin_set hq h1 s1 (MI.set (M := aM a) (l := rsL x y d (aM a m.toNat)) h1.1 hw.gm (fun q hq' => ?_) (fun q hq' => ?_) (fun j p hp => ?_) ?_) (wr_sm (by simp) _ _ _)
    · rw [wr_sn, if_neg (by omega)]
    · rw [wr_sn, if_neg (by omega)]
    · have hj := (List.getElem?_eq_some_iff.mp hp).1
      unfold rsL at hp
      rw [List.getElem?_map] at hp
      have hp0 := List.getElem?_eq_getElem (show j < (aM a m.toNat).length by omega)
      generalize (aM a m.toNat)[j]'(by omega) = p0 at hp0
      rw [hp0] at hp
      have hp' : (if x ≤ p0.1 ∧ p0.1 ≤ y then (p0.1, hd (p0.2 + d)) else p0) = p := Option.some.inj hp
      -- where a key is, by its place
      have hx1 : x ≤ p0.1 ↔ (lo (aM a m.toNat) x).length ≤ j := by
        constructor
        · intro c
          refine Decidable.byContradiction (fun c2 => ?_)
          have : p0 ∈ lo (aM a m.toNat) x := by
            rw [← (lo_split g.1 x).1]
            exact List.mem_of_getElem? (i := j) (by rw [List.getElem?_take, if_pos (by omega)]; exact hp0)
          have := (List.mem_filter.mp this).2
          simp at this; omega
        · intro c
          refine (lo_split g.1 x).2 p0 (List.mem_of_getElem? (i := j - (lo (aM a m.toNat) x).length) ?_)
          rw [List.getElem?_drop, ← hp0]; congr 1; omega
      have hy1 : p0.1 ≤ y ↔ j < (lo (aM a m.toNat) (y + 1)).length := by
        constructor
        · intro c
          refine Decidable.byContradiction (fun c2 => ?_)
          have := (lo_split g.1 (y + 1)).2 p0 (List.mem_of_getElem? (i := j - (lo (aM a m.toNat) (y + 1)).length) (by
            rw [List.getElem?_drop, ← hp0]; congr 1; omega))
          omega
        · intro c
          have : p0 ∈ lo (aM a m.toNat) (y + 1) := by
            rw [← (lo_split g.1 (y + 1)).1]
            exact List.mem_of_getElem? (i := j) (by rw [List.getElem?_take, if_pos c]; exact hp0)
          have := (List.mem_filter.mp this).2
          simp at this; omega
      rw [wr_sn]
      by_cases c : x ≤ p0.1 ∧ p0.1 ≤ y
      · rw [if_pos c] at hp'
        rw [if_pos ⟨rfl, by have := hx1.mp c.1; omega, by have := hy1.mp c.2; omega⟩, show 200 * m.toNat + j - 200 * m.toNat = j by omega]
        unfold ch
        rw [hp0, ← hp']
      · rw [if_neg c] at hp'
        rw [if_neg (fun z => c ⟨hx1.mpr (by omega), hy1.mpr (by omega)⟩), ← hp']
        exact (h1.1 m.toNat (by omega)).1 j p0 hp0
    · rw [wr_sn, if_neg (by omega), hlen]; exact (h1.1 m.toNat (by omega)).2
  · rw [if_neg (fun q => hv q.2.2)] at hq; exact dr_bad h hw hn hq
  · rw [if_neg (fun q => hk q.2.1)] at hq; exact dr_bad h hw hn hq
  · rw [if_neg (fun q => hm q.1)] at hq; exact dr_bad h hw hn hq
theorem rs_slide_L {Q : Int → SS → Prop} {m d : Int} {l : List KV} (hg : Gd l) (hm : isM m) (hd0 : -1000 ≤ d ∧ d ≤ 1000) (hkk : ∀ p ∈ l, isK (p.1 + d)) : ∀ (f : Nat) {i : Nat} {σ : SS}, i + f = l.length → (∀ (j : Nat) (p : KV), i ≤ j → l[j]? = some p → sn σ 22 (200 * m.toNat + j) = pk p) → Q (l.length : Int) (wr 22 (200 * m.toNat) (ch l (fun p => (p.1 + d, p.2))) f i σ) → wX9_slide_L83 m d Q (f + 1) (l.length : Int) (i : Int) σ := by
  have hl := hg.2.2.2
  intro f
  induction f with
  | zero =>
    intro i σ hf hr hQ
    rw [wX9_slide_L83]
    exact ⟨⟨by omega, by omega⟩, ⟨by omega, by omega⟩, fun _ => hQ, fun c => by omega⟩
  | succ f ih =>
    intro i σ hf hr hQ
    have hp := List.getElem?_eq_getElem (show i < l.length by omega)
    generalize l[i]'(by omega) = p at hp
    have kp := hg.2.1 p (List.mem_of_getElem? hp)
    have vp := hg.2.2.1 p (List.mem_of_getElem? hp)
    have e2 : (200 * m + (i : Int)).toNat = 200 * m.toNat + i := by omega
    have e3 : ((i : Int) + 1) = ((i + 1 : Nat) : Int) := by omega
    rw [wr, show ch l (fun p => (p.1 + d, p.2)) i = pk (p.1 + d, p.2) by unfold ch; rw [hp]] at hQ
    rw [wX9_slide_L83, e2, e3]
    have hri := hr i p (Nat.le_refl _) hp
    exact ⟨⟨by omega, by omega⟩, ⟨by omega, by omega⟩, fun c => by omega, fun _ => sr_keyAtR hm (by omega) hri kp vp (sr_valueAtR hm (by omega) hri kp vp ⟨⟨by omega, by omega⟩, sr_entry (hkk p (List.mem_of_getElem? hp)) vp ⟨by omega, by omega, ih (by omega) (fun j q hj hq => by rw [sn_un_k _ _ (by omega)]; exact hr j q (by omega) hq) hQ⟩⟩)⟩
theorem slide_k {l : List KV} (hg : Gd l) {d : Int} (h : ¬ (0 < l.length ∧ ¬ (isK (nk l 0 + d) ∧ isK (nk l (l.length - 1) + d)))) : ∀ p ∈ l, isK (p.1 + d) := by
  intro p hp
  have hl : 0 < l.length := List.length_pos_of_mem hp
  obtain ⟨p0, hp0, e0, m0⟩ := nk_first hl
  obtain ⟨p1, hp1, e1, m1⟩ := nk_last hl
  have h2 : isK (nk l 0 + d) ∧ isK (nk l (l.length - 1) + d) := Decidable.byContradiction fun q => h ⟨hl, q⟩
  have a1 := m0 hg.1 p hp
  have a2 := m1 hg.1 p hp
  omega
theorem rs_slide {Q : Int → SS → Prop} {m d : Int} (h : RI σ a) (hw : AW n a) (hn : n ≤ 1000000) (hq : Dr σ Q (opSlide a m d)) : wX9_slide m d σ Q := by
  unfold opSlide at hq
  refine sr_isMap (fun hm => ⟨o1, fun _ => sr_in (fun hv => ⟨fun _ => ⟨by omega, by omega, ?_⟩, o1⟩) (fun hv => ⟨o0, fun _ => ?_⟩)⟩) (fun hm => ⟨fun _ => ?_, o0⟩)
  · rw [if_pos ⟨hm, hv⟩] at hq
    have g := hw.mp hm
    have hl := g.2.2.2
    rw [h.1.siz hm]
    have go : ¬ (0 < (aM a m.toNat).length ∧ ¬ (isK (nk (aM a m.toNat) 0 + d) ∧ isK (nk (aM a m.toNat) ((aM a m.toNat).length - 1) + d))) → wX9_keeps σ (fun s16 => ∃ kk, wX9_slide_L83 m d Q kk ((aM a m.toNat).length : Int) 0 s16) := by
      intro hc
      rw [if_neg hc] at hq
      refine sr_keeps h hw (fun σ1 h1 s1 => ⟨(aM a m.toNat).length + 1, rs_slide_L g hm hv (slide_k g hc) _ (i := 0) (by omega) (fun j p _ hp => (h1.1 m.toNat (by omega)).1 j p hp) ?_⟩)
      have hlen : (slL d (aM a m.toNat)).length = (aM a m.toNat).length := by unfold slL; rw [List.length_map]
      refine fin_set hq h1 s1 (MI.set (M := aM a) (l := slL d (aM a m.toNat)) h1.1 hw.gm (fun q hq' => ?_) (fun q hq' => ?_) (fun j p hp => ?_) ?_) (wr_sm (by simp) _ _ _)
      · rw [wr_sn, if_neg (by omega)]
      · rw [wr_sn, if_neg (by omega)]
      · have hj := (List.getElem?_eq_some_iff.mp hp).1
        unfold slL at hp
        rw [List.getElem?_map] at hp
        have hp0 := List.getElem?_eq_getElem (show j < (aM a m.toNat).length by omega)
        generalize (aM a m.toNat)[j]'(by omega) = p0 at hp0
        rw [hp0] at hp
        have hp' : (p0.1 + d, p0.2) = p := Option.some.inj hp
        rw [wr_sn, if_pos ⟨rfl, by omega, by omega⟩, show 200 * m.toNat + j - 200 * m.toNat = j by omega]
        unfold ch
        rw [hp0, ← hp']
      · rw [wr_sn, if_neg (by omega), hlen]; exact (h1.1 m.toNat (by omega)).2
    refine ⟨fun c => go (fun q => by omega), fun c => ?_⟩
    obtain ⟨p0, hp0, e0, -⟩ := nk_first (l := aM a m.toNat) (by omega)
    obtain ⟨p1, hp1, e1, -⟩ := nk_last (l := aM a m.toNat) (by omega)
    have k0 := g.2.1 p0 hp0
    have k1 := g.2.1 p1 hp1
    refine sr_nk h.1 hw.gm hm (by omega) (by omega) ⟨⟨by omega, by omega⟩, sr_isKey (fun ka => ⟨o1, fun _ => ⟨⟨by omega, by omega⟩, ?_⟩⟩) (fun ka => ⟨fun _ => ?_, o0⟩)⟩
    · refine sr_nk h.1 hw.gm hm (by omega) (by omega) ⟨⟨by omega, by omega⟩, sr_isKey (fun kb => ⟨fun _ => go (fun q => q.2 ⟨ka, kb⟩), o1⟩) (fun kb => ⟨o0, fun _ => ?_⟩)⟩
      rw [if_pos ⟨by omega, fun q => kb q.2⟩] at hq; exact dr_no h hw hn hq
    · rw [if_pos ⟨by omega, fun q => ka q.1⟩] at hq; exact dr_no h hw hn hq
  · rw [if_neg (fun q => hv q.2)] at hq; exact dr_bad h hw hn hq
  · rw [if_neg (fun q => hm q.1)] at hq; exact dr_bad h hw hn hq
theorem rs_zip_L {Q : Int → SS → Prop} {x y t : Int} (hg : GM M) (hx : isM x) (hy : isM y) (ht : isM t) : ∀ (f : Nat) {i : Nat} {σ : SS}, i + f = (zpL (M x.toNat) (M y.toNat)).length → MI σ M → Rg σ 28 0 ((zpL (M x.toNat) (M y.toNat)).take i) → (∀ σ', MI σ' (updM M t.toNat (zpL (M x.toNat) (M y.toNat))) → Sm [22, 23, 28] σ σ' → Q ((zpL (M x.toNat) (M y.toNat)).length : Int) σ') → wX9_zip_L67 x y t Q (f + 1) ((zpL (M x.toNat) (M y.toNat)).length : Int) (i : Int) σ := by
  have lx := (hg.mp hx).2.2.2
  have ly := (hg.mp hy).2.2.2
  have lz := zp_len (M x.toNat) (M y.toNat)
  intro f
  induction f with
  | zero =>
    intro i σ hi h hr hq
    rw [wX9_zip_L67]
    rw [show i = (zpL (M x.toNat) (M y.toNat)).length by omega, List.take_length] at hr
    exact ⟨⟨by omega, by omega⟩, ⟨by omega, by omega⟩, fun _ => sr_becomes h hg ht (by omega) hr (fun σ' h' s' => hq σ' h' (s'.up (by simp))), fun c => by omega⟩
  | succ f ih =>
    intro i σ hi h hr hq
    have p1 := List.getElem?_eq_getElem (show i < (M x.toNat).length by omega)
    have p2 := List.getElem?_eq_getElem (show i < (M y.toNat).length by omega)
    generalize (M x.toNat)[i]'(by omega) = p at p1
    generalize (M y.toNat)[i]'(by omega) = q at p2
    have kp := (hg.mp hx).2.1 p (List.mem_of_getElem? p1)
    have kq := (hg.mp hy).2.1 q (List.mem_of_getElem? p2)
    have e : ((i : Int) + 1) = ((i + 1 : Nat) : Int) := by omega
    rw [wX9_zip_L67, e, Int.toNat_natCast]
    refine ⟨⟨by omega, by omega⟩, ⟨by omega, by omega⟩, fun c => by omega, fun _ => sr_keyAt h hg hx p1 (sr_keyAt h hg hy p2 (sr_entry kp ⟨by omega, by omega⟩ ⟨by omega, by omega, ih (by omega) (h.sm (is := [28]) (Sm.un (by simp)) (by simp) (by simp)) ?_ (fun σ' h' s' => hq σ' h' ((Sm.un (by simp)).tr s'))⟩))⟩
    rw [take_succ (zp_at _ _ i _ _ p1 p2)]
    have hlen : ((zpL (M x.toNat) (M y.toNat)).take i).length = i := by rw [List.length_take]; omega
    exact Rg_add hr (fun k hk => sn_un_k _ _ (by omega)) (by rw [hlen, sn_un_same])
theorem rs_zip {Q : Int → SS → Prop} {x y t : Int} (h : RI σ a) (hw : AW n a) (hn : n ≤ 1000000) (hq : Dr σ Q (opZip a x y t)) : wX9_zip x y t σ Q := by
  unfold opZip at hq
  refine sr_isMap (fun hx => ⟨o1, fun _ => sr_isMap (fun hy => ⟨o1, fun _ => sr_isMap (fun ht => ⟨fun _ => ?_, o1⟩) (fun ht => ⟨o0, fun _ => ?_⟩)⟩) (fun hy => ⟨fun _ => ?_, o0⟩)⟩) (fun hx => ⟨fun _ => ?_, o0⟩)
  · rw [if_pos ⟨hx, hy, ht⟩] at hq
    have lz := zp_len (aM a x.toNat) (aM a y.toNat)
    refine sr_keeps h hw (fun σ1 h1 s1 => ⟨by omega, by omega, by omega, by omega, ?_⟩)
    rw [MI.siz (M := aM a) h1.1 hx, MI.siz (M := aM a) h1.1 hy]
    have go : ∀ w : Int, w = ((zpL (aM a x.toNat) (aM a y.toNat)).length : Int) → ∃ kk, wX9_zip_L67 x y t Q kk w 0 σ1 := by
      rintro w rfl
      exact ⟨_, rs_zip_L (M := aM a) hw.gm hx hy ht _ (i := 0) (Nat.zero_add _) h1.1 (fun i p hp => by simp at hp) (fun σ2 h2 s2 => fin_set hq h1 s1 h2 s2)⟩
    exact ⟨fun c => ⟨by omega, by omega, go _ (by omega)⟩, fun c => ⟨by omega, by omega, go _ (by omega)⟩⟩
  · rw [if_neg (fun q => ht q.2.2)] at hq; exact dr_bad h hw hn hq
  · rw [if_neg (fun q => hy q.2.1)] at hq; exact dr_bad h hw hn hq
  · rw [if_neg (fun q => hx q.1)] at hq; exact dr_bad h hw hn hq
end
