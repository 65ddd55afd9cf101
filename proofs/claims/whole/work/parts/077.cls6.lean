def stg (p : KV) : Int := (1000000 - p.2) * 1001 + p.1 + 500
def rk (l : List KV) (f : Int) : Nat := (l.filter (fun q => decide (stg q < f))).length
def topK (l : List KV) (j : Int) : Int := match l.find? (fun p => decide ((rk l (stg p) : Int) = j)) with
  | some p => p.1
  | none => -2000000001
def opTop (a : AS) (m j : Int) : Int × AS := if isM m ∧ 0 ≤ j then (topK (aM a m.toNat) j, a) else oBad a
section
variable {Z tp n : Nat} {rb : Int} {σ : SS} {P : Nat → Prop} {a : AS}
theorem sp_raise_L {Q : Int → SS → Prop} {m x y d : Int} {l : List KV} (hm : isM m) (hxy : isRg x y) (hd0 : -1000 ≤ d ∧ d ≤ 1000) (hg : Gd l) (hB : BT Z tp 500000) (hrb : rb ≤ 2000000000) (hw : AW n a) : ∀ (rest : List KV) {i : Nat} {σ : SS}, l.drop i = rest → i ≤ l.length → CI Z rb σ P a → RowIs σ 15 l → RowIs σ 18 (rsL x y d (l.take i)) → (∀ σ' P', CI Z (rb + 1) σ' P' (aSet a m.toNat (rsL x y d l)) → Fr σ σ' → Q (((lo l (y + 1)).length : Int) - (lo l x).length) σ') → wX8_raise_L57 tp m x y d Q (rest.length + 1) (i : Int) σ := by
  intro rest
  induction rest with
  | nil =>
    intro i σ hdr hi h hr hr2 hq
    have := drop_nil hdr hi
    have hl := hr.2.1
    rw [List.length_nil, wX8_raise_L57, hr.1]
    refine ⟨⟨by omega, by omega⟩, fun _ => ?_, fun c => by omega⟩
    rw [this, List.take_length] at hr2
    have hVr : Vok (rsL x y d l) := by
      intro p hp
      obtain ⟨q, hq', rfl⟩ := List.mem_map.mp hp
      split
      · exact hd_in _
      · exact hg.2.2.1 q hq'
    have hkeys : ∀ k, lo (rsL x y d l) k = rsL x y d (lo l k) := by
      intro k
      unfold lo rsL
      rw [List.filter_map]
      congr 1
      apply List.filter_congr
      intro p _
      simp only [Function.comp]
      split <;> rfl
    have hsr : Srt (rsL x y d l) := by
      unfold Srt rsL
      rw [List.pairwise_map]
      refine hg.1.imp (fun {p q} hpq => ?_)
      have e : ∀ r : KV, (if x ≤ r.1 ∧ r.1 ≤ y then (r.1, hd (r.2 + d)) else r).1 = r.1 := fun r => by split <;> rfl
      rw [e, e]; exact hpq
    have go : wX8_settleRow tp ((m.toNat : Nat) : Int) 18 σ (fun r35 s34 => 0 ≤ m ∧ m < 6 ∧ wX3_countWithin (sf s34 3 m.toNat) x y s34 (fun r41 s40 => Q r41 s40)) := by
      refine sp_settleRow (by omega) (Or.inr rfl) hB hrb h hw hr2 hVr (fun σ' P' c f => ⟨by omega, by omega, ?_⟩)
      have ht : TT σ' P' (sf σ' 3 m.toNat) (rsL x y d l) := by
        have := c.2.1 m.toNat (by omega)
        simpa [aM, aSet] using this
      obtain ⟨dd, ht⟩ := ht
      have hlen : (rsL x y d l).length = l.length := by unfold rsL; rw [List.length_map]
      refine sp_countWithin ht hsr (by omega) (by have := hxy.2.1; omega) (by have := hxy.2.1; omega) ?_
      rw [hkeys, hkeys]
      have e1 : ∀ z : List KV, (rsL x y d z).length = z.length := fun z => by unfold rsL; rw [List.length_map]
      rw [e1, e1]
      exact hq σ' P' c f
    rw [show (m : Int) = ((m.toNat : Nat) : Int) by omega] at go ⊢
    exact go
  | cons p rest ih =>
    intro i σ hdr hi h hr hr2 hq
    obtain ⟨hp, hd2, hi2, hi3⟩ := drop_cons hdr
    have hl := hr.2.1
    have e : ((i : Int) + 1) = ((i + 1 : Nat) : Int) := by omega
    have hv := hg.2.2.1 p (List.mem_of_getElem? hp)
    have hrl : (rsL x y d (l.take i)).length < 200 := by unfold rsL; rw [List.length_map, List.length_take]; omega
    have happ : ∀ q, (if x ≤ p.1 ∧ p.1 ≤ y then (p.1, hd (p.2 + d)) else p) = q → rsL x y d (l.take (i + 1)) = rsL x y d (l.take i) ++ [q] := fun q hq' => by
      rw [take_succ hp]; unfold rsL; rw [List.map_append]; simp [hq']
    rw [List.length_cons, wX8_raise_L57, hr.1, e]
    refine ⟨⟨by omega, by omega⟩, fun c => by omega, fun _ => sp_rkeyAt hr (sp_rvalueAt hr ?_)⟩
    rw [nk_at hp, nv_at hp]
    refine sp_isIn (fun c => ⟨o1, fun _ => ⟨⟨by omega, by omega⟩, sp_held ?_⟩⟩) (fun c => ⟨fun _ => ?_, o0⟩)
    · refine sp_add hr2 hrl (fun σ1 s1 r1 => ?_)
      refine ih hd2 (by omega) (h.sm s1 c18) (hr.sm s1 (by simp) (by simp) (by simp)) ?_ (fun σ' P' c f => hq σ' P' c ((Fr.sm s1 f18).tr f))
      rw [happ _ (if_pos c)]; exact r1
    · refine sp_add hr2 hrl (fun σ1 s1 r1 => ?_)
      refine ih hd2 (by omega) (h.sm s1 c18) (hr.sm s1 (by simp) (by simp) (by simp)) ?_ (fun σ' P' c f => hq σ' P' c ((Fr.sm s1 f18).tr f))
      rw [happ _ (if_neg c)]; exact r1
theorem cs_raise {Q : Int → SS → Prop} {m x y d : Int} (hB : BT Z tp 500000) (hrb : rb ≤ 2000000000) (h : CI Z rb σ P a) (hw : AW n a) (hn : n ≤ 1000000) (hq : Dn Z rb σ Q (opRaise a m x y d)) : wX8_raise tp m x y d σ Q := by
  unfold opRaise at hq
  refine sp_isMap (fun hm => ⟨o1, fun _ => sp_isRange (fun hk => ⟨o1, fun _ => sp_isIn (fun hv => ⟨fun _ => ⟨by omega, by omega, ?_⟩, o1⟩) (fun hv => ⟨o0, fun _ => ?_⟩)⟩) (fun hk => ⟨fun _ => ?_, o0⟩)⟩) (fun hm => ⟨fun _ => ?_, o0⟩)
  · rw [if_pos ⟨hm, hk, hv⟩] at hq
    have hg := hw.mp hm
    refine sp_take (Or.inl rfl) (h.mp hm) hg.2.2.2 (fun σ1 s1 r1 => ?_)
    exact sp_empty (fun σ2 s2 r2 => ⟨_, sp_raise_L hm hk hv hg hB hrb hw (aM a m.toNat) (i := 0) rfl (by omega) ((h.sm s1 c15).sm s2 c18) (r1.sm s2 (by simp) (by simp) (by simp)) r2 (fun σ' P' c f => hq σ' P' (c.rbu (by omega)) (((Fr.sm s1 f15).tr (Fr.sm s2 f18)).tr f))⟩)
  · rw [if_neg (fun q => hv q.2.2)] at hq; exact dn_bad h hw hn hq
  · rw [if_neg (fun q => hk q.2.1)] at hq; exact dn_bad h hw hn hq
  · rw [if_neg (fun q => hm q.1)] at hq; exact dn_bad h hw hn hq
theorem sp_slide_L {Q : Int → SS → Prop} {m d : Int} {l : List KV} (hm : isM m) (hd0 : -1000 ≤ d ∧ d ≤ 1000) (hg : Gd l) (hB : BT Z tp 500000) (hrb : rb ≤ 2000000000) (hw : AW n a) : ∀ (rest : List KV) {i : Nat} {σ : SS}, l.drop i = rest → i ≤ l.length → CI Z rb σ P a → RowIs σ 15 l → RowIs σ 18 (slL d (l.take i)) → (∀ σ' P', CI Z (rb + 1) σ' P' (aSet a m.toNat (slL d l)) → Fr σ σ' → Q (l.length : Int) σ') → wX8_slide_L105 tp m d Q (rest.length + 1) (i : Int) σ := by
  intro rest
  induction rest with
  | nil =>
    intro i σ hd hi h hr hr2 hq
    have := drop_nil hd hi
    have hl := hr.2.1
    rw [List.length_nil, wX8_slide_L105, hr.1]
    refine ⟨⟨by omega, by omega⟩, fun _ => ?_, fun c => by omega⟩
    rw [this, List.take_length] at hr2
    have hVr : Vok (slL d l) := by
      intro p hp
      obtain ⟨q, hq', rfl⟩ := List.mem_map.mp hp
      exact hg.2.2.1 q hq'
    rw [show m = ((m.toNat : Nat) : Int) by omega]
    refine sp_settleRow (by omega) (Or.inr rfl) hB hrb h hw hr2 hVr (fun σ' P' c f => ?_)
    have e1 : (slL d l).length = l.length := by unfold slL; rw [List.length_map]
    rw [e1]
    exact hq σ' P' (by simpa using c) f
  | cons p rest ih =>
    intro i σ hd hi h hr hr2 hq
    obtain ⟨hp, hd2, hi2, hi3⟩ := drop_cons hd
    have hl := hr.2.1
    have e : ((i : Int) + 1) = ((i + 1 : Nat) : Int) := by omega
    have hk := hg.2.1 p (List.mem_of_getElem? hp)
    have hrl : (slL d (l.take i)).length < 200 := by unfold slL; rw [List.length_map, List.length_take]; omega
    rw [List.length_cons, wX8_slide_L105, hr.1, e]
    refine ⟨⟨by omega, by omega⟩, fun c => by omega, fun _ => sp_rkeyAt hr (sp_rvalueAt hr ?_)⟩
    rw [nk_at hp, nv_at hp]
    refine ⟨⟨by omega, by omega⟩, sp_add hr2 hrl (fun σ1 s1 r1 => ?_)⟩
    refine ih hd2 (by omega) (h.sm s1 c18) (hr.sm s1 (by simp) (by simp) (by simp)) ?_ (fun σ' P' c f => hq σ' P' c ((Fr.sm s1 f18).tr f))
    rw [take_succ hp]
    unfold slL at r1 ⊢
    rw [List.map_append]; exact r1
theorem cs_slide {Q : Int → SS → Prop} {m d : Int} (hB : BT Z tp 500000) (hrb : rb ≤ 2000000000) (h : CI Z rb σ P a) (hw : AW n a) (hn : n ≤ 1000000) (hq : Dn Z rb σ Q (opSlide a m d)) : wX8_slide tp m d σ Q := by
  unfold opSlide at hq
  refine sp_isMap (fun hm => ⟨o1, fun _ => sp_isIn (fun hv => ⟨fun _ => ⟨by omega, by omega, ?_⟩, o1⟩) (fun hv => ⟨o0, fun _ => ?_⟩)⟩) (fun hm => ⟨fun _ => ?_, o0⟩)
  · rw [if_pos ⟨hm, hv⟩] at hq
    have hg := hw.mp hm
    have hl := hg.2.2.2
    obtain ⟨dd, ht⟩ := h.mp hm
    have go : ¬ (0 < (aM a m.toNat).length ∧ ¬ (isK (nk (aM a m.toNat) 0 + d) ∧ isK (nk (aM a m.toNat) ((aM a m.toNat).length - 1) + d))) → 0 ≤ m ∧ m < 6 ∧ wX6_take 15 (sf σ 3 m.toNat) σ (fun s22 => wX6_empty 18 s22 (fun s25 => ∃ kk, wX8_slide_L105 tp m d Q kk 0 s25)) := by
      intro hc
      rw [if_neg hc] at hq
      refine ⟨by omega, by omega, sp_take (Or.inl rfl) (h.mp hm) hg.2.2.2 (fun σ1 s1 r1 => ?_)⟩
      exact sp_empty (fun σ2 s2 r2 => ⟨_, sp_slide_L hm hv hg hB hrb hw (aM a m.toNat) (i := 0) rfl (by omega) ((h.sm s1 c15).sm s2 c18) (r1.sm s2 (by simp) (by simp) (by simp)) r2 (fun σ' P' c f => hq σ' P' (c.rbu (by omega)) (((Fr.sm s1 f15).tr (Fr.sm s2 f18)).tr f))⟩)
    refine sp_countOf ht ⟨fun c => go (fun q => by omega), fun c => ⟨by omega, by omega, ?_⟩⟩
    obtain ⟨p0, hp0, e0, -⟩ := nk_first (l := aM a m.toNat) (by omega)
    obtain ⟨p1, hp1, e1, -⟩ := nk_last (l := aM a m.toNat) (by omega)
    have k0 := hg.2.1 p0 hp0
    have k1 := hg.2.1 p1 hp1
    refine sp_keyAt ht (by omega) (by decide) (by omega) ⟨⟨by omega, by omega⟩, sp_isKey (fun ka => ⟨o1, fun _ => ⟨by omega, by omega, ⟨by omega, by omega⟩, ?_⟩⟩) (fun ka => ⟨fun _ => ?_, o0⟩)⟩
    · refine sp_keyAt ht (by omega) ⟨by omega, by omega⟩ (by omega) ⟨⟨by omega, by omega⟩, sp_isKey (fun kb => ⟨fun _ => go (fun q => q.2 ⟨ka, kb⟩), o1⟩) (fun kb => ⟨o0, fun _ => ?_⟩)⟩
      rw [if_pos ⟨by omega, fun q => kb q.2⟩] at hq; exact dn_no h hw hn hq
    · rw [if_pos ⟨by omega, fun q => ka q.1⟩] at hq; exact dn_no h hw hn hq
  · rw [if_neg (fun q => hv q.2)] at hq; exact dn_bad h hw hn hq
  · rw [if_neg (fun q => hm q.1)] at hq; exact dn_bad h hw hn hq
theorem zp_len : ∀ (l m : List KV), (zpL l m).length = min l.length m.length
  | [], m => by simp [zpL]
  | p :: l, [] => by simp [zpL]
  | p :: l, q :: m => by rw [zpL, List.length_cons, zp_len l m]; simp
theorem zp_at : ∀ (l m : List KV) (i : Nat) (p q : KV), l[i]? = some p → m[i]? = some q → (zpL l m)[i]? = some (p.1, q.1)
  | [], m, i, p, q, h, _ => by simp at h
  | p' :: l, [], i, p, q, _, h => by simp at h
  | p' :: l, q' :: m, 0, p, q, h1, h2 => by
    rw [List.getElem?_cons_zero] at h1 h2
    cases h1; cases h2
    rw [zpL]; rfl
  | p' :: l, q' :: m, i + 1, p, q, h1, h2 => by
    rw [List.getElem?_cons_succ] at h1 h2
    rw [zpL, List.getElem?_cons_succ]
    exact zp_at l m i p q h1 h2
theorem zp_v {l m : List KV} (hm : ∀ p ∈ m, isK p.1) : Vok (zpL l m) := by
  induction l generalizing m with
  | nil => intro p hp; simp [zpL] at hp
  | cons q l ih =>
    cases m with
    | nil => intro p hp; simp [zpL] at hp
    | cons r m =>
      intro p hp
      rw [zpL] at hp
      rcases List.mem_cons.mp hp with q' | q'
      · subst q'
        have := hm r List.mem_cons_self
        dsimp only
        omega
      · exact ih (fun z hz => hm z (List.mem_cons_of_mem _ hz)) p q'
theorem sp_zip_L {Q : Int → SS → Prop} {x y t : Int} (hx : isM x) (hy : isM y) (ht : isM t) (hB : BT Z tp 500000) (hrb : rb ≤ 2000000000) (hw : AW n a) : ∀ (f : Nat) {i : Nat} {σ : SS}, i + f = (zpL (aM a x.toNat) (aM a y.toNat)).length → CI Z rb σ P a → RowIs σ 18 ((zpL (aM a x.toNat) (aM a y.toNat)).take i) → (∀ σ' P', CI Z (rb + 1) σ' P' (aSet a t.toNat (zpL (aM a x.toNat) (aM a y.toNat))) → Fr σ σ' → Q ((zpL (aM a x.toNat) (aM a y.toNat)).length : Int) σ') → wX8_zip_L59 tp x y t Q (f + 1) ((zpL (aM a x.toNat) (aM a y.toNat)).length : Int) (i : Int) σ := by
  have lx := (hw.mp hx).2.2.2
  have ly := (hw.mp hy).2.2.2
  have lz := zp_len (aM a x.toNat) (aM a y.toNat)
  intro f
  induction f with
  | zero =>
    intro i σ hi h hr hq
    rw [wX8_zip_L59]
    refine ⟨⟨by omega, by omega⟩, ⟨by omega, by omega⟩, fun _ => ?_, fun c => by omega⟩
    have e : i = (zpL (aM a x.toNat) (aM a y.toNat)).length := by omega
    rw [e, List.take_length] at hr
    rw [show t = ((t.toNat : Nat) : Int) by omega]
    exact sp_settleRow (by omega) (Or.inr rfl) hB hrb h hw hr (zp_v (hw.mp hy).2.1) (fun σ' P' c f => hq σ' P' (by simpa using c) f)
  | succ f ih =>
    intro i σ hi h hr hq
    rw [wX8_zip_L59]
    obtain ⟨d1, t1⟩ := h.mp hx
    obtain ⟨d2, t2⟩ := h.mp hy
    have p1 := List.getElem?_eq_getElem (show i < (aM a x.toNat).length by omega)
    have p2 := List.getElem?_eq_getElem (show i < (aM a y.toNat).length by omega)
    refine ⟨⟨by omega, by omega⟩, ⟨by omega, by omega⟩, fun c => by omega, fun _ => ⟨by omega, by omega, sp_keyAt t1 (by omega) ⟨by omega, by omega⟩ (by omega) ⟨by omega, by omega, sp_keyAt t2 (by omega) ⟨by omega, by omega⟩ (by omega) ?_⟩⟩⟩
    rw [nk_at p1, nk_at p2]
    refine sp_add hr (by rw [List.length_take]; omega) (fun σ1 s1 r1 => ?_)
    have e : ((i : Int) + 1) = ((i + 1 : Nat) : Int) := by omega
    rw [e]
    refine ih (by omega) (h.sm s1 c18) ?_ (fun σ' P' c f => hq σ' P' c ((Fr.sm s1 f18).tr f))
    rw [take_succ (zp_at _ _ i _ _ p1 p2)]; exact r1
theorem cs_zip {Q : Int → SS → Prop} {x y t : Int} (hB : BT Z tp 500000) (hrb : rb ≤ 2000000000) (h : CI Z rb σ P a) (hw : AW n a) (hn : n ≤ 1000000) (hq : Dn Z rb σ Q (opZip a x y t)) : wX8_zip tp x y t σ Q := by
  unfold opZip at hq
  refine sp_isMap (fun hx => ⟨o1, fun _ => sp_isMap (fun hy => ⟨o1, fun _ => sp_isMap (fun ht => ⟨fun _ => ⟨by omega, by omega, ?_⟩, o1⟩) (fun ht => ⟨o0, fun _ => ?_⟩)⟩) (fun hy => ⟨fun _ => ?_, o0⟩)⟩) (fun hx => ⟨fun _ => ?_, o0⟩)
  · rw [if_pos ⟨hx, hy, ht⟩] at hq
    obtain ⟨d1, t1⟩ := h.mp hx
    obtain ⟨d2, t2⟩ := h.mp hy
    refine sp_countOf t1 ⟨by omega, by omega, sp_countOf t2 (sp_empty (fun σ1 s1 r1 => ?_))⟩
    have lz := zp_len (aM a x.toNat) (aM a y.toNat)
    rw [show min (((aM a x.toNat).length : Nat) : Int) (((aM a y.toNat).length : Nat) : Int) = ((zpL (aM a x.toNat) (aM a y.toNat)).length : Int) by omega]
    exact ⟨_, sp_zip_L hx hy ht hB hrb hw _ (i := 0) (Nat.zero_add _) (h.sm s1 c18) r1 (fun σ' P' c f => hq σ' P' (c.rbu (by omega)) ((Fr.sm s1 f18).tr f))⟩
  · rw [if_neg (fun q => ht q.2.2)] at hq; exact dn_bad h hw hn hq
  · rw [if_neg (fun q => hy q.2.1)] at hq; exact dn_bad h hw hn hq
  · rw [if_neg (fun q => hx q.1)] at hq; exact dn_bad h hw hn hq
end
