def mostF (w best : Int) : List KV → Int
  | [] => best
  | p :: l => mostF w (if best = -2000000001 ∨ (if w = 0 then best < p.2 else p.2 < best) then p.2 else best) l
def opMost (a : AS) (m x y w : Int) : Int × AS := if isM m ∧ isRg x y ∧ (0 ≤ w ∧ w ≤ 1) then (mostF w (-2000000001) (seg (aM a m.toNat) (lo (aM a m.toNat) x).length (lo (aM a m.toNat) (y + 1)).length), a) else oBad a
def gapF (best prev : Int) : List KV → Int
  | [] => best
  | p :: l => gapF (max best (p.1 - prev)) p.1 l
def gapL : List KV → Int
  | [] => -2000000001
  | p :: l => gapF (-2000000001) p.1 l
def opGap (a : AS) (m : Int) : Int × AS := if isM m then (gapL (aM a m.toNat), a) else oBad a
def unl : List KV → List KV → Int
  | [], [] => -2000000001
  | [], q :: _ => q.1
  | p :: _, [] => p.1
  | p :: l, q :: m => if p = q then unl l m else min p.1 q.1
def opSame (a : AS) (x y : Int) : Int × AS := if isM x ∧ isM y then (if unl (aM a x.toNat) (aM a y.toNat) = -2000000001 then 1 else 0, a) else oBad a
def opApart (a : AS) (x y : Int) : Int × AS := if isM x ∧ isM y then (unl (aM a x.toNat) (aM a y.toNat), a) else oBad a
def cmn (lb : List KV) (n : Int) : List KV → Int
  | [] => n
  | p :: l => cmn lb (if lk lb p.1 = none then n else n + 1) l
def opCommon (a : AS) (x y : Int) : Int × AS := if isM x ∧ isM y then (cmn (aM a y.toNat) 0 (aM a x.toNat), a) else oBad a
def fillL (fr st : Int) : Nat → List KV
  | 0 => []
  | n + 1 => fillL fr st n ++ [(fr + n * st, hd ((fr + n * st) * fr))]
def opFill (a : AS) (m fr k st : Int) : Int × AS := if isM m ∧ isK fr ∧ (0 ≤ k ∧ k ≤ 200) ∧ (1 ≤ st ∧ st ≤ 50) then (if 0 < k ∧ ¬ fr + (k - 1) * st ≤ 500 then oNo a else (k, aSet a m.toNat (fillL fr st k.toNat))) else oBad a
def ps (kind x : Int) (p : KV) : Prop := kind = 0 ∨ (kind = 1 ∧ Int.tmod p.1 2 = 0) ∨ (kind = 2 ∧ x < p.2) ∨ (kind = 3 ∧ x < p.2 ∧ 0 < p.1) ∨ (kind = 4 ∧ ¬ (x < p.2 ∧ 0 < p.1))
noncomputable def svL (kind x : Int) (l : List KV) : List KV := l.filter (fun p => @decide (ps kind x p) (Classical.propDecidable _))
noncomputable def opSieve (a : AS) (m kind x t : Int) : Int × AS := if isM m ∧ (0 ≤ kind ∧ kind ≤ 4) ∧ isV x ∧ isM t then (((svL kind x (aM a m.toNat)).length : Int), aSet a t.toNat (svL kind x (aM a m.toNat))) else oBad a
def rsL (x y d : Int) (l : List KV) : List KV := l.map (fun p => if x ≤ p.1 ∧ p.1 ≤ y then (p.1, hd (p.2 + d)) else p)
def opRaise (a : AS) (m x y d : Int) : Int × AS := if isM m ∧ isRg x y ∧ (-1000 ≤ d ∧ d ≤ 1000) then (((lo (aM a m.toNat) (y + 1)).length : Int) - (lo (aM a m.toNat) x).length, aSet a m.toNat (rsL x y d (aM a m.toNat))) else oBad a
def slL (d : Int) (l : List KV) : List KV := l.map (fun p => (p.1 + d, p.2))
def opSlide (a : AS) (m d : Int) : Int × AS := if isM m ∧ (-1000 ≤ d ∧ d ≤ 1000) then (if 0 < (aM a m.toNat).length ∧ ¬ (isK (nk (aM a m.toNat) 0 + d) ∧ isK (nk (aM a m.toNat) ((aM a m.toNat).length - 1) + d)) then oNo a else (((aM a m.toNat).length : Int), aSet a m.toNat (slL d (aM a m.toNat)))) else oBad a
def zpL : List KV → List KV → List KV
  | p :: l, q :: m => (p.1, q.1) :: zpL l m
  | _, _ => []
def opZip (a : AS) (x y t : Int) : Int × AS := if isM x ∧ isM y ∧ isM t then (((zpL (aM a x.toNat) (aM a y.toNat)).length : Int), aSet a t.toNat (zpL (aM a x.toNat) (aM a y.toNat))) else oBad a
theorem seg_cons {l : List KV} {i j : Nat} {p : KV} (h : i < j) (hj : j ≤ l.length) (hp : l[i]? = some p) : seg l i j = p :: seg l (i + 1) j := by
  have := seg_mid (l := l) (a := i) (m := i) (b := j) (Nat.le_refl _) h hj hp
  rw [seg_nil (Nat.le_refl _)] at this
  exact this
theorem drop_cons {l : List KV} {i : Nat} {p : KV} {rest : List KV} (h : l.drop i = p :: rest) : l[i]? = some p ∧ l.drop (i + 1) = rest ∧ i < l.length ∧ l.length = i + rest.length + 1 := by
  have hlen := congrArg List.length h
  rw [List.length_drop, List.length_cons] at hlen
  refine ⟨?_, ?_, by omega, by omega⟩
  · have := congrArg (fun x => x[0]?) h
    simpa using this
  · rw [← List.drop_drop, h]; rfl
theorem drop_nil {l : List KV} {i : Nat} (h : l.drop i = []) (hi : i ≤ l.length) : i = l.length := by
  have hlen := congrArg List.length h
  rw [List.length_drop] at hlen
  simp at hlen
  omega
section
variable {Z tp n : Nat} {rb : Int} {σ : SS} {P : Nat → Prop} {a : AS}
theorem c15 : ∀ i ∈ rcs 15, i < 64 ∧ 6 < i ∧ i ≠ 13 ∧ i ≠ 14 := fun i hi => by simp at hi; omega
theorem c18 : ∀ i ∈ rcs 18, i < 64 ∧ 6 < i ∧ i ≠ 13 ∧ i ≠ 14 := fun i hi => by simp at hi; omega
theorem f15 : ∀ i ∈ rcs 15, ¬ (21 ≤ i ∧ i < 39) := fun i hi => by simp at hi; omega
theorem f18 : ∀ i ∈ rcs 18, ¬ (21 ≤ i ∧ i < 39) := fun i hi => by simp at hi; omega
theorem sp_settleRow {Q : Int → SS → Prop} {m x : Nat} {l : List KV} (hm : m < 6) (hx : x = 15 ∨ x = 18) (hB : BT Z tp 500000) (hrb : rb ≤ 2000000000) (h : CI Z rb σ P a) (hw : AW n a) (hr : RowIs σ x l) (hV : Vok l) (hq : ∀ σ' P', CI Z (rb + 1) σ' P' (aSet a m l) → Fr σ σ' → Q (l.length : Int) σ') : wX8_settleRow tp (m : Int) x σ Q := by
  unfold wX8_settleRow
  refine sp_start h hw (by omega) (fun σ1 P1 c1 t1 f1 g1 => ?_)
  have hr1 : RowIs σ1 x l := ⟨(g1 x (by omega) (by omega) 2).1.trans hr.1, hr.2.1, fun i p hp => ⟨(g1 (x + 1) (by omega) (by omega) i).1.trans (hr.2.2 i p hp).1, (g1 (x + 2) (by omega) (by omega) i).1.trans (hr.2.2 i p hp).2⟩⟩
  have hl := hr.2.1
  rw [hr1.1]
  have hb := sp_built hB hx hV 8 (fuel := 44) (a := 0) (b := l.length) (a4 := 0) (Q := fun r6 s5 => wX8_settle (m : Int) r6 s5 (fun r9 s8 => Q r9 s8)) hr1 (by have : (2 : Nat) ^ 8 = 256 := by decide
                                                                                                                                                               omega) (Nat.le_refl _) (by omega) (by omega) (by omega) c1.1 (by omega) (fun r σ2 P2 g2 e2 t2 => by
    rw [seg_all] at t2
    exact sp_settle hm (c1.ext e2 g2) hw t2 (fun σ3 c3 f3 => hq σ3 P2 c3 ((f1.tr (Fr.ext e2)).tr f3)))
  exact hb
theorem sp_most_L {Q : Int → SS → Prop} {w a1 a2 a3 : Int} {l : List KV} {j : Nat} (hr : RowIs σ 15 l) (hV : Vok l) (hj : j ≤ l.length) : ∀ (f : Nat) {i : Nat} {best : Int}, i + f = j ∨ (f = 0 ∧ j ≤ i) → i ≤ 1000 → R32 best → Q (mostF w best (seg l i j)) σ → wX8_most_L73 a1 a2 a3 w Q (f + 1) (j : Int) best (i : Int) σ := by
  have hl := hr.2.1
  intro f
  induction f with
  | zero =>
    intro i best hi hi2 hb hq
    rw [seg_nil (by omega)] at hq
    rw [wX8_most_L73]
    exact ⟨⟨by omega, by omega⟩, ⟨by omega, by omega⟩, fun _ => ⟨hb, hq⟩, fun c => by omega⟩
  | succ f ih =>
    intro i best hi hi2 hb hq
    have hlt : i < l.length := by omega
    have hp := List.getElem?_eq_getElem hlt
    rw [seg_cons (by omega) hj hp, mostF] at hq
    have hv := hV _ (List.getElem_mem hlt)
    rw [wX8_most_L73]
    refine ⟨⟨by omega, by omega⟩, ⟨by omega, by omega⟩, fun c => by omega, fun _ => sp_rvalueAt hr ?_⟩
    rw [nv_at hp]
    have e : ((i : Int) + 1) = ((i + 1 : Nat) : Int) := by omega
    rw [e]
    have go : ∀ b' : Int, R32 b' → (if best = -2000000001 ∨ (if w = 0 then best < l[i].2 else l[i].2 < best) then l[i].2 else best) = b' → wX8_most_L73 a1 a2 a3 w Q (f + 1) (j : Int) b' ((i + 1 : Nat) : Int) σ := by
      intro b' hb' he
      rw [he] at hq
      exact ih (by omega) (by omega) hb' hq
    have hvR : R32 l[i].2 := ⟨by omega, by omega⟩
    refine ⟨hb, fun c => go _ hvR (if_pos (Or.inl c)), fun c => ⟨fun c2 => ⟨fun c3 => go _ hb ?_, fun c3 => go _ hvR ?_⟩, fun c2 => ⟨fun c3 => go _ hb ?_, fun c3 => go _ hvR ?_⟩⟩⟩
    · rw [if_neg]; intro q; rcases q with q | q
      · exact c q
      · rw [if_neg c2] at q; omega
    · rw [if_pos]; right; rw [if_neg c2]; omega
    · rw [if_neg]; intro q; rcases q with q | q
      · exact c q
      · rw [if_pos c2] at q; omega
    · rw [if_pos]; right; rw [if_pos c2]; omega
theorem cs_most {Q : Int → SS → Prop} {m x y w : Int} (h : CI Z rb σ P a) (hw : AW n a) (hn : n ≤ 1000000) (hq : Dn Z rb σ Q (opMost a m x y w)) : wX8_most m x y w σ Q := by
  unfold opMost at hq
  refine sp_isMap (fun hm => ⟨o1, fun _ => sp_isRange (fun hk => ⟨o1, fun _ => sp_isIn (fun hv => ⟨fun _ => ⟨by omega, by omega, ⟨by have := hk.2.1; omega, by have := hk.2.1; omega⟩, ?_⟩, o1⟩) (fun hv => ⟨o0, fun _ => ?_⟩)⟩) (fun hk => ⟨fun _ => ?_, o0⟩)⟩) (fun hm => ⟨fun _ => ?_, o0⟩)
  · rw [if_pos ⟨hm, hk, hv⟩] at hq
    obtain ⟨d, ht⟩ := h.mp hm
    have hg := hw.mp hm
    have hl := hg.2.2.2
    refine sp_countBelow ht hg.1 (by omega) ⟨by omega, by omega, ?_⟩
    refine sp_take (Or.inl rfl) (h.mp hm) hl (fun σ1 s1 r1 => ⟨by omega, by omega, ?_⟩)
    have c1 := h.sm s1 c15
    obtain ⟨d1, ht1⟩ := c1.mp hm
    have l1 := lo_len (aM a m.toNat) x
    have l2 := lo_len (aM a m.toNat) (y + 1)
    have l3 := lo_mono (l := aM a m.toNat) (show x ≤ y + 1 by have := hk.2.2; omega)
    refine sp_countBelow ht1 hg.1 (by omega) ⟨(lo (aM a m.toNat) (y + 1)).length - (lo (aM a m.toNat) x).length + 1, ?_⟩
    exact sp_most_L r1 hg.2.2.1 l2 _ (by omega) (by omega) (by decide) (hq σ1 P (c1.rbu (by omega)) (Fr.sm s1 f15))
  · rw [if_neg (fun q => hv q.2.2)] at hq; exact dn_bad h hw hn hq
  · rw [if_neg (fun q => hk q.2.1)] at hq; exact dn_bad h hw hn hq
  · rw [if_neg (fun q => hm q.1)] at hq; exact dn_bad h hw hn hq
theorem sp_gap_L {Q : Int → SS → Prop} {a1 : Int} {l : List KV} (hr : RowIs σ 15 l) (hK : ∀ p ∈ l, isK p.1) : ∀ (rest : List KV) {i : Nat} {best : Int} {pv : KV}, l[i]? = some pv → l.drop (i + 1) = rest → (-2000000001 ≤ best ∧ best ≤ 1000) → Q (gapF best pv.1 rest) σ → wX8_gap_L30 a1 Q (rest.length + 1) best ((i + 1 : Nat) : Int) σ := by
  have hl := hr.2.1
  intro rest
  induction rest with
  | nil =>
    intro i best pv hp hd hb hq
    have hi : i < l.length := (List.getElem?_eq_some_iff.mp hp).1
    have := drop_nil hd (by omega)
    rw [List.length_nil, wX8_gap_L30, hr.1]
    exact ⟨⟨by omega, by omega⟩, fun _ => ⟨⟨by omega, by omega⟩, hq⟩, fun c => by omega⟩
  | cons p rest ih =>
    intro i best pv hp hd hb hq
    obtain ⟨hp2, hd2, hi2, hi3⟩ := drop_cons hd
    have k1 := hK p (List.mem_of_getElem? hp2)
    have k2 := hK pv (List.mem_of_getElem? hp)
    rw [List.length_cons, wX8_gap_L30, hr.1]
    refine ⟨⟨by omega, by omega⟩, fun c => by omega, fun _ => sp_rkeyAt hr ⟨⟨by omega, by omega⟩, sp_rkeyAt hr ?_⟩⟩
    rw [nk_at hp2, show ((i + 1 : Nat) : Int) - 1 = (i : Int) by omega, nk_at hp]
    have e : (((i + 1 : Nat) : Int) + 1) = ((i + 1 + 1 : Nat) : Int) := by omega
    rw [e]
    exact ⟨⟨by omega, by omega⟩, ⟨by omega, by omega⟩, ih hp2 hd2 ⟨by omega, by omega⟩ hq⟩
theorem cs_gap {Q : Int → SS → Prop} {m : Int} (h : CI Z rb σ P a) (hw : AW n a) (hn : n ≤ 1000000) (hq : Dn Z rb σ Q (opGap a m)) : wX8_gap m σ Q := by
  unfold opGap at hq
  refine sp_isMap (fun hm => ⟨fun _ => ⟨by omega, by omega, ?_⟩, o1⟩) (fun hm => ⟨o0, fun _ => ?_⟩)
  · rw [if_pos hm] at hq
    have hg := hw.mp hm
    have hl := hg.2.2.2
    refine sp_take (Or.inl rfl) (h.mp hm) hl (fun σ1 s1 r1 => ?_)
    have c1 := h.sm s1 c15
    have fin : Q (gapL (aM a m.toNat)) σ1 := hq σ1 P (c1.rbu (by omega)) (Fr.sm s1 f15)
    cases e : aM a m.toNat with
    | nil =>
      rw [e] at fin r1
      refine ⟨1, ?_⟩
      rw [wX8_gap_L30, r1.1]
      exact ⟨by decide, fun _ => ⟨by decide, fin⟩, fun c => absurd (show ((([] : List KV).length : Nat) : Int) ≤ 1 by simp) c⟩
    | cons p rest =>
      rw [e] at fin r1
      exact ⟨rest.length + 1, sp_gap_L r1 (fun q hq' => hg.2.1 q (by rw [e]; exact hq')) rest (i := 0) (pv := p) rfl rfl ⟨by omega, by omega⟩ fin⟩
  · rw [if_neg hm] at hq; exact dn_bad h hw hn hq
theorem sp_unl_L {Q : Int → SS → Prop} {a1 a2 : Int} {l m : List KV} (hl : RowIs σ 15 l) (hm : RowIs σ 18 m) : ∀ (f : Nat) {i : Nat}, min l.length m.length = i + f → Q (unl (l.drop i) (m.drop i)) σ → wX8_firstUnlikeKey_L47 a1 a2 Q (f + 1) ((min l.length m.length : Nat) : Int) (i : Int) σ := by
  have h1 := hl.2.1
  have h2 := hm.2.1
  intro f
  induction f with
  | zero =>
    intro i hi hq
    rw [wX8_firstUnlikeKey_L47, hl.1]
    have ei : (min l.length m.length : Nat) = i := by omega
    rw [ei]
    refine ⟨⟨by omega, by omega⟩, ⟨by omega, by omega⟩, fun _ => ⟨fun c => sp_rkeyAt hm ?_, fun c => sp_rkeyAt hl ?_⟩, fun c => by omega⟩
    · have e1 : l.drop i = [] := List.drop_eq_nil_of_le (by omega)
      rw [e1] at hq
      cases e2 : m.drop i with
      | nil =>
        rw [e2] at hq
        unfold nk
        rw [if_pos (by omega), Int.toNat_natCast, List.getElem?_eq_none (by have := congrArg List.length e2; rw [List.length_drop] at this; simp at this; omega)]
        exact hq
      | cons q rest =>
        rw [e2] at hq
        rw [nk_at (drop_cons e2).1]; exact hq
    · have e1 : m.drop i = [] := List.drop_eq_nil_of_le (by omega)
      rw [e1] at hq
      cases e2 : l.drop i with
      | nil =>
        have := congrArg List.length e2
        rw [List.length_drop] at this
        simp at this
        omega
      | cons q rest =>
        rw [e2] at hq
        rw [nk_at (drop_cons e2).1]; exact hq
  | succ f ih =>
    intro i hi hq
    rw [wX8_firstUnlikeKey_L47]
    have hp := List.getElem?_eq_getElem (show i < l.length by omega)
    have hp2 := List.getElem?_eq_getElem (show i < m.length by omega)
    rw [List.drop_eq_getElem_cons (show i < l.length by omega), List.drop_eq_getElem_cons (show i < m.length by omega), unl] at hq
    refine ⟨⟨by omega, by omega⟩, ⟨by omega, by omega⟩, fun c => by omega, fun _ => sp_rkeyAt hl (sp_rkeyAt hm ?_)⟩
    rw [nk_at hp, nk_at hp2]
    have fin : ¬ l[i] = m[i] → wX6_keyAt 15 (i : Int) σ (fun r35 s34 => wX6_keyAt 18 (i : Int) s34 (fun r38 s37 => Q (min r35 r38) s37)) := by
      intro hne
      rw [if_neg hne] at hq
      refine sp_rkeyAt hl (sp_rkeyAt hm ?_)
      rw [nk_at hp, nk_at hp2]; exact hq
    refine ⟨fun c => fin (fun q => c (by rw [q])), fun c => sp_rvalueAt hl (sp_rvalueAt hm ?_)⟩
    rw [nv_at hp, nv_at hp2]
    have e : ((i : Int) + 1) = ((i + 1 : Nat) : Int) := by omega
    refine ⟨fun c2 => ?_, fun c2 => fin (fun q => c2 (by rw [q]))⟩
    rw [if_pos (Prod.ext c c2)] at hq
    rw [e]
    exact ih (by omega) hq
theorem sp_unl {Q : Int → SS → Prop} {x y : Int} (hx : isM x) (hy : isM y) (h : CI Z rb σ P a) (hw : AW n a) (hq : ∀ σ', CI Z rb σ' P a → Fr σ σ' → Q (unl (aM a x.toNat) (aM a y.toNat)) σ') : wX8_firstUnlikeKey x y σ Q := by
  unfold wX8_firstUnlikeKey
  refine ⟨by omega, by omega, sp_take (Or.inl rfl) (h.mp hx) (hw.mp hx).2.2.2 (fun σ1 s1 r1 => ⟨by omega, by omega, ?_⟩)⟩
  have c1 := h.sm s1 c15
  refine sp_take (Or.inr rfl) (c1.mp hy) (hw.mp hy).2.2.2 (fun σ2 s2 r2 => ?_)
  have c2 := c1.sm s2 c18
  have r1' := r1.sm s2 (by simp) (by simp) (by simp)
  rw [r1'.1, r2.1, show min (((aM a x.toNat).length : Nat) : Int) (((aM a y.toNat).length : Nat) : Int) = ((min (aM a x.toNat).length (aM a y.toNat).length : Nat) : Int) by omega]
  exact ⟨min (aM a x.toNat).length (aM a y.toNat).length + 1, sp_unl_L r1' r2 _ (i := 0) (by omega) (hq σ2 c2 ((Fr.sm s1 f15).tr (Fr.sm s2 f18)))⟩
theorem cs_same {Q : Int → SS → Prop} {x y : Int} (h : CI Z rb σ P a) (hw : AW n a) (hn : n ≤ 1000000) (hq : Dn Z rb σ Q (opSame a x y)) : wX8_same x y σ Q := by
  unfold opSame at hq
  refine sp_isMap (fun hx => ⟨o1, fun _ => sp_isMap (fun hy => ⟨fun _ => ?_, o1⟩) (fun hy => ⟨o0, fun _ => ?_⟩)⟩) (fun hx => ⟨fun _ => ?_, o0⟩)
  · rw [if_pos ⟨hx, hy⟩] at hq
    refine sp_unl hx hy h hw (fun σ' c f => ⟨fun q => ?_, fun q => ?_⟩)
    · rw [if_neg q] at hq; exact hq σ' P (c.rbu (by omega)) f
    · rw [if_pos q] at hq; exact hq σ' P (c.rbu (by omega)) f
  · rw [if_neg (fun q => hy q.2)] at hq; exact dn_bad h hw hn hq
  · rw [if_neg (fun q => hx q.1)] at hq; exact dn_bad h hw hn hq
theorem cs_apart {Q : Int → SS → Prop} {x y : Int} (h : CI Z rb σ P a) (hw : AW n a) (hn : n ≤ 1000000) (hq : Dn Z rb σ Q (opApart a x y)) : wX8_apart x y σ Q := by
  unfold opApart at hq
  refine sp_isMap (fun hx => ⟨o1, fun _ => sp_isMap (fun hy => ⟨o1, fun _ => ?_⟩) (fun hy => ⟨fun _ => ?_, o0⟩)⟩) (fun hx => ⟨fun _ => ?_, o0⟩)
  · rw [if_pos ⟨hx, hy⟩] at hq
    exact sp_unl hx hy h hw (fun σ' c f => hq σ' P (c.rbu (by omega)) f)
  · rw [if_neg (fun q => hy q.2)] at hq; exact dn_bad h hw hn hq
  · rw [if_neg (fun q => hx q.1)] at hq; exact dn_bad h hw hn hq
theorem sp_cmn_L {Q : Int → SS → Prop} {x y : Int} {l : List KV} (hy : isM y) (h : CI Z rb σ P a) (hw : AW n a) (hr : RowIs σ 15 l) : ∀ (rest : List KV) {i : Nat} {c : Int}, l.drop i = rest → i ≤ l.length → (0 ≤ c ∧ c ≤ i) → Q (cmn (aM a y.toNat) c rest) σ → wX8_common_L37 x y Q (rest.length + 1) c (i : Int) σ := by
  have hl := hr.2.1
  intro rest
  induction rest with
  | nil =>
    intro i c hd hi hc hq
    have := drop_nil hd hi
    rw [List.length_nil, wX8_common_L37, hr.1]
    exact ⟨⟨by omega, by omega⟩, fun _ => ⟨⟨by omega, by omega⟩, hq⟩, fun q => by omega⟩
  | cons p rest ih =>
    intro i c hd hi hc hq
    obtain ⟨hp, hd2, hi2, hi3⟩ := drop_cons hd
    rw [cmn] at hq
    rw [List.length_cons, wX8_common_L37, hr.1]
    refine ⟨⟨by omega, by omega⟩, fun q => by omega, fun _ => ⟨by omega, by omega, sp_rkeyAt hr ?_⟩⟩
    rw [nk_at hp]
    have e : ((i : Int) + 1) = ((i + 1 : Nat) : Int) := by omega
    rw [e]
    obtain ⟨d, ht⟩ := h.mp hy
    refine sp_find ht (hw.mp hy).1 (fun e0 => ⟨fun _ => ?_, fun b e2 => by cases e2⟩) (fun b v e0 hP h0 h1 => ⟨fun e2 => (by cases e2), fun b' e2 => ?_⟩)
    · rw [if_pos e0] at hq
      exact ih hd2 (by omega) (by omega) hq
    · rw [if_neg (by rw [e0]; exact fun q => by cases q)] at hq
      exact ih hd2 (by omega) (by omega) hq
theorem cs_common {Q : Int → SS → Prop} {x y : Int} (h : CI Z rb σ P a) (hw : AW n a) (hn : n ≤ 1000000) (hq : Dn Z rb σ Q (opCommon a x y)) : wX8_common x y σ Q := by
  unfold opCommon at hq
  refine sp_isMap (fun hx => ⟨o1, fun _ => sp_isMap (fun hy => ⟨fun _ => ⟨by omega, by omega, ?_⟩, o1⟩) (fun hy => ⟨o0, fun _ => ?_⟩)⟩) (fun hx => ⟨fun _ => ?_, o0⟩)
  · rw [if_pos ⟨hx, hy⟩] at hq
    refine sp_take (Or.inl rfl) (h.mp hx) (hw.mp hx).2.2.2 (fun σ1 s1 r1 => ?_)
    have c1 := h.sm s1 c15
    exact ⟨_, sp_cmn_L hy c1 hw r1 (aM a x.toNat) (i := 0) rfl (by omega) (by omega) (hq σ1 P (c1.rbu (by omega)) (Fr.sm s1 f15))⟩
  · rw [if_neg (fun q => hy q.2)] at hq; exact dn_bad h hw hn hq
  · rw [if_neg (fun q => hx q.1)] at hq; exact dn_bad h hw hn hq
end
