section
variable {Z tp : Nat} {TM : Int} {σ : SS} {P : Nat → Prop} {Q : Option Nat → SS → Prop}
theorem sp_below200 (hB : BT Z tp TM) {a1 : Option Nat} {k : Int} {l : List KV} (h : TT σ P a1 l) (hs : Srt l) (hl : l.length ≤ 200) (hG : GI Z σ P) (ht : sn σ 1 2 + 690 ≤ TM) (hV : Vok l) (hq : ∀ (r : Option Nat) (σ' : SS) (P' : Nat → Prop), GI Z σ' P' → Ext 690 σ P σ' P' → TT σ' P' r (lo l k) → Q r σ') : wX2_below 44 tp a1 k 0 σ Q :=
  sp_below hB 15 (D := 15) (T_15 h hl) hs (fun _ _ _ _ t h2 => T_15 t (by omega)) (by omega) (by omega) (by omega) (by omega) hG (by omega) hV (by omega) hq
theorem sp_above200 (hB : BT Z tp TM) {a1 : Option Nat} {k : Int} {l : List KV} (h : TT σ P a1 l) (hs : Srt l) (hl : l.length ≤ 200) (hG : GI Z σ P) (ht : sn σ 1 2 + 690 ≤ TM) (hV : Vok l) (hq : ∀ (r : Option Nat) (σ' : SS) (P' : Nat → Prop), GI Z σ' P' → Ext 690 σ P σ' P' → TT σ' P' r (hi l k) → Q r σ') : wX2_above 44 tp a1 k 0 σ Q :=
  sp_above hB 15 (D := 15) (T_15 h hl) hs (fun _ _ _ _ t h2 => T_15 t (by omega)) (by omega) (by omega) (by omega) (by omega) hG (by omega) hV (by omega) hq
theorem sp_above401 (hB : BT Z tp TM) {a1 : Option Nat} {k : Int} {l : List KV} (h : TT σ P a1 l) (hs : Srt l) (hl : l.length ≤ 401) (hG : GI Z σ P) (ht : sn σ 1 2 + 990 ≤ TM) (hV : Vok l) (hq : ∀ (r : Option Nat) (σ' : SS) (P' : Nat → Prop), GI Z σ' P' → Ext 990 σ P σ' P' → TT σ' P' r (hi l k) → Q r σ') : wX2_above 44 tp a1 k 0 σ Q :=
  sp_above hB 18 (D := 18) (T_18 h hl) hs (fun _ _ _ _ t h2 => T_18 t (by omega)) (by omega) (by omega) (by omega) (by omega) hG (by omega) hV (by omega) hq
theorem sp_join401 (hB : BT Z tp TM) {a1 a4 : Option Nat} {k v : Int} {lL lR : List KV} (h1 : TT σ P a1 lL) (h4 : TT σ P a4 lR) (hG : GI Z σ P) (ht : sn σ 1 2 + 55 ≤ TM) (hV : Vok (lL ++ (k, v) :: lR)) (hlen : (lL ++ (k, v) :: lR).length ≤ 402) (hq : ∀ (r : Option Nat) (σ' : SS) (P' : Nat → Prop), GI Z σ' P' → Ext 55 σ P σ' P' → TT σ' P' r (lL ++ (k, v) :: lR) → Q r σ') : wX2_join 44 tp a1 k v a4 0 σ Q := by
  have hl : lL.length + lR.length + 1 ≤ 402 := by simp only [List.length_append, List.length_cons] at hlen; omega
  exact sp_join hB (T_18 h1 (by omega)) (T_18 h4 (by omega)) (by omega) (by omega) (by omega) hG (by omega) hV (by omega) hq
theorem hi_cons {p : KV} {l : List KV} (hs : Srt (p :: l)) : hi (p :: l) p.1 = l := by
  have h := hi_app (l1 := []) (p := p) (l2 := l) hs p.1
  rw [if_neg (by omega)] at h
  rw [List.nil_append] at h
  rw [h]
  have h2 := List.pairwise_cons.mp hs
  unfold hi
  exact List.filter_eq_self.mpr (fun a ha => by have := h2.1 a ha; simpa using this)
theorem sp_chain_L (hB : BT Z tp TM) {a1 a2 : Option Nat} {lL lR : List KV} (h1 : TT σ P a1 lL) (h2 : TT σ P a2 lR) (hs : Srt lR) (hV : Vok (lL ++ lR)) (hlen : lL.length + lR.length ≤ 401) (hG : GI Z σ P) (ht : sn σ 1 2 + 1045 ≤ TM) (hq : ∀ (r : Option Nat) (σ' : SS) (P' : Nat → Prop), GI Z σ' P' → Ext 1045 σ P σ' P' → TT σ' P' r (lL ++ lR) → Q r σ') :
    ∀ (n : Nat) {v3 : Option Nat} {lv tl : List KV}, T σ P n v3 lv → lR = lv ++ tl → lv ≠ [] → wX2_chain_L20 tp a1 a2 Q (n + 1) v3 σ := by
  intro n
  induction n with
  | zero =>
    intro v3 lv tl h he hne
    exact absurd h.2 hne
  | succ n ih =>
    intro v3 lv tl h he hne
    cases v3 with
    | none => exact absurd (T_none h) hne
    | some b =>
      obtain ⟨e, x, y, hee, hP, hx, hy, hl, -⟩ := T_some h
      cases hee
      rw [wX2_chain_L20]
      refine ⟨b, rfl, fun e => ?_, fun b' e => ?_⟩
      · rw [e] at hx
        have hx0 := T_none hx
        subst hx0
        have hR : lR = (sn σ (b + 64) 0, sn σ (b + 64) 1) :: (y ++ tl) := by rw [he, hl]; simp
        refine sp_above401 hB h2 hs (by omega) hG (by omega) (Vok_sub hV (fun p hp => by simp [hp])) (fun r σ' P' g e1 t => ?_)
        have hh : hi lR (sn σ (b + 64) 0) = y ++ tl := by
          rw [hR] at hs ⊢
          exact hi_cons hs
        rw [hh] at t
        refine sp_join401 hB (e1.TT h1) t g (by have := e1.tk; omega) ?_ ?_ (fun r' σ'' P'' g' e2 t' => hq _ σ'' P'' g' (e1.tr e2 (by omega)) ?_)
        · rw [← hR]; exact hV
        · rw [← hR]; simp; omega
        · rw [hR]; exact t'
      · have hxn : x ≠ [] := fun h0 => by
          have := (T_isnil hx).mpr h0
          rw [e] at this
          cases this
        exact ih (tl := (sn σ (b + 64) 0, sn σ (b + 64) 1) :: (y ++ tl)) hx (by rw [he, hl]; simp) hxn
theorem sp_chain (hB : BT Z tp TM) {a1 a2 : Option Nat} {lL lR : List KV} (h1 : TT σ P a1 lL) (h2 : TT σ P a2 lR) (hs : Srt lR) (hV : Vok (lL ++ lR)) (hlen : lL.length + lR.length ≤ 401) (hG : GI Z σ P) (ht : sn σ 1 2 + 1045 ≤ TM) (hq : ∀ (r : Option Nat) (σ' : SS) (P' : Nat → Prop), GI Z σ' P' → Ext 1045 σ P σ' P' → TT σ' P' r (lL ++ lR) → Q r σ') : wX2_chain tp a1 a2 σ Q := by
  unfold wX2_chain
  refine ⟨fun e => ⟨fun _ => ?_, fun b e2 => (by rw [e] at e2; cases e2)⟩, fun b e => ⟨fun e2 => ⟨fun e3 => (by rw [e] at e3; cases e3), fun b' _ => ?_⟩, fun b' e2 => ?_⟩⟩
  · have : lL = [] := (TT_isnil h1).mp e
    subst this
    exact hq _ σ P hG (Ext.rf.up (by omega)) h2
  · have : lR = [] := (TT_isnil h2).mp e2
    subst this
    refine hq _ σ P hG (Ext.rf.up (by omega)) ?_
    rw [List.append_nil]; exact h1
  · have hne : lR ≠ [] := fun h0 => by
      have := (TT_isnil h2).mpr h0
      rw [e2] at this
      cases this
    obtain ⟨d, h2'⟩ := id h2
    exact ⟨d + 1, sp_chain_L hB h1 h2 hs hV hlen hG ht hq d (tl := []) h2' (by simp) hne⟩
/-- an entry laid into a sorted list -/
def ins (l : List KV) (k v : Int) : List KV := lo l k ++ (k, v) :: hi l k
theorem Srt_ins {l : List KV} (h : Srt l) (k v : Int) : Srt (ins l k v) := by
  refine Srt_app.mpr ⟨Srt_lo h k, Srt_hi h k, fun a ha => ?_, fun b hb => ?_⟩
  · have := (List.mem_filter.mp ha).2; simpa using this
  · have := (List.mem_filter.mp hb).2; simpa using this
theorem Vok_ins {l : List KV} (h : Vok l) {k v : Int} (hv : -1000000 ≤ v ∧ v ≤ 1000000) : Vok (ins l k v) :=
  Vok_app.mpr ⟨Vok_sub h (lo_sub l k), hv, Vok_sub h (hi_sub l k)⟩
/-- what is left when the keys from a to b go -/
def del (l : List KV) (a b : Int) : List KV := lo l a ++ hi l b
theorem Srt_del {l : List KV} (h : Srt l) {a b : Int} (hab : a ≤ b) : Srt (del l a b) := by
  refine List.pairwise_append.mpr ⟨Srt_lo h a, Srt_hi h b, fun x hx y hy => ?_⟩
  have h1 := (List.mem_filter.mp hx).2
  have h2 := (List.mem_filter.mp hy).2
  simp at h1 h2
  omega
theorem Vok_del {l : List KV} (h : Vok l) (a b : Int) : Vok (del l a b) := fun p hp => by
  rcases List.mem_append.mp hp with hp | hp
  · exact h p (lo_sub l a p hp)
  · exact h p (hi_sub l b p hp)
theorem lohi_len {l : List KV} (k : Int) : (lo l k).length + (hi l k).length ≤ l.length := by
  induction l with
  | nil => simp [lo, hi]
  | cons p l ih =>
    unfold lo hi at *
    rw [List.filter_cons, List.filter_cons]
    by_cases c : p.1 < k
    · have c2 : ¬ k < p.1 := by omega
      simp [c, c2]; omega
    · by_cases c2 : k < p.1
      · simp [c, c2]; omega
      · simp [c, c2]; omega
theorem del_len {l : List KV} {a b : Int} (hab : a ≤ b) : (del l a b).length ≤ l.length := by
  unfold del
  rw [List.length_append]
  induction l with
  | nil => simp [lo, hi]
  | cons p l ih =>
    unfold lo hi at *
    rw [List.filter_cons, List.filter_cons]
    by_cases c : p.1 < a
    · have c2 : ¬ b < p.1 := by omega
      simp [c, c2]; omega
    · by_cases c2 : b < p.1
      · simp [c, c2]; omega
      · simp [c, c2]; omega
theorem ins_len {l : List KV} (k v : Int) : (ins l k v).length ≤ l.length + 1 := by
  unfold ins
  rw [List.length_append, List.length_cons]
  have := lohi_len (l := l) k
  omega
theorem sp_with (hB : BT Z tp TM) {a1 : Option Nat} {k v : Int} {l : List KV} (h : TT σ P a1 l) (hs : Srt l) (hl : l.length ≤ 200) (hG : GI Z σ P) (ht : sn σ 1 2 + 1435 ≤ TM) (hV : Vok l) (hv : -1000000 ≤ v ∧ v ≤ 1000000) (hq : ∀ (r : Option Nat) (σ' : SS) (P' : Nat → Prop), GI Z σ' P' → Ext 1435 σ P σ' P' → TT σ' P' r (ins l k v) → Q r σ') : wX2_with tp a1 k v σ Q := by
  unfold wX2_with
  refine sp_below200 hB h hs hl hG (by omega) hV (fun r σ1 P1 g1 e1 t1 => ?_)
  refine sp_above200 hB (e1.TT h) hs hl g1 (by have := e1.tk; omega) hV (fun r' σ2 P2 g2 e2 t2 => ?_)
  have e12 := e1.tr e2 (Int.le_refl _)
  have := ins_len (l := l) k v
  exact sp_join401 hB (e2.TT t1) t2 g2 (by have := e12.tk; omega) (Vok_ins hV hv) (show (ins l k v).length ≤ 402 by omega) (fun r'' σ3 P3 g3 e3 t3 => hq _ σ3 P3 g3 (e12.tr e3 (by omega)) t3)
theorem sp_without (hB : BT Z tp TM) {a1 : Option Nat} {a b : Int} {l : List KV} (hab : a ≤ b) (h : TT σ P a1 l) (hs : Srt l) (hl : l.length ≤ 200) (hG : GI Z σ P) (ht : sn σ 1 2 + 2425 ≤ TM) (hV : Vok l) (hq : ∀ (r : Option Nat) (σ' : SS) (P' : Nat → Prop), GI Z σ' P' → Ext 2425 σ P σ' P' → TT σ' P' r (del l a b) → Q r σ') : wX2_without tp a1 a b σ Q := by
  unfold wX2_without
  refine sp_below200 hB h hs hl hG (by omega) hV (fun r σ1 P1 g1 e1 t1 => ?_)
  refine sp_above200 hB (e1.TT h) hs hl g1 (by have := e1.tk; omega) hV (fun r' σ2 P2 g2 e2 t2 => ?_)
  have e12 := e1.tr e2 (Int.le_refl _)
  have hd := del_len (l := l) hab
  unfold del at hd
  rw [List.length_append] at hd
  exact sp_chain hB (e2.TT t1) t2 (Srt_hi hs b) (Vok_del hV a b) (by omega) g2 (by have := e12.tk; omega) (fun r'' σ3 P3 g3 e3 t3 => hq _ σ3 P3 g3 (e12.tr e3 (by omega)) t3)
end
