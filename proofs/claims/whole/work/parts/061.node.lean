/-! ===== reads of trees ===== -/
section
variable {σ : SS} {P : Nat → Prop} {d : Nat} {r : Option Nat} {l : List KV}
theorem sp_countOf {Q : Int → SS → Prop} (h : T σ P d r l) (hq : Q (l.length : Int) σ) : wX3_countOf r σ Q := by
  refine ⟨fun e => ?_, fun b e => ?_⟩
  · subst e
    rw [T_none h] at hq
    exact hq
  · subst e
    obtain ⟨e, l1, l2, -, -, -, -, hl, hc, -⟩ := T_some h
    rw [hc]; exact hq
theorem sp_sumOf {Q : Int → SS → Prop} (h : T σ P d r l) (hq : Q (sumv l) σ) : wX3_sumOf r σ Q := by
  refine ⟨fun e => ?_, fun b e => ?_⟩
  · subst e
    rw [T_none h] at hq
    exact hq
  · subst e
    obtain ⟨e, l1, l2, -, -, -, -, hl, hc, hs, -⟩ := T_some h
    rw [hs]; exact hq
theorem sp_weightOf {Q : Int → SS → Prop} (h : T σ P d r l) (hl : l.length ≤ 1000) (hq : Q (tw l : Int) σ) : wX3_weightOf r σ Q := by
  refine sp_countOf h ⟨⟨by omega, by omega⟩, ?_⟩
  have e : ((tw l : Nat) : Int) = (l.length : Int) + 1 := by unfold tw; omega
  rw [e] at hq; exact hq
theorem sp_isBalanced {Q : Int → SS → Prop} {a b : Nat} {x y : Int} (hx : x = a) (hy : y = b) (ha : a ≤ 10000) (hb : b ≤ 10000) (h1 : bal a b → Q 1 σ) (h0 : ¬ bal a b → Q 0 σ) : wX2_isBalanced x y σ Q := by
  subst hx; subst hy
  unfold bal at h0 h1
  refine ⟨⟨by omega, by omega⟩, fun c => h0 (by omega), fun c => ⟨⟨by omega, by omega⟩, fun c2 => h0 (by omega), fun c2 => h1 (by omega)⟩⟩
theorem sp_find_L {Q : Option Nat → SS → Prop} {a0 : Option Nat} {k : Int} : ∀ {d : Nat} {r : Option Nat} {l : List KV}, T σ P d r l → Srt l → (lk l k = none → Q none σ) → (∀ b v, lk l k = some v → P b → sn σ (b + 64) 0 = k → sn σ (b + 64) 1 = v → Q (some b) σ) → wX3_find_L2 a0 k Q (d + 1) r σ := by
  intro d
  induction d with
  | zero =>
    intro r l h hs hn hv
    rw [wX3_find_L2]
    refine ⟨fun e => ?_, fun b e => ?_⟩
    · subst e; rw [T_none h] at hn; exact hn rfl
    · subst e; cases h.1
  | succ d ih =>
    intro r l h hs hn hv
    rw [wX3_find_L2]
    refine ⟨fun e => ?_, fun b e => ?_⟩
    · subst e; rw [T_none h] at hn; exact hn rfl
    · subst e
      obtain ⟨e, l1, l2, he, hP, h1, h2, hl, -⟩ := T_some h
      cases he
      rw [hl] at hs hn hv
      have hs2 := Srt_app.mp hs
      have hk := lk_app hs k
      dsimp only at hk
      refine ⟨fun c => ?_, fun c => ⟨fun c2 => ?_, fun c2 => ?_⟩⟩
      · rw [if_neg (by omega), if_pos c.symm] at hk
        exact hv b _ hk hP c rfl
      · rw [if_neg (by omega), if_neg (by omega)] at hk
        rw [hk] at hn hv
        exact ih h2 hs2.2.1 hn hv
      · rw [if_pos (by omega)] at hk
        rw [hk] at hn hv
        exact ih h1 hs2.1 hn hv
theorem sp_find {Q : Option Nat → SS → Prop} {k : Int} (h : T σ P d r l) (hs : Srt l) (hn : lk l k = none → Q none σ) (hv : ∀ b v, lk l k = some v → P b → sn σ (b + 64) 0 = k → sn σ (b + 64) 1 = v → Q (some b) σ) : wX3_find r k σ Q :=
  ⟨d + 1, sp_find_L h hs hn hv⟩
/-- how many keys are below, the sum of their values -/
def lo (l : List KV) (k : Int) : List KV := l.filter (fun p => decide (p.1 < k))
theorem lo_app {l1 l2 : List KV} {p : KV} (hs : Srt (l1 ++ p :: l2)) (k : Int) : lo (l1 ++ p :: l2) k = if p.1 < k then l1 ++ p :: lo l2 k else lo l1 k := by
  obtain ⟨h1, h2, h3, h4⟩ := Srt_app.mp hs
  unfold lo
  rw [List.filter_append, List.filter_cons]
  by_cases c : p.1 < k
  · rw [if_pos (by simpa using c), if_pos c, List.filter_eq_self.mpr (fun a ha => by have := h3 a ha; simp; omega)]
  · rw [if_neg (by simpa using c), if_neg c, (List.filter_eq_nil_iff (l := l2)).mpr (fun a ha => by have := h4 a ha; simp; omega), List.append_nil]
theorem lo_len (l : List KV) (k : Int) : (lo l k).length ≤ l.length := List.length_filter_le _ _
theorem sp_countBelow_L {Q : Int → SS → Prop} {a0 : Option Nat} {k : Int} : ∀ {d : Nat} {r : Option Nat} {l : List KV} {n : Int}, T σ P d r l → Srt l → 0 ≤ n → n + l.length ≤ 100000 → Q (n + (lo l k).length) σ → wX3_countBelow_L4 a0 k Q (d + 1) n r σ := by
  intro d
  induction d with
  | zero =>
    intro r l n h hs h0 hn hq
    rw [wX3_countBelow_L4]
    refine ⟨fun e => ?_, fun b e => ?_⟩
    · subst e; rw [T_none h] at hq; exact ⟨⟨by omega, by omega⟩, by simpa [lo] using hq⟩
    · subst e; cases h.1
  | succ d ih =>
    intro r l n h hs h0 hn hq
    rw [wX3_countBelow_L4]
    refine ⟨fun e => ?_, fun b e => ?_⟩
    · subst e; rw [T_none h] at hq; exact ⟨⟨by omega, by omega⟩, by simpa [lo] using hq⟩
    · subst e
      obtain ⟨e, l1, l2, he, hP, h1, h2, hl, -⟩ := T_some h
      cases he
      rw [hl] at hs hq hn
      have hs2 := Srt_app.mp hs
      rw [lo_app hs k] at hq
      simp only [List.length_append, List.length_cons] at hn
      refine ⟨fun c => ?_, fun c => ?_⟩
      · rw [if_neg (by simp; omega)] at hq
        exact ih h1 hs2.1 h0 (by omega) hq
      · rw [if_pos (by simp; omega)] at hq
        refine sp_countOf h1 ?_
        simp only [List.length_append, List.length_cons] at hq
        refine ih h2 hs2.2.1 (by omega) (by omega) ?_
        have e3 : n + ((l1.length : Int) + 1) + ((lo l2 k).length : Int) = n + ((l1.length + ((lo l2 k).length + 1) : Nat) : Int) := by omega
        rw [e3]; exact hq
theorem sp_countBelow {Q : Int → SS → Prop} {k : Int} (h : T σ P d r l) (hs : Srt l) (hl : l.length ≤ 1000) (hq : Q ((lo l k).length : Int) σ) : wX3_countBelow r k σ Q :=
  ⟨d + 1, sp_countBelow_L h hs (by omega) (by omega) (by rw [Int.zero_add]; exact hq)⟩
theorem sp_countWithin {Q : Int → SS → Prop} {a b : Int} (h : T σ P d r l) (hs : Srt l) (hl : l.length ≤ 1000) (hb : b < 1000000) (hb0 : -1000000 < b) (hq : Q ((lo l (b + 1)).length - (lo l a).length : Int) σ) : wX3_countWithin r a b σ Q := by
  refine ⟨⟨by omega, by omega⟩, sp_countBelow h hs hl (sp_countBelow h hs hl ⟨⟨?_, ?_⟩, hq⟩)⟩
  · have := lo_len l a; omega
  · have := lo_len l (b + 1); omega
theorem sp_sumBelow_L {Q : Int → SS → Prop} {a0 : Option Nat} {k : Int} : ∀ {d : Nat} {r : Option Nat} {l : List KV} {n : Int}, T σ P d r l → Srt l → Q (n + sumv (lo l k)) σ → wX3_sumBelow_L5 a0 k Q (d + 1) n r σ := by
  intro d
  induction d with
  | zero =>
    intro r l n h hs hq
    rw [wX3_sumBelow_L5]
    refine ⟨fun e => ?_, fun b e => ?_⟩
    · subst e; rw [T_none h] at hq; simpa [lo, sumv] using hq
    · subst e; cases h.1
  | succ d ih =>
    intro r l n h hs hq
    rw [wX3_sumBelow_L5]
    refine ⟨fun e => ?_, fun b e => ?_⟩
    · subst e; rw [T_none h] at hq; simpa [lo, sumv] using hq
    · subst e
      obtain ⟨e, l1, l2, he, hP, h1, h2, hl, -⟩ := T_some h
      cases he
      rw [hl] at hs hq
      have hs2 := Srt_app.mp hs
      rw [lo_app hs k] at hq
      refine ⟨fun c => ?_, fun c => ?_⟩
      · rw [if_neg (by simp; omega)] at hq
        exact ih h1 hs2.1 hq
      · rw [if_pos (by simp; omega)] at hq
        refine sp_sumOf h1 ?_
        refine ih h2 hs2.2.1 ?_
        rw [sumv_app, sumv] at hq
        dsimp only at hq
        have e3 : n + (sumv l1 + sn σ (b + 64) 1) + sumv (lo l2 k) = n + (sumv l1 + (sn σ (b + 64) 1 + sumv (lo l2 k))) := by omega
        rw [e3]; exact hq
theorem sp_sumBelow {Q : Int → SS → Prop} {k : Int} (h : T σ P d r l) (hs : Srt l) (hq : Q (sumv (lo l k)) σ) : wX3_sumBelow r k σ Q :=
  ⟨d + 1, sp_sumBelow_L h hs (by rw [Int.zero_add]; exact hq)⟩
/-- the key at a place -/
def nk (l : List KV) (i : Int) : Int := if 0 ≤ i then (match l[i.toNat]? with | some p => p.1 | none => -2000000001) else -2000000001
theorem nk_app {l1 l2 : List KV} {p : KV} {i : Int} : nk (l1 ++ p :: l2) i = if i = l1.length then p.1 else if i < l1.length then nk l1 i else nk l2 (i - (l1.length + 1)) := by
  unfold nk
  by_cases c0 : 0 ≤ i
  · obtain ⟨j, rfl⟩ : ∃ j : Nat, i = (j : Int) := ⟨i.toNat, by omega⟩
    rw [if_pos c0]
    by_cases c1 : (j : Int) = l1.length
    · rw [if_pos c1]
      have : j = l1.length := by omega
      subst this
      simp
    · rw [if_neg c1]
      by_cases c2 : (j : Int) < l1.length
      · rw [if_pos c2, if_pos c0]
        simp only [Int.toNat_natCast]
        rw [List.getElem?_append_left (by omega)]
      · rw [if_neg c2, if_pos (by omega)]
        simp only [Int.toNat_natCast]
        rw [List.getElem?_append_right (by omega)]
        have e : j - l1.length = ((j : Int) - ((l1.length : Int) + 1)).toNat + 1 := by omega
        rw [e, List.getElem?_cons_succ]
  · rw [if_neg c0, if_neg (by omega), if_pos (by omega), if_neg c0]
theorem sp_keyAt_L {Q : Int → SS → Prop} {a0 : Option Nat} {a1 : Int} : ∀ {d : Nat} {r : Option Nat} {l : List KV} {i : Int}, T σ P d r l → l.length ≤ 1000 → R32 i → -2147000000 ≤ i → Q (nk l i) σ → wX3_keyAt_L4 a0 a1 Q (d + 1) i r σ := by
  intro d
  induction d with
  | zero =>
    intro r l i h hl hi hi2 hq
    rw [wX3_keyAt_L4]
    refine ⟨fun e => ?_, fun b e => ?_⟩
    · subst e; rw [T_none h] at hq; simpa [nk] using hq
    · subst e; cases h.1
  | succ d ih =>
    intro r l i h hl hi hi2 hq
    rw [wX3_keyAt_L4]
    refine ⟨fun e => ?_, fun b e => ?_⟩
    · subst e; rw [T_none h] at hq; simpa [nk] using hq
    · subst e
      obtain ⟨e, l1, l2, he, hP, h1, h2, hl2, -⟩ := T_some h
      cases he
      rw [hl2] at hq hl
      rw [nk_app] at hq
      simp only [List.length_append, List.length_cons] at hl
      refine sp_countOf h1 ?_
      refine ⟨hi, fun c => ⟨fun c2 => ?_, fun c2 => ?_⟩, fun c => ?_⟩
      · rw [if_neg c, if_neg (by omega)] at hq
        exact ih h2 (by omega) ⟨by omega, by omega⟩ (by omega) hq
      · rw [if_neg c, if_pos (by omega)] at hq
        exact ih h1 (by omega) hi hi2 hq
      · rw [if_pos c] at hq
        exact hq
theorem sp_keyAt {Q : Int → SS → Prop} {i : Int} (h : T σ P d r l) (hl : l.length ≤ 1000) (hi : R32 i) (hi2 : -2147000000 ≤ i) (hq : Q (nk l i) σ) : wX3_keyAt r i σ Q :=
  ⟨d + 1, sp_keyAt_L h hl hi hi2 hq⟩
end
