/-! ===== writes within some cells; rows of entries ===== -/
def Sm (is : List Nat) (σ σ' : SS) : Prop := (∀ i, i ∉ is → ∀ k, sn σ' i k = sn σ i k ∧ sf σ' i k = sf σ i k) ∧ sS σ' = sS σ ∧ sz σ' = sz σ
theorem Sm.rf (is : List Nat) (σ : SS) : Sm is σ σ := ⟨fun _ _ _ => ⟨rfl, rfl⟩, rfl, rfl⟩
theorem Sm.tr {is : List Nat} {σ σ1 σ2 : SS} (h1 : Sm is σ σ1) (h2 : Sm is σ1 σ2) : Sm is σ σ2 := ⟨fun i hi k => ⟨(h2.1 i hi k).1.trans (h1.1 i hi k).1, (h2.1 i hi k).2.trans (h1.1 i hi k).2⟩, h2.2.1.trans h1.2.1, h2.2.2.trans h1.2.2⟩
theorem Sm.up {is js : List Nat} {σ σ1 : SS} (h1 : Sm is σ σ1) (h : ∀ i ∈ is, i ∈ js) : Sm js σ σ1 := ⟨fun i hi k => h1.1 i (fun q => hi (h i q)) k, h1.2⟩
theorem Sm.un {is : List Nat} {σ : SS} {i k : Nat} {v : Int} (h : i ∈ is) : Sm is σ (un σ i k v) := ⟨fun j hj q => ⟨sn_un_i _ _ (fun e => hj (e ▸ h)), rfl⟩, rfl, rfl⟩
theorem Sm.uf {is : List Nat} {σ : SS} {i k : Nat} {v : Option Nat} (h : i ∈ is) : Sm is σ (uf σ i k v) := ⟨fun j hj q => ⟨rfl, sf_uf_i _ _ (fun e => hj (e ▸ h))⟩, rfl, rfl⟩
theorem Sm.T {is : List Nat} {σ σ' : SS} {P : Nat → Prop} (h : Sm is σ σ') (hi : ∀ i ∈ is, i < 64) {d : Nat} {r : Option Nat} {l : List KV} (ht : T σ P d r l) : T σ' P d r l :=
  T_keep (fun _ h => h) (fun b _ k _ => (h.1 (b + 64) (fun q => by have := hi _ q; omega) k).1) (fun b _ k _ => (h.1 (b + 64) (fun q => by have := hi _ q; omega) k).2) ht
theorem Sm.TT {is : List Nat} {σ σ' : SS} {P : Nat → Prop} (h : Sm is σ σ') (hi : ∀ i ∈ is, i < 64) {r : Option Nat} {l : List KV} (ht : TT σ P r l) : TT σ' P r l := ht.elim fun d q => ⟨d, h.T hi q⟩
theorem Sm.GI {is : List Nat} {σ σ' : SS} {P : Nat → Prop} {Z : Nat} (h : Sm is σ σ') (hi : ∀ i ∈ is, i < 64 ∧ i ≠ 1) (hg : GI Z σ P) : GI Z σ' P := by
  obtain ⟨all, sp, c1, c2, c3, c4, c5, c6, c7, c8, c9, c10, c11, c13, c12⟩ := hg
  have hb : ∀ b k, sn σ' (b + 64) k = sn σ (b + 64) k ∧ sf σ' (b + 64) k = sf σ (b + 64) k := fun b k => h.1 (b + 64) (fun q => by have := hi _ q; omega) k
  have h1 : ∀ k, sn σ' 1 k = sn σ 1 k ∧ sf σ' 1 k = sf σ 1 k := fun k => h.1 1 (fun q => (hi _ q).2 rfl) k
  refine ⟨all, sp, ?_, c2, ?_, c4, c5, ?_, c7, ?_, ?_, ?_, ?_, ?_, ?_⟩
  · rw [(h1 0).2]; exact Ch_keep (fun b _ => (hb b 6).2) c1
  · rw [(h1 1).2]; exact Ch_keep (fun b _ => (hb b 7).2) c3
  · rw [h.2.1]; exact c6
  · rw [h.2.2]; exact c8
  · rw [h.2.2]; exact c9
  · rw [(h1 2).1]; exact c10
  · rw [(h1 2).1]; exact c11
  · rw [(h1 3).1]; exact c13
  · intro b hb'; rw [(hb b 8).1, (h1 3).1]; exact c12 b hb'
def RowIs (σ : SS) (x : Nat) (l : List KV) : Prop := sn σ x 2 = l.length ∧ l.length ≤ 200 ∧ ∀ (i : Nat) (p : KV), l[i]? = some p → sn σ (x + 1) i = p.1 ∧ sn σ (x + 2) i = p.2
theorem RowIs.sm {σ σ' : SS} {x : Nat} {l : List KV} {is : List Nat} (h : RowIs σ x l) (hs : Sm is σ σ') (h0 : x ∉ is) (h1 : x + 1 ∉ is) (h2 : x + 2 ∉ is) : RowIs σ' x l :=
  ⟨(hs.1 x h0 2).1.trans h.1, h.2.1, fun i p hp => ⟨(hs.1 _ h1 i).1.trans (h.2.2 i p hp).1, (hs.1 _ h2 i).1.trans (h.2.2 i p hp).2⟩⟩
theorem RowIs.ext {σ σ' : SS} {P P' : Nat → Prop} {n : Int} {x : Nat} {l : List KV} (h : RowIs σ x l) (hs : Ext n σ P σ' P') (hx : x = 15 ∨ x = 18) : RowIs σ' x l :=
  ⟨(hs.2.2.2.1 x (by omega) (by omega) 2).1.trans h.1, h.2.1, fun i p hp => ⟨(hs.2.2.2.1 (x + 1) (by omega) (by omega) i).1.trans (h.2.2 i p hp).1, (hs.2.2.2.1 (x + 2) (by omega) (by omega) i).1.trans (h.2.2 i p hp).2⟩⟩
abbrev rcs (x : Nat) : List Nat := [x, x + 1, x + 2]
section
variable {σ : SS} {P : Nat → Prop}
theorem sp_isIn {Q : Int → SS → Prop} {a b c : Int} (h1 : b ≤ a ∧ a ≤ c → Q 1 σ) (h0 : ¬ (b ≤ a ∧ a ≤ c) → Q 0 σ) : wX8_isIn a b c σ Q :=
  ⟨fun q => h0 (by omega), fun q => ⟨fun q2 => h0 (by omega), fun q2 => h1 (by omega)⟩⟩
theorem sp_add {Q : SS → Prop} {x : Nat} {k v : Int} {l : List KV} (hr : RowIs σ x l) (hl : l.length < 200) (hq : ∀ σ', Sm (rcs x) σ σ' → RowIs σ' x (l ++ [(k, v)]) → Q σ') : wX6_add x k v σ Q := by
  obtain ⟨h1, h2, h3⟩ := hr
  unfold wX6_add
  refine ⟨fun c => by omega, fun c => ⟨by omega, by omega, ?_⟩⟩
  rw [h1]
  have e1 : sn (un σ (x + 1) ((l.length : Int)).toNat k) x 2 = l.length := by rw [sn_un_i _ _ (by omega)]; exact h1
  rw [e1]
  have e2 : sn (un (un σ (x + 1) ((l.length : Int)).toNat k) (x + 2) ((l.length : Int)).toNat v) x 2 = l.length := by rw [sn_un_i _ _ (by omega)]; exact e1
  rw [e2]
  refine ⟨by omega, by omega, ⟨by omega, by omega⟩, hq _ ?_ ?_⟩
  · exact ((Sm.un (is := rcs x) (by simp)).tr (Sm.un (by simp))).tr (Sm.un (by simp))
  · refine ⟨by rw [sn_un_same]; simp, by simp; omega, fun i p hp => ?_⟩
    simp only [Int.toNat_natCast]
    by_cases c2 : i < l.length
    · rw [List.getElem?_append_left c2] at hp
      have h4 := h3 i p hp
      constructor
      · rw [sn_un_i _ _ (by omega), sn_un_i _ _ (by omega), sn_un_k _ _ (by omega)]; exact h4.1
      · rw [sn_un_i _ _ (by omega), sn_un_k _ _ (by omega), sn_un_i _ _ (by omega)]; exact h4.2
    · rw [List.getElem?_append_right (by omega)] at hp
      have hi : i - l.length < 1 := (List.getElem?_eq_some_iff.mp hp).1
      have : i = l.length := by omega
      subst this
      simp at hp
      subst hp
      constructor
      · rw [sn_un_i _ _ (by omega), sn_un_i _ _ (by omega), sn_un_same]
      · rw [sn_un_i _ _ (by omega), sn_un_same]
theorem sp_empty {Q : SS → Prop} {x : Nat} (hq : ∀ σ', Sm (rcs x) σ σ' → RowIs σ' x [] → Q σ') : wX6_empty x σ Q :=
  hq _ (Sm.un (by simp)) ⟨by rw [sn_un_same]; rfl, by simp, fun i p hp => by simp at hp⟩
theorem sp_walk {x : Nat} (hx : x = 15 ∨ x = 18) : ∀ (n : Nat) {fuel : Nat} {σ : SS} {a1 : Option Nat} {a2 : Int} {l l0 : List KV} {Q : SS → Prop}, T σ P n a1 l → RowIs σ x l0 → l0.length + l.length ≤ 200 → n < fuel → 0 ≤ a2 → a2 + n ≤ 40 → (∀ σ', Sm (rcs x) σ σ' → RowIs σ' x (l0 ++ l) → Q σ') → wX6_walk fuel x a1 a2 σ Q := by
  have hx64 : ∀ i ∈ rcs x, i < 64 := fun i hi => by simp at hi; omega
  intro n
  induction n with
  | zero =>
    intro fuel σ a1 a2 l l0 Q h hr hl hf h2 h2n hq
    obtain ⟨f, rfl⟩ : ∃ f, fuel = f + 1 := ⟨fuel - 1, by omega⟩
    obtain ⟨rfl, rfl⟩ := h
    rw [wX6_walk]
    exact ⟨fun _ => hq σ (Sm.rf _ _) (by rw [List.append_nil]; exact hr), fun b e => by cases e⟩
  | succ n ih =>
    intro fuel σ a1 a2 l l0 Q h hr hl hf h2 h2n hq
    obtain ⟨f, rfl⟩ : ∃ f, fuel = f + 1 := ⟨fuel - 1, by omega⟩
    rw [wX6_walk]
    refine ⟨fun e => ?_, fun b e => ⟨fun _ => ⟨⟨by omega, by omega⟩, ?_⟩, fun c => by omega⟩⟩
    · subst e
      rw [T_none h] at hq
      exact hq σ (Sm.rf _ _) (by rw [List.append_nil]; exact hr)
    · subst e
      obtain ⟨e, y, z, he, hP, hy, hz, hl2, -⟩ := T_some h
      cases he
      have hll : y.length + z.length + 1 = l.length := by rw [hl2]; simp; omega
      have nb : ∀ i ∈ rcs x, i ≠ b + 64 := fun i hi => by have := hx64 i hi; omega
      have nb' : b + 64 ∉ rcs x := fun q => nb _ q rfl
      refine ih hy hr (by omega) (by omega) (by omega) (by omega) (fun σ1 s1 r1 => ?_)
      rw [(s1.1 _ nb' 0).1, (s1.1 _ nb' 1).1]
      refine sp_add r1 (by simp; omega) (fun σ2 s2 r2 => ?_)
      have s12 := s1.tr s2
      rw [(s12.1 _ nb' 5).2]
      refine ih (s12.T hx64 hz) r2 (by simp; omega) (by omega) (by omega) (by omega) (fun σ3 s3 r3 => hq σ3 (s12.tr s3) ?_)
      rw [hl2]
      simpa using r3
theorem sp_take {x : Nat} (hx : x = 15 ∨ x = 18) {a1 : Option Nat} {l : List KV} {Q : SS → Prop} (h : TT σ P a1 l) (hl : l.length ≤ 200) (hq : ∀ σ', Sm (rcs x) σ σ' → RowIs σ' x l → Q σ') : wX6_take x a1 σ Q := by
  unfold wX6_take
  have s0 : Sm (rcs x) σ (un σ x 2 0) := Sm.un (by simp)
  have hx64 : ∀ i ∈ rcs x, i < 64 := fun i hi => by simp at hi; omega
  have h15 := s0.T hx64 (T_15 h hl)
  exact sp_walk hx 15 h15 (l0 := []) ⟨by rw [sn_un_same]; rfl, by simp, fun i p hp => by simp at hp⟩ (by simpa using hl) (by omega) (by omega) (by omega) (fun σ' s r => hq σ' (s0.tr s) r)
/-- the value at a place -/
def nv (l : List KV) (i : Int) : Int := if 0 ≤ i then (match l[i.toNat]? with | some p => p.2 | none => -2000000001) else -2000000001
theorem sp_rkeyAt {Q : Int → SS → Prop} {x : Nat} {i : Int} {l : List KV} (hr : RowIs σ x l) (hq : Q (nk l i) σ) : wX6_keyAt x i σ Q := by
  obtain ⟨h1, h2, h3⟩ := hr
  unfold wX6_keyAt
  rw [h1]
  unfold nk at hq
  refine ⟨⟨by omega, by omega⟩, sp_isIn (fun c => ⟨fun q => absurd q (by decide), fun _ => ⟨by omega, by omega, ?_⟩⟩) (fun c => ⟨fun _ => ?_, fun q => absurd rfl q⟩)⟩
  · have hlt : i.toNat < l.length := by omega
    rw [if_pos c.1, List.getElem?_eq_getElem hlt] at hq
    rw [(h3 i.toNat _ (List.getElem?_eq_getElem hlt)).1]
    exact hq
  · by_cases c0 : 0 ≤ i
    · rw [if_pos c0, List.getElem?_eq_none (by omega)] at hq; exact hq
    · rw [if_neg c0] at hq; exact hq
theorem sp_rvalueAt {Q : Int → SS → Prop} {x : Nat} {i : Int} {l : List KV} (hr : RowIs σ x l) (hq : Q (nv l i) σ) : wX6_valueAt x i σ Q := by
  obtain ⟨h1, h2, h3⟩ := hr
  unfold wX6_valueAt
  rw [h1]
  unfold nv at hq
  refine ⟨⟨by omega, by omega⟩, sp_isIn (fun c => ⟨fun q => absurd q (by decide), fun _ => ⟨by omega, by omega, ?_⟩⟩) (fun c => ⟨fun _ => ?_, fun q => absurd rfl q⟩)⟩
  · have hlt : i.toNat < l.length := by omega
    rw [if_pos c.1, List.getElem?_eq_getElem hlt] at hq
    rw [(h3 i.toNat _ (List.getElem?_eq_getElem hlt)).2]
    exact hq
  · by_cases c0 : 0 ≤ i
    · rw [if_pos c0, List.getElem?_eq_none (by omega)] at hq; exact hq
    · rw [if_neg c0] at hq; exact hq
theorem nk_at {l : List KV} {i : Nat} {p : KV} (h : l[i]? = some p) : nk l i = p.1 := by unfold nk; rw [if_pos (by omega), Int.toNat_natCast, h]
theorem nv_at {l : List KV} {i : Nat} {p : KV} (h : l[i]? = some p) : nv l i = p.2 := by unfold nv; rw [if_pos (by omega), Int.toNat_natCast, h]
/-- a piece of a list -/
def seg (l : List KV) (a b : Nat) : List KV := (l.take b).drop a
theorem seg_nil {l : List KV} {a b : Nat} (h : b ≤ a) : seg l a b = [] := by
  unfold seg
  apply List.drop_eq_nil_of_le
  rw [List.length_take]; omega
theorem seg_len {l : List KV} {a b : Nat} (hb : b ≤ l.length) : (seg l a b).length = b - a := by
  unfold seg
  rw [List.length_drop, List.length_take]; omega
theorem seg_mid {l : List KV} {a m b : Nat} {p : KV} (h1 : a ≤ m) (h2 : m < b) (hb : b ≤ l.length) (hp : l[m]? = some p) : seg l a b = seg l a m ++ p :: seg l (m + 1) b := by
  unfold seg
  apply List.ext_getElem?
  intro i
  rw [List.getElem?_drop, List.getElem?_take]
  by_cases c : i < m - a
  · rw [List.getElem?_append_left (by rw [List.length_drop, List.length_take]; omega), List.getElem?_drop, List.getElem?_take, if_pos (by omega), if_pos (by omega)]
  · have hlen : ((l.take m).drop a).length = m - a := by rw [List.length_drop, List.length_take]; omega
    rw [List.getElem?_append_right (by omega), hlen]
    by_cases c2 : i = m - a
    · subst c2
      rw [Nat.sub_self, List.getElem?_cons_zero, show a + (m - a) = m by omega, if_pos (by omega), hp]
    · obtain ⟨j, hj⟩ : ∃ j, i - (m - a) = j + 1 := ⟨i - (m - a) - 1, by omega⟩
      rw [hj, List.getElem?_cons_succ, List.getElem?_drop, List.getElem?_take]
      have : m + 1 + j = a + i := by omega
      rw [this]
theorem seg_all (l : List KV) : seg l 0 l.length = l := by unfold seg; simp
theorem seg_sub (l : List KV) (a b : Nat) : ∀ p ∈ seg l a b, p ∈ l := fun _ h => List.mem_of_mem_take (List.mem_of_mem_drop h)
theorem sp_built {Z tp : Nat} {TM : Int} (hB : BT Z tp TM) {x : Nat} (hx : x = 15 ∨ x = 18) {l : List KV} (hV : Vok l) : ∀ (n : Nat) {fuel : Nat} {σ : SS} {P : Nat → Prop} {a b : Nat} {a4 : Int} {Q : Option Nat → SS → Prop}, RowIs σ x l → b - a < 2 ^ n → b ≤ l.length → n < fuel → 0 ≤ a4 → a4 + n ≤ 40 → GI Z σ P → sn σ 1 2 + ((b - a : Nat) : Int) * 55 ≤ TM → (∀ (r : Option Nat) (σ' : SS) (P' : Nat → Prop), GI Z σ' P' → Ext (((b - a : Nat) : Int) * 55) σ P σ' P' → TT σ' P' r (seg l a b) → Q r σ') → wX2_built fuel tp x a b a4 σ Q := by
  intro n
  induction n with
  | zero =>
    intro fuel σ P a b a4 Q hr hn hb hf h4 h4n hG ht hq
    obtain ⟨f, rfl⟩ : ∃ f, fuel = f + 1 := ⟨fuel - 1, by omega⟩
    rw [wX2_built]
    have : b ≤ a := by simp at hn; omega
    refine ⟨fun _ => hq none σ P hG (Ext.rf.up (by omega)) (by rw [seg_nil this]; exact TT_nil), fun c => by omega⟩
  | succ n ih =>
    intro fuel σ P a b a4 Q hr hn hb hf h4 h4n hG ht hq
    obtain ⟨f, rfl⟩ : ∃ f, fuel = f + 1 := ⟨fuel - 1, by omega⟩
    have hl := hr.2.1
    rw [wX2_built]
    refine ⟨fun c => hq none σ P hG (Ext.rf.up (by omega)) (by rw [seg_nil (by omega)]; exact TT_nil), fun c => ⟨fun _ => ?_, fun c2 => by omega⟩⟩
    obtain ⟨m, hm⟩ : ∃ m : Nat, m = (a + b) / 2 := ⟨_, rfl⟩
    have em : Int.tdiv ((a : Int) + (b : Int)) 2 = (m : Int) := by
      rw [Int.tdiv_eq_ediv_of_nonneg (by omega)]; omega
    rw [em]
    have hpow : 2 ^ (n + 1) = 2 * 2 ^ n := by rw [Nat.pow_succ]; omega
    obtain ⟨p, hp⟩ : ∃ p, l[m]? = some p := ⟨_, List.getElem?_eq_getElem (show m < l.length by omega)⟩
    refine ⟨⟨by omega, by omega⟩, ⟨by omega, by omega⟩, ⟨by omega, by omega⟩, ?_⟩
    refine ih hr (by omega) (by omega) (by omega) (by omega) (by omega) hG (by omega) (fun r1 σ1 P1 g1 e1 t1 => ⟨⟨by omega, by omega⟩, ?_⟩)
    have r1' := hr.ext e1 hx
    have cast : ((m : Int) + 1) = ((m + 1 : Nat) : Int) := by omega
    rw [cast]
    refine ih r1' (by omega) hb (by omega) (by omega) (by omega) g1 (by have := e1.tk; omega) (fun r2 σ2 P2 g2 e2 t2 => ?_)
    have r2' := r1'.ext e2 hx
    refine sp_rkeyAt r2' (sp_rvalueAt r2' ?_)
    rw [nk_at hp, nv_at hp]
    have e12 := e1.tr e2 (Int.le_refl _)
    have hs := seg_mid (l := l) (a := a) (m := m) (b := b) (p := p) (by omega) (by omega) hb hp
    have hsl := seg_len (l := l) (a := a) hb
    refine sp_join401 hB (e2.TT t1) t2 g2 (by have := e12.tk; omega) ?_ ?_ (fun r3 σ3 P3 g3 e3 t3 => hq r3 σ3 P3 g3 (e12.tr e3 (by omega)) ?_)
    · rw [← hs]; exact Vok_sub hV (seg_sub l a b)
    · rw [← hs]; omega
    · rw [hs]; exact t3
theorem sp_isWell : ∀ (n : Nat) {fuel : Nat} {σ : SS} {r : Option Nat} {l : List KV} {lo1 hi1 a3 : Int} {Q : Int → SS → Prop}, T σ P n r l → Srt l → Vok l → l.length ≤ 1000 → (∀ p ∈ l, lo1 < p.1 ∧ p.1 < hi1) → n < fuel → 0 ≤ a3 → a3 + n ≤ 41 → Q 1 σ → wX2_isWell fuel r lo1 hi1 a3 σ Q := by
  intro n
  induction n with
  | zero =>
    intro fuel σ r l lo1 hi1 a3 Q h hs hv hl hk hf h3 h3n hq
    obtain ⟨f, rfl⟩ : ∃ f, fuel = f + 1 := ⟨fuel - 1, by omega⟩
    obtain ⟨rfl, rfl⟩ := h
    rw [wX2_isWell]
    exact ⟨fun _ => hq, fun b e => by cases e⟩
  | succ n ih =>
    intro fuel σ r l lo1 hi1 a3 Q h hs hv hl hk hf h3 h3n hq
    obtain ⟨f, rfl⟩ : ∃ f, fuel = f + 1 := ⟨fuel - 1, by omega⟩
    rw [wX2_isWell]
    refine ⟨fun _ => hq, fun b e => ?_⟩
    subst e
    obtain ⟨e, x, y, he, hP, hx, hy, hl2, hc, hsum, hb⟩ := T_some h
    cases he
    rw [hl2] at hs hv hk
    obtain ⟨s1, s2, s3, s4⟩ := Srt_app.mp hs
    obtain ⟨vx, vq, vy⟩ := Vok_app.mp hv
    have hll : x.length + y.length + 1 = l.length := by rw [hl2]; simp; omega
    have hkb := hk (sn σ (b + 64) 0, sn σ (b + 64) 1) (by simp)
    dsimp only at hkb
    have b1 := sumv_in vx
    have b2 := sumv_in vy
    refine sp_countOf hx (sp_countOf hy ⟨⟨by omega, by omega⟩, fun c => ?_, fun _ => ?_⟩)
    · exact absurd (by rw [hc]; omega) c
    · unfold wX2_isWell_L35
      refine ⟨b, rfl, sp_sumOf hx (sp_sumOf hy ⟨⟨by omega, by omega⟩, fun c => ?_, fun _ => ?_⟩)⟩
      · refine absurd ?_ c
        rw [hsum, hl2, sumv_app, sumv]; omega
      · unfold wX2_isWell_L71
        refine ⟨b, rfl, fun c => by omega, fun _ => ⟨fun c => by omega, fun _ => ?_⟩⟩
        unfold wX2_isWell_L94
        refine ⟨b, rfl, sp_weightOf hx (by omega) (sp_weightOf hy (by omega) (sp_isBalanced rfl rfl (by unfold tw; omega) (by unfold tw; omega) (fun _ => ?_) (fun c => absurd hb c)))⟩
        refine ⟨fun c => by omega, fun _ => ⟨⟨by omega, by omega⟩, fun c => absurd c (by decide), fun _ => ⟨⟨by omega, by omega⟩, fun c => absurd c (by decide), fun _ => ⟨⟨by omega, by omega⟩, fun c => absurd c (by decide), fun _ => ⟨fun c => absurd c (by decide), fun _ => ⟨⟨by omega, by omega⟩, ?_⟩⟩⟩⟩⟩⟩
        refine ih hx s1 vx (by omega) (fun p hp => ⟨(hk p (by simp [hp])).1, s3 p hp⟩) (by omega) (by omega) (by omega) ⟨fun c => absurd c (by decide), fun _ => ?_⟩
        exact ih hy s2 vy (by omega) (fun p hp => ⟨s4 p hp, (hk p (by simp [hp])).2⟩) (by omega) (by omega) (by omega) ⟨fun c => absurd c (by decide), fun _ => hq⟩
end
