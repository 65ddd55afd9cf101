/-! ===== join, below, above, chain, with, without ===== -/
section
variable {Z tp : Nat} {TM : Int}
theorem sp_joinL (hB : BT Z tp TM) : ∀ (n : Nat) {fuel : Nat} {σ : SS} {P : Nat → Prop} {a1 a4 : Option Nat} {k v a5 : Int} {lL lR : List KV} {Q : Option Nat → SS → Prop}, T σ P n a1 lL → TT σ P a4 lR → tw lR ≤ 3 * tw lL → n < fuel → 0 ≤ a5 → a5 + n ≤ 40 → GI Z σ P → sn σ 1 2 + (3 * n + 1) ≤ TM → Vok (lL ++ (k, v) :: lR) → (lL ++ (k, v) :: lR).length ≤ 1000 →
    (∀ (r : Option Nat) (σ' : SS) (P' : Nat → Prop), GI Z σ' P' → Ext (3 * n + 1) σ P σ' P' → TT σ' P' r (lL ++ (k, v) :: lR) → Q r σ') → wX2_join fuel tp a1 k v a4 a5 σ Q := by
  intro n
  induction n with
  | zero =>
    intro fuel σ P a1 a4 k v a5 lL lR Q h1 h4 hw hf h5 h5n hG ht hV hlen hq
    obtain ⟨f, rfl⟩ : ∃ f, fuel = f + 1 := ⟨fuel - 1, by omega⟩
    obtain ⟨rfl, rfl⟩ := h1
    have hl2 : lR.length + 1 ≤ 1000 := by simpa using hlen
    rw [wX2_join]
    refine sp_weightOfT (TT_nil (P := P)) (by simp) (sp_weightOfT h4 (by omega) ⟨fun c => by omega, fun _ => ?_⟩)
    refine sp_isBalanced rfl rfl (by unfold tw; simp) (by unfold tw; omega) (fun hb => ⟨fun c => absurd c (by decide), fun _ => ?_⟩) (fun hnb => ?_)
    · exact sp_nodeT hG (by omega) hB TT_nil h4 hV hlen hb (fun b σ' P' g e t => hq _ σ' P' g (e.up (by omega)) t)
    · exfalso
      apply hnb
      have := tw_pos lR
      unfold bal
      have e : tw ([] : List KV) = 1 := rfl
      omega
  | succ n ih =>
    intro fuel σ P a1 a4 k v a5 lL lR Q h1 h4 hw hf h5 h5n hG ht hV hlen hq
    obtain ⟨f, rfl⟩ : ∃ f, fuel = f + 1 := ⟨fuel - 1, by omega⟩
    have hl2 : lL.length + lR.length + 1 ≤ 1000 := by simp only [List.length_append, List.length_cons] at hlen; omega
    have h1T : TT σ P a1 lL := ⟨_, h1⟩
    rw [wX2_join]
    refine sp_weightOfT h1T (by omega) (sp_weightOfT h4 (by omega) ⟨fun c => by omega, fun _ => ?_⟩)
    refine sp_isBalanced rfl rfl (by unfold tw; omega) (by unfold tw; omega) (fun hb => ⟨fun c => absurd c (by decide), fun _ => ?_⟩) (fun hnb => ⟨fun _ => ?_, fun c => absurd rfl c⟩)
    · exact sp_nodeT hG (by omega) hB h1T h4 hV hlen hb (fun b σ' P' g e t => hq _ σ' P' g (e.up (by omega)) t)
    · have hbig : 3 * tw lR < tw lL := by unfold bal at hnb; omega
      have pR := tw_pos lR
      refine ⟨fun e => ?_, fun b e => ?_⟩
      · have : lL = [] := (TT_isnil h1T).mp e
        subst this
        have e2 : tw ([] : List KV) = 1 := rfl
        omega
      · subst e
        obtain ⟨e, x, y, he, hP, hx, hy, hl, -, -, hb1, hb2⟩ := T_some h1
        cases he
        have hwl : tw lL = tw x + tw y := by rw [hl]; exact tw_app _ _ _
        have hll : x.length + y.length + 1 = lL.length := by rw [hl]; simp; omega
        rw [hl] at hV
        obtain ⟨vL, vk, vR⟩ := Vok_app.mp hV
        obtain ⟨vx, vq, vy⟩ := Vok_app.mp vL
        refine ⟨fun c => by omega, fun _ => ⟨⟨by omega, by omega⟩, ?_⟩⟩
        refine ih hy h4 (by omega) (by omega) (by omega) (by omega) hG (by omega) (Vok_app.mpr ⟨vy, vk, vR⟩) (by simp; omega) (fun r σ' P' g e t => ?_)
        refine sp_turnedLeft g (by have := e.tk; omega) hB (e.TT ⟨_, hx⟩) t (by simp) (by rw [tw_app]; omega) (by rw [tw_app]; omega) (Vok_app.mpr ⟨vx, vq, Vok_app.mpr ⟨vy, vk, vR⟩⟩) (by simp; omega) (fun r' σ'' P'' g' e' t' => hq _ σ'' P'' g' (e.tr e' (by omega)) ?_)
        rw [hl]
        simpa using t'
theorem sp_joinR (hB : BT Z tp TM) : ∀ (n : Nat) {fuel : Nat} {σ : SS} {P : Nat → Prop} {a1 a4 : Option Nat} {k v a5 : Int} {lL lR : List KV} {Q : Option Nat → SS → Prop}, TT σ P a1 lL → T σ P n a4 lR → tw lL ≤ 3 * tw lR → n < fuel → 0 ≤ a5 → a5 + n ≤ 40 → GI Z σ P → sn σ 1 2 + (3 * n + 1) ≤ TM → Vok (lL ++ (k, v) :: lR) → (lL ++ (k, v) :: lR).length ≤ 1000 →
    (∀ (r : Option Nat) (σ' : SS) (P' : Nat → Prop), GI Z σ' P' → Ext (3 * n + 1) σ P σ' P' → TT σ' P' r (lL ++ (k, v) :: lR) → Q r σ') → wX2_join fuel tp a1 k v a4 a5 σ Q := by
  intro n
  induction n with
  | zero =>
    intro fuel σ P a1 a4 k v a5 lL lR Q h1 h4 hw hf h5 h5n hG ht hV hlen hq
    obtain ⟨f, rfl⟩ : ∃ f, fuel = f + 1 := ⟨fuel - 1, by omega⟩
    obtain ⟨rfl, rfl⟩ := h4
    have hl2 : lL.length + 1 ≤ 1000 := by simpa using hlen
    rw [wX2_join]
    refine sp_weightOfT h1 (by omega) (sp_weightOfT (TT_nil (P := P)) (by simp) ⟨fun c => by omega, fun _ => ?_⟩)
    refine sp_isBalanced rfl rfl (by unfold tw; omega) (by unfold tw; simp) (fun hb => ⟨fun c => absurd c (by decide), fun _ => ?_⟩) (fun hnb => ?_)
    · exact sp_nodeT hG (by omega) hB h1 TT_nil hV hlen hb (fun b σ' P' g e t => hq _ σ' P' g (e.up (by omega)) t)
    · exfalso
      apply hnb
      have := tw_pos lL
      unfold bal
      have e : tw ([] : List KV) = 1 := rfl
      omega
  | succ n ih =>
    intro fuel σ P a1 a4 k v a5 lL lR Q h1 h4 hw hf h5 h5n hG ht hV hlen hq
    obtain ⟨f, rfl⟩ : ∃ f, fuel = f + 1 := ⟨fuel - 1, by omega⟩
    have hl2 : lL.length + lR.length + 1 ≤ 1000 := by simp only [List.length_append, List.length_cons] at hlen; omega
    have h4T : TT σ P a4 lR := ⟨_, h4⟩
    rw [wX2_join]
    refine sp_weightOfT h1 (by omega) (sp_weightOfT h4T (by omega) ⟨fun c => by omega, fun _ => ?_⟩)
    refine sp_isBalanced rfl rfl (by unfold tw; omega) (by unfold tw; omega) (fun hb => ⟨fun c => absurd c (by decide), fun _ => ?_⟩) (fun hnb => ⟨fun _ => ?_, fun c => absurd rfl c⟩)
    · exact sp_nodeT hG (by omega) hB h1 h4T hV hlen hb (fun b σ' P' g e t => hq _ σ' P' g (e.up (by omega)) t)
    · have hbig : 3 * tw lL < tw lR := by unfold bal at hnb; omega
      have pL := tw_pos lL
      have go : wX2_join_L84 (wX2_join f) tp a1 k v a4 a5 Q (tw lL : Int) (tw lR : Int) σ := by
        unfold wX2_join_L84
        refine ⟨fun e => ?_, fun b e => ?_⟩
        · have : lR = [] := (TT_isnil h4T).mp e
          subst this
          have e2 : tw ([] : List KV) = 1 := rfl
          omega
        · subst e
          obtain ⟨e, x, y, he, hP, hx, hy, hl, -, -, hb1, hb2⟩ := T_some h4
          cases he
          have hwl : tw lR = tw x + tw y := by rw [hl]; exact tw_app _ _ _
          have hll : x.length + y.length + 1 = lR.length := by rw [hl]; simp; omega
          rw [hl] at hV
          obtain ⟨vL, vk, vR⟩ := Vok_app.mp hV
          obtain ⟨vx, vq, vy⟩ := Vok_app.mp vR
          refine ⟨⟨by unfold tw; omega, by unfold tw; omega⟩, ⟨by unfold tw; omega, by unfold tw; omega⟩, fun c => by omega, fun _ => ⟨⟨by omega, by omega⟩, ?_⟩⟩
          refine ih h1 hx (by omega) (by omega) (by omega) (by omega) hG (by omega) (Vok_app.mpr ⟨vL, vk, vx⟩) (by simp; omega) (fun r σ' P' g e t => ?_)
          rw [e.2.1 b hP 0 (by decide), e.2.1 b hP 1 (by decide), e.2.2.1 b hP 5 (Or.inr rfl)]
          refine sp_turnedRight g (by have := e.tk; omega) hB (e.TT ⟨_, hy⟩) t (by simp) (by rw [tw_app]; omega) (by rw [tw_app]; omega) (Vok_app.mpr ⟨Vok_app.mpr ⟨vL, vk, vx⟩, vq, vy⟩) (by simp; omega) (fun r' σ'' P'' g' e' t' => hq _ σ'' P'' g' (e.tr e' (by omega)) ?_)
          rw [hl]
          simpa using t'
      exact ⟨fun e => go, fun b e => ⟨fun c => go, fun c => by omega⟩⟩
theorem sp_join (hB : BT Z tp TM) {D fuel : Nat} {σ : SS} {P : Nat → Prop} {a1 a4 : Option Nat} {k v a5 : Int} {lL lR : List KV} {Q : Option Nat → SS → Prop} (h1 : T σ P D a1 lL) (h4 : T σ P D a4 lR) (hf : D < fuel) (h5 : 0 ≤ a5) (h5n : a5 + D ≤ 40) (hG : GI Z σ P) (ht : sn σ 1 2 + (3 * D + 1) ≤ TM) (hV : Vok (lL ++ (k, v) :: lR)) (hlen : (lL ++ (k, v) :: lR).length ≤ 1000)
    (hq : ∀ (r : Option Nat) (σ' : SS) (P' : Nat → Prop), GI Z σ' P' → Ext (3 * D + 1) σ P σ' P' → TT σ' P' r (lL ++ (k, v) :: lR) → Q r σ') : wX2_join fuel tp a1 k v a4 a5 σ Q := by
  by_cases c : tw lR ≤ 3 * tw lL
  · exact sp_joinL hB D h1 ⟨_, h4⟩ c hf h5 h5n hG ht hV hlen hq
  · exact sp_joinR hB D ⟨_, h1⟩ h4 (by omega) hf h5 h5n hG ht hV hlen hq
theorem T_18 {σ : SS} {P : Nat → Prop} {r : Option Nat} {l : List KV} (h : TT σ P r l) (hl : l.length ≤ 401) : T σ P 18 r l := by
  obtain ⟨d, h⟩ := h
  have := T_deep 402 h (show tw l ≤ 402 by unfold tw; omega) (Nat.le_refl _)
  rwa [show dp 402 402 = 18 by decide +kernel] at this
theorem T_15 {σ : SS} {P : Nat → Prop} {r : Option Nat} {l : List KV} (h : TT σ P r l) (hl : l.length ≤ 200) : T σ P 15 r l := by
  obtain ⟨d, h⟩ := h
  have := T_deep 201 h (show tw l ≤ 201 by unfold tw; omega) (Nat.le_refl _)
  rwa [show dp 201 201 = 15 by decide +kernel] at this
theorem T_det {σ : SS} {P : Nat → Prop} : ∀ {d e : Nat} {r : Option Nat} {l l' : List KV}, T σ P d r l → T σ P e r l' → l = l' := by
  intro d
  induction d with
  | zero =>
    intro e r l l' h h'
    obtain ⟨rfl, rfl⟩ := h
    exact (T_none h').symm
  | succ d ih =>
    intro e r l l' h h'
    cases r with
    | none => rw [T_none h, T_none h']
    | some b =>
      obtain ⟨f, l1, l2, hf, -, h1, h2, hl, -⟩ := T_some h
      cases hf
      obtain ⟨f', m1, m2, hf', -, g1, g2, gl, -⟩ := T_some h'
      rw [hl, gl, ih h1 g1, ih h2 g2]
theorem TT_det {σ : SS} {P : Nat → Prop} {r : Option Nat} {l l' : List KV} (h : TT σ P r l) (h' : TT σ P r l') : l = l' := by
  obtain ⟨d, h⟩ := h
  obtain ⟨e, h'⟩ := h'
  exact T_det h h'
/-- the entries above a key -/
def hi (l : List KV) (k : Int) : List KV := l.filter (fun p => decide (k < p.1))
theorem hi_app {l1 l2 : List KV} {p : KV} (hs : Srt (l1 ++ p :: l2)) (k : Int) : hi (l1 ++ p :: l2) k = if k < p.1 then hi l1 k ++ p :: l2 else hi l2 k := by
  obtain ⟨h1, h2, h3, h4⟩ := Srt_app.mp hs
  unfold hi
  rw [List.filter_append, List.filter_cons]
  by_cases c : k < p.1
  · rw [if_pos (by simpa using c), if_pos c, (List.filter_eq_self (l := l2)).mpr (fun a ha => by have := h4 a ha; simp; omega)]
  · rw [if_neg (by simpa using c), if_neg c, (List.filter_eq_nil_iff (l := l1)).mpr (fun a ha => by have := h3 a ha; simp; omega), List.nil_append]
theorem hi_len (l : List KV) (k : Int) : (hi l k).length ≤ l.length := List.length_filter_le _ _
theorem lo_sub (l : List KV) (k : Int) : ∀ p ∈ lo l k, p ∈ l := fun _ h => (List.mem_filter.mp h).1
theorem hi_sub (l : List KV) (k : Int) : ∀ p ∈ hi l k, p ∈ l := fun _ h => (List.mem_filter.mp h).1
theorem Srt_lo {l : List KV} (h : Srt l) (k : Int) : Srt (lo l k) := List.Pairwise.filter _ h
theorem Srt_hi {l : List KV} (h : Srt l) (k : Int) : Srt (hi l k) := List.Pairwise.filter _ h
theorem sp_below (hB : BT Z tp TM) : ∀ (n : Nat) {D fuel : Nat} {σ : SS} {P : Nat → Prop} {a1 : Option Nat} {k a3 : Int} {l : List KV} {Q : Option Nat → SS → Prop}, T σ P n a1 l → Srt l → (∀ (σ' : SS) (P' : Nat → Prop) (r' : Option Nat) (l' : List KV), TT σ' P' r' l' → l'.length ≤ l.length → T σ' P' D r' l') → D ≤ 20 → n < fuel → 0 ≤ a3 → a3 + n ≤ 40 → GI Z σ P → sn σ 1 2 + n * (3 * D + 1) ≤ TM → Vok l → l.length ≤ 900 →
    (∀ (r : Option Nat) (σ' : SS) (P' : Nat → Prop), GI Z σ' P' → Ext (n * (3 * D + 1)) σ P σ' P' → TT σ' P' r (lo l k) → Q r σ') → wX2_below fuel tp a1 k a3 σ Q := by
  intro n
  induction n with
  | zero =>
    intro D fuel σ P a1 k a3 l Q h hs hD hD20 hf h3 h3n hG ht hV hl hq
    obtain ⟨f, rfl⟩ : ∃ f, fuel = f + 1 := ⟨fuel - 1, by omega⟩
    obtain ⟨rfl, rfl⟩ := h
    rw [wX2_below]
    exact ⟨fun _ => hq none σ P hG (Ext.rf.up (by omega)) TT_nil, fun b e => by cases e⟩
  | succ n ih =>
    intro D fuel σ P a1 k a3 l Q h hs hD hD20 hf h3 h3n hG ht hV hl hq
    obtain ⟨f, rfl⟩ : ∃ f, fuel = f + 1 := ⟨fuel - 1, by omega⟩
    have hmul : ((n + 1 : Nat) : Int) * (3 * D + 1) = n * (3 * D + 1) + (3 * D + 1) := by
      rw [Int.natCast_add, Int.add_mul]; simp
    have hnn : (0 : Int) ≤ n * (3 * D + 1) := Int.mul_nonneg (by omega) (by omega)
    rw [hmul] at ht hq
    rw [wX2_below]
    refine ⟨fun e => ?_, fun b e => ⟨fun c => ⟨fun c2 => ⟨⟨by omega, by omega⟩, ?_⟩, fun c2 => ⟨⟨by omega, by omega⟩, ?_⟩⟩, fun c => by omega⟩⟩
    · subst e
      rw [T_none h] at hq
      exact hq none σ P hG (Ext.rf.up (by omega)) TT_nil
    · subst e
      have hT := h
      obtain ⟨e, x, y, he, hP, hx, hy, hl2, hrest⟩ := T_some h
      cases he
      rw [hl2] at hs hV
      have hll : x.length + y.length + 1 = l.length := by rw [hl2]; simp; omega
      obtain ⟨s1, s2, s3, s4⟩ := Srt_app.mp hs
      obtain ⟨vx, vq, vy⟩ := Vok_app.mp hV
      have hlo : lo l k = x ++ (sn σ (b + 64) 0, sn σ (b + 64) 1) :: lo y k := by rw [hl2, lo_app hs k, if_pos c2]
      refine ih hy s2 (fun σ' P' r' l' ht' hl' => hD σ' P' r' l' ht' (by omega)) hD20 (by omega) (by omega) (by omega) hG (by omega) vy (by omega) (fun r σ' P' g e t => ?_)
      rw [e.2.1 b hP 0 (by decide), e.2.1 b hP 1 (by decide), e.2.2.1 b hP 4 (Or.inl rfl), e.2.2.1 b hP 5 (Or.inr rfl)]
      have hly := lo_len y k
      refine ⟨fun c3 => ?_, fun c3 => ?_⟩
      · refine sp_join hB (hD σ' P' _ x (e.TT ⟨_, hx⟩) (by omega)) (hD σ' P' _ _ t (by omega)) (by omega) (by omega) (by omega) g (by have := e.tk; omega) (Vok_app.mpr ⟨vx, vq, Vok_sub vy (lo_sub y k)⟩) (by simp; omega) (fun r' σ'' P'' g' e' t' => hq _ σ'' P'' g' (e.tr e' (by omega)) ?_)
        rw [hlo]; exact t'
      · subst c3
        have hyy : lo y k = y := TT_det t (e.TT ⟨_, hy⟩)
        refine hq _ σ' P' g (e.up (by omega)) ?_
        rw [hlo, hyy, ← hl2]
        exact e.TT ⟨_, hT⟩
    · subst e
      obtain ⟨e, x, y, he, hP, hx, hy, hl2, hrest⟩ := T_some h
      cases he
      rw [hl2] at hs hV
      have hll : x.length + y.length + 1 = l.length := by rw [hl2]; simp; omega
      obtain ⟨s1, s2, s3, s4⟩ := Srt_app.mp hs
      obtain ⟨vx, vq, vy⟩ := Vok_app.mp hV
      have hlo : lo l k = lo x k := by rw [hl2, lo_app hs k, if_neg c2]
      refine ih hx s1 (fun σ' P' r' l' ht' hl' => hD σ' P' r' l' ht' (by omega)) hD20 (by omega) (by omega) (by omega) hG (by omega) vx (by omega) (fun r σ' P' g e t => hq _ σ' P' g (e.up (by omega)) ?_)
      rw [hlo]; exact t
theorem sp_above (hB : BT Z tp TM) : ∀ (n : Nat) {D fuel : Nat} {σ : SS} {P : Nat → Prop} {a1 : Option Nat} {k a3 : Int} {l : List KV} {Q : Option Nat → SS → Prop}, T σ P n a1 l → Srt l → (∀ (σ' : SS) (P' : Nat → Prop) (r' : Option Nat) (l' : List KV), TT σ' P' r' l' → l'.length ≤ l.length → T σ' P' D r' l') → D ≤ 20 → n < fuel → 0 ≤ a3 → a3 + n ≤ 40 → GI Z σ P → sn σ 1 2 + n * (3 * D + 1) ≤ TM → Vok l → l.length ≤ 900 →
    (∀ (r : Option Nat) (σ' : SS) (P' : Nat → Prop), GI Z σ' P' → Ext (n * (3 * D + 1)) σ P σ' P' → TT σ' P' r (hi l k) → Q r σ') → wX2_above fuel tp a1 k a3 σ Q := by
  intro n
  induction n with
  | zero =>
    intro D fuel σ P a1 k a3 l Q h hs hD hD20 hf h3 h3n hG ht hV hl hq
    obtain ⟨f, rfl⟩ : ∃ f, fuel = f + 1 := ⟨fuel - 1, by omega⟩
    obtain ⟨rfl, rfl⟩ := h
    rw [wX2_above]
    exact ⟨fun _ => hq none σ P hG (Ext.rf.up (by omega)) TT_nil, fun b e => by cases e⟩
  | succ n ih =>
    intro D fuel σ P a1 k a3 l Q h hs hD hD20 hf h3 h3n hG ht hV hl hq
    obtain ⟨f, rfl⟩ : ∃ f, fuel = f + 1 := ⟨fuel - 1, by omega⟩
    have hmul : ((n + 1 : Nat) : Int) * (3 * D + 1) = n * (3 * D + 1) + (3 * D + 1) := by
      rw [Int.natCast_add, Int.add_mul]; simp
    have hnn : (0 : Int) ≤ n * (3 * D + 1) := Int.mul_nonneg (by omega) (by omega)
    rw [hmul] at ht hq
    rw [wX2_above]
    refine ⟨fun e => ?_, fun b e => ⟨fun c => ⟨fun c2 => ⟨⟨by omega, by omega⟩, ?_⟩, fun c2 => ⟨⟨by omega, by omega⟩, ?_⟩⟩, fun c => by omega⟩⟩
    · subst e
      rw [T_none h] at hq
      exact hq none σ P hG (Ext.rf.up (by omega)) TT_nil
    · subst e
      have hT := h
      obtain ⟨e, x, y, he, hP, hx, hy, hl2, hrest⟩ := T_some h
      cases he
      rw [hl2] at hs hV
      have hll : x.length + y.length + 1 = l.length := by rw [hl2]; simp; omega
      obtain ⟨s1, s2, s3, s4⟩ := Srt_app.mp hs
      obtain ⟨vx, vq, vy⟩ := Vok_app.mp hV
      have hlo : hi l k = hi x k ++ (sn σ (b + 64) 0, sn σ (b + 64) 1) :: y := by rw [hl2, hi_app hs k, if_pos c2]
      refine ih hx s1 (fun σ' P' r' l' ht' hl' => hD σ' P' r' l' ht' (by omega)) hD20 (by omega) (by omega) (by omega) hG (by omega) vx (by omega) (fun r σ' P' g e t => ?_)
      rw [e.2.1 b hP 0 (by decide), e.2.1 b hP 1 (by decide), e.2.2.1 b hP 4 (Or.inl rfl), e.2.2.1 b hP 5 (Or.inr rfl)]
      have hly := hi_len x k
      refine ⟨fun c3 => ?_, fun c3 => ?_⟩
      · refine sp_join hB (hD σ' P' _ _ t (by omega)) (hD σ' P' _ y (e.TT ⟨_, hy⟩) (by omega)) (by omega) (by omega) (by omega) g (by have := e.tk; omega) (Vok_app.mpr ⟨Vok_sub vx (hi_sub x k), vq, vy⟩) (by simp; omega) (fun r' σ'' P'' g' e' t' => hq _ σ'' P'' g' (e.tr e' (by omega)) ?_)
        rw [hlo]; exact t'
      · subst c3
        have hyy : hi x k = x := TT_det t (e.TT ⟨_, hx⟩)
        refine hq _ σ' P' g (e.up (by omega)) ?_
        rw [hlo, hyy, ← hl2]
        exact e.TT ⟨_, hT⟩
    · subst e
      obtain ⟨e, x, y, he, hP, hx, hy, hl2, hrest⟩ := T_some h
      cases he
      rw [hl2] at hs hV
      have hll : x.length + y.length + 1 = l.length := by rw [hl2]; simp; omega
      obtain ⟨s1, s2, s3, s4⟩ := Srt_app.mp hs
      obtain ⟨vx, vq, vy⟩ := Vok_app.mp hV
      have hlo : hi l k = hi y k := by rw [hl2, hi_app hs k, if_neg c2]
      refine ih hy s2 (fun σ' P' r' l' ht' hl' => hD σ' P' r' l' ht' (by omega)) hD20 (by omega) (by omega) (by omega) hG (by omega) vy (by omega) (fun r σ' P' g e t => hq _ σ' P' g (e.up (by omega)) ?_)
      rw [hlo]; exact t
end
