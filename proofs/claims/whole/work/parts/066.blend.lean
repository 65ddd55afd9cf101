/-! ===== blends ===== -/
def hd (x : Int) : Int := max (-1000000) (min 1000000 x)
theorem hd_in (x : Int) : -1000000 ≤ hd x ∧ hd x ≤ 1000000 := by unfold hd; omega
def mixv (mk a b : Int) : Int := if mk = 1 then b else if mk = 2 then hd (a + b) else if mk = 3 then max a b else if mk = 4 then min a b else if mk = 5 then hd (hd (a + b) - 2 * b) else a
theorem mixv_in {mk a b : Int} (ha : -1000000 ≤ a ∧ a ≤ 1000000) (hb : -1000000 ≤ b ∧ b ≤ 1000000) : -1000000 ≤ mixv mk a b ∧ mixv mk a b ≤ 1000000 := by
  unfold mixv
  have h1 := hd_in (a + b)
  have h2 := hd_in (hd (a + b) - 2 * b)
  split
  · exact hb
  · split
    · exact h1
    · split
      · omega
      · split
        · omega
        · split
          · exact h2
          · exact ha
def jn (sort mk : Int) (x y : Option Int) : Option Int := match x, y with
  | some a, some b => if sort = 0 ∨ sort = 1 then some (mixv mk a b) else none
  | some a, none => if sort = 1 then none else some a
  | none, some b => if sort = 0 ∨ sort = 3 then some b else none
  | none, none => none
section
variable {σ : SS} {P : Nat → Prop}
theorem sp_held {Q : Int → SS → Prop} {x : Int} (hq : Q (hd x) σ) : wX8_held x σ Q := hq
theorem sp_mixed {Q : Int → SS → Prop} {a b mk : Int} (hmk : sn σ 2 1 = mk) (ha : -1000000 ≤ a ∧ a ≤ 1000000) (hb : -1000000 ≤ b ∧ b ≤ 1000000) (hq : Q (mixv mk a b) σ) : wX1_mixed a b σ Q := by
  unfold wX1_mixed
  rw [hmk]
  have h1 := hd_in (b + a)
  unfold mixv at hq
  refine ⟨fun c => ?_, fun c => ?_, fun c => ⟨⟨by omega, by omega⟩, ?_⟩, fun c => ?_, fun c => ⟨⟨by omega, by omega⟩, ?_⟩, fun c => ⟨⟨by omega, by omega⟩, sp_held ⟨⟨by omega, by omega⟩, ?_⟩⟩⟩
  · rw [if_neg (by omega), if_neg (by omega), if_neg (by omega), if_neg (by omega), if_neg (by omega)] at hq; exact hq
  · rw [if_pos c] at hq; exact hq
  · rw [if_neg (by omega), if_pos c] at hq
    refine sp_held ?_
    rw [Int.add_comm]; exact hq
  · rw [if_neg (by omega), if_neg (by omega), if_pos c] at hq; exact hq
  · rw [if_neg (by omega), if_neg (by omega), if_neg (by omega), if_pos c] at hq
    rw [show a + b - max a b = min a b by omega]; exact hq
  · rw [if_neg (by omega), if_neg (by omega), if_neg (by omega), if_neg (by omega), if_pos c] at hq
    refine sp_held ?_
    rw [Int.add_comm b a]; exact hq
theorem lk_mem {l : List KV} {k v : Int} (h : lk l k = some v) : (k, v) ∈ l := by
  induction l with
  | nil => cases h
  | cons p l ih =>
    unfold lk at h
    by_cases c : p.1 = k
    · rw [if_pos c] at h
      cases h
      exact List.mem_cons.mpr (Or.inl (by rw [← c]))
    · rw [if_neg c] at h
      exact List.mem_cons_of_mem _ (ih h)
theorem lk_of_mem {l : List KV} {p : KV} (h : p ∈ l) : lk l p.1 ≠ none := fun e => (lk_none.mp e) p h rfl
theorem lk_filter {l : List KV} (f : Int → Bool) (k : Int) : lk (l.filter (fun p => f p.1)) k = if f k then lk l k else none := by
  induction l with
  | nil => simp [lk]
  | cons p l ih =>
    rw [List.filter_cons]
    by_cases c : p.1 = k
    · by_cases c2 : f p.1 = true
      · rw [if_pos c2, lk, if_pos c, lk, if_pos c, ← c, if_pos c2]
      · rw [if_neg c2, ih, ← c]
        simp [c2]
    · by_cases c2 : f p.1 = true
      · rw [if_pos c2, lk, if_neg c, ih, lk, if_neg c]
      · rw [if_neg c2, ih, lk, if_neg c]
theorem lk_lo (l : List KV) (a k : Int) : lk (lo l a) k = if k < a then lk l k else none := by
  have := lk_filter (l := l) (fun x => decide (x < a)) k
  simpa [lo] using this
theorem lk_hi (l : List KV) (a k : Int) : lk (hi l a) k = if a < k then lk l k else none := by
  have := lk_filter (l := l) (fun x => decide (a < x)) k
  simpa [hi] using this
theorem lk_append {a b : List KV} (k : Int) : lk (a ++ b) k = (lk a k).orElse (fun _ => lk b k) := by
  induction a with
  | nil => simp [lk]
  | cons p a ih =>
    rw [List.cons_append, lk, lk]
    by_cases c : p.1 = k
    · simp [c]
    · simp [c, ih]
theorem jn_nn (sort mk : Int) : jn sort mk none none = none := rfl
/-- a blend -/
theorem sp_blend {Z tp : Nat} {TM sort mk : Int} (hB : BT Z tp TM) (hsort : 0 ≤ sort ∧ sort ≤ 3) : ∀ (n : Nat) {fuel : Nat} {σ : SS} {P : Nat → Prop} {a2 a3 : Option Nat} {a4 : Int} {la lb : List KV} {Q : Option Nat → SS → Prop}, T σ P n a2 la → TT σ P a3 lb → Srt la → Srt lb → la.length ≤ 200 → lb.length ≤ 200 → Vok la → Vok lb → n < fuel → 0 ≤ a4 → a4 + n ≤ 40 → GI Z σ P → sn σ 1 2 + la.length * 2425 ≤ TM → sn σ 2 1 = mk →
    (∀ (r : Option Nat) (σ' : SS) (P' : Nat → Prop) (l' : List KV), GI Z σ' P' → Ext (la.length * 2425) σ P σ' P' → TT σ' P' r l' → Srt l' → (∀ k, lk l' k = jn sort mk (lk la k) (lk lb k)) → Vok l' → l'.length ≤ la.length + lb.length → Q r σ') → wX1_blend fuel tp sort a2 a3 a4 σ Q := by
  intro n
  induction n with
  | zero =>
    intro fuel σ P a2 a3 a4 la lb Q h2 h3 sa sb na nb va vb hf h4 h4n hG ht hmk hq
    obtain ⟨f, rfl⟩ : ∃ f, fuel = f + 1 := ⟨fuel - 1, by omega⟩
    obtain ⟨rfl, rfl⟩ := h2
    have key : ∀ r l', TT σ P r l' → Srt l' → (∀ k, lk l' k = jn sort mk none (lk lb k)) → Vok l' → l'.length ≤ lb.length → Q r σ := fun r l' t s h v ln => hq r σ P l' hG (Ext.rf.up (by simp)) t s (fun k => by rw [h]; rfl) v (by simpa using ln)
    rw [wX1_blend]
    refine ⟨fun _ => ⟨fun c => ?_, fun c => ⟨fun c2 => ?_, fun c2 => ?_⟩⟩, fun b e => by cases e⟩
    · exact key a3 lb h3 sb (fun k => by cases lk lb k <;> simp [jn, c]) vb (Nat.le_refl _)
    · exact key none [] TT_nil List.Pairwise.nil (fun k => by cases lk lb k <;> simp [jn, lk]; omega) (fun p hp => by cases hp) (by simp)
    · exact key a3 lb h3 sb (fun k => by cases lk lb k <;> simp [jn, c2]) vb (Nat.le_refl _)
  | succ n ih =>
    intro fuel σ P a2 a3 a4 la lb Q h2 h3 sa sb na nb va vb hf h4 h4n hG ht hmk hq
    obtain ⟨f, rfl⟩ : ∃ f, fuel = f + 1 := ⟨fuel - 1, by omega⟩
    rw [wX1_blend]
    refine ⟨fun e => ?_, fun b e => ⟨fun _ => ⟨fun e3 => ?_, fun b3 e3 => ?_⟩, fun c => by omega⟩⟩
    · subst e
      have hla := T_none h2
      subst hla
      have key : ∀ r l', TT σ P r l' → Srt l' → (∀ k, lk l' k = jn sort mk none (lk lb k)) → Vok l' → l'.length ≤ lb.length → Q r σ := fun r l' t s h v ln => hq r σ P l' hG (Ext.rf.up (by simp)) t s (fun k => by rw [h]; rfl) v (by simpa using ln)
      refine ⟨fun c => ?_, fun c => ⟨fun c2 => ?_, fun c2 => ?_⟩⟩
      · exact key a3 lb h3 sb (fun k => by cases lk lb k <;> simp [jn, c]) vb (Nat.le_refl _)
      · exact key none [] TT_nil List.Pairwise.nil (fun k => by cases lk lb k <;> simp [jn, lk]; omega) (fun p hp => by cases hp) (by simp)
      · exact key a3 lb h3 sb (fun k => by cases lk lb k <;> simp [jn, c2]) vb (Nat.le_refl _)
    · have hlb : lb = [] := (TT_isnil h3).mp e3
      subst hlb
      have h2T : TT σ P a2 la := ⟨_, h2⟩
      refine ⟨fun c => ?_, fun c => ?_⟩
      · exact hq a2 σ P la hG (Ext.rf.up (by omega)) h2T sa (fun k => by cases lk la k <;> simp [jn, lk, c]) va (by simp)
      · exact hq none σ P [] hG (Ext.rf.up (by omega)) TT_nil List.Pairwise.nil (fun k => by cases lk la k <;> simp [jn, lk, c]) (fun p hp => by cases hp) (by simp)
    · subst e
      obtain ⟨e, x, y, he, hP, hx, hy, hl, -⟩ := T_some h2
      cases he
      have hll : x.length + y.length + 1 = la.length := by rw [hl]; simp; omega
      rw [hl] at sa va
      have saA := sa
      obtain ⟨s1, s2, s3, s4⟩ := Srt_app.mp sa
      obtain ⟨vx, vq, vy⟩ := Vok_app.mp va
      have hcost : (la.length : Int) * 2425 = x.length * 2425 + y.length * 2425 + 2425 := by omega
      -- the parts
      refine sp_below200 hB h3 sb nb hG (by omega) vb (fun r1 σ1 P1 g1 e1 t1 => ⟨⟨by omega, by omega⟩, ?_⟩)
      have llo := lo_len lb (sn σ (b + 64) 0)
      have lhi := hi_len lb (sn σ (b + 64) 0)
      have llh := lohi_len (l := lb) (sn σ (b + 64) 0)
      refine ih (e1.T hx) t1 s1 (Srt_lo sb _) (by omega) (by omega) vx (Vok_sub vb (lo_sub _ _)) (by omega) (by omega) (by omega) g1 (by have := e1.tk; omega) ((e1.2.2.2.1 2 (by omega) (by omega) 1).1.trans hmk) (fun r2 σ2 P2 L' g2 e2 t2 sL kL vL nL => ?_)
      have e12 := e1.tr e2 (Int.le_refl _)
      rw [e12.2.1 b hP 0 (by decide), e12.2.2.1 b hP 5 (Or.inr rfl)]
      refine sp_above200 hB (e12.TT h3) sb nb g2 (by have := e12.tk; omega) vb (fun r3 σ3 P3 g3 e3' t3 => ?_)
      have e13 := e12.tr e3' (Int.le_refl _)
      refine ih (e13.T hy) t3 s2 (Srt_hi sb _) (by omega) (by omega) vy (Vok_sub vb (hi_sub _ _)) (by omega) (by omega) (by omega) g3 (by have := e13.tk; omega) ((e13.2.2.2.1 2 (by omega) (by omega) 1).1.trans hmk) (fun r4 σ4 P4 R' g4 e4 t4 sR kR vR nR => ?_)
      have e14 := e13.tr e4 (Int.le_refl _)
      have hmk4 : sn σ4 2 1 = mk := (e14.2.2.2.1 2 (by omega) (by omega) 1).1.trans hmk
      have tk4 := e14.tk
      have tL : TT σ4 P4 r2 L' := (e3'.tr e4 (Int.le_refl _)).TT t2
      rw [e14.2.1 b hP 0 (by decide)]
      -- the keys of the parts
      have keyL : ∀ p ∈ L', p.1 < sn σ (b + 64) 0 := by
        intro p hp
        have h1 := lk_of_mem hp
        rw [kL] at h1
        have h5 : lk x p.1 ≠ none ∨ lk (lo lb (sn σ (b + 64) 0)) p.1 ≠ none := by
          by_cases q : lk x p.1 = none
          · refine Or.inr (fun q2 => h1 ?_)
            rw [q, q2]; rfl
          · exact Or.inl q
        rcases h5 with h5 | h5
        · cases h6 : lk x p.1 with
          | none => exact absurd h6 h5
          | some w => exact s3 (p.1, w) (lk_mem h6)
        · rw [lk_lo] at h5
          by_cases q : p.1 < sn σ (b + 64) 0
          · exact q
          · rw [if_neg q] at h5; exact absurd rfl h5
      have keyR : ∀ p ∈ R', sn σ (b + 64) 0 < p.1 := by
        intro p hp
        have h1 := lk_of_mem hp
        rw [kR] at h1
        have h5 : lk y p.1 ≠ none ∨ lk (hi lb (sn σ (b + 64) 0)) p.1 ≠ none := by
          by_cases q : lk y p.1 = none
          · refine Or.inr (fun q2 => h1 ?_)
            rw [q, q2]; rfl
          · exact Or.inl q
        rcases h5 with h5 | h5
        · cases h6 : lk y p.1 with
          | none => exact absurd h6 h5
          | some w => exact s4 (p.1, w) (lk_mem h6)
        · rw [lk_hi] at h5
          by_cases q : sn σ (b + 64) 0 < p.1
          · exact q
          · rw [if_neg q] at h5; exact absurd rfl h5
      -- what the whole holds at a key
      have hla : ∀ k, lk la k = if k < sn σ (b + 64) 0 then lk x k else if k = sn σ (b + 64) 0 then some (sn σ (b + 64) 1) else lk y k := fun k => by rw [hl]; exact lk_app saA k
      have stay : ∀ (v : Int), jn sort mk (some (sn σ (b + 64) 1)) (lk lb (sn σ (b + 64) 0)) = some v → -1000000 ≤ v ∧ v ≤ 1000000 → wX2_join 44 tp r2 (sn σ (b + 64) 0) v r4 0 σ4 Q := by
        intro v hv hv2
        have sS' : Srt (L' ++ (sn σ (b + 64) 0, v) :: R') := Srt_app.mpr ⟨sL, sR, keyL, keyR⟩
        refine sp_join401 hB tL t4 g4 (by omega) (Vok_app.mpr ⟨vL, hv2, vR⟩) (by simp; omega) (fun r5 σ5 P5 g5 e5 t5 => hq r5 σ5 P5 _ g5 (e14.tr e5 (by omega)) t5 sS' (fun k => ?_) (Vok_app.mpr ⟨vL, hv2, vR⟩) (by simp; omega))
        rw [lk_app sS' k, hla]
        dsimp only
        by_cases c1 : k < sn σ (b + 64) 0
        · rw [if_pos c1, if_pos c1, kL, lk_lo, if_pos c1]
        · rw [if_neg c1, if_neg c1]
          by_cases c2 : k = sn σ (b + 64) 0
          · rw [if_pos c2, if_pos c2, c2, hv]
          · rw [if_neg c2, if_neg c2, kR, lk_hi, if_pos (by omega)]
      have go : jn sort mk (some (sn σ (b + 64) 1)) (lk lb (sn σ (b + 64) 0)) = none → wX2_chain tp r2 r4 σ4 Q := by
        intro hv
        have sS' : Srt (L' ++ R') := List.pairwise_append.mpr ⟨sL, sR, fun p hp q hq' => by have := keyL p hp; have := keyR q hq'; omega⟩
        have vS' : Vok (L' ++ R') := fun p hp => (List.mem_append.mp hp).elim (vL p) (vR p)
        refine sp_chain hB tL t4 sR vS' (by omega) g4 (by omega) (fun r5 σ5 P5 g5 e5 t5 => hq r5 σ5 P5 _ g5 (e14.tr e5 (by omega)) t5 sS' (fun k => ?_) vS' (by simp; omega))
        rw [lk_append, hla]
        by_cases c1 : k < sn σ (b + 64) 0
        · have : lk R' k = none := lk_none.mpr (fun p hp => by have := keyR p hp; omega)
          rw [if_pos c1, this, kL, lk_lo, if_pos c1]
          cases jn sort mk (lk x k) (lk lb k) <;> rfl
        · have h0 : lk L' k = none := lk_none.mpr (fun p hp => by have := keyL p hp; omega)
          rw [if_neg c1, h0]
          by_cases c2 : k = sn σ (b + 64) 0
          · have : lk R' k = none := lk_none.mpr (fun p hp => by have := keyR p hp; omega)
            rw [if_pos c2, this, c2, hv]; rfl
          · rw [if_neg c2, kR, lk_hi, if_pos (by omega)]; rfl
      obtain ⟨d3, h3'⟩ := e14.TT h3
      refine sp_find h3' sb (fun hn => ⟨fun _ => ⟨fun c => ?_, fun c => ?_⟩, fun b' e => by cases e⟩) (fun b' v hv hPb hk hvv => ⟨fun e => (by cases e), fun b'' e => ?_⟩)
      · unfold wX1_blend_L139
        refine ⟨⟨by omega, by omega⟩, fun q => absurd rfl q, fun _ => go ?_⟩
        rw [hn]; simp [jn, c]
      · unfold wX1_blend_L139
        refine ⟨⟨by omega, by omega⟩, fun _ => ⟨b, rfl, fun _ => ?_, fun b' e => by cases e⟩, fun q => by omega⟩
        rw [e14.2.1 b hP 0 (by decide), e14.2.1 b hP 1 (by decide)]
        refine stay _ ?_ vq
        rw [hn]; simp [jn, c]
      · have L139 : (sort = 0 ∨ sort = 1) → wX1_blend_L139 (wX1_blend f) tp sort (some b) a3 a4 Q r2 r4 (some b') 1 σ4 := by
          intro hs01
          unfold wX1_blend_L139
          refine ⟨⟨by omega, by omega⟩, fun _ => ⟨b, rfl, fun e => (by cases e), fun b3 e => ?_⟩, fun q => by omega⟩
          cases e
          rw [e14.2.1 b hP 0 (by decide), e14.2.1 b hP 1 (by decide), hvv]
          have hvb := vb _ (lk_mem hv)
          refine sp_mixed hmk4 vq hvb (stay _ ?_ (mixv_in vq hvb))
          rw [hv]; simp [jn, hs01]
        refine ⟨fun c => ?_, fun c => ⟨fun c2 => ?_, fun c2 => ?_⟩⟩
        · unfold wX1_blend_L134
          exact L139 (Or.inl c)
        · unfold wX1_blend_L139
          refine ⟨⟨by omega, by omega⟩, fun q => absurd rfl q, fun _ => go ?_⟩
          rw [hv]; simp [jn, c, c2]
        · unfold wX1_blend_L134
          exact L139 (Or.inr c2)
end
