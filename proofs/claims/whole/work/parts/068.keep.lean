/-! ===== keeping what lives, sparing the rest ===== -/
def In (f : Nat → Nat → Option Nat) : Nat → Option Nat → Nat → Prop
  | 0, _, _ => False
  | d + 1, r, x => ∃ b, r = some b ∧ (x = b ∨ In f d (f (b + 64) 4) x ∨ In f d (f (b + 64) 5) x)
def Nd (f : Nat → Nat → Option Nat) (r : Option Nat) (x : Nat) : Prop := ∃ d, In f d r x
theorem In_up {f : Nat → Nat → Option Nat} : ∀ {d : Nat} {r : Option Nat} {x : Nat}, In f d r x → In f (d + 1) r x := by
  intro d
  induction d with
  | zero => intro r x h; cases h
  | succ d ih =>
    intro r x h
    obtain ⟨b, hb, h⟩ := h
    refine ⟨b, hb, ?_⟩
    rcases h with h | h | h
    · exact Or.inl h
    · exact Or.inr (Or.inl (ih h))
    · exact Or.inr (Or.inr (ih h))
theorem In_le {f : Nat → Nat → Option Nat} {d e : Nat} (hde : d ≤ e) {r : Option Nat} {x : Nat} (h : In f d r x) : In f e r x := by
  induction e with
  | zero => rw [Nat.le_zero.mp hde] at h; exact h
  | succ e ih =>
    by_cases q : d = e + 1
    · subst q; exact h
    · exact In_up (ih (by omega))
theorem Nd_none {f : Nat → Nat → Option Nat} {x : Nat} (h : Nd f none x) : False := by
  obtain ⟨d, h⟩ := h
  cases d with
  | zero => exact h
  | succ d => obtain ⟨b, hb, -⟩ := h; cases hb
theorem Nd_some {f : Nat → Nat → Option Nat} {b x : Nat} : Nd f (some b) x ↔ (x = b ∨ Nd f (f (b + 64) 4) x ∨ Nd f (f (b + 64) 5) x) := by
  constructor
  · rintro ⟨d, h⟩
    cases d with
    | zero => cases h
    | succ d =>
      obtain ⟨b', hb, h⟩ := h
      cases hb
      rcases h with h | h | h
      · exact Or.inl h
      · exact Or.inr (Or.inl ⟨d, h⟩)
      · exact Or.inr (Or.inr ⟨d, h⟩)
  · rintro (h | ⟨d, h⟩ | ⟨d, h⟩)
    · exact ⟨1, b, rfl, Or.inl h⟩
    · exact ⟨d + 1, b, rfl, Or.inr (Or.inl h)⟩
    · exact ⟨d + 1, b, rfl, Or.inr (Or.inr h)⟩
/-- the nodes below a node of a tree are the tree's -/
theorem Nd_tr {f : Nat → Nat → Option Nat} : ∀ {d : Nat} {r : Option Nat} {x y : Nat}, In f d r x → Nd f (some x) y → Nd f r y := by
  intro d
  induction d with
  | zero => intro r x y h; cases h
  | succ d ih =>
    intro r x y h hy
    obtain ⟨b, rfl, h⟩ := h
    rcases h with h | h | h
    · subst h; exact hy
    · exact Nd_some.mpr (Or.inr (Or.inl (ih h hy)))
    · exact Nd_some.mpr (Or.inr (Or.inr (ih h hy)))
theorem T_In {σ : SS} {P : Nat → Prop} : ∀ {d : Nat} {r : Option Nat} {l : List KV}, T σ P d r l → ∀ x, Nd (sf σ) r x → In (sf σ) d r x := by
  intro d
  induction d with
  | zero => intro r l h x hx; obtain ⟨rfl, -⟩ := h; exact (Nd_none hx).elim
  | succ d ih =>
    intro r l h x hx
    cases r with
    | none => exact (Nd_none hx).elim
    | some b =>
      obtain ⟨e, l1, l2, he, hP, h1, h2, -⟩ := T_some h
      cases he
      refine ⟨b, rfl, ?_⟩
      rcases Nd_some.mp hx with q | q | q
      · exact Or.inl q
      · exact Or.inr (Or.inl (ih h1 x q))
      · exact Or.inr (Or.inr (ih h2 x q))
theorem T_sub {σ : SS} {P P' : Nat → Prop} : ∀ {d : Nat} {r : Option Nat} {l : List KV}, T σ P d r l → (∀ x, Nd (sf σ) r x → P' x) → T σ P' d r l := by
  intro d
  induction d with
  | zero => intro r l h _; exact h
  | succ d ih =>
    intro r l h hn
    rcases h with h | ⟨b, l1, l2, rfl, hP, h1, h2, h⟩
    · exact Or.inl h
    · exact Or.inr ⟨b, l1, l2, rfl, hn b (Nd_some.mpr (Or.inl rfl)), ih h1 (fun x hx => hn x (Nd_some.mpr (Or.inr (Or.inl hx)))), ih h2 (fun x hx => hn x (Nd_some.mpr (Or.inr (Or.inr hx)))), h⟩
def mkd (σ : SS) (b : Nat) : Prop := sn σ (b + 64) 8 = sn σ 1 3
/-- marks alone have changed -/
def Km (σ σ' : SS) : Prop := (∀ i k, i < 64 ∨ k ≠ 8 → sn σ' i k = sn σ i k) ∧ sf σ' = sf σ ∧ sS σ' = sS σ ∧ sz σ' = sz σ ∧ ∀ b, sn σ' (b + 64) 8 = sn σ (b + 64) 8 ∨ sn σ' (b + 64) 8 = sn σ 1 3
theorem Km.rf (σ : SS) : Km σ σ := ⟨fun _ _ _ => rfl, rfl, rfl, rfl, fun _ => Or.inl rfl⟩
theorem Km.tr {σ σ1 σ2 : SS} (h1 : Km σ σ1) (h2 : Km σ1 σ2) : Km σ σ2 := by
  refine ⟨fun i k h => (h2.1 i k h).trans (h1.1 i k h), h2.2.1.trans h1.2.1, h2.2.2.1.trans h1.2.2.1, h2.2.2.2.1.trans h1.2.2.2.1, fun b => ?_⟩
  have e : sn σ1 1 3 = sn σ 1 3 := h1.1 1 3 (Or.inl (by omega))
  rcases h2.2.2.2.2 b with q | q
  · rw [q]; exact h1.2.2.2.2 b
  · right; rw [q, e]
theorem Km.mk {σ σ1 : SS} (h1 : Km σ σ1) {b : Nat} (h : mkd σ b) : mkd σ1 b := by
  unfold mkd at *
  have e : sn σ1 1 3 = sn σ 1 3 := h1.1 1 3 (Or.inl (by omega))
  rw [e]
  rcases h1.2.2.2.2 b with q | q
  · rw [q]; exact h
  · exact q
theorem Km.fwd {σ σ1 : SS} {P : Nat → Prop} (h : Km σ σ1) {d : Nat} {r : Option Nat} {l : List KV} (ht : T σ P d r l) : T σ1 P d r l :=
  T_keep (fun _ h => h) (fun b _ k hk => h.1 _ _ (Or.inr (by omega))) (fun b _ k _ => by rw [h.2.1]) ht
theorem Km.back {σ σ1 : SS} {P : Nat → Prop} (h : Km σ σ1) {d : Nat} {r : Option Nat} {l : List KV} (ht : T σ1 P d r l) : T σ P d r l :=
  T_keep (fun _ h => h) (fun b _ k hk => (h.1 _ _ (Or.inr (by omega))).symm) (fun b _ k _ => by rw [h.2.1]) ht
def Clz (n : Nat) (σ : SS) (P : Nat → Prop) : Prop := ∀ (x : Nat) (lx : List KV), TT σ P (some x) lx → lx.length ≤ n → mkd σ x → ∀ y, Nd (sf σ) (some x) y → mkd σ y
theorem sp_keep {P : Nat → Prop} : ∀ (n : Nat) {fuel : Nat} {σ : SS} {t : Option Nat} {l : List KV} {a2 : Int} {Q : SS → Prop}, T σ P n t l → n < fuel → 0 ≤ a2 → a2 + n ≤ 40 → Clz l.length σ P → (∀ σ', Km σ σ' → (∀ y, Nd (sf σ) t y → mkd σ' y) → (∀ y, mkd σ' y → mkd σ y ∨ Nd (sf σ) t y) → Q σ') → wX2_keep fuel t a2 σ Q := by
  intro n
  induction n with
  | zero =>
    intro fuel σ t l a2 Q h hf h2 h2n hC hq
    obtain ⟨f, rfl⟩ : ∃ f, fuel = f + 1 := ⟨fuel - 1, by omega⟩
    obtain ⟨rfl, rfl⟩ := h
    rw [wX2_keep]
    exact ⟨fun _ => hq σ (Km.rf σ) (fun y hy => (Nd_none hy).elim) (fun y hy => Or.inl hy), fun b e => by cases e⟩
  | succ n ih =>
    intro fuel σ t l a2 Q h hf h2 h2n hC hq
    obtain ⟨f, rfl⟩ : ∃ f, fuel = f + 1 := ⟨fuel - 1, by omega⟩
    rw [wX2_keep]
    refine ⟨fun e => ?_, fun b e => ⟨fun c => ?_, fun c => ⟨fun _ => ⟨⟨by omega, by omega⟩, ?_⟩, fun c2 => by omega⟩⟩⟩
    · subst e
      exact hq σ (Km.rf σ) (fun y hy => (Nd_none hy).elim) (fun y hy => Or.inl hy)
    · subst e
      exact hq σ (Km.rf σ) (fun y hy => hC b l ⟨_, h⟩ (Nat.le_refl _) c y hy) (fun y hy => Or.inl hy)
    · subst e
      have hT := h
      obtain ⟨e, x, y, he, hP, hx, hy, hl, -⟩ := T_some h
      cases he
      have hll : x.length + y.length + 1 = l.length := by rw [hl]; simp; omega
      obtain ⟨σ1, e1⟩ : ∃ s, s = un σ (b + 64) 8 (sn σ 1 3) := ⟨_, rfl⟩
      rw [← e1]
      have k1 : Km σ σ1 := by
        rw [e1]
        refine ⟨fun i k h => ?_, rfl, rfl, rfl, fun b' => ?_⟩
        · rw [sn_un]
          rw [if_neg (by omega)]
        · rw [sn_un]
          split
          · exact Or.inr rfl
          · exact Or.inl rfl
      have m1 : mkd σ1 b := by unfold mkd; rw [e1, sn_un_same, sn_un_i _ _ (by omega)]
      have m1' : ∀ z, mkd σ1 z → mkd σ z ∨ z = b := by
        intro z hz
        by_cases q : z = b
        · exact Or.inr q
        · left
          unfold mkd at *
          rw [e1, sn_un_i _ _ (by omega), sn_un_i _ _ (by omega)] at hz
          exact hz
      have sf1 : sf σ1 = sf σ := k1.2.1
      rw [sf1]
      have C1 : Clz x.length σ1 P := by
        intro z lz hz hlz hm w hw
        obtain ⟨dz, hz⟩ := hz
        rw [sf1] at hw
        rcases m1' z hm with q | q
        · exact k1.mk (hC z lz ⟨dz, k1.back hz⟩ (by omega) q w hw)
        · subst q
          have := TT_det ⟨dz, k1.back hz⟩ ⟨_, hT⟩
          subst this
          omega
      refine ih (k1.fwd hx) (by omega) (by omega) (by omega) C1 (fun σ2 k2 a2' b2 => ?_)
      rw [sf1] at a2' b2
      have k12 := k1.tr k2
      have sf2 : sf σ2 = sf σ := k12.2.1
      rw [sf2]
      have C2 : Clz y.length σ2 P := by
        intro z lz hz hlz hm w hw
        obtain ⟨dz, hz⟩ := hz
        rw [sf2] at hw
        rcases b2 z hm with q | q
        · rcases m1' z q with q | q
          · exact k12.mk (hC z lz ⟨dz, k12.back hz⟩ (by omega) q w hw)
          · subst q
            have := TT_det ⟨dz, k12.back hz⟩ ⟨_, hT⟩
            subst this
            omega
        · obtain ⟨dq, q⟩ := q
          exact a2' w (Nd_tr q hw)
      refine ih (k12.fwd hy) (by omega) (by omega) (by omega) C2 (fun σ3 k3 a3 b3 => hq σ3 (k12.tr k3) (fun z hz => ?_) (fun z hz => ?_))
      · rcases Nd_some.mp hz with q | q | q
        · subst q; exact (k2.tr k3).mk m1
        · exact k3.mk (a2' z q)
        · exact a3 z (by rw [sf2]; exact q)
      · rcases b3 z hz with q | q
        · rcases b2 z q with q | q
          · rcases m1' z q with q | q
            · exact Or.inl q
            · exact Or.inr (Nd_some.mpr (Or.inl q))
          · exact Or.inr (Nd_some.mpr (Or.inr (Or.inl q)))
        · rw [sf2] at q
          exact Or.inr (Nd_some.mpr (Or.inr (Or.inr q)))
def Cla (σ : SS) (P : Nat → Prop) : Prop := ∀ n, Clz n σ P
theorem sp_keepAll_L {P : Nat → Prop} {x1 : Nat} : ∀ (m : Nat) {i : Nat} {σ : SS} {Q : SS → Prop}, fln x1 ≤ i + m → i ≤ fln x1 → fln x1 ≤ 1000 → x1 < 64 → (∀ j, j < fln x1 → ∃ l, TT σ P (sf σ x1 j) l ∧ l.length ≤ 400) → Cla σ P → (∀ σ', Km σ σ' → Cla σ' P → (∀ j, i ≤ j → j < fln x1 → ∀ y, Nd (sf σ) (sf σ x1 j) y → mkd σ' y) → (∀ y, mkd σ' y → mkd σ y ∨ ∃ j, j < fln x1 ∧ Nd (sf σ) (sf σ x1 j) y) → Q σ') → wX2_keepAll_L2 x1 Q (m + 1) (i : Int) σ := by
  intro m
  induction m with
  | zero =>
    intro i σ Q h1 h2 h3 hx hr hC hq
    rw [wX2_keepAll_L2]
    refine ⟨⟨by omega, by omega⟩, fun _ => hq σ (Km.rf σ) hC (fun j hj hj2 => by omega) (fun y hy => Or.inl hy), fun c => by omega⟩
  | succ m ih =>
    intro i σ Q h1 h2 h3 hx hr hC hq
    rw [wX2_keepAll_L2]
    refine ⟨⟨by omega, by omega⟩, fun c => hq σ (Km.rf σ) hC (fun j hj hj2 => by omega) (fun y hy => Or.inl hy), fun c => ⟨by omega, by omega, ?_⟩⟩
    rw [Int.toNat_natCast]
    obtain ⟨l, ht, hl⟩ := hr i (by omega)
    refine sp_keep 18 (T_18 ht (by omega)) (by omega) (by omega) (by omega) (hC _) (fun σ1 k1 a1 b1 => ?_)
    have sf1 : sf σ1 = sf σ := k1.2.1
    have cast : ((i : Int) + 1) = ((i + 1 : Nat) : Int) := by omega
    rw [cast]
    have C1 : Cla σ1 P := by
      intro n z lz hz hlz hm w hw
      rw [sf1] at hw
      obtain ⟨dz, hz⟩ := hz
      rcases b1 z hm with q | q
      · exact k1.mk (hC n z lz ⟨dz, k1.back hz⟩ hlz q w hw)
      · obtain ⟨dq, q⟩ := q
        exact a1 w (Nd_tr q hw)
    refine ih (by omega) (by omega) h3 hx (fun j hj => ?_) C1 (fun σ2 k2 c2 a2 b2 => hq σ2 (k1.tr k2) c2 (fun j hj hj2 y hy => ?_) (fun y hy => ?_))
    · obtain ⟨l', ⟨d', ht'⟩, hl'⟩ := hr j hj
      exact ⟨l', ⟨d', by rw [sf1]; exact k1.fwd ht'⟩, hl'⟩
    · by_cases q : j = i
      · subst q; exact k2.mk (a1 y hy)
      · exact a2 j (by omega) hj2 y (by rw [sf1]; exact hy)
    · rw [sf1] at b2
      rcases b2 y hy with q | q
      · rcases b1 y q with q | q
        · exact Or.inl q
        · exact Or.inr ⟨i, by omega, q⟩
      · exact Or.inr q
theorem sp_keepAll {P : Nat → Prop} {x1 : Nat} {σ : SS} {Q : SS → Prop} (h3 : fln x1 ≤ 1000) (hx : x1 < 64) (hr : ∀ j, j < fln x1 → ∃ l, TT σ P (sf σ x1 j) l ∧ l.length ≤ 400) (hC : Cla σ P) (hq : ∀ σ', Km σ σ' → Cla σ' P → (∀ j, j < fln x1 → ∀ y, Nd (sf σ) (sf σ x1 j) y → mkd σ' y) → (∀ y, mkd σ' y → mkd σ y ∨ ∃ j, j < fln x1 ∧ Nd (sf σ) (sf σ x1 j) y) → Q σ') : wX2_keepAll x1 σ Q :=
  ⟨fln x1 + 1, sp_keepAll_L (fln x1) (i := 0) (by omega) (by omega) h3 hx hr hC (fun σ' k c a b => hq σ' k c (fun j hj => a j (by omega) hj) b)⟩
