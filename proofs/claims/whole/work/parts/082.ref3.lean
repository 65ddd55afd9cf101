/-! ===== the reference: more reads; mixer, text, back ===== -/
section
variable {n : Nat} {σ : SS} {a : AS} {M : Nat → List KV}
theorem idx_key {l : List KV} (hs : Srt l) {i j : Nat} {p q : KV} (hp : l[i]? = some p) (hq : l[j]? = some q) : (p.1 < q.1 ↔ i < j) := by
  obtain ⟨hi, hp⟩ := List.getElem?_eq_some_iff.mp hp
  obtain ⟨hj, hq⟩ := List.getElem?_eq_some_iff.mp hq
  have h := List.pairwise_iff_getElem.mp hs
  constructor
  · intro c
    by_cases d : i < j
    · exact d
    · by_cases e : i = j
      · subst e; rw [hp] at hq; rw [hq] at c; omega
      · have := h j i hj hi (by omega); rw [hp, hq] at this; omega
  · intro d
    have := h i j hi hj d
    rw [hp, hq] at this; exact this
theorem rs_top_in {Q : Int → SS → Prop} {K : Int → SS → Prop} {m jj : Int} {i : Nat} {p : KV} (h : MI σ M) (hg : GM M) (hm : isM m) (hp : (M m.toNat)[i]? = some p) (hK : ¬ (rk (M m.toNat) (stg p) : Int) = jj → K ((i : Int) + 1) σ) (hQ : (rk (M m.toNat) (stg p) : Int) = jj → Q p.1 σ) : ∀ (rest : List KV) {k : Nat}, (M m.toNat).drop k = rest → k ≤ (M m.toNat).length → wX9_top_L36 m jj Q K (rest.length + 1) (i : Int) (rk ((M m.toNat).take k) (stg p) : Int) (k : Int) σ := by
  have g := hg.mp hm
  have hl := g.2.2.2
  have hi := (List.getElem?_eq_some_iff.mp hp).1
  have rl : ∀ z : List KV, rk z (stg p) ≤ z.length := fun z => List.length_filter_le _ _
  have kp := g.2.1 p (List.mem_of_getElem? hp)
  intro rest
  induction rest with
  | nil =>
    intro k hdr hk
    have e := drop_nil hdr hk
    have r2 := rl ((M m.toNat).take k)
    rw [List.length_take] at r2
    rw [List.length_nil, wX9_top_L36, h.siz hm]
    rw [e, List.take_length] at r2 ⊢
    exact ⟨by omega, by omega, ⟨by omega, by omega⟩, fun _ => ⟨⟨by omega, by omega⟩, hK, fun c => ⟨⟨by omega, by omega⟩, sr_keyAt h hg hm hp (hQ c)⟩⟩, fun c => by omega⟩
  | cons q rest ih =>
    intro k hdr hk
    obtain ⟨hq, hd2, hi2, hi3⟩ := drop_cons hdr
    have kq := g.2.1 q (List.mem_of_getElem? hq)
    have ih' := ih hd2 (by omega)
    have hix := idx_key g.1 hq hp
    have happ : rk ((M m.toNat).take (k + 1)) (stg p) = rk ((M m.toNat).take k) (stg p) + if stg q < stg p then 1 else 0 := by
      unfold rk
      rw [take_succ hq, List.filter_append, List.length_append, List.filter_cons]
      congr 1
      by_cases c : stg q < stg p <;> simp [c]
    have e : ((k : Int) + 1) = ((k + 1 : Nat) : Int) := by omega
    rw [List.length_cons, wX9_top_L36, h.siz hm, e]
    have hst : stg q < stg p ↔ p.2 < q.2 ∨ (q.2 = p.2 ∧ k < i) := by
      rw [← hix]; unfold stg; omega
    have yes : (p.2 < q.2 ∨ (q.2 = p.2 ∧ k < i)) → wX9_top_L36 m jj Q K (rest.length + 1) (i : Int) ((rk ((M m.toNat).take k) (stg p) : Int) + 1) ((k + 1 : Nat) : Int) σ := fun c => by
      rw [happ, if_pos (hst.mpr c)] at ih'; exact ih'
    have no : ¬ (p.2 < q.2 ∨ (q.2 = p.2 ∧ k < i)) → wX9_top_L36 m jj Q K (rest.length + 1) (i : Int) ((rk ((M m.toNat).take k) (stg p) : Int) + 0) ((k + 1 : Nat) : Int) σ := fun c => by
      rw [happ, if_neg (fun z => c (hst.mp z))] at ih'; exact ih'
    refine ⟨by omega, by omega, ⟨by omega, by omega⟩, fun c => by omega, fun _ => sr_valueAt h hg hm hq ⟨⟨by omega, by omega⟩, sr_valueAt h hg hm hp ⟨fun c => yes (Or.inl c), fun c => sr_valueAt h hg hm hq (sr_valueAt h hg hm hp ⟨fun c2 => no (by omega), fun c2 => ⟨fun c3 => no (by omega), fun c3 => yes (Or.inr ⟨c2, by omega⟩)⟩⟩)⟩⟩⟩
theorem rs_top_L {Q : Int → SS → Prop} {m jj : Int} (h : MI σ M) (hg : GM M) (hm : isM m) : ∀ (rest : List KV) {i : Nat}, (M m.toNat).drop i = rest → i ≤ (M m.toNat).length → Q (match rest.find? (fun p => decide ((rk (M m.toNat) (stg p) : Int) = jj)) with | some p => p.1 | none => -2000000001) σ → wX9_top_L20 m jj Q (rest.length + 1) (i : Int) σ := by
  have g := hg.mp hm
  have hl := g.2.2.2
  intro rest
  induction rest with
  | nil =>
    intro i hdr hi hq
    have e := drop_nil hdr hi
    rw [List.length_nil, wX9_top_L20, h.siz hm]
    exact ⟨by omega, by omega, ⟨by omega, by omega⟩, fun _ => hq, fun c => by omega⟩
  | cons p rest ih =>
    intro i hdr hi hq
    obtain ⟨hp, hd2, hi2, hi3⟩ := drop_cons hdr
    have e : ((i : Int) + 1) = ((i + 1 : Nat) : Int) := by omega
    rw [List.find?_cons] at hq
    rw [List.length_cons, wX9_top_L20, h.siz hm]
    refine ⟨by omega, by omega, ⟨by omega, by omega⟩, fun c => by omega, fun _ => ⟨(M m.toNat).length + 1, ?_⟩⟩
    refine rs_top_in h hg hm hp (fun c => ?_) (fun c => ?_) (M m.toNat) (k := 0) rfl (Nat.zero_le _)
    · rw [e]
      refine ih hd2 (by omega) ?_
      simpa [c] using hq
    · simpa [c] using hq
theorem rs_top {Q : Int → SS → Prop} {m j : Int} (h : RI σ a) (hw : AW n a) (hn : n ≤ 1000000) (hq : Dr σ Q (opTop a m j)) : wX9_top m j σ Q := by
  unfold opTop at hq
  refine sr_isMap (fun hm => ⟨o1, fun _ => ⟨fun c => ?_, fun c => ?_⟩⟩) (fun hm => ⟨fun _ => ?_, o0⟩)
  · rw [if_pos ⟨hm, c⟩] at hq
    exact ⟨_, rs_top_L h.1 hw.gm hm (aM a m.toNat) (i := 0) rfl (Nat.zero_le _) (dr_same h hq)⟩
  · rw [if_neg (fun q => c q.2)] at hq; exact dr_bad h hw hn hq
  · rw [if_neg (fun q => hm q.1)] at hq; exact dr_bad h hw hn hq
theorem unl_eq : ∀ {l m : List KV}, (∀ p ∈ l, isK p.1) → (∀ p ∈ m, isK p.1) → (unl l m = -2000000001 ↔ l = m) := by
  intro l
  induction l with
  | nil =>
    intro m _ hm
    cases m with
    | nil => simp [unl]
    | cons q m =>
      have := hm q List.mem_cons_self
      simp [unl]; omega
  | cons p l ih =>
    intro m hl hm
    have k1 := hl p List.mem_cons_self
    cases m with
    | nil => simp [unl]; omega
    | cons q m =>
      have k2 := hm q List.mem_cons_self
      rw [unl]
      by_cases c : p = q
      · rw [if_pos c, ih (fun z hz => hl z (List.mem_cons_of_mem _ hz)) (fun z hz => hm z (List.mem_cons_of_mem _ hz))]
        simp [c]
      · rw [if_neg c]
        constructor
        · intro e; omega
        · intro e; cases e; exact absurd rfl c
theorem rows_eq {x y : Int} {i : Nat} {p q : KV} (h : MI σ M) (hg : GM M) (hx : isM x) (hy : isM y) (hp : (M x.toNat)[i]? = some p) (hq : (M y.toNat)[i]? = some q) : (sn σ 22 (200 * x + (i : Int)).toNat = sn σ 22 (200 * y + (i : Int)).toNat) ↔ p = q := by
  rw [h.row hx hp, h.row hy hq]
  exact ⟨fun e => pk_inj ((hg.mp hx).2.2.1 p (List.mem_of_getElem? hp)) ((hg.mp hy).2.2.1 q (List.mem_of_getElem? hq)) e, fun e => by rw [e]⟩
theorem rs_same0 {Q : Int → SS → Prop} {x y : Int} (h : MI σ M) (hg : GM M) (hx : isM x) (hq : Q 0 σ) {i k : Nat} (hi : i ≤ 1000) : wX9_same_L45 x y Q (k + 1) 0 (i : Int) σ := by
  rw [wX9_same_L45]
  exact ⟨by omega, by omega, ⟨by omega, by omega⟩, fun _ => ⟨by decide, fun _ => hq, fun q => absurd rfl q⟩, fun _ => ⟨by decide, fun _ => ⟨fun _ => hq, fun q => absurd rfl q⟩, fun q => absurd rfl q⟩⟩
theorem rs_same_L {Q : Int → SS → Prop} {x y : Int} (h : MI σ M) (hg : GM M) (hx : isM x) (hy : isM y) (hlen : (M x.toNat).length = (M y.toNat).length) : ∀ (rest : List KV) {i : Nat}, (M x.toNat).drop i = rest → i ≤ (M x.toNat).length → (rest = (M y.toNat).drop i → Q 1 σ) → (rest ≠ (M y.toNat).drop i → Q 0 σ) → wX9_same_L45 x y Q (rest.length + 1) 1 (i : Int) σ := by
  have g := hg.mp hx
  have hl := g.2.2.2
  intro rest
  induction rest with
  | nil =>
    intro i hdr hi h1 h0
    have e := drop_nil hdr hi
    rw [List.length_nil, wX9_same_L45, h.siz hx]
    exact ⟨by omega, by omega, ⟨by omega, by omega⟩, fun _ => ⟨by decide, fun q => absurd q (by decide), fun _ => h1 (by rw [List.drop_eq_nil_of_le (by omega)])⟩, fun c => by omega⟩
  | cons p rest ih =>
    intro i hdr hi h1 h0
    obtain ⟨hp, hd2, hi2, hi3⟩ := drop_cons hdr
    have e : ((i : Int) + 1) = ((i + 1 : Nat) : Int) := by omega
    have hq := List.getElem?_eq_getElem (show i < (M y.toNat).length by omega)
    generalize (M y.toNat)[i] = q at hq
    have hdy : (M y.toNat).drop i = q :: (M y.toNat).drop (i + 1) := by
      rw [List.drop_eq_getElem_cons (show i < (M y.toNat).length by omega)]
      congr 1
      exact (List.getElem?_eq_some_iff.mp hq).2
    rw [hdy] at h1 h0
    rw [List.length_cons, wX9_same_L45, h.siz hx, e]
    refine ⟨by omega, by omega, ⟨by omega, by omega⟩, fun c => by omega, fun _ => ⟨by decide, fun q => absurd q (by decide), fun _ => ⟨by omega, by omega, by omega, by omega, fun c => ?_, fun c => ?_⟩⟩⟩
    · refine rs_same0 h hg hx (h0 (fun z => ?_)) (by omega)
      rw [rows_eq h hg hx hy hp hq] at c
      exact c (List.cons.inj z).1
    · rw [rows_eq h hg hx hy hp hq] at c
      exact ih hd2 (by omega) (fun z => h1 (by rw [c, z])) (fun z => h0 (fun z2 => z (List.cons.inj z2).2))
theorem rs_same {Q : Int → SS → Prop} {x y : Int} (h : RI σ a) (hw : AW n a) (hn : n ≤ 1000000) (hq : Dr σ Q (opSame a x y)) : wX9_same x y σ Q := by
  unfold opSame at hq
  refine sr_isMap (fun hx => ⟨o1, fun _ => sr_isMap (fun hy => ⟨fun _ => ⟨by omega, by omega, by omega, by omega, ?_⟩, o1⟩) (fun hy => ⟨o0, fun _ => ?_⟩)⟩) (fun hx => ⟨fun _ => ?_, o0⟩)
  · rw [if_pos ⟨hx, hy⟩] at hq
    have hu := unl_eq (hw.mp hx).2.1 (hw.mp hy).2.1
    rw [h.1.siz hx, h.1.siz hy]
    refine ⟨fun c => ⟨1, rs_same0 h.1 hw.gm hx ?_ (i := 0) (by omega)⟩, fun c => ⟨_, rs_same_L h.1 hw.gm hx hy (by omega) (aM a x.toNat) (i := 0) rfl (Nat.zero_le _) (fun z => ?_) (fun z => ?_)⟩⟩
    · rw [if_neg (fun z => c (by rw [hu.mp z]))] at hq; exact dr_same h hq
    · rw [if_pos (hu.mpr (by simpa using z))] at hq; exact dr_same h hq
    · rw [if_neg (fun z2 => z (by simpa using hu.mp z2))] at hq; exact dr_same h hq
  · rw [if_neg (fun q => hy q.2)] at hq; exact dr_bad h hw hn hq
  · rw [if_neg (fun q => hx q.1)] at hq; exact dr_bad h hw hn hq
theorem rs_common_L {Q : Int → SS → Prop} {x y : Int} (h : MI σ M) (hg : GM M) (hx : isM x) (hy : isM y) : ∀ (rest : List KV) {i : Nat} {c : Int}, (M x.toNat).drop i = rest → i ≤ (M x.toNat).length → (0 ≤ c ∧ c ≤ i) → Q (cmn (M y.toNat) c rest) σ → wX9_common_L26 x y Q (rest.length + 1) c (i : Int) σ := by
  have g := hg.mp hx
  have hl := g.2.2.2
  intro rest
  induction rest with
  | nil =>
    intro i c hdr hi hc hq
    have e := drop_nil hdr hi
    rw [List.length_nil, wX9_common_L26, h.siz hx]
    exact ⟨by omega, by omega, ⟨by omega, by omega⟩, fun _ => ⟨⟨by omega, by omega⟩, hq⟩, fun c => by omega⟩
  | cons p rest ih =>
    intro i c hdr hi hc hq
    obtain ⟨hp, hd2, hi2, hi3⟩ := drop_cons hdr
    have e : ((i : Int) + 1) = ((i + 1 : Nat) : Int) := by omega
    rw [List.length_cons, wX9_common_L26, h.siz hx, e]
    rw [cmn] at hq
    refine ⟨by omega, by omega, ⟨by omega, by omega⟩, fun c => by omega, fun _ => sr_keyAt h hg hx hp (sr_below h hg hy (sr_keyAt h hg hx hp (sr_isThere h hg hy (fun v hv _ => ⟨o1, fun _ => ih hd2 (by omega) (by omega) ?_⟩) (fun hv => ⟨fun _ => ih hd2 (by omega) (by omega) ?_, o0⟩))))⟩
    · rw [hv] at hq; simpa using hq
    · rw [hv] at hq; simpa using hq
theorem rs_common {Q : Int → SS → Prop} {x y : Int} (h : RI σ a) (hw : AW n a) (hn : n ≤ 1000000) (hq : Dr σ Q (opCommon a x y)) : wX9_common x y σ Q := by
  unfold opCommon at hq
  refine sr_isMap (fun hx => ⟨o1, fun _ => sr_isMap (fun hy => ⟨fun _ => ?_, o1⟩) (fun hy => ⟨o0, fun _ => ?_⟩)⟩) (fun hx => ⟨fun _ => ?_, o0⟩)
  · rw [if_pos ⟨hx, hy⟩] at hq
    exact ⟨_, rs_common_L h.1 hw.gm hx hy (aM a x.toNat) (i := 0) rfl (Nat.zero_le _) (by omega) (dr_same h hq)⟩
  · rw [if_neg (fun q => hy q.2)] at hq; exact dr_bad h hw hn hq
  · rw [if_neg (fun q => hx q.1)] at hq; exact dr_bad h hw hn hq
theorem rs_apart_L {Q : Int → SS → Prop} {x y : Int} (h : MI σ M) (hg : GM M) (hx : isM x) (hy : isM y) : ∀ (rest : List KV) {i : Nat}, (M x.toNat).drop i = rest → i ≤ (M x.toNat).length → i ≤ (M y.toNat).length → Q (unl rest ((M y.toNat).drop i)) σ → wX9_apart_L23 x y Q (rest.length + 1) (i : Int) σ := by
  have gx := hg.mp hx
  have gy := hg.mp hy
  have hlx := gx.2.2.2
  have hly := gy.2.2.2
  -- what the two ends make of it
  have L122 : ∀ u v : Int, R32 u → R32 v → (u = 9999 ∨ isK u) → (v = 9999 ∨ isK v) → Q (if u = 9999 ∧ v = 9999 then -2000000001 else min u v) σ → wX9_apart_L122 x y Q u v σ := by
    intro u v ru rv hu hv hQ
    refine ⟨ru, rv, fun c => ⟨fun c2 => ?_, fun c2 => ?_⟩, fun c => ⟨fun c2 => ?_, fun c2 => ?_⟩⟩
    · rw [if_neg (fun z => c2 z.2), show min u v = v by omega] at hQ; exact hQ
    · rw [if_pos ⟨by omega, c2⟩] at hQ; exact hQ
    · rw [if_neg (fun z => c2 z.1), show min u v = u by omega] at hQ; exact hQ
    · omega
  have L76 : ∀ (i : Nat), i ≤ (M x.toNat).length → i ≤ (M y.toNat).length → Q (if (M x.toNat).length ≤ i ∧ (M y.toNat).length ≤ i then -2000000001 else min (match (M x.toNat)[i]? with | some p => p.1 | none => 9999) (match (M y.toNat)[i]? with | some p => p.1 | none => 9999)) σ → wX9_apart_L76 x y Q (i : Int) σ := by
    intro i h1 h2 hQ
    unfold wX9_apart_L76
    rw [h.siz hx]
    have L98 : ∀ u : Int, R32 u → (u = 9999 ∨ isK u) → (u = 9999 ↔ (M x.toNat).length ≤ i) → Q (if (M x.toNat).length ≤ i ∧ (M y.toNat).length ≤ i then -2000000001 else min u (match (M y.toNat)[i]? with | some p => p.1 | none => 9999)) σ → wX9_apart_L98 x y Q (i : Int) u σ := by
      intro u ru hu hui hQ
      unfold wX9_apart_L98
      rw [h.siz hy]
      refine ⟨by omega, by omega, ⟨by omega, by omega⟩, fun c => L122 u 9999 ru (by decide) hu (Or.inl rfl) ?_, fun c => ?_⟩
      · rw [List.getElem?_eq_none (by omega)] at hQ
        by_cases z : (M x.toNat).length ≤ i
        · rw [if_pos ⟨z, by omega⟩] at hQ; rw [if_pos ⟨hui.mpr z, rfl⟩]; exact hQ
        · rw [if_neg (fun q => z q.1)] at hQ; rw [if_neg (fun q => z (hui.mp q.1))]; exact hQ
      · have hq := List.getElem?_eq_getElem (show i < (M y.toNat).length by omega)
        generalize (M y.toNat)[i] = q at hq
        have kq := gy.2.1 q (List.mem_of_getElem? hq)
        rw [hq, if_neg (by omega)] at hQ
        exact sr_keyAt h hg hy hq (L122 u q.1 ru ⟨by omega, by omega⟩ hu (Or.inr kq) (by rw [if_neg (by omega)]; exact hQ))
    refine ⟨by omega, by omega, ⟨by omega, by omega⟩, fun c => L98 9999 (by decide) (Or.inl rfl) (by omega) ?_, fun c => ?_⟩
    · rw [List.getElem?_eq_none (show (M x.toNat).length ≤ i by omega)] at hQ; exact hQ
    · have hp := List.getElem?_eq_getElem (show i < (M x.toNat).length by omega)
      generalize (M x.toNat)[i] = p at hp
      have kp := gx.2.1 p (List.mem_of_getElem? hp)
      rw [hp] at hQ
      exact sr_keyAt h hg hx hp (L98 p.1 ⟨by omega, by omega⟩ (Or.inr kp) (by omega) hQ)
  intro rest
  induction rest with
  | nil =>
    intro i hdr hi hi2 hq
    have e := drop_nil hdr hi
    rw [List.length_nil, wX9_apart_L23, h.siz hx]
    refine ⟨by omega, by omega, ⟨by omega, by omega⟩, fun _ => L76 i hi hi2 ?_, fun c => by omega⟩
    rw [List.getElem?_eq_none (show (M x.toNat).length ≤ i by omega)]
    by_cases c : (M y.toNat).length ≤ i
    · rw [if_pos ⟨by omega, c⟩]
      rw [List.drop_eq_nil_of_le c] at hq; exact hq
    · rw [if_neg (fun z => c z.2)]
      rw [List.drop_eq_getElem_cons (by omega)] at hq
      rw [List.getElem?_eq_getElem (by omega)]
      have k := gy.2.1 _ (List.getElem_mem (show i < (M y.toNat).length by omega))
      rw [unl] at hq
      dsimp only
      rw [show min 9999 ((M y.toNat)[i]).1 = ((M y.toNat)[i]).1 by omega]; exact hq
  | cons p rest ih =>
    intro i hdr hi hi2 hq
    obtain ⟨hp, hd2, hi3, hi4⟩ := drop_cons hdr
    have kp := gx.2.1 p (List.mem_of_getElem? hp)
    have e : ((i : Int) + 1) = ((i + 1 : Nat) : Int) := by omega
    rw [List.length_cons, wX9_apart_L23, h.siz hx, h.siz hy, e]
    refine ⟨by omega, by omega, ⟨by omega, by omega⟩, fun c => by omega, fun _ => ⟨by omega, by omega, fun c => L76 i hi hi2 ?_, fun c => ?_⟩⟩
    · rw [if_neg (by omega), hp, List.getElem?_eq_none (show (M y.toNat).length ≤ i by omega)]
      rw [List.drop_eq_nil_of_le (by omega), unl] at hq
      dsimp only
      rw [show min p.1 9999 = p.1 by omega]; exact hq
    · have hq2 := List.getElem?_eq_getElem (show i < (M y.toNat).length by omega)
      have hdy : (M y.toNat).drop i = (M y.toNat)[i] :: (M y.toNat).drop (i + 1) := List.drop_eq_getElem_cons (by omega)
      generalize (M y.toNat)[i]'(by omega) = q at hq2 hdy
      rw [hdy, unl] at hq
      refine ⟨by omega, by omega, by omega, by omega, fun c2 => L76 i hi hi2 ?_, fun c2 => ih hd2 (by omega) (by omega) ?_⟩
      · rw [rows_eq h hg hx hy hp hq2] at c2
        rw [if_neg c2] at hq
        rw [if_neg (by omega), hp, hq2]; exact hq
      · rw [rows_eq h hg hx hy hp hq2] at c2
        rw [if_pos c2] at hq; exact hq
theorem rs_apart {Q : Int → SS → Prop} {x y : Int} (h : RI σ a) (hw : AW n a) (hn : n ≤ 1000000) (hq : Dr σ Q (opApart a x y)) : wX9_apart x y σ Q := by
  unfold opApart at hq
  refine sr_isMap (fun hx => ⟨o1, fun _ => sr_isMap (fun hy => ⟨fun _ => ?_, o1⟩) (fun hy => ⟨o0, fun _ => ?_⟩)⟩) (fun hx => ⟨fun _ => ?_, o0⟩)
  · rw [if_pos ⟨hx, hy⟩] at hq
    exact ⟨_, rs_apart_L h.1 hw.gm hx hy (aM a x.toNat) (i := 0) rfl (Nat.zero_le _) (Nat.zero_le _) (dr_same h hq)⟩
  · rw [if_neg (fun q => hy q.2)] at hq; exact dr_bad h hw hn hq
  · rw [if_neg (fun q => hx q.1)] at hq; exact dr_bad h hw hn hq
theorem rs_mixer {Q : Int → SS → Prop} {k : Int} (h : RI σ a) (hw : AW n a) (hn : n ≤ 1000000) (hq : Dr σ Q (opMixer a k)) : wX9_mixer k σ Q := by
  unfold opMixer at hq
  refine sr_in (fun hk => ⟨fun _ => ?_, o1⟩) (fun hk => ⟨o0, fun _ => ?_⟩)
  · rw [if_pos hk] at hq
    rw [h.2.2.2.1]
    refine hq _ ⟨h.1.of (fun k => sn_un_i _ _ (by omega)) (fun k => sn_un_i _ _ (by omega)), h.2.1.of (sn_un_k _ _ (by omega)) (fun k => sn_un_i _ _ (by omega)) (fun k => sn_un_i _ _ (by omega)), fun j hj => ?_, ?_, ?_, fun i c hc => ?_⟩ (Sm.un (by simp))
    · rw [sn_un_i _ _ (by omega)]; exact h.2.2.1 j hj
    · rw [sn_un_same]; rfl
    · rw [sn_un_k _ _ (by omega)]; exact h.2.2.2.2.1
    · rw [sn_un_i _ _ (by omega)]; exact h.2.2.2.2.2 i c hc
  · rw [if_neg hk] at hq; exact dr_bad h hw hn hq
theorem rs_clear {Q : Int → SS → Prop} (h : RI σ a) (hq : Dr σ Q (opClear a)) : wX9_clear σ Q := by
  unfold opClear at hq
  unfold wX9_clear
  rw [h.2.2.2.2.1]
  refine hq _ ⟨h.1.of (fun k => sn_un_i _ _ (by omega)) (fun k => sn_un_i _ _ (by omega)), h.2.1.of (sn_un_k _ _ (by omega)) (fun k => sn_un_i _ _ (by omega)) (fun k => sn_un_i _ _ (by omega)), fun j hj => ?_, ?_, ?_, fun i c hc => ?_⟩ (Sm.un (by simp))
  · rw [sn_un_i _ _ (by omega)]; exact h.2.2.1 j hj
  · rw [sn_un_k _ _ (by omega)]; exact h.2.2.2.1
  · rw [sn_un_same]; rfl
  · simp [aT] at hc
theorem rs_type {Q : Int → SS → Prop} {c : Int} (h : RI σ a) (hw : AW n a) (hn : n ≤ 1000000) (hq : Dr σ Q (opType a c)) : wX9_type c σ Q := by
  unfold opType at hq
  have ht := h.2.2.2.2.1
  have htl := hw.2.2.2.2.1
  refine sr_in (fun hc => ⟨fun _ => ?_, o1⟩) (fun hc => ⟨o0, fun _ => ?_⟩)
  · rw [if_pos hc] at hq
    rw [ht, Int.toNat_natCast]
    refine ⟨fun c2 => ⟨by omega, by omega, ?_⟩, fun c2 => ?_⟩
    · rw [if_pos (by omega)] at hq
      have e1 : sn (un σ 30 (aT a).length c) 21 11 = (aT a).length := by rw [sn_un_i _ _ (by omega)]; exact ht
      rw [e1, sn_un_same]
      refine ⟨⟨by omega, by omega⟩, hq _ ⟨h.1.of (fun k => ?_) (fun k => ?_), h.2.1.of ?_ (fun k => ?_) (fun k => ?_), fun j hj => ?_, ?_, ?_, fun i d hd => ?_⟩ ((Sm.un (by simp)).tr (Sm.un (by simp)))⟩
      · rw [sn_un_i _ _ (by omega), sn_un_i _ _ (by omega)]
      · rw [sn_un_i _ _ (by omega), sn_un_i _ _ (by omega)]
      · rw [sn_un_k _ _ (by omega), sn_un_i _ _ (by omega)]
      · rw [sn_un_i _ _ (by omega), sn_un_i _ _ (by omega)]
      · rw [sn_un_i _ _ (by omega), sn_un_i _ _ (by omega)]
      · rw [sn_un_i _ _ (by omega), sn_un_i _ _ (by omega)]; exact h.2.2.1 j hj
      · rw [sn_un_k _ _ (by omega), sn_un_i _ _ (by omega)]; exact h.2.2.2.1
      · rw [sn_un_same]; simp [aT]
      · rw [sn_un_i _ _ (by omega), sn_un]
        have hd' : (aT a ++ [c])[i]? = some d := hd
        rw [List.getElem?_append] at hd'
        split at hd'
        · rw [if_neg (by omega)]; exact h.2.2.2.2.2 i d hd'
        · have hi : i = (aT a).length := by
            have := (List.getElem?_eq_some_iff.mp hd').1
            simp at this; omega
          subst hi
          rw [if_pos ⟨rfl, rfl⟩]
          simpa using hd'
    · rw [if_neg (by omega)] at hq; exact dr_full h hw hn hq
  · rw [if_neg hc] at hq; exact dr_bad h hw hn hq
theorem sr_toldOf_L {Q : Int → SS → Prop} {w : Int} (h : RI σ a) (hw : AW n a) (hq : Q (cnt6 a 6) σ) : ∀ (f : Nat) {m : Nat}, m + f = 6 → 0 ≤ cnt6 a m → cnt6 a m ≤ 200 * m → wX9_toldOf_L64 w Q (f + 1) (cnt6 a m) (m : Int) σ := by
  intro f
  induction f with
  | zero =>
    intro m hm h0 h1
    have : m = 6 := by omega
    subst this
    rw [wX9_toldOf_L64]
    exact ⟨⟨by omega, by omega⟩, fun _ => ⟨⟨by omega, by omega⟩, hq⟩, fun c => by omega⟩
  | succ f ih =>
    intro m hm h0 h1
    have e : ((m : Int) + 1) = ((m + 1 : Nat) : Int) := by omega
    have hl := (hw.1 m (by omega)).2.2.2
    rw [wX9_toldOf_L64, Int.toNat_natCast, (h.1 m (by omega)).2, e]
    exact ⟨⟨by omega, by omega⟩, fun c => by omega, fun _ => ⟨by omega, by omega, ih (m := m + 1) (by omega) (by rw [cnt6]; omega) (by rw [cnt6]; omega)⟩⟩
theorem sr_toldOf {Q : Int → SS → Prop} {w : Int} (hw0 : 0 ≤ w ∧ w ≤ 6) (h : RI σ a) (hw : AW n a) (hq : Q (tld a w) σ) : wX9_toldOf w σ Q := by
  unfold tld at hq
  have h7 := h.2.2.1
  refine ⟨fun c => ?_, fun c => ?_, fun c => ?_, fun c => ?_, fun c => ?_, fun c => ?_, fun c => ?_⟩
  · rw [if_neg (by omega), if_neg (by omega), if_neg (by omega), if_neg (by omega), if_neg (by omega), if_neg (by omega)] at hq
    exact ⟨7, sr_toldOf_L h hw hq 6 (m := 0) rfl (by simp [cnt6]) (by simp [cnt6])⟩
  · subst c; exact ⟨by omega, by omega, by rw [show sn σ 29 ((0 : Int).toNat) = aR a 0 from h7 0 (by omega)]; exact hq⟩
  · subst c; exact ⟨by omega, by omega, by rw [show sn σ 29 ((1 : Int).toNat) = aR a 1 from h7 1 (by omega)]; exact hq⟩
  · subst c; exact ⟨by omega, by omega, by rw [show sn σ 29 ((2 : Int).toNat) = aR a 2 from h7 2 (by omega)]; exact hq⟩
  · subst c; rw [h.2.1.1]; exact hq
  · subst c; rw [h.2.2.2.2.1]; exact hq
  · subst c; rw [h.2.2.2.1]; exact hq
theorem rs_told {Q : Int → SS → Prop} {w : Int} (h : RI σ a) (hw : AW n a) (hn : n ≤ 1000000) (hq : Dr σ Q (opTold a w)) : wX9_told w σ Q := by
  unfold opTold at hq
  refine sr_in (fun hc => ⟨o1, fun _ => ?_⟩) (fun hc => ⟨fun _ => ?_, o0⟩)
  · rw [if_pos hc] at hq; exact sr_toldOf hc h hw (dr_same h hq)
  · rw [if_neg hc] at hq; exact dr_bad h hw hn hq
theorem rs_dg56 {Q : Int → SS → Prop} {K : Int → Int → SS → Prop} {m : Nat} (h : RI σ a) (hw : AW n a) (hm : m < 6) : ∀ (rest : List KV) {i : Nat} {hh : Int}, (aM a m).drop i = rest → i ≤ (aM a m).length → K (dgL hh rest) ((m : Int) + 1) σ → wX9_digest_L56 Q K (rest.length + 1) hh (m : Int) (i : Int) σ := by
  have hM : isM (m : Int) := ⟨by omega, by omega⟩
  have hl := (hw.1 m hm).2.2.2
  have hsz : sn σ 23 ((m : Int).toNat) = (aM a m).length := (h.1 m hm).2
  intro rest
  induction rest with
  | nil =>
    intro i hh hdr hi hK
    have e := drop_nil hdr hi
    rw [List.length_nil, wX9_digest_L56, hsz]
    exact ⟨by omega, by omega, ⟨by omega, by omega⟩, fun _ => hK, fun c => by omega⟩
  | cons p rest ih =>
    intro i hh hdr hi hK
    obtain ⟨hp, hd2, hi3, hi4⟩ := drop_cons hdr
    have e : ((i : Int) + 1) = ((i + 1 : Nat) : Int) := by omega
    rw [List.length_cons, wX9_digest_L56, hsz, e]
    rw [dgL] at hK
    exact ⟨by omega, by omega, ⟨by omega, by omega⟩, fun c => by omega, fun _ => ⟨⟨by omega, by omega⟩, sr_keyAt (M := aM a) h.1 hw.gm hM hp (sr_valueAt (M := aM a) h.1 hw.gm hM hp (ih hd2 (by omega) hK))⟩⟩
theorem rs_dg33 {Q : Int → SS → Prop} (h : RI σ a) (hw : AW n a) (hq : Q (dgM a 6) σ) : ∀ (f : Nat) {m : Nat}, m + f = 6 → wX9_digest_L33 Q (f + 1) (dgM a m) (m : Int) σ := by
  intro f
  induction f with
  | zero =>
    intro m hm
    have : m = 6 := by omega
    subst this
    rw [wX9_digest_L33]
    exact ⟨⟨by omega, by omega⟩, fun _ => hq, fun c => by omega⟩
  | succ f ih =>
    intro m hm
    have e : ((m : Int) + 1) = ((m + 1 : Nat) : Int) := by omega
    rw [wX9_digest_L33, Int.toNat_natCast, (h.1 m (by omega)).2]
    refine ⟨⟨by omega, by omega⟩, fun c => by omega, fun _ => ⟨by omega, by omega, _, rs_dg56 h hw (by omega) (aM a m) (i := 0) rfl (Nat.zero_le _) ?_⟩⟩
    rw [e]
    exact ih (m := m + 1) (by omega)
theorem rs_dg6 {Q : Int → SS → Prop} (h : RI σ a) (hw : AW n a) (hq : Q (dgM a 6) σ) : ∀ (f : Nat) {k : Nat}, k + f = 7 → wX9_digest_L6 Q (f + 1) (dgT a k) (k : Int) σ := by
  intro f
  induction f with
  | zero =>
    intro k hk
    have : k = 7 := by omega
    subst this
    rw [wX9_digest_L6]
    exact ⟨⟨by omega, by omega⟩, fun _ => ⟨7, rs_dg33 h hw hq 6 (m := 0) rfl⟩, fun c => by omega⟩
  | succ f ih =>
    intro k hk
    have e : ((k : Int) + 1) = ((k + 1 : Nat) : Int) := by omega
    rw [wX9_digest_L6, e]
    exact ⟨⟨by omega, by omega⟩, fun c => by omega, fun _ => sr_toldOf ⟨by omega, by omega⟩ h hw (ih (k := k + 1) (by omega))⟩
theorem rs_digest {Q : Int → SS → Prop} (h : RI σ a) (hw : AW n a) (hq : Dr σ Q (opDigest a)) : wX9_digest σ Q :=
  ⟨8, rs_dg6 h hw (dr_same h hq) 7 (k := 0) rfl⟩
theorem rs_back62 {Q : Int → SS → Prop} {q : Nat} {v : Nat → Int} (hq : q < 12) : ∀ (f : Nat) {i : Nat} {σ : SS}, i + f = 6 → sn σ 21 4 = q → (∀ j, j < 6 → sn σ 25 (6 * q + j) = v j) → Q (q : Int) (wr 23 0 v f i σ) → wX9_back_L62 Q (f + 1) (i : Int) σ := by
  intro f
  induction f with
  | zero =>
    intro i σ hi h hv hQ
    rw [wX9_back_L62, h]
    exact ⟨⟨by omega, by omega⟩, fun _ => hQ, fun c => by omega⟩
  | succ f ih =>
    intro i σ hi h hv hQ
    have e : ((i : Int) + 1) = ((i + 1 : Nat) : Int) := by omega
    have e2 : (6 * (q : Int) + (i : Int)).toNat = 6 * q + i := by omega
    rw [wX9_back_L62, h, e, e2, Int.toNat_natCast, hv i (by omega)]
    rw [wr, Nat.zero_add] at hQ
    exact ⟨⟨by omega, by omega⟩, fun c => by omega, fun _ => ⟨by omega, by omega, by omega, by omega, ih (by omega) (by rw [sn_un_i _ _ (by omega)]; exact h) (fun j hj => by rw [sn_un_i _ _ (by omega)]; exact hv j hj) hQ⟩⟩
theorem rs_back26 {Q : Int → SS → Prop} {q : Nat} {v w : Nat → Int} (hq : q < 12) : ∀ (f : Nat) {i : Nat} {σ : SS}, i + f = 1200 → sn σ 21 4 = q → (∀ j, j < 1200 → sn σ 24 (1200 * q + j) = v j) → (∀ j, j < 6 → sn σ 25 (6 * q + j) = w j) → Q (q : Int) (wr 23 0 w 6 0 (wr 22 0 v f i σ)) → wX9_back_L26 Q (f + 1) (i : Int) σ := by
  intro f
  induction f with
  | zero =>
    intro i σ hi h hv hw hQ
    rw [wX9_back_L26]
    exact ⟨⟨by omega, by omega⟩, fun _ => ⟨7, rs_back62 hq 6 (i := 0) rfl h hw hQ⟩, fun c => by omega⟩
  | succ f ih =>
    intro i σ hi h hv hw hQ
    have e : ((i : Int) + 1) = ((i + 1 : Nat) : Int) := by omega
    have e2 : (1200 * (q : Int) + (i : Int)).toNat = 1200 * q + i := by omega
    have e5 : wr 22 0 v (f + 1) i σ = wr 22 0 v f (i + 1) (un σ 22 i (v i)) := by rw [wr, Nat.zero_add]
    rw [wX9_back_L26, h, e, e2, Int.toNat_natCast, hv i (by omega)]
    rw [e5] at hQ
    exact ⟨⟨by omega, by omega⟩, fun c => by omega, fun _ => ⟨by omega, by omega, by omega, by omega, ih (by omega) (by rw [sn_un_i _ _ (by omega)]; exact h) (fun j hj => by rw [sn_un_i _ _ (by omega)]; exact hv j hj) (fun j hj => by rw [sn_un_i _ _ (by omega)]; exact hw j hj) hQ⟩⟩
theorem rs_back {Q : Int → SS → Prop} (h : RI σ a) (hw : AW n a) (hn : n ≤ 1000000) (hq : Dr σ Q (opBack a)) : wX9_back σ Q := by
  unfold opBack at hq
  obtain ⟨hM, hP, hO⟩ := id h
  unfold wX9_back
  cases hl : aP a with
  | nil =>
    rw [hl] at hq
    have e : sn σ 21 4 = 0 := by rw [hP.1, hl]; rfl
    rw [e]
    exact ⟨fun c => absurd rfl c, fun _ => dr_no h hw hn hq⟩
  | cons N rest =>
    rw [hl] at hq
    have h12 := hP.2.1
    rw [hl, List.length_cons] at h12
    have e : sn σ 21 4 = (rest.length : Int) + 1 := by rw [hP.1, hl]; simp
    rw [e, show ((rest.length : Int) + 1 - 1) = (rest.length : Int) by omega]
    refine ⟨fun c => ⟨⟨by omega, by omega⟩, 1201, ?_⟩, fun c => by omega⟩
    refine rs_back26 (q := rest.length) (v := fun j => sn σ 24 (1200 * rest.length + j)) (w := fun j => sn σ 25 (6 * rest.length + j)) (by omega) 1200 (i := 0) rfl (sn_un_same _ _ _ _) (fun j _ => sn_un_i _ _ (by omega)) (fun j _ => sn_un_i _ _ (by omega)) ?_
    generalize hτ : wr 23 0 (fun j => sn σ 25 (6 * rest.length + j)) 6 0 (wr 22 0 (fun j => sn σ 24 (1200 * rest.length + j)) 1200 0 (un σ 21 4 (rest.length : Int))) = τ
    have sm : Sm [21, 22, 23] σ τ := by
      rw [← hτ]
      exact ((Sm.un (by simp)).tr (wr_sm (x := 22) (by simp) _ _ _)).tr (wr_sm (x := 23) (by simp) _ _ _)
    have t22 : ∀ k, k < 1200 → sn τ 22 k = sn σ 24 (1200 * rest.length + k) := fun k hk => by
      rw [← hτ, wr_sn, if_neg (by omega), wr_sn, if_pos ⟨rfl, by omega, by omega⟩]; rfl
    have t23 : ∀ k, k < 6 → sn τ 23 k = sn σ 25 (6 * rest.length + k) := fun k hk => by
      rw [← hτ, wr_sn, if_pos ⟨rfl, by omega, by omega⟩]; rfl
    have t21 : ∀ k, sn τ 21 k = if k = 4 then (rest.length : Int) else sn σ 21 k := fun k => by
      rw [← hτ, wr_sn, if_neg (by omega), wr_sn, if_neg (by omega), sn_un]
      by_cases c : k = 4 <;> simp [c]
    refine hq τ ⟨fun m hm => ?_, ⟨?_, ?_, fun j K hK m hm => ?_⟩, fun j hj => ?_, ?_, ?_, fun i c hc => ?_⟩ (sm.up (by simp))
    · obtain ⟨r1, r2⟩ := hP.2.2 0 N (by rw [hl]; rfl) m hm
      have g := hw.2.2.1 N (by rw [hl]; exact List.mem_cons_self) m hm
      rw [hl, List.length_cons] at r1 r2
      refine ⟨fun i p hp => ?_, ?_⟩
      · have hi := (List.getElem?_eq_some_iff.mp (show (N m)[i]? = some p from hp)).1
        have hg := g.2.2.2
        rw [t22 _ (by omega), ← r1 i p hp]
        congr 1; omega
      · rw [t23 _ hm]
        show _ = ((N m).length : Int)
        rw [← r2]
        congr 1
    · rw [t21, if_pos rfl]; rfl
    · show rest.length ≤ 12; omega
    · have hK' : rest[j]? = some K := hK
      have hj := (List.getElem?_eq_some_iff.mp hK').1
      obtain ⟨r1, r2⟩ := hP.2.2 (j + 1) K (by rw [hl]; exact hK') m hm
      rw [hl, List.length_cons] at r1 r2
      have e : rest.length + 1 - 1 - (j + 1) = rest.length - 1 - j := by omega
      rw [e] at r1 r2
      exact ⟨fun i p hp => by rw [(sm.1 24 (by simp) _).1]; exact r1 i p hp, by rw [(sm.1 25 (by simp) _).1]; exact r2⟩
    · rw [(sm.1 29 (by simp) _).1]; exact hO.1 j hj
    · rw [t21, if_neg (by omega)]; exact hO.2.1
    · rw [t21, if_neg (by omega)]; exact hO.2.2.1
    · rw [(sm.1 30 (by simp) _).1]; exact hO.2.2.2 i c hc
end
