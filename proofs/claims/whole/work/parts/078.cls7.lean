/-! ===== scatter and top ===== -/
theorem lcg_in {x : Int} (h : 0 ≤ x) : 0 ≤ lcg x ∧ lcg x < 2147483648 := by unfold lcg; omega
theorem scK_in {x : Int} : -500 ≤ scK x ∧ scK x ≤ 500 := by unfold scK; omega
theorem scV_in {x : Int} : 0 ≤ scV x ∧ scV x < 1000 := by unfold scV; omega
section
variable {Z tp n : Nat} {rb : Int} {σ : SS} {P : Nat → Prop} {a : AS}
theorem sp_scatter_L {Q : Int → SS → Prop} {m sd : Int} {k : Nat} (hm : isM m) (hk : k ≤ 100) (hB : BT Z tp 500000) (hw : AW n a) (hn : n ≤ 1000000) : ∀ (f : Nat) {i : Nat} {x : Int} {l : List KV} {r : Option Nat} {σ : SS} {P : Nat → Prop}, i + f = k → CI Z rb σ P a → TT σ P r l → Srt l → Vok l → l.length ≤ 200 → (0 ≤ x ∧ x < 2147483648) → sn σ 1 2 ≤ 8191 + 2425 * (i : Int) →
    (∀ l', scat l x f = some l' → ∀ σ' P', CI Z rb σ' P' (aSet a m.toNat l') → Fr σ σ' → Q (l'.length : Int) σ') → (scat l x f = none → ∀ σ' P', CI Z rb σ' P' (aRef a 2) → Fr σ σ' → Q (-2000000004) σ') → wX8_scatter_L51 tp m sd (k : Int) Q (f + 1) r x (i : Int) σ := by
  intro f
  induction f with
  | zero =>
    intro i x l r σ P hi h ht hs hv hl hx htk hq hq2
    rw [wX8_scatter_L51]
    refine ⟨⟨by omega, by omega⟩, fun _ => ?_, fun c => by omega⟩
    rw [show m = ((m.toNat : Nat) : Int) by omega]
    exact sp_settle (by omega) h hw ht (fun σ' c f => hq l rfl σ' P (by simpa using c) f)
  | succ f ih =>
    intro i x l r σ P hi h ht hs hv hl hx htk hq hq2
    rw [wX8_scatter_L51]
    have h1 := lcg_in hx.1
    have h2 := scK_in (x := lcg x)
    have h3 := scV_in (x := lcg x)
    have e0 : (x * 1103515245 + 12345) % 2147483648 = lcg x := rfl
    have e1 : lcg x / 65536 % 1001 - 500 = scK (lcg x) := rfl
    have e2 : lcg x / 4096 % 1000 = scV (lcg x) := rfl
    rw [e0, e1, e2]
    have e : ((i : Int) + 1) = ((i + 1 : Nat) : Int) := by omega
    rw [e]
    refine ⟨⟨by omega, by omega⟩, fun c => by omega, fun _ => ⟨⟨by omega, by omega⟩, by omega, ⟨by omega, by omega⟩, by omega, ⟨by omega, by omega⟩, by omega, ⟨by omega, by omega⟩, by omega, ⟨by omega, by omega⟩, by omega, ⟨by omega, by omega⟩, fun c => ⟨⟨by omega, by omega⟩, by omega, ⟨by omega, by omega⟩, by omega, ⟨by omega, by omega⟩, ⟨by omega, by omega⟩, ?_⟩, fun c => ⟨⟨by omega, by omega⟩, ?_⟩⟩⟩
    · have hsc : scS l (lcg x) = ins l (scK (lcg x)) (scV (lcg x)) := by unfold scS; rw [if_neg c]
      refine sp_with hB ht hs hl h.1 (by omega) hv (by omega) (fun r1 σ1 P1 g1 x1 t1 => ?_)
      have c1 := h.ext x1 g1
      obtain ⟨d1, t1'⟩ := id t1
      refine sp_countOf t1' ⟨fun q => ?_, fun q => ?_⟩
      · refine ih (by omega) c1 t1 (Srt_ins hs _ _) (Vok_ins hv (by omega)) (by omega) h1 (by have := x1.tk; omega) (fun l' hl' σ' P' c f => hq l' ?_ σ' P' c ((Fr.ext x1).tr f)) (fun hn' σ' P' c f => hq2 ?_ σ' P' c ((Fr.ext x1).tr f))
        · rw [scat, hsc, if_pos (by omega)]; exact hl'
        · rw [scat, hsc, if_pos (by omega)]; exact hn'
      · exact sp_full c1 hw hn (fun σ3 c3 f3 => hq2 (by rw [scat, hsc, if_neg (by omega)]) σ3 P1 c3 ((Fr.ext x1).tr f3))
    · have hsc : scS l (lcg x) = del l (scK (lcg x)) (scK (lcg x)) := by unfold scS; rw [if_pos c]
      refine sp_without hB (Int.le_refl _) ht hs hl h.1 (by omega) hv (fun r1 σ1 P1 g1 x1 t1 => ?_)
      have c1 := h.ext x1 g1
      obtain ⟨d1, t1'⟩ := id t1
      refine sp_countOf t1' ⟨fun q => ?_, fun q => ?_⟩
      · refine ih (by omega) c1 t1 (Srt_del hs (Int.le_refl _)) (Vok_del hv _ _) (by omega) h1 (by have := x1.tk; omega) (fun l' hl' σ' P' c f => hq l' ?_ σ' P' c ((Fr.ext x1).tr f)) (fun hn' σ' P' c f => hq2 ?_ σ' P' c ((Fr.ext x1).tr f))
        · rw [scat, hsc, if_pos (by omega)]; exact hl'
        · rw [scat, hsc, if_pos (by omega)]; exact hn'
      · exact sp_full c1 hw hn (fun σ3 c3 f3 => hq2 (by rw [scat, hsc, if_neg (by omega)]) σ3 P1 c3 ((Fr.ext x1).tr f3))
theorem cs_scatter {Q : Int → SS → Prop} {m sd k : Int} (hB : BT Z tp 500000) (hrb : rb ≤ 2000000000) (h : CI Z rb σ P a) (hw : AW n a) (hn : n ≤ 1000000) (hq : Dn Z rb σ Q (opScatter a m sd k)) : wX8_scatter tp m sd k σ Q := by
  unfold opScatter at hq
  refine sp_isMap (fun hm => ⟨o1, fun _ => sp_isIn (fun hs => ⟨o1, fun _ => sp_isIn (fun hk => ⟨fun _ => ?_, o1⟩) (fun hk => ⟨o0, fun _ => ?_⟩)⟩) (fun hs => ⟨fun _ => ?_, o0⟩)⟩) (fun hm => ⟨fun _ => ?_, o0⟩)
  · rw [if_pos ⟨hm, hs, hk⟩] at hq
    have g := hw.mp hm
    refine sp_start h hw (by omega) (fun σ1 P1 c1 t1 f1 g1 => ⟨by omega, by omega, k.toNat + 1, ?_⟩)
    rw [show k = ((k.toNat : Nat) : Int) by omega]
    refine sp_scatter_L (sd := sd) hm (by omega) hB hw hn k.toNat (i := 0) (by omega) c1 (c1.mp hm) g.1 g.2.2.1 g.2.2.2 (by omega) (by omega) (fun l' hl' σ' P' c f => ?_) (fun hn' σ' P' c f => ?_)
    · rw [hl'] at hq; exact hq σ' P' (c.rbu (by omega)) (f1.tr f)
    · rw [hn'] at hq; exact hq σ' P' (c.rbu (by omega)) (f1.tr f)
  · rw [if_neg (fun q => hk q.2.2)] at hq; exact dn_bad h hw hn hq
  · rw [if_neg (fun q => hs q.2.1)] at hq; exact dn_bad h hw hn hq
  · rw [if_neg (fun q => hm q.1)] at hq; exact dn_bad h hw hn hq
theorem stg_in {p : KV} (hk : isK p.1) (hv : -1000000 ≤ p.2 ∧ p.2 ≤ 1000000) : 0 ≤ stg p ∧ stg p ≤ 2002001000 := by unfold stg; omega
theorem stg_key {p : KV} (hk : isK p.1) (hv : -1000000 ≤ p.2 ∧ p.2 ≤ 1000000) : Int.tmod (stg p) 1001 - 500 = p.1 := by
  have h := stg_in hk hv
  rw [Int.tmod_eq_emod_of_nonneg h.1]
  unfold stg
  omega
theorem stg_inj {p q : KV} (hk : isK p.1) (hk' : isK q.1) (h : stg p = stg q) : p = q := by
  unfold stg at h
  have h1 : p.2 = q.2 := by omega
  have h2 : p.1 = q.1 := by omega
  exact Prod.ext h2 h1
theorem sp_csb_L {Q : Int → SS → Prop} {l : List KV} {fb : Int} (hr : RowIs σ 15 l) (hg : Gd l) : ∀ (rest : List KV) {i : Nat}, l.drop i = rest → i ≤ l.length → Q (rk l fb : Int) σ → wX6_countStandingsBelow_L4 15 fb Q (rest.length + 1) (rk (l.take i) fb : Int) (i : Int) σ := by
  have hl := hr.2.1
  have rl : ∀ z : List KV, rk z fb ≤ z.length := fun z => List.length_filter_le _ _
  intro rest
  induction rest with
  | nil =>
    intro i hdr hi hq
    have := drop_nil hdr hi
    have r2 := rl (l.take i)
    rw [List.length_take] at r2
    rw [List.length_nil, wX6_countStandingsBelow_L4, hr.1]
    refine ⟨⟨by omega, by omega⟩, fun _ => ⟨⟨by omega, by omega⟩, ?_⟩, fun c => by omega⟩
    rw [this, List.take_length]; exact hq
  | cons p rest ih =>
    intro i hdr hi hq
    obtain ⟨hp, hd2, hi2, hi3⟩ := drop_cons hdr
    have e : ((i : Int) + 1) = ((i + 1 : Nat) : Int) := by omega
    have hk := hg.2.1 p (List.mem_of_getElem? hp)
    have hv := hg.2.2.1 p (List.mem_of_getElem? hp)
    have hs := stg_in hk hv
    have ih' := ih hd2 (by omega) hq
    have happ : rk (l.take (i + 1)) fb = rk (l.take i) fb + if stg p < fb then 1 else 0 := by
      unfold rk
      rw [take_succ hp, List.filter_append, List.length_append, List.filter_cons]
      congr 1
      by_cases c : stg p < fb <;> simp [c]
    rw [List.length_cons, wX6_countStandingsBelow_L4, hr.1, e]
    refine ⟨⟨by omega, by omega⟩, fun c => by omega, fun _ => sp_rvalueAt hr (sp_rkeyAt hr ?_)⟩
    rw [nk_at hp, nv_at hp]
    have es : (1000000 - p.2) * 1001 + p.1 + 500 = stg p := rfl
    rw [es]
    refine ⟨⟨by omega, by omega⟩, fun c => ?_, fun c => ?_⟩
    · rw [happ, if_neg (by omega)] at ih'; exact ih'
    · rw [happ, if_pos (by omega)] at ih'; exact ih'
theorem sp_csb {Q : Int → SS → Prop} {l : List KV} {fb : Int} (hr : RowIs σ 15 l) (hg : Gd l) (hq : Q (rk l fb : Int) σ) : wX6_countStandingsBelow 15 fb σ Q :=
  ⟨_, sp_csb_L hr hg l (i := 0) rfl (Nat.zero_le _) hq⟩
theorem rk_mono {l : List KV} {x y : Int} (h : x ≤ y) : rk l x ≤ rk l y := by
  unfold rk
  induction l with
  | nil => simp
  | cons p l ih =>
    rw [List.filter_cons, List.filter_cons]
    by_cases c : stg p < x
    · have c2 : stg p < y := by omega
      simp [c, c2]; omega
    · by_cases c2 : stg p < y
      · simp [c, c2]; omega
      · simp [c, c2]; omega
theorem rk_lt {l : List KV} {x y : Int} {p : KV} (hp : p ∈ l) (h1 : x ≤ stg p) (h2 : stg p < y) : rk l x < rk l y := by
  unfold rk
  induction l with
  | nil => cases hp
  | cons q l ih =>
    have hm := rk_mono (l := l) (x := x) (y := y) (by omega)
    unfold rk at hm
    rw [List.filter_cons, List.filter_cons]
    rcases List.mem_cons.mp hp with rfl | hp'
    · have c : ¬ stg p < x := by omega
      simp [c, h2]; omega
    · have := ih hp'
      by_cases c : stg q < x
      · have c2 : stg q < y := by omega
        simp [c, c2]; omega
      · by_cases c2 : stg q < y
        · simp [c, c2]; omega
        · simp [c, c2]; omega
theorem rk_all {l : List KV} (hg : Gd l) {y : Int} (h : 2002001000 < y) : rk l y = l.length := by
  unfold rk
  rw [List.filter_eq_self.mpr]
  intro p hp
  have := stg_in (hg.2.1 p hp) (hg.2.2.1 p hp)
  simp; omega
theorem rk_zero {l : List KV} (hg : Gd l) : rk l 0 = 0 := by
  unfold rk
  rw [List.filter_eq_nil_iff.mpr]; rfl
  intro p hp
  have := stg_in (hg.2.1 p hp) (hg.2.2.1 p hp)
  simp; omega
/-- the step at the standing itself -/
theorem rk_step {l : List KV} (hs : Srt l) (hK : ∀ p ∈ l, isK p.1) {x : Int} : (rk l (x + 1) = rk l x ∧ ∀ p ∈ l, stg p ≠ x) ∨ (rk l (x + 1) = rk l x + 1 ∧ ∃ p ∈ l, stg p = x) := by
  induction l with
  | nil => left; exact ⟨rfl, fun p hp => by cases hp⟩
  | cons q l ih =>
    have hs2 := (List.pairwise_cons.mp hs)
    have ih' := ih hs2.2 (fun p hp => hK p (List.mem_cons_of_mem _ hp))
    have e1 : rk (q :: l) (x + 1) = (if stg q < x + 1 then 1 else 0) + rk l (x + 1) := by
      unfold rk; rw [List.filter_cons]; by_cases c : stg q < x + 1 <;> simp [c]; omega
    have e2 : rk (q :: l) x = (if stg q < x then 1 else 0) + rk l x := by
      unfold rk; rw [List.filter_cons]; by_cases c : stg q < x <;> simp [c]; omega
    by_cases c : stg q = x
    · right
      refine ⟨?_, q, List.mem_cons_self, c⟩
      rw [e1, e2, if_pos (by omega), if_neg (by omega)]
      rcases ih' with ⟨h1, -⟩ | ⟨-, p, hp, hpx⟩
      · omega
      · have := stg_inj (hK q List.mem_cons_self) (hK p (List.mem_cons_of_mem _ hp)) (c.trans hpx.symm)
        have h3 := hs2.1 p hp
        rw [this] at h3; omega
    · have e3 : (if stg q < x + 1 then 1 else 0) = (if stg q < x then 1 else 0) := by
        by_cases c2 : stg q < x
        · rw [if_pos c2, if_pos (by omega)]
        · rw [if_neg c2, if_neg (by omega)]
      rw [e1, e2, e3]
      rcases ih' with ⟨h1, h2⟩ | ⟨h1, p, hp, hpx⟩
      · left
        refine ⟨by omega, fun p hp => ?_⟩
        rcases List.mem_cons.mp hp with rfl | hp
        · exact c
        · exact h2 p hp
      · right
        exact ⟨by omega, p, List.mem_cons_of_mem _ hp, hpx⟩
theorem topK_of {l : List KV} (hg : Gd l) {p : KV} {j : Int} (hp : p ∈ l) (hj : (rk l (stg p) : Int) = j) : topK l j = p.1 := by
  unfold topK
  cases hf : l.find? (fun p => decide ((rk l (stg p) : Int) = j)) with
  | none =>
    have := List.find?_eq_none.mp hf p hp
    simp at this
    exact absurd hj this
  | some q =>
    have h1 := List.find?_some hf
    have h2 := List.mem_of_find?_eq_some hf
    simp at h1
    have : stg q = stg p := by
      by_cases c : stg q < stg p
      · have := rk_lt h2 (Int.le_refl (stg q)) c; omega
      · by_cases c2 : stg p < stg q
        · have := rk_lt hp (Int.le_refl (stg p)) c2; omega
        · omega
    rw [stg_inj (hg.2.1 q h2) (hg.2.1 p hp) this]
theorem topK_none {l : List KV} (hg : Gd l) {j : Int} (hj : (l.length : Int) ≤ j) : topK l j = -2000000001 := by
  unfold topK
  cases hf : l.find? (fun p => decide ((rk l (stg p) : Int) = j)) with
  | none => rfl
  | some q =>
    have h1 := List.find?_some hf
    have h2 := List.mem_of_find?_eq_some hf
    simp at h1
    have h3 := stg_in (hg.2.1 q h2) (hg.2.2.1 q h2)
    have := rk_lt h2 (Int.le_refl (stg q)) (show stg q < 2002001001 by omega)
    rw [rk_all hg (y := 2002001001) (by omega)] at this
    omega
theorem or_pow {b m : Nat} : (2 ^ (b + 1) * m) ||| 2 ^ b = 2 ^ (b + 1) * m + 2 ^ b := (Nat.two_pow_add_eq_or_of_lt (Nat.pow_lt_pow_right (by omega) (by omega)) m).symm
theorem sp_kog_L {Q : Int → SS → Prop} {l : List KV} {j : Int} (hr : RowIs σ 15 l) (hg : Gd l) (hq : Q (topK l j) σ) : ∀ (b : Nat) {m : Nat}, b ≤ 31 → 2 ^ b * (m + 1) ≤ 2147483648 → (rk l ((2 ^ b * m : Nat) : Int) : Int) ≤ j → j < rk l ((2 ^ b * m + 2 ^ b : Nat) : Int) → wX6_keyOfGreatest_L5 15 j Q (b + 1) ((2 ^ b * m : Nat) : Int) ((b : Int) - 1) σ := by
  intro b
  induction b with
  | zero =>
    intro m hb hm h1 h2
    rw [wX6_keyOfGreatest_L5]
    simp only [Nat.pow_zero, Nat.one_mul] at *
    refine ⟨by decide, fun _ => ?_, fun c => absurd (by decide) c⟩
    have e : ((m + 1 : Nat) : Int) = (m : Int) + 1 := by omega
    rw [e] at h2
    rcases rk_step hg.1 hg.2.1 (x := (m : Int)) with ⟨h3, -⟩ | ⟨h3, p, hp, hpx⟩
    · omega
    · have hk := hg.2.1 p hp
      have hv := hg.2.2.1 p hp
      have ht := topK_of hg hp (j := j) (by rw [hpx]; omega)
      have hk2 := stg_key hk hv
      have := stg_in hk hv
      rw [hpx] at hk2
      rw [hk2]
      refine ⟨⟨by omega, by omega⟩, ⟨by omega, by omega⟩, ?_⟩
      rw [← ht]; exact hq
  | succ b ih =>
    intro m hb hm h1 h2
    have e0 : (((b + 1 : Nat) : Int) - 1) = (b : Int) := by omega
    rw [wX6_keyOfGreatest_L5, e0]
    have hpos : 0 < 2 ^ b := Nat.pow_pos (by omega)
    have hle : 2 ^ b ≤ 2 ^ 30 := Nat.pow_le_pow_right (by omega) (by omega)
    have hle2 : (2 : Nat) ^ 30 = 1073741824 := by decide
    have e1 : (1 : Int) * 2 ^ ((b : Int).toNat) = ((2 ^ b : Nat) : Int) := by rw [Int.toNat_natCast, Int.one_mul]; simp
    have e2 : 2 ^ (b + 1) * m = 2 ^ b * (2 * m) := by rw [Nat.pow_succ, Nat.mul_assoc]
    have e3 : 2 ^ (b + 1) * (m + 1) = 2 ^ b * (2 * m) + 2 ^ b + 2 ^ b := by rw [Nat.pow_succ, Nat.mul_assoc, Nat.mul_add, Nat.mul_add]; omega
    have e4 : (((2 ^ (b + 1) * m : Nat) : Int).toNat ||| (((2 ^ b : Nat) : Int)).toNat) = 2 ^ b * (2 * m + 1) := by
      rw [Int.toNat_natCast, Int.toNat_natCast, or_pow, e2, Nat.mul_add]; omega
    have e5 : 2 ^ b * (2 * m + 1) = 2 ^ b * (2 * m) + 2 ^ b := by rw [Nat.mul_add]; omega
    have e6 : ((b : Int) + (-1)) = (b : Int) - 1 := by omega
    have e7 : 2 ^ (b + 1) = 2 ^ b + 2 ^ b := by rw [Nat.pow_succ]; omega
    rw [e1, e4, e6]
    rw [e3] at hm
    refine ⟨⟨by omega, by omega⟩, fun c => by omega, fun _ => ⟨by omega, ⟨by omega, by omega⟩, by omega, ⟨by omega, by omega⟩, ⟨by omega, by omega⟩, ⟨by omega, by omega⟩, sp_csb hr hg ⟨fun c => ?_, fun c => ?_⟩⟩⟩
    · rw [e2]
      rw [e2] at h1
      exact ih (m := 2 * m) (by omega) (by rw [e5]; omega) h1 (by rw [e5] at c; exact c)
    · refine ih (m := 2 * m + 1) (by omega) ?_ (by omega) ?_
      · rw [show 2 * m + 1 + 1 = 2 * (m + 1) by omega, ← Nat.mul_assoc, ← Nat.pow_succ, e3]; omega
      · rw [e5]
        rw [e2, e7] at h2
        rw [show 2 ^ b * (2 * m) + 2 ^ b + 2 ^ b = 2 ^ b * (2 * m) + (2 ^ b + 2 ^ b) by omega]; exact h2
theorem cs_top {Q : Int → SS → Prop} {m j : Int} (h : CI Z rb σ P a) (hw : AW n a) (hn : n ≤ 1000000) (hq : Dn Z rb σ Q (opTop a m j)) : wX8_top m j σ Q := by
  unfold opTop at hq
  refine sp_isMap (fun hm => ⟨o1, fun _ => ⟨fun c => ⟨by omega, by omega, ?_⟩, fun c => ?_⟩⟩) (fun hm => ⟨fun _ => ?_, o0⟩)
  · rw [if_pos ⟨hm, c⟩] at hq
    obtain ⟨d, ht⟩ := h.mp hm
    have hg := hw.mp hm
    refine sp_countOf ht ⟨fun c2 => ⟨by omega, by omega, ?_⟩, fun c2 => ?_⟩
    · refine sp_take (Or.inl rfl) (h.mp hm) hg.2.2.2 (fun σ1 s1 r1 => ⟨32, ?_⟩)
      refine sp_kog_L r1 hg (hq σ1 P ((h.sm s1 c15).rbu (by omega)) (Fr.sm s1 f15)) 31 (m := 0) (by omega) (by decide) ?_ ?_
      · have : ((2 ^ 31 * 0 : Nat) : Int) = 0 := by decide
        rw [this, rk_zero hg]; omega
      · have : ((2 ^ 31 * 0 + 2 ^ 31 : Nat) : Int) = 2147483648 := by decide
        rw [this, rk_all hg (by omega)]; omega
    · rw [topK_none hg (by omega)] at hq; exact dn_same h hq
  · rw [if_neg (fun q => c q.2)] at hq; exact dn_bad h hw hn hq
  · rw [if_neg (fun q => hm q.1)] at hq; exact dn_bad h hw hn hq
end
