def lcg (x : Int) : Int := (x * 1103515245 + 12345) % 2147483648
def scK (x : Int) : Int := x / 65536 % 1001 - 500
def scV (x : Int) : Int := x / 4096 % 1000
def scS (l : List KV) (x : Int) : List KV := if x / 1024 % 4 = 0 then del l (scK x) (scK x) else ins l (scK x) (scV x)
def scat (l : List KV) (x : Int) : Nat → Option (List KV)
  | 0 => some l
  | n + 1 => if (scS l (lcg x)).length ≤ 200 then scat (scS l (lcg x)) (lcg x) n else none
def opScatter (a : AS) (m sd k : Int) : Int × AS := if isM m ∧ (0 ≤ sd ∧ sd ≤ 999999) ∧ (0 ≤ k ∧ k ≤ 100) then (match scat (aM a m.toNat) sd k.toNat with
    | some l => ((l.length : Int), aSet a m.toNat l)
    | none => oFull a) else oBad a
theorem mul_b {x y : Int} (hx : -500 ≤ x ∧ x ≤ 500) (hy : -500 ≤ y ∧ y ≤ 500) : -250000 ≤ x * y ∧ x * y ≤ 250000 := by
  have h1 := Int.mul_nonneg (show 0 ≤ 500 - x by omega) (show 0 ≤ 500 + y by omega)
  have h2 := Int.mul_nonneg (show 0 ≤ 500 + x by omega) (show 0 ≤ 500 - y by omega)
  have h3 := Int.mul_nonneg (show 0 ≤ 500 - x by omega) (show 0 ≤ 500 - y by omega)
  have h4 := Int.mul_nonneg (show 0 ≤ 500 + x by omega) (show 0 ≤ 500 + y by omega)
  simp only [Int.sub_mul, Int.add_mul, Int.mul_add, Int.mul_sub] at h1 h2 h3 h4
  omega
theorem fillL_len (fr st : Int) (k : Nat) : (fillL fr st k).length = k := by
  induction k with
  | zero => rfl
  | succ k ih => rw [fillL, List.length_append, ih]; rfl
theorem fillL_v (fr st : Int) (k : Nat) : Vok (fillL fr st k) := by
  induction k with
  | zero => intro p hp; cases hp
  | succ k ih =>
    intro p hp
    rw [fillL] at hp
    rcases List.mem_append.mp hp with q | q
    · exact ih p q
    · rw [List.mem_singleton.mp q]; exact hd_in _
section
variable {Z tp n : Nat} {rb : Int} {σ : SS} {P : Nat → Prop} {a : AS}
theorem sp_fill_L {Q : Int → SS → Prop} {m fr st : Int} {k : Nat} (hm : isM m) (hfr : isK fr) (hst : 1 ≤ st ∧ st ≤ 50) (hk : k ≤ 200) (hend : k = 0 ∨ fr + ((k : Int) - 1) * st ≤ 500) (hB : BT Z tp 500000) (hrb : rb ≤ 2000000000) (hw : AW n a) : ∀ (f : Nat) {i : Nat} {σ : SS}, i + f = k → CI Z rb σ P a → RowIs σ 15 (fillL fr st i) → (∀ σ' P', CI Z (rb + 1) σ' P' (aSet a m.toNat (fillL fr st k)) → Fr σ σ' → Q (k : Int) σ') → wX8_fill_L74 tp m fr (k : Int) st Q (f + 1) (i : Int) σ := by
  intro f
  induction f with
  | zero =>
    intro i σ hi h hr hq
    have : i = k := by omega
    subst this
    rw [wX8_fill_L74]
    refine ⟨⟨by omega, by omega⟩, fun _ => ?_, fun c => by omega⟩
    rw [show m = ((m.toNat : Nat) : Int) by omega]
    refine sp_settleRow (by omega) (Or.inl rfl) hB hrb h hw hr (fillL_v _ _ _) (fun σ' P' c f => ?_)
    rw [fillL_len]
    exact hq σ' P' (by simpa using c) f
  | succ f ih =>
    intro i σ hi h hr hq
    rw [wX8_fill_L74]
    have hmul : (i : Int) * st ≤ ((k : Int) - 1) * st := Int.mul_le_mul_of_nonneg_right (by omega) (by omega)
    have hmul0 : 0 ≤ (i : Int) * st := Int.mul_nonneg (by omega) (by omega)
    have hkey : -500 ≤ fr + (i : Int) * st ∧ fr + (i : Int) * st ≤ 500 := by omega
    have hprod := mul_b hkey hfr
    refine ⟨⟨by omega, by omega⟩, fun c => by omega, fun _ => ⟨⟨by omega, by omega⟩, sp_held ⟨⟨by omega, by omega⟩, ?_⟩⟩⟩
    refine sp_add hr (by rw [fillL_len]; omega) (fun σ1 s1 r1 => ?_)
    have e : ((i : Int) + 1) = ((i + 1 : Nat) : Int) := by omega
    rw [e]
    exact ih (by omega) (h.sm s1 c15) r1 (fun σ' P' c f => hq σ' P' c ((Fr.sm s1 f15).tr f))
theorem cs_fill {Q : Int → SS → Prop} {m fr k st : Int} (hB : BT Z tp 500000) (hrb : rb ≤ 2000000000) (h : CI Z rb σ P a) (hw : AW n a) (hn : n ≤ 1000000) (hq : Dn Z rb σ Q (opFill a m fr k st)) : wX8_fill tp m fr k st σ Q := by
  unfold opFill at hq
  refine sp_isMap (fun hm => ⟨o1, fun _ => sp_isKey (fun hf => ⟨o1, fun _ => sp_isIn (fun hk => ⟨o1, fun _ => sp_isIn (fun hs => ⟨fun _ => ?_, o1⟩) (fun hs => ⟨o0, fun _ => ?_⟩)⟩) (fun hk => ⟨fun _ => ?_, o0⟩)⟩) (fun hf => ⟨fun _ => ?_, o0⟩)⟩) (fun hm => ⟨fun _ => ?_, o0⟩)
  · rw [if_pos ⟨hm, hf, hk, hs⟩] at hq
    have go : ¬ (0 < k ∧ ¬ fr + (k - 1) * st ≤ 500) → wX6_empty 15 σ (fun s27 => ∃ kk, wX8_fill_L74 tp m fr k st Q kk 0 s27) := by
      intro hc
      rw [if_neg hc] at hq
      refine sp_empty (fun σ1 s1 r1 => ⟨k.toNat + 1, ?_⟩)
      have hk2 : k = ((k.toNat : Nat) : Int) := by omega
      rw [hk2]
      refine sp_fill_L hm hf hs (by omega) ?_ hB hrb hw k.toNat (i := 0) (by omega) (h.sm s1 c15) r1 (fun σ' P' c f => ?_)
      · by_cases q : k.toNat = 0
        · exact Or.inl q
        · right
          rw [← hk2]
          exact Decidable.byContradiction fun q2 => hc ⟨by omega, q2⟩
      · rw [← hk2]
        exact hq σ' P' (c.rbu (by omega)) ((Fr.sm s1 f15).tr f)
    refine ⟨fun c => go (fun q => by omega), fun c => ?_⟩
    have h1 : (k - 1) * st ≤ (k - 1) * 50 := Int.mul_le_mul_of_nonneg_left (by omega) (by omega)
    have h2 : 0 ≤ (k - 1) * st := Int.mul_nonneg (by omega) (by omega)
    refine ⟨⟨by omega, by omega⟩, fun c2 => go (fun q => q.2 c2), fun c2 => ?_⟩
    rw [if_pos ⟨by omega, c2⟩] at hq; exact dn_no h hw hn hq
  · rw [if_neg (fun q => hs q.2.2.2)] at hq; exact dn_bad h hw hn hq
  · rw [if_neg (fun q => hk q.2.2.1)] at hq; exact dn_bad h hw hn hq
  · rw [if_neg (fun q => hf q.2.1)] at hq; exact dn_bad h hw hn hq
  · rw [if_neg (fun q => hm q.1)] at hq; exact dn_bad h hw hn hq
theorem sp_passes {Q : Int → SS → Prop} {kind x k v : Int} (hk : 0 ≤ kind ∧ kind ≤ 4) (h1 : ps kind x (k, v) → Q 1 σ) (h0 : ¬ ps kind x (k, v) → Q 0 σ) : wX8_passes kind x k v σ Q := by
  unfold ps at h1 h0
  dsimp only at h1 h0
  have hr : R32 (Int.tmod k 2) := by
    have e := Int.tmod_lt_of_pos k (show (0 : Int) < 2 by decide)
    have e2 := Int.lt_tmod_of_pos k (show (0 : Int) < 2 by decide)
    exact ⟨by omega, by omega⟩
  have L26 : ∀ (u w : Int), (u = 1 ↔ x < v) → (u = 0 ∨ u = 1) → (w = 1 ↔ (x < v ∧ 0 < k)) → (w = 0 ∨ w = 1) → wX8_passes_L26 kind x k v Q u w σ := by
    intro u w hu hu01 hw hw01
    refine ⟨fun c => h1 (by omega), fun c => ⟨hr, fun q => h0 (fun z => by omega), fun q => h1 (Or.inr (Or.inl ⟨c, q⟩))⟩, fun c => ⟨hu01, ?_⟩, fun c => ⟨hw01, ?_⟩, fun c => ⟨⟨by omega, by omega⟩, fun q => h0 ?_, fun q => h1 ?_⟩⟩
    · rcases hu01 with q | q
      · rw [q]; exact h0 (fun z => by omega)
      · rw [q]; exact h1 (Or.inr (Or.inr (Or.inl ⟨c, hu.mp q⟩)))
    · rcases hw01 with q | q
      · rw [q]; exact h0 (fun z => by omega)
      · rw [q]; exact h1 (Or.inr (Or.inr (Or.inr (Or.inl ⟨c, hw.mp q⟩))))
    · intro z; omega
    · right; right; right; right
      exact ⟨c, fun z => by omega⟩
  refine ⟨fun c => ⟨by decide, fun _ => ?_, fun q => absurd rfl q⟩, fun c => ⟨by decide, fun q => absurd q (by decide), fun _ => ⟨fun c2 => ?_, fun c2 => ?_⟩⟩⟩
  · unfold wX8_passes_L25; exact L26 0 0 (by omega) (by omega) (by omega) (by omega)
  · unfold wX8_passes_L25; exact L26 1 0 (by omega) (by omega) (by omega) (by omega)
  · exact L26 1 1 (by omega) (by omega) (by omega) (by omega)
theorem sv_cons (kind x : Int) (p : KV) (l : List KV) : svL kind x (l ++ [p]) = if @decide (ps kind x p) (Classical.propDecidable _) then svL kind x l ++ [p] else svL kind x l := by
  unfold svL
  rw [List.filter_append, List.filter_cons]
  split <;> simp
theorem take_succ {l : List KV} {i : Nat} {p : KV} (h : l[i]? = some p) : l.take (i + 1) = l.take i ++ [p] := by
  rw [List.take_add_one, h]; rfl
theorem sp_sieve_L {Q : Int → SS → Prop} {m kind x t : Int} {l : List KV} (ht : isM t) (hk : 0 ≤ kind ∧ kind ≤ 4) (hV : Vok l) (hB : BT Z tp 500000) (hrb : rb ≤ 2000000000) (hw : AW n a) : ∀ (rest : List KV) {i : Nat} {σ : SS}, l.drop i = rest → i ≤ l.length → CI Z rb σ P a → RowIs σ 15 l → RowIs σ 18 (svL kind x (l.take i)) → (∀ σ' P', CI Z (rb + 1) σ' P' (aSet a t.toNat (svL kind x l)) → Fr σ σ' → Q ((svL kind x l).length : Int) σ') → wX8_sieve_L59 tp m kind x t Q (rest.length + 1) (i : Int) σ := by
  intro rest
  induction rest with
  | nil =>
    intro i σ hd hi h hr hr2 hq
    have := drop_nil hd hi
    have hl := hr.2.1
    rw [List.length_nil, wX8_sieve_L59, hr.1]
    refine ⟨⟨by omega, by omega⟩, fun _ => ?_, fun c => by omega⟩
    rw [show t = ((t.toNat : Nat) : Int) by omega]
    rw [this, List.take_length] at hr2
    exact sp_settleRow (by omega) (Or.inr rfl) hB hrb h hw hr2 (Vok_sub hV (fun p hp => (List.mem_filter.mp hp).1)) (fun σ' P' c f => hq σ' P' (by simpa using c) f)
  | cons p rest ih =>
    intro i σ hd hi h hr hr2 hq
    obtain ⟨hp, hd2, hi2, hi3⟩ := drop_cons hd
    have hl := hr.2.1
    have e : ((i : Int) + 1) = ((i + 1 : Nat) : Int) := by omega
    rw [List.length_cons, wX8_sieve_L59, hr.1, e]
    refine ⟨⟨by omega, by omega⟩, fun c => by omega, fun _ => sp_rkeyAt hr (sp_rvalueAt hr ?_)⟩
    rw [nk_at hp, nv_at hp]
    refine sp_passes hk (fun hps => ⟨o1, fun _ => ?_⟩) (fun hps => ⟨fun _ => ?_, o0⟩)
    · have hlen : (svL kind x (l.take i)).length ≤ i := by
        have := List.length_filter_le (fun p => @decide (ps kind x p) (Classical.propDecidable _)) (l.take i)
        rw [List.length_take] at this
        unfold svL; omega
      refine sp_add hr2 (by omega) (fun σ1 s1 r1 => ?_)
      refine ih hd2 (by omega) (h.sm s1 c18) (hr.sm s1 (by simp) (by simp) (by simp)) ?_ (fun σ' P' c f => hq σ' P' c ((Fr.sm s1 f18).tr f))
      rw [take_succ hp, sv_cons, if_pos (by simpa using hps)]
      exact r1
    · refine ih hd2 (by omega) h hr ?_ hq
      rw [take_succ hp, sv_cons, if_neg (by simpa using hps)]
      exact hr2
theorem cs_sieve {Q : Int → SS → Prop} {m kind x t : Int} (hB : BT Z tp 500000) (hrb : rb ≤ 2000000000) (h : CI Z rb σ P a) (hw : AW n a) (hn : n ≤ 1000000) (hq : Dn Z rb σ Q (opSieve a m kind x t)) : wX8_sieve tp m kind x t σ Q := by
  unfold opSieve at hq
  refine sp_isMap (fun hm => ⟨o1, fun _ => sp_isIn (fun hk => ⟨o1, fun _ => sp_isValue (fun hx => ⟨o1, fun _ => sp_isMap (fun ht => ⟨fun _ => ⟨by omega, by omega, ?_⟩, o1⟩) (fun ht => ⟨o0, fun _ => ?_⟩)⟩) (fun hx => ⟨fun _ => ?_, o0⟩)⟩) (fun hk => ⟨fun _ => ?_, o0⟩)⟩) (fun hm => ⟨fun _ => ?_, o0⟩)
  · rw [if_pos ⟨hm, hk, hx, ht⟩] at hq
    have hg := hw.mp hm
    refine sp_take (Or.inl rfl) (h.mp hm) hg.2.2.2 (fun σ1 s1 r1 => ?_)
    refine sp_empty (fun σ2 s2 r2 => ⟨_, sp_sieve_L ht hk hg.2.2.1 hB hrb hw (aM a m.toNat) (i := 0) rfl (by omega) ((h.sm s1 c15).sm s2 c18) (r1.sm s2 (by simp) (by simp) (by simp)) r2 (fun σ' P' c f => hq σ' P' (c.rbu (by omega)) (((Fr.sm s1 f15).tr (Fr.sm s2 f18)).tr f))⟩)
  · rw [if_neg (fun q => ht q.2.2.2)] at hq; exact dn_bad h hw hn hq
  · rw [if_neg (fun q => hx q.2.2.1)] at hq; exact dn_bad h hw hn hq
  · rw [if_neg (fun q => hk q.2.1)] at hq; exact dn_bad h hw hn hq
  · rw [if_neg (fun q => hm q.1)] at hq; exact dn_bad h hw hn hq
end
