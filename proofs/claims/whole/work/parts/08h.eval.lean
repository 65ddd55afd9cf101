/-! ===== sums: a term list by list, and key by key ===== -/
def setL (ks : List Int) : List KV := ks.foldl (fun l v => ins l v v) []
def dT (mk : Int) (M : Nat → List KV) : List Tok → List (List KV) → Option (List (List KV))
  | [], st => some st
  | x :: k, st => if x.1 = 4 then dT mk M k (M (x.2.headD 0).toNat :: st) else if x.1 = 5 then dT mk M k (setL x.2 :: st)
    else if (tabL (jnF x.1 mk (hdL st.tail) (hdL st))).length ≤ 200 then dT mk M k (tabL (jnF x.1 mk (hdL st.tail) (hdL st)) :: st.tail.tail) else none
def exD (mk : Int) : List (Int × List Tok) → (Nat → List KV) → Option (Nat → List KV)
  | [], M => some M
  | x :: d, M => match dT mk M x.2 [] with
    | some st => exD mk d (updM M x.1.toNat (hdL st))
    | none => none
theorem dst_set {mk : Int} {M : Nat → List KV} {ds : List KV} : ∀ (ks : List Int) (l : List KV) (st : List (List KV)), dst mk (ks.map (fun v => ((6 : Int), v)) ++ ds) M (l :: st) = dst mk ds M (ks.foldl (fun l v => ins l v v) l :: st) := by
  intro ks
  induction ks with
  | nil => intro l st; rfl
  | cons v ks ih =>
    intro l st
    rw [List.map_cons, List.cons_append, dst, if_neg (show ¬ (6 : Int) = 4 by decide), if_neg (show ¬ (6 : Int) = 5 by decide), if_pos rfl]
    exact ih (ins l v v) st
theorem dst_T {mk : Int} {M : Nat → List KV} {ds : List KV} : ∀ (k : List Tok) (st : List (List KV)), (∀ y ∈ k, okT y) → dst mk (flT k ++ ds) M st = (match dT mk M k st with | some st' => dst mk ds M st' | none => none) := by
  intro k
  induction k with
  | nil => intro st _; rfl
  | cons x k ih =>
    intro st hk
    have ih' := fun st => ih st (fun y hy => hk y (List.mem_cons_of_mem _ hy))
    rw [flT, dT, List.append_assoc]
    rcases hk x List.mem_cons_self with ⟨h1, h2⟩ | ⟨h1, m, h2, h3⟩ | ⟨h1, h2, h3⟩
    · rw [if_neg (by omega), if_neg (by omega), if_neg (by omega), if_neg (by omega), List.singleton_append, dst, if_neg (by dsimp only; omega), if_neg (by dsimp only; omega), if_neg (by dsimp only; omega), if_neg (by dsimp only; omega)]
      dsimp only
      split
      · exact ih' _
      · rfl
    · rw [if_pos h1, if_pos h1, List.singleton_append, dst, if_pos rfl]
      exact ih' _
    · rw [if_neg (by omega), if_pos h1, if_neg (by omega), if_pos h1, List.cons_append, dst, if_neg (by decide), if_pos rfl, dst_set]
      exact ih' _
theorem dT_len {mk : Int} {M : Nat → List KV} : ∀ (k : List Tok) (st st' : List (List KV)) (h : Nat), (∀ y ∈ k, okT y) → dT mk M k st = some st' → wf k st.length = some h → st'.length = h := by
  intro k
  induction k with
  | nil => intro st st' h _ h1 h2; rw [dT] at h1; rw [wf] at h2; cases h1; exact Option.some.inj h2
  | cons x k ih =>
    intro st st' h hk h1 h2
    have ih' := fun st st' h => ih st st' h (fun y hy => hk y (List.mem_cons_of_mem _ hy))
    rw [dT] at h1
    rw [wf] at h2
    rcases hk x List.mem_cons_self with ⟨a1, -⟩ | ⟨a1, -⟩ | ⟨a1, -⟩
    · rw [if_neg (by omega), if_neg (by omega)] at h1
      rw [if_neg (by omega)] at h2
      split at h2
      · split at h1
        · refine ih' _ _ _ h1 ?_
          rw [List.length_cons, List.length_tail, List.length_tail, show st.length - 1 - 1 + 1 = st.length - 1 by omega]; exact h2
        · cases h1
      · cases h2
    · rw [if_pos a1] at h1
      rw [if_pos (by omega)] at h2
      exact ih' _ _ _ h1 h2
    · rw [if_neg (by omega), if_pos a1] at h1
      rw [if_pos (by omega)] at h2
      exact ih' _ _ _ h1 h2
theorem dst_D {mk : Int} : ∀ (d : List (Int × List Tok)) (M : Nat → List KV), okD d → dst mk (flD d) M [] = (match exD mk d M with | some M' => some (M', []) | none => none) := by
  intro d
  induction d with
  | nil => intro M _; rfl
  | cons x d ih =>
    intro M hd
    have hx := hd x List.mem_cons_self
    rw [flD, dst_T _ _ hx.2.1, exD]
    cases h : dT mk M x.2 [] with
    | none => rfl
    | some st =>
      have hl := dT_len x.2 [] st 1 hx.2.1 h hx.2.2
      dsimp only
      rw [dst, if_neg (show ¬ (7 : Int) = 4 by decide), if_neg (show ¬ (7 : Int) = 5 by decide), if_neg (show ¬ (7 : Int) = 6 by decide), if_pos rfl]
      have ht : st.tail = [] := List.length_eq_zero_iff.mp (by rw [List.length_tail]; omega)
      rw [ht]
      exact ih _ (fun y hy => hd y (List.mem_cons_of_mem _ hy))
theorem exD_app {mk : Int} : ∀ (d e : List (Int × List Tok)) (M : Nat → List KV), exD mk (d ++ e) M = (exD mk d M).bind (exD mk e) := by
  intro d
  induction d with
  | nil => intro e M; rfl
  | cons x d ih =>
    intro e M
    rw [List.cons_append, exD, exD]
    cases dT mk M x.2 [] with
    | none => rfl
    | some st => exact ih _ _
/-- key by key -/
def hdO (vs : List (Option Int)) : Option Int := vs.headD none
def vX (mk : Int) (M : Nat → List KV) (y : Int) (x : Tok) (vs : List (Option Int)) : List (Option Int) := if x.1 = 4 then lk (M (x.2.headD 0).toNat) y :: vs else if x.1 = 5 then (if y ∈ x.2 then some y else none) :: vs else jn x.1 mk (hdO vs.tail) (hdO vs) :: vs.tail.tail
def vT (mk : Int) (M : Nat → List KV) (y : Int) : List Tok → List (Option Int) → List (Option Int)
  | [], vs => vs
  | x :: k, vs => vT mk M y k (vX mk M y x vs)
theorem vT_app {mk y : Int} {M : Nat → List KV} : ∀ (a b : List Tok) (vs : List (Option Int)), vT mk M y (a ++ b) vs = vT mk M y b (vT mk M y a vs) := by
  intro a
  induction a with
  | nil => intro b vs; rfl
  | cons x a ih => intro b vs; exact ih b _
theorem lk_ins {l : List KV} (hs : Srt l) (k v y : Int) : lk (ins l k v) y = if y = k then some v else lk l y := by
  have := Srt_ins hs k v
  unfold ins at *
  rw [lk_app this]
  dsimp only
  by_cases c1 : y < k
  · rw [if_pos c1, if_neg (by omega), lk_lo, if_pos c1]
  · rw [if_neg c1]
    by_cases c2 : y = k
    · rw [if_pos c2, if_pos c2]
    · rw [if_neg c2, if_neg c2, lk_hi, if_pos (by omega)]
theorem set_ok : ∀ (ks : List Int) (l : List KV), Gd l → (∀ v ∈ ks, isK v) → l.length + ks.length ≤ 200 → Gd (ks.foldl (fun l v => ins l v v) l) ∧ ∀ y, lk (ks.foldl (fun l v => ins l v v) l) y = if y ∈ ks then some y else lk l y := by
  intro ks
  induction ks with
  | nil => intro l hg _ _; exact ⟨hg, fun y => by rw [if_neg (by simp)]; rfl⟩
  | cons v ks ih =>
    intro l hg hk hl
    rw [List.length_cons] at hl
    have hv := hk v List.mem_cons_self
    have h1 := ins_len (l := l) v v
    have g1 : Gd (ins l v v) := Gd_ins hg hv ⟨by omega, by omega⟩ (by omega)
    obtain ⟨a1, a2⟩ := ih (ins l v v) g1 (fun x hx => hk x (List.mem_cons_of_mem _ hx)) (by omega)
    refine ⟨a1, fun y => ?_⟩
    rw [List.foldl_cons, a2 y, lk_ins hg.1]
    by_cases c1 : y ∈ ks
    · rw [if_pos c1, if_pos (List.mem_cons_of_mem _ c1)]
    · rw [if_neg c1]
      by_cases c2 : y = v
      · rw [if_pos c2, if_pos (by rw [c2]; exact List.mem_cons_self), c2]
      · rw [if_neg c2, if_neg (fun z => (List.mem_cons.mp z).elim c2 c1)]
theorem setL_ok {ks : List Int} (hk : ∀ v ∈ ks, isK v) (hl : ks.length ≤ 8) : Gd (setL ks) ∧ ∀ y, lk (setL ks) y = if y ∈ ks then some y else none := by
  have := set_ok ks [] Gd_nil hk (by simp; omega)
  exact ⟨this.1, fun y => by rw [show setL ks = ks.foldl (fun l v => ins l v v) [] from rfl, this.2 y]; rfl⟩
theorem hdO_map (y : Int) (st : List (List KV)) : hdO (st.map (fun l => lk l y)) = lk (hdL st) y := by
  cases st <;> rfl
theorem jnF_out {s mk : Int} {la lb : List KV} (ha : Gd la) (hb : Gd lb) (k : Int) (hk : ¬ isK k) : jnF s mk la lb k = none := by
  unfold jnF; rw [lkx_out ha.2.1 hk, lkx_out hb.2.1 hk]; rfl
theorem tabL_lk {f : Int → Option Int} (hf : ∀ k, ¬ isK k → f k = none) (y : Int) : lk (tabL f) y = f y := by
  rw [tab_lk]
  by_cases c : isK y
  · rw [if_pos (by omega)]
  · rw [if_neg (by omega), hf y c]
theorem vX_map {mk y : Int} {M : Nat → List KV} {x : Tok} {st : List (List KV)} (hs : ∀ l ∈ st, Gd l) (hx : okT x) : vX mk M y x (st.map (fun l => lk l y)) = (if x.1 = 4 then M (x.2.headD 0).toNat :: st else if x.1 = 5 then setL x.2 :: st else tabL (jnF x.1 mk (hdL st.tail) (hdL st)) :: st.tail.tail).map (fun l => lk l y) := by
  unfold vX
  rcases hx with ⟨a1, -⟩ | ⟨a1, -⟩ | ⟨a1, a2, a3⟩
  · rw [if_neg (by omega), if_neg (by omega), if_neg (by omega), if_neg (by omega), List.map_cons, ← List.map_tail, ← List.map_tail, hdO_map, hdO_map]
    rw [tabL_lk (jnF_out (hdL_ok (fun l hl => hs l (List.mem_of_mem_tail hl))) (hdL_ok hs))]
    rfl
  · rw [if_pos a1, if_pos a1]; rfl
  · rw [if_neg (show ¬ x.1 = 4 by omega), if_pos a1, if_neg (show ¬ x.1 = 4 by omega), if_pos a1, List.map_cons, (setL_ok a3 a2).2 y]
/-- the value that the mark at a place leaves -/
def fJ (mk : Int) (M : Nat → List KV) (k : List Tok) (st : List (List KV)) (j : Nat) (y : Int) : Option Int := hdO (vT mk M y (k.take (j + 1)) (st.map (fun l => lk l y)))
theorem dT_ok {mk : Int} {M : Nat → List KV} (hg : GM M) (hmk : 0 ≤ mk ∧ mk ≤ 5) : ∀ (k : List Tok) (st : List (List KV)), (∀ y ∈ k, okT y) → (∀ l ∈ st, Gd l) →
    (∀ st', dT mk M k st = some st' → (∀ l ∈ st', Gd l) ∧ (∀ y, vT mk M y k (st.map (fun l => lk l y)) = st'.map (fun l => lk l y)) ∧ ∀ (j : Nat) (x : Tok), k[j]? = some x → x.1 ≤ 3 → (tabL (fJ mk M k st j)).length ≤ 200) ∧
    (dT mk M k st = none → ∃ (j : Nat) (x : Tok), k[j]? = some x ∧ (x.1 = 0 ∨ x.1 = 3) ∧ 200 < (tabL (fJ mk M k st j)).length) := by
  intro k
  induction k with
  | nil =>
    intro st _ hs
    refine ⟨fun st' h => ?_, fun h => by rw [dT] at h; cases h⟩
    rw [dT] at h; cases h
    exact ⟨hs, fun y => rfl, fun j x hx => by simp at hx⟩
  | cons x k ih =>
    intro st hk hs
    have hx := hk x List.mem_cons_self
    have hk' : ∀ y ∈ k, okT y := fun y hy => hk y (List.mem_cons_of_mem _ hy)
    have hst : ∀ l ∈ st.tail, Gd l := fun l hl => hs l (List.mem_of_mem_tail hl)
    have hstt : ∀ l ∈ st.tail.tail, Gd l := fun l hl => hst l (List.mem_of_mem_tail hl)
    -- on from a pile
    have on : ∀ (st1 : List (List KV)), (∀ y, vX mk M y x (st.map (fun l => lk l y)) = st1.map (fun l => lk l y)) → (∀ l ∈ st1, Gd l) → (x.1 ≤ 3 → (tabL (lk (hdL st1))).length ≤ 200) →
        (∀ st', dT mk M k st1 = some st' → (∀ l ∈ st', Gd l) ∧ (∀ y, vT mk M y (x :: k) (st.map (fun l => lk l y)) = st'.map (fun l => lk l y)) ∧ ∀ (j : Nat) (z : Tok), (x :: k)[j]? = some z → z.1 ≤ 3 → (tabL (fJ mk M (x :: k) st j)).length ≤ 200) ∧
        (dT mk M k st1 = none → ∃ (j : Nat) (z : Tok), (x :: k)[j]? = some z ∧ (z.1 = 0 ∨ z.1 = 3) ∧ 200 < (tabL (fJ mk M (x :: k) st j)).length) := by
      intro st1 hv hs1 hx1
      obtain ⟨i1, i2⟩ := ih st1 hk' hs1
      have ef : ∀ j, fJ mk M (x :: k) st (j + 1) = fJ mk M k st1 j := fun j => by
        funext y
        unfold fJ
        rw [List.take_succ_cons, vT, hv y]
      have e0 : fJ mk M (x :: k) st 0 = lk (hdL st1) := by
        funext y
        unfold fJ
        rw [List.take_succ_cons, List.take_zero, vT, vT, hv y, hdO_map]
      refine ⟨fun st' h => ?_, fun h => ?_⟩
      · obtain ⟨b1, b2, b3⟩ := i1 st' h
        refine ⟨b1, fun y => by rw [vT, hv y]; exact b2 y, fun j z hz hz3 => ?_⟩
        cases j with
        | zero =>
          have : x = z := Option.some.inj hz
          rw [e0]; exact hx1 (by rw [this]; exact hz3)
        | succ j => rw [ef]; exact b3 j z hz hz3
      · obtain ⟨j, z, b1, b2, b3⟩ := i2 h
        exact ⟨j + 1, z, b1, b2, by rw [ef]; exact b3⟩
    have hmap := fun y => vX_map (mk := mk) (y := y) (M := M) hs hx
    rw [dT]
    rcases hx with ⟨a1, a0⟩ | ⟨a1, m, a2, a3⟩ | ⟨a1, a2, a3⟩
    · have gl := hdL_ok hst
      have gr := hdL_ok hs
      rw [if_neg (by omega), if_neg (by omega)]
      simp only [if_neg (show ¬ x.1 = 4 by omega), if_neg (show ¬ x.1 = 5 by omega)] at hmap
      have hf : lk (tabL (jnF x.1 mk (hdL st.tail) (hdL st))) = jnF x.1 mk (hdL st.tail) (hdL st) := funext (tabL_lk (jnF_out gl gr))
      have hOv : ∀ k, Ov (jnF x.1 mk (hdL st.tail) (hdL st) k) := fun k => Ov_jn (Ov_lk gl.2.2.1 k) (Ov_lk gr.2.2.1 k)
      split
      · rename_i hlen
        refine on _ hmap (fun l hl => (List.mem_cons.mp hl).elim (fun e => by rw [e]; exact Gd_tab hOv hlen) (hstt l)) (fun _ => ?_)
        show (tabL (lk (tabL (jnF x.1 mk (hdL st.tail) (hdL st))))).length ≤ 200
        rw [hf]; exact hlen
      · rename_i hlen
        refine ⟨fun st' h => (by cases h), fun _ => ⟨0, x, rfl, ?_, ?_⟩⟩
        · -- less and meet are never too many
          refine Decidable.byContradiction fun c => hlen ?_
          have hsub : ∀ p ∈ tabL (jnF x.1 mk (hdL st.tail) (hdL st)), p.1 ∈ (hdL st.tail).map (fun p => p.1) := by
            intro p hp
            have h3 := (tab_mem hp).2.2
            unfold jnF at h3
            have : lk (hdL st.tail) p.1 ≠ none := by
              intro e
              rw [e] at h3
              have hc : x.1 = 1 ∨ x.1 = 2 := by omega
              cases hb : lk (hdL st) p.1 with
              | none => rw [hb] at h3; simp [jn] at h3
              | some v => rw [hb] at h3; rcases hc with z | z <;> simp [jn, z] at h3
            cases hl : lk (hdL st.tail) p.1 with
            | none => exact absurd hl this
            | some v => exact List.mem_map.mpr ⟨(p.1, v), lk_mem hl, rfl⟩
          have hnd : ((tabL (jnF x.1 mk (hdL st.tail) (hdL st))).map (fun p => p.1)).Nodup := by
            unfold List.Nodup
            rw [List.pairwise_map]
            exact (tab_srt (f := jnF x.1 mk (hdL st.tail) (hdL st)) 1001).imp (fun {p q} hpq => by omega)
          have := nodup_len hnd (fun k hk => by obtain ⟨p, hp, e⟩ := List.mem_map.mp hk; rw [← e]; exact hsub p hp)
          rw [List.length_map, List.length_map] at this
          have := gl.2.2.2
          omega
        · have e0 : fJ mk M (x :: k) st 0 = jnF x.1 mk (hdL st.tail) (hdL st) := by
            funext y
            unfold fJ
            rw [List.take_succ_cons, List.take_zero, vT, vT, hmap y, hdO_map]
            show lk (tabL (jnF x.1 mk (hdL st.tail) (hdL st))) y = _
            rw [hf]
          rw [e0]; omega
    · rw [if_pos a1]
      simp only [if_pos a1] at hmap
      refine on _ hmap (fun l hl => (List.mem_cons.mp hl).elim (fun e => ?_) (hs l)) (fun z => by omega)
      rw [e, a3]; exact hg.mp a2
    · rw [if_neg (by omega), if_pos a1]
      simp only [if_neg (show ¬ x.1 = 4 by omega), if_pos a1] at hmap
      exact on _ hmap (fun l hl => (List.mem_cons.mp hl).elim (fun e => by rw [e]; exact (setL_ok a3 a2).1) (hs l)) (fun z => by omega)
theorem exD_GM {mk : Int} (hmk : 0 ≤ mk ∧ mk ≤ 5) : ∀ (d : List (Int × List Tok)) (M M' : Nat → List KV), okD d → GM M → exD mk d M = some M' → GM M' := by
  intro d
  induction d with
  | nil => intro M M' _ hg h; rw [exD] at h; cases h; exact hg
  | cons x d ih =>
    intro M M' hd hg h
    have hx := hd x List.mem_cons_self
    rw [exD] at h
    cases hT : dT mk M x.2 [] with
    | none => rw [hT] at h; cases h
    | some st =>
      rw [hT] at h
      have := ((dT_ok hg hmk x.2 [] hx.2.1 (fun l hl => by cases hl)).1 st hT).1
      exact ih _ M' (fun y hy => hd y (List.mem_cons_of_mem _ hy)) (GM_upd hg (hdL_ok this)) h
theorem aw_sums {n : Nat} {a : AS} (hw : AW n a) : AW (n + 1) (opSums a).2 := by
  unfold opSums
  split
  · rename_i c
    have hr : rdp (aT a) ps0 = (-1, (rdp (aT a) ps0).2) := Prod.ext c rfl
    obtain ⟨ho, -, -⟩ := rd_fin _ ps0 (PV_0 _) _ hr
    rw [dst_D _ _ ho]
    cases he : exD (aX a) (rdp (aT a) ps0).2 (aM a) with
    | none => exact hw.ref 2
    | some M' => exact (hw.mk (exD_GM hw.2.2.2.1 _ _ _ ho hw.gm he)).up (by omega)
  · exact hw.up (by omega)
