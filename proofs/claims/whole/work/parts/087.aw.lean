/-! ===== what the calls keep; scatter of the reference ===== -/
theorem Gd_sub {l l' : List KV} (hg : Gd l) (hs : l'.Sublist l) : Gd l' := ⟨List.Pairwise.sublist hs hg.1, fun p hp => hg.2.1 p (hs.subset hp), fun p hp => hg.2.2.1 p (hs.subset hp), Nat.le_trans hs.length_le hg.2.2.2⟩
theorem Gd_nil : Gd [] := ⟨List.Pairwise.nil, fun p hp => (by cases hp), fun p hp => (by cases hp), Nat.zero_le _⟩
theorem Gd_lo {l : List KV} (hg : Gd l) (k : Int) : Gd (lo l k) := Gd_sub hg List.filter_sublist
theorem Gd_hi {l : List KV} (hg : Gd l) (k : Int) : Gd (hi l k) := Gd_sub hg List.filter_sublist
theorem Gd_ins {l : List KV} (hg : Gd l) {k v : Int} (hk : isK k) (hv : isV v) (hl : (ins l k v).length ≤ 200) : Gd (ins l k v) := by
  refine ⟨Srt_ins hg.1 k v, fun p hp => ?_, Vok_ins hg.2.2.1 hv, hl⟩
  unfold ins at hp
  rcases List.mem_append.mp hp with hp | hp
  · exact hg.2.1 p (lo_sub l k p hp)
  · rcases List.mem_cons.mp hp with rfl | hp
    · exact hk
    · exact hg.2.1 p (hi_sub l k p hp)
theorem Gd_del {l : List KV} (hg : Gd l) {x y : Int} (h : x ≤ y) : Gd (del l x y) := by
  refine ⟨Srt_del hg.1 h, fun p hp => ?_, Vok_del hg.2.2.1 x y, by have := del_len (l := l) h; have := hg.2.2.2; omega⟩
  rcases List.mem_append.mp hp with hp | hp
  · exact hg.2.1 p (lo_sub l x p hp)
  · exact hg.2.1 p (hi_sub l y p hp)
theorem Gd_rs {l : List KV} (hg : Gd l) (x y d : Int) : Gd (rsL x y d l) := by
  have e : ∀ r : KV, (if x ≤ r.1 ∧ r.1 ≤ y then (r.1, hd (r.2 + d)) else r).1 = r.1 := fun r => by split <;> rfl
  refine ⟨?_, fun p hp => ?_, fun p hp => ?_, by unfold rsL; rw [List.length_map]; exact hg.2.2.2⟩
  · unfold Srt rsL
    rw [List.pairwise_map]
    refine hg.1.imp (fun {p q} hpq => ?_)
    rw [e, e]; exact hpq
  · obtain ⟨q, hq', rfl⟩ := List.mem_map.mp hp
    rw [e]; exact hg.2.1 q hq'
  · obtain ⟨q, hq', rfl⟩ := List.mem_map.mp hp
    split
    · exact hd_in _
    · exact hg.2.2.1 q hq'
theorem Gd_sl {l : List KV} (hg : Gd l) {d : Int} (hk : ∀ p ∈ l, isK (p.1 + d)) : Gd (slL d l) := by
  refine ⟨?_, fun p hp => ?_, fun p hp => ?_, by unfold slL; rw [List.length_map]; exact hg.2.2.2⟩
  · unfold Srt slL
    rw [List.pairwise_map]
    exact hg.1.imp (fun {p q} hpq => by dsimp only; omega)
  · obtain ⟨q, hq', rfl⟩ := List.mem_map.mp hp
    exact hk q hq'
  · obtain ⟨q, hq', rfl⟩ := List.mem_map.mp hp
    exact hg.2.2.1 q hq'
theorem zp_mem : ∀ {l m : List KV} {p : KV}, p ∈ zpL l m → ∃ q ∈ l, p.1 = q.1
  | [], m, p, h => by simp [zpL] at h
  | q :: l, [], p, h => by simp [zpL] at h
  | q :: l, r :: m, p, h => by
    rw [zpL] at h
    rcases List.mem_cons.mp h with rfl | h
    · exact ⟨q, List.mem_cons_self, rfl⟩
    · obtain ⟨q', hq', e⟩ := zp_mem h
      exact ⟨q', List.mem_cons_of_mem _ hq', e⟩
theorem zp_srt : ∀ {l m : List KV}, Srt l → Srt (zpL l m)
  | [], m, h => by rw [zpL]; exact List.Pairwise.nil; simp
  | q :: l, [], h => by rw [zpL]; exact List.Pairwise.nil; simp
  | q :: l, r :: m, h => by
    rw [zpL]
    have h2 := List.pairwise_cons.mp h
    refine List.pairwise_cons.mpr ⟨fun p hp => ?_, zp_srt h2.2⟩
    obtain ⟨q', hq', e⟩ := zp_mem hp
    have := h2.1 q' hq'
    dsimp only; omega
theorem Gd_zp {l m : List KV} (hg : Gd l) (hm : Gd m) : Gd (zpL l m) := by
  refine ⟨zp_srt hg.1, fun p hp => ?_, zp_v hm.2.1, ?_⟩
  · obtain ⟨q', hq', e⟩ := zp_mem hp
    rw [e]; exact hg.2.1 q' hq'
  · have := zp_len l m
    have := hg.2.2.2
    omega
theorem Gd_sv {l : List KV} (hg : Gd l) (kind x : Int) : Gd (svL kind x l) := Gd_sub hg List.filter_sublist
theorem fill_mem {fr st : Int} : ∀ {k : Nat} {p : KV}, p ∈ fillL fr st k → ∃ j : Nat, j < k ∧ p.1 = fr + j * st := by
  intro k
  induction k with
  | zero => intro p h; cases h
  | succ k ih =>
    intro p h
    rw [fillL] at h
    rcases List.mem_append.mp h with h | h
    · obtain ⟨j, hj, e⟩ := ih h
      exact ⟨j, by omega, e⟩
    · rw [List.mem_singleton.mp h]
      exact ⟨k, by omega, rfl⟩
theorem Gd_fill {fr st : Int} {k : Nat} (hfr : isK fr) (hst : 1 ≤ st ∧ st ≤ 50) (hk : k ≤ 200) (hend : k = 0 ∨ fr + ((k : Int) - 1) * st ≤ 500) : Gd (fillL fr st k) := by
  refine ⟨?_, fun p hp => ?_, fillL_v fr st k, by rw [fillL_len]; exact hk⟩
  · clear hend hk
    induction k with
    | zero => exact List.Pairwise.nil
    | succ k ih =>
      rw [fillL]
      refine List.pairwise_append.mpr ⟨ih, List.pairwise_singleton _ _, fun p hp q hq => ?_⟩
      obtain ⟨j, hj, e⟩ := fill_mem hp
      rw [List.mem_singleton.mp hq, e]
      have : ((j : Int) + 1) * st ≤ (k : Int) * st := Int.mul_le_mul_of_nonneg_right (by omega) (by omega)
      rw [Int.add_mul] at this
      dsimp only; omega
  · obtain ⟨j, hj, e⟩ := fill_mem hp
    have hmul : (j : Int) * st ≤ ((k : Int) - 1) * st := Int.mul_le_mul_of_nonneg_right (by omega) (by omega)
    have hmul0 : 0 ≤ (j : Int) * st := Int.mul_nonneg (by omega) (by omega)
    rw [e]; omega
theorem Gd_tab {f : Int → Option Int} (hf : ∀ k, Ov (f k)) (hl : (tabL f).length ≤ 200) : Gd (tabL f) :=
  ⟨tab_srt _, fun p hp => by have := tab_mem hp; omega, fun p hp => hf p.1 p.2 (tab_mem hp).2.2, hl⟩
theorem Gd_scS {l : List KV} (hg : Gd l) (x : Int) (hl : (scS l x).length ≤ 200) : Gd (scS l x) := by
  unfold scS at *
  split
  · exact Gd_del hg (Int.le_refl _)
  · rename_i c
    rw [if_neg c] at hl
    have h3 := scV_in (x := x)
    exact Gd_ins hg scK_in ⟨by omega, by omega⟩ hl
theorem Gd_scat : ∀ (k : Nat) {l l' : List KV} {x : Int}, Gd l → scat l x k = some l' → Gd l' := by
  intro k
  induction k with
  | zero => intro l l' x hg h; rw [scat] at h; cases h; exact hg
  | succ k ih =>
    intro l l' x hg h
    rw [scat] at h
    split at h
    · rename_i c
      exact ih (Gd_scS hg _ c) h
    · cases h
theorem GM_upd {M : Nat → List KV} (h : GM M) {m : Nat} {l : List KV} (hl : Gd l) : GM (updM M m l) := fun i hi => by
  unfold updM; split
  · exact hl
  · exact h i hi
section
variable {n : Nat} {σ : SS} {a : AS} {M : Nat → List KV}
theorem AW.mk {M' : Nat → List KV} (hw : AW n a) (hM : GM M') : AW n (M', (aKeep a).2) := by
  refine ⟨hM, ?_, fun N hN i hi => ?_, hw.2.2.2.1, hw.2.2.2.2.1, hw.2.2.2.2.2.1, hw.2.2.2.2.2.2⟩
  · show ((a.1 :: a.2.1).take 12).length ≤ 12
    rw [List.length_take]; omega
  · have := List.mem_of_mem_take hN
    rcases List.mem_cons.mp this with rfl | q
    · exact hw.1 i hi
    · exact hw.2.2.1 N q i hi
theorem AW.cur {M' : Nat → List KV} (hw : AW n a) (hM : GM M') : AW n (M', a.2) := ⟨hM, hw.2⟩
theorem aw_set {m : Nat} {l : List KV} (hw : AW n a) (hl : Gd l) : AW (n + 1) (aSet a m l) := (hw.mk (GM_upd hw.1 hl)).up (by omega)
theorem aw_put {m k v : Int} (hw : AW n a) : AW (n + 1) (opPut a m k v).2 := by
  unfold opPut
  split
  · rename_i h
    have hg := hw.mp h.1
    have hi := ins_len (l := aM a m.toNat) k v
    split
    · rename_i w hw'
      have he : (ins (aM a m.toNat) k v).length = (aM a m.toNat).length := by
        have hlt : (lo (aM a m.toNat) k).length < (aM a m.toNat).length := by
          have h2 := lo_succ hg.1 k
          rw [hw'] at h2
          have h3 := lo_len (aM a m.toNat) (k + 1)
          simp at h2; omega
        rw [ins_eq hg.1, hw']; simp; omega
      exact aw_set hw (Gd_ins hg h.2.1 h.2.2 (by have := hg.2.2.2; omega))
    · split
      · exact aw_set hw (Gd_ins hg h.2.1 h.2.2 (by omega))
      · exact hw.ref 2
  · exact hw.ref 0
theorem aw_remove {m k : Int} (hw : AW n a) : AW (n + 1) (opRemove a m k).2 := by
  unfold opRemove
  split
  · rename_i h
    split
    · exact aw_set hw (Gd_del (hw.mp h.1) (Int.le_refl _))
    · exact hw.ref 1
  · exact hw.ref 0
theorem aw_get {m k : Int} (hw : AW n a) : AW (n + 1) (opGet a m k).2 := by
  unfold opGet; split
  · exact hw.up (by omega)
  · exact hw.ref 0
theorem aw_size {m : Int} (hw : AW n a) : AW (n + 1) (opSize a m).2 := by
  unfold opSize; split
  · exact hw.up (by omega)
  · exact hw.ref 0
theorem aw_rank {m k : Int} (hw : AW n a) : AW (n + 1) (opRank a m k).2 := by
  unfold opRank; split
  · exact hw.up (by omega)
  · exact hw.ref 0
theorem aw_nth {m k : Int} (hw : AW n a) : AW (n + 1) (opNth a m k).2 := by
  unfold opNth; split
  · exact hw.up (by omega)
  · exact hw.ref 0
theorem aw_near {m k w : Int} (hw : AW n a) : AW (n + 1) (opNear a m k w).2 := by
  unfold opNear; split
  · exact hw.up (by omega)
  · exact hw.ref 0
theorem aw_within {m k w : Int} (hw : AW n a) : AW (n + 1) (opWithin a m k w).2 := by
  unfold opWithin; split
  · exact hw.up (by omega)
  · exact hw.ref 0
theorem aw_sum {m k w : Int} (hw : AW n a) : AW (n + 1) (opSum a m k w).2 := by
  unfold opSum; split
  · exact hw.up (by omega)
  · exact hw.ref 0
theorem aw_most {m k w z : Int} (hw : AW n a) : AW (n + 1) (opMost a m k w z).2 := by
  unfold opMost; split
  · exact hw.up (by omega)
  · exact hw.ref 0
theorem aw_middle {m k w : Int} (hw : AW n a) : AW (n + 1) (opMiddle a m k w).2 := by
  unfold opMiddle; split
  · exact hw.up (by omega)
  · exact hw.ref 0
theorem aw_gap {m : Int} (hw : AW n a) : AW (n + 1) (opGap a m).2 := by
  unfold opGap; split
  · exact hw.up (by omega)
  · exact hw.ref 0
theorem aw_top {m k : Int} (hw : AW n a) : AW (n + 1) (opTop a m k).2 := by
  unfold opTop; split
  · exact hw.up (by omega)
  · exact hw.ref 0
theorem aw_same {m k : Int} (hw : AW n a) : AW (n + 1) (opSame a m k).2 := by
  unfold opSame; split
  · exact hw.up (by omega)
  · exact hw.ref 0
theorem aw_common {m k : Int} (hw : AW n a) : AW (n + 1) (opCommon a m k).2 := by
  unfold opCommon; split
  · exact hw.up (by omega)
  · exact hw.ref 0
theorem aw_apart {m k : Int} (hw : AW n a) : AW (n + 1) (opApart a m k).2 := by
  unfold opApart; split
  · exact hw.up (by omega)
  · exact hw.ref 0
theorem aw_sound {m : Int} (hw : AW n a) : AW (n + 1) (opSound a m).2 := by
  unfold opSound; split
  · exact hw.up (by omega)
  · exact hw.ref 0
theorem aw_told {m : Int} (hw : AW n a) : AW (n + 1) (opTold a m).2 := by
  unfold opTold; split
  · exact hw.up (by omega)
  · exact hw.ref 0
theorem aw_digest (hw : AW n a) : AW (n + 1) (opDigest a).2 := hw.up (by omega)
theorem aw_cut {m k t : Int} (hw : AW n a) : AW (n + 1) (opCut a m k t).2 := by
  unfold opCut; split
  · rename_i h
    have hg := hw.mp h.1
    refine (hw.mk (fun i hi => ?_)).up (by omega)
    split
    · exact Gd_hi hg _
    · split
      · exact Gd_lo hg _
      · exact hw.1 i hi
  · exact hw.ref 0
theorem aw_glue {x y : Int} (hw : AW n a) : AW (n + 1) (opGlue a x y).2 := by
  unfold opGlue; split
  · rename_i h
    have gx := hw.mp h.1
    have gy := hw.mp h.2.1
    split
    · exact hw.ref 1
    · rename_i hc
      split
      · rename_i hl
        refine (hw.mk (fun i hi => ?_)).up (by omega)
        split
        · exact Gd_nil
        · split
          · refine ⟨List.pairwise_append.mpr ⟨gx.1, gy.1, fun p hp q hq => ?_⟩, fun p hp => (List.mem_append.mp hp).elim (gx.2.1 p) (gy.2.1 p), fun p hp => (List.mem_append.mp hp).elim (gx.2.2.1 p) (gy.2.2.1 p), by rw [List.length_append]; exact hl⟩
            have l1 := List.length_pos_of_mem hp
            have l2 := List.length_pos_of_mem hq
            obtain ⟨p1, -, e1, m1⟩ := nk_last l1
            obtain ⟨q0, -, e0, m0⟩ := nk_first l2
            have h1 := m1 gx.1 p hp
            have h2 := m0 gy.1 q hq
            have h3 : nk (aM a x.toNat) ((aM a x.toNat).length - 1) < nk (aM a y.toNat) 0 := Decidable.byContradiction fun z => hc ⟨l1, l2, z⟩
            omega
          · exact hw.1 i hi
      · exact hw.ref 2
  · exact hw.ref 0
theorem aw_share {m t : Int} (hw : AW n a) : AW (n + 1) (opShare a m t).2 := by
  unfold opShare; split
  · rename_i h; exact aw_set hw (hw.mp h.1)
  · exact hw.ref 0
theorem aw_mix {s x y t : Int} (hw : AW n a) : AW (n + 1) (opMix a s x y t).2 := by
  unfold opMix; split
  · rename_i h
    split
    · rename_i hl
      exact aw_set hw (Gd_tab (fun k => Ov_jn (Ov_lk (hw.mp h.2.1).2.2.1 k) (Ov_lk (hw.mp h.2.2.1).2.2.1 k)) hl)
    · exact hw.ref 2
  · exact hw.ref 0
theorem aw_fill {m fr k st : Int} (hw : AW n a) : AW (n + 1) (opFill a m fr k st).2 := by
  unfold opFill; split
  · rename_i h
    split
    · exact hw.ref 1
    · rename_i hc
      refine aw_set hw (Gd_fill h.2.1 h.2.2.2 (by have := h.2.2.1; omega) ?_)
      by_cases q : k.toNat = 0
      · exact Or.inl q
      · right
        rw [show ((k.toNat : Nat) : Int) = k by omega]
        exact Decidable.byContradiction fun q2 => hc ⟨by omega, q2⟩
  · exact hw.ref 0
theorem aw_sieve {m kind x t : Int} (hw : AW n a) : AW (n + 1) (opSieve a m kind x t).2 := by
  unfold opSieve; split
  · rename_i h; exact aw_set hw (Gd_sv (hw.mp h.1) _ _)
  · exact hw.ref 0
theorem aw_raise {m x y d : Int} (hw : AW n a) : AW (n + 1) (opRaise a m x y d).2 := by
  unfold opRaise; split
  · rename_i h; exact aw_set hw (Gd_rs (hw.mp h.1) _ _ _)
  · exact hw.ref 0
theorem aw_slide {m d : Int} (hw : AW n a) : AW (n + 1) (opSlide a m d).2 := by
  unfold opSlide; split
  · rename_i h
    split
    · exact hw.ref 1
    · rename_i hc
      exact aw_set hw (Gd_sl (hw.mp h.1) (slide_k (hw.mp h.1) hc))
  · exact hw.ref 0
theorem aw_zip {x y t : Int} (hw : AW n a) : AW (n + 1) (opZip a x y t).2 := by
  unfold opZip; split
  · rename_i h; exact aw_set hw (Gd_zp (hw.mp h.1) (hw.mp h.2.1))
  · exact hw.ref 0
theorem aw_clears {m x y : Int} (hw : AW n a) : AW (n + 1) (opClears a m x y).2 := by
  unfold opClears; split
  · rename_i h; exact aw_set hw (Gd_del (hw.mp h.1) (by have := h.2.2.2; omega))
  · exact hw.ref 0
theorem aw_scatter {m sd k : Int} (hw : AW n a) : AW (n + 1) (opScatter a m sd k).2 := by
  unfold opScatter; split
  · rename_i h
    split
    · rename_i l hl
      exact aw_set hw (Gd_scat _ (hw.mp h.1) hl)
    · exact hw.ref 2
  · exact hw.ref 0
theorem aw_mixer {k : Int} (hw : AW n a) : AW (n + 1) (opMixer a k).2 := by
  unfold opMixer; split
  · rename_i h
    have := hw.up (k := n + 1) (by omega)
    exact ⟨this.1, this.2.1, this.2.2.1, h, this.2.2.2.2.1, this.2.2.2.2.2.1, this.2.2.2.2.2.2⟩
  · exact hw.ref 0
theorem aw_type {c : Int} (hw : AW n a) : AW (n + 1) (opType a c).2 := by
  unfold opType; split
  · rename_i h
    split
    · rename_i hl
      have := hw.up (k := n + 1) (by omega)
      refine ⟨this.1, this.2.1, this.2.2.1, this.2.2.2.1, ?_, fun d hd => ?_, this.2.2.2.2.2.2⟩
      · show (aT a ++ [c]).length ≤ 120
        rw [List.length_append, List.length_singleton]; omega
      · rcases List.mem_append.mp (show d ∈ aT a ++ [c] from hd) with hd | hd
        · exact this.2.2.2.2.2.1 d hd
        · rw [List.mem_singleton.mp hd]; exact h
    · exact hw.ref 2
  · exact hw.ref 0
theorem aw_clear (hw : AW n a) : AW (n + 1) (opClear a).2 := by
  have := hw.up (k := n + 1) (by omega)
  exact ⟨this.1, this.2.1, this.2.2.1, this.2.2.2.1, by simp [opClear, aT], fun d hd => by simp [opClear, aT] at hd, this.2.2.2.2.2.2⟩
theorem aw_back (hw : AW n a) : AW (n + 1) (opBack a).2 := by
  unfold opBack
  have h2 := hw.up (k := n + 1) (by omega)
  cases hl : aP a with
  | nil => exact hw.ref 1
  | cons N rest =>
    refine ⟨fun i hi => hw.2.2.1 N (by rw [hl]; exact List.mem_cons_self) i hi, ?_, fun K hK i hi => hw.2.2.1 K (by rw [hl]; exact List.mem_cons_of_mem _ hK) i hi, h2.2.2.2⟩
    have := hw.2.1
    rw [hl, List.length_cons] at this
    show rest.length ≤ 12
    omega
/-- scatter -/
theorem updM_twice {m : Nat} {l l' : List KV} : updM (updM M m l) m l' = updM M m l' := by
  funext i; unfold updM; split <;> rfl
theorem rs_scatter_L {Q : Int → SS → Prop} {m sd : Int} {k : Nat} (hm : isM m) (hk : k ≤ 100) (hw : AW n a) (hn : n ≤ 1000000) : ∀ (f : Nat) {i : Nat} {x : Int} {l : List KV} {σ : SS}, i + f = k → RI σ (updM (aM a) m.toNat l, a.2) → Gd l → Bf σ (aM a) → (0 ≤ x ∧ x < 2147483648) →
    (∀ l', scat l x f = some l' → ∀ σ', RI σ' (aSet a m.toNat l') → Sm rcl σ σ' → Q (l'.length : Int) σ') → (scat l x f = none → ∀ σ', RI σ' (aRef a 2) → Sm rcl σ σ' → Q (-2000000004) σ') → wX9_scatter_L50 m sd (k : Int) Q (f + 1) x (i : Int) σ := by
  intro f
  induction f with
  | zero =>
    intro i x l σ hi h hg hb hx hq hq2
    rw [wX9_scatter_L50]
    refine ⟨⟨by omega, by omega⟩, fun _ => sr_keepsAside h (hw.cur (GM_upd hw.gm hg)) hb hw.gm (fun σ' h' s' => ⟨by omega, by omega, ?_⟩), fun c => by omega⟩
    have e : sn σ' 23 m.toNat = (l.length : Int) := by
      have := (h'.1 m.toNat (by omega)).2
      simpa [aM, updM] using this
    rw [e]
    exact hq l rfl σ' h' s'
  | succ f ih =>
    intro i x l σ hi h hg hb hx hq hq2
    have h1 := lcg_in hx.1
    have h2 := scK_in (x := lcg x)
    have h3 := scV_in (x := lcg x)
    have hgm := GM_upd (m := m.toNat) hw.gm hg
    have hl := hg.2.2.2
    have e0 : (x * 1103515245 + 12345) % 2147483648 = lcg x := rfl
    have e1 : lcg x / 65536 % 1001 - 500 = scK (lcg x) := rfl
    have e2 : lcg x / 4096 % 1000 = scV (lcg x) := rfl
    have e : ((i : Int) + 1) = ((i + 1 : Nat) : Int) := by omega
    have eM : updM (aM a) m.toNat l m.toNat = l := by simp [updM]
    rw [wX9_scatter_L50, e0, e1, e2, e]
    -- the next step
    have next : ∀ (σ1 : SS), (scS l (lcg x)).length ≤ 200 → MI σ1 (updM (updM (aM a) m.toNat l) m.toNat (scS l (lcg x))) → Sm [22, 23] σ σ1 → wX9_scatter_L50 m sd (k : Int) Q (f + 1) (lcg x) ((i + 1 : Nat) : Int) σ1 := by
      intro σ1 hlen hM s1
      rw [updM_twice] at hM
      have hsc : scat l x (f + 1) = scat (scS l (lcg x)) (lcg x) f := by rw [scat, if_pos hlen]
      refine ih (l := scS l (lcg x)) (by omega) ?_ (Gd_scS hg _ hlen) (hb.sm s1 (by simp) (by simp)) h1 (fun l' hl' σ' h' s' => hq l' (by rw [hsc]; exact hl') σ' h' ((s1.up (by simp)).tr s')) (fun hn' σ' h' s' => hq2 (by rw [hsc]; exact hn') σ' h' ((s1.up (by simp)).tr s'))
      exact h.sets s1 hM (by simp) (by simp) (by simp) (by simp) (by simp)
    have hM0 : MI σ (updM (aM a) m.toNat l) := h.1
    have there := lk_at hg.1 (scK (lcg x))
    refine ⟨⟨by omega, by omega⟩, fun c => by omega, fun _ => ⟨⟨by omega, by omega⟩, by omega, ⟨by omega, by omega⟩, by omega, ⟨by omega, by omega⟩, by omega, ⟨by omega, by omega⟩, sr_below hM0 hgm hm ?_⟩⟩
    have hlo := lo_len l (scK (lcg x))
    have hs1 := lo_succ hg.1 (scK (lcg x))
    have hlo1 := lo_len l (scK (lcg x) + 1)
    refine sr_isThere hM0 hgm hm (fun v hv hp => ⟨⟨by omega, by omega⟩, by omega, ⟨by omega, by omega⟩, by omega, ⟨by omega, by omega⟩, fun c => ⟨fun _ => ⟨⟨by omega, by omega⟩, by omega, ⟨by omega, by omega⟩, by omega, ⟨by omega, by omega⟩, ?_⟩, o1⟩, fun c => ⟨o1, fun _ => ?_⟩⟩) (fun hv => ⟨⟨by omega, by omega⟩, by omega, ⟨by omega, by omega⟩, by omega, ⟨by omega, by omega⟩, fun c => ⟨o0, fun _ => ⟨by omega, by omega, ?_⟩⟩, fun c => ⟨fun _ => ?_, o0⟩⟩)
    · -- laid over
      have hsc : scS l (lcg x) = ins l (scK (lcg x)) (scV (lcg x)) := by unfold scS; rw [if_neg c]
      rw [eM] at hv
      refine sr_lays hM0 hgm hm h2 ⟨by omega, by omega⟩ (fun q => by rw [eM, hv] at q; cases q) (fun σ1 hM s1 => next σ1 ?_ (by rw [hsc]; rw [eM] at hM; exact hM) s1)
      rw [hsc, ins_eq hg.1, hv]
      rw [hv] at hs1
      simp at hs1 ⊢; omega
    · -- goes
      have hsc : scS l (lcg x) = del l (scK (lcg x)) (scK (lcg x)) := by unfold scS; rw [if_pos c]
      rw [eM] at hv
      rw [hv] at hs1
      simp only [reduceCtorEq, if_false] at hs1
      rw [eM]
      refine ⟨⟨by omega, by omega⟩, ?_⟩
      rw [show (((lo l (scK (lcg x))).length : Int) + 1) = (((lo l (scK (lcg x))).length + 1 : Nat) : Int) by omega]
      refine sr_goes hM0 hgm hm (by omega) (by rw [eM]; omega) (fun σ1 hM s1 => next σ1 ?_ ?_ s1)
      · rw [hsc]; have := del_len (l := l) (Int.le_refl (scK (lcg x))); omega
      · rw [hsc, del_eq hg.1, hs1]; rw [eM] at hM; exact hM
    · rw [eM] at hv
      rw [hM0.siz hm, eM]
      have hsc : scS l (lcg x) = ins l (scK (lcg x)) (scV (lcg x)) := by unfold scS; rw [if_neg c]
      have hins : (ins l (scK (lcg x)) (scV (lcg x))).length = l.length + 1 := by rw [ins_eq hg.1, hv]; simp; omega
      refine ⟨fun c2 => ⟨⟨by omega, by omega⟩, by omega, ⟨by omega, by omega⟩, by omega, ⟨by omega, by omega⟩, ?_⟩, fun c2 => ?_⟩
      · exact sr_lays hM0 hgm hm h2 ⟨by omega, by omega⟩ (fun _ => by rw [eM]; omega) (fun σ1 hM s1 => next σ1 (by rw [hsc]; omega) (by rw [hsc]; rw [eM] at hM; exact hM) s1)
      · refine sr_aside1 hb hw.gm (fun σ1 s1 hM => ?_)
        have h4 : RI σ1 a := h.sets s1 hM (by simp) (by simp) (by simp) (by simp) (by simp)
        refine dr_full h4 hw hn (fun σ' h' s' => hq2 ?_ σ' h' ((s1.up (by simp)).tr s'))
        rw [scat, hsc, if_neg (by omega)]
    · have hsc : scS l (lcg x) = del l (scK (lcg x)) (scK (lcg x)) := by unfold scS; rw [if_pos c]
      rw [eM] at hv
      rw [hv] at hs1
      simp only [if_true, Nat.add_zero] at hs1
      rw [eM]
      refine sr_goes hM0 hgm hm (Nat.le_refl _) (by rw [eM]; omega) (fun σ1 hM s1 => next σ1 ?_ ?_ s1)
      · rw [hsc]; have := del_len (l := l) (Int.le_refl (scK (lcg x))); omega
      · rw [hsc, del_eq hg.1, hs1]; rw [eM] at hM; exact hM
theorem rs_scatter {Q : Int → SS → Prop} {m sd k : Int} (h : RI σ a) (hw : AW n a) (hn : n ≤ 1000000) (hq : Dr σ Q (opScatter a m sd k)) : wX9_scatter m sd k σ Q := by
  unfold opScatter at hq
  refine sr_isMap (fun hm => ⟨o1, fun _ => sr_in (fun hs => ⟨o1, fun _ => sr_in (fun hk => ⟨fun _ => ?_, o1⟩) (fun hk => ⟨o0, fun _ => ?_⟩)⟩) (fun hs => ⟨fun _ => ?_, o0⟩)⟩) (fun hm => ⟨fun _ => ?_, o0⟩)
  · rw [if_pos ⟨hm, hs, hk⟩] at hq
    refine sr_aside0 h.1 hw.gm (fun σ1 s1 b1 => ⟨k.toNat + 1, ?_⟩)
    have e : updM (aM a) m.toNat (aM a m.toNat) = aM a := by funext i; unfold updM; split <;> simp [*]
    have h1 : RI σ1 (updM (aM a) m.toNat (aM a m.toNat), a.2) := by
      rw [e]
      exact h.sets s1 (h.1.sm s1 (by simp) (by simp)) (by simp) (by simp) (by simp) (by simp) (by simp)
    rw [show k = ((k.toNat : Nat) : Int) by omega]
    refine rs_scatter_L (sd := sd) hm (by omega) hw hn k.toNat (i := 0) (by omega) h1 (hw.mp hm) b1 (by omega) (fun l' hl' σ' h' s' => ?_) (fun hn' σ' h' s' => ?_)
    · rw [hl'] at hq; exact hq σ' h' ((s1.up (by simp)).tr s')
    · rw [hn'] at hq; exact hq σ' h' ((s1.up (by simp)).tr s')
  · rw [if_neg (fun q => hk q.2.2)] at hq; exact dr_bad h hw hn hq
  · rw [if_neg (fun q => hs q.2.1)] at hq; exact dr_bad h hw hn hq
  · rw [if_neg (fun q => hm q.1)] at hq; exact dr_bad h hw hn hq
end
