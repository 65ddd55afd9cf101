/-! ===== kept versions, once more: the sums' count stays ===== -/
section
variable {n : Nat} {σ : SS} {a : AS} {M : Nat → List KV}
theorem sr_keeps2 {Q : SS → Prop} (h : RI σ a) (hw : AW n a) (hq : ∀ σ', RI σ' (aKeep a) → Sm [21, 24, 25] σ σ' → (∀ k, k ≠ 4 → sn σ' 21 k = sn σ 21 k) → Q σ') : wX9_keeps σ Q := by
  obtain ⟨hM, hP, hO⟩ := h
  have hg := hw.1
  have hgP := hw.2.2.1
  -- what the last loops leave
  have fin : ∀ (q : Nat) (ρ : SS), q < 12 → sn ρ 21 4 = q → (∀ k, sn ρ 22 k = sn σ 22 k) → (∀ k, sn ρ 23 k = sn σ 23 k) → (∀ k, k ≠ 4 → sn ρ 21 k = sn σ 21 k) → Sm [21, 24, 25] σ ρ → ((aP a).take 11).length = q → (∀ (j : Nat) (N : Nat → List KV), ((aP a).take 11)[j]? = some N → ∀ m, m < 6 → Rg ρ 24 (1200 * (q - 1 - j) + 200 * m) (N m) ∧ sn ρ 25 (6 * (q - 1 - j) + m) = ((N m).length : Int)) → wX9_keeps_L81 Q 1201 0 ρ := by
    intro q ρ hq12 h4 h22 h23 h21 hsm hlen hN
    refine sr_keeps81 hq12 1200 (i := 0) rfl h4 ?_
    generalize hτ : un (wr 25 (6 * q) (sn ρ 23) 6 0 (wr 24 (1200 * q) (sn ρ 22) 1200 0 ρ)) 21 4 ((q : Int) + 1) = τ
    have sm1 : Sm [21, 24, 25] ρ τ := by
      rw [← hτ]
      exact ((wr_sm (x := 24) (by simp) _ _ _).tr (wr_sm (x := 25) (by simp) _ _ _)).tr (Sm.un (by simp))
    have sm := hsm.tr sm1
    have t24 : ∀ k, sn τ 24 k = if 1200 * q ≤ k ∧ k < 1200 * q + 1200 then sn σ 22 (k - 1200 * q) else sn ρ 24 k := by
      intro k
      rw [← hτ, sn_un_i _ _ (by omega), wr_sn, if_neg (by omega), wr_sn]
      by_cases c : 1200 * q ≤ k ∧ k < 1200 * q + 1200
      · rw [if_pos c, if_pos ⟨rfl, by omega, by omega⟩, h22]
      · rw [if_neg c, if_neg (by omega)]
    have t25 : ∀ k, sn τ 25 k = if 6 * q ≤ k ∧ k < 6 * q + 6 then sn σ 23 (k - 6 * q) else sn ρ 25 k := by
      intro k
      rw [← hτ, sn_un_i _ _ (by omega), wr_sn]
      by_cases c : 6 * q ≤ k ∧ k < 6 * q + 6
      · rw [if_pos c, if_pos ⟨rfl, by omega, by omega⟩, h23]
      · rw [if_neg c, if_neg (by omega), wr_sn, if_neg (by omega)]
    have t21 : ∀ k, k ≠ 4 → sn τ 21 k = sn σ 21 k := fun k hk => by
      rw [← hτ, sn_un_k _ _ hk, wr_sn, if_neg (by omega), wr_sn, if_neg (by omega)]; exact h21 k hk
    have t4 : sn τ 21 4 = (q : Int) + 1 := by rw [← hτ, sn_un_same]
    refine hq τ ⟨hM.sm sm (by simp) (by simp), ?_, hO.of (fun k => (sm.1 29 (by simp) k).1) (t21 9 (by omega)) (t21 11 (by omega)) (fun k => (sm.1 30 (by simp) k).1)⟩ sm t21
    have hkeep : aP (aKeep a) = aM a :: (aP a).take 11 := rfl
    rw [hkeep]
    exact keeps_PI hq12 t4 t24 t25 hM hg hlen (fun j N hj => ⟨hgP N (List.mem_of_mem_take (List.mem_of_getElem? hj)), hN j N hj⟩)
  refine ⟨fun c => ⟨1201, ?_⟩, fun c => ⟨13201, ?_⟩⟩
  · have hlt : (aP a).length < 12 := by have := hP.1; have := hP.2.1; omega
    have ht : (aP a).take 11 = aP a := List.take_of_length_le (by omega)
    refine fin (aP a).length σ hlt hP.1 (fun _ => rfl) (fun _ => rfl) (fun _ _ => rfl) (Sm.rf _ _) (by rw [ht]) (fun j N hj => ?_)
    rw [ht] at hj
    exact hP.2.2 j N hj
  · have h12 : (aP a).length = 12 := by have := hP.1; omega
    refine sr_keeps11 13200 (i := 0) (v := fun j => sn σ 24 (j + 1200)) (w := fun j => sn σ 25 (j + 6)) rfl c (fun _ _ _ => rfl) (fun _ _ => rfl) ?_
    refine ⟨1201, ?_⟩
    generalize hρ : un (wr 25 0 (fun j => sn σ 25 (j + 6)) 66 0 (wr 24 0 (fun j => sn σ 24 (j + 1200)) 13200 0 σ)) 21 4 11 = ρ
    have sm : Sm [21, 24, 25] σ ρ := by
      rw [← hρ]
      exact ((wr_sm (x := 24) (by simp) _ _ _).tr (wr_sm (x := 25) (by simp) _ _ _)).tr (Sm.un (by simp))
    refine fin 11 ρ (by omega) (by rw [← hρ, sn_un_same]; rfl) (fun k => (sm.1 22 (by simp) k).1) (fun k => (sm.1 23 (by simp) k).1) (fun k hk => by rw [← hρ, sn_un_k _ _ hk, wr_sn, if_neg (by omega), wr_sn, if_neg (by omega)]) sm (by rw [List.length_take]; omega) (fun j N hj m hm => ?_)
    rw [List.getElem?_take] at hj
    split at hj
    · rename_i hj11
      obtain ⟨r1, r2⟩ := hP.2.2 j N hj m hm
      have gN := hgP N (List.mem_of_getElem? hj) m hm
      rw [h12] at r1 r2
      refine ⟨fun i p hp => ?_, ?_⟩
      · have hi := (List.getElem?_eq_some_iff.mp hp).1
        have hll := gN.2.2.2
        rw [← r1 i p hp, ← hρ, sn_un_i _ _ (by omega), wr_sn, if_neg (by omega), wr_sn, if_pos ⟨rfl, by omega, by omega⟩]
        congr 1; omega
      · rw [← r2, ← hρ, sn_un_i _ _ (by omega), wr_sn, if_pos ⟨rfl, by omega, by omega⟩]
        congr 1; omega
    · cases hj
theorem sr_keepsAside2 {Q : SS → Prop} (h : RI σ a) (hw : AW n a) (hb : Bf σ M) (hg : GM M) (hq : ∀ σ', RI σ' (a.1, (M :: a.2.1).take 12, a.2.2) → Sm rcl σ σ' → sn σ' 21 25 = sn σ 21 25 → Q σ') : wX9_keepsAside σ Q := by
  refine sr_keeps2 h hw (fun σ1 h1 s1 x1 => ?_)
  have hP := h1.2.1
  have hk : aP (aKeep a) = aM a :: (aP a).take 11 := rfl
  rw [hk] at hP
  obtain ⟨p1, p2, p3⟩ := hP
  rw [List.length_cons] at p1 p2
  generalize hq0 : ((aP a).take 11).length = q at p1 p2
  have b1 := hb.sm s1 (by simp) (by simp)
  refine ⟨1201, sr_ka6 (q := q) (by omega) 1200 (i := 0) rfl (by rw [p1]; omega) ?_⟩
  generalize hτ : wr 25 (6 * q) (sn σ1 27) 6 0 (wr 24 (1200 * q) (sn σ1 26) 1200 0 σ1) = τ
  have sm : Sm [24, 25] σ1 τ := by rw [← hτ]; exact (wr_sm (by simp) _ _ _).tr (wr_sm (by simp) _ _ _)
  refine hq τ ⟨MI.sm (M := aM a) h1.1 sm (by simp) (by simp), ?_, OI.of h1.2.2 (fun k => (sm.1 29 (by simp) k).1) (sm.1 21 (by simp) 9).1 (sm.1 21 (by simp) 11).1 (fun k => (sm.1 30 (by simp) k).1)⟩ ((s1.up (by simp)).tr (sm.up (by simp))) ((sm.1 21 (by simp) 25).1.trans (x1 25 (by omega)))
  show PI τ (M :: (aP a).take 11)
  refine ⟨by rw [(sm.1 21 (by simp) 4).1, p1, List.length_cons, hq0], by rw [List.length_cons, hq0]; exact p2, fun j N hN m hm => ?_⟩
  rw [List.length_cons, hq0]
  cases j with
  | zero =>
    rw [List.getElem?_cons_zero] at hN
    cases hN
    refine ⟨fun i p hp => ?_, ?_⟩
    · have hi := (List.getElem?_eq_some_iff.mp hp).1
      have hl := (hg m hm).2.2.2
      rw [← hτ, wr_sn, if_neg (by omega), wr_sn, if_pos ⟨rfl, by omega, by omega⟩, ← (b1 m hm).1 i p hp]
      congr 1; omega
    · rw [← hτ, wr_sn, if_pos ⟨rfl, by omega, by omega⟩, ← (b1 m hm).2]
      congr 1; omega
  | succ j =>
    rw [List.getElem?_cons_succ] at hN
    have hj := (List.getElem?_eq_some_iff.mp hN).1
    obtain ⟨r1, r2⟩ := p3 (j + 1) N (by rw [List.getElem?_cons_succ]; exact hN) m hm
    have gN := hw.2.2.1 N (List.mem_of_mem_take (List.mem_of_getElem? hN)) m hm
    rw [List.length_cons, hq0] at r1 r2
    refine ⟨fun i p hp => ?_, ?_⟩
    · have hi := (List.getElem?_eq_some_iff.mp hp).1
      have hl := gN.2.2.2
      rw [← hτ, wr_sn, if_neg (by omega), wr_sn, if_neg (by omega)]
      exact r1 i p hp
    · rw [← hτ, wr_sn, if_neg (by omega), wr_sn, if_neg (by omega)]; exact r2
end
