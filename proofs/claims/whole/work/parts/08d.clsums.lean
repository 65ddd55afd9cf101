/-! ===== sums: what a reading gives; the class's sums ===== -/
theorem stp_pre {t : List Int} {s s' : PSt} (h : stp t s = some s') : ∃ r, s'.2.2.2.2.2.2 = s.2.2.2.2.2.2 ++ r := by
  obtain ⟨i, w, tg, q, k, g, d⟩ := s
  rw [stp] at h
  repeat' split at h
  all_goals first
    | (cases h; done)
    | (cases h; exact ⟨[], (List.append_nil _).symm⟩)
    | (cases h; exact ⟨_, rfl⟩)
theorem rd_fin {t : List Int} : ∀ (f : Nat) (s : PSt), PV t s → ∀ D, rd t f s = (-1, D) → okD D ∧ (flD D).length ≤ t.length ∧ ∃ r, D = s.2.2.2.2.2.2 ++ r := by
  intro f
  induction f with
  | zero => intro s _ D h; rw [rd] at h; have := (Prod.mk.inj h).1; omega
  | succ f ih =>
    intro s hP D h
    rw [rd] at h
    split at h
    · split at h
      · have := (Prod.mk.inj h).2
        subst this
        have h13 := hP.2.2.2.2.2.2.2.2.2.2.2.2
        have h1 := hP.1
        exact ⟨hP.2.2.2.2.2.2.1, by omega, [], (List.append_nil _).symm⟩
      · have := (Prod.mk.inj h).1; omega
    · rename_i c
      split at h
      · obtain ⟨i, w, tg, q, k, g, d⟩ := s
        exact ih _ (PV_sp hP (by dsimp only at c; omega)) D h
      · split at h
        · rename_i s' hs
          obtain ⟨r0, h0⟩ := stp_pre hs
          obtain ⟨a1, a2, r, hr⟩ := ih s' (PV_stp hP (by omega) hs) D h
          exact ⟨a1, a2, r0 ++ r, by rw [hr, h0, List.append_assoc]⟩
        · have := (Prod.mk.inj h).1; omega
theorem rd_rng {t : List Int} : ∀ (f : Nat) (s : PSt), s.1 ≤ t.length → -1 ≤ (rd t f s).1 ∧ (rd t f s).1 ≤ (t.length : Int) := by
  intro f
  induction f with
  | zero => intro s _; rw [rd]; dsimp only; omega
  | succ f ih =>
    intro s hs
    rw [rd]
    split
    · split
      · dsimp only; omega
      · dsimp only; omega
    · split
      · exact ih _ (by dsimp only; omega)
      · split
        · rename_i s' hs'
          exact ih s' (stp_lt (by omega) hs').2
        · dsimp only; omega
section
variable {Z tp n : Nat} {rb : Int} {σ : SS} {P : Nat → Prop} {a : AS} {M : Nat → List KV} {st : List (List KV)}
theorem sp_deedAt {Q : Int → SS → Prop} {pl : List KV} {i : Nat} {p : KV} (h : PlI σ pl) (hl : pl.length ≤ 120) (hp : pl[i]? = some p) (hq : Q p.1 σ) : wX4_deedAt (i : Int) σ Q := by
  have hi := (List.getElem?_eq_some_iff.mp hp).1
  unfold wX4_deedAt
  rw [h.1]
  refine ⟨⟨by omega, by omega⟩, sp_isIn (fun _ => ⟨o1, fun _ => ⟨by omega, by omega, ?_⟩⟩) (fun c => absurd ⟨by omega, by omega⟩ c)⟩
  rw [Int.toNat_natCast, (h.2 i p hp).1]; exact hq
theorem sp_numberAt {Q : Int → SS → Prop} {pl : List KV} {i : Nat} {p : KV} (h : PlI σ pl) (hl : pl.length ≤ 120) (hp : pl[i]? = some p) (hq : Q p.2 σ) : wX4_numberAt (i : Int) σ Q := by
  have hi := (List.getElem?_eq_some_iff.mp hp).1
  unfold wX4_numberAt
  rw [h.1]
  refine ⟨⟨by omega, by omega⟩, sp_isIn (fun _ => ⟨o1, fun _ => ⟨by omega, by omega, ?_⟩⟩) (fun c => absurd ⟨by omega, by omega⟩ c)⟩
  rw [Int.toNat_natCast, (h.2 i p hp).2]; exact hq
theorem Bn.sc {σ' : SS} {P' : Nat → Prop} (h : Bn σ P M st) (hst : st.length ≤ 120) (hs : SC σ P σ' P') : Bn σ' P' M st := by
  have ho : ∀ i, i < 64 → i ≠ 1 → ∀ k, sn σ' i k = sn σ i k ∧ sf σ' i k = sf σ i k := hs.2.1
  refine ⟨by rw [(ho 12 (by omega) (by omega) 3).1]; exact h.1, fun m hm => ?_, fun j l hl => ?_⟩
  · rw [(ho 13 (by omega) (by omega) m).2]
    exact hs.1 _ (rts_in (x := 13) (by omega) hm) _ (h.2.1 m hm)
  · have hj := (List.getElem?_eq_some_iff.mp hl).1
    rw [List.length_reverse] at hj
    rw [(ho 14 (by omega) (by omega) j).2]
    exact hs.1 _ (rts_in (x := 14) (by omega) (show j < 120 by omega)) _ (h.2.2 j l hl)
theorem cs_sums_L {Q : Int → SS → Prop} (hB : BT Z tp 500000) (hw : AW n a) (hn : n ≤ 1000000) {D : List (Int × List Tok)} (hD : (flD D).length ≤ 120) : ∀ (ds : List KV) {i : Nat} {σ : SS} {P : Nat → Prop} {M : Nat → List KV} {st : List (List KV)} {top : Nat} {rb : Int}, (flD D).drop i = ds → i ≤ (flD D).length → rb + (ds.length : Int) ≤ 2000001000 → CI Z rb σ P a → PlI σ (flD D) → sn σ 10 10 = (D.length : Int) → Bn σ P M st → GM M → (∀ l ∈ st, Gd l) → st.length ≤ i → (hdL st).length ≤ top → okd ds top →
    (∀ M' st' σ' P', dst (aX a) ds M st = some (M', st') → CI Z (rb + ds.length) σ' P' (M', (aKeep a).2) → Fr σ σ' → Q (D.length : Int) σ') → (∀ σ' P', dst (aX a) ds M st = none → CI Z (rb + ds.length) σ' P' (aRef a 2) → Fr σ σ' → Q (-2000000004) σ') → wX8_sums_L35 tp Q (ds.length + 1) (i : Int) σ := by
  intro ds
  induction ds with
  | nil =>
    intro i σ P M st top rb hdr hi hrb h hp h10 hb hg hgs hst htop ho hq hq2
    have hil := drop_nil hdr hi
    rw [wX8_sums_L35, hp.1]
    refine ⟨⟨by omega, by omega⟩, fun _ => sp_leave h hw (fun σ1 c1 f1 e1 e2 e3 e4 => ⟨7, ?_⟩), fun c => by omega⟩
    have tk : ∀ {r : Option Nat} {l : List KV}, TT σ P r l → TT σ1 P r l := fun ⟨d, t⟩ => ⟨d, T_keep (fun _ h => h) (fun b _ k _ => e2 _ _ (by omega)) (fun b _ k _ => e1 _ _ (by omega)) t⟩
    refine sp_bring (M := M) 6 (i := 0) (Mc := a.1) (p := (aKeep a).2) rfl c1 (fun m hm => by rw [e1 13 m (by omega)]; exact tk (hb.2.1 m hm)) (fun m hm => by omega) (fun σ2 c2 s2 => ?_)
    rw [(s2.1 10 (by simp) 10).1, e2 10 10 (by omega), h10]
    refine hq M st σ2 P (by rw [dst]) (c2.rbu (by simp)) (f1.tr (Fr.sm s2 (fun i hi => by simp at hi; omega)))
  | cons x ds ih =>
    intro i σ P M st top rb hdr hi hrb h hp h10 hb hg hgs hst htop ho hq hq2
    obtain ⟨hx, hdr', hlt, hlen⟩ := drop_cons hdr
    obtain ⟨de, nu⟩ := x
    have e : ((i : Int) + 1) = ((i + 1 : Nat) : Int) := by omega
    rw [List.length_cons] at hq hq2 hrb
    rw [wX8_sums_L35, hp.1, e]
    refine ⟨⟨by omega, by omega⟩, fun c => by omega, fun _ => sp_startChange h.1 (h.rok hw) (by have := h.2.2.2.2.2.2.2.2.2; omega) (fun σ1 P1 g1 s1 => ?_)⟩
    have ho1 : ∀ i, i < 64 → i ≠ 1 → ∀ k, sn σ1 i k = sn σ i k ∧ sf σ1 i k = sf σ i k := s1.2.1
    have c1 := h.sc hw s1 g1
    have p1 : PlI σ1 (flD D) := hp.of (ho1 7 (by omega) (by omega) 2).1 (fun k => (ho1 8 (by omega) (by omega) k).1) (fun k => (ho1 9 (by omega) (by omega) k).1)
    have go : ∀ σ2 P2 M2 st2 top2, dst (aX a) ((de, nu) :: ds) M st = dst (aX a) ds M2 st2 → CI Z (rb + 1) σ2 P2 a → Bn σ2 P2 M2 st2 → GM M2 → (∀ l ∈ st2, Gd l) → st2.length ≤ st.length + 1 → (hdL st2).length ≤ top2 → okd ds top2 → Fr σ1 σ2 → (∀ i, 6 < i → i < 12 → ∀ k, sn σ2 i k = sn σ1 i k) → wX8_sums_L35 tp Q (ds.length + 1) ((i + 1 : Nat) : Int) σ2 := by
      intro σ2 P2 M2 st2 top2 hd c2 b2 g2 gs2 l2 t2 ok2 fr2 f72
      exact ih hdr' (by omega) (by omega) c2 (p1.of (f72 7 (by omega) (by omega) 2) (fun k => f72 8 (by omega) (by omega) k) (fun k => f72 9 (by omega) (by omega) k)) (by rw [f72 10 (by omega) (by omega), (ho1 10 (by omega) (by omega) 10).1]; exact h10) b2 g2 gs2 (by omega) t2 ok2 (fun M' st' σ' P' hd' c' f' => hq M' st' σ' P' (hd.trans hd') (c'.rbu (by omega)) (((Fr.sc s1).tr fr2).tr f')) (fun σ' P' hd' c' f' => hq2 σ' P' (hd.trans hd') (c'.rbu (by omega)) (((Fr.sc s1).tr fr2).tr f'))
    refine sp_deedAt p1 hD hx ⟨fun z => ?_, fun z => sp_numberAt p1 hD hx ?_⟩
    · exact sp_bld z hB c1 s1.2.2.1 (hb.sc (by omega) s1) (by omega) hg hgs hw.2.2.2.1 htop ho go (fun σ2 P2 hd c2 fr2 => sp_full c2 hw hn (fun σ3 c3 f3 => hq2 σ3 P2 hd (c3.rbu (by omega)) (((Fr.sc s1).tr fr2).tr f3)))
    · exact sp_act z hB c1 s1.2.2.1 (hb.sc (by omega) s1) (by omega) hg hgs hw.2.2.2.1 htop ho go
theorem cs_sums {Q : Int → SS → Prop} (hB : BT Z tp 500000) (hrb : rb ≤ 2000000000) (h : CI Z rb σ P a) (hw : AW n a) (hn : n ≤ 1000000) (hq : Dn Z rb σ Q (opSums a)) : wX8_sums tp σ Q := by
  have hL := hw.2.2.2.2.1
  have h6 := h.2.2.2.2.2.1
  have h9 := h.2.2.2.2.2.2.2.2.1
  unfold opSums at hq
  unfold wX8_sums
  rw [h6]
  refine sp_read hL (fun j hj => ?_) (fun σ1 s1 hd => ⟨fun c => ?_, fun c => ?_⟩)
  · have e : (aT a)[j]? = some (aT a)[j] := List.getElem?_eq_getElem hj
    rw [h9 j _ e]; unfold bt; rw [e]; rfl
  · rw [if_pos c] at hq
    generalize hDD : (rdp (aT a) ps0).2 = D at hq
    have hr : rdp (aT a) ps0 = (-1, D) := Prod.ext c hDD
    obtain ⟨p1, p2, p3⟩ := hd D hr
    obtain ⟨-, hlen, -⟩ := rd_fin _ ps0 (PV_0 _) D hr
    have c1 : CI Z rb σ1 P a := h.sm s1 (fun i hi => by simp at hi; omega)
    have f1 : Fr σ σ1 := Fr.sm s1 (fun i hi => by simp at hi; omega)
    refine sp_lay hw.gm c1 (fun σ2 c2 b2 s2 => ⟨(flD D).length + 1, ?_⟩)
    have f2 : Fr σ1 σ2 := Fr.sm s2 (fun i hi => by simp at hi; omega)
    refine cs_sums_L hB hw hn (by omega) (flD D) (i := 0) (top := 0) rfl (Nat.zero_le _) (by omega) c2 (p1.of (s2.1 7 (by simp) 2).1 (fun k => (s2.1 8 (by simp) k).1) (fun k => (s2.1 9 (by simp) k).1)) (by rw [(s2.1 10 (by simp) 10).1]; exact p2) b2 hw.gm (fun l hl => by cases hl) (Nat.le_refl _) (by simp [hdL]) (okd_D p3 0) (fun M' st' σ' P' hd' c' f' => ?_) (fun σ' P' hd' c' f' => ?_)
    · rw [hd'] at hq
      exact hq σ' P' (c'.rbu (by omega)) ((f1.tr f2).tr f')
    · rw [hd'] at hq
      exact hq σ' P' (c'.rbu (by omega)) ((f1.tr f2).tr f')
  · rw [if_neg c] at hq
    have := rd_rng (t := aT a) ((aT a).length + 1) ps0 (by simp [ps0])
    have e : (rd (aT a) ((aT a).length + 1) ps0).1 = (rdp (aT a) ps0).1 := rfl
    rw [e] at this
    refine ⟨⟨by omega, by omega⟩, hq σ1 P ((h.sm s1 (fun i hi => by simp at hi; omega)).rbu (by omega)) (Fr.sm s1 (fun i hi => by simp at hi; omega))⟩
end
