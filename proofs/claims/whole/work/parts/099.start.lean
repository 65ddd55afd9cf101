/-! ===== the law: its loop, its start ===== -/
set_option maxRecDepth 100000 in
set_option maxHeartbeats 4000000 in
theorem l_switch {p : Program} {l : Launch} {e : Env} {s : State} {m : MethodId} {below : List Frame} {meth : Method} {c : Code} {H : Heap} {locs : List Loc} {ls : Array Slot} {b L i n : Nat} {xs : Nat → Int32} {E : Ev} {σ : SS} {x : Int32} (X : LX p s m meth c b L xs E) (hi : i + 5 ≤ L) (hn : n ≤ 1000) (hg : GS E σ s H locs) (ht : sz σ ≤ tpE E) (h : LPz (ez E) n σ) (hl : lv_has ls 4 (lvL E b i)) (kk : LK p l e s m below meth c b E n ls) : W p l e room_1 s m #[Value.ref b] below meth c H locs (39 + (sz σ - ez E)) (19543 + 9 * (sz σ - ez E)) (lw_Z below #[Value.ref b] s) (F0 m 32 ls [.int x]) := by
  obtain ⟨hx, hb, -⟩ := id X
  generalize hv : x.toInt = v
  by_cases c35 : v < 0 ∨ 34 < v
  · refine lv_tableOut (tgt := 1395) hx hb dL_law_32 (by rw [hv]; exact c35) (by decide) ?_
    obtain ⟨P, a, c1, c2, c3⟩ := h
    exact kk σ H locs hg ht ⟨P, a, c1.rbu (by omega), c2, c3.up (by omega)⟩
  rcases (show v = 0 ∨ v = 1 ∨ v = 2 ∨ v = 3 ∨ v = 4 ∨ v = 5 ∨ v = 6 ∨ v = 7 ∨ v = 8 ∨ v = 9 ∨ v = 10 ∨ v = 11 ∨ v = 12 ∨ v = 13 ∨ v = 14 ∨ v = 15 ∨ v = 16 ∨ v = 17 ∨ v = 18 ∨ v = 19 ∨ v = 20 ∨ v = 21 ∨ v = 22 ∨ v = 23 ∨ v = 24 ∨ v = 25 ∨ v = 26 ∨ v = 27 ∨ v = 28 ∨ v = 29 ∨ v = 30 ∨ v = 31 ∨ v = 32 ∨ v = 33 ∨ v = 34 by omega) with hx0 | hx0 | hx0 | hx0 | hx0 | hx0 | hx0 | hx0 | hx0 | hx0 | hx0 | hx0 | hx0 | hx0 | hx0 | hx0 | hx0 | hx0 | hx0 | hx0 | hx0 | hx0 | hx0 | hx0 | hx0 | hx0 | hx0 | hx0 | hx0 | hx0 | hx0 | hx0 | hx0 | hx0 | hx0
  · refine lv_tableIn (off := 156) (tgt := 188) hx hb dL_law_32 (by rw [hv, hx0]; decide) (by rw [hv, hx0]; decide) (by rw [hv, hx0]; rfl) (by decide) ?_
    exact lc_put X hi hn hg ht h hl kk
  · refine lv_tableIn (off := 199) (tgt := 231) hx hb dL_law_32 (by rw [hv, hx0]; decide) (by rw [hv, hx0]; decide) (by rw [hv, hx0]; rfl) (by decide) ?_
    exact lc_remove X hi hn hg ht h hl kk
  · refine lv_tableIn (off := 232) (tgt := 264) hx hb dL_law_32 (by rw [hv, hx0]; decide) (by rw [hv, hx0]; decide) (by rw [hv, hx0]; rfl) (by decide) ?_
    exact lc_get X hi hn hg ht h hl kk
  · refine lv_tableIn (off := 265) (tgt := 297) hx hb dL_law_32 (by rw [hv, hx0]; decide) (by rw [hv, hx0]; decide) (by rw [hv, hx0]; rfl) (by decide) ?_
    exact lc_size X hi hn hg ht h hl kk
  · refine lv_tableIn (off := 288) (tgt := 320) hx hb dL_law_32 (by rw [hv, hx0]; decide) (by rw [hv, hx0]; decide) (by rw [hv, hx0]; rfl) (by decide) ?_
    exact lc_rank X hi hn hg ht h hl kk
  · refine lv_tableIn (off := 321) (tgt := 353) hx hb dL_law_32 (by rw [hv, hx0]; decide) (by rw [hv, hx0]; decide) (by rw [hv, hx0]; rfl) (by decide) ?_
    exact lc_nth X hi hn hg ht h hl kk
  · refine lv_tableIn (off := 354) (tgt := 386) hx hb dL_law_32 (by rw [hv, hx0]; decide) (by rw [hv, hx0]; decide) (by rw [hv, hx0]; rfl) (by decide) ?_
    exact lc_near X hi hn hg ht h hl kk
  · refine lv_tableIn (off := 397) (tgt := 429) hx hb dL_law_32 (by rw [hv, hx0]; decide) (by rw [hv, hx0]; decide) (by rw [hv, hx0]; rfl) (by decide) ?_
    exact lc_within X hi hn hg ht h hl kk
  · refine lv_tableIn (off := 440) (tgt := 472) hx hb dL_law_32 (by rw [hv, hx0]; decide) (by rw [hv, hx0]; decide) (by rw [hv, hx0]; rfl) (by decide) ?_
    exact lc_sum X hi hn hg ht h hl kk
  · refine lv_tableIn (off := 484) (tgt := 516) hx hb dL_law_32 (by rw [hv, hx0]; decide) (by rw [hv, hx0]; decide) (by rw [hv, hx0]; rfl) (by decide) ?_
    exact lc_most X hi hn hg ht h hl kk
  · refine lv_tableIn (off := 537) (tgt := 569) hx hb dL_law_32 (by rw [hv, hx0]; decide) (by rw [hv, hx0]; decide) (by rw [hv, hx0]; rfl) (by decide) ?_
    exact lc_middle X hi hn hg ht h hl kk
  · refine lv_tableIn (off := 580) (tgt := 612) hx hb dL_law_32 (by rw [hv, hx0]; decide) (by rw [hv, hx0]; decide) (by rw [hv, hx0]; rfl) (by decide) ?_
    exact lc_gap X hi hn hg ht h hl kk
  · refine lv_tableIn (off := 603) (tgt := 635) hx hb dL_law_32 (by rw [hv, hx0]; decide) (by rw [hv, hx0]; decide) (by rw [hv, hx0]; rfl) (by decide) ?_
    exact lc_top X hi hn hg ht h hl kk
  · refine lv_tableIn (off := 636) (tgt := 668) hx hb dL_law_32 (by rw [hv, hx0]; decide) (by rw [hv, hx0]; decide) (by rw [hv, hx0]; rfl) (by decide) ?_
    exact lc_same X hi hn hg ht h hl kk
  · refine lv_tableIn (off := 669) (tgt := 701) hx hb dL_law_32 (by rw [hv, hx0]; decide) (by rw [hv, hx0]; decide) (by rw [hv, hx0]; rfl) (by decide) ?_
    exact lc_common X hi hn hg ht h hl kk
  · refine lv_tableIn (off := 702) (tgt := 734) hx hb dL_law_32 (by rw [hv, hx0]; decide) (by rw [hv, hx0]; decide) (by rw [hv, hx0]; rfl) (by decide) ?_
    exact lc_apart X hi hn hg ht h hl kk
  · refine lv_tableIn (off := 735) (tgt := 767) hx hb dL_law_32 (by rw [hv, hx0]; decide) (by rw [hv, hx0]; decide) (by rw [hv, hx0]; rfl) (by decide) ?_
    exact lc_cut X hi hn hg ht h hl kk
  · refine lv_tableIn (off := 778) (tgt := 810) hx hb dL_law_32 (by rw [hv, hx0]; decide) (by rw [hv, hx0]; decide) (by rw [hv, hx0]; rfl) (by decide) ?_
    exact lc_glue X hi hn hg ht h hl kk
  · refine lv_tableIn (off := 811) (tgt := 843) hx hb dL_law_32 (by rw [hv, hx0]; decide) (by rw [hv, hx0]; decide) (by rw [hv, hx0]; rfl) (by decide) ?_
    exact lc_share X hi hn hg ht h hl kk
  · refine lv_tableIn (off := 844) (tgt := 876) hx hb dL_law_32 (by rw [hv, hx0]; decide) (by rw [hv, hx0]; decide) (by rw [hv, hx0]; rfl) (by decide) ?_
    exact lc_mix X hi hn hg ht h hl kk
  · refine lv_tableIn (off := 897) (tgt := 929) hx hb dL_law_32 (by rw [hv, hx0]; decide) (by rw [hv, hx0]; decide) (by rw [hv, hx0]; rfl) (by decide) ?_
    exact lc_fill X hi hn hg ht h hl kk
  · refine lv_tableIn (off := 950) (tgt := 982) hx hb dL_law_32 (by rw [hv, hx0]; decide) (by rw [hv, hx0]; decide) (by rw [hv, hx0]; rfl) (by decide) ?_
    exact lc_sieve X hi hn hg ht h hl kk
  · refine lv_tableIn (off := 1003) (tgt := 1035) hx hb dL_law_32 (by rw [hv, hx0]; decide) (by rw [hv, hx0]; decide) (by rw [hv, hx0]; rfl) (by decide) ?_
    exact lc_raise X hi hn hg ht h hl kk
  · refine lv_tableIn (off := 1056) (tgt := 1088) hx hb dL_law_32 (by rw [hv, hx0]; decide) (by rw [hv, hx0]; decide) (by rw [hv, hx0]; rfl) (by decide) ?_
    exact lc_slide X hi hn hg ht h hl kk
  · refine lv_tableIn (off := 1089) (tgt := 1121) hx hb dL_law_32 (by rw [hv, hx0]; decide) (by rw [hv, hx0]; decide) (by rw [hv, hx0]; rfl) (by decide) ?_
    exact lc_zip X hi hn hg ht h hl kk
  · refine lv_tableIn (off := 1132) (tgt := 1164) hx hb dL_law_32 (by rw [hv, hx0]; decide) (by rw [hv, hx0]; decide) (by rw [hv, hx0]; rfl) (by decide) ?_
    exact lc_clears X hi hn hg ht h hl kk
  · refine lv_tableIn (off := 1175) (tgt := 1207) hx hb dL_law_32 (by rw [hv, hx0]; decide) (by rw [hv, hx0]; decide) (by rw [hv, hx0]; rfl) (by decide) ?_
    exact lc_scatter X hi hn hg ht h hl kk
  · refine lv_tableIn (off := 1218) (tgt := 1250) hx hb dL_law_32 (by rw [hv, hx0]; decide) (by rw [hv, hx0]; decide) (by rw [hv, hx0]; rfl) (by decide) ?_
    exact lc_sound X hi hn hg ht h hl kk
  · refine lv_tableIn (off := 1241) (tgt := 1273) hx hb dL_law_32 (by rw [hv, hx0]; decide) (by rw [hv, hx0]; decide) (by rw [hv, hx0]; rfl) (by decide) ?_
    exact lc_mixer X hi hn hg ht h hl kk
  · refine lv_tableIn (off := 1264) (tgt := 1296) hx hb dL_law_32 (by rw [hv, hx0]; decide) (by rw [hv, hx0]; decide) (by rw [hv, hx0]; rfl) (by decide) ?_
    exact lc_type X hi hn hg ht h hl kk
  · refine lv_tableIn (off := 1287) (tgt := 1319) hx hb dL_law_32 (by rw [hv, hx0]; decide) (by rw [hv, hx0]; decide) (by rw [hv, hx0]; rfl) (by decide) ?_
    exact lc_clear X hi hn hg ht h hl kk
  · refine lv_tableIn (off := 1300) (tgt := 1332) hx hb dL_law_32 (by rw [hv, hx0]; decide) (by rw [hv, hx0]; decide) (by rw [hv, hx0]; rfl) (by decide) ?_
    exact lc_sums X hi hn hg ht h hl kk
  · refine lv_tableIn (off := 1313) (tgt := 1345) hx hb dL_law_32 (by rw [hv, hx0]; decide) (by rw [hv, hx0]; decide) (by rw [hv, hx0]; rfl) (by decide) ?_
    exact lc_back X hi hn hg ht h hl kk
  · refine lv_tableIn (off := 1326) (tgt := 1358) hx hb dL_law_32 (by rw [hv, hx0]; decide) (by rw [hv, hx0]; decide) (by rw [hv, hx0]; rfl) (by decide) ?_
    exact lc_told X hi hn hg ht h hl kk
  · refine lv_tableIn (off := 1349) (tgt := 1381) hx hb dL_law_32 (by rw [hv, hx0]; decide) (by rw [hv, hx0]; decide) (by rw [hv, hx0]; rfl) (by decide) ?_
    exact lc_digest X hi hn hg ht h hl kk
set_option maxRecDepth 100000 in
set_option maxHeartbeats 4000000 in
theorem l_loop {p : Program} {l : Launch} {e : Env} {s : State} {m : MethodId} {below : List Frame} {meth : Method} {c : Code} {b L : Nat} {xs : Nat → Int32} {E : Ev} (X : LX p s m meth c b L xs E) : ∀ (f : Nat) {H : Heap} {locs : List Loc} {ls : Array Slot} {i n : Nat} {σ : SS}, L ≤ i + 5 * f + 4 → i = 5 * n → i ≤ 2560 → GS E σ s H locs → sz σ ≤ tpE E → LPz (ez E) n σ → lv_has ls 4 (lvL E b i) → W p l e room_1 s m #[Value.ref b] below meth c H locs (39 + (sz σ - ez E)) (19543 + 9 * (sz σ - ez E)) (lw_Z below #[Value.ref b] s) (F0 m 18 ls []) := by
  obtain ⟨hx, hb, hr, hml, hown, hts, hX, hbl, hlocks, hL, hK, hN, hE0, hes, hez, hez0⟩ := id X
  have hbA : ¬ Av E b := by show ¬ e0 E ≤ b; omega
  have fin : ∀ {H : Heap} {locs : List Loc} {ls : Array Slot} {σ : SS}, GS E σ s H locs → sz σ ≤ tpE E → W p l e room_1 s m #[Value.ref b] below meth c H locs (39 + (sz σ - ez E)) (19543 + 9 * (sz σ - ez E)) (lw_Z below #[Value.ref b] s) (F0 m 1401 ls []) := by
    intro H locs ls σ hg ht
    have q1 := hg.1.2.2.2.2.2.2.2.2.1
    unfold tpE at ht
    refine va_forget (fun q hq => by have := hg.2.2.2 q hq; show s.heap.size ≤ _; rw [← hE0]; exact this) ?_
    refine W.widen (k := 600000) (n := 7302250) (by omega) (by omega) ?_
    refine lv_iconst (v := 1) hx hb dL_law_1401 (by decide) ?_
    exact lw_ret hx hb hr hlocks dL_law_1402
  have head : ∀ {H : Heap} {locs : List Loc} {ls : Array Slot} {i : Nat} {σ : SS}, i ≤ 2560 → GS E σ s H locs → sz σ ≤ tpE E → lv_has ls 4 (lvL E b i) → (i + 5 ≤ L → W p l e room_1 s m #[Value.ref b] below meth c H locs (39 + (sz σ - ez E)) (19543 + 9 * (sz σ - ez E)) (lw_Z below #[Value.ref b] s) (F0 m 26 ls [])) → W p l e room_1 s m #[Value.ref b] below meth c H locs (39 + (sz σ - ez E)) (19543 + 9 * (sz σ - ez E)) (lw_Z below #[Value.ref b] s) (F0 m 18 ls []) := by
    intro H locs ls i σ hi hg ht hl kk
    refine lv_iload_n hx hb dL_law_18 rfl (lv_at hl 3 rfl) ?_
    refine lv_aload_n hx hb dL_law_19 rfl (lv_at hl 0 rfl) ?_
    refine va_slen hx hb hX hbl hbA hg.2 dL_law_20 ?_
    rw [show Int32.ofNat L = iI (L : Int) from (iI_nat L).symm]
    refine lv_iconst (v := iI 5) hx hb dL_law_21 (by decide) ?_
    refine q_isub hx hb dL_law_22 ?_
    refine j_gt (tgt := 1401) hx hb dL_law_23 (by decide) ⟨by omega, by omega⟩ ⟨by omega, by omega⟩ (fun _ => fin hg ht) (fun q => kk (by omega))
  intro f
  induction f with
  | zero =>
    intro H locs ls i n σ h1 h2 h3 hg ht h hl
    exact head h3 hg ht hl (fun q => by omega)
  | succ f ih =>
    intro H locs ls i n σ h1 h2 h3 hg ht h hl
    refine head h3 hg ht hl (fun q => ?_)
    refine lv_aload_n hx hb dL_law_26 rfl (lv_at hl 0 rfl) ?_
    refine lv_iload_n hx hb dL_law_27 rfl (lv_at hl 3 rfl) ?_
    refine va_sld hx hb hX hbl hbA hg.2 (iI_in (by omega) (by omega) (by omega)) dL_law_28 ?_
    refine lv_bipush (v := 63) hx hb dL_law_29 (by decide) ?_
    refine lv_iand hx hb dL_law_31 ?_
    refine l_switch (n := n) X q (by omega) hg ht h hl (fun σ' H locs hg ht h => ?_)
    refine lv_iinc (v := iI ((i + 5 : Nat) : Int)) (lv' := [(3, .int (iI ((i + 5 : Nat) : Int))), (0, .ref b), (1, .ref (ea E 0)), (2, .ref (ea E 21))]) hx hb dL_law_1395 hl (k := 3) rfl (by rw [show ((i + 5 : Nat) : Int) = (i : Int) + 5 by omega]; exact iI_add _ _) (by decide) rfl (fun ls hl => ?_)
    refine lv_goto (tgt := 18) hx hb dL_law_1398 (by decide) ?_
    exact ih (i := i + 5) (n := n + 1) (by omega) (by omega) (by omega) hg ht h (lv_sub hl [1, 2, 3, 0] rfl)
/-- the first state -/
def a00 : AS := ((fun _ => []), [], (fun _ => 0), 0, [])
def s00 (N : Nat) : SS := ((fun _ _ => 0), (fun _ _ => none), (fun _ => False), N)
theorem CI_00 (N : Nat) : CI N 0 (s00 N) (fun _ => False) a00 := by
  refine ⟨⟨[], [], rfl, List.nodup_nil, rfl, List.nodup_nil, fun b hb => (by cases hb), fun b => ⟨fun h => h.elim, fun h => (by cases h)⟩, fun b => ⟨fun h => h.elim, fun h => (by cases h.1)⟩, rfl, fun b hb => (by cases hb), (by show (0 : Int) ≤ 81600 + 0 + 0; decide), Int.le_refl _, Int.le_refl _, fun b hb => (by cases hb)⟩, fun m _ => TT_nil, ⟨0, by decide, rfl, rfl, fun j M hM => ?_, fun j _ _ m _ => rfl⟩, fun i _ => ⟨[], TT_nil, by simp⟩, fun i _ => ⟨[], TT_nil, by simp⟩, rfl, fun j _ => rfl, rfl, fun i c hc => ?_, Int.le_refl _⟩
  · simp [aP, a00] at hM
  · simp [aT, a00] at hc
theorem RI_00 (N : Nat) : RI (s00 N) a00 := by
  refine ⟨fun m _ => ⟨fun i p hp => ?_, rfl⟩, ⟨rfl, by decide, fun j M hM => ?_⟩, ⟨fun j _ => rfl, rfl, rfl, fun i c hc => ?_⟩⟩
  · simp [aM, a00] at hp
  · simp [aP, a00] at hM
  · simp [aT, a00] at hc
theorem AW_00 : AW 0 a00 := ⟨fun m _ => Gd_nil, by simp [aP, a00], fun M hM => (by simp [aP, a00] at hM), by decide, by simp [aT, a00], fun c hc => (by simp [aT, a00] at hc), fun j => ⟨Int.le_refl _, Int.le_refl _⟩⟩
theorem LP_00 (N : Nat) : LPz N 0 (s00 N) := ⟨_, a00, (CI_00 N).rbu (by decide), RI_00 N, AW_00⟩
def mkE (D : va_G) (cI cB cR : ClassId) (z ez es : Nat) : Ev := (D, cI, cB, cR, z, (fun i => z + i), ez, es)
theorem HB_00 {D : va_G} {cI cB cR : ClassId} {z : Nat} {H : Heap} (h : CB (mkE D cI cB cR z 0 0) 39 (FW (mkE D cI cB cR z 0 0)) H) : HB (mkE D cI cB cR z H.size (sOf H)) (s00 H.size) H := by
  refine ⟨fun i hi => ?_, fun b hb => hb.elim, fun i j _ _ e => ?_, fun i _ => Nat.le_add_right _ _, fun b hb => hb.elim, fun i k => ⟨by show -2147483648 ≤ (0 : Int); decide, by show (0 : Int) ≤ _; decide⟩, fun i k b hb => (by cases hb), rfl, Nat.le_refl _, ?_⟩
  · have hc := h.2 i hi
    by_cases c10 : fcl i < 10
    · refine HC_of_ob c10 rfl (t_OB.to (CC_ob hc rfl c10) (fun k hk => ?_))
      unfold FW cv
      generalize ffk (fcl i) k = q
      match q with
      | 0 => rfl
      | 1 => rfl
      | 2 => rfl
      | q + 3 => rfl
    · have h22 : fcl i = 20 ∨ fcl i = 21 ∨ fcl i = 22 := by
        unfold fcl at c10 ⊢
        split at c10 <;> first | omega | (simp; done) | skip
      unfold CC at hc
      unfold HC
      rcases h22 with z | z | z <;> (rw [z] at hc ⊢; exact hc)
  · have e' : z + i = z + j := e
    omega
  · show sOf H = sOf H + 9 * (H.size - H.size)
    omega
set_option maxHeartbeats 8000000 in
set_option maxRecDepth 100000 in
theorem whole_start {p : Program} {e : Env} {s : State} {m : MethodId} {below : List Frame} {meth : Method} {c : Code} (l : Launch) (hflags : l.flags = flags0) {b L : Nat} {xs : Nat → Int32} (hL : L ≤ 2560) (C0 : lw_At p s m meth c b L xs) : W p l e room_1 s m #[Value.ref b] below meth c s.heap [] 0 0 (lw_Z below #[Value.ref b] s) (entryFrame m ([Value.ref b] : List Value).toArray 4) := by
  obtain ⟨hx, hb, hr, hml, hown, hT, hX, hbl, hlocks, hgv⟩ := id C0
  have hts : ∀ w ∈ wsL_law, w.before #[Value.ref b] s = true := fun w h => hT w (wsL_law_in w h)
  obtain ⟨c0, iS0, hKn0⟩ := u_known (C := RX0) (T := TX0) (N := 4) (n := 4) hts inlX0 (hts (.instantiable RX0 4) (cl_2 _ (List.mem_of_getElem? (i := 13) rfl)))
  obtain ⟨c1, iS1, hKn1⟩ := u_known (C := RX1) (T := TX1) (N := 2) (n := 2) hts inlX1 (hts (.instantiable RX1 2) (cl_1 _ (List.mem_of_getElem? (i := 17) rfl)))
  obtain ⟨c2, iS2, hKn2⟩ := u_known (C := RX2) (T := TX2) (N := 4) (n := 4) hts inlX2 (hts (.instantiable RX2 4) (cl_1 _ (List.mem_of_getElem? (i := 13) rfl)))
  obtain ⟨c3, iS3, hKn3⟩ := u_known (C := RX3) (T := TX3) (N := 9) (n := 9) hts inlX3 (hts (.instantiable RX3 9) (cl_9 _ (List.mem_of_getElem? (i := 18) rfl)))
  obtain ⟨c4, iS4, hKn4⟩ := u_known (C := RX4) (T := TX4) (N := 3) (n := 3) hts inlX4 (hts (.instantiable RX4 3) (cl_2 _ (List.mem_of_getElem? (i := 5) rfl)))
  obtain ⟨c5, iS5, hKn5⟩ := u_known (C := RX5) (T := TX5) (N := 11) (n := 11) hts inlX5 (hts (.instantiable RX5 11) (cl_2 _ (List.mem_of_getElem? (i := 9) rfl)))
  obtain ⟨c6, iS6, hKn6⟩ := u_known (C := RX6) (T := TX6) (N := 3) (n := 3) hts inlX6 (hts (.instantiable RX6 3) (cl_2 _ (List.mem_of_getElem? (i := 17) rfl)))
  obtain ⟨c7, iS7, hKn7⟩ := u_known (C := RX7) (T := TX7) (N := 3) (n := 3) hts inlX7 (hts (.instantiable RX7 3) (cl_1 _ (List.mem_of_getElem? (i := 23) rfl)))
  obtain ⟨c8, iS8, hKn8⟩ := u_known (C := RX8) (T := TX8) (N := 14) (n := 14) hts inlX8 (hts (.instantiable RX8 14) (cl_1 _ (List.mem_of_getElem? (i := 1) rfl)))
  obtain ⟨c9, iS9, hKn9⟩ := u_known (C := RX9) (T := TX9) (N := 27) (n := 27) hts inlX9 (hts (.instantiable RX9 27) (cl_1 _ (List.mem_of_getElem? (i := 4) rfl)))
  obtain ⟨dC, dI, hKc⟩ : ∃ (dC : Nat → ClassId) (dI : Nat → Nat → Nat), ∀ (k : Nat) (q : vw_C), vwCl[k]? = some q → u_Kn s q.1 q.2.1 q.2.2 (dC k) (dI k) := by
    refine ⟨fun k => if k = 0 then c0 else if k = 1 then c1 else if k = 2 then c2 else if k = 3 then c3 else if k = 4 then c4 else if k = 5 then c5 else if k = 6 then c6 else if k = 7 then c7 else if k = 8 then c8 else c9, fun k => if k = 0 then iS0 else if k = 1 then iS1 else if k = 2 then iS2 else if k = 3 then iS3 else if k = 4 then iS4 else if k = 5 then iS5 else if k = 6 then iS6 else if k = 7 then iS7 else if k = 8 then iS8 else iS9, ?_⟩
    intro k q hq
    match k, hq with
    | 0, hq => cases hq; exact hKn0
    | 1, hq => cases hq; exact hKn1
    | 2, hq => cases hq; exact hKn2
    | 3, hq => cases hq; exact hKn3
    | 4, hq => cases hq; exact hKn4
    | 5, hq => cases hq; exact hKn5
    | 6, hq => cases hq; exact hKn6
    | 7, hq => cases hq; exact hKn7
    | 8, hq => cases hq; exact hKn8
    | 9, hq => cases hq; exact hKn9
    | k + 10, hq => simp [vwCl] at hq
  obtain ⟨cI, kI, compI, i1, i2, i3⟩ := Cond.arrayClass_spec (hts (.arrayClass .int) (cl_3 _ (List.mem_of_getElem? (i := 13) rfl)))
  obtain ⟨cB, kB, compB, b1, b2, b3⟩ := Cond.arrayClass_spec (hts (.arrayClass .byte) (cl_2 _ (List.mem_of_getElem? (i := 2) rfl)))
  have hAO : (Cond.arrayOver (.object "JoinMaps$Node")).before #[Value.ref b] s = true := (hT (.arrayOver (.object "JoinMaps$Node")) (List.mem_of_getElem? (i := 108) (by decide +kernel)))
  obtain ⟨compR, cR, kR, r0, -, r2, r3, r4⟩ := Cond.arrayOver_spec hAO
  have hO : NA s := va_AO.of hAO
  have hN : KN s := by
    intro k q hq
    match k, hq with
    | 0, hq => cases hq; exact va_Nw.of rfl (hT (.methodLinkNest RX0 28 yX8_isMap RX8) (List.mem_of_getElem? (i := 766) (by decide +kernel)))
    | 1, hq => cases hq; exact va_Nw.of rfl (hT (.methodLinkNest RX1 63 yX8_held RX8) (List.mem_of_getElem? (i := 597) (by decide +kernel)))
    | 2, hq => cases hq; exact va_Nw.of rfl (hT (.methodLinkNest RX2 17 yX3_init RX8) (List.mem_of_getElem? (i := 355) (by decide +kernel)))
    | 3, hq => cases hq; exact va_Nw.of rfl (hT (.methodLinkNest RX4 22 yX8_isIn RX8) (List.mem_of_getElem? (i := 757) (by decide +kernel)))
    | 4, hq => cases hq; exact va_Nw.of rfl (hT (.methodLinkNest RX5 73 yX8_isIn RX8) (List.mem_of_getElem? (i := 700) (by decide +kernel)))
    | 5, hq => cases hq; exact va_Nw.of rfl (hT (.methodLinkNest RX6 45 yX8_isIn RX8) (List.mem_of_getElem? (i := 512) (by decide +kernel)))
    | k + 6, hq => simp [nestW] at hq
  have hM : KM s := by
    intro k q hq
    match k, hq with
    | 0, hq => cases hq; exact va_Nw.of rfl (hT (.methodLinkNest RX8 9 yX2_init RX8) (List.mem_of_getElem? (i := 76) (by decide +kernel)))
    | 1, hq => cases hq; exact va_Nw.of rfl (hT (.methodLinkNest RX8 33 yX7_init RX8) (List.mem_of_getElem? (i := 111) (by decide +kernel)))
    | 2, hq => cases hq; exact va_Nw.of rfl (hT (.methodLinkNest RX8 44 yX4_init RX8) (List.mem_of_getElem? (i := 130) (by decide +kernel)))
    | 3, hq => cases hq; exact va_Nw.of rfl (hT (.methodLinkNest RX8 67 yX6_init RX8) (List.mem_of_getElem? (i := 213) (by decide +kernel)))
    | k + 4, hq => simp [nestM] at hq
  have hK0 : ∀ (zz ss : Nat), KK (mkE (dC, dI) cI cB cR s.heap.size zz ss) s := by
    intro zz ss
    refine ⟨hKc, fun k q hq => ?_⟩
    match k, hq with
    | 0, hq => cases hq; exact ⟨fun n z => ⟨fun k h => (by cases h), kI, i2, compI, i3⟩, i1⟩
    | 1, hq => cases hq; exact ⟨fun n z => ⟨fun k h => (by cases h), kB, b2, compB, b3⟩, b1⟩
    | 2, hq => cases hq; exact ⟨fun n z => ⟨fun k h => (by cases h), kR, r2, compR, r3⟩, ⟨kR, compR, r2, r3, r0, r4⟩⟩
    | k + 3, hq => simp at hq
  have hl := lv_entry ([.ref b]) (n := 4) (Nat.le_of_ble_eq_true rfl)
  rw [lg_entry_eq]
  generalize (lg_sl ([.ref b]) ++ List.replicate (4 - (lg_sl ([.ref b])).length) Slot.unset).toArray = ls at hl ⊢
  have hl : lv_has ls 4 [(0, .ref b)] := hl
  generalize hEE : mkE (dC, dI) cI cB cR s.heap.size 0 0 = E
  have hK : KK E s := by rw [← hEE]; exact hK0 0 0
  have hE0 : e0 E = s.heap.size := by rw [← hEE]; rfl
  have hg : CG E 0 (FW E) s s.heap [] := ⟨⟨by show s.heap.size = e0 E + 0; omega, fun i hi => by omega⟩, va_S.rf⟩
  have hown' : s.vm.findClass RL = some m.cls := hown
  refine c_new (ci := 8) (C := RX8) (T := TX8) (N := 14) hx hb hts inlX8 tyX8 tyX8_ok hown' (hts (.classLink RL 7 RX8) (cl_1 _ (List.mem_of_getElem? (i := 0) rfl))) (hts (.instantiable RX8 14) (cl_1 _ (List.mem_of_getElem? (i := 1) rfl))) (hts (.initialized RX8) (cl_1 _ (List.mem_of_getElem? (i := 2) rfl))) hK hg rfl (by decide) rfl rfl (fun j hj => by rcases (show j = 0 ∨ j = 1 ∨ j = 2 ∨ j = 3 ∨ j = 4 ∨ j = 5 ∨ j = 6 ∨ j = 7 ∨ j = 8 ∨ j = 9 ∨ j = 10 ∨ j = 11 ∨ j = 12 ∨ j = 13 by omega) with rfl | rfl | rfl | rfl | rfl | rfl | rfl | rfl | rfl | rfl | rfl | rfl | rfl | rfl <;> rfl) (Nat.le_of_ble_eq_true rfl) (Nat.le_of_ble_eq_true rfl) dL_law_0 (fun H hg => ?_)
  refine lv_dup hx hb dL_law_3 rfl ?_
  refine c_call (va_runI (b := ad E 0) (As := []) (rest := [.ref (ad E 0)]) ⟨hx, hb, hml, hown', hts⟩ (kcX8_0 l E _ (fun k _ => if_pos rfl)) (cwI 0 hts gL_law_X8_init rfl rfl rfl (hts (.initialized RX8) (cl_1 _ (List.mem_of_getElem? (i := 2) rfl))) (hts (.methodLink RL 9 yX8_init) (cl_1 _ (List.mem_of_getElem? (i := 6) rfl))) (hts (.instanceMethod yX8_init) (cl_1 _ (List.mem_of_getElem? (i := 7) rfl))) rfl hdX8_init ⟨Nat.le_of_ble_eq_true rfl, Nat.le_of_ble_eq_true rfl⟩) (c_pre hg hK hO hM) rfl rfl hl.1 rfl (lv_room (Nat.le_of_ble_eq_true rfl)) dL_law_4 ⟨Nat.le_of_ble_eq_true rfl, Nat.le_of_ble_eq_true rfl⟩) hg (fun H locs hg => ?_)
  refine lv_astore_n (lv' := [(1, .ref (ad E 0)), (0, .ref b)]) hx hb dL_law_7 rfl hl (by decide) rfl (fun ls hl => ?_)
  refine c_new (ci := 9) (C := RX9) (T := TX9) (N := 27) hx hb hts inlX9 tyX9 tyX9_ok hown' (hts (.classLink RL 10 RX9) (cl_1 _ (List.mem_of_getElem? (i := 3) rfl))) (hts (.instantiable RX9 27) (cl_1 _ (List.mem_of_getElem? (i := 4) rfl))) (hts (.initialized RX9) (cl_1 _ (List.mem_of_getElem? (i := 5) rfl))) hK hg rfl (by decide) rfl rfl (fun j hj => by rcases (show j = 0 ∨ j = 1 ∨ j = 2 ∨ j = 3 ∨ j = 4 ∨ j = 5 ∨ j = 6 ∨ j = 7 ∨ j = 8 ∨ j = 9 ∨ j = 10 ∨ j = 11 ∨ j = 12 ∨ j = 13 ∨ j = 14 ∨ j = 15 ∨ j = 16 ∨ j = 17 ∨ j = 18 ∨ j = 19 ∨ j = 20 ∨ j = 21 ∨ j = 22 ∨ j = 23 ∨ j = 24 ∨ j = 25 ∨ j = 26 by omega) with rfl | rfl | rfl | rfl | rfl | rfl | rfl | rfl | rfl | rfl | rfl | rfl | rfl | rfl | rfl | rfl | rfl | rfl | rfl | rfl | rfl | rfl | rfl | rfl | rfl | rfl | rfl <;> rfl) (Nat.le_of_ble_eq_true rfl) (Nat.le_of_ble_eq_true rfl) dL_law_8 (fun H hg => ?_)
  refine lv_dup hx hb dL_law_11 rfl ?_
  refine c_call (va_runI (b := ad E 21) (As := []) (rest := [.ref (ad E 21)]) ⟨hx, hb, hml, hown', hts⟩ (kcX9_21 l E _ (fun k _ => if_pos rfl)) (cwI 0 hts gL_law_X9_init rfl rfl rfl (hts (.initialized RX9) (cl_1 _ (List.mem_of_getElem? (i := 5) rfl))) (hts (.methodLink RL 12 yX9_init) (cl_4 _ (List.mem_of_getElem? (i := 12) rfl))) (hts (.instanceMethod yX9_init) (cl_4 _ (List.mem_of_getElem? (i := 13) rfl))) rfl hdX9_init ⟨Nat.le_of_ble_eq_true rfl, Nat.le_of_ble_eq_true rfl⟩) (c_pre hg hK hO hM) rfl rfl hl.1 rfl (lv_room (Nat.le_of_ble_eq_true rfl)) dL_law_12 ⟨Nat.le_of_ble_eq_true rfl, Nat.le_of_ble_eq_true rfl⟩) hg (fun H locs hg => ?_)
  refine lv_astore_n (lv' := [(2, .ref (ad E 21)), (1, .ref (ad E 0)), (0, .ref b)]) hx hb dL_law_15 rfl hl (by decide) rfl (fun ls hl => ?_)
  refine lv_iconst (v := iI 0) hx hb dL_law_16 (by decide) ?_
  refine lv_istore_n (lv' := [(3, .int (iI 0)), (2, .ref (ad E 21)), (1, .ref (ad E 0)), (0, .ref b)]) hx hb dL_law_17 rfl hl (by decide) rfl (fun ls hl => ?_)
  refine W.widen (k := 39) (n := 19543) (Nat.le_of_ble_eq_true rfl) (Nat.le_of_ble_eq_true rfl) ?_
  have hfin : CB E 39 (FW E) H := hg.1.congr (fun i hi h10 k hk => by
    by_cases c0 : i = 21
    · simp [fW, c0]
    · simp [fW, dW, c0])
  refine W_used (fun u1 u2 u3 => ?_)
  rw [← hEE] at hfin
  have hHB := HB_00 hfin
  generalize hE1 : mkE (dC, dI) cI cB cR s.heap.size H.size (sOf H) = E1 at hHB
  have hgs : GS E1 (s00 H.size) s H locs := ⟨hHB, by rw [← hE1]; rw [← hEE] at hg; exact hg.2⟩
  have hz1 : ez E1 = H.size := by rw [← hE1]; rfl
  have hX1 : LX p s m meth c b L xs E1 := ⟨hx, hb, hr, hml, hown', hts, hX, hbl, hlocks, hL, by rw [← hE1]; exact hK0 _ _, hN, by rw [← hE1]; rfl, by rw [← hE1]; exact u1, by rw [hz1]; exact u2, by rw [hz1]; exact u3⟩
  have hsz : sz (s00 H.size) - ez E1 = 0 := by rw [hz1]; exact Nat.sub_self _
  have := l_loop (p := p) (l := l) (e := e) (below := below) hX1 (L + 1) (H := H) (locs := locs) (ls := ls) (i := 0) (n := 0) (σ := s00 H.size) (by omega) rfl (by omega) hgs (by show H.size ≤ tpE E1; unfold tpE; omega) (by rw [hz1]; exact LP_00 _) (by rw [← hEE] at hl; rw [← hE1]; exact lv_sub hl [3, 2, 1, 0] rfl)
  rw [hsz] at this
  exact this
