/-! ===== each call: class and reference answer alike, and go on alike ===== -/
section
variable {n : Nat} {σ σ' : SS} {a : AS}
theorem RI.fr (h : RI σ a) (f : Fr σ σ') : RI σ' a := ⟨h.1.of (f 22 (by omega) (by omega)) (f 23 (by omega) (by omega)), h.2.1.of (f 21 (by omega) (by omega) 4) (f 24 (by omega) (by omega)) (f 25 (by omega) (by omega)), h.2.2.of (f 29 (by omega) (by omega)) (f 21 (by omega) (by omega) 9) (f 21 (by omega) (by omega) 11) (f 30 (by omega) (by omega))⟩
def LPz (Z n : Nat) (σ : SS) : Prop := ∃ (P : Nat → Prop) (a : AS), CI Z (200 * (n : Int)) σ P a ∧ RI σ a ∧ AW n a
theorem rcl_ok : ∀ i ∈ rcl, i < 64 ∧ 6 < i ∧ i ≠ 13 ∧ i ≠ 14 := fun i hi => by simp at hi; omega
variable {Z tp : Nat}
theorem lp_put {x1 x2 x3 : Int} (hB : BT Z tp 500000) (hn : n ≤ 1000) (h : LPz Z n σ) : wX8_put tp x1 x2 x3 σ (fun r σ1 => wX9_put x1 x2 x3 σ1 (fun r2 σ2 => r = r2 ∧ LPz Z (n + 1) σ2)) := by
  obtain ⟨P, a, hc, hr, hw⟩ := h
  exact cs_put hB (by omega) hc hw (by omega) (fun σ1 P1 c1 f1 => rs_put (hr.fr f1) hw (by omega) (fun σ2 r2 s2 => ⟨rfl, P1, _, (c1.sm s2 rcl_ok).rbu (by omega), r2, aw_put hw⟩))
theorem lp_remove {x1 x2 : Int} (hB : BT Z tp 500000) (hn : n ≤ 1000) (h : LPz Z n σ) : wX8_remove tp x1 x2 σ (fun r σ1 => wX9_remove x1 x2 σ1 (fun r2 σ2 => r = r2 ∧ LPz Z (n + 1) σ2)) := by
  obtain ⟨P, a, hc, hr, hw⟩ := h
  exact cs_remove hB (by omega) hc hw (by omega) (fun σ1 P1 c1 f1 => rs_remove (hr.fr f1) hw (by omega) (fun σ2 r2 s2 => ⟨rfl, P1, _, (c1.sm s2 rcl_ok).rbu (by omega), r2, aw_remove hw⟩))
theorem lp_get {x1 x2 : Int} (hB : BT Z tp 500000) (hn : n ≤ 1000) (h : LPz Z n σ) : wX8_get x1 x2 σ (fun r σ1 => wX9_get x1 x2 σ1 (fun r2 σ2 => r = r2 ∧ LPz Z (n + 1) σ2)) := by
  obtain ⟨P, a, hc, hr, hw⟩ := h
  exact cs_get hc hw (by omega) (fun σ1 P1 c1 f1 => rs_get (hr.fr f1) hw (by omega) (fun σ2 r2 s2 => ⟨rfl, P1, _, (c1.sm s2 rcl_ok).rbu (by omega), r2, aw_get hw⟩))
theorem lp_size {x1 : Int} (hB : BT Z tp 500000) (hn : n ≤ 1000) (h : LPz Z n σ) : wX8_size x1 σ (fun r σ1 => wX9_size x1 σ1 (fun r2 σ2 => r = r2 ∧ LPz Z (n + 1) σ2)) := by
  obtain ⟨P, a, hc, hr, hw⟩ := h
  exact cs_size hc hw (by omega) (fun σ1 P1 c1 f1 => rs_size (hr.fr f1) hw (by omega) (fun σ2 r2 s2 => ⟨rfl, P1, _, (c1.sm s2 rcl_ok).rbu (by omega), r2, aw_size hw⟩))
theorem lp_rank {x1 x2 : Int} (hB : BT Z tp 500000) (hn : n ≤ 1000) (h : LPz Z n σ) : wX8_rank x1 x2 σ (fun r σ1 => wX9_rank x1 x2 σ1 (fun r2 σ2 => r = r2 ∧ LPz Z (n + 1) σ2)) := by
  obtain ⟨P, a, hc, hr, hw⟩ := h
  exact cs_rank hc hw (by omega) (fun σ1 P1 c1 f1 => rs_rank (hr.fr f1) hw (by omega) (fun σ2 r2 s2 => ⟨rfl, P1, _, (c1.sm s2 rcl_ok).rbu (by omega), r2, aw_rank hw⟩))
theorem lp_nth {x1 x2 : Int} (hB : BT Z tp 500000) (hn : n ≤ 1000) (hi : R32 x2) (h : LPz Z n σ) : wX8_nth x1 x2 σ (fun r σ1 => wX9_nth x1 x2 σ1 (fun r2 σ2 => r = r2 ∧ LPz Z (n + 1) σ2)) := by
  obtain ⟨P, a, hc, hr, hw⟩ := h
  exact cs_nth hi hc hw (by omega) (fun σ1 P1 c1 f1 => rs_nth (hr.fr f1) hw (by omega) (fun σ2 r2 s2 => ⟨rfl, P1, _, (c1.sm s2 rcl_ok).rbu (by omega), r2, aw_nth hw⟩))
theorem lp_near {x1 x2 x3 : Int} (hB : BT Z tp 500000) (hn : n ≤ 1000) (h : LPz Z n σ) : wX8_near x1 x2 x3 σ (fun r σ1 => wX9_near x1 x2 x3 σ1 (fun r2 σ2 => r = r2 ∧ LPz Z (n + 1) σ2)) := by
  obtain ⟨P, a, hc, hr, hw⟩ := h
  exact cs_near hc hw (by omega) (fun σ1 P1 c1 f1 => rs_near (hr.fr f1) hw (by omega) (fun σ2 r2 s2 => ⟨rfl, P1, _, (c1.sm s2 rcl_ok).rbu (by omega), r2, aw_near hw⟩))
theorem lp_within {x1 x2 x3 : Int} (hB : BT Z tp 500000) (hn : n ≤ 1000) (h : LPz Z n σ) : wX8_within x1 x2 x3 σ (fun r σ1 => wX9_within x1 x2 x3 σ1 (fun r2 σ2 => r = r2 ∧ LPz Z (n + 1) σ2)) := by
  obtain ⟨P, a, hc, hr, hw⟩ := h
  exact cs_within hc hw (by omega) (fun σ1 P1 c1 f1 => rs_within (hr.fr f1) hw (by omega) (fun σ2 r2 s2 => ⟨rfl, P1, _, (c1.sm s2 rcl_ok).rbu (by omega), r2, aw_within hw⟩))
theorem lp_sum {x1 x2 x3 : Int} (hB : BT Z tp 500000) (hn : n ≤ 1000) (h : LPz Z n σ) : wX8_sum x1 x2 x3 σ (fun r σ1 => wX9_sum x1 x2 x3 σ1 (fun r2 σ2 => r = r2 ∧ LPz Z (n + 1) σ2)) := by
  obtain ⟨P, a, hc, hr, hw⟩ := h
  exact cs_sum hc hw (by omega) (fun σ1 P1 c1 f1 => rs_sum (hr.fr f1) hw (by omega) (fun σ2 r2 s2 => ⟨rfl, P1, _, (c1.sm s2 rcl_ok).rbu (by omega), r2, aw_sum hw⟩))
theorem lp_most {x1 x2 x3 x4 : Int} (hB : BT Z tp 500000) (hn : n ≤ 1000) (h : LPz Z n σ) : wX8_most x1 x2 x3 x4 σ (fun r σ1 => wX9_most x1 x2 x3 x4 σ1 (fun r2 σ2 => r = r2 ∧ LPz Z (n + 1) σ2)) := by
  obtain ⟨P, a, hc, hr, hw⟩ := h
  exact cs_most hc hw (by omega) (fun σ1 P1 c1 f1 => rs_most (hr.fr f1) hw (by omega) (fun σ2 r2 s2 => ⟨rfl, P1, _, (c1.sm s2 rcl_ok).rbu (by omega), r2, aw_most hw⟩))
theorem lp_middle {x1 x2 x3 : Int} (hB : BT Z tp 500000) (hn : n ≤ 1000) (h : LPz Z n σ) : wX8_middle x1 x2 x3 σ (fun r σ1 => wX9_middle x1 x2 x3 σ1 (fun r2 σ2 => r = r2 ∧ LPz Z (n + 1) σ2)) := by
  obtain ⟨P, a, hc, hr, hw⟩ := h
  exact cs_middle hc hw (by omega) (fun σ1 P1 c1 f1 => rs_middle (hr.fr f1) hw (by omega) (fun σ2 r2 s2 => ⟨rfl, P1, _, (c1.sm s2 rcl_ok).rbu (by omega), r2, aw_middle hw⟩))
theorem lp_gap {x1 : Int} (hB : BT Z tp 500000) (hn : n ≤ 1000) (h : LPz Z n σ) : wX8_gap x1 σ (fun r σ1 => wX9_gap x1 σ1 (fun r2 σ2 => r = r2 ∧ LPz Z (n + 1) σ2)) := by
  obtain ⟨P, a, hc, hr, hw⟩ := h
  exact cs_gap hc hw (by omega) (fun σ1 P1 c1 f1 => rs_gap (hr.fr f1) hw (by omega) (fun σ2 r2 s2 => ⟨rfl, P1, _, (c1.sm s2 rcl_ok).rbu (by omega), r2, aw_gap hw⟩))
theorem lp_top {x1 x2 : Int} (hB : BT Z tp 500000) (hn : n ≤ 1000) (h : LPz Z n σ) : wX8_top x1 x2 σ (fun r σ1 => wX9_top x1 x2 σ1 (fun r2 σ2 => r = r2 ∧ LPz Z (n + 1) σ2)) := by
  obtain ⟨P, a, hc, hr, hw⟩ := h
  exact cs_top hc hw (by omega) (fun σ1 P1 c1 f1 => rs_top (hr.fr f1) hw (by omega) (fun σ2 r2 s2 => ⟨rfl, P1, _, (c1.sm s2 rcl_ok).rbu (by omega), r2, aw_top hw⟩))
theorem lp_same {x1 x2 : Int} (hB : BT Z tp 500000) (hn : n ≤ 1000) (h : LPz Z n σ) : wX8_same x1 x2 σ (fun r σ1 => wX9_same x1 x2 σ1 (fun r2 σ2 => r = r2 ∧ LPz Z (n + 1) σ2)) := by
  obtain ⟨P, a, hc, hr, hw⟩ := h
  exact cs_same hc hw (by omega) (fun σ1 P1 c1 f1 => rs_same (hr.fr f1) hw (by omega) (fun σ2 r2 s2 => ⟨rfl, P1, _, (c1.sm s2 rcl_ok).rbu (by omega), r2, aw_same hw⟩))
theorem lp_common {x1 x2 : Int} (hB : BT Z tp 500000) (hn : n ≤ 1000) (h : LPz Z n σ) : wX8_common x1 x2 σ (fun r σ1 => wX9_common x1 x2 σ1 (fun r2 σ2 => r = r2 ∧ LPz Z (n + 1) σ2)) := by
  obtain ⟨P, a, hc, hr, hw⟩ := h
  exact cs_common hc hw (by omega) (fun σ1 P1 c1 f1 => rs_common (hr.fr f1) hw (by omega) (fun σ2 r2 s2 => ⟨rfl, P1, _, (c1.sm s2 rcl_ok).rbu (by omega), r2, aw_common hw⟩))
theorem lp_apart {x1 x2 : Int} (hB : BT Z tp 500000) (hn : n ≤ 1000) (h : LPz Z n σ) : wX8_apart x1 x2 σ (fun r σ1 => wX9_apart x1 x2 σ1 (fun r2 σ2 => r = r2 ∧ LPz Z (n + 1) σ2)) := by
  obtain ⟨P, a, hc, hr, hw⟩ := h
  exact cs_apart hc hw (by omega) (fun σ1 P1 c1 f1 => rs_apart (hr.fr f1) hw (by omega) (fun σ2 r2 s2 => ⟨rfl, P1, _, (c1.sm s2 rcl_ok).rbu (by omega), r2, aw_apart hw⟩))
theorem lp_cut {x1 x2 x3 : Int} (hB : BT Z tp 500000) (hn : n ≤ 1000) (h : LPz Z n σ) : wX8_cut tp x1 x2 x3 σ (fun r σ1 => wX9_cut x1 x2 x3 σ1 (fun r2 σ2 => r = r2 ∧ LPz Z (n + 1) σ2)) := by
  obtain ⟨P, a, hc, hr, hw⟩ := h
  exact cs_cut hB (by omega) hc hw (by omega) (fun σ1 P1 c1 f1 => rs_cut (hr.fr f1) hw (by omega) (fun σ2 r2 s2 => ⟨rfl, P1, _, (c1.sm s2 rcl_ok).rbu (by omega), r2, aw_cut hw⟩))
theorem lp_glue {x1 x2 : Int} (hB : BT Z tp 500000) (hn : n ≤ 1000) (h : LPz Z n σ) : wX8_glue tp x1 x2 σ (fun r σ1 => wX9_glue x1 x2 σ1 (fun r2 σ2 => r = r2 ∧ LPz Z (n + 1) σ2)) := by
  obtain ⟨P, a, hc, hr, hw⟩ := h
  exact cs_glue hB (by omega) hc hw (by omega) (fun σ1 P1 c1 f1 => rs_glue (hr.fr f1) hw (by omega) (fun σ2 r2 s2 => ⟨rfl, P1, _, (c1.sm s2 rcl_ok).rbu (by omega), r2, aw_glue hw⟩))
theorem lp_share {x1 x2 : Int} (hB : BT Z tp 500000) (hn : n ≤ 1000) (h : LPz Z n σ) : wX8_share x1 x2 σ (fun r σ1 => wX9_share x1 x2 σ1 (fun r2 σ2 => r = r2 ∧ LPz Z (n + 1) σ2)) := by
  obtain ⟨P, a, hc, hr, hw⟩ := h
  exact cs_share hc hw (by omega) (fun σ1 P1 c1 f1 => rs_share (hr.fr f1) hw (by omega) (fun σ2 r2 s2 => ⟨rfl, P1, _, (c1.sm s2 rcl_ok).rbu (by omega), r2, aw_share hw⟩))
theorem lp_mix {x1 x2 x3 x4 : Int} (hB : BT Z tp 500000) (hn : n ≤ 1000) (h : LPz Z n σ) : wX8_mix tp x1 x2 x3 x4 σ (fun r σ1 => wX9_mix x1 x2 x3 x4 σ1 (fun r2 σ2 => r = r2 ∧ LPz Z (n + 1) σ2)) := by
  obtain ⟨P, a, hc, hr, hw⟩ := h
  exact cs_mix2 hB (by omega) hc hw (by omega) (fun σ1 P1 c1 f1 => rs_mix (hr.fr f1) hw (by omega) (fun σ2 r2 s2 => ⟨rfl, P1, _, (c1.sm s2 rcl_ok).rbu (by omega), r2, aw_mix hw⟩))
theorem lp_fill {x1 x2 x3 x4 : Int} (hB : BT Z tp 500000) (hn : n ≤ 1000) (h : LPz Z n σ) : wX8_fill tp x1 x2 x3 x4 σ (fun r σ1 => wX9_fill x1 x2 x3 x4 σ1 (fun r2 σ2 => r = r2 ∧ LPz Z (n + 1) σ2)) := by
  obtain ⟨P, a, hc, hr, hw⟩ := h
  exact cs_fill hB (by omega) hc hw (by omega) (fun σ1 P1 c1 f1 => rs_fill (hr.fr f1) hw (by omega) (fun σ2 r2 s2 => ⟨rfl, P1, _, (c1.sm s2 rcl_ok).rbu (by omega), r2, aw_fill hw⟩))
theorem lp_sieve {x1 x2 x3 x4 : Int} (hB : BT Z tp 500000) (hn : n ≤ 1000) (h : LPz Z n σ) : wX8_sieve tp x1 x2 x3 x4 σ (fun r σ1 => wX9_sieve x1 x2 x3 x4 σ1 (fun r2 σ2 => r = r2 ∧ LPz Z (n + 1) σ2)) := by
  obtain ⟨P, a, hc, hr, hw⟩ := h
  exact cs_sieve hB (by omega) hc hw (by omega) (fun σ1 P1 c1 f1 => rs_sieve (hr.fr f1) hw (by omega) (fun σ2 r2 s2 => ⟨rfl, P1, _, (c1.sm s2 rcl_ok).rbu (by omega), r2, aw_sieve hw⟩))
theorem lp_raise {x1 x2 x3 x4 : Int} (hB : BT Z tp 500000) (hn : n ≤ 1000) (h : LPz Z n σ) : wX8_raise tp x1 x2 x3 x4 σ (fun r σ1 => wX9_raise x1 x2 x3 x4 σ1 (fun r2 σ2 => r = r2 ∧ LPz Z (n + 1) σ2)) := by
  obtain ⟨P, a, hc, hr, hw⟩ := h
  exact cs_raise hB (by omega) hc hw (by omega) (fun σ1 P1 c1 f1 => rs_raise (hr.fr f1) hw (by omega) (fun σ2 r2 s2 => ⟨rfl, P1, _, (c1.sm s2 rcl_ok).rbu (by omega), r2, aw_raise hw⟩))
theorem lp_slide {x1 x2 : Int} (hB : BT Z tp 500000) (hn : n ≤ 1000) (h : LPz Z n σ) : wX8_slide tp x1 x2 σ (fun r σ1 => wX9_slide x1 x2 σ1 (fun r2 σ2 => r = r2 ∧ LPz Z (n + 1) σ2)) := by
  obtain ⟨P, a, hc, hr, hw⟩ := h
  exact cs_slide hB (by omega) hc hw (by omega) (fun σ1 P1 c1 f1 => rs_slide (hr.fr f1) hw (by omega) (fun σ2 r2 s2 => ⟨rfl, P1, _, (c1.sm s2 rcl_ok).rbu (by omega), r2, aw_slide hw⟩))
theorem lp_zip {x1 x2 x3 : Int} (hB : BT Z tp 500000) (hn : n ≤ 1000) (h : LPz Z n σ) : wX8_zip tp x1 x2 x3 σ (fun r σ1 => wX9_zip x1 x2 x3 σ1 (fun r2 σ2 => r = r2 ∧ LPz Z (n + 1) σ2)) := by
  obtain ⟨P, a, hc, hr, hw⟩ := h
  exact cs_zip hB (by omega) hc hw (by omega) (fun σ1 P1 c1 f1 => rs_zip (hr.fr f1) hw (by omega) (fun σ2 r2 s2 => ⟨rfl, P1, _, (c1.sm s2 rcl_ok).rbu (by omega), r2, aw_zip hw⟩))
theorem lp_clears {x1 x2 x3 : Int} (hB : BT Z tp 500000) (hn : n ≤ 1000) (h : LPz Z n σ) : wX8_clears tp x1 x2 x3 σ (fun r σ1 => wX9_clears x1 x2 x3 σ1 (fun r2 σ2 => r = r2 ∧ LPz Z (n + 1) σ2)) := by
  obtain ⟨P, a, hc, hr, hw⟩ := h
  exact cs_clears hB (by omega) hc hw (by omega) (fun σ1 P1 c1 f1 => rs_clears (hr.fr f1) hw (by omega) (fun σ2 r2 s2 => ⟨rfl, P1, _, (c1.sm s2 rcl_ok).rbu (by omega), r2, aw_clears hw⟩))
theorem lp_scatter {x1 x2 x3 : Int} (hB : BT Z tp 500000) (hn : n ≤ 1000) (h : LPz Z n σ) : wX8_scatter tp x1 x2 x3 σ (fun r σ1 => wX9_scatter x1 x2 x3 σ1 (fun r2 σ2 => r = r2 ∧ LPz Z (n + 1) σ2)) := by
  obtain ⟨P, a, hc, hr, hw⟩ := h
  exact cs_scatter hB (by omega) hc hw (by omega) (fun σ1 P1 c1 f1 => rs_scatter (hr.fr f1) hw (by omega) (fun σ2 r2 s2 => ⟨rfl, P1, _, (c1.sm s2 rcl_ok).rbu (by omega), r2, aw_scatter hw⟩))
theorem lp_sound {x1 : Int} (hB : BT Z tp 500000) (hn : n ≤ 1000) (h : LPz Z n σ) : wX8_sound x1 σ (fun r σ1 => wX9_sound x1 σ1 (fun r2 σ2 => r = r2 ∧ LPz Z (n + 1) σ2)) := by
  obtain ⟨P, a, hc, hr, hw⟩ := h
  exact cs_sound hc hw (by omega) (fun σ1 P1 c1 f1 => rs_sound (hr.fr f1) hw (by omega) (fun σ2 r2 s2 => ⟨rfl, P1, _, (c1.sm s2 rcl_ok).rbu (by omega), r2, aw_sound hw⟩))
theorem lp_mixer {x1 : Int} (hB : BT Z tp 500000) (hn : n ≤ 1000) (h : LPz Z n σ) : wX8_mixer x1 σ (fun r σ1 => wX9_mixer x1 σ1 (fun r2 σ2 => r = r2 ∧ LPz Z (n + 1) σ2)) := by
  obtain ⟨P, a, hc, hr, hw⟩ := h
  exact cs_mixer hc hw (by omega) (fun σ1 P1 c1 f1 => rs_mixer (hr.fr f1) hw (by omega) (fun σ2 r2 s2 => ⟨rfl, P1, _, (c1.sm s2 rcl_ok).rbu (by omega), r2, aw_mixer hw⟩))
theorem lp_type {x1 : Int} (hB : BT Z tp 500000) (hn : n ≤ 1000) (h : LPz Z n σ) : wX8_type x1 σ (fun r σ1 => wX9_type x1 σ1 (fun r2 σ2 => r = r2 ∧ LPz Z (n + 1) σ2)) := by
  obtain ⟨P, a, hc, hr, hw⟩ := h
  exact cs_type hc hw (by omega) (fun σ1 P1 c1 f1 => rs_type (hr.fr f1) hw (by omega) (fun σ2 r2 s2 => ⟨rfl, P1, _, (c1.sm s2 rcl_ok).rbu (by omega), r2, aw_type hw⟩))
theorem lp_clear (hB : BT Z tp 500000) (hn : n ≤ 1000) (h : LPz Z n σ) : wX8_clear σ (fun r σ1 => wX9_clear σ1 (fun r2 σ2 => r = r2 ∧ LPz Z (n + 1) σ2)) := by
  obtain ⟨P, a, hc, hr, hw⟩ := h
  exact cs_clear hc (fun σ1 P1 c1 f1 => rs_clear (hr.fr f1) (fun σ2 r2 s2 => ⟨rfl, P1, _, (c1.sm s2 rcl_ok).rbu (by omega), r2, aw_clear hw⟩))
theorem lp_sums (hB : BT Z tp 500000) (hn : n ≤ 1000) (h : LPz Z n σ) : wX8_sums tp σ (fun r σ1 => wX9_sums σ1 (fun r2 σ2 => r = r2 ∧ LPz Z (n + 1) σ2)) := by
  obtain ⟨P, a, hc, hr, hw⟩ := h
  exact cs_sums hB (by omega) hc hw (by omega) (fun σ1 P1 c1 f1 => rs_sums (hr.fr f1) hw (by omega) (fun σ2 r2 s2 => ⟨rfl, P1, _, (c1.sm s2 rcl_ok).rbu (by omega), r2, aw_sums hw⟩))
theorem lp_back (hB : BT Z tp 500000) (hn : n ≤ 1000) (h : LPz Z n σ) : wX8_back σ (fun r σ1 => wX9_back σ1 (fun r2 σ2 => r = r2 ∧ LPz Z (n + 1) σ2)) := by
  obtain ⟨P, a, hc, hr, hw⟩ := h
  exact cs_back hc hw (by omega) (fun σ1 P1 c1 f1 => rs_back (hr.fr f1) hw (by omega) (fun σ2 r2 s2 => ⟨rfl, P1, _, (c1.sm s2 rcl_ok).rbu (by omega), r2, aw_back hw⟩))
theorem lp_told {x1 : Int} (hB : BT Z tp 500000) (hn : n ≤ 1000) (h : LPz Z n σ) : wX8_told x1 σ (fun r σ1 => wX9_told x1 σ1 (fun r2 σ2 => r = r2 ∧ LPz Z (n + 1) σ2)) := by
  obtain ⟨P, a, hc, hr, hw⟩ := h
  exact cs_told hc hw (by omega) (fun σ1 P1 c1 f1 => rs_told (hr.fr f1) hw (by omega) (fun σ2 r2 s2 => ⟨rfl, P1, _, (c1.sm s2 rcl_ok).rbu (by omega), r2, aw_told hw⟩))
theorem lp_digest (hB : BT Z tp 500000) (hn : n ≤ 1000) (h : LPz Z n σ) : wX8_digest σ (fun r σ1 => wX9_digest σ1 (fun r2 σ2 => r = r2 ∧ LPz Z (n + 1) σ2)) := by
  obtain ⟨P, a, hc, hr, hw⟩ := h
  exact cs_digest hc hw (fun σ1 P1 c1 f1 => rs_digest (hr.fr f1) hw (fun σ2 r2 s2 => ⟨rfl, P1, _, (c1.sm s2 rcl_ok).rbu (by omega), r2, aw_digest hw⟩))
end
