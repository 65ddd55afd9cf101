theorem hdX8_clears : yX8_clears.cls ≠ "java/lang/invoke/MethodHandle" ∧ yX8_clears.cls ≠ "java/lang/invoke/VarHandle" ∧ (parseMethodDescriptor yX8_clears.desc).map (fun d => d.parameters.length) = some 3 := by decide +kernel
set_option maxRecDepth 100000 in
set_option maxHeartbeats 4000000 in
theorem ctX8_clears (l : Launch) (E : Ev) (tp : Nat) (a1 : Int) (a2 : Int) (a3 : Int) (σ : SS) (Q : Int → SS → Prop) (ha1 : R32 a1) (ha2 : R32 a2) (ha3 : R32 a3) (ht : sz σ ≤ tp) (h : wX8_clears tp a1 a2 a3 σ Q) : Met l yX8_clears wsX8_clears ({ frames := 96, cells := tp - sz σ, slots := 9 * (tp - sz σ), locals := 2454 } : Room) (Pc E σ [.ref (ea E 0), .int (iI (a1)), .int (iI (a2)), .int (iI (a3))]) (Qi E tp σ Q) (tp - sz σ) (9 * (tp - sz σ)) (Av E) := by
  rw [wX8_clears] at h
  refine Met.ofW (cc := cX8_clears) (maxL := 5) (ret := (some .int)) (by decide) rfl ?_
  intro p e s m args below meth c s₁ B hml hv
  obtain ⟨rfl, hH, hK, hN⟩ := hv
  have hx := B.exec
  have hb := B.bytes
  have hr := B.returns
  have hts := atoms_spec (ws := wsX8_clears) B.pre
  have hown : s.vm.findClass RX8 = some m.cls := findClass_of_methodNamed B.named
  have hlocks := B.notSynchronized
  have hg : GS E σ s s.heap [] := ⟨hH, va_S.rf⟩
  have hm : Mo tp σ σ := Mo.rf ht
  have hl := ent (vs := [.ref (ea E 0), .int (iI (a1)), .int (iI (a2)), .int (iI (a3))]) (n := 5) (cats_x (cats_i (cats_i (cats_i cats_nil)))) (Nat.le_of_ble_eq_true rfl)
  rw [lg_entry_eq]
  generalize (lg_sl ([.ref (ea E 0), .int (iI (a1)), .int (iI (a2)), .int (iI (a3))]) ++ List.replicate (5 - (lg_sl ([.ref (ea E 0), .int (iI (a1)), .int (iI (a2)), .int (iI (a3))])).length) Slot.unset).toArray = ls at hl ⊢
  have hl : lv_has ls 5 [(0, .ref (ea E 0)), (1, .int (iI (a1))), (2, .int (iI (a2))), (3, .int (iI (a3)))] := hl
  refine W_narrow hg hH (show sz σ ≤ sz σ + (sz σ - sz σ) by omega) (show 9 * (sz σ - sz σ) ≤ 9 * (sz σ - sz σ) from Nat.le_refl _) ?_
  refine lv_iload_n hx hb dX8_clears_0 rfl (lv_at hl 1 rfl) ?_
  refine call_z (run_S (As := [.int (iI (a1))]) (rest := []) ⟨hx, hb, hml, hown, hts⟩ (ctX8_isMap l E a1 σ _ ha1 h) (va_cwS 1 hts gX8_clears_X8_isMap rfl rfl rfl hdX8_isMap ⟨Nat.le_of_ble_eq_true rfl, Nat.le_of_ble_eq_true rfl⟩) hK hN hg rfl hl.1 rfl (cat_sum _ (by simp)) dX8_clears_1 (show (sz σ - sz σ) + 0 ≤ tp - sz σ ∧ 9 * (sz σ - sz σ) + 0 ≤ 9 * (tp - sz σ) by have q1 := hm.2.1; have q2 := hm.2.2; omega)) hg (fun r2 s1 H locs hz3 hm2 h hg => ?_)
  have hm := hm.tn hm2
  refine W_narrow hg hH (show sz s1 ≤ sz σ + (sz s1 - sz σ) by have q1 := hm.2.1; omega) (Nat.le_refl _) ?_
  refine k_eq (tgt := 15) hx hb dX8_clears_4 (by decide) (z_R hz3) (fun c4 => ?_) (fun c4 => ?_)
  · have h := h.1 c4
    refine lv_aload_n hx hb dX8_clears_15 rfl (lv_at hl 0 rfl) ?_
    refine call_i (run_V (a := ea E 0) (As := []) (rest := []) ⟨hx, hb, hml, hown, hts⟩ (ctX8_bad l E  s1 _  h) (cwV 0 hts gX8_clears_X8_bad rfl rfl rfl ⟨rfl, hdX8_bad⟩ ⟨Nat.le_of_ble_eq_true rfl, Nat.le_of_ble_eq_true rfl⟩) hK hN hg (recv_x (ci := 8) (C := RX8) (T := TX8) (N := 14) hg hK (by decide) rfl (by decide) rfl) rfl hl.1 rfl (cat_sum _ (by simp)) dX8_clears_16 (show (sz s1 - sz σ) + 0 ≤ tp - sz σ ∧ 9 * (sz s1 - sz σ) + 0 ≤ 9 * (tp - sz σ) by have q1 := hm.2.1; have q2 := hm.2.2; omega)) hg (fun r6 s5 H locs hz7 hm2 h hg => ?_)
    have hm := hm.tn hm2
    refine W_narrow hg hH (show sz s5 ≤ sz σ + (sz s5 - sz σ) by have q1 := hm.2.1; omega) (Nat.le_refl _) ?_
    refine W.widen (k := tp - sz σ) (n := 9 * (tp - sz σ)) (show sz s5 - sz σ ≤ _ by have q1 := hm.2.2; omega) (show 9 * (sz s5 - sz σ) ≤ _ by have q1 := hm.2.2; omega) ?_
    exact ret_i hx hb hr hlocks hg hz7 hm h dX8_clears_19
  · have h := h.2 c4
    refine lv_iload_n hx hb dX8_clears_7 rfl (lv_at hl 2 rfl) ?_
    refine lv_iload_n hx hb dX8_clears_8 rfl (lv_at hl 3 rfl) ?_
    refine call_z (run_S (As := [.int (iI (a2)), .int (iI (a3))]) (rest := []) ⟨hx, hb, hml, hown, hts⟩ (ctX8_isRange l E a2 a3 s1 _ ha2 ha3 h) (va_cwS 2 hts gX8_clears_X8_isRange rfl rfl rfl hdX8_isRange ⟨Nat.le_of_ble_eq_true rfl, Nat.le_of_ble_eq_true rfl⟩) hK hN hg rfl hl.1 rfl (cat_sum _ (by simp)) dX8_clears_9 (show (sz s1 - sz σ) + 0 ≤ tp - sz σ ∧ 9 * (sz s1 - sz σ) + 0 ≤ 9 * (tp - sz σ) by have q1 := hm.2.1; have q2 := hm.2.2; omega)) hg (fun r9 s8 H locs hz10 hm2 h hg => ?_)
    have hm := hm.tn hm2
    refine W_narrow hg hH (show sz s8 ≤ sz σ + (sz s8 - sz σ) by have q1 := hm.2.1; omega) (Nat.le_refl _) ?_
    refine k_ne (tgt := 20) hx hb dX8_clears_12 (by decide) (z_R hz10) (fun c11 => ?_) (fun c11 => ?_)
    · have h := h.1 c11
      refine lv_aload_n hx hb dX8_clears_20 rfl (lv_at hl 0 rfl) ?_
      refine q_getx (ci := 8) (C := RX8) (T := TX8) (N := 14) (j := 3) hx hb hts (fun _ h9 => List.mem_cons_of_mem _ (List.mem_append_left _ (List.mem_append_left _ (List.mem_append_left _ (List.mem_append_left _ (List.mem_append_right _ h9)))))) hown hK hg 0 (by decide) rfl rfl (by decide) rfl 2 (by decide) (hts (.fieldLink RX8 27 "JoinMaps" "maps" "[LJoinMaps$Node;") (List.mem_cons_of_mem _ (List.mem_append_left _ (List.mem_append_left _ (List.mem_append_left _ (List.mem_append_left _ (List.mem_append_left _ (List.mem_append_left _ (List.mem_of_getElem? (i := 0) rfl))))))))) rfl rfl rfl dX8_clears_21 ?_
      refine lv_iload_n hx hb dX8_clears_24 rfl (lv_at hl 1 rfl) ?_
      obtain ⟨hP12, hP13, h⟩ := h
      refine q_aald (N := 6) hx hb hK hg 3 (by decide) rfl rfl hP12 hP13 (by decide) dX8_clears_25 ?_
      have hS14 : ∀ b, (sf s8 3 (a1 : Int).toNat) = some b → sS s8 b := fun b h0 => GS_F hg h0
      refine lv_iload_n hx hb dX8_clears_26 rfl (lv_at hl 2 rfl) ?_
      refine lv_iload_n hx hb dX8_clears_27 rfl (lv_at hl 3 rfl) ?_
      refine call_i (run_S (As := [va_rf ((sf s8 3 (a1 : Int).toNat)), .int (iI (a2)), .int (iI (a3))]) (rest := []) ⟨hx, hb, hml, hown, hts⟩ (ctX3_countWithin l E (sf s8 3 (a1 : Int).toNat) a2 a3 s8 _ hS14 ha2 ha3 h) (va_cwS 3 hts gX8_clears_X3_countWithin rfl rfl rfl hdX3_countWithin ⟨Nat.le_of_ble_eq_true rfl, Nat.le_of_ble_eq_true rfl⟩) hK hN hg rfl hl.1 rfl (cat_sum _ (by simp)) dX8_clears_28 (show (sz s8 - sz σ) + 0 ≤ tp - sz σ ∧ 9 * (sz s8 - sz σ) + 0 ≤ 9 * (tp - sz σ) by have q1 := hm.2.1; have q2 := hm.2.2; omega)) hg (fun r16 s15 H locs hz17 hm2 h hg => ?_)
      have hm := hm.tn hm2
      refine W_narrow hg hH (show sz s15 ≤ sz σ + (sz s15 - sz σ) by have q1 := hm.2.1; omega) (Nat.le_refl _) ?_
      refine lv_istore (i := 4) (lv' := [(4, .int (iI (r16))), (0, .ref (ea E 0)), (1, .int (iI (a1))), (2, .int (iI (a2))), (3, .int (iI (a3)))]) hx hb dX8_clears_31 hl (by decide) rfl (fun ls hl => ?_)
      refine lv_aload_n hx hb dX8_clears_33 rfl (lv_at hl 1 rfl) ?_
      refine call_v (run_V (a := ea E 0) (As := []) (rest := []) ⟨hx, hb, hml, hown, hts⟩ (ctX8_startChange l E  s15 _  h) (cwV 0 hts gX8_clears_X8_startChange rfl rfl rfl ⟨rfl, hdX8_startChange⟩ ⟨Nat.le_of_ble_eq_true rfl, Nat.le_of_ble_eq_true rfl⟩) hK hN hg (recv_x (ci := 8) (C := RX8) (T := TX8) (N := 14) hg hK (by decide) rfl (by decide) rfl) rfl hl.1 rfl (cat_sum _ (by simp)) dX8_clears_34 (show (sz s15 - sz σ) + 0 ≤ tp - sz σ ∧ 9 * (sz s15 - sz σ) + 0 ≤ 9 * (tp - sz σ) by have q1 := hm.2.1; have q2 := hm.2.2; omega)) hg (fun s18 H locs hm2 h hg => ?_)
      have hm := hm.tn hm2
      refine W_narrow hg hH (show sz s18 ≤ sz σ + (sz s18 - sz σ) by have q1 := hm.2.1; omega) (Nat.le_refl _) ?_
      refine lv_aload_n hx hb dX8_clears_37 rfl (lv_at hl 1 rfl) ?_
      refine lv_iload_n hx hb dX8_clears_38 rfl (lv_at hl 2 rfl) ?_
      refine lv_aload_n hx hb dX8_clears_39 rfl (lv_at hl 1 rfl) ?_
      refine q_getx (ci := 8) (C := RX8) (T := TX8) (N := 14) (j := 1) hx hb hts (fun _ h9 => List.mem_cons_of_mem _ (List.mem_append_left _ (List.mem_append_left _ (List.mem_append_left _ (List.mem_append_left _ (List.mem_append_right _ h9)))))) hown hK hg 0 (by decide) rfl rfl (by decide) rfl 0 (by decide) (hts (.fieldLink RX8 10 "JoinMaps" "grove" "LJoinMaps$Grove;") (List.mem_cons_of_mem _ (List.mem_append_left _ (List.mem_append_left _ (List.mem_append_left _ (List.mem_append_left _ (List.mem_append_left _ (List.mem_append_left _ (List.mem_of_getElem? (i := 1) rfl))))))))) rfl rfl rfl dX8_clears_40 ?_
      refine lv_aload_n hx hb dX8_clears_43 rfl (lv_at hl 1 rfl) ?_
      refine q_getx (ci := 8) (C := RX8) (T := TX8) (N := 14) (j := 3) hx hb hts (fun _ h9 => List.mem_cons_of_mem _ (List.mem_append_left _ (List.mem_append_left _ (List.mem_append_left _ (List.mem_append_left _ (List.mem_append_right _ h9)))))) hown hK hg 0 (by decide) rfl rfl (by decide) rfl 2 (by decide) (hts (.fieldLink RX8 27 "JoinMaps" "maps" "[LJoinMaps$Node;") (List.mem_cons_of_mem _ (List.mem_append_left _ (List.mem_append_left _ (List.mem_append_left _ (List.mem_append_left _ (List.mem_append_left _ (List.mem_append_left _ (List.mem_of_getElem? (i := 0) rfl))))))))) rfl rfl rfl dX8_clears_44 ?_
      refine lv_iload_n hx hb dX8_clears_47 rfl (lv_at hl 2 rfl) ?_
      obtain ⟨hP21, hP22, h⟩ := h
      refine q_aald (N := 6) hx hb hK hg 3 (by decide) rfl rfl hP21 hP22 (by decide) dX8_clears_48 ?_
      have hS23 : ∀ b, (sf s18 3 (a1 : Int).toNat) = some b → sS s18 b := fun b h0 => GS_F hg h0
      refine lv_iload_n hx hb dX8_clears_49 rfl (lv_at hl 3 rfl) ?_
      refine lv_iload_n hx hb dX8_clears_50 rfl (lv_at hl 4 rfl) ?_
      refine call_r (run_V (a := ea E 1) (As := [va_rf ((sf s18 3 (a1 : Int).toNat)), .int (iI (a2)), .int (iI (a3))]) (rest := [.int (iI (a1)), .ref (ea E 0)]) ⟨hx, hb, hml, hown, hts⟩ (ctX2_without l E tp (sf s18 3 (a1 : Int).toNat) a2 a3 s18 _ hS23 ha2 ha3 hm.2.2 h) (cwV 3 hts gX8_clears_X2_without rfl rfl rfl ⟨rfl, hdX2_without⟩ ⟨Nat.le_of_ble_eq_true rfl, Nat.le_of_ble_eq_true rfl⟩) hK hN hg (recv_x (ci := 2) (C := RX2) (T := TX2) (N := 4) hg hK (by decide) rfl (by decide) rfl) rfl hl.1 rfl (cat_sum _ (by simp)) dX8_clears_51 (show (sz s18 - sz σ) + (tp - sz s18) ≤ tp - sz σ ∧ 9 * (sz s18 - sz σ) + 9 * (tp - sz s18) ≤ 9 * (tp - sz σ) by have q1 := hm.2.1; have q2 := hm.2.2; omega)) hg (fun r25 s24 H locs hz26 hm2 h hg => ?_)
      have hm := hm.ta hm2
      refine W_narrow hg hH (show sz s24 ≤ sz σ + (sz s24 - sz σ) by have q1 := hm.2.1; omega) (Nat.le_refl _) ?_
      refine call_i (run_V (a := ea E 0) (As := [.int (iI (a1)), va_rf (r25)]) (rest := []) ⟨hx, hb, hml, hown, hts⟩ (ctX8_settle l E a1 r25 s24 _ ha1 hz26 h) (cwV 2 hts gX8_clears_X8_settle rfl rfl rfl ⟨rfl, hdX8_settle⟩ ⟨Nat.le_of_ble_eq_true rfl, Nat.le_of_ble_eq_true rfl⟩) hK hN hg (recv_x (ci := 8) (C := RX8) (T := TX8) (N := 14) hg hK (by decide) rfl (by decide) rfl) rfl hl.1 rfl (cat_sum _ (by simp)) dX8_clears_54 (show (sz s24 - sz σ) + 0 ≤ tp - sz σ ∧ 9 * (sz s24 - sz σ) + 0 ≤ 9 * (tp - sz σ) by have q1 := hm.2.1; have q2 := hm.2.2; omega)) hg (fun r28 s27 H locs hz29 hm2 h hg => ?_)
      have hm := hm.tn hm2
      refine W_narrow hg hH (show sz s27 ≤ sz σ + (sz s27 - sz σ) by have q1 := hm.2.1; omega) (Nat.le_refl _) ?_
      refine lv_pop hx hb dX8_clears_57 rfl ?_
      refine lv_iload hx hb dX8_clears_58 (lv_at hl 0 rfl) ?_
      refine W.widen (k := tp - sz σ) (n := 9 * (tp - sz σ)) (show sz s27 - sz σ ≤ _ by have q1 := hm.2.2; omega) (show 9 * (sz s27 - sz σ) ≤ _ by have q1 := hm.2.2; omega) ?_
      exact ret_i hx hb hr hlocks hg hz17 hm h dX8_clears_60
    · have h := h.2 c11
      refine lv_aload_n hx hb dX8_clears_15 rfl (lv_at hl 0 rfl) ?_
      refine call_i (run_V (a := ea E 0) (As := []) (rest := []) ⟨hx, hb, hml, hown, hts⟩ (ctX8_bad l E  s8 _  h) (cwV 0 hts gX8_clears_X8_bad rfl rfl rfl ⟨rfl, hdX8_bad⟩ ⟨Nat.le_of_ble_eq_true rfl, Nat.le_of_ble_eq_true rfl⟩) hK hN hg (recv_x (ci := 8) (C := RX8) (T := TX8) (N := 14) hg hK (by decide) rfl (by decide) rfl) rfl hl.1 rfl (cat_sum _ (by simp)) dX8_clears_16 (show (sz s8 - sz σ) + 0 ≤ tp - sz σ ∧ 9 * (sz s8 - sz σ) + 0 ≤ 9 * (tp - sz σ) by have q1 := hm.2.1; have q2 := hm.2.2; omega)) hg (fun r31 s30 H locs hz32 hm2 h hg => ?_)
      have hm := hm.tn hm2
      refine W_narrow hg hH (show sz s30 ≤ sz σ + (sz s30 - sz σ) by have q1 := hm.2.1; omega) (Nat.le_refl _) ?_
      refine W.widen (k := tp - sz σ) (n := 9 * (tp - sz σ)) (show sz s30 - sz σ ≤ _ by have q1 := hm.2.2; omega) (show 9 * (sz s30 - sz σ) ≤ _ by have q1 := hm.2.2; omega) ?_
      exact ret_i hx hb hr hlocks hg hz32 hm h dX8_clears_19
theorem hdX8_scatter : yX8_scatter.cls ≠ "java/lang/invoke/MethodHandle" ∧ yX8_scatter.cls ≠ "java/lang/invoke/VarHandle" ∧ (parseMethodDescriptor yX8_scatter.desc).map (fun d => d.parameters.length) = some 3 := by decide +kernel
set_option maxRecDepth 100000 in
set_option maxHeartbeats 4000000 in
theorem ctX8_scatter (l : Launch) (E : Ev) (tp : Nat) (a1 : Int) (a2 : Int) (a3 : Int) (σ : SS) (Q : Int → SS → Prop) (ha1 : R32 a1) (ha2 : R32 a2) (ha3 : R32 a3) (ht : sz σ ≤ tp) (h : wX8_scatter tp a1 a2 a3 σ Q) : Met l yX8_scatter wsX8_scatter ({ frames := 96, cells := tp - sz σ, slots := 9 * (tp - sz σ), locals := 2454 } : Room) (Pc E σ [.ref (ea E 0), .int (iI (a1)), .int (iI (a2)), .int (iI (a3))]) (Qi E tp σ Q) (tp - sz σ) (9 * (tp - sz σ)) (Av E) := by
  rw [wX8_scatter] at h
  refine Met.ofW (cc := cX8_scatter) (maxL := 9) (ret := (some .int)) (by decide) rfl ?_
  intro p e s m args below meth c s₁ B hml hv
  obtain ⟨rfl, hH, hK, hN⟩ := hv
  have hx := B.exec
  have hb := B.bytes
  have hr := B.returns
  have hts := atoms_spec (ws := wsX8_scatter) B.pre
  have hown : s.vm.findClass RX8 = some m.cls := findClass_of_methodNamed B.named
  have hlocks := B.notSynchronized
  have hg : GS E σ s s.heap [] := ⟨hH, va_S.rf⟩
  have hm : Mo tp σ σ := Mo.rf ht
  have hl := ent (vs := [.ref (ea E 0), .int (iI (a1)), .int (iI (a2)), .int (iI (a3))]) (n := 9) (cats_x (cats_i (cats_i (cats_i cats_nil)))) (Nat.le_of_ble_eq_true rfl)
  rw [lg_entry_eq]
  generalize (lg_sl ([.ref (ea E 0), .int (iI (a1)), .int (iI (a2)), .int (iI (a3))]) ++ List.replicate (9 - (lg_sl ([.ref (ea E 0), .int (iI (a1)), .int (iI (a2)), .int (iI (a3))])).length) Slot.unset).toArray = ls at hl ⊢
  have hl : lv_has ls 9 [(0, .ref (ea E 0)), (1, .int (iI (a1))), (2, .int (iI (a2))), (3, .int (iI (a3)))] := hl
  refine W_narrow hg hH (show sz σ ≤ sz σ + (sz σ - sz σ) by omega) (show 9 * (sz σ - sz σ) ≤ 9 * (sz σ - sz σ) from Nat.le_refl _) ?_
  have J51 : ∀ (k : Nat), ∀ (v4 : Option Nat) (v5 : Int) (v7 : Int) (sL : SS) (H : Heap) (locs : List Loc) (ls : Array Slot), (∀ b, v4 = some b → sS sL b) → GS E sL s H locs → Mo tp σ sL → lv_has ls 9 [(0, .ref (ea E 0)), (1, .int (iI (a1))), (3, .int (iI (a3))), (4, va_rf (v4)), (5, .long (lI (v5))), (7, .int (iI (v7)))] → wX8_scatter_L51 tp a1 a2 a3 Q  k v4 v5 v7 sL → W p l e (headSpec wsX8_scatter ({ frames := 96, cells := tp - sz σ, slots := 9 * (tp - sz σ), locals := 2454 } : Room)).room s m (List.toArray [.ref (ea E 0), .int (iI (a1)), .int (iI (a2)), .int (iI (a3))]) below meth c H locs (sz sL - sz σ) (9 * (sz sL - sz σ)) (MQ below (Qi E tp σ Q) (List.toArray [.ref (ea E 0), .int (iI (a1)), .int (iI (a2)), .int (iI (a3))]) s (tp - sz σ) (9 * (tp - sz σ)) (Av E)) (F0 m 51 ls []) := by
    intro k
    induction k with
    | zero => intro v4 v5 v7 sL H locs ls mv4 hg hm hl h; exact False.elim h
    | succ k ih =>
      intro v4 v5 v7 sL H locs ls mv4 hg hm hl h
      rw [wX8_scatter_L51] at h
      refine lv_iload hx hb dX8_scatter_51 (lv_at hl 5 rfl) ?_
      refine lv_iload_n hx hb dX8_scatter_53 rfl (lv_at hl 2 rfl) ?_
      obtain ⟨hR28, h⟩ := h
      refine j_ge (tgt := 167) hx hb dX8_scatter_54 (by decide) hR28 ha3 (fun c29 => ?_) (fun c29 => ?_)
      · have h := h.1 c29
        refine lv_aload_n hx hb dX8_scatter_167 rfl (lv_at hl 0 rfl) ?_
        refine lv_iload_n hx hb dX8_scatter_168 rfl (lv_at hl 1 rfl) ?_
        refine q_aload hx hb dX8_scatter_169 (lv_at hl 3 rfl) ?_
        refine call_i (run_V (a := ea E 0) (As := [.int (iI (a1)), va_rf (v4)]) (rest := []) ⟨hx, hb, hml, hown, hts⟩ (ctX8_settle l E a1 v4 sL _ ha1 mv4 h) (cwV 2 hts gX8_scatter_X8_settle rfl rfl rfl ⟨rfl, hdX8_settle⟩ ⟨Nat.le_of_ble_eq_true rfl, Nat.le_of_ble_eq_true rfl⟩) hK hN hg (recv_x (ci := 8) (C := RX8) (T := TX8) (N := 14) hg hK (by decide) rfl (by decide) rfl) rfl hl.1 rfl (cat_sum _ (by simp)) dX8_scatter_171 (show (sz sL - sz σ) + 0 ≤ tp - sz σ ∧ 9 * (sz sL - sz σ) + 0 ≤ 9 * (tp - sz σ) by have q1 := hm.2.1; have q2 := hm.2.2; omega)) hg (fun r31 s30 H locs hz32 hm2 h hg => ?_)
        have hS33 : ∀ b, v4 = some b → sS s30 b := (fun b h0 => hm2.1 b (mv4 b h0))
        have hm := hm.tn hm2
        refine W_narrow hg hH (show sz s30 ≤ sz σ + (sz s30 - sz σ) by have q1 := hm.2.1; omega) (Nat.le_refl _) ?_
        refine W.widen (k := tp - sz σ) (n := 9 * (tp - sz σ)) (show sz s30 - sz σ ≤ _ by have q1 := hm.2.2; omega) (show 9 * (sz s30 - sz σ) ≤ _ by have q1 := hm.2.2; omega) ?_
        exact ret_i hx hb hr hlocks hg hz32 hm h dX8_scatter_174
      · have h := h.2 c29
        refine lv_lload hx hb dX8_scatter_57 (lv_at hl 4 rfl) ?_
        refine q_ldc2 (z := 1103515245) hx hb hown (hts (.constantLong RX8 210 (1103515245)) (List.mem_cons_of_mem _ (List.mem_append_left _ (List.mem_append_left _ (List.mem_append_left _ (List.mem_append_left _ (List.mem_append_left _ (List.mem_append_left _ (List.mem_of_getElem? (i := 2) rfl))))))))) (by decide) dX8_scatter_59 ?_
        refine q_lmul hx hb dX8_scatter_62 ?_
        refine q_ldc2 (z := 12345) hx hb hown (hts (.constantLong RX8 212 (12345)) (List.mem_cons_of_mem _ (List.mem_append_left _ (List.mem_append_left _ (List.mem_append_left _ (List.mem_append_left _ (List.mem_append_left _ (List.mem_append_left _ (List.mem_of_getElem? (i := 3) rfl))))))))) (by decide) dX8_scatter_63 ?_
        refine q_ladd hx hb dX8_scatter_66 ?_
        refine q_ldc2 (z := 2147483648) hx hb hown (hts (.constantLong RX8 214 (2147483648)) (List.mem_cons_of_mem _ (List.mem_append_left _ (List.mem_append_left _ (List.mem_append_left _ (List.mem_append_left _ (List.mem_append_left _ (List.mem_append_left _ (List.mem_of_getElem? (i := 4) rfl))))))))) (by decide) dX8_scatter_67 ?_
        obtain ⟨hR34, hP35, h⟩ := h
        refine q_lrem hx hb hR34 hP35 (by decide) (by decide) dX8_scatter_70 ?_
        refine lv_lstore (i := 5) (lv' := [(5, .long (lI ((((v5 * 1103515245) + 12345) % 2147483648)))), (0, .ref (ea E 0)), (1, .int (iI (a1))), (3, .int (iI (a3))), (4, va_rf (v4)), (7, .int (iI (v7)))]) hx hb dX8_scatter_71 hl (by decide) (by simp [List.filter_cons, rf_cat, ct_i, ct_l, ct_x]) (fun ls hl => ?_)
        refine lv_lload hx hb dX8_scatter_73 (lv_at hl 0 rfl) ?_
        refine q_ldc2 (z := 65536) hx hb hown (hts (.constantLong RX8 216 (65536)) (List.mem_cons_of_mem _ (List.mem_append_left _ (List.mem_append_left _ (List.mem_append_left _ (List.mem_append_left _ (List.mem_append_left _ (List.mem_append_left _ (List.mem_of_getElem? (i := 5) rfl))))))))) (by decide) dX8_scatter_75 ?_
        obtain ⟨hR36, hP37, h⟩ := h
        refine q_ldiv hx hb hR36 hP37 (by decide) (by decide) dX8_scatter_78 ?_
        refine q_ldc2 (z := 1001) hx hb hown (hts (.constantLong RX8 218 (1001)) (List.mem_cons_of_mem _ (List.mem_append_left _ (List.mem_append_left _ (List.mem_append_left _ (List.mem_append_left _ (List.mem_append_left _ (List.mem_append_left _ (List.mem_of_getElem? (i := 6) rfl))))))))) (by decide) dX8_scatter_79 ?_
        obtain ⟨hR38, hP39, h⟩ := h
        refine q_lrem hx hb hR38 hP39 (by decide) (by decide) dX8_scatter_82 ?_
        refine q_l2i hx hb dX8_scatter_83 ?_
        refine lv_sipush (v := iI 500) hx hb dX8_scatter_84 (by decide) ?_
        refine q_isub hx hb dX8_scatter_87 ?_
        refine lv_istore (i := 8) (lv' := [(8, .int (iI (((((((v5 * 1103515245) + 12345) % 2147483648) / 65536) % 1001) - 500)))), (5, .long (lI ((((v5 * 1103515245) + 12345) % 2147483648)))), (0, .ref (ea E 0)), (1, .int (iI (a1))), (3, .int (iI (a3))), (4, va_rf (v4)), (7, .int (iI (v7)))]) hx hb dX8_scatter_88 hl (by decide) (by simp [List.filter_cons, rf_cat, ct_i, ct_l, ct_x]) (fun ls hl => ?_)
        refine lv_lload hx hb dX8_scatter_90 (lv_at hl 1 rfl) ?_
        refine q_ldc2 (z := 1024) hx hb hown (hts (.constantLong RX8 220 (1024)) (List.mem_cons_of_mem _ (List.mem_append_left _ (List.mem_append_left _ (List.mem_append_left _ (List.mem_append_left _ (List.mem_append_left _ (List.mem_append_left _ (List.mem_of_getElem? (i := 7) rfl))))))))) (by decide) dX8_scatter_92 ?_
        obtain ⟨hR40, hP41, h⟩ := h
        refine q_ldiv hx hb hR40 hP41 (by decide) (by decide) dX8_scatter_95 ?_
        refine q_ldc2 (z := 4) hx hb hown (hts (.constantLong RX8 222 (4)) (List.mem_cons_of_mem _ (List.mem_append_left _ (List.mem_append_left _ (List.mem_append_left _ (List.mem_append_left _ (List.mem_append_left _ (List.mem_append_left _ (List.mem_of_getElem? (i := 8) rfl))))))))) (by decide) dX8_scatter_96 ?_
        obtain ⟨hR42, hP43, h⟩ := h
        refine q_lrem hx hb hR42 hP43 (by decide) (by decide) dX8_scatter_99 ?_
        refine lv_lconst (v := lI 0) hx hb dX8_scatter_100 (by decide) ?_
        obtain ⟨hR44, h⟩ := h
        refine l_ne (tgt := 121) hx hb dX8_scatter_101 dX8_scatter_102 (by decide) hR44 (by decide) (fun c45 => ?_) (fun c45 => ?_)
        · have h := h.1 c45
          refine lv_aload_n hx hb dX8_scatter_121 rfl (lv_at hl 2 rfl) ?_
          refine q_getx (ci := 8) (C := RX8) (T := TX8) (N := 14) (j := 1) hx hb hts (fun _ h9 => List.mem_cons_of_mem _ (List.mem_append_left _ (List.mem_append_left _ (List.mem_append_left _ (List.mem_append_left _ (List.mem_append_right _ h9)))))) hown hK hg 0 (by decide) rfl rfl (by decide) rfl 0 (by decide) (hts (.fieldLink RX8 10 "JoinMaps" "grove" "LJoinMaps$Grove;") (List.mem_cons_of_mem _ (List.mem_append_left _ (List.mem_append_left _ (List.mem_append_left _ (List.mem_append_left _ (List.mem_append_left _ (List.mem_append_left _ (List.mem_of_getElem? (i := 9) rfl))))))))) rfl rfl rfl dX8_scatter_122 ?_
          refine q_aload hx hb dX8_scatter_125 (lv_at hl 5 rfl) ?_
          refine lv_iload hx hb dX8_scatter_127 (lv_at hl 0 rfl) ?_
          refine lv_lload hx hb dX8_scatter_129 (lv_at hl 1 rfl) ?_
          refine q_ldc2 (z := 4096) hx hb hown (hts (.constantLong RX8 224 (4096)) (List.mem_cons_of_mem _ (List.mem_append_left _ (List.mem_append_left _ (List.mem_append_left _ (List.mem_append_left _ (List.mem_append_left _ (List.mem_append_left _ (List.mem_of_getElem? (i := 10) rfl))))))))) (by decide) dX8_scatter_131 ?_
          obtain ⟨hR46, hP47, h⟩ := h
          refine q_ldiv hx hb hR46 hP47 (by decide) (by decide) dX8_scatter_134 ?_
          refine q_ldc2 (z := 1000) hx hb hown (hts (.constantLong RX8 226 (1000)) (List.mem_cons_of_mem _ (List.mem_append_left _ (List.mem_append_left _ (List.mem_append_left _ (List.mem_append_left _ (List.mem_append_left _ (List.mem_append_left _ (List.mem_of_getElem? (i := 11) rfl))))))))) (by decide) dX8_scatter_135 ?_
          obtain ⟨hR48, hP49, h⟩ := h
          refine q_lrem hx hb hR48 hP49 (by decide) (by decide) dX8_scatter_138 ?_
          refine q_l2i hx hb dX8_scatter_139 ?_
          obtain ⟨hR50, hR51, h⟩ := h
          refine call_r (run_V (a := ea E 1) (As := [va_rf (v4), .int (iI (((((((v5 * 1103515245) + 12345) % 2147483648) / 65536) % 1001) - 500))), .int (iI ((((((v5 * 1103515245) + 12345) % 2147483648) / 4096) % 1000)))]) (rest := []) ⟨hx, hb, hml, hown, hts⟩ (ctX2_with l E tp v4 ((((((v5 * 1103515245) + 12345) % 2147483648) / 65536) % 1001) - 500) (((((v5 * 1103515245) + 12345) % 2147483648) / 4096) % 1000) sL _ mv4 hR50 hR51 hm.2.2 h) (cwV 3 hts gX8_scatter_X2_with rfl rfl rfl ⟨rfl, hdX2_with⟩ ⟨Nat.le_of_ble_eq_true rfl, Nat.le_of_ble_eq_true rfl⟩) hK hN hg (recv_x (ci := 2) (C := RX2) (T := TX2) (N := 4) hg hK (by decide) rfl (by decide) rfl) rfl hl.1 rfl (cat_sum _ (by simp)) dX8_scatter_140 (show (sz sL - sz σ) + (tp - sz sL) ≤ tp - sz σ ∧ 9 * (sz sL - sz σ) + 9 * (tp - sz sL) ≤ 9 * (tp - sz σ) by have q1 := hm.2.1; have q2 := hm.2.2; omega)) hg (fun r53 s52 H locs hz54 hm2 h hg => ?_)
          have hS55 : ∀ b, v4 = some b → sS s52 b := (fun b h0 => hm2.1 b (mv4 b h0))
          have hm := hm.ta hm2
          refine W_narrow hg hH (show sz s52 ≤ sz σ + (sz s52 - sz σ) by have q1 := hm.2.1; omega) (Nat.le_refl _) ?_
          refine q_astore (i := 4) (lv' := [(4, va_rf (r53)), (8, .int (iI (((((((v5 * 1103515245) + 12345) % 2147483648) / 65536) % 1001) - 500)))), (5, .long (lI ((((v5 * 1103515245) + 12345) % 2147483648)))), (0, .ref (ea E 0)), (1, .int (iI (a1))), (3, .int (iI (a3))), (7, .int (iI (v7)))]) hx hb dX8_scatter_143 hl (by decide) (by simp [List.filter_cons, rf_cat, ct_i, ct_l, ct_x]) (fun ls hl => ?_)
          refine q_aload hx hb dX8_scatter_145 (lv_at hl 0 rfl) ?_
          refine call_i (run_S (As := [va_rf (r53)]) (rest := []) ⟨hx, hb, hml, hown, hts⟩ (ctX3_countOf l E r53 s52 _ hz54 h) (va_cwS 1 hts gX8_scatter_X3_countOf rfl rfl rfl hdX3_countOf ⟨Nat.le_of_ble_eq_true rfl, Nat.le_of_ble_eq_true rfl⟩) hK hN hg rfl hl.1 rfl (cat_sum _ (by simp)) dX8_scatter_147 (show (sz s52 - sz σ) + 0 ≤ tp - sz σ ∧ 9 * (sz s52 - sz σ) + 0 ≤ 9 * (tp - sz σ) by have q1 := hm.2.1; have q2 := hm.2.2; omega)) hg (fun r57 s56 H locs hz58 hm2 h hg => ?_)
          have hS59 : ∀ b, r53 = some b → sS s56 b := (fun b h0 => hm2.1 b (hz54 b h0))
          have hm := hm.tn hm2
          refine W_narrow hg hH (show sz s56 ≤ sz σ + (sz s56 - sz σ) by have q1 := hm.2.1; omega) (Nat.le_refl _) ?_
          refine lv_sipush (v := iI 200) hx hb dX8_scatter_150 (by decide) ?_
          refine j_le (tgt := 161) hx hb dX8_scatter_153 (by decide) hz58 (by decide) (fun c60 => ?_) (fun c60 => ?_)
          · have h := h.1 c60
            refine lv_iinc (v := iI (v7 + 1)) (lv' := [(7, .int (iI (v7 + 1))), (4, va_rf (r53)), (8, .int (iI (((((((v5 * 1103515245) + 12345) % 2147483648) / 65536) % 1001) - 500)))), (5, .long (lI ((((v5 * 1103515245) + 12345) % 2147483648)))), (0, .ref (ea E 0)), (1, .int (iI (a1))), (3, .int (iI (a3)))]) hx hb dX8_scatter_161 hl (k := 6) rfl (iI_add _ _) (by decide) (by simp [List.filter_cons, rf_cat, ct_i, ct_l, ct_x]) (fun ls hl => ?_)
            refine lv_goto (tgt := 51) hx hb dX8_scatter_164 (by decide) ?_
            exact ih (r53) ((((v5 * 1103515245) + 12345) % 2147483648)) (v7 + 1) (s56) _ _ _ hS59 hg hm (lv_sub hl [4, 5, 6, 1, 3, 0] rfl) h
          · have h := h.2 c60
            refine lv_aload_n hx hb dX8_scatter_156 rfl (lv_at hl 3 rfl) ?_
            refine call_i (run_V (a := ea E 0) (As := []) (rest := []) ⟨hx, hb, hml, hown, hts⟩ (ctX8_full l E  s56 _  h) (cwV 0 hts gX8_scatter_X8_full rfl rfl rfl ⟨rfl, hdX8_full⟩ ⟨Nat.le_of_ble_eq_true rfl, Nat.le_of_ble_eq_true rfl⟩) hK hN hg (recv_x (ci := 8) (C := RX8) (T := TX8) (N := 14) hg hK (by decide) rfl (by decide) rfl) rfl hl.1 rfl (cat_sum _ (by simp)) dX8_scatter_157 (show (sz s56 - sz σ) + 0 ≤ tp - sz σ ∧ 9 * (sz s56 - sz σ) + 0 ≤ 9 * (tp - sz σ) by have q1 := hm.2.1; have q2 := hm.2.2; omega)) hg (fun r62 s61 H locs hz63 hm2 h hg => ?_)
            have hS64 : ∀ b, r53 = some b → sS s61 b := (fun b h0 => hm2.1 b (hS59 b h0))
            have hm := hm.tn hm2
            refine W_narrow hg hH (show sz s61 ≤ sz σ + (sz s61 - sz σ) by have q1 := hm.2.1; omega) (Nat.le_refl _) ?_
            refine W.widen (k := tp - sz σ) (n := 9 * (tp - sz σ)) (show sz s61 - sz σ ≤ _ by have q1 := hm.2.2; omega) (show 9 * (sz s61 - sz σ) ≤ _ by have q1 := hm.2.2; omega) ?_
            exact ret_i hx hb hr hlocks hg hz63 hm h dX8_scatter_160
        · have h := h.2 c45
          refine lv_aload_n hx hb dX8_scatter_105 rfl (lv_at hl 2 rfl) ?_
          refine q_getx (ci := 8) (C := RX8) (T := TX8) (N := 14) (j := 1) hx hb hts (fun _ h9 => List.mem_cons_of_mem _ (List.mem_append_left _ (List.mem_append_left _ (List.mem_append_left _ (List.mem_append_left _ (List.mem_append_right _ h9)))))) hown hK hg 0 (by decide) rfl rfl (by decide) rfl 0 (by decide) (hts (.fieldLink RX8 10 "JoinMaps" "grove" "LJoinMaps$Grove;") (List.mem_cons_of_mem _ (List.mem_append_left _ (List.mem_append_left _ (List.mem_append_left _ (List.mem_append_left _ (List.mem_append_left _ (List.mem_append_left _ (List.mem_of_getElem? (i := 9) rfl))))))))) rfl rfl rfl dX8_scatter_106 ?_
          refine q_aload hx hb dX8_scatter_109 (lv_at hl 5 rfl) ?_
          refine lv_iload hx hb dX8_scatter_111 (lv_at hl 0 rfl) ?_
          refine lv_iload hx hb dX8_scatter_113 (lv_at hl 0 rfl) ?_
          obtain ⟨hR65, h⟩ := h
          refine call_r (run_V (a := ea E 1) (As := [va_rf (v4), .int (iI (((((((v5 * 1103515245) + 12345) % 2147483648) / 65536) % 1001) - 500))), .int (iI (((((((v5 * 1103515245) + 12345) % 2147483648) / 65536) % 1001) - 500)))]) (rest := []) ⟨hx, hb, hml, hown, hts⟩ (ctX2_without l E tp v4 ((((((v5 * 1103515245) + 12345) % 2147483648) / 65536) % 1001) - 500) ((((((v5 * 1103515245) + 12345) % 2147483648) / 65536) % 1001) - 500) sL _ mv4 hR65 hR65 hm.2.2 h) (cwV 3 hts gX8_scatter_X2_without rfl rfl rfl ⟨rfl, hdX2_without⟩ ⟨Nat.le_of_ble_eq_true rfl, Nat.le_of_ble_eq_true rfl⟩) hK hN hg (recv_x (ci := 2) (C := RX2) (T := TX2) (N := 4) hg hK (by decide) rfl (by decide) rfl) rfl hl.1 rfl (cat_sum _ (by simp)) dX8_scatter_115 (show (sz sL - sz σ) + (tp - sz sL) ≤ tp - sz σ ∧ 9 * (sz sL - sz σ) + 9 * (tp - sz sL) ≤ 9 * (tp - sz σ) by have q1 := hm.2.1; have q2 := hm.2.2; omega)) hg (fun r67 s66 H locs hz68 hm2 h hg => ?_)
          have hS69 : ∀ b, v4 = some b → sS s66 b := (fun b h0 => hm2.1 b (mv4 b h0))
          have hm := hm.ta hm2
          refine W_narrow hg hH (show sz s66 ≤ sz σ + (sz s66 - sz σ) by have q1 := hm.2.1; omega) (Nat.le_refl _) ?_
          refine lv_goto (tgt := 143) hx hb dX8_scatter_118 (by decide) ?_
          refine q_astore (i := 4) (lv' := [(4, va_rf (r67)), (8, .int (iI (((((((v5 * 1103515245) + 12345) % 2147483648) / 65536) % 1001) - 500)))), (5, .long (lI ((((v5 * 1103515245) + 12345) % 2147483648)))), (0, .ref (ea E 0)), (1, .int (iI (a1))), (3, .int (iI (a3))), (7, .int (iI (v7)))]) hx hb dX8_scatter_143 hl (by decide) (by simp [List.filter_cons, rf_cat, ct_i, ct_l, ct_x]) (fun ls hl => ?_)
          refine q_aload hx hb dX8_scatter_145 (lv_at hl 0 rfl) ?_
          refine call_i (run_S (As := [va_rf (r67)]) (rest := []) ⟨hx, hb, hml, hown, hts⟩ (ctX3_countOf l E r67 s66 _ hz68 h) (va_cwS 1 hts gX8_scatter_X3_countOf rfl rfl rfl hdX3_countOf ⟨Nat.le_of_ble_eq_true rfl, Nat.le_of_ble_eq_true rfl⟩) hK hN hg rfl hl.1 rfl (cat_sum _ (by simp)) dX8_scatter_147 (show (sz s66 - sz σ) + 0 ≤ tp - sz σ ∧ 9 * (sz s66 - sz σ) + 0 ≤ 9 * (tp - sz σ) by have q1 := hm.2.1; have q2 := hm.2.2; omega)) hg (fun r71 s70 H locs hz72 hm2 h hg => ?_)
          have hS73 : ∀ b, r67 = some b → sS s70 b := (fun b h0 => hm2.1 b (hz68 b h0))
          have hm := hm.tn hm2
          refine W_narrow hg hH (show sz s70 ≤ sz σ + (sz s70 - sz σ) by have q1 := hm.2.1; omega) (Nat.le_refl _) ?_
          refine lv_sipush (v := iI 200) hx hb dX8_scatter_150 (by decide) ?_
          refine j_le (tgt := 161) hx hb dX8_scatter_153 (by decide) hz72 (by decide) (fun c74 => ?_) (fun c74 => ?_)
          · have h := h.1 c74
            refine lv_iinc (v := iI (v7 + 1)) (lv' := [(7, .int (iI (v7 + 1))), (4, va_rf (r67)), (8, .int (iI (((((((v5 * 1103515245) + 12345) % 2147483648) / 65536) % 1001) - 500)))), (5, .long (lI ((((v5 * 1103515245) + 12345) % 2147483648)))), (0, .ref (ea E 0)), (1, .int (iI (a1))), (3, .int (iI (a3)))]) hx hb dX8_scatter_161 hl (k := 6) rfl (iI_add _ _) (by decide) (by simp [List.filter_cons, rf_cat, ct_i, ct_l, ct_x]) (fun ls hl => ?_)
            refine lv_goto (tgt := 51) hx hb dX8_scatter_164 (by decide) ?_
            exact ih (r67) ((((v5 * 1103515245) + 12345) % 2147483648)) (v7 + 1) (s70) _ _ _ hS73 hg hm (lv_sub hl [4, 5, 6, 1, 3, 0] rfl) h
          · have h := h.2 c74
            refine lv_aload_n hx hb dX8_scatter_156 rfl (lv_at hl 3 rfl) ?_
            refine call_i (run_V (a := ea E 0) (As := []) (rest := []) ⟨hx, hb, hml, hown, hts⟩ (ctX8_full l E  s70 _  h) (cwV 0 hts gX8_scatter_X8_full rfl rfl rfl ⟨rfl, hdX8_full⟩ ⟨Nat.le_of_ble_eq_true rfl, Nat.le_of_ble_eq_true rfl⟩) hK hN hg (recv_x (ci := 8) (C := RX8) (T := TX8) (N := 14) hg hK (by decide) rfl (by decide) rfl) rfl hl.1 rfl (cat_sum _ (by simp)) dX8_scatter_157 (show (sz s70 - sz σ) + 0 ≤ tp - sz σ ∧ 9 * (sz s70 - sz σ) + 0 ≤ 9 * (tp - sz σ) by have q1 := hm.2.1; have q2 := hm.2.2; omega)) hg (fun r76 s75 H locs hz77 hm2 h hg => ?_)
            have hS78 : ∀ b, r67 = some b → sS s75 b := (fun b h0 => hm2.1 b (hS73 b h0))
            have hm := hm.tn hm2
            refine W_narrow hg hH (show sz s75 ≤ sz σ + (sz s75 - sz σ) by have q1 := hm.2.1; omega) (Nat.le_refl _) ?_
            refine W.widen (k := tp - sz σ) (n := 9 * (tp - sz σ)) (show sz s75 - sz σ ≤ _ by have q1 := hm.2.2; omega) (show 9 * (sz s75 - sz σ) ≤ _ by have q1 := hm.2.2; omega) ?_
            exact ret_i hx hb hr hlocks hg hz77 hm h dX8_scatter_160
  refine lv_iload_n hx hb dX8_scatter_0 rfl (lv_at hl 1 rfl) ?_
  refine call_z (run_S (As := [.int (iI (a1))]) (rest := []) ⟨hx, hb, hml, hown, hts⟩ (ctX8_isMap l E a1 σ _ ha1 h) (va_cwS 1 hts gX8_scatter_X8_isMap rfl rfl rfl hdX8_isMap ⟨Nat.le_of_ble_eq_true rfl, Nat.le_of_ble_eq_true rfl⟩) hK hN hg rfl hl.1 rfl (cat_sum _ (by simp)) dX8_scatter_1 (show (sz σ - sz σ) + 0 ≤ tp - sz σ ∧ 9 * (sz σ - sz σ) + 0 ≤ 9 * (tp - sz σ) by have q1 := hm.2.1; have q2 := hm.2.2; omega)) hg (fun r2 s1 H locs hz3 hm2 h hg => ?_)
  have hm := hm.tn hm2
  refine W_narrow hg hH (show sz s1 ≤ sz σ + (sz s1 - sz σ) by have q1 := hm.2.1; omega) (Nat.le_refl _) ?_
  refine k_eq (tgt := 27) hx hb dX8_scatter_4 (by decide) (z_R hz3) (fun c4 => ?_) (fun c4 => ?_)
  · have h := h.1 c4
    refine lv_aload_n hx hb dX8_scatter_27 rfl (lv_at hl 0 rfl) ?_
    refine call_i (run_V (a := ea E 0) (As := []) (rest := []) ⟨hx, hb, hml, hown, hts⟩ (ctX8_bad l E  s1 _  h) (cwV 0 hts gX8_scatter_X8_bad rfl rfl rfl ⟨rfl, hdX8_bad⟩ ⟨Nat.le_of_ble_eq_true rfl, Nat.le_of_ble_eq_true rfl⟩) hK hN hg (recv_x (ci := 8) (C := RX8) (T := TX8) (N := 14) hg hK (by decide) rfl (by decide) rfl) rfl hl.1 rfl (cat_sum _ (by simp)) dX8_scatter_28 (show (sz s1 - sz σ) + 0 ≤ tp - sz σ ∧ 9 * (sz s1 - sz σ) + 0 ≤ 9 * (tp - sz σ) by have q1 := hm.2.1; have q2 := hm.2.2; omega)) hg (fun r6 s5 H locs hz7 hm2 h hg => ?_)
    have hm := hm.tn hm2
    refine W_narrow hg hH (show sz s5 ≤ sz σ + (sz s5 - sz σ) by have q1 := hm.2.1; omega) (Nat.le_refl _) ?_
    refine W.widen (k := tp - sz σ) (n := 9 * (tp - sz σ)) (show sz s5 - sz σ ≤ _ by have q1 := hm.2.2; omega) (show 9 * (sz s5 - sz σ) ≤ _ by have q1 := hm.2.2; omega) ?_
    exact ret_i hx hb hr hlocks hg hz7 hm h dX8_scatter_31
  · have h := h.2 c4
    refine lv_iload_n hx hb dX8_scatter_7 rfl (lv_at hl 2 rfl) ?_
    refine lv_iconst (v := iI 0) hx hb dX8_scatter_8 (by decide) ?_
    refine q_ldc (z := 999999) hx hb hown (hts (.constant RX8 209 (999999)) (List.mem_cons_of_mem _ (List.mem_append_left _ (List.mem_append_left _ (List.mem_append_left _ (List.mem_append_left _ (List.mem_append_left _ (List.mem_append_left _ (List.mem_of_getElem? (i := 0) rfl))))))))) (by decide) dX8_scatter_9 ?_
    refine call_z (run_S (As := [.int (iI (a2)), .int (iI (0)), .int (iI (999999))]) (rest := []) ⟨hx, hb, hml, hown, hts⟩ (ctX8_isIn l E a2 0 999999 s1 _ ha2 (by decide) (by decide) h) (va_cwS 3 hts gX8_scatter_X8_isIn rfl rfl rfl hdX8_isIn ⟨Nat.le_of_ble_eq_true rfl, Nat.le_of_ble_eq_true rfl⟩) hK hN hg rfl hl.1 rfl (cat_sum _ (by simp)) dX8_scatter_11 (show (sz s1 - sz σ) + 0 ≤ tp - sz σ ∧ 9 * (sz s1 - sz σ) + 0 ≤ 9 * (tp - sz σ) by have q1 := hm.2.1; have q2 := hm.2.2; omega)) hg (fun r9 s8 H locs hz10 hm2 h hg => ?_)
    have hm := hm.tn hm2
    refine W_narrow hg hH (show sz s8 ≤ sz σ + (sz s8 - sz σ) by have q1 := hm.2.1; omega) (Nat.le_refl _) ?_
    refine k_eq (tgt := 27) hx hb dX8_scatter_14 (by decide) (z_R hz10) (fun c11 => ?_) (fun c11 => ?_)
    · have h := h.1 c11
      refine lv_aload_n hx hb dX8_scatter_27 rfl (lv_at hl 0 rfl) ?_
      refine call_i (run_V (a := ea E 0) (As := []) (rest := []) ⟨hx, hb, hml, hown, hts⟩ (ctX8_bad l E  s8 _  h) (cwV 0 hts gX8_scatter_X8_bad rfl rfl rfl ⟨rfl, hdX8_bad⟩ ⟨Nat.le_of_ble_eq_true rfl, Nat.le_of_ble_eq_true rfl⟩) hK hN hg (recv_x (ci := 8) (C := RX8) (T := TX8) (N := 14) hg hK (by decide) rfl (by decide) rfl) rfl hl.1 rfl (cat_sum _ (by simp)) dX8_scatter_28 (show (sz s8 - sz σ) + 0 ≤ tp - sz σ ∧ 9 * (sz s8 - sz σ) + 0 ≤ 9 * (tp - sz σ) by have q1 := hm.2.1; have q2 := hm.2.2; omega)) hg (fun r13 s12 H locs hz14 hm2 h hg => ?_)
      have hm := hm.tn hm2
      refine W_narrow hg hH (show sz s12 ≤ sz σ + (sz s12 - sz σ) by have q1 := hm.2.1; omega) (Nat.le_refl _) ?_
      refine W.widen (k := tp - sz σ) (n := 9 * (tp - sz σ)) (show sz s12 - sz σ ≤ _ by have q1 := hm.2.2; omega) (show 9 * (sz s12 - sz σ) ≤ _ by have q1 := hm.2.2; omega) ?_
      exact ret_i hx hb hr hlocks hg hz14 hm h dX8_scatter_31
    · have h := h.2 c11
      refine lv_iload_n hx hb dX8_scatter_17 rfl (lv_at hl 3 rfl) ?_
      refine lv_iconst (v := iI 0) hx hb dX8_scatter_18 (by decide) ?_
      refine lv_bipush (v := iI 100) hx hb dX8_scatter_19 (by decide) ?_
      refine call_z (run_S (As := [.int (iI (a3)), .int (iI (0)), .int (iI (100))]) (rest := []) ⟨hx, hb, hml, hown, hts⟩ (ctX8_isIn l E a3 0 100 s8 _ ha3 (by decide) (by decide) h) (va_cwS 3 hts gX8_scatter_X8_isIn rfl rfl rfl hdX8_isIn ⟨Nat.le_of_ble_eq_true rfl, Nat.le_of_ble_eq_true rfl⟩) hK hN hg rfl hl.1 rfl (cat_sum _ (by simp)) dX8_scatter_21 (show (sz s8 - sz σ) + 0 ≤ tp - sz σ ∧ 9 * (sz s8 - sz σ) + 0 ≤ 9 * (tp - sz σ) by have q1 := hm.2.1; have q2 := hm.2.2; omega)) hg (fun r16 s15 H locs hz17 hm2 h hg => ?_)
      have hm := hm.tn hm2
      refine W_narrow hg hH (show sz s15 ≤ sz σ + (sz s15 - sz σ) by have q1 := hm.2.1; omega) (Nat.le_refl _) ?_
      refine k_ne (tgt := 32) hx hb dX8_scatter_24 (by decide) (z_R hz17) (fun c18 => ?_) (fun c18 => ?_)
      · have h := h.1 c18
        refine lv_aload_n hx hb dX8_scatter_32 rfl (lv_at hl 0 rfl) ?_
        refine call_v (run_V (a := ea E 0) (As := []) (rest := []) ⟨hx, hb, hml, hown, hts⟩ (ctX8_startChange l E  s15 _  h) (cwV 0 hts gX8_scatter_X8_startChange rfl rfl rfl ⟨rfl, hdX8_startChange⟩ ⟨Nat.le_of_ble_eq_true rfl, Nat.le_of_ble_eq_true rfl⟩) hK hN hg (recv_x (ci := 8) (C := RX8) (T := TX8) (N := 14) hg hK (by decide) rfl (by decide) rfl) rfl hl.1 rfl (cat_sum _ (by simp)) dX8_scatter_33 (show (sz s15 - sz σ) + 0 ≤ tp - sz σ ∧ 9 * (sz s15 - sz σ) + 0 ≤ 9 * (tp - sz σ) by have q1 := hm.2.1; have q2 := hm.2.2; omega)) hg (fun s19 H locs hm2 h hg => ?_)
        have hm := hm.tn hm2
        refine W_narrow hg hH (show sz s19 ≤ sz σ + (sz s19 - sz σ) by have q1 := hm.2.1; omega) (Nat.le_refl _) ?_
        refine lv_aload_n hx hb dX8_scatter_36 rfl (lv_at hl 0 rfl) ?_
        refine q_getx (ci := 8) (C := RX8) (T := TX8) (N := 14) (j := 3) hx hb hts (fun _ h9 => List.mem_cons_of_mem _ (List.mem_append_left _ (List.mem_append_left _ (List.mem_append_left _ (List.mem_append_left _ (List.mem_append_right _ h9)))))) hown hK hg 0 (by decide) rfl rfl (by decide) rfl 2 (by decide) (hts (.fieldLink RX8 27 "JoinMaps" "maps" "[LJoinMaps$Node;") (List.mem_cons_of_mem _ (List.mem_append_left _ (List.mem_append_left _ (List.mem_append_left _ (List.mem_append_left _ (List.mem_append_left _ (List.mem_append_left _ (List.mem_of_getElem? (i := 1) rfl))))))))) rfl rfl rfl dX8_scatter_37 ?_
        refine lv_iload_n hx hb dX8_scatter_40 rfl (lv_at hl 1 rfl) ?_
        obtain ⟨hP22, hP23, h⟩ := h
        refine q_aald (N := 6) hx hb hK hg 3 (by decide) rfl rfl hP22 hP23 (by decide) dX8_scatter_41 ?_
        have hS24 : ∀ b, (sf s19 3 (a1 : Int).toNat) = some b → sS s19 b := fun b h0 => GS_F hg h0
        refine q_astore (i := 4) (lv' := [(4, va_rf ((sf s19 3 (a1 : Int).toNat))), (0, .ref (ea E 0)), (1, .int (iI (a1))), (2, .int (iI (a2))), (3, .int (iI (a3)))]) hx hb dX8_scatter_42 hl (by decide) (by simp [List.filter_cons, rf_cat, ct_i, ct_l, ct_x]) (fun ls hl => ?_)
        refine lv_iload_n hx hb dX8_scatter_44 rfl (lv_at hl 3 rfl) ?_
        refine q_i2l hx hb ha2 dX8_scatter_45 ?_
        refine lv_lstore (i := 5) (lv' := [(5, .long (lI (a2))), (4, va_rf ((sf s19 3 (a1 : Int).toNat))), (0, .ref (ea E 0)), (1, .int (iI (a1))), (2, .int (iI (a2))), (3, .int (iI (a3)))]) hx hb dX8_scatter_46 hl (by decide) (by simp [List.filter_cons, rf_cat, ct_i, ct_l, ct_x]) (fun ls hl => ?_)
        refine lv_iconst (v := iI 0) hx hb dX8_scatter_48 (by decide) ?_
        refine lv_istore (i := 7) (lv' := [(7, .int (iI (0))), (5, .long (lI (a2))), (4, va_rf ((sf s19 3 (a1 : Int).toNat))), (0, .ref (ea E 0)), (1, .int (iI (a1))), (2, .int (iI (a2))), (3, .int (iI (a3)))]) hx hb dX8_scatter_49 hl (by decide) (by simp [List.filter_cons, rf_cat, ct_i, ct_l, ct_x]) (fun ls hl => ?_)
        obtain ⟨kk, h⟩ := h
        exact J51  kk ((sf s19 3 (a1 : Int).toNat)) (a2) (0) (s19) _ _ _ hS24 hg hm (lv_sub hl [3, 4, 6, 2, 1, 0] rfl) h
      · have h := h.2 c18
        refine lv_aload_n hx hb dX8_scatter_27 rfl (lv_at hl 0 rfl) ?_
        refine call_i (run_V (a := ea E 0) (As := []) (rest := []) ⟨hx, hb, hml, hown, hts⟩ (ctX8_bad l E  s15 _  h) (cwV 0 hts gX8_scatter_X8_bad rfl rfl rfl ⟨rfl, hdX8_bad⟩ ⟨Nat.le_of_ble_eq_true rfl, Nat.le_of_ble_eq_true rfl⟩) hK hN hg (recv_x (ci := 8) (C := RX8) (T := TX8) (N := 14) hg hK (by decide) rfl (by decide) rfl) rfl hl.1 rfl (cat_sum _ (by simp)) dX8_scatter_28 (show (sz s15 - sz σ) + 0 ≤ tp - sz σ ∧ 9 * (sz s15 - sz σ) + 0 ≤ 9 * (tp - sz σ) by have q1 := hm.2.1; have q2 := hm.2.2; omega)) hg (fun r26 s25 H locs hz27 hm2 h hg => ?_)
        have hm := hm.tn hm2
        refine W_narrow hg hH (show sz s25 ≤ sz σ + (sz s25 - sz σ) by have q1 := hm.2.1; omega) (Nat.le_refl _) ?_
        refine W.widen (k := tp - sz σ) (n := 9 * (tp - sz σ)) (show sz s25 - sz σ ≤ _ by have q1 := hm.2.2; omega) (show 9 * (sz s25 - sz σ) ≤ _ by have q1 := hm.2.2; omega) ?_
        exact ret_i hx hb hr hlocks hg hz27 hm h dX8_scatter_31
theorem hdX8_sound : yX8_sound.cls ≠ "java/lang/invoke/MethodHandle" ∧ yX8_sound.cls ≠ "java/lang/invoke/VarHandle" ∧ (parseMethodDescriptor yX8_sound.desc).map (fun d => d.parameters.length) = some 1 := by decide +kernel
set_option maxRecDepth 100000 in
set_option maxHeartbeats 4000000 in
theorem ctX8_sound (l : Launch) (E : Ev) (a1 : Int) (σ : SS) (Q : Int → SS → Prop) (ha1 : R32 a1) (h : wX8_sound a1 σ Q) : Met l yX8_sound wsX8_sound ({ frames := 47, cells := 0, slots := 0, locals := 1255 } : Room) (Pc E σ [.ref (ea E 0), .int (iI (a1))]) (Qi E (sz σ) σ Q) 0 0 (Av E) := by
  rw [wX8_sound] at h
  refine Met.ofW (cc := cX8_sound) (maxL := 2) (ret := (some .int)) (by decide) rfl ?_
  intro p e s m args below meth c s₁ B hml hv
  obtain ⟨rfl, hH, hK, hN⟩ := hv
  have hx := B.exec
  have hb := B.bytes
  have hr := B.returns
  have hts := atoms_spec (ws := wsX8_sound) B.pre
  have hown : s.vm.findClass RX8 = some m.cls := findClass_of_methodNamed B.named
  have hlocks := B.notSynchronized
  have hg : GS E σ s s.heap [] := ⟨hH, va_S.rf⟩
  have hm : Mo (sz σ) σ σ := Mo.rf (Nat.le_refl _)
  have hl := ent (vs := [.ref (ea E 0), .int (iI (a1))]) (n := 2) (cats_x (cats_i cats_nil)) (Nat.le_of_ble_eq_true rfl)
  rw [lg_entry_eq]
  generalize (lg_sl ([.ref (ea E 0), .int (iI (a1))]) ++ List.replicate (2 - (lg_sl ([.ref (ea E 0), .int (iI (a1))])).length) Slot.unset).toArray = ls at hl ⊢
  have hl : lv_has ls 2 [(0, .ref (ea E 0)), (1, .int (iI (a1)))] := hl
  refine lv_iload_n hx hb dX8_sound_0 rfl (lv_at hl 1 rfl) ?_
  refine call_z (run_S (As := [.int (iI (a1))]) (rest := []) ⟨hx, hb, hml, hown, hts⟩ (ctX8_isMap l E a1 σ _ ha1 h) (va_cwS 1 hts gX8_sound_X8_isMap rfl rfl rfl hdX8_isMap ⟨Nat.le_of_ble_eq_true rfl, Nat.le_of_ble_eq_true rfl⟩) hK hN hg rfl hl.1 rfl (cat_sum _ (by simp)) dX8_sound_1 ⟨Nat.le_refl 0, Nat.le_refl 0⟩) hg (fun r2 s1 H locs hz3 hm2 h hg => ?_)
  have hm := hm.tn hm2
  refine k_ne (tgt := 12) hx hb dX8_sound_4 (by decide) (z_R hz3) (fun c4 => ?_) (fun c4 => ?_)
  · have h := h.1 c4
    refine lv_aload_n hx hb dX8_sound_12 rfl (lv_at hl 0 rfl) ?_
    refine q_getx (ci := 8) (C := RX8) (T := TX8) (N := 14) (j := 3) hx hb hts (fun _ h9 => List.mem_cons_of_mem _ (List.mem_append_left _ (List.mem_append_right _ h9))) hown hK hg 0 (by decide) rfl rfl (by decide) rfl 2 (by decide) (hts (.fieldLink RX8 27 "JoinMaps" "maps" "[LJoinMaps$Node;") (List.mem_cons_of_mem _ (List.mem_append_left _ (List.mem_append_left _ (List.mem_append_left _ (List.mem_of_getElem? (i := 0) rfl)))))) rfl rfl rfl dX8_sound_13 ?_
    refine lv_iload_n hx hb dX8_sound_16 rfl (lv_at hl 1 rfl) ?_
    obtain ⟨hP5, hP6, h⟩ := h
    refine q_aald (N := 6) hx hb hK hg 3 (by decide) rfl rfl hP5 hP6 (by decide) dX8_sound_17 ?_
    have hS7 : ∀ b, (sf s1 3 (a1 : Int).toNat) = some b → sS s1 b := fun b h0 => GS_F hg h0
    refine lv_sipush (v := iI (-501)) hx hb dX8_sound_18 (by decide) ?_
    refine lv_sipush (v := iI 501) hx hb dX8_sound_21 (by decide) ?_
    refine lv_iconst (v := iI 0) hx hb dX8_sound_24 (by decide) ?_
    refine call_z (run_S (As := [va_rf ((sf s1 3 (a1 : Int).toNat)), .int (iI ((-501))), .int (iI (501)), .int (iI (0))]) (rest := []) ⟨hx, hb, hml, hown, hts⟩ (ctX2_isWell l E 44 (sf s1 3 (a1 : Int).toNat) (-501) 501 0 s1 _ hS7 (by decide) (by decide) (by decide) h) (va_cwS 4 hts gX8_sound_X2_isWell rfl rfl rfl hdX2_isWell ⟨Nat.le_of_ble_eq_true rfl, Nat.le_of_ble_eq_true rfl⟩) hK hN hg rfl hl.1 rfl (cat_sum _ (by simp)) dX8_sound_25 ⟨Nat.le_refl 0, Nat.le_refl 0⟩) hg (fun r9 s8 H locs hz10 hm2 h hg => ?_)
    have hm := hm.tn hm2
    refine k_eq (tgt := 35) hx hb dX8_sound_28 (by decide) (z_R hz10) (fun c11 => ?_) (fun c11 => ?_)
    · have h := h.1 c11
      refine lv_iconst (v := iI 0) hx hb dX8_sound_35 (by decide) ?_
      exact ret_i hx hb hr hlocks hg (by decide) hm h dX8_sound_36
    · have h := h.2 c11
      refine lv_iconst (v := iI 1) hx hb dX8_sound_31 (by decide) ?_
      refine lv_goto (tgt := 36) hx hb dX8_sound_32 (by decide) ?_
      exact ret_i hx hb hr hlocks hg (by decide) hm h dX8_sound_36
  · have h := h.2 c4
    refine lv_aload_n hx hb dX8_sound_7 rfl (lv_at hl 0 rfl) ?_
    refine call_i (run_V (a := ea E 0) (As := []) (rest := []) ⟨hx, hb, hml, hown, hts⟩ (ctX8_bad l E  s1 _  h) (cwV 0 hts gX8_sound_X8_bad rfl rfl rfl ⟨rfl, hdX8_bad⟩ ⟨Nat.le_of_ble_eq_true rfl, Nat.le_of_ble_eq_true rfl⟩) hK hN hg (recv_x (ci := 8) (C := RX8) (T := TX8) (N := 14) hg hK (by decide) rfl (by decide) rfl) rfl hl.1 rfl (cat_sum _ (by simp)) dX8_sound_8 ⟨Nat.le_refl 0, Nat.le_refl 0⟩) hg (fun r13 s12 H locs hz14 hm2 h hg => ?_)
    have hm := hm.tn hm2
    exact ret_i hx hb hr hlocks hg hz14 hm h dX8_sound_11
theorem hdX8_mixer : yX8_mixer.cls ≠ "java/lang/invoke/MethodHandle" ∧ yX8_mixer.cls ≠ "java/lang/invoke/VarHandle" ∧ (parseMethodDescriptor yX8_mixer.desc).map (fun d => d.parameters.length) = some 1 := by decide +kernel
set_option maxRecDepth 100000 in
set_option maxHeartbeats 4000000 in
theorem ctX8_mixer (l : Launch) (E : Ev) (a1 : Int) (σ : SS) (Q : Int → SS → Prop) (ha1 : R32 a1) (h : wX8_mixer a1 σ Q) : Met l yX8_mixer wsX8_mixer ({ frames := 1, cells := 0, slots := 0, locals := 22 } : Room) (Pc E σ [.ref (ea E 0), .int (iI (a1))]) (Qi E (sz σ) σ Q) 0 0 (Av E) := by
  rw [wX8_mixer] at h
  refine Met.ofW (cc := cX8_mixer) (maxL := 3) (ret := (some .int)) (by decide) rfl ?_
  intro p e s m args below meth c s₁ B hml hv
  obtain ⟨rfl, hH, hK, hN⟩ := hv
  have hx := B.exec
  have hb := B.bytes
  have hr := B.returns
  have hts := atoms_spec (ws := wsX8_mixer) B.pre
  have hown : s.vm.findClass RX8 = some m.cls := findClass_of_methodNamed B.named
  have hlocks := B.notSynchronized
  have hg : GS E σ s s.heap [] := ⟨hH, va_S.rf⟩
  have hm : Mo (sz σ) σ σ := Mo.rf (Nat.le_refl _)
  have hl := ent (vs := [.ref (ea E 0), .int (iI (a1))]) (n := 3) (cats_x (cats_i cats_nil)) (Nat.le_of_ble_eq_true rfl)
  rw [lg_entry_eq]
  generalize (lg_sl ([.ref (ea E 0), .int (iI (a1))]) ++ List.replicate (3 - (lg_sl ([.ref (ea E 0), .int (iI (a1))])).length) Slot.unset).toArray = ls at hl ⊢
  have hl : lv_has ls 3 [(0, .ref (ea E 0)), (1, .int (iI (a1)))] := hl
  refine lv_iload_n hx hb dX8_mixer_0 rfl (lv_at hl 1 rfl) ?_
  refine lv_iconst (v := iI 0) hx hb dX8_mixer_1 (by decide) ?_
  refine lv_iconst (v := iI 5) hx hb dX8_mixer_2 (by decide) ?_
  refine call_z (run_S (As := [.int (iI (a1)), .int (iI (0)), .int (iI (5))]) (rest := []) ⟨hx, hb, hml, hown, hts⟩ (ctX8_isIn l E a1 0 5 σ _ ha1 (by decide) (by decide) h) (va_cwS 3 hts gX8_mixer_X8_isIn rfl rfl rfl hdX8_isIn ⟨Nat.le_of_ble_eq_true rfl, Nat.le_of_ble_eq_true rfl⟩) hK hN hg rfl hl.1 rfl (cat_sum _ (by simp)) dX8_mixer_3 ⟨Nat.le_refl 0, Nat.le_refl 0⟩) hg (fun r2 s1 H locs hz3 hm2 h hg => ?_)
  have hm := hm.tn hm2
  refine k_ne (tgt := 14) hx hb dX8_mixer_6 (by decide) (z_R hz3) (fun c4 => ?_) (fun c4 => ?_)
  · have h := h.1 c4
    refine lv_aload_n hx hb dX8_mixer_14 rfl (lv_at hl 0 rfl) ?_
    refine q_getx (ci := 8) (C := RX8) (T := TX8) (N := 14) (j := 2) hx hb hts (fun _ h9 => List.mem_cons_of_mem _ (List.mem_append_left _ (List.mem_append_right _ h9))) hown hK hg 0 (by decide) rfl rfl (by decide) rfl 1 (by decide) (hts (.fieldLink RX8 21 "JoinMaps" "blender" "LJoinMaps$Blender;") (List.mem_cons_of_mem _ (List.mem_append_left _ (List.mem_append_left _ (List.mem_of_getElem? (i := 0) rfl))))) rfl rfl rfl dX8_mixer_15 ?_
    refine q_geti (ci := 1) (C := RX1) (T := TX1) (N := 2) hx hb hts (fun _ h9 => List.mem_cons_of_mem _ (List.mem_append_right _ h9)) hown hK hg 2 (by decide) rfl rfl (by decide) rfl 1 (by decide) (hts (.fieldLink RX8 232 "JoinMaps$Blender" "mixerKind" "I") (List.mem_cons_of_mem _ (List.mem_append_left _ (List.mem_append_left _ (List.mem_of_getElem? (i := 1) rfl))))) rfl rfl dX8_mixer_18 ?_
    have hR5 := GS_R hg 2 1
    refine lv_istore_n (i := 2) (lv' := [(2, .int (iI ((sn s1 2 1)))), (0, .ref (ea E 0)), (1, .int (iI (a1)))]) hx hb dX8_mixer_21 rfl hl (by decide) rfl (fun ls hl => ?_)
    refine lv_aload_n hx hb dX8_mixer_22 rfl (lv_at hl 1 rfl) ?_
    refine q_getx (ci := 8) (C := RX8) (T := TX8) (N := 14) (j := 2) hx hb hts (fun _ h9 => List.mem_cons_of_mem _ (List.mem_append_left _ (List.mem_append_right _ h9))) hown hK hg 0 (by decide) rfl rfl (by decide) rfl 1 (by decide) (hts (.fieldLink RX8 21 "JoinMaps" "blender" "LJoinMaps$Blender;") (List.mem_cons_of_mem _ (List.mem_append_left _ (List.mem_append_left _ (List.mem_of_getElem? (i := 0) rfl))))) rfl rfl rfl dX8_mixer_23 ?_
    refine lv_iload_n hx hb dX8_mixer_26 rfl (lv_at hl 2 rfl) ?_
    refine q_puti (ci := 1) (C := RX1) (T := TX1) (N := 2) hx hb hts (fun _ h9 => List.mem_cons_of_mem _ (List.mem_append_right _ h9)) tyX1 tyX1_ok nmX1 hown hK hg 2 (by decide) rfl rfl (by decide) rfl 1 (by decide) (hts (.fieldLink RX8 232 "JoinMaps$Blender" "mixerKind" "I") (List.mem_cons_of_mem _ (List.mem_append_left _ (List.mem_append_left _ (List.mem_of_getElem? (i := 1) rfl))))) rfl rfl (by decide +kernel) rfl ha1 dX8_mixer_27 (fun H locs hg => ?_)
    refine lv_iload_n hx hb dX8_mixer_30 rfl (lv_at hl 0 rfl) ?_
    exact ret_i hx hb hr hlocks hg hR5 hm h dX8_mixer_31
  · have h := h.2 c4
    refine lv_aload_n hx hb dX8_mixer_9 rfl (lv_at hl 0 rfl) ?_
    refine call_i (run_V (a := ea E 0) (As := []) (rest := []) ⟨hx, hb, hml, hown, hts⟩ (ctX8_bad l E  s1 _  h) (cwV 0 hts gX8_mixer_X8_bad rfl rfl rfl ⟨rfl, hdX8_bad⟩ ⟨Nat.le_of_ble_eq_true rfl, Nat.le_of_ble_eq_true rfl⟩) hK hN hg (recv_x (ci := 8) (C := RX8) (T := TX8) (N := 14) hg hK (by decide) rfl (by decide) rfl) rfl hl.1 rfl (cat_sum _ (by simp)) dX8_mixer_10 ⟨Nat.le_refl 0, Nat.le_refl 0⟩) hg (fun r7 s6 H locs hz8 hm2 h hg => ?_)
    have hm := hm.tn hm2
    exact ret_i hx hb hr hlocks hg hz8 hm h dX8_mixer_13
theorem hdX8_type : yX8_type.cls ≠ "java/lang/invoke/MethodHandle" ∧ yX8_type.cls ≠ "java/lang/invoke/VarHandle" ∧ (parseMethodDescriptor yX8_type.desc).map (fun d => d.parameters.length) = some 1 := by decide +kernel
set_option maxRecDepth 100000 in
set_option maxHeartbeats 4000000 in
theorem ctX8_type (l : Launch) (E : Ev) (a1 : Int) (σ : SS) (Q : Int → SS → Prop) (ha1 : R32 a1) (h : wX8_type a1 σ Q) : Met l yX8_type wsX8_type ({ frames := 1, cells := 0, slots := 0, locals := 22 } : Room) (Pc E σ [.ref (ea E 0), .int (iI (a1))]) (Qi E (sz σ) σ Q) 0 0 (Av E) := by
  rw [wX8_type] at h
  refine Met.ofW (cc := cX8_type) (maxL := 2) (ret := (some .int)) (by decide) rfl ?_
  intro p e s m args below meth c s₁ B hml hv
  obtain ⟨rfl, hH, hK, hN⟩ := hv
  have hx := B.exec
  have hb := B.bytes
  have hr := B.returns
  have hts := atoms_spec (ws := wsX8_type) B.pre
  have hown : s.vm.findClass RX8 = some m.cls := findClass_of_methodNamed B.named
  have hlocks := B.notSynchronized
  have hg : GS E σ s s.heap [] := ⟨hH, va_S.rf⟩
  have hm : Mo (sz σ) σ σ := Mo.rf (Nat.le_refl _)
  have hl := ent (vs := [.ref (ea E 0), .int (iI (a1))]) (n := 2) (cats_x (cats_i cats_nil)) (Nat.le_of_ble_eq_true rfl)
  rw [lg_entry_eq]
  generalize (lg_sl ([.ref (ea E 0), .int (iI (a1))]) ++ List.replicate (2 - (lg_sl ([.ref (ea E 0), .int (iI (a1))])).length) Slot.unset).toArray = ls at hl ⊢
  have hl : lv_has ls 2 [(0, .ref (ea E 0)), (1, .int (iI (a1)))] := hl
  refine lv_iload_n hx hb dX8_type_0 rfl (lv_at hl 1 rfl) ?_
  refine lv_iconst (v := iI 0) hx hb dX8_type_1 (by decide) ?_
  refine lv_bipush (v := iI 127) hx hb dX8_type_2 (by decide) ?_
  refine call_z (run_S (As := [.int (iI (a1)), .int (iI (0)), .int (iI (127))]) (rest := []) ⟨hx, hb, hml, hown, hts⟩ (ctX8_isIn l E a1 0 127 σ _ ha1 (by decide) (by decide) h) (va_cwS 3 hts gX8_type_X8_isIn rfl rfl rfl hdX8_isIn ⟨Nat.le_of_ble_eq_true rfl, Nat.le_of_ble_eq_true rfl⟩) hK hN hg rfl hl.1 rfl (cat_sum _ (by simp)) dX8_type_4 ⟨Nat.le_refl 0, Nat.le_refl 0⟩) hg (fun r2 s1 H locs hz3 hm2 h hg => ?_)
  have hm := hm.tn hm2
  refine k_ne (tgt := 15) hx hb dX8_type_7 (by decide) (z_R hz3) (fun c4 => ?_) (fun c4 => ?_)
  · have h := h.1 c4
    refine lv_aload_n hx hb dX8_type_15 rfl (lv_at hl 0 rfl) ?_
    refine q_geti (ci := 8) (C := RX8) (T := TX8) (N := 14) hx hb hts (fun _ h9 => List.mem_cons_of_mem _ (List.mem_append_right _ h9)) hown hK hg 0 (by decide) rfl rfl (by decide) rfl 10 (by decide) (hts (.fieldLink RX8 235 "JoinMaps" "typed" "I") (List.mem_cons_of_mem _ (List.mem_append_left _ (List.mem_of_getElem? (i := 0) rfl)))) rfl rfl dX8_type_16 ?_
    have hR5 := GS_R hg 0 10
    refine lv_bipush (v := iI 120) hx hb dX8_type_19 (by decide) ?_
    refine j_lt (tgt := 29) hx hb dX8_type_21 (by decide) hR5 (by decide) (fun c6 => ?_) (fun c6 => ?_)
    · have h := h.1 c6
      refine lv_aload_n hx hb dX8_type_29 rfl (lv_at hl 0 rfl) ?_
      refine q_getx (ci := 8) (C := RX8) (T := TX8) (N := 14) (j := 6) hx hb hts (fun _ h9 => List.mem_cons_of_mem _ (List.mem_append_right _ h9)) hown hK hg 0 (by decide) rfl rfl (by decide) rfl 4 (by decide) (hts (.fieldLink RX8 38 "JoinMaps" "text" "[B") (List.mem_cons_of_mem _ (List.mem_append_left _ (List.mem_of_getElem? (i := 1) rfl)))) rfl rfl rfl dX8_type_30 ?_
      refine lv_aload_n hx hb dX8_type_33 rfl (lv_at hl 0 rfl) ?_
      refine q_geti (ci := 8) (C := RX8) (T := TX8) (N := 14) hx hb hts (fun _ h9 => List.mem_cons_of_mem _ (List.mem_append_right _ h9)) hown hK hg 0 (by decide) rfl rfl (by decide) rfl 10 (by decide) (hts (.fieldLink RX8 235 "JoinMaps" "typed" "I") (List.mem_cons_of_mem _ (List.mem_append_left _ (List.mem_of_getElem? (i := 0) rfl)))) rfl rfl dX8_type_34 ?_
      have hR7 := GS_R hg 0 10
      refine lv_iload_n hx hb dX8_type_37 rfl (lv_at hl 1 rfl) ?_
      obtain ⟨hP8, h⟩ := h
      refine q_i2b hx hb hP8 dX8_type_38 ?_
      obtain ⟨hP9, hP10, h⟩ := h
      refine q_bast (N := 120) hx hb hK hg 6 (by decide) rfl rfl hP9 hP10 (by decide) hP8 dX8_type_39 (fun H locs hg => ?_)
      refine lv_aload_n hx hb dX8_type_40 rfl (lv_at hl 0 rfl) ?_
      refine lv_dup hx hb dX8_type_41 rfl ?_
      refine q_geti (ci := 8) (C := RX8) (T := TX8) (N := 14) hx hb hts (fun _ h9 => List.mem_cons_of_mem _ (List.mem_append_right _ h9)) hown hK hg 0 (by decide) rfl rfl (by decide) rfl 10 (by decide) (hts (.fieldLink RX8 235 "JoinMaps" "typed" "I") (List.mem_cons_of_mem _ (List.mem_append_left _ (List.mem_of_getElem? (i := 0) rfl)))) rfl rfl dX8_type_42 ?_
      have hR11 := GS_R hg 0 10
      refine lv_iconst (v := iI 1) hx hb dX8_type_45 (by decide) ?_
      refine q_iadd hx hb dX8_type_46 ?_
      obtain ⟨hR12, h⟩ := h
      refine q_puti (ci := 8) (C := RX8) (T := TX8) (N := 14) hx hb hts (fun _ h9 => List.mem_cons_of_mem _ (List.mem_append_right _ h9)) tyX8 tyX8_ok nmX8 hown hK hg 0 (by decide) rfl rfl (by decide) rfl 10 (by decide) (hts (.fieldLink RX8 235 "JoinMaps" "typed" "I") (List.mem_cons_of_mem _ (List.mem_append_left _ (List.mem_of_getElem? (i := 0) rfl)))) rfl rfl (by decide +kernel) rfl hR12 dX8_type_47 (fun H locs hg => ?_)
      refine lv_aload_n hx hb dX8_type_50 rfl (lv_at hl 0 rfl) ?_
      refine q_geti (ci := 8) (C := RX8) (T := TX8) (N := 14) hx hb hts (fun _ h9 => List.mem_cons_of_mem _ (List.mem_append_right _ h9)) hown hK hg 0 (by decide) rfl rfl (by decide) rfl 10 (by decide) (hts (.fieldLink RX8 235 "JoinMaps" "typed" "I") (List.mem_cons_of_mem _ (List.mem_append_left _ (List.mem_of_getElem? (i := 0) rfl)))) rfl rfl dX8_type_51 ?_
      have hR13 := GS_R hg 0 10
      exact ret_i hx hb hr hlocks hg hR13 hm h dX8_type_54
    · have h := h.2 c6
      refine lv_aload_n hx hb dX8_type_24 rfl (lv_at hl 0 rfl) ?_
      refine call_i (run_V (a := ea E 0) (As := []) (rest := []) ⟨hx, hb, hml, hown, hts⟩ (ctX8_full l E  s1 _  h) (cwV 0 hts gX8_type_X8_full rfl rfl rfl ⟨rfl, hdX8_full⟩ ⟨Nat.le_of_ble_eq_true rfl, Nat.le_of_ble_eq_true rfl⟩) hK hN hg (recv_x (ci := 8) (C := RX8) (T := TX8) (N := 14) hg hK (by decide) rfl (by decide) rfl) rfl hl.1 rfl (cat_sum _ (by simp)) dX8_type_25 ⟨Nat.le_refl 0, Nat.le_refl 0⟩) hg (fun r15 s14 H locs hz16 hm2 h hg => ?_)
      have hm := hm.tn hm2
      exact ret_i hx hb hr hlocks hg hz16 hm h dX8_type_28
  · have h := h.2 c4
    refine lv_aload_n hx hb dX8_type_10 rfl (lv_at hl 0 rfl) ?_
    refine call_i (run_V (a := ea E 0) (As := []) (rest := []) ⟨hx, hb, hml, hown, hts⟩ (ctX8_bad l E  s1 _  h) (cwV 0 hts gX8_type_X8_bad rfl rfl rfl ⟨rfl, hdX8_bad⟩ ⟨Nat.le_of_ble_eq_true rfl, Nat.le_of_ble_eq_true rfl⟩) hK hN hg (recv_x (ci := 8) (C := RX8) (T := TX8) (N := 14) hg hK (by decide) rfl (by decide) rfl) rfl hl.1 rfl (cat_sum _ (by simp)) dX8_type_11 ⟨Nat.le_refl 0, Nat.le_refl 0⟩) hg (fun r18 s17 H locs hz19 hm2 h hg => ?_)
    have hm := hm.tn hm2
    exact ret_i hx hb hr hlocks hg hz19 hm h dX8_type_14
theorem hdX8_clear : yX8_clear.cls ≠ "java/lang/invoke/MethodHandle" ∧ yX8_clear.cls ≠ "java/lang/invoke/VarHandle" ∧ (parseMethodDescriptor yX8_clear.desc).map (fun d => d.parameters.length) = some 0 := by decide +kernel
set_option maxRecDepth 100000 in
set_option maxHeartbeats 4000000 in
theorem ctX8_clear (l : Launch) (E : Ev)  (σ : SS) (Q : Int → SS → Prop)  (h : wX8_clear  σ Q) : Met l yX8_clear wsX8_clear ({ frames := 0, cells := 0, slots := 0, locals := 0 } : Room) (Pc E σ [.ref (ea E 0)]) (Qi E (sz σ) σ Q) 0 0 (Av E) := by
  rw [wX8_clear] at h
  refine Met.ofW (cc := cX8_clear) (maxL := 2) (ret := (some .int)) (by decide) rfl ?_
  intro p e s m args below meth c s₁ B hml hv
  obtain ⟨rfl, hH, hK, hN⟩ := hv
  have hx := B.exec
  have hb := B.bytes
  have hr := B.returns
  have hts := atoms_spec (ws := wsX8_clear) B.pre
  have hown : s.vm.findClass RX8 = some m.cls := findClass_of_methodNamed B.named
  have hlocks := B.notSynchronized
  have hg : GS E σ s s.heap [] := ⟨hH, va_S.rf⟩
  have hm : Mo (sz σ) σ σ := Mo.rf (Nat.le_refl _)
  have hl := ent (vs := [.ref (ea E 0)]) (n := 2) (cats_x cats_nil) (Nat.le_of_ble_eq_true rfl)
  rw [lg_entry_eq]
  generalize (lg_sl ([.ref (ea E 0)]) ++ List.replicate (2 - (lg_sl ([.ref (ea E 0)])).length) Slot.unset).toArray = ls at hl ⊢
  have hl : lv_has ls 2 [(0, .ref (ea E 0))] := hl
  refine lv_aload_n hx hb dX8_clear_0 rfl (lv_at hl 0 rfl) ?_
  refine q_geti (ci := 8) (C := RX8) (T := TX8) (N := 14) hx hb hts (fun _ h9 => List.mem_cons_of_mem _ (List.mem_append_right _ h9)) hown hK hg 0 (by decide) rfl rfl (by decide) rfl 10 (by decide) (hts (.fieldLink RX8 235 "JoinMaps" "typed" "I") (List.mem_cons_of_mem _ (List.mem_append_left _ (List.mem_of_getElem? (i := 0) rfl)))) rfl rfl dX8_clear_1 ?_
  have hR1 := GS_R hg 0 10
  refine lv_istore_n (i := 1) (lv' := [(1, .int (iI ((sn σ 0 10)))), (0, .ref (ea E 0))]) hx hb dX8_clear_4 rfl hl (by decide) rfl (fun ls hl => ?_)
  refine lv_aload_n hx hb dX8_clear_5 rfl (lv_at hl 1 rfl) ?_
  refine lv_iconst (v := iI 0) hx hb dX8_clear_6 (by decide) ?_
  refine q_puti (ci := 8) (C := RX8) (T := TX8) (N := 14) hx hb hts (fun _ h9 => List.mem_cons_of_mem _ (List.mem_append_right _ h9)) tyX8 tyX8_ok nmX8 hown hK hg 0 (by decide) rfl rfl (by decide) rfl 10 (by decide) (hts (.fieldLink RX8 235 "JoinMaps" "typed" "I") (List.mem_cons_of_mem _ (List.mem_append_left _ (List.mem_of_getElem? (i := 0) rfl)))) rfl rfl (by decide +kernel) rfl (by decide) dX8_clear_7 (fun H locs hg => ?_)
  refine lv_iload_n hx hb dX8_clear_10 rfl (lv_at hl 0 rfl) ?_
  exact ret_i hx hb hr hlocks hg hR1 hm h dX8_clear_11
theorem hdX8_sums : yX8_sums.cls ≠ "java/lang/invoke/MethodHandle" ∧ yX8_sums.cls ≠ "java/lang/invoke/VarHandle" ∧ (parseMethodDescriptor yX8_sums.desc).map (fun d => d.parameters.length) = some 0 := by decide +kernel
set_option maxRecDepth 100000 in
set_option maxHeartbeats 4000000 in
theorem ctX8_sums (l : Launch) (E : Ev) (tp : Nat) (σ : SS) (Q : Int → SS → Prop)  (ht : sz σ ≤ tp) (h : wX8_sums tp σ Q) : Met l yX8_sums wsX8_sums ({ frames := 140, cells := tp - sz σ, slots := 9 * (tp - sz σ), locals := 3691 } : Room) (Pc E σ [.ref (ea E 0)]) (Qi E tp σ Q) (tp - sz σ) (9 * (tp - sz σ)) (Av E) := by
  rw [wX8_sums] at h
  refine Met.ofW (cc := cX8_sums) (maxL := 6) (ret := (some .int)) (by decide) rfl ?_
  intro p e s m args below meth c s₁ B hml hv
  obtain ⟨rfl, hH, hK, hN⟩ := hv
  have hx := B.exec
  have hb := B.bytes
  have hr := B.returns
  have hts := atoms_spec (ws := wsX8_sums) B.pre
  have hown : s.vm.findClass RX8 = some m.cls := findClass_of_methodNamed B.named
  have hlocks := B.notSynchronized
  have hg : GS E σ s s.heap [] := ⟨hH, va_S.rf⟩
  have hm : Mo tp σ σ := Mo.rf ht
  have hl := ent (vs := [.ref (ea E 0)]) (n := 6) (cats_x cats_nil) (Nat.le_of_ble_eq_true rfl)
  rw [lg_entry_eq]
  generalize (lg_sl ([.ref (ea E 0)]) ++ List.replicate (6 - (lg_sl ([.ref (ea E 0)])).length) Slot.unset).toArray = ls at hl ⊢
  have hl : lv_has ls 6 [(0, .ref (ea E 0))] := hl
  refine W_narrow hg hH (show sz σ ≤ sz σ + (sz σ - sz σ) by omega) (show 9 * (sz σ - sz σ) ≤ 9 * (sz σ - sz σ) from Nat.le_refl _) ?_
  have J35 : ∀ (k : Nat), ∀ (v2 : Int) (sL : SS) (H : Heap) (locs : List Loc) (ls : Array Slot), GS E sL s H locs → Mo tp σ sL → lv_has ls 6 [(0, .ref (ea E 0)), (2, .int (iI (v2)))] → wX8_sums_L35 tp Q  k v2 sL → W p l e (headSpec wsX8_sums ({ frames := 140, cells := tp - sz σ, slots := 9 * (tp - sz σ), locals := 3691 } : Room)).room s m (List.toArray [.ref (ea E 0)]) below meth c H locs (sz sL - sz σ) (9 * (sz sL - sz σ)) (MQ below (Qi E tp σ Q) (List.toArray [.ref (ea E 0)]) s (tp - sz σ) (9 * (tp - sz σ)) (Av E)) (F0 m 35 ls []) := by
    intro k
    induction k with
    | zero => intro v2 sL H locs ls hg hm hl h; exact False.elim h
    | succ k ih =>
      intro v2 sL H locs ls hg hm hl h
      rw [wX8_sums_L35] at h
      refine lv_iload_n hx hb dX8_sums_35 rfl (lv_at hl 1 rfl) ?_
      refine lv_aload_n hx hb dX8_sums_36 rfl (lv_at hl 0 rfl) ?_
      refine q_getx (ci := 8) (C := RX8) (T := TX8) (N := 14) (j := 7) hx hb hts (fun _ h9 => List.mem_cons_of_mem _ (List.mem_append_left _ (List.mem_append_left _ (List.mem_append_left _ (List.mem_append_left _ (List.mem_append_left _ (List.mem_append_left _ (List.mem_append_left _ (List.mem_append_right _ h9))))))))) hown hK hg 0 (by decide) rfl rfl (by decide) rfl 5 (by decide) (hts (.fieldLink RX8 45 "JoinMaps" "plan" "LJoinMaps$Plan;") (List.mem_cons_of_mem _ (List.mem_append_left _ (List.mem_append_left _ (List.mem_append_left _ (List.mem_append_left _ (List.mem_append_left _ (List.mem_append_left _ (List.mem_append_left _ (List.mem_append_left _ (List.mem_append_left _ (List.mem_of_getElem? (i := 4) rfl)))))))))))) rfl rfl rfl dX8_sums_37 ?_
      refine q_geti (ci := 4) (C := RX4) (T := TX4) (N := 3) hx hb hts (fun _ h9 => List.mem_cons_of_mem _ (List.mem_append_left _ (List.mem_append_left _ (List.mem_append_left _ (List.mem_append_left _ (List.mem_append_left _ (List.mem_append_left _ (List.mem_append_right _ h9)))))))) hown hK hg 7 (by decide) rfl rfl (by decide) rfl 2 (by decide) (hts (.fieldLink RX8 244 "JoinMaps$Plan" "length" "I") (List.mem_cons_of_mem _ (List.mem_append_left _ (List.mem_append_left _ (List.mem_append_left _ (List.mem_append_left _ (List.mem_append_left _ (List.mem_append_left _ (List.mem_append_left _ (List.mem_append_left _ (List.mem_append_left _ (List.mem_of_getElem? (i := 5) rfl)))))))))))) rfl rfl dX8_sums_40 ?_
      have hR10 := GS_R hg 7 2
      obtain ⟨hR11, h⟩ := h
      refine j_ge (tgt := 143) hx hb dX8_sums_43 (by decide) hR11 hR10 (fun c12 => ?_) (fun c12 => ?_)
      · have h := h.1 c12
        refine lv_aload_n hx hb dX8_sums_143 rfl (lv_at hl 0 rfl) ?_
        refine q_getx (ci := 8) (C := RX8) (T := TX8) (N := 14) (j := 4) hx hb hts (fun _ h9 => List.mem_cons_of_mem _ (List.mem_append_left _ (List.mem_append_left _ (List.mem_append_left _ (List.mem_append_left _ (List.mem_append_left _ (List.mem_append_left _ (List.mem_append_left _ (List.mem_append_right _ h9))))))))) hown hK hg 0 (by decide) rfl rfl (by decide) rfl 3 (by decide) (hts (.fieldLink RX8 34 "JoinMaps" "versions" "LJoinMaps$Versions;") (List.mem_cons_of_mem _ (List.mem_append_left _ (List.mem_append_left _ (List.mem_append_left _ (List.mem_append_left _ (List.mem_append_left _ (List.mem_append_left _ (List.mem_append_left _ (List.mem_append_left _ (List.mem_append_left _ (List.mem_of_getElem? (i := 7) rfl)))))))))))) rfl rfl rfl dX8_sums_144 ?_
        refine lv_aload_n hx hb dX8_sums_147 rfl (lv_at hl 0 rfl) ?_
        refine q_getx (ci := 8) (C := RX8) (T := TX8) (N := 14) (j := 3) hx hb hts (fun _ h9 => List.mem_cons_of_mem _ (List.mem_append_left _ (List.mem_append_left _ (List.mem_append_left _ (List.mem_append_left _ (List.mem_append_left _ (List.mem_append_left _ (List.mem_append_left _ (List.mem_append_right _ h9))))))))) hown hK hg 0 (by decide) rfl rfl (by decide) rfl 2 (by decide) (hts (.fieldLink RX8 27 "JoinMaps" "maps" "[LJoinMaps$Node;") (List.mem_cons_of_mem _ (List.mem_append_left _ (List.mem_append_left _ (List.mem_append_left _ (List.mem_append_left _ (List.mem_append_left _ (List.mem_append_left _ (List.mem_append_left _ (List.mem_append_left _ (List.mem_append_left _ (List.mem_of_getElem? (i := 3) rfl)))))))))))) rfl rfl rfl dX8_sums_148 ?_
        refine call_v (run_V (a := ea E 4) (As := [.ref (ea E 3)]) (rest := []) ⟨hx, hb, hml, hown, hts⟩ (ctX7_leave l E  sL _  h) (cwV 1 hts gX8_sums_X7_leave rfl rfl rfl ⟨rfl, hdX7_leave⟩ ⟨Nat.le_of_ble_eq_true rfl, Nat.le_of_ble_eq_true rfl⟩) hK hN hg (recv_x (ci := 7) (C := RX7) (T := TX7) (N := 3) hg hK (by decide) rfl (by decide) rfl) rfl hl.1 rfl (cat_sum _ (by simp)) dX8_sums_151 (show (sz sL - sz σ) + 0 ≤ tp - sz σ ∧ 9 * (sz sL - sz σ) + 0 ≤ 9 * (tp - sz σ) by have q1 := hm.2.1; have q2 := hm.2.2; omega)) hg (fun s13 H locs hm2 h hg => ?_)
        have hm := hm.tn hm2
        refine W_narrow hg hH (show sz s13 ≤ sz σ + (sz s13 - sz σ) by have q1 := hm.2.1; omega) (Nat.le_refl _) ?_
        refine lv_aload_n hx hb dX8_sums_154 rfl (lv_at hl 0 rfl) ?_
        refine q_getx (ci := 8) (C := RX8) (T := TX8) (N := 14) (j := 12) hx hb hts (fun _ h9 => List.mem_cons_of_mem _ (List.mem_append_left _ (List.mem_append_left _ (List.mem_append_left _ (List.mem_append_left _ (List.mem_append_left _ (List.mem_append_left _ (List.mem_append_left _ (List.mem_append_right _ h9))))))))) hown hK hg 0 (by decide) rfl rfl (by decide) rfl 7 (by decide) (hts (.fieldLink RX8 61 "JoinMaps" "bench" "LJoinMaps$Bench;") (List.mem_cons_of_mem _ (List.mem_append_left _ (List.mem_append_left _ (List.mem_append_left _ (List.mem_append_left _ (List.mem_append_left _ (List.mem_append_left _ (List.mem_append_left _ (List.mem_append_left _ (List.mem_append_left _ (List.mem_of_getElem? (i := 2) rfl)))))))))))) rfl rfl rfl dX8_sums_155 ?_
        refine lv_aload_n hx hb dX8_sums_158 rfl (lv_at hl 0 rfl) ?_
        refine q_getx (ci := 8) (C := RX8) (T := TX8) (N := 14) (j := 3) hx hb hts (fun _ h9 => List.mem_cons_of_mem _ (List.mem_append_left _ (List.mem_append_left _ (List.mem_append_left _ (List.mem_append_left _ (List.mem_append_left _ (List.mem_append_left _ (List.mem_append_left _ (List.mem_append_right _ h9))))))))) hown hK hg 0 (by decide) rfl rfl (by decide) rfl 2 (by decide) (hts (.fieldLink RX8 27 "JoinMaps" "maps" "[LJoinMaps$Node;") (List.mem_cons_of_mem _ (List.mem_append_left _ (List.mem_append_left _ (List.mem_append_left _ (List.mem_append_left _ (List.mem_append_left _ (List.mem_append_left _ (List.mem_append_left _ (List.mem_append_left _ (List.mem_append_left _ (List.mem_of_getElem? (i := 3) rfl)))))))))))) rfl rfl rfl dX8_sums_159 ?_
        refine call_v (run_V (a := ea E 12) (As := [.ref (ea E 3)]) (rest := []) ⟨hx, hb, hml, hown, hts⟩ (ctX0_bring l E  s13 _  h) (cwV 1 hts gX8_sums_X0_bring rfl rfl rfl ⟨rfl, hdX0_bring⟩ ⟨Nat.le_of_ble_eq_true rfl, Nat.le_of_ble_eq_true rfl⟩) hK hN hg (recv_x (ci := 0) (C := RX0) (T := TX0) (N := 4) hg hK (by decide) rfl (by decide) rfl) rfl hl.1 rfl (cat_sum _ (by simp)) dX8_sums_162 (show (sz s13 - sz σ) + 0 ≤ tp - sz σ ∧ 9 * (sz s13 - sz σ) + 0 ≤ 9 * (tp - sz σ) by have q1 := hm.2.1; have q2 := hm.2.2; omega)) hg (fun s16 H locs hm2 h hg => ?_)
        have hm := hm.tn hm2
        refine W_narrow hg hH (show sz s16 ≤ sz σ + (sz s16 - sz σ) by have q1 := hm.2.1; omega) (Nat.le_refl _) ?_
        refine lv_aload_n hx hb dX8_sums_165 rfl (lv_at hl 0 rfl) ?_
        refine q_getx (ci := 8) (C := RX8) (T := TX8) (N := 14) (j := 10) hx hb hts (fun _ h9 => List.mem_cons_of_mem _ (List.mem_append_left _ (List.mem_append_left _ (List.mem_append_left _ (List.mem_append_left _ (List.mem_append_left _ (List.mem_append_left _ (List.mem_append_left _ (List.mem_append_right _ h9))))))))) hown hK hg 0 (by decide) rfl rfl (by decide) rfl 6 (by decide) (hts (.fieldLink RX8 54 "JoinMaps" "reader" "LJoinMaps$Reader;") (List.mem_cons_of_mem _ (List.mem_append_left _ (List.mem_append_left _ (List.mem_append_left _ (List.mem_append_left _ (List.mem_append_left _ (List.mem_append_left _ (List.mem_append_left _ (List.mem_append_left _ (List.mem_append_left _ (List.mem_of_getElem? (i := 0) rfl)))))))))))) rfl rfl rfl dX8_sums_166 ?_
        refine q_geti (ci := 5) (C := RX5) (T := TX5) (N := 11) hx hb hts (fun _ h9 => List.mem_cons_of_mem _ (List.mem_append_left _ (List.mem_append_left _ (List.mem_append_left _ (List.mem_append_left _ (List.mem_append_left _ (List.mem_append_right _ h9))))))) hown hK hg 10 (by decide) rfl rfl (by decide) rfl 10 (by decide) (hts (.fieldLink RX8 264 "JoinMaps$Reader" "sumCount" "I") (List.mem_cons_of_mem _ (List.mem_append_left _ (List.mem_append_left _ (List.mem_append_left _ (List.mem_append_left _ (List.mem_append_left _ (List.mem_append_left _ (List.mem_append_left _ (List.mem_append_left _ (List.mem_append_left _ (List.mem_of_getElem? (i := 8) rfl)))))))))))) rfl rfl dX8_sums_169 ?_
        have hR19 := GS_R hg 10 10
        refine W.widen (k := tp - sz σ) (n := 9 * (tp - sz σ)) (show sz s16 - sz σ ≤ _ by have q1 := hm.2.2; omega) (show 9 * (sz s16 - sz σ) ≤ _ by have q1 := hm.2.2; omega) ?_
        exact ret_i hx hb hr hlocks hg hR19 hm h dX8_sums_172
      · have h := h.2 c12
        refine lv_aload_n hx hb dX8_sums_46 rfl (lv_at hl 0 rfl) ?_
        refine call_v (run_V (a := ea E 0) (As := []) (rest := []) ⟨hx, hb, hml, hown, hts⟩ (ctX8_startChange l E  sL _  h) (cwV 0 hts gX8_sums_X8_startChange rfl rfl rfl ⟨rfl, hdX8_startChange⟩ ⟨Nat.le_of_ble_eq_true rfl, Nat.le_of_ble_eq_true rfl⟩) hK hN hg (recv_x (ci := 8) (C := RX8) (T := TX8) (N := 14) hg hK (by decide) rfl (by decide) rfl) rfl hl.1 rfl (cat_sum _ (by simp)) dX8_sums_47 (show (sz sL - sz σ) + 0 ≤ tp - sz σ ∧ 9 * (sz sL - sz σ) + 0 ≤ 9 * (tp - sz σ) by have q1 := hm.2.1; have q2 := hm.2.2; omega)) hg (fun s20 H locs hm2 h hg => ?_)
        have hm := hm.tn hm2
        refine W_narrow hg hH (show sz s20 ≤ sz σ + (sz s20 - sz σ) by have q1 := hm.2.1; omega) (Nat.le_refl _) ?_
        refine lv_aload_n hx hb dX8_sums_50 rfl (lv_at hl 0 rfl) ?_
        refine q_getx (ci := 8) (C := RX8) (T := TX8) (N := 14) (j := 7) hx hb hts (fun _ h9 => List.mem_cons_of_mem _ (List.mem_append_left _ (List.mem_append_left _ (List.mem_append_left _ (List.mem_append_left _ (List.mem_append_left _ (List.mem_append_left _ (List.mem_append_left _ (List.mem_append_right _ h9))))))))) hown hK hg 0 (by decide) rfl rfl (by decide) rfl 5 (by decide) (hts (.fieldLink RX8 45 "JoinMaps" "plan" "LJoinMaps$Plan;") (List.mem_cons_of_mem _ (List.mem_append_left _ (List.mem_append_left _ (List.mem_append_left _ (List.mem_append_left _ (List.mem_append_left _ (List.mem_append_left _ (List.mem_append_left _ (List.mem_append_left _ (List.mem_append_left _ (List.mem_of_getElem? (i := 4) rfl)))))))))))) rfl rfl rfl dX8_sums_51 ?_
        refine lv_iload_n hx hb dX8_sums_54 rfl (lv_at hl 1 rfl) ?_
        refine call_i (run_V (a := ea E 7) (As := [.int (iI (v2))]) (rest := []) ⟨hx, hb, hml, hown, hts⟩ (ctX4_deedAt l E v2 s20 _ hR11 h) (cwV 1 hts gX8_sums_X4_deedAt rfl rfl rfl ⟨rfl, hdX4_deedAt⟩ ⟨Nat.le_of_ble_eq_true rfl, Nat.le_of_ble_eq_true rfl⟩) hK hN hg (recv_x (ci := 4) (C := RX4) (T := TX4) (N := 3) hg hK (by decide) rfl (by decide) rfl) rfl hl.1 rfl (cat_sum _ (by simp)) dX8_sums_55 (show (sz s20 - sz σ) + 0 ≤ tp - sz σ ∧ 9 * (sz s20 - sz σ) + 0 ≤ 9 * (tp - sz σ) by have q1 := hm.2.1; have q2 := hm.2.2; omega)) hg (fun r24 s23 H locs hz25 hm2 h hg => ?_)
        have hm := hm.tn hm2
        refine W_narrow hg hH (show sz s23 ≤ sz σ + (sz s23 - sz σ) by have q1 := hm.2.1; omega) (Nat.le_refl _) ?_
        refine lv_istore_n (i := 3) (lv' := [(3, .int (iI (r24))), (0, .ref (ea E 0)), (2, .int (iI (v2)))]) hx hb dX8_sums_58 rfl hl (by decide) rfl (fun ls hl => ?_)
        refine lv_iload_n hx hb dX8_sums_59 rfl (lv_at hl 0 rfl) ?_
        refine lv_iconst (v := iI 3) hx hb dX8_sums_60 (by decide) ?_
        refine j_le (tgt := 83) hx hb dX8_sums_61 (by decide) hz25 (by decide) (fun c26 => ?_) (fun c26 => ?_)
        · have h := h.1 c26
          refine lv_aload_n hx hb dX8_sums_83 rfl (lv_at hl 1 rfl) ?_
          refine q_getx (ci := 8) (C := RX8) (T := TX8) (N := 14) (j := 12) hx hb hts (fun _ h9 => List.mem_cons_of_mem _ (List.mem_append_left _ (List.mem_append_left _ (List.mem_append_left _ (List.mem_append_left _ (List.mem_append_left _ (List.mem_append_left _ (List.mem_append_left _ (List.mem_append_right _ h9))))))))) hown hK hg 0 (by decide) rfl rfl (by decide) rfl 7 (by decide) (hts (.fieldLink RX8 61 "JoinMaps" "bench" "LJoinMaps$Bench;") (List.mem_cons_of_mem _ (List.mem_append_left _ (List.mem_append_left _ (List.mem_append_left _ (List.mem_append_left _ (List.mem_append_left _ (List.mem_append_left _ (List.mem_append_left _ (List.mem_append_left _ (List.mem_append_left _ (List.mem_of_getElem? (i := 2) rfl)))))))))))) rfl rfl rfl dX8_sums_84 ?_
          refine call_r (run_V (a := ea E 12) (As := []) (rest := []) ⟨hx, hb, hml, hown, hts⟩ (ctX0_pop l E  s23 _  h) (cwV 0 hts gX8_sums_X0_pop rfl rfl rfl ⟨rfl, hdX0_pop⟩ ⟨Nat.le_of_ble_eq_true rfl, Nat.le_of_ble_eq_true rfl⟩) hK hN hg (recv_x (ci := 0) (C := RX0) (T := TX0) (N := 4) hg hK (by decide) rfl (by decide) rfl) rfl hl.1 rfl (cat_sum _ (by simp)) dX8_sums_87 (show (sz s23 - sz σ) + 0 ≤ tp - sz σ ∧ 9 * (sz s23 - sz σ) + 0 ≤ 9 * (tp - sz σ) by have q1 := hm.2.1; have q2 := hm.2.2; omega)) hg (fun r28 s27 H locs hz29 hm2 h hg => ?_)
          have hm := hm.tn hm2
          refine W_narrow hg hH (show sz s27 ≤ sz σ + (sz s27 - sz σ) by have q1 := hm.2.1; omega) (Nat.le_refl _) ?_
          refine q_astore (i := 4) (lv' := [(4, va_rf (r28)), (3, .int (iI (r24))), (0, .ref (ea E 0)), (2, .int (iI (v2)))]) hx hb dX8_sums_90 hl (by decide) (by simp [List.filter_cons, rf_cat, ct_i, ct_l, ct_x]) (fun ls hl => ?_)
          refine lv_aload_n hx hb dX8_sums_92 rfl (lv_at hl 2 rfl) ?_
          refine q_getx (ci := 8) (C := RX8) (T := TX8) (N := 14) (j := 2) hx hb hts (fun _ h9 => List.mem_cons_of_mem _ (List.mem_append_left _ (List.mem_append_left _ (List.mem_append_left _ (List.mem_append_left _ (List.mem_append_left _ (List.mem_append_left _ (List.mem_append_left _ (List.mem_append_right _ h9))))))))) hown hK hg 0 (by decide) rfl rfl (by decide) rfl 1 (by decide) (hts (.fieldLink RX8 21 "JoinMaps" "blender" "LJoinMaps$Blender;") (List.mem_cons_of_mem _ (List.mem_append_left _ (List.mem_append_left _ (List.mem_append_left _ (List.mem_append_left _ (List.mem_append_left _ (List.mem_append_left _ (List.mem_append_left _ (List.mem_append_left _ (List.mem_append_left _ (List.mem_of_getElem? (i := 6) rfl)))))))))))) rfl rfl rfl dX8_sums_93 ?_
          refine lv_iload_n hx hb dX8_sums_96 rfl (lv_at hl 1 rfl) ?_
          refine lv_aload_n hx hb dX8_sums_97 rfl (lv_at hl 2 rfl) ?_
          refine q_getx (ci := 8) (C := RX8) (T := TX8) (N := 14) (j := 12) hx hb hts (fun _ h9 => List.mem_cons_of_mem _ (List.mem_append_left _ (List.mem_append_left _ (List.mem_append_left _ (List.mem_append_left _ (List.mem_append_left _ (List.mem_append_left _ (List.mem_append_left _ (List.mem_append_right _ h9))))))))) hown hK hg 0 (by decide) rfl rfl (by decide) rfl 7 (by decide) (hts (.fieldLink RX8 61 "JoinMaps" "bench" "LJoinMaps$Bench;") (List.mem_cons_of_mem _ (List.mem_append_left _ (List.mem_append_left _ (List.mem_append_left _ (List.mem_append_left _ (List.mem_append_left _ (List.mem_append_left _ (List.mem_append_left _ (List.mem_append_left _ (List.mem_append_left _ (List.mem_of_getElem? (i := 2) rfl)))))))))))) rfl rfl rfl dX8_sums_98 ?_
          refine call_r (run_V (a := ea E 12) (As := []) (rest := [.int (iI (r24)), .ref (ea E 2)]) ⟨hx, hb, hml, hown, hts⟩ (ctX0_pop l E  s27 _  h) (cwV 0 hts gX8_sums_X0_pop rfl rfl rfl ⟨rfl, hdX0_pop⟩ ⟨Nat.le_of_ble_eq_true rfl, Nat.le_of_ble_eq_true rfl⟩) hK hN hg (recv_x (ci := 0) (C := RX0) (T := TX0) (N := 4) hg hK (by decide) rfl (by decide) rfl) rfl hl.1 rfl (cat_sum _ (by simp)) dX8_sums_101 (show (sz s27 - sz σ) + 0 ≤ tp - sz σ ∧ 9 * (sz s27 - sz σ) + 0 ≤ 9 * (tp - sz σ) by have q1 := hm.2.1; have q2 := hm.2.2; omega)) hg (fun r31 s30 H locs hz32 hm2 h hg => ?_)
          have hS33 : ∀ b, r28 = some b → sS s30 b := (fun b h0 => hm2.1 b (hz29 b h0))
          have hm := hm.tn hm2
          refine W_narrow hg hH (show sz s30 ≤ sz σ + (sz s30 - sz σ) by have q1 := hm.2.1; omega) (Nat.le_refl _) ?_
          refine q_aload hx hb dX8_sums_104 (lv_at hl 0 rfl) ?_
          refine lv_iconst (v := iI 0) hx hb dX8_sums_106 (by decide) ?_
          refine call_r (run_V (a := ea E 2) (As := [.int (iI (r24)), va_rf (r31), va_rf (r28), .int (iI (0))]) (rest := []) ⟨hx, hb, hml, hown, hts⟩ (ctX1_blend l E 44 tp r24 r31 r28 0 s30 _ hz25 hz32 hS33 (by decide) hm.2.2 h) (cwV 4 hts gX8_sums_X1_blend rfl rfl rfl ⟨rfl, hdX1_blend⟩ ⟨Nat.le_of_ble_eq_true rfl, Nat.le_of_ble_eq_true rfl⟩) hK hN hg (recv_x (ci := 1) (C := RX1) (T := TX1) (N := 2) hg hK (by decide) rfl (by decide) rfl) rfl hl.1 rfl (cat_sum _ (by simp)) dX8_sums_107 (show (sz s30 - sz σ) + (tp - sz s30) ≤ tp - sz σ ∧ 9 * (sz s30 - sz σ) + 9 * (tp - sz s30) ≤ 9 * (tp - sz σ) by have q1 := hm.2.1; have q2 := hm.2.2; omega)) hg (fun r35 s34 H locs hz36 hm2 h hg => ?_)
          have hS37 : ∀ b, r28 = some b → sS s34 b := (fun b h0 => hm2.1 b (hS33 b h0))
          have hm := hm.ta hm2
          refine W_narrow hg hH (show sz s34 ≤ sz σ + (sz s34 - sz σ) by have q1 := hm.2.1; omega) (Nat.le_refl _) ?_
          refine q_astore (i := 5) (lv' := [(5, va_rf (r35)), (4, va_rf (r28)), (3, .int (iI (r24))), (0, .ref (ea E 0)), (2, .int (iI (v2)))]) hx hb dX8_sums_110 hl (by decide) (by simp [List.filter_cons, rf_cat, ct_i, ct_l, ct_x]) (fun ls hl => ?_)
          refine q_aload hx hb dX8_sums_112 (lv_at hl 0 rfl) ?_
          refine call_i (run_S (As := [va_rf (r35)]) (rest := []) ⟨hx, hb, hml, hown, hts⟩ (ctX3_countOf l E r35 s34 _ hz36 h) (va_cwS 1 hts gX8_sums_X3_countOf rfl rfl rfl hdX3_countOf ⟨Nat.le_of_ble_eq_true rfl, Nat.le_of_ble_eq_true rfl⟩) hK hN hg rfl hl.1 rfl (cat_sum _ (by simp)) dX8_sums_114 (show (sz s34 - sz σ) + 0 ≤ tp - sz σ ∧ 9 * (sz s34 - sz σ) + 0 ≤ 9 * (tp - sz σ) by have q1 := hm.2.1; have q2 := hm.2.2; omega)) hg (fun r39 s38 H locs hz40 hm2 h hg => ?_)
          have hS41 : ∀ b, r35 = some b → sS s38 b := (fun b h0 => hm2.1 b (hz36 b h0))
          have hS42 : ∀ b, r28 = some b → sS s38 b := (fun b h0 => hm2.1 b (hS37 b h0))
          have hm := hm.tn hm2
          refine W_narrow hg hH (show sz s38 ≤ sz σ + (sz s38 - sz σ) by have q1 := hm.2.1; omega) (Nat.le_refl _) ?_
          refine lv_sipush (v := iI 200) hx hb dX8_sums_117 (by decide) ?_
          refine j_le (tgt := 128) hx hb dX8_sums_120 (by decide) hz40 (by decide) (fun c43 => ?_) (fun c43 => ?_)
          · have h := h.1 c43
            refine lv_aload_n hx hb dX8_sums_128 rfl (lv_at hl 3 rfl) ?_
            refine q_getx (ci := 8) (C := RX8) (T := TX8) (N := 14) (j := 12) hx hb hts (fun _ h9 => List.mem_cons_of_mem _ (List.mem_append_left _ (List.mem_append_left _ (List.mem_append_left _ (List.mem_append_left _ (List.mem_append_left _ (List.mem_append_left _ (List.mem_append_left _ (List.mem_append_right _ h9))))))))) hown hK hg 0 (by decide) rfl rfl (by decide) rfl 7 (by decide) (hts (.fieldLink RX8 61 "JoinMaps" "bench" "LJoinMaps$Bench;") (List.mem_cons_of_mem _ (List.mem_append_left _ (List.mem_append_left _ (List.mem_append_left _ (List.mem_append_left _ (List.mem_append_left _ (List.mem_append_left _ (List.mem_append_left _ (List.mem_append_left _ (List.mem_append_left _ (List.mem_of_getElem? (i := 2) rfl)))))))))))) rfl rfl rfl dX8_sums_129 ?_
            refine q_aload hx hb dX8_sums_132 (lv_at hl 0 rfl) ?_
            refine call_v (run_V (a := ea E 12) (As := [va_rf (r35)]) (rest := []) ⟨hx, hb, hml, hown, hts⟩ (ctX0_push l E r35 s38 _ hS41 h) (cwV 1 hts gX8_sums_X0_push rfl rfl rfl ⟨rfl, hdX0_push⟩ ⟨Nat.le_of_ble_eq_true rfl, Nat.le_of_ble_eq_true rfl⟩) hK hN hg (recv_x (ci := 0) (C := RX0) (T := TX0) (N := 4) hg hK (by decide) rfl (by decide) rfl) rfl hl.1 rfl (cat_sum _ (by simp)) dX8_sums_134 (show (sz s38 - sz σ) + 0 ≤ tp - sz σ ∧ 9 * (sz s38 - sz σ) + 0 ≤ 9 * (tp - sz σ) by have q1 := hm.2.1; have q2 := hm.2.2; omega)) hg (fun s44 H locs hm2 h hg => ?_)
            have hS47 : ∀ b, r35 = some b → sS s44 b := (fun b h0 => hm2.1 b (hS41 b h0))
            have hS48 : ∀ b, r28 = some b → sS s44 b := (fun b h0 => hm2.1 b (hS42 b h0))
            have hm := hm.tn hm2
            refine W_narrow hg hH (show sz s44 ≤ sz σ + (sz s44 - sz σ) by have q1 := hm.2.1; omega) (Nat.le_refl _) ?_
            refine lv_iinc (v := iI (v2 + 1)) (lv' := [(2, .int (iI (v2 + 1))), (5, va_rf (r35)), (4, va_rf (r28)), (3, .int (iI (r24))), (0, .ref (ea E 0))]) hx hb dX8_sums_137 hl (k := 4) rfl (iI_add _ _) (by decide) (by simp [List.filter_cons, rf_cat, ct_i, ct_l, ct_x]) (fun ls hl => ?_)
            refine lv_goto (tgt := 35) hx hb dX8_sums_140 (by decide) ?_
            exact ih (v2 + 1) (s44) _ _ _ hg hm (lv_sub hl [4, 0] rfl) h
          · have h := h.2 c43
            refine lv_aload_n hx hb dX8_sums_123 rfl (lv_at hl 3 rfl) ?_
            refine call_i (run_V (a := ea E 0) (As := []) (rest := []) ⟨hx, hb, hml, hown, hts⟩ (ctX8_full l E  s38 _  h) (cwV 0 hts gX8_sums_X8_full rfl rfl rfl ⟨rfl, hdX8_full⟩ ⟨Nat.le_of_ble_eq_true rfl, Nat.le_of_ble_eq_true rfl⟩) hK hN hg (recv_x (ci := 8) (C := RX8) (T := TX8) (N := 14) hg hK (by decide) rfl (by decide) rfl) rfl hl.1 rfl (cat_sum _ (by simp)) dX8_sums_124 (show (sz s38 - sz σ) + 0 ≤ tp - sz σ ∧ 9 * (sz s38 - sz σ) + 0 ≤ 9 * (tp - sz σ) by have q1 := hm.2.1; have q2 := hm.2.2; omega)) hg (fun r50 s49 H locs hz51 hm2 h hg => ?_)
            have hS52 : ∀ b, r35 = some b → sS s49 b := (fun b h0 => hm2.1 b (hS41 b h0))
            have hS53 : ∀ b, r28 = some b → sS s49 b := (fun b h0 => hm2.1 b (hS42 b h0))
            have hm := hm.tn hm2
            refine W_narrow hg hH (show sz s49 ≤ sz σ + (sz s49 - sz σ) by have q1 := hm.2.1; omega) (Nat.le_refl _) ?_
            refine W.widen (k := tp - sz σ) (n := 9 * (tp - sz σ)) (show sz s49 - sz σ ≤ _ by have q1 := hm.2.2; omega) (show 9 * (sz s49 - sz σ) ≤ _ by have q1 := hm.2.2; omega) ?_
            exact ret_i hx hb hr hlocks hg hz51 hm h dX8_sums_127
        · have h := h.2 c26
          refine lv_aload_n hx hb dX8_sums_64 rfl (lv_at hl 1 rfl) ?_
          refine q_getx (ci := 8) (C := RX8) (T := TX8) (N := 14) (j := 12) hx hb hts (fun _ h9 => List.mem_cons_of_mem _ (List.mem_append_left _ (List.mem_append_left _ (List.mem_append_left _ (List.mem_append_left _ (List.mem_append_left _ (List.mem_append_left _ (List.mem_append_left _ (List.mem_append_right _ h9))))))))) hown hK hg 0 (by decide) rfl rfl (by decide) rfl 7 (by decide) (hts (.fieldLink RX8 61 "JoinMaps" "bench" "LJoinMaps$Bench;") (List.mem_cons_of_mem _ (List.mem_append_left _ (List.mem_append_left _ (List.mem_append_left _ (List.mem_append_left _ (List.mem_append_left _ (List.mem_append_left _ (List.mem_append_left _ (List.mem_append_left _ (List.mem_append_left _ (List.mem_of_getElem? (i := 2) rfl)))))))))))) rfl rfl rfl dX8_sums_65 ?_
          refine lv_iload_n hx hb dX8_sums_68 rfl (lv_at hl 0 rfl) ?_
          refine lv_aload_n hx hb dX8_sums_69 rfl (lv_at hl 1 rfl) ?_
          refine q_getx (ci := 8) (C := RX8) (T := TX8) (N := 14) (j := 7) hx hb hts (fun _ h9 => List.mem_cons_of_mem _ (List.mem_append_left _ (List.mem_append_left _ (List.mem_append_left _ (List.mem_append_left _ (List.mem_append_left _ (List.mem_append_left _ (List.mem_append_left _ (List.mem_append_right _ h9))))))))) hown hK hg 0 (by decide) rfl rfl (by decide) rfl 5 (by decide) (hts (.fieldLink RX8 45 "JoinMaps" "plan" "LJoinMaps$Plan;") (List.mem_cons_of_mem _ (List.mem_append_left _ (List.mem_append_left _ (List.mem_append_left _ (List.mem_append_left _ (List.mem_append_left _ (List.mem_append_left _ (List.mem_append_left _ (List.mem_append_left _ (List.mem_append_left _ (List.mem_of_getElem? (i := 4) rfl)))))))))))) rfl rfl rfl dX8_sums_70 ?_
          refine lv_iload_n hx hb dX8_sums_73 rfl (lv_at hl 2 rfl) ?_
          refine call_i (run_V (a := ea E 7) (As := [.int (iI (v2))]) (rest := [.int (iI (r24)), .ref (ea E 12)]) ⟨hx, hb, hml, hown, hts⟩ (ctX4_numberAt l E v2 s23 _ hR11 h) (cwV 1 hts gX8_sums_X4_numberAt rfl rfl rfl ⟨rfl, hdX4_numberAt⟩ ⟨Nat.le_of_ble_eq_true rfl, Nat.le_of_ble_eq_true rfl⟩) hK hN hg (recv_x (ci := 4) (C := RX4) (T := TX4) (N := 3) hg hK (by decide) rfl (by decide) rfl) rfl hl.1 rfl (cat_sum _ (by simp)) dX8_sums_74 (show (sz s23 - sz σ) + 0 ≤ tp - sz σ ∧ 9 * (sz s23 - sz σ) + 0 ≤ 9 * (tp - sz σ) by have q1 := hm.2.1; have q2 := hm.2.2; omega)) hg (fun r55 s54 H locs hz56 hm2 h hg => ?_)
          have hm := hm.tn hm2
          refine W_narrow hg hH (show sz s54 ≤ sz σ + (sz s54 - sz σ) by have q1 := hm.2.1; omega) (Nat.le_refl _) ?_
          refine call_v (run_V (a := ea E 12) (As := [.int (iI (r24)), .int (iI (r55))]) (rest := []) ⟨hx, hb, hml, hown, hts⟩ (ctX0_act l E tp r24 r55 s54 _ hz25 hz56 hm.2.2 h) (cwV 2 hts gX8_sums_X0_act rfl rfl rfl ⟨rfl, hdX0_act⟩ ⟨Nat.le_of_ble_eq_true rfl, Nat.le_of_ble_eq_true rfl⟩) hK hN hg (recv_x (ci := 0) (C := RX0) (T := TX0) (N := 4) hg hK (by decide) rfl (by decide) rfl) rfl hl.1 rfl (cat_sum _ (by simp)) dX8_sums_77 (show (sz s54 - sz σ) + (tp - sz s54) ≤ tp - sz σ ∧ 9 * (sz s54 - sz σ) + 9 * (tp - sz s54) ≤ 9 * (tp - sz σ) by have q1 := hm.2.1; have q2 := hm.2.2; omega)) hg (fun s57 H locs hm2 h hg => ?_)
          have hm := hm.ta hm2
          refine W_narrow hg hH (show sz s57 ≤ sz σ + (sz s57 - sz σ) by have q1 := hm.2.1; omega) (Nat.le_refl _) ?_
          refine lv_goto (tgt := 137) hx hb dX8_sums_80 (by decide) ?_
          refine lv_iinc (v := iI (v2 + 1)) (lv' := [(2, .int (iI (v2 + 1))), (3, .int (iI (r24))), (0, .ref (ea E 0))]) hx hb dX8_sums_137 hl (k := 2) rfl (iI_add _ _) (by decide) rfl (fun ls hl => ?_)
          refine lv_goto (tgt := 35) hx hb dX8_sums_140 (by decide) ?_
          exact ih (v2 + 1) (s57) _ _ _ hg hm (lv_sub hl [2, 0] rfl) h
  refine lv_aload_n hx hb dX8_sums_0 rfl (lv_at hl 0 rfl) ?_
  refine q_getx (ci := 8) (C := RX8) (T := TX8) (N := 14) (j := 10) hx hb hts (fun _ h9 => List.mem_cons_of_mem _ (List.mem_append_left _ (List.mem_append_left _ (List.mem_append_left _ (List.mem_append_left _ (List.mem_append_left _ (List.mem_append_left _ (List.mem_append_left _ (List.mem_append_right _ h9))))))))) hown hK hg 0 (by decide) rfl rfl (by decide) rfl 6 (by decide) (hts (.fieldLink RX8 54 "JoinMaps" "reader" "LJoinMaps$Reader;") (List.mem_cons_of_mem _ (List.mem_append_left _ (List.mem_append_left _ (List.mem_append_left _ (List.mem_append_left _ (List.mem_append_left _ (List.mem_append_left _ (List.mem_append_left _ (List.mem_append_left _ (List.mem_append_left _ (List.mem_of_getElem? (i := 0) rfl)))))))))))) rfl rfl rfl dX8_sums_1 ?_
  refine lv_aload_n hx hb dX8_sums_4 rfl (lv_at hl 0 rfl) ?_
  refine q_geti (ci := 8) (C := RX8) (T := TX8) (N := 14) hx hb hts (fun _ h9 => List.mem_cons_of_mem _ (List.mem_append_left _ (List.mem_append_left _ (List.mem_append_left _ (List.mem_append_left _ (List.mem_append_left _ (List.mem_append_left _ (List.mem_append_left _ (List.mem_append_right _ h9))))))))) hown hK hg 0 (by decide) rfl rfl (by decide) rfl 10 (by decide) (hts (.fieldLink RX8 235 "JoinMaps" "typed" "I") (List.mem_cons_of_mem _ (List.mem_append_left _ (List.mem_append_left _ (List.mem_append_left _ (List.mem_append_left _ (List.mem_append_left _ (List.mem_append_left _ (List.mem_append_left _ (List.mem_append_left _ (List.mem_append_left _ (List.mem_of_getElem? (i := 1) rfl)))))))))))) rfl rfl dX8_sums_5 ?_
  have hR1 := GS_R hg 0 10
  refine call_i (run_V (a := ea E 10) (As := [.int (iI ((sn σ 0 10)))]) (rest := []) ⟨hx, hb, hml, hown, hts⟩ (ctX5_read l E (sn σ 0 10) σ _ hR1 h) (cwV 1 hts gX8_sums_X5_read rfl rfl rfl ⟨rfl, hdX5_read⟩ ⟨Nat.le_of_ble_eq_true rfl, Nat.le_of_ble_eq_true rfl⟩) hK hN hg (recv_x (ci := 5) (C := RX5) (T := TX5) (N := 11) hg hK (by decide) rfl (by decide) rfl) rfl hl.1 rfl (cat_sum _ (by simp)) dX8_sums_8 (show (sz σ - sz σ) + 0 ≤ tp - sz σ ∧ 9 * (sz σ - sz σ) + 0 ≤ 9 * (tp - sz σ) by have q1 := hm.2.1; have q2 := hm.2.2; omega)) hg (fun r3 s2 H locs hz4 hm2 h hg => ?_)
  have hm := hm.tn hm2
  refine W_narrow hg hH (show sz s2 ≤ sz σ + (sz s2 - sz σ) by have q1 := hm.2.1; omega) (Nat.le_refl _) ?_
  refine lv_istore_n (i := 1) (lv' := [(1, .int (iI (r3))), (0, .ref (ea E 0))]) hx hb dX8_sums_11 rfl hl (by decide) rfl (fun ls hl => ?_)
  refine lv_iload_n hx hb dX8_sums_12 rfl (lv_at hl 0 rfl) ?_
  refine lv_iconst (v := iI (-1)) hx hb dX8_sums_13 (by decide) ?_
  refine j_eq (tgt := 22) hx hb dX8_sums_14 (by decide) hz4 (by decide) (fun c5 => ?_) (fun c5 => ?_)
  · have h := h.1 c5
    refine lv_aload_n hx hb dX8_sums_22 rfl (lv_at hl 1 rfl) ?_
    refine q_getx (ci := 8) (C := RX8) (T := TX8) (N := 14) (j := 12) hx hb hts (fun _ h9 => List.mem_cons_of_mem _ (List.mem_append_left _ (List.mem_append_left _ (List.mem_append_left _ (List.mem_append_left _ (List.mem_append_left _ (List.mem_append_left _ (List.mem_append_left _ (List.mem_append_right _ h9))))))))) hown hK hg 0 (by decide) rfl rfl (by decide) rfl 7 (by decide) (hts (.fieldLink RX8 61 "JoinMaps" "bench" "LJoinMaps$Bench;") (List.mem_cons_of_mem _ (List.mem_append_left _ (List.mem_append_left _ (List.mem_append_left _ (List.mem_append_left _ (List.mem_append_left _ (List.mem_append_left _ (List.mem_append_left _ (List.mem_append_left _ (List.mem_append_left _ (List.mem_of_getElem? (i := 2) rfl)))))))))))) rfl rfl rfl dX8_sums_23 ?_
    refine lv_aload_n hx hb dX8_sums_26 rfl (lv_at hl 1 rfl) ?_
    refine q_getx (ci := 8) (C := RX8) (T := TX8) (N := 14) (j := 3) hx hb hts (fun _ h9 => List.mem_cons_of_mem _ (List.mem_append_left _ (List.mem_append_left _ (List.mem_append_left _ (List.mem_append_left _ (List.mem_append_left _ (List.mem_append_left _ (List.mem_append_left _ (List.mem_append_right _ h9))))))))) hown hK hg 0 (by decide) rfl rfl (by decide) rfl 2 (by decide) (hts (.fieldLink RX8 27 "JoinMaps" "maps" "[LJoinMaps$Node;") (List.mem_cons_of_mem _ (List.mem_append_left _ (List.mem_append_left _ (List.mem_append_left _ (List.mem_append_left _ (List.mem_append_left _ (List.mem_append_left _ (List.mem_append_left _ (List.mem_append_left _ (List.mem_append_left _ (List.mem_of_getElem? (i := 3) rfl)))))))))))) rfl rfl rfl dX8_sums_27 ?_
    refine call_v (run_V (a := ea E 12) (As := [.ref (ea E 3)]) (rest := []) ⟨hx, hb, hml, hown, hts⟩ (ctX0_lay l E  s2 _  h) (cwV 1 hts gX8_sums_X0_lay rfl rfl rfl ⟨rfl, hdX0_lay⟩ ⟨Nat.le_of_ble_eq_true rfl, Nat.le_of_ble_eq_true rfl⟩) hK hN hg (recv_x (ci := 0) (C := RX0) (T := TX0) (N := 4) hg hK (by decide) rfl (by decide) rfl) rfl hl.1 rfl (cat_sum _ (by simp)) dX8_sums_30 (show (sz s2 - sz σ) + 0 ≤ tp - sz σ ∧ 9 * (sz s2 - sz σ) + 0 ≤ 9 * (tp - sz σ) by have q1 := hm.2.1; have q2 := hm.2.2; omega)) hg (fun s6 H locs hm2 h hg => ?_)
    have hm := hm.tn hm2
    refine W_narrow hg hH (show sz s6 ≤ sz σ + (sz s6 - sz σ) by have q1 := hm.2.1; omega) (Nat.le_refl _) ?_
    refine lv_iconst (v := iI 0) hx hb dX8_sums_33 (by decide) ?_
    refine lv_istore_n (i := 2) (lv' := [(2, .int (iI (0))), (1, .int (iI (r3))), (0, .ref (ea E 0))]) hx hb dX8_sums_34 rfl hl (by decide) rfl (fun ls hl => ?_)
    obtain ⟨kk, h⟩ := h
    exact J35  kk (0) (s6) _ _ _ hg hm (lv_sub hl [2, 0] rfl) h
  · have h := h.2 c5
    refine lv_bipush (v := iI (-10)) hx hb dX8_sums_17 (by decide) ?_
    refine lv_iload_n hx hb dX8_sums_19 rfl (lv_at hl 0 rfl) ?_
    refine q_isub hx hb dX8_sums_20 ?_
    refine W.widen (k := tp - sz σ) (n := 9 * (tp - sz σ)) (show sz s2 - sz σ ≤ _ by have q1 := hm.2.2; omega) (show 9 * (sz s2 - sz σ) ≤ _ by have q1 := hm.2.2; omega) ?_
    obtain ⟨hR9, h⟩ := h
    exact ret_i hx hb hr hlocks hg hR9 hm h dX8_sums_21
theorem hdX8_back : yX8_back.cls ≠ "java/lang/invoke/MethodHandle" ∧ yX8_back.cls ≠ "java/lang/invoke/VarHandle" ∧ (parseMethodDescriptor yX8_back.desc).map (fun d => d.parameters.length) = some 0 := by decide +kernel
set_option maxRecDepth 100000 in
set_option maxHeartbeats 4000000 in
theorem ctX8_back (l : Launch) (E : Ev)  (σ : SS) (Q : Int → SS → Prop)  (h : wX8_back  σ Q) : Met l yX8_back wsX8_back ({ frames := 2, cells := 0, slots := 0, locals := 43 } : Room) (Pc E σ [.ref (ea E 0)]) (Qi E (sz σ) σ Q) 0 0 (Av E) := by
  rw [wX8_back] at h
  refine Met.ofW (cc := cX8_back) (maxL := 1) (ret := (some .int)) (by decide) rfl ?_
  intro p e s m args below meth c s₁ B hml hv
  obtain ⟨rfl, hH, hK, hN⟩ := hv
  have hx := B.exec
  have hb := B.bytes
  have hr := B.returns
  have hts := atoms_spec (ws := wsX8_back) B.pre
  have hown : s.vm.findClass RX8 = some m.cls := findClass_of_methodNamed B.named
  have hlocks := B.notSynchronized
  have hg : GS E σ s s.heap [] := ⟨hH, va_S.rf⟩
  have hm : Mo (sz σ) σ σ := Mo.rf (Nat.le_refl _)
  have hl := ent (vs := [.ref (ea E 0)]) (n := 1) (cats_x cats_nil) (Nat.le_of_ble_eq_true rfl)
  rw [lg_entry_eq]
  generalize (lg_sl ([.ref (ea E 0)]) ++ List.replicate (1 - (lg_sl ([.ref (ea E 0)])).length) Slot.unset).toArray = ls at hl ⊢
  have hl : lv_has ls 1 [(0, .ref (ea E 0))] := hl
  refine lv_aload_n hx hb dX8_back_0 rfl (lv_at hl 0 rfl) ?_
  refine q_getx (ci := 8) (C := RX8) (T := TX8) (N := 14) (j := 4) hx hb hts (fun _ h9 => List.mem_cons_of_mem _ (List.mem_append_left _ (List.mem_append_right _ h9))) hown hK hg 0 (by decide) rfl rfl (by decide) rfl 3 (by decide) (hts (.fieldLink RX8 34 "JoinMaps" "versions" "LJoinMaps$Versions;") (List.mem_cons_of_mem _ (List.mem_append_left _ (List.mem_append_left _ (List.mem_of_getElem? (i := 0) rfl))))) rfl rfl rfl dX8_back_1 ?_
  refine q_geti (ci := 7) (C := RX7) (T := TX7) (N := 3) hx hb hts (fun _ h9 => List.mem_cons_of_mem _ (List.mem_append_right _ h9)) hown hK hg 4 (by decide) rfl rfl (by decide) rfl 1 (by decide) (hts (.fieldLink RX8 267 "JoinMaps$Versions" "count" "I") (List.mem_cons_of_mem _ (List.mem_append_left _ (List.mem_append_left _ (List.mem_of_getElem? (i := 1) rfl))))) rfl rfl dX8_back_4 ?_
  have hR1 := GS_R hg 4 1
  refine k_ne (tgt := 15) hx hb dX8_back_7 (by decide) hR1 (fun c2 => ?_) (fun c2 => ?_)
  · have h := h.1 c2
    refine lv_aload_n hx hb dX8_back_15 rfl (lv_at hl 0 rfl) ?_
    refine q_getx (ci := 8) (C := RX8) (T := TX8) (N := 14) (j := 4) hx hb hts (fun _ h9 => List.mem_cons_of_mem _ (List.mem_append_left _ (List.mem_append_right _ h9))) hown hK hg 0 (by decide) rfl rfl (by decide) rfl 3 (by decide) (hts (.fieldLink RX8 34 "JoinMaps" "versions" "LJoinMaps$Versions;") (List.mem_cons_of_mem _ (List.mem_append_left _ (List.mem_append_left _ (List.mem_of_getElem? (i := 0) rfl))))) rfl rfl rfl dX8_back_16 ?_
    refine lv_aload_n hx hb dX8_back_19 rfl (lv_at hl 0 rfl) ?_
    refine q_getx (ci := 8) (C := RX8) (T := TX8) (N := 14) (j := 3) hx hb hts (fun _ h9 => List.mem_cons_of_mem _ (List.mem_append_left _ (List.mem_append_right _ h9))) hown hK hg 0 (by decide) rfl rfl (by decide) rfl 2 (by decide) (hts (.fieldLink RX8 27 "JoinMaps" "maps" "[LJoinMaps$Node;") (List.mem_cons_of_mem _ (List.mem_append_left _ (List.mem_append_left _ (List.mem_of_getElem? (i := 2) rfl))))) rfl rfl rfl dX8_back_20 ?_
    refine call_v (run_V (a := ea E 4) (As := [.ref (ea E 3)]) (rest := []) ⟨hx, hb, hml, hown, hts⟩ (ctX7_bringLast l E  σ _  h) (cwV 1 hts gX8_back_X7_bringLast rfl rfl rfl ⟨rfl, hdX7_bringLast⟩ ⟨Nat.le_of_ble_eq_true rfl, Nat.le_of_ble_eq_true rfl⟩) hK hN hg (recv_x (ci := 7) (C := RX7) (T := TX7) (N := 3) hg hK (by decide) rfl (by decide) rfl) rfl hl.1 rfl (cat_sum _ (by simp)) dX8_back_23 ⟨Nat.le_refl 0, Nat.le_refl 0⟩) hg (fun s3 H locs hm2 h hg => ?_)
    have hm := hm.tn hm2
    refine lv_aload_n hx hb dX8_back_26 rfl (lv_at hl 0 rfl) ?_
    refine q_getx (ci := 8) (C := RX8) (T := TX8) (N := 14) (j := 4) hx hb hts (fun _ h9 => List.mem_cons_of_mem _ (List.mem_append_left _ (List.mem_append_right _ h9))) hown hK hg 0 (by decide) rfl rfl (by decide) rfl 3 (by decide) (hts (.fieldLink RX8 34 "JoinMaps" "versions" "LJoinMaps$Versions;") (List.mem_cons_of_mem _ (List.mem_append_left _ (List.mem_append_left _ (List.mem_of_getElem? (i := 0) rfl))))) rfl rfl rfl dX8_back_27 ?_
    refine q_geti (ci := 7) (C := RX7) (T := TX7) (N := 3) hx hb hts (fun _ h9 => List.mem_cons_of_mem _ (List.mem_append_right _ h9)) hown hK hg 4 (by decide) rfl rfl (by decide) rfl 1 (by decide) (hts (.fieldLink RX8 267 "JoinMaps$Versions" "count" "I") (List.mem_cons_of_mem _ (List.mem_append_left _ (List.mem_append_left _ (List.mem_of_getElem? (i := 1) rfl))))) rfl rfl dX8_back_30 ?_
    have hR6 := GS_R hg 4 1
    exact ret_i hx hb hr hlocks hg hR6 hm h dX8_back_33
  · have h := h.2 c2
    refine lv_aload_n hx hb dX8_back_10 rfl (lv_at hl 0 rfl) ?_
    refine call_i (run_V (a := ea E 0) (As := []) (rest := []) ⟨hx, hb, hml, hown, hts⟩ (ctX8_no l E  σ _  h) (cwV 0 hts gX8_back_X8_no rfl rfl rfl ⟨rfl, hdX8_no⟩ ⟨Nat.le_of_ble_eq_true rfl, Nat.le_of_ble_eq_true rfl⟩) hK hN hg (recv_x (ci := 8) (C := RX8) (T := TX8) (N := 14) hg hK (by decide) rfl (by decide) rfl) rfl hl.1 rfl (cat_sum _ (by simp)) dX8_back_11 ⟨Nat.le_refl 0, Nat.le_refl 0⟩) hg (fun r8 s7 H locs hz9 hm2 h hg => ?_)
    have hm := hm.tn hm2
    exact ret_i hx hb hr hlocks hg hz9 hm h dX8_back_14
theorem hdX8_entriesOfAll : yX8_entriesOfAll.cls ≠ "java/lang/invoke/MethodHandle" ∧ yX8_entriesOfAll.cls ≠ "java/lang/invoke/VarHandle" ∧ (parseMethodDescriptor yX8_entriesOfAll.desc).map (fun d => d.parameters.length) = some 0 := by decide +kernel
set_option maxRecDepth 100000 in
set_option maxHeartbeats 4000000 in
theorem ctX8_entriesOfAll (l : Launch) (E : Ev)  (σ : SS) (Q : Int → SS → Prop)  (h : wX8_entriesOfAll  σ Q) : Met l yX8_entriesOfAll wsX8_entriesOfAll ({ frames := 1, cells := 0, slots := 0, locals := 20 } : Room) (Pc E σ [.ref (ea E 0)]) (Qi E (sz σ) σ Q) 0 0 (Av E) := by
  rw [wX8_entriesOfAll] at h
  refine Met.ofW (cc := cX8_entriesOfAll) (maxL := 3) (ret := (some .int)) (by decide) rfl ?_
  intro p e s m args below meth c s₁ B hml hv
  obtain ⟨rfl, hH, hK, hN⟩ := hv
  have hx := B.exec
  have hb := B.bytes
  have hr := B.returns
  have hts := atoms_spec (ws := wsX8_entriesOfAll) B.pre
  have hown : s.vm.findClass RX8 = some m.cls := findClass_of_methodNamed B.named
  have hlocks := B.notSynchronized
  have hg : GS E σ s s.heap [] := ⟨hH, va_S.rf⟩
  have hm : Mo (sz σ) σ σ := Mo.rf (Nat.le_refl _)
  have hl := ent (vs := [.ref (ea E 0)]) (n := 3) (cats_x cats_nil) (Nat.le_of_ble_eq_true rfl)
  rw [lg_entry_eq]
  generalize (lg_sl ([.ref (ea E 0)]) ++ List.replicate (3 - (lg_sl ([.ref (ea E 0)])).length) Slot.unset).toArray = ls at hl ⊢
  have hl : lv_has ls 3 [(0, .ref (ea E 0))] := hl
  have J4 : ∀ (k : Nat), ∀ (v1 : Int) (v2 : Int) (sL : SS) (H : Heap) (locs : List Loc) (ls : Array Slot), GS E sL s H locs → Mo (sz σ) σ sL → lv_has ls 3 [(0, .ref (ea E 0)), (1, .int (iI (v1))), (2, .int (iI (v2)))] → wX8_entriesOfAll_L4  Q  k v1 v2 sL → W p l e (headSpec wsX8_entriesOfAll ({ frames := 1, cells := 0, slots := 0, locals := 20 } : Room)).room s m (List.toArray [.ref (ea E 0)]) below meth c H locs 0 0 (MQ below (Qi E (sz σ) σ Q) (List.toArray [.ref (ea E 0)]) s 0 0 (Av E)) (F0 m 4 ls []) := by
    intro k
    induction k with
    | zero => intro v1 v2 sL H locs ls hg hm hl h; exact False.elim h
    | succ k ih =>
      intro v1 v2 sL H locs ls hg hm hl h
      rw [wX8_entriesOfAll_L4] at h
      refine lv_iload_n hx hb dX8_entriesOfAll_4 rfl (lv_at hl 2 rfl) ?_
      refine lv_bipush (v := iI 6) hx hb dX8_entriesOfAll_5 (by decide) ?_
      obtain ⟨hR1, h⟩ := h
      refine j_ge (tgt := 28) hx hb dX8_entriesOfAll_7 (by decide) hR1 (by decide) (fun c2 => ?_) (fun c2 => ?_)
      · have h := h.1 c2
        refine lv_iload_n hx hb dX8_entriesOfAll_28 rfl (lv_at hl 1 rfl) ?_
        obtain ⟨hR3, h⟩ := h
        exact ret_i hx hb hr hlocks hg hR3 hm h dX8_entriesOfAll_29
      · have h := h.2 c2
        refine lv_iload_n hx hb dX8_entriesOfAll_10 rfl (lv_at hl 1 rfl) ?_
        refine lv_aload_n hx hb dX8_entriesOfAll_11 rfl (lv_at hl 0 rfl) ?_
        refine q_getx (ci := 8) (C := RX8) (T := TX8) (N := 14) (j := 3) hx hb hts (fun _ h9 => List.mem_cons_of_mem _ (List.mem_append_left _ (List.mem_append_right _ h9))) hown hK hg 0 (by decide) rfl rfl (by decide) rfl 2 (by decide) (hts (.fieldLink RX8 27 "JoinMaps" "maps" "[LJoinMaps$Node;") (List.mem_cons_of_mem _ (List.mem_append_left _ (List.mem_append_left _ (List.mem_of_getElem? (i := 0) rfl))))) rfl rfl rfl dX8_entriesOfAll_12 ?_
        refine lv_iload_n hx hb dX8_entriesOfAll_15 rfl (lv_at hl 2 rfl) ?_
        obtain ⟨hP4, hP5, h⟩ := h
        refine q_aald (N := 6) hx hb hK hg 3 (by decide) rfl rfl hP4 hP5 (by decide) dX8_entriesOfAll_16 ?_
        have hS6 : ∀ b, (sf sL 3 (v2 : Int).toNat) = some b → sS sL b := fun b h0 => GS_F hg h0
        refine call_i (run_S (As := [va_rf ((sf sL 3 (v2 : Int).toNat))]) (rest := [.int (iI (v1))]) ⟨hx, hb, hml, hown, hts⟩ (ctX3_countOf l E (sf sL 3 (v2 : Int).toNat) sL _ hS6 h) (va_cwS 1 hts gX8_entriesOfAll_X3_countOf rfl rfl rfl hdX3_countOf ⟨Nat.le_of_ble_eq_true rfl, Nat.le_of_ble_eq_true rfl⟩) hK hN hg rfl hl.1 rfl (cat_sum _ (by simp)) dX8_entriesOfAll_17 ⟨Nat.le_refl 0, Nat.le_refl 0⟩) hg (fun r8 s7 H locs hz9 hm2 h hg => ?_)
        have hm := hm.tn hm2
        refine q_iadd hx hb dX8_entriesOfAll_20 ?_
        refine lv_istore_n (i := 1) (lv' := [(1, .int (iI ((v1 + r8)))), (0, .ref (ea E 0)), (2, .int (iI (v2)))]) hx hb dX8_entriesOfAll_21 rfl hl (by decide) rfl (fun ls hl => ?_)
        refine lv_iinc (v := iI (v2 + 1)) (lv' := [(2, .int (iI (v2 + 1))), (1, .int (iI ((v1 + r8)))), (0, .ref (ea E 0))]) hx hb dX8_entriesOfAll_22 hl (k := 2) rfl (iI_add _ _) (by decide) rfl (fun ls hl => ?_)
        refine lv_goto (tgt := 4) hx hb dX8_entriesOfAll_25 (by decide) ?_
        exact ih ((v1 + r8)) (v2 + 1) (s7) _ _ _ hg hm (lv_sub hl [2, 1, 0] rfl) h
  refine lv_iconst (v := iI 0) hx hb dX8_entriesOfAll_0 (by decide) ?_
  refine lv_istore_n (i := 1) (lv' := [(1, .int (iI (0))), (0, .ref (ea E 0))]) hx hb dX8_entriesOfAll_1 rfl hl (by decide) rfl (fun ls hl => ?_)
  refine lv_iconst (v := iI 0) hx hb dX8_entriesOfAll_2 (by decide) ?_
  refine lv_istore_n (i := 2) (lv' := [(2, .int (iI (0))), (1, .int (iI (0))), (0, .ref (ea E 0))]) hx hb dX8_entriesOfAll_3 rfl hl (by decide) rfl (fun ls hl => ?_)
  obtain ⟨kk, h⟩ := h
  exact J4  kk (0) (0) (σ) _ _ _ hg hm (lv_sub hl [2, 1, 0] rfl) h
theorem hdX8_told : yX8_told.cls ≠ "java/lang/invoke/MethodHandle" ∧ yX8_told.cls ≠ "java/lang/invoke/VarHandle" ∧ (parseMethodDescriptor yX8_told.desc).map (fun d => d.parameters.length) = some 1 := by decide +kernel
set_option maxRecDepth 100000 in
set_option maxHeartbeats 4000000 in
theorem ctX8_told (l : Launch) (E : Ev) (a1 : Int) (σ : SS) (Q : Int → SS → Prop) (ha1 : R32 a1) (h : wX8_told a1 σ Q) : Met l yX8_told wsX8_told ({ frames := 2, cells := 0, slots := 0, locals := 42 } : Room) (Pc E σ [.ref (ea E 0), .int (iI (a1))]) (Qi E (sz σ) σ Q) 0 0 (Av E) := by
  rw [wX8_told] at h
  refine Met.ofW (cc := cX8_told) (maxL := 2) (ret := (some .int)) (by decide) rfl ?_
  intro p e s m args below meth c s₁ B hml hv
  obtain ⟨rfl, hH, hK, hN⟩ := hv
  have hx := B.exec
  have hb := B.bytes
  have hr := B.returns
  have hts := atoms_spec (ws := wsX8_told) B.pre
  have hown : s.vm.findClass RX8 = some m.cls := findClass_of_methodNamed B.named
  have hlocks := B.notSynchronized
  have hg : GS E σ s s.heap [] := ⟨hH, va_S.rf⟩
  have hm : Mo (sz σ) σ σ := Mo.rf (Nat.le_refl _)
  have hl := ent (vs := [.ref (ea E 0), .int (iI (a1))]) (n := 2) (cats_x (cats_i cats_nil)) (Nat.le_of_ble_eq_true rfl)
  rw [lg_entry_eq]
  generalize (lg_sl ([.ref (ea E 0), .int (iI (a1))]) ++ List.replicate (2 - (lg_sl ([.ref (ea E 0), .int (iI (a1))])).length) Slot.unset).toArray = ls at hl ⊢
  have hl : lv_has ls 2 [(0, .ref (ea E 0)), (1, .int (iI (a1)))] := hl
  refine lv_iload_n hx hb dX8_told_0 rfl (lv_at hl 1 rfl) ?_
  rcases (show (a1 < 0 ∨ 6 < a1) ∨ a1 = 0 ∨ a1 = 1 ∨ a1 = 2 ∨ a1 = 3 ∨ a1 = 4 ∨ a1 = 5 ∨ a1 = 6 by omega) with c0 | c0 | c0 | c0 | c0 | c0 | c0 | c0
  · have h := h.1 c0
    refine lv_tableOut (tgt := 85) hx hb dX8_told_1 (by rw [iI_int ha1]; omega) (by decide) ?_
    refine lv_aload_n hx hb dX8_told_85 rfl (lv_at hl 0 rfl) ?_
    refine call_i (run_V (a := ea E 0) (As := []) (rest := []) ⟨hx, hb, hml, hown, hts⟩ (ctX8_bad l E  σ _  h) (cwV 0 hts gX8_told_X8_bad rfl rfl rfl ⟨rfl, hdX8_bad⟩ ⟨Nat.le_of_ble_eq_true rfl, Nat.le_of_ble_eq_true rfl⟩) hK hN hg (recv_x (ci := 8) (C := RX8) (T := TX8) (N := 14) hg hK (by decide) rfl (by decide) rfl) rfl hl.1 rfl (cat_sum _ (by simp)) dX8_told_86 ⟨Nat.le_refl 0, Nat.le_refl 0⟩) hg (fun r2 s1 H locs hz3 hm2 h hg => ?_)
    have hm := hm.tn hm2
    exact ret_i hx hb hr hlocks hg hz3 hm h dX8_told_89
  · have h := h.2.1 c0
    refine lv_tableIn (off := 43) (tgt := 44) hx hb dX8_told_1 (by rw [iI_int ha1, c0]; decide) (by rw [iI_int ha1, c0]; decide) (by rw [iI_int ha1, c0]; rfl) (by decide) ?_
    refine lv_aload_n hx hb dX8_told_44 rfl (lv_at hl 0 rfl) ?_
    refine q_geti (ci := 8) (C := RX8) (T := TX8) (N := 14) hx hb hts (fun _ h9 => List.mem_cons_of_mem _ (List.mem_append_left _ (List.mem_append_left _ (List.mem_append_left _ (List.mem_append_right _ h9))))) hown hK hg 0 (by decide) rfl rfl (by decide) rfl 11 (by decide) (hts (.fieldLink RX8 273 "JoinMaps" "bads" "I") (List.mem_cons_of_mem _ (List.mem_append_left _ (List.mem_append_left _ (List.mem_append_left _ (List.mem_append_left _ (List.mem_of_getElem? (i := 0) rfl))))))) rfl rfl dX8_told_45 ?_
    have hR4 := GS_R hg 0 11
    exact ret_i hx hb hr hlocks hg hR4 hm h dX8_told_48
  · have h := h.2.2.1 c0
    refine lv_tableIn (off := 48) (tgt := 49) hx hb dX8_told_1 (by rw [iI_int ha1, c0]; decide) (by rw [iI_int ha1, c0]; decide) (by rw [iI_int ha1, c0]; rfl) (by decide) ?_
    refine lv_aload_n hx hb dX8_told_49 rfl (lv_at hl 0 rfl) ?_
    refine q_geti (ci := 8) (C := RX8) (T := TX8) (N := 14) hx hb hts (fun _ h9 => List.mem_cons_of_mem _ (List.mem_append_left _ (List.mem_append_left _ (List.mem_append_left _ (List.mem_append_right _ h9))))) hown hK hg 0 (by decide) rfl rfl (by decide) rfl 12 (by decide) (hts (.fieldLink RX8 276 "JoinMaps" "noes" "I") (List.mem_cons_of_mem _ (List.mem_append_left _ (List.mem_append_left _ (List.mem_append_left _ (List.mem_append_left _ (List.mem_of_getElem? (i := 1) rfl))))))) rfl rfl dX8_told_50 ?_
    have hR5 := GS_R hg 0 12
    exact ret_i hx hb hr hlocks hg hR5 hm h dX8_told_53
  · have h := h.2.2.2.1 c0
    refine lv_tableIn (off := 53) (tgt := 54) hx hb dX8_told_1 (by rw [iI_int ha1, c0]; decide) (by rw [iI_int ha1, c0]; decide) (by rw [iI_int ha1, c0]; rfl) (by decide) ?_
    refine lv_aload_n hx hb dX8_told_54 rfl (lv_at hl 0 rfl) ?_
    refine q_geti (ci := 8) (C := RX8) (T := TX8) (N := 14) hx hb hts (fun _ h9 => List.mem_cons_of_mem _ (List.mem_append_left _ (List.mem_append_left _ (List.mem_append_left _ (List.mem_append_right _ h9))))) hown hK hg 0 (by decide) rfl rfl (by decide) rfl 13 (by decide) (hts (.fieldLink RX8 279 "JoinMaps" "fulls" "I") (List.mem_cons_of_mem _ (List.mem_append_left _ (List.mem_append_left _ (List.mem_append_left _ (List.mem_append_left _ (List.mem_of_getElem? (i := 2) rfl))))))) rfl rfl dX8_told_55 ?_
    have hR6 := GS_R hg 0 13
    exact ret_i hx hb hr hlocks hg hR6 hm h dX8_told_58
  · have h := h.2.2.2.2.1 c0
    refine lv_tableIn (off := 58) (tgt := 59) hx hb dX8_told_1 (by rw [iI_int ha1, c0]; decide) (by rw [iI_int ha1, c0]; decide) (by rw [iI_int ha1, c0]; rfl) (by decide) ?_
    refine lv_aload_n hx hb dX8_told_59 rfl (lv_at hl 0 rfl) ?_
    refine q_getx (ci := 8) (C := RX8) (T := TX8) (N := 14) (j := 4) hx hb hts (fun _ h9 => List.mem_cons_of_mem _ (List.mem_append_left _ (List.mem_append_left _ (List.mem_append_left _ (List.mem_append_right _ h9))))) hown hK hg 0 (by decide) rfl rfl (by decide) rfl 3 (by decide) (hts (.fieldLink RX8 34 "JoinMaps" "versions" "LJoinMaps$Versions;") (List.mem_cons_of_mem _ (List.mem_append_left _ (List.mem_append_left _ (List.mem_append_left _ (List.mem_append_left _ (List.mem_of_getElem? (i := 3) rfl))))))) rfl rfl rfl dX8_told_60 ?_
    refine q_geti (ci := 7) (C := RX7) (T := TX7) (N := 3) hx hb hts (fun _ h9 => List.mem_cons_of_mem _ (List.mem_append_left _ (List.mem_append_left _ (List.mem_append_right _ h9)))) hown hK hg 4 (by decide) rfl rfl (by decide) rfl 1 (by decide) (hts (.fieldLink RX8 267 "JoinMaps$Versions" "count" "I") (List.mem_cons_of_mem _ (List.mem_append_left _ (List.mem_append_left _ (List.mem_append_left _ (List.mem_append_left _ (List.mem_of_getElem? (i := 4) rfl))))))) rfl rfl dX8_told_63 ?_
    have hR7 := GS_R hg 4 1
    exact ret_i hx hb hr hlocks hg hR7 hm h dX8_told_66
  · have h := h.2.2.2.2.2.1 c0
    refine lv_tableIn (off := 66) (tgt := 67) hx hb dX8_told_1 (by rw [iI_int ha1, c0]; decide) (by rw [iI_int ha1, c0]; decide) (by rw [iI_int ha1, c0]; rfl) (by decide) ?_
    refine lv_aload_n hx hb dX8_told_67 rfl (lv_at hl 0 rfl) ?_
    refine q_geti (ci := 8) (C := RX8) (T := TX8) (N := 14) hx hb hts (fun _ h9 => List.mem_cons_of_mem _ (List.mem_append_left _ (List.mem_append_left _ (List.mem_append_left _ (List.mem_append_right _ h9))))) hown hK hg 0 (by decide) rfl rfl (by decide) rfl 10 (by decide) (hts (.fieldLink RX8 235 "JoinMaps" "typed" "I") (List.mem_cons_of_mem _ (List.mem_append_left _ (List.mem_append_left _ (List.mem_append_left _ (List.mem_append_left _ (List.mem_of_getElem? (i := 5) rfl))))))) rfl rfl dX8_told_68 ?_
    have hR8 := GS_R hg 0 10
    exact ret_i hx hb hr hlocks hg hR8 hm h dX8_told_71
  · have h := h.2.2.2.2.2.2.1 c0
    refine lv_tableIn (off := 71) (tgt := 72) hx hb dX8_told_1 (by rw [iI_int ha1, c0]; decide) (by rw [iI_int ha1, c0]; decide) (by rw [iI_int ha1, c0]; rfl) (by decide) ?_
    refine lv_aload_n hx hb dX8_told_72 rfl (lv_at hl 0 rfl) ?_
    refine q_getx (ci := 8) (C := RX8) (T := TX8) (N := 14) (j := 2) hx hb hts (fun _ h9 => List.mem_cons_of_mem _ (List.mem_append_left _ (List.mem_append_left _ (List.mem_append_left _ (List.mem_append_right _ h9))))) hown hK hg 0 (by decide) rfl rfl (by decide) rfl 1 (by decide) (hts (.fieldLink RX8 21 "JoinMaps" "blender" "LJoinMaps$Blender;") (List.mem_cons_of_mem _ (List.mem_append_left _ (List.mem_append_left _ (List.mem_append_left _ (List.mem_append_left _ (List.mem_of_getElem? (i := 6) rfl))))))) rfl rfl rfl dX8_told_73 ?_
    refine q_geti (ci := 1) (C := RX1) (T := TX1) (N := 2) hx hb hts (fun _ h9 => List.mem_cons_of_mem _ (List.mem_append_left _ (List.mem_append_right _ h9))) hown hK hg 2 (by decide) rfl rfl (by decide) rfl 1 (by decide) (hts (.fieldLink RX8 232 "JoinMaps$Blender" "mixerKind" "I") (List.mem_cons_of_mem _ (List.mem_append_left _ (List.mem_append_left _ (List.mem_append_left _ (List.mem_append_left _ (List.mem_of_getElem? (i := 7) rfl))))))) rfl rfl dX8_told_76 ?_
    have hR9 := GS_R hg 2 1
    exact ret_i hx hb hr hlocks hg hR9 hm h dX8_told_79
  · have h := h.2.2.2.2.2.2.2 c0
    refine lv_tableIn (off := 79) (tgt := 80) hx hb dX8_told_1 (by rw [iI_int ha1, c0]; decide) (by rw [iI_int ha1, c0]; decide) (by rw [iI_int ha1, c0]; rfl) (by decide) ?_
    refine lv_aload_n hx hb dX8_told_80 rfl (lv_at hl 0 rfl) ?_
    refine call_i (run_V (a := ea E 0) (As := []) (rest := []) ⟨hx, hb, hml, hown, hts⟩ (ctX8_entriesOfAll l E  σ _  h) (cwV 0 hts gX8_told_X8_entriesOfAll rfl rfl rfl ⟨rfl, hdX8_entriesOfAll⟩ ⟨Nat.le_of_ble_eq_true rfl, Nat.le_of_ble_eq_true rfl⟩) hK hN hg (recv_x (ci := 8) (C := RX8) (T := TX8) (N := 14) hg hK (by decide) rfl (by decide) rfl) rfl hl.1 rfl (cat_sum _ (by simp)) dX8_told_81 ⟨Nat.le_refl 0, Nat.le_refl 0⟩) hg (fun r11 s10 H locs hz12 hm2 h hg => ?_)
    have hm := hm.tn hm2
    exact ret_i hx hb hr hlocks hg hz12 hm h dX8_told_84
theorem hdX8_digest : yX8_digest.cls ≠ "java/lang/invoke/MethodHandle" ∧ yX8_digest.cls ≠ "java/lang/invoke/VarHandle" ∧ (parseMethodDescriptor yX8_digest.desc).map (fun d => d.parameters.length) = some 0 := by decide +kernel
set_option maxRecDepth 100000 in
set_option maxHeartbeats 4000000 in
theorem ctX8_digest (l : Launch) (E : Ev)  (σ : SS) (Q : Int → SS → Prop)  (h : wX8_digest  σ Q) : Met l yX8_digest wsX8_digest ({ frames := 47, cells := 0, slots := 0, locals := 1033 } : Room) (Pc E σ [.ref (ea E 0)]) (Ql E (sz σ) σ Q) 0 0 (Av E) := by
  rw [wX8_digest] at h
  refine Met.ofW (cc := cX8_digest) (maxL := 5) (ret := (some .long)) (by decide) rfl ?_
  intro p e s m args below meth c s₁ B hml hv
  obtain ⟨rfl, hH, hK, hN⟩ := hv
  have hx := B.exec
  have hb := B.bytes
  have hr := B.returns
  have hts := atoms_spec (ws := wsX8_digest) B.pre
  have hown : s.vm.findClass RX8 = some m.cls := findClass_of_methodNamed B.named
  have hlocks := B.notSynchronized
  have hg : GS E σ s s.heap [] := ⟨hH, va_S.rf⟩
  have hm : Mo (sz σ) σ σ := Mo.rf (Nat.le_refl _)
  have hl := ent (vs := [.ref (ea E 0)]) (n := 5) (cats_x cats_nil) (Nat.le_of_ble_eq_true rfl)
  rw [lg_entry_eq]
  generalize (lg_sl ([.ref (ea E 0)]) ++ List.replicate (5 - (lg_sl ([.ref (ea E 0)])).length) Slot.unset).toArray = ls at hl ⊢
  have hl : lv_has ls 5 [(0, .ref (ea E 0))] := hl
  have J70 : ∀ (K33 : Int → Int → SS → Prop) (hK33 : ∀ (v1 : Int) (v3 : Int) (sL : SS) (H : Heap) (locs : List Loc) (ls : Array Slot), GS E sL s H locs → Mo (sz σ) σ sL → lv_has ls 5 [(0, .ref (ea E 0)), (1, .long (lI (v1))), (3, .int (iI (v3)))] → K33 v1 v3 sL → W p l e (headSpec wsX8_digest ({ frames := 47, cells := 0, slots := 0, locals := 1033 } : Room)).room s m (List.toArray [.ref (ea E 0)]) below meth c H locs 0 0 (MQ below (Ql E (sz σ) σ Q) (List.toArray [.ref (ea E 0)]) s 0 0 (Av E)) (F0 m 33 ls [])) (k : Nat), ∀ (v1 : Int) (v3 : Int) (v4 : Int) (sL : SS) (H : Heap) (locs : List Loc) (ls : Array Slot), GS E sL s H locs → Mo (sz σ) σ sL → lv_has ls 5 [(0, .ref (ea E 0)), (1, .long (lI (v1))), (3, .int (iI (v3))), (4, .int (iI (v4)))] → wX8_digest_L70  Q K33 k v1 v3 v4 sL → W p l e (headSpec wsX8_digest ({ frames := 47, cells := 0, slots := 0, locals := 1033 } : Room)).room s m (List.toArray [.ref (ea E 0)]) below meth c H locs 0 0 (MQ below (Ql E (sz σ) σ Q) (List.toArray [.ref (ea E 0)]) s 0 0 (Av E)) (F0 m 70 ls []) := by
    intro K33 hK33
    intro k
    induction k with
    | zero => intro v1 v3 v4 sL H locs ls hg hm hl h; exact False.elim h
    | succ k ih =>
      intro v1 v3 v4 sL H locs ls hg hm hl h
      rw [wX8_digest_L70] at h
      refine lv_iload hx hb dX8_digest_70 (lv_at hl 3 rfl) ?_
      refine lv_aload_n hx hb dX8_digest_72 rfl (lv_at hl 0 rfl) ?_
      refine q_getx (ci := 8) (C := RX8) (T := TX8) (N := 14) (j := 15) hx hb hts (fun _ h9 => List.mem_cons_of_mem _ (List.mem_append_left _ (List.mem_append_left _ (List.mem_append_left _ (List.mem_append_left _ (List.mem_append_right _ h9)))))) hown hK hg 0 (by decide) rfl rfl (by decide) rfl 8 (by decide) (hts (.fieldLink RX8 68 "JoinMaps" "first" "LJoinMaps$Row;") (List.mem_cons_of_mem _ (List.mem_append_left _ (List.mem_append_left _ (List.mem_append_left _ (List.mem_append_left _ (List.mem_append_left _ (List.mem_append_left _ (List.mem_of_getElem? (i := 2) rfl))))))))) rfl rfl rfl dX8_digest_73 ?_
      refine q_geti (ci := 6) (C := RX6) (T := TX6) (N := 3) hx hb hts (fun _ h9 => List.mem_cons_of_mem _ (List.mem_append_left _ (List.mem_append_left _ (List.mem_append_left _ (List.mem_append_right _ h9))))) hown hK hg 15 (by decide) rfl rfl (by decide) rfl 2 (by decide) (hts (.fieldLink RX8 153 "JoinMaps$Row" "length" "I") (List.mem_cons_of_mem _ (List.mem_append_left _ (List.mem_append_left _ (List.mem_append_left _ (List.mem_append_left _ (List.mem_append_left _ (List.mem_append_left _ (List.mem_of_getElem? (i := 4) rfl))))))))) rfl rfl dX8_digest_76 ?_
      have hR15 := GS_R hg 15 2
      obtain ⟨hR16, h⟩ := h
      refine j_ge (tgt := 122) hx hb dX8_digest_79 (by decide) hR16 hR15 (fun c17 => ?_) (fun c17 => ?_)
      · have h := h.1 c17
        refine lv_iinc (v := iI (v3 + 1)) (lv' := [(3, .int (iI (v3 + 1))), (0, .ref (ea E 0)), (1, .long (lI (v1))), (4, .int (iI (v4)))]) hx hb dX8_digest_122 hl (k := 2) rfl (iI_add _ _) (by decide) rfl (fun ls hl => ?_)
        refine lv_goto (tgt := 33) hx hb dX8_digest_125 (by decide) ?_
        exact hK33 (v1) (v3 + 1) (sL) _ _ _ hg hm (lv_sub hl [1, 2, 0] rfl) h
      · have h := h.2 c17
        refine q_ldc2 (z := 31) hx hb hown (hts (.constantLong RX8 287 (31)) (List.mem_cons_of_mem _ (List.mem_append_left _ (List.mem_append_left _ (List.mem_append_left _ (List.mem_append_left _ (List.mem_append_left _ (List.mem_append_left _ (List.mem_of_getElem? (i := 1) rfl))))))))) (by decide) dX8_digest_82 ?_
        refine lv_lload_n hx hb dX8_digest_85 rfl (lv_at hl 1 rfl) ?_
        refine q_lmul hx hb dX8_digest_86 ?_
        refine lv_aload_n hx hb dX8_digest_87 rfl (lv_at hl 0 rfl) ?_
        refine q_getx (ci := 8) (C := RX8) (T := TX8) (N := 14) (j := 15) hx hb hts (fun _ h9 => List.mem_cons_of_mem _ (List.mem_append_left _ (List.mem_append_left _ (List.mem_append_left _ (List.mem_append_left _ (List.mem_append_right _ h9)))))) hown hK hg 0 (by decide) rfl rfl (by decide) rfl 8 (by decide) (hts (.fieldLink RX8 68 "JoinMaps" "first" "LJoinMaps$Row;") (List.mem_cons_of_mem _ (List.mem_append_left _ (List.mem_append_left _ (List.mem_append_left _ (List.mem_append_left _ (List.mem_append_left _ (List.mem_append_left _ (List.mem_of_getElem? (i := 2) rfl))))))))) rfl rfl rfl dX8_digest_88 ?_
        refine lv_iload hx hb dX8_digest_91 (lv_at hl 3 rfl) ?_
        refine call_i (run_V (a := ea E 15) (As := [.int (iI (v4))]) (rest := [.long (lI ((31 * v1)))]) ⟨hx, hb, hml, hown, hts⟩ (ctX6_keyAt l E 15 v4 sL _ (by decide) hR16 h) (cwV 1 hts gX8_digest_X6_keyAt rfl rfl rfl ⟨rfl, hdX6_keyAt⟩ ⟨Nat.le_of_ble_eq_true rfl, Nat.le_of_ble_eq_true rfl⟩) hK hN hg (recv_x (ci := 6) (C := RX6) (T := TX6) (N := 3) hg hK (by decide) rfl (by decide) rfl) rfl hl.1 rfl (cat_sum _ (by simp)) dX8_digest_93 ⟨Nat.le_refl 0, Nat.le_refl 0⟩) hg (fun r19 s18 H locs hz20 hm2 h hg => ?_)
        have hm := hm.tn hm2
        refine q_i2l hx hb hz20 dX8_digest_96 ?_
        refine q_ladd hx hb dX8_digest_97 ?_
        refine lv_lstore_n (i := 1) (lv' := [(1, .long (lI (((31 * v1) + r19)))), (0, .ref (ea E 0)), (3, .int (iI (v3))), (4, .int (iI (v4)))]) hx hb dX8_digest_98 rfl hl (by decide) rfl (fun ls hl => ?_)
        refine q_ldc2 (z := 31) hx hb hown (hts (.constantLong RX8 287 (31)) (List.mem_cons_of_mem _ (List.mem_append_left _ (List.mem_append_left _ (List.mem_append_left _ (List.mem_append_left _ (List.mem_append_left _ (List.mem_append_left _ (List.mem_of_getElem? (i := 1) rfl))))))))) (by decide) dX8_digest_99 ?_
        refine lv_lload_n hx hb dX8_digest_102 rfl (lv_at hl 0 rfl) ?_
        refine q_lmul hx hb dX8_digest_103 ?_
        refine lv_aload_n hx hb dX8_digest_104 rfl (lv_at hl 1 rfl) ?_
        refine q_getx (ci := 8) (C := RX8) (T := TX8) (N := 14) (j := 15) hx hb hts (fun _ h9 => List.mem_cons_of_mem _ (List.mem_append_left _ (List.mem_append_left _ (List.mem_append_left _ (List.mem_append_left _ (List.mem_append_right _ h9)))))) hown hK hg 0 (by decide) rfl rfl (by decide) rfl 8 (by decide) (hts (.fieldLink RX8 68 "JoinMaps" "first" "LJoinMaps$Row;") (List.mem_cons_of_mem _ (List.mem_append_left _ (List.mem_append_left _ (List.mem_append_left _ (List.mem_append_left _ (List.mem_append_left _ (List.mem_append_left _ (List.mem_of_getElem? (i := 2) rfl))))))))) rfl rfl rfl dX8_digest_105 ?_
        refine lv_iload hx hb dX8_digest_108 (lv_at hl 3 rfl) ?_
        refine call_i (run_V (a := ea E 15) (As := [.int (iI (v4))]) (rest := [.long (lI ((31 * ((31 * v1) + r19))))]) ⟨hx, hb, hml, hown, hts⟩ (ctX6_valueAt l E 15 v4 s18 _ (by decide) hR16 h) (cwV 1 hts gX8_digest_X6_valueAt rfl rfl rfl ⟨rfl, hdX6_valueAt⟩ ⟨Nat.le_of_ble_eq_true rfl, Nat.le_of_ble_eq_true rfl⟩) hK hN hg (recv_x (ci := 6) (C := RX6) (T := TX6) (N := 3) hg hK (by decide) rfl (by decide) rfl) rfl hl.1 rfl (cat_sum _ (by simp)) dX8_digest_110 ⟨Nat.le_refl 0, Nat.le_refl 0⟩) hg (fun r22 s21 H locs hz23 hm2 h hg => ?_)
        have hm := hm.tn hm2
        refine q_i2l hx hb hz23 dX8_digest_113 ?_
        refine q_ladd hx hb dX8_digest_114 ?_
        refine lv_lstore_n (i := 1) (lv' := [(1, .long (lI (((31 * ((31 * v1) + r19)) + r22)))), (0, .ref (ea E 0)), (3, .int (iI (v3))), (4, .int (iI (v4)))]) hx hb dX8_digest_115 rfl hl (by decide) rfl (fun ls hl => ?_)
        refine lv_iinc (v := iI (v4 + 1)) (lv' := [(4, .int (iI (v4 + 1))), (1, .long (lI (((31 * ((31 * v1) + r19)) + r22)))), (0, .ref (ea E 0)), (3, .int (iI (v3)))]) hx hb dX8_digest_116 hl (k := 3) rfl (iI_add _ _) (by decide) rfl (fun ls hl => ?_)
        refine lv_goto (tgt := 70) hx hb dX8_digest_119 (by decide) ?_
        exact ih (((31 * ((31 * v1) + r19)) + r22)) (v3) (v4 + 1) (s21) _ _ _ hg hm (lv_sub hl [2, 1, 3, 0] rfl) h
  have J33 : ∀ (k : Nat), ∀ (v1 : Int) (v3 : Int) (sL : SS) (H : Heap) (locs : List Loc) (ls : Array Slot), GS E sL s H locs → Mo (sz σ) σ sL → lv_has ls 5 [(0, .ref (ea E 0)), (1, .long (lI (v1))), (3, .int (iI (v3)))] → wX8_digest_L33  Q  k v1 v3 sL → W p l e (headSpec wsX8_digest ({ frames := 47, cells := 0, slots := 0, locals := 1033 } : Room)).room s m (List.toArray [.ref (ea E 0)]) below meth c H locs 0 0 (MQ below (Ql E (sz σ) σ Q) (List.toArray [.ref (ea E 0)]) s 0 0 (Av E)) (F0 m 33 ls []) := by
    intro k
    induction k with
    | zero => intro v1 v3 sL H locs ls hg hm hl h; exact False.elim h
    | succ k ih =>
      intro v1 v3 sL H locs ls hg hm hl h
      rw [wX8_digest_L33] at h
      refine lv_iload_n hx hb dX8_digest_33 rfl (lv_at hl 2 rfl) ?_
      refine lv_bipush (v := iI 6) hx hb dX8_digest_34 (by decide) ?_
      obtain ⟨hR6, h⟩ := h
      refine j_ge (tgt := 128) hx hb dX8_digest_36 (by decide) hR6 (by decide) (fun c7 => ?_) (fun c7 => ?_)
      · have h := h.1 c7
        refine lv_lload_n hx hb dX8_digest_128 rfl (lv_at hl 1 rfl) ?_
        exact ret_l hx hb hr hlocks hg  hm h dX8_digest_129
      · have h := h.2 c7
        refine lv_aload_n hx hb dX8_digest_39 rfl (lv_at hl 0 rfl) ?_
        refine q_getx (ci := 8) (C := RX8) (T := TX8) (N := 14) (j := 15) hx hb hts (fun _ h9 => List.mem_cons_of_mem _ (List.mem_append_left _ (List.mem_append_left _ (List.mem_append_left _ (List.mem_append_left _ (List.mem_append_right _ h9)))))) hown hK hg 0 (by decide) rfl rfl (by decide) rfl 8 (by decide) (hts (.fieldLink RX8 68 "JoinMaps" "first" "LJoinMaps$Row;") (List.mem_cons_of_mem _ (List.mem_append_left _ (List.mem_append_left _ (List.mem_append_left _ (List.mem_append_left _ (List.mem_append_left _ (List.mem_append_left _ (List.mem_of_getElem? (i := 2) rfl))))))))) rfl rfl rfl dX8_digest_40 ?_
        refine lv_aload_n hx hb dX8_digest_43 rfl (lv_at hl 0 rfl) ?_
        refine q_getx (ci := 8) (C := RX8) (T := TX8) (N := 14) (j := 3) hx hb hts (fun _ h9 => List.mem_cons_of_mem _ (List.mem_append_left _ (List.mem_append_left _ (List.mem_append_left _ (List.mem_append_left _ (List.mem_append_right _ h9)))))) hown hK hg 0 (by decide) rfl rfl (by decide) rfl 2 (by decide) (hts (.fieldLink RX8 27 "JoinMaps" "maps" "[LJoinMaps$Node;") (List.mem_cons_of_mem _ (List.mem_append_left _ (List.mem_append_left _ (List.mem_append_left _ (List.mem_append_left _ (List.mem_append_left _ (List.mem_append_left _ (List.mem_of_getElem? (i := 3) rfl))))))))) rfl rfl rfl dX8_digest_44 ?_
        refine lv_iload_n hx hb dX8_digest_47 rfl (lv_at hl 2 rfl) ?_
        obtain ⟨hP8, hP9, h⟩ := h
        refine q_aald (N := 6) hx hb hK hg 3 (by decide) rfl rfl hP8 hP9 (by decide) dX8_digest_48 ?_
        have hS10 : ∀ b, (sf sL 3 (v3 : Int).toNat) = some b → sS sL b := fun b h0 => GS_F hg h0
        refine call_v (run_V (a := ea E 15) (As := [va_rf ((sf sL 3 (v3 : Int).toNat))]) (rest := []) ⟨hx, hb, hml, hown, hts⟩ (ctX6_take l E 15 (sf sL 3 (v3 : Int).toNat) sL _ (by decide) hS10 h) (cwV 1 hts gX8_digest_X6_take rfl rfl rfl ⟨rfl, hdX6_take⟩ ⟨Nat.le_of_ble_eq_true rfl, Nat.le_of_ble_eq_true rfl⟩) hK hN hg (recv_x (ci := 6) (C := RX6) (T := TX6) (N := 3) hg hK (by decide) rfl (by decide) rfl) rfl hl.1 rfl (cat_sum _ (by simp)) dX8_digest_49 ⟨Nat.le_refl 0, Nat.le_refl 0⟩) hg (fun s11 H locs hm2 h hg => ?_)
        have hm := hm.tn hm2
        refine q_ldc2 (z := 31) hx hb hown (hts (.constantLong RX8 287 (31)) (List.mem_cons_of_mem _ (List.mem_append_left _ (List.mem_append_left _ (List.mem_append_left _ (List.mem_append_left _ (List.mem_append_left _ (List.mem_append_left _ (List.mem_of_getElem? (i := 1) rfl))))))))) (by decide) dX8_digest_52 ?_
        refine lv_lload_n hx hb dX8_digest_55 rfl (lv_at hl 1 rfl) ?_
        refine q_lmul hx hb dX8_digest_56 ?_
        refine lv_aload_n hx hb dX8_digest_57 rfl (lv_at hl 0 rfl) ?_
        refine q_getx (ci := 8) (C := RX8) (T := TX8) (N := 14) (j := 15) hx hb hts (fun _ h9 => List.mem_cons_of_mem _ (List.mem_append_left _ (List.mem_append_left _ (List.mem_append_left _ (List.mem_append_left _ (List.mem_append_right _ h9)))))) hown hK hg 0 (by decide) rfl rfl (by decide) rfl 8 (by decide) (hts (.fieldLink RX8 68 "JoinMaps" "first" "LJoinMaps$Row;") (List.mem_cons_of_mem _ (List.mem_append_left _ (List.mem_append_left _ (List.mem_append_left _ (List.mem_append_left _ (List.mem_append_left _ (List.mem_append_left _ (List.mem_of_getElem? (i := 2) rfl))))))))) rfl rfl rfl dX8_digest_58 ?_
        refine q_geti (ci := 6) (C := RX6) (T := TX6) (N := 3) hx hb hts (fun _ h9 => List.mem_cons_of_mem _ (List.mem_append_left _ (List.mem_append_left _ (List.mem_append_left _ (List.mem_append_right _ h9))))) hown hK hg 15 (by decide) rfl rfl (by decide) rfl 2 (by decide) (hts (.fieldLink RX8 153 "JoinMaps$Row" "length" "I") (List.mem_cons_of_mem _ (List.mem_append_left _ (List.mem_append_left _ (List.mem_append_left _ (List.mem_append_left _ (List.mem_append_left _ (List.mem_append_left _ (List.mem_of_getElem? (i := 4) rfl))))))))) rfl rfl dX8_digest_61 ?_
        have hR14 := GS_R hg 15 2
        refine q_i2l hx hb hR14 dX8_digest_64 ?_
        refine q_ladd hx hb dX8_digest_65 ?_
        refine lv_lstore_n (i := 1) (lv' := [(1, .long (lI (((31 * v1) + (sn s11 15 2))))), (0, .ref (ea E 0)), (3, .int (iI (v3)))]) hx hb dX8_digest_66 rfl hl (by decide) rfl (fun ls hl => ?_)
        refine lv_iconst (v := iI 0) hx hb dX8_digest_67 (by decide) ?_
        refine lv_istore (i := 4) (lv' := [(4, .int (iI (0))), (1, .long (lI (((31 * v1) + (sn s11 15 2))))), (0, .ref (ea E 0)), (3, .int (iI (v3)))]) hx hb dX8_digest_68 hl (by decide) rfl (fun ls hl => ?_)
        obtain ⟨kk, h⟩ := h
        exact J70 _ ih kk (((31 * v1) + (sn s11 15 2))) (v3) (0) (s11) _ _ _ hg hm (lv_sub hl [2, 1, 3, 0] rfl) h
  have J6 : ∀ (k : Nat), ∀ (v1 : Int) (v3 : Int) (sL : SS) (H : Heap) (locs : List Loc) (ls : Array Slot), GS E sL s H locs → Mo (sz σ) σ sL → lv_has ls 5 [(0, .ref (ea E 0)), (1, .long (lI (v1))), (3, .int (iI (v3)))] → wX8_digest_L6  Q  k v1 v3 sL → W p l e (headSpec wsX8_digest ({ frames := 47, cells := 0, slots := 0, locals := 1033 } : Room)).room s m (List.toArray [.ref (ea E 0)]) below meth c H locs 0 0 (MQ below (Ql E (sz σ) σ Q) (List.toArray [.ref (ea E 0)]) s 0 0 (Av E)) (F0 m 6 ls []) := by
    intro k
    induction k with
    | zero => intro v1 v3 sL H locs ls hg hm hl h; exact False.elim h
    | succ k ih =>
      intro v1 v3 sL H locs ls hg hm hl h
      rw [wX8_digest_L6] at h
      refine lv_iload_n hx hb dX8_digest_6 rfl (lv_at hl 2 rfl) ?_
      refine lv_bipush (v := iI 6) hx hb dX8_digest_7 (by decide) ?_
      obtain ⟨hR1, h⟩ := h
      refine j_gt (tgt := 31) hx hb dX8_digest_9 (by decide) hR1 (by decide) (fun c2 => ?_) (fun c2 => ?_)
      · have h := h.1 c2
        refine lv_iconst (v := iI 0) hx hb dX8_digest_31 (by decide) ?_
        refine lv_istore_n (i := 3) (lv' := [(3, .int (iI (0))), (0, .ref (ea E 0)), (1, .long (lI (v1)))]) hx hb dX8_digest_32 rfl hl (by decide) rfl (fun ls hl => ?_)
        obtain ⟨kk, h⟩ := h
        exact J33  kk (v1) (0) (sL) _ _ _ hg hm (lv_sub hl [1, 2, 0] rfl) h
      · have h := h.2 c2
        refine q_ldc2 (z := 31) hx hb hown (hts (.constantLong RX8 287 (31)) (List.mem_cons_of_mem _ (List.mem_append_left _ (List.mem_append_left _ (List.mem_append_left _ (List.mem_append_left _ (List.mem_append_left _ (List.mem_append_left _ (List.mem_of_getElem? (i := 1) rfl))))))))) (by decide) dX8_digest_12 ?_
        refine lv_lload_n hx hb dX8_digest_15 rfl (lv_at hl 1 rfl) ?_
        refine q_lmul hx hb dX8_digest_16 ?_
        refine lv_aload_n hx hb dX8_digest_17 rfl (lv_at hl 0 rfl) ?_
        refine lv_iload_n hx hb dX8_digest_18 rfl (lv_at hl 2 rfl) ?_
        refine call_i (run_V (a := ea E 0) (As := [.int (iI (v3))]) (rest := [.long (lI ((31 * v1)))]) ⟨hx, hb, hml, hown, hts⟩ (ctX8_told l E v3 sL _ hR1 h) (cwV 1 hts gX8_digest_X8_told rfl rfl rfl ⟨rfl, hdX8_told⟩ ⟨Nat.le_of_ble_eq_true rfl, Nat.le_of_ble_eq_true rfl⟩) hK hN hg (recv_x (ci := 8) (C := RX8) (T := TX8) (N := 14) hg hK (by decide) rfl (by decide) rfl) rfl hl.1 rfl (cat_sum _ (by simp)) dX8_digest_19 ⟨Nat.le_refl 0, Nat.le_refl 0⟩) hg (fun r4 s3 H locs hz5 hm2 h hg => ?_)
        have hm := hm.tn hm2
        refine q_i2l hx hb hz5 dX8_digest_22 ?_
        refine q_ladd hx hb dX8_digest_23 ?_
        refine lv_lstore_n (i := 1) (lv' := [(1, .long (lI (((31 * v1) + r4)))), (0, .ref (ea E 0)), (3, .int (iI (v3)))]) hx hb dX8_digest_24 rfl hl (by decide) rfl (fun ls hl => ?_)
        refine lv_iinc (v := iI (v3 + 1)) (lv' := [(3, .int (iI (v3 + 1))), (1, .long (lI (((31 * v1) + r4)))), (0, .ref (ea E 0))]) hx hb dX8_digest_25 hl (k := 2) rfl (iI_add _ _) (by decide) rfl (fun ls hl => ?_)
        refine lv_goto (tgt := 6) hx hb dX8_digest_28 (by decide) ?_
        exact ih (((31 * v1) + r4)) (v3 + 1) (s3) _ _ _ hg hm (lv_sub hl [2, 1, 0] rfl) h
  refine q_ldc2 (z := 1889) hx hb hown (hts (.constantLong RX8 285 (1889)) (List.mem_cons_of_mem _ (List.mem_append_left _ (List.mem_append_left _ (List.mem_append_left _ (List.mem_append_left _ (List.mem_append_left _ (List.mem_append_left _ (List.mem_of_getElem? (i := 0) rfl))))))))) (by decide) dX8_digest_0 ?_
  refine lv_lstore_n (i := 1) (lv' := [(1, .long (lI (1889))), (0, .ref (ea E 0))]) hx hb dX8_digest_3 rfl hl (by decide) rfl (fun ls hl => ?_)
  refine lv_iconst (v := iI 0) hx hb dX8_digest_4 (by decide) ?_
  refine lv_istore_n (i := 3) (lv' := [(3, .int (iI (0))), (1, .long (lI (1889))), (0, .ref (ea E 0))]) hx hb dX8_digest_5 rfl hl (by decide) rfl (fun ls hl => ?_)
  obtain ⟨kk, h⟩ := h
  exact J6  kk (1889) (0) (σ) _ _ _ hg hm (lv_sub hl [2, 1, 0] rfl) h
