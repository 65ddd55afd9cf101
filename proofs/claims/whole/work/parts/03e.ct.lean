theorem hdX8_isRange : yX8_isRange.cls ≠ "java/lang/invoke/MethodHandle" ∧ yX8_isRange.cls ≠ "java/lang/invoke/VarHandle" ∧ (parseMethodDescriptor yX8_isRange.desc).map (fun d => d.parameters.length) = some 2 := by decide +kernel
set_option maxRecDepth 100000 in
set_option maxHeartbeats 4000000 in
theorem ctX8_isRange (l : Launch) (E : Ev) (a0 : Int) (a1 : Int) (σ : SS) (Q : Int → SS → Prop) (ha0 : R32 a0) (ha1 : R32 a1) (h : wX8_isRange a0 a1 σ Q) : Met l yX8_isRange wsX8_isRange ({ frames := 2, cells := 0, slots := 0, locals := 42 } : Room) (Pc E σ [.int (iI (a0)), .int (iI (a1))]) (Qz E (sz σ) σ Q) 0 0 (Av E) := by
  rw [wX8_isRange] at h
  refine Met.ofW (cc := cX8_isRange) (maxL := 2) (ret := (some .boolean)) (by decide) rfl ?_
  intro p e s m args below meth c s₁ B hml hv
  obtain ⟨rfl, hH, hK, hN⟩ := hv
  have hx := B.exec
  have hb := B.bytes
  have hr := B.returns
  have hts := atoms_spec (ws := wsX8_isRange) B.pre
  have hown : s.vm.findClass RX8 = some m.cls := findClass_of_methodNamed B.named
  have hlocks := B.notSynchronized
  have hg : GS E σ s s.heap [] := ⟨hH, va_S.rf⟩
  have hm : Mo (sz σ) σ σ := Mo.rf (Nat.le_refl _)
  have hl := ent (vs := [.int (iI (a0)), .int (iI (a1))]) (n := 2) (cats_i (cats_i cats_nil)) (Nat.le_of_ble_eq_true rfl)
  rw [lg_entry_eq]
  generalize (lg_sl ([.int (iI (a0)), .int (iI (a1))]) ++ List.replicate (2 - (lg_sl ([.int (iI (a0)), .int (iI (a1))])).length) Slot.unset).toArray = ls at hl ⊢
  have hl : lv_has ls 2 [(0, .int (iI (a0))), (1, .int (iI (a1)))] := hl
  refine lv_iload_n hx hb dX8_isRange_0 rfl (lv_at hl 0 rfl) ?_
  refine call_z (run_S (As := [.int (iI (a0))]) (rest := []) ⟨hx, hb, hml, hown, hts⟩ (ctX8_isKey l E a0 σ _ ha0 h) (va_cwS 1 hts gX8_isRange_X8_isKey rfl rfl rfl hdX8_isKey ⟨Nat.le_of_ble_eq_true rfl, Nat.le_of_ble_eq_true rfl⟩) hK hN hg rfl hl.1 rfl (cat_sum _ (by simp)) dX8_isRange_1 ⟨Nat.le_refl 0, Nat.le_refl 0⟩) hg (fun r2 s1 H locs hz3 hm2 h hg => ?_)
  have hm := hm.tn hm2
  refine k_eq (tgt := 23) hx hb dX8_isRange_4 (by decide) (z_R hz3) (fun c4 => ?_) (fun c4 => ?_)
  · have h := h.1 c4
    refine lv_iconst (v := iI 0) hx hb dX8_isRange_23 (by decide) ?_
    exact ret_z hx hb hr hlocks hg (by decide) hm h dX8_isRange_24
  · have h := h.2 c4
    refine lv_iload_n hx hb dX8_isRange_7 rfl (lv_at hl 1 rfl) ?_
    refine call_z (run_S (As := [.int (iI (a1))]) (rest := []) ⟨hx, hb, hml, hown, hts⟩ (ctX8_isKey l E a1 s1 _ ha1 h) (va_cwS 1 hts gX8_isRange_X8_isKey rfl rfl rfl hdX8_isKey ⟨Nat.le_of_ble_eq_true rfl, Nat.le_of_ble_eq_true rfl⟩) hK hN hg rfl hl.1 rfl (cat_sum _ (by simp)) dX8_isRange_8 ⟨Nat.le_refl 0, Nat.le_refl 0⟩) hg (fun r6 s5 H locs hz7 hm2 h hg => ?_)
    have hm := hm.tn hm2
    refine k_eq (tgt := 23) hx hb dX8_isRange_11 (by decide) (z_R hz7) (fun c8 => ?_) (fun c8 => ?_)
    · have h := h.1 c8
      refine lv_iconst (v := iI 0) hx hb dX8_isRange_23 (by decide) ?_
      exact ret_z hx hb hr hlocks hg (by decide) hm h dX8_isRange_24
    · have h := h.2 c8
      refine lv_iload_n hx hb dX8_isRange_14 rfl (lv_at hl 0 rfl) ?_
      refine lv_iload_n hx hb dX8_isRange_15 rfl (lv_at hl 1 rfl) ?_
      refine j_gt (tgt := 23) hx hb dX8_isRange_16 (by decide) ha0 ha1 (fun c9 => ?_) (fun c9 => ?_)
      · have h := h.1 c9
        refine lv_iconst (v := iI 0) hx hb dX8_isRange_23 (by decide) ?_
        exact ret_z hx hb hr hlocks hg (by decide) hm h dX8_isRange_24
      · have h := h.2 c9
        refine lv_iconst (v := iI 1) hx hb dX8_isRange_19 (by decide) ?_
        refine lv_goto (tgt := 24) hx hb dX8_isRange_20 (by decide) ?_
        exact ret_z hx hb hr hlocks hg (by decide) hm h dX8_isRange_24
theorem hdX8_within : yX8_within.cls ≠ "java/lang/invoke/MethodHandle" ∧ yX8_within.cls ≠ "java/lang/invoke/VarHandle" ∧ (parseMethodDescriptor yX8_within.desc).map (fun d => d.parameters.length) = some 3 := by decide +kernel
set_option maxRecDepth 100000 in
set_option maxHeartbeats 4000000 in
theorem ctX8_within (l : Launch) (E : Ev) (a1 : Int) (a2 : Int) (a3 : Int) (σ : SS) (Q : Int → SS → Prop) (ha1 : R32 a1) (ha2 : R32 a2) (ha3 : R32 a3) (h : wX8_within a1 a2 a3 σ Q) : Met l yX8_within wsX8_within ({ frames := 3, cells := 0, slots := 0, locals := 65 } : Room) (Pc E σ [.ref (ea E 0), .int (iI (a1)), .int (iI (a2)), .int (iI (a3))]) (Qi E (sz σ) σ Q) 0 0 (Av E) := by
  rw [wX8_within] at h
  refine Met.ofW (cc := cX8_within) (maxL := 4) (ret := (some .int)) (by decide) rfl ?_
  intro p e s m args below meth c s₁ B hml hv
  obtain ⟨rfl, hH, hK, hN⟩ := hv
  have hx := B.exec
  have hb := B.bytes
  have hr := B.returns
  have hts := atoms_spec (ws := wsX8_within) B.pre
  have hown : s.vm.findClass RX8 = some m.cls := findClass_of_methodNamed B.named
  have hlocks := B.notSynchronized
  have hg : GS E σ s s.heap [] := ⟨hH, va_S.rf⟩
  have hm : Mo (sz σ) σ σ := Mo.rf (Nat.le_refl _)
  have hl := ent (vs := [.ref (ea E 0), .int (iI (a1)), .int (iI (a2)), .int (iI (a3))]) (n := 4) (cats_x (cats_i (cats_i (cats_i cats_nil)))) (Nat.le_of_ble_eq_true rfl)
  rw [lg_entry_eq]
  generalize (lg_sl ([.ref (ea E 0), .int (iI (a1)), .int (iI (a2)), .int (iI (a3))]) ++ List.replicate (4 - (lg_sl ([.ref (ea E 0), .int (iI (a1)), .int (iI (a2)), .int (iI (a3))])).length) Slot.unset).toArray = ls at hl ⊢
  have hl : lv_has ls 4 [(0, .ref (ea E 0)), (1, .int (iI (a1))), (2, .int (iI (a2))), (3, .int (iI (a3)))] := hl
  refine lv_iload_n hx hb dX8_within_0 rfl (lv_at hl 1 rfl) ?_
  refine call_z (run_S (As := [.int (iI (a1))]) (rest := []) ⟨hx, hb, hml, hown, hts⟩ (ctX8_isMap l E a1 σ _ ha1 h) (va_cwS 1 hts gX8_within_X8_isMap rfl rfl rfl hdX8_isMap ⟨Nat.le_of_ble_eq_true rfl, Nat.le_of_ble_eq_true rfl⟩) hK hN hg rfl hl.1 rfl (cat_sum _ (by simp)) dX8_within_1 ⟨Nat.le_refl 0, Nat.le_refl 0⟩) hg (fun r2 s1 H locs hz3 hm2 h hg => ?_)
  have hm := hm.tn hm2
  refine k_eq (tgt := 29) hx hb dX8_within_4 (by decide) (z_R hz3) (fun c4 => ?_) (fun c4 => ?_)
  · have h := h.1 c4
    refine lv_aload_n hx hb dX8_within_29 rfl (lv_at hl 0 rfl) ?_
    refine call_i (run_V (a := ea E 0) (As := []) (rest := []) ⟨hx, hb, hml, hown, hts⟩ (ctX8_bad l E  s1 _  h) (cwV 0 hts gX8_within_X8_bad rfl rfl rfl ⟨rfl, hdX8_bad⟩ ⟨Nat.le_of_ble_eq_true rfl, Nat.le_of_ble_eq_true rfl⟩) hK hN hg (recv_x (ci := 8) (C := RX8) (T := TX8) (N := 14) hg hK (by decide) rfl (by decide) rfl) rfl hl.1 rfl (cat_sum _ (by simp)) dX8_within_30 ⟨Nat.le_refl 0, Nat.le_refl 0⟩) hg (fun r6 s5 H locs hz7 hm2 h hg => ?_)
    have hm := hm.tn hm2
    exact ret_i hx hb hr hlocks hg hz7 hm h dX8_within_33
  · have h := h.2 c4
    refine lv_iload_n hx hb dX8_within_7 rfl (lv_at hl 2 rfl) ?_
    refine lv_iload_n hx hb dX8_within_8 rfl (lv_at hl 3 rfl) ?_
    refine call_z (run_S (As := [.int (iI (a2)), .int (iI (a3))]) (rest := []) ⟨hx, hb, hml, hown, hts⟩ (ctX8_isRange l E a2 a3 s1 _ ha2 ha3 h) (va_cwS 2 hts gX8_within_X8_isRange rfl rfl rfl hdX8_isRange ⟨Nat.le_of_ble_eq_true rfl, Nat.le_of_ble_eq_true rfl⟩) hK hN hg rfl hl.1 rfl (cat_sum _ (by simp)) dX8_within_9 ⟨Nat.le_refl 0, Nat.le_refl 0⟩) hg (fun r9 s8 H locs hz10 hm2 h hg => ?_)
    have hm := hm.tn hm2
    refine k_eq (tgt := 29) hx hb dX8_within_12 (by decide) (z_R hz10) (fun c11 => ?_) (fun c11 => ?_)
    · have h := h.1 c11
      refine lv_aload_n hx hb dX8_within_29 rfl (lv_at hl 0 rfl) ?_
      refine call_i (run_V (a := ea E 0) (As := []) (rest := []) ⟨hx, hb, hml, hown, hts⟩ (ctX8_bad l E  s8 _  h) (cwV 0 hts gX8_within_X8_bad rfl rfl rfl ⟨rfl, hdX8_bad⟩ ⟨Nat.le_of_ble_eq_true rfl, Nat.le_of_ble_eq_true rfl⟩) hK hN hg (recv_x (ci := 8) (C := RX8) (T := TX8) (N := 14) hg hK (by decide) rfl (by decide) rfl) rfl hl.1 rfl (cat_sum _ (by simp)) dX8_within_30 ⟨Nat.le_refl 0, Nat.le_refl 0⟩) hg (fun r13 s12 H locs hz14 hm2 h hg => ?_)
      have hm := hm.tn hm2
      exact ret_i hx hb hr hlocks hg hz14 hm h dX8_within_33
    · have h := h.2 c11
      refine lv_aload_n hx hb dX8_within_15 rfl (lv_at hl 0 rfl) ?_
      refine q_getx (ci := 8) (C := RX8) (T := TX8) (N := 14) (j := 3) hx hb hts (fun _ h9 => List.mem_cons_of_mem _ (List.mem_append_left _ (List.mem_append_right _ h9))) hown hK hg 0 (by decide) rfl rfl (by decide) rfl 2 (by decide) (hts (.fieldLink RX8 27 "JoinMaps" "maps" "[LJoinMaps$Node;") (List.mem_cons_of_mem _ (List.mem_append_left _ (List.mem_append_left _ (List.mem_append_left _ (List.mem_of_getElem? (i := 0) rfl)))))) rfl rfl rfl dX8_within_16 ?_
      refine lv_iload_n hx hb dX8_within_19 rfl (lv_at hl 1 rfl) ?_
      obtain ⟨hP15, hP16, h⟩ := h
      refine q_aald (N := 6) hx hb hK hg 3 (by decide) rfl rfl hP15 hP16 (by decide) dX8_within_20 ?_
      have hS17 : ∀ b, (sf s8 3 (a1 : Int).toNat) = some b → sS s8 b := fun b h0 => GS_F hg h0
      refine lv_iload_n hx hb dX8_within_21 rfl (lv_at hl 2 rfl) ?_
      refine lv_iload_n hx hb dX8_within_22 rfl (lv_at hl 3 rfl) ?_
      refine call_i (run_S (As := [va_rf ((sf s8 3 (a1 : Int).toNat)), .int (iI (a2)), .int (iI (a3))]) (rest := []) ⟨hx, hb, hml, hown, hts⟩ (ctX3_countWithin l E (sf s8 3 (a1 : Int).toNat) a2 a3 s8 _ hS17 ha2 ha3 h) (va_cwS 3 hts gX8_within_X3_countWithin rfl rfl rfl hdX3_countWithin ⟨Nat.le_of_ble_eq_true rfl, Nat.le_of_ble_eq_true rfl⟩) hK hN hg rfl hl.1 rfl (cat_sum _ (by simp)) dX8_within_23 ⟨Nat.le_refl 0, Nat.le_refl 0⟩) hg (fun r19 s18 H locs hz20 hm2 h hg => ?_)
      have hm := hm.tn hm2
      refine lv_goto (tgt := 33) hx hb dX8_within_26 (by decide) ?_
      exact ret_i hx hb hr hlocks hg hz20 hm h dX8_within_33
theorem hdX8_sum : yX8_sum.cls ≠ "java/lang/invoke/MethodHandle" ∧ yX8_sum.cls ≠ "java/lang/invoke/VarHandle" ∧ (parseMethodDescriptor yX8_sum.desc).map (fun d => d.parameters.length) = some 3 := by decide +kernel
set_option maxRecDepth 100000 in
set_option maxHeartbeats 4000000 in
theorem ctX8_sum (l : Launch) (E : Ev) (a1 : Int) (a2 : Int) (a3 : Int) (σ : SS) (Q : Int → SS → Prop) (ha1 : R32 a1) (ha2 : R32 a2) (ha3 : R32 a3) (h : wX8_sum a1 a2 a3 σ Q) : Met l yX8_sum wsX8_sum ({ frames := 3, cells := 0, slots := 0, locals := 63 } : Room) (Pc E σ [.ref (ea E 0), .int (iI (a1)), .int (iI (a2)), .int (iI (a3))]) (Ql E (sz σ) σ Q) 0 0 (Av E) := by
  rw [wX8_sum] at h
  refine Met.ofW (cc := cX8_sum) (maxL := 4) (ret := (some .long)) (by decide) rfl ?_
  intro p e s m args below meth c s₁ B hml hv
  obtain ⟨rfl, hH, hK, hN⟩ := hv
  have hx := B.exec
  have hb := B.bytes
  have hr := B.returns
  have hts := atoms_spec (ws := wsX8_sum) B.pre
  have hown : s.vm.findClass RX8 = some m.cls := findClass_of_methodNamed B.named
  have hlocks := B.notSynchronized
  have hg : GS E σ s s.heap [] := ⟨hH, va_S.rf⟩
  have hm : Mo (sz σ) σ σ := Mo.rf (Nat.le_refl _)
  have hl := ent (vs := [.ref (ea E 0), .int (iI (a1)), .int (iI (a2)), .int (iI (a3))]) (n := 4) (cats_x (cats_i (cats_i (cats_i cats_nil)))) (Nat.le_of_ble_eq_true rfl)
  rw [lg_entry_eq]
  generalize (lg_sl ([.ref (ea E 0), .int (iI (a1)), .int (iI (a2)), .int (iI (a3))]) ++ List.replicate (4 - (lg_sl ([.ref (ea E 0), .int (iI (a1)), .int (iI (a2)), .int (iI (a3))])).length) Slot.unset).toArray = ls at hl ⊢
  have hl : lv_has ls 4 [(0, .ref (ea E 0)), (1, .int (iI (a1))), (2, .int (iI (a2))), (3, .int (iI (a3)))] := hl
  refine lv_iload_n hx hb dX8_sum_0 rfl (lv_at hl 1 rfl) ?_
  refine call_z (run_S (As := [.int (iI (a1))]) (rest := []) ⟨hx, hb, hml, hown, hts⟩ (ctX8_isMap l E a1 σ _ ha1 h) (va_cwS 1 hts gX8_sum_X8_isMap rfl rfl rfl hdX8_isMap ⟨Nat.le_of_ble_eq_true rfl, Nat.le_of_ble_eq_true rfl⟩) hK hN hg rfl hl.1 rfl (cat_sum _ (by simp)) dX8_sum_1 ⟨Nat.le_refl 0, Nat.le_refl 0⟩) hg (fun r2 s1 H locs hz3 hm2 h hg => ?_)
  have hm := hm.tn hm2
  refine k_eq (tgt := 15) hx hb dX8_sum_4 (by decide) (z_R hz3) (fun c4 => ?_) (fun c4 => ?_)
  · have h := h.1 c4
    refine lv_aload_n hx hb dX8_sum_15 rfl (lv_at hl 0 rfl) ?_
    refine call_i (run_V (a := ea E 0) (As := []) (rest := []) ⟨hx, hb, hml, hown, hts⟩ (ctX8_bad l E  s1 _  h) (cwV 0 hts gX8_sum_X8_bad rfl rfl rfl ⟨rfl, hdX8_bad⟩ ⟨Nat.le_of_ble_eq_true rfl, Nat.le_of_ble_eq_true rfl⟩) hK hN hg (recv_x (ci := 8) (C := RX8) (T := TX8) (N := 14) hg hK (by decide) rfl (by decide) rfl) rfl hl.1 rfl (cat_sum _ (by simp)) dX8_sum_16 ⟨Nat.le_refl 0, Nat.le_refl 0⟩) hg (fun r6 s5 H locs hz7 hm2 h hg => ?_)
    have hm := hm.tn hm2
    refine q_i2l hx hb hz7 dX8_sum_19 ?_
    exact ret_l hx hb hr hlocks hg  hm h dX8_sum_20
  · have h := h.2 c4
    refine lv_iload_n hx hb dX8_sum_7 rfl (lv_at hl 2 rfl) ?_
    refine lv_iload_n hx hb dX8_sum_8 rfl (lv_at hl 3 rfl) ?_
    refine call_z (run_S (As := [.int (iI (a2)), .int (iI (a3))]) (rest := []) ⟨hx, hb, hml, hown, hts⟩ (ctX8_isRange l E a2 a3 s1 _ ha2 ha3 h) (va_cwS 2 hts gX8_sum_X8_isRange rfl rfl rfl hdX8_isRange ⟨Nat.le_of_ble_eq_true rfl, Nat.le_of_ble_eq_true rfl⟩) hK hN hg rfl hl.1 rfl (cat_sum _ (by simp)) dX8_sum_9 ⟨Nat.le_refl 0, Nat.le_refl 0⟩) hg (fun r9 s8 H locs hz10 hm2 h hg => ?_)
    have hm := hm.tn hm2
    refine k_ne (tgt := 21) hx hb dX8_sum_12 (by decide) (z_R hz10) (fun c11 => ?_) (fun c11 => ?_)
    · have h := h.1 c11
      refine lv_aload_n hx hb dX8_sum_21 rfl (lv_at hl 0 rfl) ?_
      refine q_getx (ci := 8) (C := RX8) (T := TX8) (N := 14) (j := 3) hx hb hts (fun _ h9 => List.mem_cons_of_mem _ (List.mem_append_left _ (List.mem_append_right _ h9))) hown hK hg 0 (by decide) rfl rfl (by decide) rfl 2 (by decide) (hts (.fieldLink RX8 27 "JoinMaps" "maps" "[LJoinMaps$Node;") (List.mem_cons_of_mem _ (List.mem_append_left _ (List.mem_append_left _ (List.mem_append_left _ (List.mem_of_getElem? (i := 0) rfl)))))) rfl rfl rfl dX8_sum_22 ?_
      refine lv_iload_n hx hb dX8_sum_25 rfl (lv_at hl 1 rfl) ?_
      obtain ⟨hP12, hP13, h⟩ := h
      refine q_aald (N := 6) hx hb hK hg 3 (by decide) rfl rfl hP12 hP13 (by decide) dX8_sum_26 ?_
      have hS14 : ∀ b, (sf s8 3 (a1 : Int).toNat) = some b → sS s8 b := fun b h0 => GS_F hg h0
      refine lv_iload_n hx hb dX8_sum_27 rfl (lv_at hl 3 rfl) ?_
      refine lv_iconst (v := iI 1) hx hb dX8_sum_28 (by decide) ?_
      refine q_iadd hx hb dX8_sum_29 ?_
      obtain ⟨hR15, h⟩ := h
      refine call_l (run_S (As := [va_rf ((sf s8 3 (a1 : Int).toNat)), .int (iI ((a3 + 1)))]) (rest := []) ⟨hx, hb, hml, hown, hts⟩ (ctX3_sumBelow l E (sf s8 3 (a1 : Int).toNat) (a3 + 1) s8 _ hS14 hR15 h) (va_cwS 2 hts gX8_sum_X3_sumBelow rfl rfl rfl hdX3_sumBelow ⟨Nat.le_of_ble_eq_true rfl, Nat.le_of_ble_eq_true rfl⟩) hK hN hg rfl hl.1 rfl (cat_sum _ (by simp)) dX8_sum_30 ⟨Nat.le_refl 0, Nat.le_refl 0⟩) hg (fun r17 s16 H locs hm2 h hg => ?_)
      have hm := hm.tn hm2
      refine lv_aload_n hx hb dX8_sum_33 rfl (lv_at hl 0 rfl) ?_
      refine q_getx (ci := 8) (C := RX8) (T := TX8) (N := 14) (j := 3) hx hb hts (fun _ h9 => List.mem_cons_of_mem _ (List.mem_append_left _ (List.mem_append_right _ h9))) hown hK hg 0 (by decide) rfl rfl (by decide) rfl 2 (by decide) (hts (.fieldLink RX8 27 "JoinMaps" "maps" "[LJoinMaps$Node;") (List.mem_cons_of_mem _ (List.mem_append_left _ (List.mem_append_left _ (List.mem_append_left _ (List.mem_of_getElem? (i := 0) rfl)))))) rfl rfl rfl dX8_sum_34 ?_
      refine lv_iload_n hx hb dX8_sum_37 rfl (lv_at hl 1 rfl) ?_
      obtain ⟨hP19, hP20, h⟩ := h
      refine q_aald (N := 6) hx hb hK hg 3 (by decide) rfl rfl hP19 hP20 (by decide) dX8_sum_38 ?_
      have hS21 : ∀ b, (sf s16 3 (a1 : Int).toNat) = some b → sS s16 b := fun b h0 => GS_F hg h0
      refine lv_iload_n hx hb dX8_sum_39 rfl (lv_at hl 2 rfl) ?_
      refine call_l (run_S (As := [va_rf ((sf s16 3 (a1 : Int).toNat)), .int (iI (a2))]) (rest := [.long (lI (r17))]) ⟨hx, hb, hml, hown, hts⟩ (ctX3_sumBelow l E (sf s16 3 (a1 : Int).toNat) a2 s16 _ hS21 ha2 h) (va_cwS 2 hts gX8_sum_X3_sumBelow rfl rfl rfl hdX3_sumBelow ⟨Nat.le_of_ble_eq_true rfl, Nat.le_of_ble_eq_true rfl⟩) hK hN hg rfl hl.1 rfl (cat_sum _ (by simp)) dX8_sum_40 ⟨Nat.le_refl 0, Nat.le_refl 0⟩) hg (fun r23 s22 H locs hm2 h hg => ?_)
      have hm := hm.tn hm2
      refine q_lsub hx hb dX8_sum_43 ?_
      exact ret_l hx hb hr hlocks hg  hm h dX8_sum_44
    · have h := h.2 c11
      refine lv_aload_n hx hb dX8_sum_15 rfl (lv_at hl 0 rfl) ?_
      refine call_i (run_V (a := ea E 0) (As := []) (rest := []) ⟨hx, hb, hml, hown, hts⟩ (ctX8_bad l E  s8 _  h) (cwV 0 hts gX8_sum_X8_bad rfl rfl rfl ⟨rfl, hdX8_bad⟩ ⟨Nat.le_of_ble_eq_true rfl, Nat.le_of_ble_eq_true rfl⟩) hK hN hg (recv_x (ci := 8) (C := RX8) (T := TX8) (N := 14) hg hK (by decide) rfl (by decide) rfl) rfl hl.1 rfl (cat_sum _ (by simp)) dX8_sum_16 ⟨Nat.le_refl 0, Nat.le_refl 0⟩) hg (fun r26 s25 H locs hz27 hm2 h hg => ?_)
      have hm := hm.tn hm2
      refine q_i2l hx hb hz27 dX8_sum_19 ?_
      exact ret_l hx hb hr hlocks hg  hm h dX8_sum_20
theorem hdX8_most : yX8_most.cls ≠ "java/lang/invoke/MethodHandle" ∧ yX8_most.cls ≠ "java/lang/invoke/VarHandle" ∧ (parseMethodDescriptor yX8_most.desc).map (fun d => d.parameters.length) = some 4 := by decide +kernel
set_option maxRecDepth 100000 in
set_option maxHeartbeats 4000000 in
theorem ctX8_most (l : Launch) (E : Ev) (a1 : Int) (a2 : Int) (a3 : Int) (a4 : Int) (σ : SS) (Q : Int → SS → Prop) (ha1 : R32 a1) (ha2 : R32 a2) (ha3 : R32 a3) (ha4 : R32 a4) (h : wX8_most a1 a2 a3 a4 σ Q) : Met l yX8_most wsX8_most ({ frames := 47, cells := 0, slots := 0, locals := 1033 } : Room) (Pc E σ [.ref (ea E 0), .int (iI (a1)), .int (iI (a2)), .int (iI (a3)), .int (iI (a4))]) (Qi E (sz σ) σ Q) 0 0 (Av E) := by
  rw [wX8_most] at h
  refine Met.ofW (cc := cX8_most) (maxL := 9) (ret := (some .int)) (by decide) rfl ?_
  intro p e s m args below meth c s₁ B hml hv
  obtain ⟨rfl, hH, hK, hN⟩ := hv
  have hx := B.exec
  have hb := B.bytes
  have hr := B.returns
  have hts := atoms_spec (ws := wsX8_most) B.pre
  have hown : s.vm.findClass RX8 = some m.cls := findClass_of_methodNamed B.named
  have hlocks := B.notSynchronized
  have hg : GS E σ s s.heap [] := ⟨hH, va_S.rf⟩
  have hm : Mo (sz σ) σ σ := Mo.rf (Nat.le_refl _)
  have hl := ent (vs := [.ref (ea E 0), .int (iI (a1)), .int (iI (a2)), .int (iI (a3)), .int (iI (a4))]) (n := 9) (cats_x (cats_i (cats_i (cats_i (cats_i cats_nil))))) (Nat.le_of_ble_eq_true rfl)
  rw [lg_entry_eq]
  generalize (lg_sl ([.ref (ea E 0), .int (iI (a1)), .int (iI (a2)), .int (iI (a3)), .int (iI (a4))]) ++ List.replicate (9 - (lg_sl ([.ref (ea E 0), .int (iI (a1)), .int (iI (a2)), .int (iI (a3)), .int (iI (a4))])).length) Slot.unset).toArray = ls at hl ⊢
  have hl : lv_has ls 9 [(0, .ref (ea E 0)), (1, .int (iI (a1))), (2, .int (iI (a2))), (3, .int (iI (a3))), (4, .int (iI (a4)))] := hl
  have J73 : ∀ (k : Nat), ∀ (v5 : Int) (v6 : Int) (v7 : Int) (sL : SS) (H : Heap) (locs : List Loc) (ls : Array Slot), GS E sL s H locs → Mo (sz σ) σ sL → lv_has ls 9 [(0, .ref (ea E 0)), (4, .int (iI (a4))), (5, .int (iI (v5))), (6, .int (iI (v6))), (7, .int (iI (v7)))] → wX8_most_L73 a1 a2 a3 a4 Q  k v5 v6 v7 sL → W p l e (headSpec wsX8_most ({ frames := 47, cells := 0, slots := 0, locals := 1033 } : Room)).room s m (List.toArray [.ref (ea E 0), .int (iI (a1)), .int (iI (a2)), .int (iI (a3)), .int (iI (a4))]) below meth c H locs 0 0 (MQ below (Qi E (sz σ) σ Q) (List.toArray [.ref (ea E 0), .int (iI (a1)), .int (iI (a2)), .int (iI (a3)), .int (iI (a4))]) s 0 0 (Av E)) (F0 m 73 ls []) := by
    intro k
    induction k with
    | zero => intro v5 v6 v7 sL H locs ls hg hm hl h; exact False.elim h
    | succ k ih =>
      intro v5 v6 v7 sL H locs ls hg hm hl h
      rw [wX8_most_L73] at h
      refine lv_iload hx hb dX8_most_73 (lv_at hl 4 rfl) ?_
      refine lv_iload hx hb dX8_most_75 (lv_at hl 2 rfl) ?_
      obtain ⟨hR41, hR42, h⟩ := h
      refine j_ge (tgt := 130) hx hb dX8_most_77 (by decide) hR41 hR42 (fun c43 => ?_) (fun c43 => ?_)
      · have h := h.1 c43
        refine lv_iload hx hb dX8_most_130 (lv_at hl 3 rfl) ?_
        obtain ⟨hR44, h⟩ := h
        exact ret_i hx hb hr hlocks hg hR44 hm h dX8_most_132
      · have h := h.2 c43
        refine lv_aload_n hx hb dX8_most_80 rfl (lv_at hl 0 rfl) ?_
        refine q_getx (ci := 8) (C := RX8) (T := TX8) (N := 14) (j := 15) hx hb hts (fun _ h9 => List.mem_cons_of_mem _ (List.mem_append_left _ (List.mem_append_left _ (List.mem_append_right _ h9)))) hown hK hg 0 (by decide) rfl rfl (by decide) rfl 8 (by decide) (hts (.fieldLink RX8 68 "JoinMaps" "first" "LJoinMaps$Row;") (List.mem_cons_of_mem _ (List.mem_append_left _ (List.mem_append_left _ (List.mem_append_left _ (List.mem_append_left _ (List.mem_of_getElem? (i := 2) rfl))))))) rfl rfl rfl dX8_most_81 ?_
        refine lv_iload hx hb dX8_most_84 (lv_at hl 4 rfl) ?_
        refine call_i (run_V (a := ea E 15) (As := [.int (iI (v7))]) (rest := []) ⟨hx, hb, hml, hown, hts⟩ (ctX6_valueAt l E 15 v7 sL _ (by decide) hR41 h) (cwV 1 hts gX8_most_X6_valueAt rfl rfl rfl ⟨rfl, hdX6_valueAt⟩ ⟨Nat.le_of_ble_eq_true rfl, Nat.le_of_ble_eq_true rfl⟩) hK hN hg (recv_x (ci := 6) (C := RX6) (T := TX6) (N := 3) hg hK (by decide) rfl (by decide) rfl) rfl hl.1 rfl (cat_sum _ (by simp)) dX8_most_86 ⟨Nat.le_refl 0, Nat.le_refl 0⟩) hg (fun r46 s45 H locs hz47 hm2 h hg => ?_)
        have hm := hm.tn hm2
        refine lv_istore (i := 8) (lv' := [(8, .int (iI (r46))), (0, .ref (ea E 0)), (4, .int (iI (a4))), (5, .int (iI (v5))), (6, .int (iI (v6))), (7, .int (iI (v7)))]) hx hb dX8_most_89 hl (by decide) rfl (fun ls hl => ?_)
        refine lv_iload hx hb dX8_most_91 (lv_at hl 4 rfl) ?_
        refine q_ldc (z := (-2000000001)) hx hb hown (hts (.constant RX8 100 (-2000000001)) (List.mem_cons_of_mem _ (List.mem_append_left _ (List.mem_append_left _ (List.mem_append_left _ (List.mem_append_left _ (List.mem_of_getElem? (i := 1) rfl))))))) (by decide) dX8_most_93 ?_
        obtain ⟨hR48, h⟩ := h
        refine j_eq (tgt := 120) hx hb dX8_most_95 (by decide) hR48 (by decide) (fun c49 => ?_) (fun c49 => ?_)
        · have h := h.1 c49
          refine lv_iload hx hb dX8_most_120 (lv_at hl 0 rfl) ?_
          refine lv_istore (i := 6) (lv' := [(6, .int (iI (r46))), (8, .int (iI (r46))), (0, .ref (ea E 0)), (4, .int (iI (a4))), (5, .int (iI (v5))), (7, .int (iI (v7)))]) hx hb dX8_most_122 hl (by decide) rfl (fun ls hl => ?_)
          refine lv_iinc (v := iI (v7 + 1)) (lv' := [(7, .int (iI (v7 + 1))), (6, .int (iI (r46))), (8, .int (iI (r46))), (0, .ref (ea E 0)), (4, .int (iI (a4))), (5, .int (iI (v5)))]) hx hb dX8_most_124 hl (k := 5) rfl (iI_add _ _) (by decide) rfl (fun ls hl => ?_)
          refine lv_goto (tgt := 73) hx hb dX8_most_127 (by decide) ?_
          exact ih (v5) (r46) (v7 + 1) (s45) _ _ _ hg hm (lv_sub hl [3, 4, 5, 1, 0] rfl) h
        · have h := h.2 c49
          refine lv_iload hx hb dX8_most_98 (lv_at hl 2 rfl) ?_
          refine k_ne (tgt := 113) hx hb dX8_most_100 (by decide) ha4 (fun c50 => ?_) (fun c50 => ?_)
          · have h := h.1 c50
            refine lv_iload hx hb dX8_most_113 (lv_at hl 0 rfl) ?_
            refine lv_iload hx hb dX8_most_115 (lv_at hl 4 rfl) ?_
            refine j_ge (tgt := 124) hx hb dX8_most_117 (by decide) hz47 hR48 (fun c51 => ?_) (fun c51 => ?_)
            · have h := h.1 c51
              refine lv_iinc (v := iI (v7 + 1)) (lv' := [(7, .int (iI (v7 + 1))), (8, .int (iI (r46))), (0, .ref (ea E 0)), (4, .int (iI (a4))), (5, .int (iI (v5))), (6, .int (iI (v6)))]) hx hb dX8_most_124 hl (k := 5) rfl (iI_add _ _) (by decide) rfl (fun ls hl => ?_)
              refine lv_goto (tgt := 73) hx hb dX8_most_127 (by decide) ?_
              exact ih (v5) (v6) (v7 + 1) (s45) _ _ _ hg hm (lv_sub hl [2, 3, 4, 5, 0] rfl) h
            · have h := h.2 c51
              refine lv_iload hx hb dX8_most_120 (lv_at hl 0 rfl) ?_
              refine lv_istore (i := 6) (lv' := [(6, .int (iI (r46))), (8, .int (iI (r46))), (0, .ref (ea E 0)), (4, .int (iI (a4))), (5, .int (iI (v5))), (7, .int (iI (v7)))]) hx hb dX8_most_122 hl (by decide) rfl (fun ls hl => ?_)
              refine lv_iinc (v := iI (v7 + 1)) (lv' := [(7, .int (iI (v7 + 1))), (6, .int (iI (r46))), (8, .int (iI (r46))), (0, .ref (ea E 0)), (4, .int (iI (a4))), (5, .int (iI (v5)))]) hx hb dX8_most_124 hl (k := 5) rfl (iI_add _ _) (by decide) rfl (fun ls hl => ?_)
              refine lv_goto (tgt := 73) hx hb dX8_most_127 (by decide) ?_
              exact ih (v5) (r46) (v7 + 1) (s45) _ _ _ hg hm (lv_sub hl [3, 4, 5, 1, 0] rfl) h
          · have h := h.2 c50
            refine lv_iload hx hb dX8_most_103 (lv_at hl 0 rfl) ?_
            refine lv_iload hx hb dX8_most_105 (lv_at hl 4 rfl) ?_
            refine j_le (tgt := 124) hx hb dX8_most_107 (by decide) hz47 hR48 (fun c52 => ?_) (fun c52 => ?_)
            · have h := h.1 c52
              refine lv_iinc (v := iI (v7 + 1)) (lv' := [(7, .int (iI (v7 + 1))), (8, .int (iI (r46))), (0, .ref (ea E 0)), (4, .int (iI (a4))), (5, .int (iI (v5))), (6, .int (iI (v6)))]) hx hb dX8_most_124 hl (k := 5) rfl (iI_add _ _) (by decide) rfl (fun ls hl => ?_)
              refine lv_goto (tgt := 73) hx hb dX8_most_127 (by decide) ?_
              exact ih (v5) (v6) (v7 + 1) (s45) _ _ _ hg hm (lv_sub hl [2, 3, 4, 5, 0] rfl) h
            · have h := h.2 c52
              refine lv_goto (tgt := 120) hx hb dX8_most_110 (by decide) ?_
              refine lv_iload hx hb dX8_most_120 (lv_at hl 0 rfl) ?_
              refine lv_istore (i := 6) (lv' := [(6, .int (iI (r46))), (8, .int (iI (r46))), (0, .ref (ea E 0)), (4, .int (iI (a4))), (5, .int (iI (v5))), (7, .int (iI (v7)))]) hx hb dX8_most_122 hl (by decide) rfl (fun ls hl => ?_)
              refine lv_iinc (v := iI (v7 + 1)) (lv' := [(7, .int (iI (v7 + 1))), (6, .int (iI (r46))), (8, .int (iI (r46))), (0, .ref (ea E 0)), (4, .int (iI (a4))), (5, .int (iI (v5)))]) hx hb dX8_most_124 hl (k := 5) rfl (iI_add _ _) (by decide) rfl (fun ls hl => ?_)
              refine lv_goto (tgt := 73) hx hb dX8_most_127 (by decide) ?_
              exact ih (v5) (r46) (v7 + 1) (s45) _ _ _ hg hm (lv_sub hl [3, 4, 5, 1, 0] rfl) h
  refine lv_iload_n hx hb dX8_most_0 rfl (lv_at hl 1 rfl) ?_
  refine call_z (run_S (As := [.int (iI (a1))]) (rest := []) ⟨hx, hb, hml, hown, hts⟩ (ctX8_isMap l E a1 σ _ ha1 h) (va_cwS 1 hts gX8_most_X8_isMap rfl rfl rfl hdX8_isMap ⟨Nat.le_of_ble_eq_true rfl, Nat.le_of_ble_eq_true rfl⟩) hK hN hg rfl hl.1 rfl (cat_sum _ (by simp)) dX8_most_1 ⟨Nat.le_refl 0, Nat.le_refl 0⟩) hg (fun r2 s1 H locs hz3 hm2 h hg => ?_)
  have hm := hm.tn hm2
  refine k_eq (tgt := 25) hx hb dX8_most_4 (by decide) (z_R hz3) (fun c4 => ?_) (fun c4 => ?_)
  · have h := h.1 c4
    refine lv_aload_n hx hb dX8_most_25 rfl (lv_at hl 0 rfl) ?_
    refine call_i (run_V (a := ea E 0) (As := []) (rest := []) ⟨hx, hb, hml, hown, hts⟩ (ctX8_bad l E  s1 _  h) (cwV 0 hts gX8_most_X8_bad rfl rfl rfl ⟨rfl, hdX8_bad⟩ ⟨Nat.le_of_ble_eq_true rfl, Nat.le_of_ble_eq_true rfl⟩) hK hN hg (recv_x (ci := 8) (C := RX8) (T := TX8) (N := 14) hg hK (by decide) rfl (by decide) rfl) rfl hl.1 rfl (cat_sum _ (by simp)) dX8_most_26 ⟨Nat.le_refl 0, Nat.le_refl 0⟩) hg (fun r6 s5 H locs hz7 hm2 h hg => ?_)
    have hm := hm.tn hm2
    exact ret_i hx hb hr hlocks hg hz7 hm h dX8_most_29
  · have h := h.2 c4
    refine lv_iload_n hx hb dX8_most_7 rfl (lv_at hl 2 rfl) ?_
    refine lv_iload_n hx hb dX8_most_8 rfl (lv_at hl 3 rfl) ?_
    refine call_z (run_S (As := [.int (iI (a2)), .int (iI (a3))]) (rest := []) ⟨hx, hb, hml, hown, hts⟩ (ctX8_isRange l E a2 a3 s1 _ ha2 ha3 h) (va_cwS 2 hts gX8_most_X8_isRange rfl rfl rfl hdX8_isRange ⟨Nat.le_of_ble_eq_true rfl, Nat.le_of_ble_eq_true rfl⟩) hK hN hg rfl hl.1 rfl (cat_sum _ (by simp)) dX8_most_9 ⟨Nat.le_refl 0, Nat.le_refl 0⟩) hg (fun r9 s8 H locs hz10 hm2 h hg => ?_)
    have hm := hm.tn hm2
    refine k_eq (tgt := 25) hx hb dX8_most_12 (by decide) (z_R hz10) (fun c11 => ?_) (fun c11 => ?_)
    · have h := h.1 c11
      refine lv_aload_n hx hb dX8_most_25 rfl (lv_at hl 0 rfl) ?_
      refine call_i (run_V (a := ea E 0) (As := []) (rest := []) ⟨hx, hb, hml, hown, hts⟩ (ctX8_bad l E  s8 _  h) (cwV 0 hts gX8_most_X8_bad rfl rfl rfl ⟨rfl, hdX8_bad⟩ ⟨Nat.le_of_ble_eq_true rfl, Nat.le_of_ble_eq_true rfl⟩) hK hN hg (recv_x (ci := 8) (C := RX8) (T := TX8) (N := 14) hg hK (by decide) rfl (by decide) rfl) rfl hl.1 rfl (cat_sum _ (by simp)) dX8_most_26 ⟨Nat.le_refl 0, Nat.le_refl 0⟩) hg (fun r13 s12 H locs hz14 hm2 h hg => ?_)
      have hm := hm.tn hm2
      exact ret_i hx hb hr hlocks hg hz14 hm h dX8_most_29
    · have h := h.2 c11
      refine lv_iload hx hb dX8_most_15 (lv_at hl 4 rfl) ?_
      refine lv_iconst (v := iI 0) hx hb dX8_most_17 (by decide) ?_
      refine lv_iconst (v := iI 1) hx hb dX8_most_18 (by decide) ?_
      refine call_z (run_S (As := [.int (iI (a4)), .int (iI (0)), .int (iI (1))]) (rest := []) ⟨hx, hb, hml, hown, hts⟩ (ctX8_isIn l E a4 0 1 s8 _ ha4 (by decide) (by decide) h) (va_cwS 3 hts gX8_most_X8_isIn rfl rfl rfl hdX8_isIn ⟨Nat.le_of_ble_eq_true rfl, Nat.le_of_ble_eq_true rfl⟩) hK hN hg rfl hl.1 rfl (cat_sum _ (by simp)) dX8_most_19 ⟨Nat.le_refl 0, Nat.le_refl 0⟩) hg (fun r16 s15 H locs hz17 hm2 h hg => ?_)
      have hm := hm.tn hm2
      refine k_ne (tgt := 30) hx hb dX8_most_22 (by decide) (z_R hz17) (fun c18 => ?_) (fun c18 => ?_)
      · have h := h.1 c18
        refine lv_aload_n hx hb dX8_most_30 rfl (lv_at hl 0 rfl) ?_
        refine q_getx (ci := 8) (C := RX8) (T := TX8) (N := 14) (j := 3) hx hb hts (fun _ h9 => List.mem_cons_of_mem _ (List.mem_append_left _ (List.mem_append_left _ (List.mem_append_right _ h9)))) hown hK hg 0 (by decide) rfl rfl (by decide) rfl 2 (by decide) (hts (.fieldLink RX8 27 "JoinMaps" "maps" "[LJoinMaps$Node;") (List.mem_cons_of_mem _ (List.mem_append_left _ (List.mem_append_left _ (List.mem_append_left _ (List.mem_append_left _ (List.mem_of_getElem? (i := 0) rfl))))))) rfl rfl rfl dX8_most_31 ?_
        refine lv_iload_n hx hb dX8_most_34 rfl (lv_at hl 1 rfl) ?_
        obtain ⟨hP19, hP20, h⟩ := h
        refine q_aald (N := 6) hx hb hK hg 3 (by decide) rfl rfl hP19 hP20 (by decide) dX8_most_35 ?_
        have hS21 : ∀ b, (sf s15 3 (a1 : Int).toNat) = some b → sS s15 b := fun b h0 => GS_F hg h0
        refine lv_iload_n hx hb dX8_most_36 rfl (lv_at hl 3 rfl) ?_
        refine lv_iconst (v := iI 1) hx hb dX8_most_37 (by decide) ?_
        refine q_iadd hx hb dX8_most_38 ?_
        obtain ⟨hR22, h⟩ := h
        refine call_i (run_S (As := [va_rf ((sf s15 3 (a1 : Int).toNat)), .int (iI ((a3 + 1)))]) (rest := []) ⟨hx, hb, hml, hown, hts⟩ (ctX3_countBelow l E (sf s15 3 (a1 : Int).toNat) (a3 + 1) s15 _ hS21 hR22 h) (va_cwS 2 hts gX8_most_X3_countBelow rfl rfl rfl hdX3_countBelow ⟨Nat.le_of_ble_eq_true rfl, Nat.le_of_ble_eq_true rfl⟩) hK hN hg rfl hl.1 rfl (cat_sum _ (by simp)) dX8_most_39 ⟨Nat.le_refl 0, Nat.le_refl 0⟩) hg (fun r24 s23 H locs hz25 hm2 h hg => ?_)
        have hm := hm.tn hm2
        refine lv_istore (i := 5) (lv' := [(5, .int (iI (r24))), (0, .ref (ea E 0)), (1, .int (iI (a1))), (2, .int (iI (a2))), (3, .int (iI (a3))), (4, .int (iI (a4)))]) hx hb dX8_most_42 hl (by decide) rfl (fun ls hl => ?_)
        refine q_ldc (z := (-2000000001)) hx hb hown (hts (.constant RX8 100 (-2000000001)) (List.mem_cons_of_mem _ (List.mem_append_left _ (List.mem_append_left _ (List.mem_append_left _ (List.mem_append_left _ (List.mem_of_getElem? (i := 1) rfl))))))) (by decide) dX8_most_44 ?_
        refine lv_istore (i := 6) (lv' := [(6, .int (iI ((-2000000001)))), (5, .int (iI (r24))), (0, .ref (ea E 0)), (1, .int (iI (a1))), (2, .int (iI (a2))), (3, .int (iI (a3))), (4, .int (iI (a4)))]) hx hb dX8_most_46 hl (by decide) rfl (fun ls hl => ?_)
        refine lv_aload_n hx hb dX8_most_48 rfl (lv_at hl 2 rfl) ?_
        refine q_getx (ci := 8) (C := RX8) (T := TX8) (N := 14) (j := 15) hx hb hts (fun _ h9 => List.mem_cons_of_mem _ (List.mem_append_left _ (List.mem_append_left _ (List.mem_append_right _ h9)))) hown hK hg 0 (by decide) rfl rfl (by decide) rfl 8 (by decide) (hts (.fieldLink RX8 68 "JoinMaps" "first" "LJoinMaps$Row;") (List.mem_cons_of_mem _ (List.mem_append_left _ (List.mem_append_left _ (List.mem_append_left _ (List.mem_append_left _ (List.mem_of_getElem? (i := 2) rfl))))))) rfl rfl rfl dX8_most_49 ?_
        refine lv_aload_n hx hb dX8_most_52 rfl (lv_at hl 2 rfl) ?_
        refine q_getx (ci := 8) (C := RX8) (T := TX8) (N := 14) (j := 3) hx hb hts (fun _ h9 => List.mem_cons_of_mem _ (List.mem_append_left _ (List.mem_append_left _ (List.mem_append_right _ h9)))) hown hK hg 0 (by decide) rfl rfl (by decide) rfl 2 (by decide) (hts (.fieldLink RX8 27 "JoinMaps" "maps" "[LJoinMaps$Node;") (List.mem_cons_of_mem _ (List.mem_append_left _ (List.mem_append_left _ (List.mem_append_left _ (List.mem_append_left _ (List.mem_of_getElem? (i := 0) rfl))))))) rfl rfl rfl dX8_most_53 ?_
        refine lv_iload_n hx hb dX8_most_56 rfl (lv_at hl 3 rfl) ?_
        obtain ⟨hP26, hP27, h⟩ := h
        refine q_aald (N := 6) hx hb hK hg 3 (by decide) rfl rfl hP26 hP27 (by decide) dX8_most_57 ?_
        have hS28 : ∀ b, (sf s23 3 (a1 : Int).toNat) = some b → sS s23 b := fun b h0 => GS_F hg h0
        refine call_v (run_V (a := ea E 15) (As := [va_rf ((sf s23 3 (a1 : Int).toNat))]) (rest := []) ⟨hx, hb, hml, hown, hts⟩ (ctX6_take l E 15 (sf s23 3 (a1 : Int).toNat) s23 _ (by decide) hS28 h) (cwV 1 hts gX8_most_X6_take rfl rfl rfl ⟨rfl, hdX6_take⟩ ⟨Nat.le_of_ble_eq_true rfl, Nat.le_of_ble_eq_true rfl⟩) hK hN hg (recv_x (ci := 6) (C := RX6) (T := TX6) (N := 3) hg hK (by decide) rfl (by decide) rfl) rfl hl.1 rfl (cat_sum _ (by simp)) dX8_most_58 ⟨Nat.le_refl 0, Nat.le_refl 0⟩) hg (fun s29 H locs hm2 h hg => ?_)
        have hm := hm.tn hm2
        refine lv_aload_n hx hb dX8_most_61 rfl (lv_at hl 2 rfl) ?_
        refine q_getx (ci := 8) (C := RX8) (T := TX8) (N := 14) (j := 3) hx hb hts (fun _ h9 => List.mem_cons_of_mem _ (List.mem_append_left _ (List.mem_append_left _ (List.mem_append_right _ h9)))) hown hK hg 0 (by decide) rfl rfl (by decide) rfl 2 (by decide) (hts (.fieldLink RX8 27 "JoinMaps" "maps" "[LJoinMaps$Node;") (List.mem_cons_of_mem _ (List.mem_append_left _ (List.mem_append_left _ (List.mem_append_left _ (List.mem_append_left _ (List.mem_of_getElem? (i := 0) rfl))))))) rfl rfl rfl dX8_most_62 ?_
        refine lv_iload_n hx hb dX8_most_65 rfl (lv_at hl 3 rfl) ?_
        obtain ⟨hP32, hP33, h⟩ := h
        refine q_aald (N := 6) hx hb hK hg 3 (by decide) rfl rfl hP32 hP33 (by decide) dX8_most_66 ?_
        have hS34 : ∀ b, (sf s29 3 (a1 : Int).toNat) = some b → sS s29 b := fun b h0 => GS_F hg h0
        refine lv_iload_n hx hb dX8_most_67 rfl (lv_at hl 4 rfl) ?_
        refine call_i (run_S (As := [va_rf ((sf s29 3 (a1 : Int).toNat)), .int (iI (a2))]) (rest := []) ⟨hx, hb, hml, hown, hts⟩ (ctX3_countBelow l E (sf s29 3 (a1 : Int).toNat) a2 s29 _ hS34 ha2 h) (va_cwS 2 hts gX8_most_X3_countBelow rfl rfl rfl hdX3_countBelow ⟨Nat.le_of_ble_eq_true rfl, Nat.le_of_ble_eq_true rfl⟩) hK hN hg rfl hl.1 rfl (cat_sum _ (by simp)) dX8_most_68 ⟨Nat.le_refl 0, Nat.le_refl 0⟩) hg (fun r36 s35 H locs hz37 hm2 h hg => ?_)
        have hm := hm.tn hm2
        refine lv_istore (i := 7) (lv' := [(7, .int (iI (r36))), (6, .int (iI ((-2000000001)))), (5, .int (iI (r24))), (0, .ref (ea E 0)), (1, .int (iI (a1))), (2, .int (iI (a2))), (3, .int (iI (a3))), (4, .int (iI (a4)))]) hx hb dX8_most_71 hl (by decide) rfl (fun ls hl => ?_)
        obtain ⟨kk, h⟩ := h
        exact J73  kk (r24) ((-2000000001)) (r36) (s35) _ _ _ hg hm (lv_sub hl [3, 7, 2, 1, 0] rfl) h
      · have h := h.2 c18
        refine lv_aload_n hx hb dX8_most_25 rfl (lv_at hl 0 rfl) ?_
        refine call_i (run_V (a := ea E 0) (As := []) (rest := []) ⟨hx, hb, hml, hown, hts⟩ (ctX8_bad l E  s15 _  h) (cwV 0 hts gX8_most_X8_bad rfl rfl rfl ⟨rfl, hdX8_bad⟩ ⟨Nat.le_of_ble_eq_true rfl, Nat.le_of_ble_eq_true rfl⟩) hK hN hg (recv_x (ci := 8) (C := RX8) (T := TX8) (N := 14) hg hK (by decide) rfl (by decide) rfl) rfl hl.1 rfl (cat_sum _ (by simp)) dX8_most_26 ⟨Nat.le_refl 0, Nat.le_refl 0⟩) hg (fun r39 s38 H locs hz40 hm2 h hg => ?_)
        have hm := hm.tn hm2
        exact ret_i hx hb hr hlocks hg hz40 hm h dX8_most_29
theorem hdX8_middle : yX8_middle.cls ≠ "java/lang/invoke/MethodHandle" ∧ yX8_middle.cls ≠ "java/lang/invoke/VarHandle" ∧ (parseMethodDescriptor yX8_middle.desc).map (fun d => d.parameters.length) = some 3 := by decide +kernel
set_option maxRecDepth 100000 in
set_option maxHeartbeats 4000000 in
theorem ctX8_middle (l : Launch) (E : Ev) (a1 : Int) (a2 : Int) (a3 : Int) (σ : SS) (Q : Int → SS → Prop) (ha1 : R32 a1) (ha2 : R32 a2) (ha3 : R32 a3) (h : wX8_middle a1 a2 a3 σ Q) : Met l yX8_middle wsX8_middle ({ frames := 3, cells := 0, slots := 0, locals := 65 } : Room) (Pc E σ [.ref (ea E 0), .int (iI (a1)), .int (iI (a2)), .int (iI (a3))]) (Qi E (sz σ) σ Q) 0 0 (Av E) := by
  rw [wX8_middle] at h
  refine Met.ofW (cc := cX8_middle) (maxL := 5) (ret := (some .int)) (by decide) rfl ?_
  intro p e s m args below meth c s₁ B hml hv
  obtain ⟨rfl, hH, hK, hN⟩ := hv
  have hx := B.exec
  have hb := B.bytes
  have hr := B.returns
  have hts := atoms_spec (ws := wsX8_middle) B.pre
  have hown : s.vm.findClass RX8 = some m.cls := findClass_of_methodNamed B.named
  have hlocks := B.notSynchronized
  have hg : GS E σ s s.heap [] := ⟨hH, va_S.rf⟩
  have hm : Mo (sz σ) σ σ := Mo.rf (Nat.le_refl _)
  have hl := ent (vs := [.ref (ea E 0), .int (iI (a1)), .int (iI (a2)), .int (iI (a3))]) (n := 5) (cats_x (cats_i (cats_i (cats_i cats_nil)))) (Nat.le_of_ble_eq_true rfl)
  rw [lg_entry_eq]
  generalize (lg_sl ([.ref (ea E 0), .int (iI (a1)), .int (iI (a2)), .int (iI (a3))]) ++ List.replicate (5 - (lg_sl ([.ref (ea E 0), .int (iI (a1)), .int (iI (a2)), .int (iI (a3))])).length) Slot.unset).toArray = ls at hl ⊢
  have hl : lv_has ls 5 [(0, .ref (ea E 0)), (1, .int (iI (a1))), (2, .int (iI (a2))), (3, .int (iI (a3)))] := hl
  refine lv_iload_n hx hb dX8_middle_0 rfl (lv_at hl 1 rfl) ?_
  refine call_z (run_S (As := [.int (iI (a1))]) (rest := []) ⟨hx, hb, hml, hown, hts⟩ (ctX8_isMap l E a1 σ _ ha1 h) (va_cwS 1 hts gX8_middle_X8_isMap rfl rfl rfl hdX8_isMap ⟨Nat.le_of_ble_eq_true rfl, Nat.le_of_ble_eq_true rfl⟩) hK hN hg rfl hl.1 rfl (cat_sum _ (by simp)) dX8_middle_1 ⟨Nat.le_refl 0, Nat.le_refl 0⟩) hg (fun r2 s1 H locs hz3 hm2 h hg => ?_)
  have hm := hm.tn hm2
  refine k_eq (tgt := 15) hx hb dX8_middle_4 (by decide) (z_R hz3) (fun c4 => ?_) (fun c4 => ?_)
  · have h := h.1 c4
    refine lv_aload_n hx hb dX8_middle_15 rfl (lv_at hl 0 rfl) ?_
    refine call_i (run_V (a := ea E 0) (As := []) (rest := []) ⟨hx, hb, hml, hown, hts⟩ (ctX8_bad l E  s1 _  h) (cwV 0 hts gX8_middle_X8_bad rfl rfl rfl ⟨rfl, hdX8_bad⟩ ⟨Nat.le_of_ble_eq_true rfl, Nat.le_of_ble_eq_true rfl⟩) hK hN hg (recv_x (ci := 8) (C := RX8) (T := TX8) (N := 14) hg hK (by decide) rfl (by decide) rfl) rfl hl.1 rfl (cat_sum _ (by simp)) dX8_middle_16 ⟨Nat.le_refl 0, Nat.le_refl 0⟩) hg (fun r6 s5 H locs hz7 hm2 h hg => ?_)
    have hm := hm.tn hm2
    exact ret_i hx hb hr hlocks hg hz7 hm h dX8_middle_19
  · have h := h.2 c4
    refine lv_iload_n hx hb dX8_middle_7 rfl (lv_at hl 2 rfl) ?_
    refine lv_iload_n hx hb dX8_middle_8 rfl (lv_at hl 3 rfl) ?_
    refine call_z (run_S (As := [.int (iI (a2)), .int (iI (a3))]) (rest := []) ⟨hx, hb, hml, hown, hts⟩ (ctX8_isRange l E a2 a3 s1 _ ha2 ha3 h) (va_cwS 2 hts gX8_middle_X8_isRange rfl rfl rfl hdX8_isRange ⟨Nat.le_of_ble_eq_true rfl, Nat.le_of_ble_eq_true rfl⟩) hK hN hg rfl hl.1 rfl (cat_sum _ (by simp)) dX8_middle_9 ⟨Nat.le_refl 0, Nat.le_refl 0⟩) hg (fun r9 s8 H locs hz10 hm2 h hg => ?_)
    have hm := hm.tn hm2
    refine k_ne (tgt := 20) hx hb dX8_middle_12 (by decide) (z_R hz10) (fun c11 => ?_) (fun c11 => ?_)
    · have h := h.1 c11
      refine lv_aload_n hx hb dX8_middle_20 rfl (lv_at hl 0 rfl) ?_
      refine q_getx (ci := 8) (C := RX8) (T := TX8) (N := 14) (j := 3) hx hb hts (fun _ h9 => List.mem_cons_of_mem _ (List.mem_append_left _ (List.mem_append_right _ h9))) hown hK hg 0 (by decide) rfl rfl (by decide) rfl 2 (by decide) (hts (.fieldLink RX8 27 "JoinMaps" "maps" "[LJoinMaps$Node;") (List.mem_cons_of_mem _ (List.mem_append_left _ (List.mem_append_left _ (List.mem_append_left _ (List.mem_of_getElem? (i := 0) rfl)))))) rfl rfl rfl dX8_middle_21 ?_
      refine lv_iload_n hx hb dX8_middle_24 rfl (lv_at hl 1 rfl) ?_
      obtain ⟨hP12, hP13, h⟩ := h
      refine q_aald (N := 6) hx hb hK hg 3 (by decide) rfl rfl hP12 hP13 (by decide) dX8_middle_25 ?_
      have hS14 : ∀ b, (sf s8 3 (a1 : Int).toNat) = some b → sS s8 b := fun b h0 => GS_F hg h0
      refine lv_iload_n hx hb dX8_middle_26 rfl (lv_at hl 2 rfl) ?_
      refine lv_iload_n hx hb dX8_middle_27 rfl (lv_at hl 3 rfl) ?_
      refine call_i (run_S (As := [va_rf ((sf s8 3 (a1 : Int).toNat)), .int (iI (a2)), .int (iI (a3))]) (rest := []) ⟨hx, hb, hml, hown, hts⟩ (ctX3_countWithin l E (sf s8 3 (a1 : Int).toNat) a2 a3 s8 _ hS14 ha2 ha3 h) (va_cwS 3 hts gX8_middle_X3_countWithin rfl rfl rfl hdX3_countWithin ⟨Nat.le_of_ble_eq_true rfl, Nat.le_of_ble_eq_true rfl⟩) hK hN hg rfl hl.1 rfl (cat_sum _ (by simp)) dX8_middle_28 ⟨Nat.le_refl 0, Nat.le_refl 0⟩) hg (fun r16 s15 H locs hz17 hm2 h hg => ?_)
      have hm := hm.tn hm2
      refine lv_istore (i := 4) (lv' := [(4, .int (iI (r16))), (0, .ref (ea E 0)), (1, .int (iI (a1))), (2, .int (iI (a2))), (3, .int (iI (a3)))]) hx hb dX8_middle_31 hl (by decide) rfl (fun ls hl => ?_)
      refine lv_iload hx hb dX8_middle_33 (lv_at hl 0 rfl) ?_
      refine k_ne (tgt := 43) hx hb dX8_middle_35 (by decide) hz17 (fun c18 => ?_) (fun c18 => ?_)
      · have h := h.1 c18
        refine lv_aload_n hx hb dX8_middle_43 rfl (lv_at hl 1 rfl) ?_
        refine q_getx (ci := 8) (C := RX8) (T := TX8) (N := 14) (j := 3) hx hb hts (fun _ h9 => List.mem_cons_of_mem _ (List.mem_append_left _ (List.mem_append_right _ h9))) hown hK hg 0 (by decide) rfl rfl (by decide) rfl 2 (by decide) (hts (.fieldLink RX8 27 "JoinMaps" "maps" "[LJoinMaps$Node;") (List.mem_cons_of_mem _ (List.mem_append_left _ (List.mem_append_left _ (List.mem_append_left _ (List.mem_of_getElem? (i := 0) rfl)))))) rfl rfl rfl dX8_middle_44 ?_
        refine lv_iload_n hx hb dX8_middle_47 rfl (lv_at hl 2 rfl) ?_
        obtain ⟨hP19, hP20, h⟩ := h
        refine q_aald (N := 6) hx hb hK hg 3 (by decide) rfl rfl hP19 hP20 (by decide) dX8_middle_48 ?_
        have hS21 : ∀ b, (sf s15 3 (a1 : Int).toNat) = some b → sS s15 b := fun b h0 => GS_F hg h0
        refine lv_aload_n hx hb dX8_middle_49 rfl (lv_at hl 1 rfl) ?_
        refine q_getx (ci := 8) (C := RX8) (T := TX8) (N := 14) (j := 3) hx hb hts (fun _ h9 => List.mem_cons_of_mem _ (List.mem_append_left _ (List.mem_append_right _ h9))) hown hK hg 0 (by decide) rfl rfl (by decide) rfl 2 (by decide) (hts (.fieldLink RX8 27 "JoinMaps" "maps" "[LJoinMaps$Node;") (List.mem_cons_of_mem _ (List.mem_append_left _ (List.mem_append_left _ (List.mem_append_left _ (List.mem_of_getElem? (i := 0) rfl)))))) rfl rfl rfl dX8_middle_50 ?_
        refine lv_iload_n hx hb dX8_middle_53 rfl (lv_at hl 2 rfl) ?_
        obtain ⟨hP22, hP23, h⟩ := h
        refine q_aald (N := 6) hx hb hK hg 3 (by decide) rfl rfl hP22 hP23 (by decide) dX8_middle_54 ?_
        have hS24 : ∀ b, (sf s15 3 (a1 : Int).toNat) = some b → sS s15 b := fun b h0 => GS_F hg h0
        refine lv_iload_n hx hb dX8_middle_55 rfl (lv_at hl 3 rfl) ?_
        refine call_i (run_S (As := [va_rf ((sf s15 3 (a1 : Int).toNat)), .int (iI (a2))]) (rest := [va_rf ((sf s15 3 (a1 : Int).toNat))]) ⟨hx, hb, hml, hown, hts⟩ (ctX3_countBelow l E (sf s15 3 (a1 : Int).toNat) a2 s15 _ hS24 ha2 h) (va_cwS 2 hts gX8_middle_X3_countBelow rfl rfl rfl hdX3_countBelow ⟨Nat.le_of_ble_eq_true rfl, Nat.le_of_ble_eq_true rfl⟩) hK hN hg rfl hl.1 rfl (cat_sum _ (by simp)) dX8_middle_56 ⟨Nat.le_refl 0, Nat.le_refl 0⟩) hg (fun r26 s25 H locs hz27 hm2 h hg => ?_)
        have hS28 : ∀ b, (sf s15 3 (a1 : Int).toNat) = some b → sS s25 b := (fun b h0 => hm2.1 b (hS21 b h0))
        have hm := hm.tn hm2
        refine lv_iload hx hb dX8_middle_59 (lv_at hl 0 rfl) ?_
        refine lv_iconst (v := iI 1) hx hb dX8_middle_61 (by decide) ?_
        refine q_isub hx hb dX8_middle_62 ?_
        refine lv_iconst (v := iI 2) hx hb dX8_middle_63 (by decide) ?_
        obtain ⟨hR29, h⟩ := h
        refine q_idiv hx hb hR29 (by decide) (by decide) dX8_middle_64 ?_
        refine q_iadd hx hb dX8_middle_65 ?_
        obtain ⟨hR30, h⟩ := h
        refine call_i (run_S (As := [va_rf ((sf s15 3 (a1 : Int).toNat)), .int (iI ((r26 + (Int.tdiv ((r16 - 1)) 2))))]) (rest := []) ⟨hx, hb, hml, hown, hts⟩ (ctX3_keyAt l E (sf s15 3 (a1 : Int).toNat) (r26 + (Int.tdiv ((r16 - 1)) 2)) s25 _ hS28 hR30 h) (va_cwS 2 hts gX8_middle_X3_keyAt rfl rfl rfl hdX3_keyAt ⟨Nat.le_of_ble_eq_true rfl, Nat.le_of_ble_eq_true rfl⟩) hK hN hg rfl hl.1 rfl (cat_sum _ (by simp)) dX8_middle_66 ⟨Nat.le_refl 0, Nat.le_refl 0⟩) hg (fun r32 s31 H locs hz33 hm2 h hg => ?_)
        have hm := hm.tn hm2
        exact ret_i hx hb hr hlocks hg hz33 hm h dX8_middle_69
      · have h := h.2 c18
        refine q_ldc (z := (-2000000001)) hx hb hown (hts (.constant RX8 100 (-2000000001)) (List.mem_cons_of_mem _ (List.mem_append_left _ (List.mem_append_left _ (List.mem_append_left _ (List.mem_of_getElem? (i := 1) rfl)))))) (by decide) dX8_middle_38 ?_
        refine lv_goto (tgt := 69) hx hb dX8_middle_40 (by decide) ?_
        exact ret_i hx hb hr hlocks hg (by decide) hm h dX8_middle_69
    · have h := h.2 c11
      refine lv_aload_n hx hb dX8_middle_15 rfl (lv_at hl 0 rfl) ?_
      refine call_i (run_V (a := ea E 0) (As := []) (rest := []) ⟨hx, hb, hml, hown, hts⟩ (ctX8_bad l E  s8 _  h) (cwV 0 hts gX8_middle_X8_bad rfl rfl rfl ⟨rfl, hdX8_bad⟩ ⟨Nat.le_of_ble_eq_true rfl, Nat.le_of_ble_eq_true rfl⟩) hK hN hg (recv_x (ci := 8) (C := RX8) (T := TX8) (N := 14) hg hK (by decide) rfl (by decide) rfl) rfl hl.1 rfl (cat_sum _ (by simp)) dX8_middle_16 ⟨Nat.le_refl 0, Nat.le_refl 0⟩) hg (fun r35 s34 H locs hz36 hm2 h hg => ?_)
      have hm := hm.tn hm2
      exact ret_i hx hb hr hlocks hg hz36 hm h dX8_middle_19
theorem hdX8_gap : yX8_gap.cls ≠ "java/lang/invoke/MethodHandle" ∧ yX8_gap.cls ≠ "java/lang/invoke/VarHandle" ∧ (parseMethodDescriptor yX8_gap.desc).map (fun d => d.parameters.length) = some 1 := by decide +kernel
set_option maxRecDepth 100000 in
set_option maxHeartbeats 4000000 in
theorem ctX8_gap (l : Launch) (E : Ev) (a1 : Int) (σ : SS) (Q : Int → SS → Prop) (ha1 : R32 a1) (h : wX8_gap a1 σ Q) : Met l yX8_gap wsX8_gap ({ frames := 47, cells := 0, slots := 0, locals := 1033 } : Room) (Pc E σ [.ref (ea E 0), .int (iI (a1))]) (Qi E (sz σ) σ Q) 0 0 (Av E) := by
  rw [wX8_gap] at h
  refine Met.ofW (cc := cX8_gap) (maxL := 4) (ret := (some .int)) (by decide) rfl ?_
  intro p e s m args below meth c s₁ B hml hv
  obtain ⟨rfl, hH, hK, hN⟩ := hv
  have hx := B.exec
  have hb := B.bytes
  have hr := B.returns
  have hts := atoms_spec (ws := wsX8_gap) B.pre
  have hown : s.vm.findClass RX8 = some m.cls := findClass_of_methodNamed B.named
  have hlocks := B.notSynchronized
  have hg : GS E σ s s.heap [] := ⟨hH, va_S.rf⟩
  have hm : Mo (sz σ) σ σ := Mo.rf (Nat.le_refl _)
  have hl := ent (vs := [.ref (ea E 0), .int (iI (a1))]) (n := 4) (cats_x (cats_i cats_nil)) (Nat.le_of_ble_eq_true rfl)
  rw [lg_entry_eq]
  generalize (lg_sl ([.ref (ea E 0), .int (iI (a1))]) ++ List.replicate (4 - (lg_sl ([.ref (ea E 0), .int (iI (a1))])).length) Slot.unset).toArray = ls at hl ⊢
  have hl : lv_has ls 4 [(0, .ref (ea E 0)), (1, .int (iI (a1)))] := hl
  have J30 : ∀ (k : Nat), ∀ (v2 : Int) (v3 : Int) (sL : SS) (H : Heap) (locs : List Loc) (ls : Array Slot), GS E sL s H locs → Mo (sz σ) σ sL → lv_has ls 4 [(0, .ref (ea E 0)), (2, .int (iI (v2))), (3, .int (iI (v3)))] → wX8_gap_L30 a1 Q  k v2 v3 sL → W p l e (headSpec wsX8_gap ({ frames := 47, cells := 0, slots := 0, locals := 1033 } : Room)).room s m (List.toArray [.ref (ea E 0), .int (iI (a1))]) below meth c H locs 0 0 (MQ below (Qi E (sz σ) σ Q) (List.toArray [.ref (ea E 0), .int (iI (a1))]) s 0 0 (Av E)) (F0 m 30 ls []) := by
    intro k
    induction k with
    | zero => intro v2 v3 sL H locs ls hg hm hl h; exact False.elim h
    | succ k ih =>
      intro v2 v3 sL H locs ls hg hm hl h
      rw [wX8_gap_L30] at h
      refine lv_iload_n hx hb dX8_gap_30 rfl (lv_at hl 2 rfl) ?_
      refine lv_aload_n hx hb dX8_gap_31 rfl (lv_at hl 0 rfl) ?_
      refine q_getx (ci := 8) (C := RX8) (T := TX8) (N := 14) (j := 15) hx hb hts (fun _ h9 => List.mem_cons_of_mem _ (List.mem_append_left _ (List.mem_append_left _ (List.mem_append_right _ h9)))) hown hK hg 0 (by decide) rfl rfl (by decide) rfl 8 (by decide) (hts (.fieldLink RX8 68 "JoinMaps" "first" "LJoinMaps$Row;") (List.mem_cons_of_mem _ (List.mem_append_left _ (List.mem_append_left _ (List.mem_append_left _ (List.mem_append_left _ (List.mem_of_getElem? (i := 1) rfl))))))) rfl rfl rfl dX8_gap_32 ?_
      refine q_geti (ci := 6) (C := RX6) (T := TX6) (N := 3) hx hb hts (fun _ h9 => List.mem_cons_of_mem _ (List.mem_append_left _ (List.mem_append_right _ h9))) hown hK hg 15 (by decide) rfl rfl (by decide) rfl 2 (by decide) (hts (.fieldLink RX8 153 "JoinMaps$Row" "length" "I") (List.mem_cons_of_mem _ (List.mem_append_left _ (List.mem_append_left _ (List.mem_append_left _ (List.mem_append_left _ (List.mem_of_getElem? (i := 3) rfl))))))) rfl rfl dX8_gap_35 ?_
      have hR14 := GS_R hg 15 2
      obtain ⟨hR15, h⟩ := h
      refine j_ge (tgt := 71) hx hb dX8_gap_38 (by decide) hR15 hR14 (fun c16 => ?_) (fun c16 => ?_)
      · have h := h.1 c16
        refine lv_iload_n hx hb dX8_gap_71 rfl (lv_at hl 1 rfl) ?_
        obtain ⟨hR17, h⟩ := h
        exact ret_i hx hb hr hlocks hg hR17 hm h dX8_gap_72
      · have h := h.2 c16
        refine lv_iload_n hx hb dX8_gap_41 rfl (lv_at hl 1 rfl) ?_
        refine lv_aload_n hx hb dX8_gap_42 rfl (lv_at hl 0 rfl) ?_
        refine q_getx (ci := 8) (C := RX8) (T := TX8) (N := 14) (j := 15) hx hb hts (fun _ h9 => List.mem_cons_of_mem _ (List.mem_append_left _ (List.mem_append_left _ (List.mem_append_right _ h9)))) hown hK hg 0 (by decide) rfl rfl (by decide) rfl 8 (by decide) (hts (.fieldLink RX8 68 "JoinMaps" "first" "LJoinMaps$Row;") (List.mem_cons_of_mem _ (List.mem_append_left _ (List.mem_append_left _ (List.mem_append_left _ (List.mem_append_left _ (List.mem_of_getElem? (i := 1) rfl))))))) rfl rfl rfl dX8_gap_43 ?_
        refine lv_iload_n hx hb dX8_gap_46 rfl (lv_at hl 2 rfl) ?_
        refine call_i (run_V (a := ea E 15) (As := [.int (iI (v3))]) (rest := [.int (iI (v2))]) ⟨hx, hb, hml, hown, hts⟩ (ctX6_keyAt l E 15 v3 sL _ (by decide) hR15 h) (cwV 1 hts gX8_gap_X6_keyAt rfl rfl rfl ⟨rfl, hdX6_keyAt⟩ ⟨Nat.le_of_ble_eq_true rfl, Nat.le_of_ble_eq_true rfl⟩) hK hN hg (recv_x (ci := 6) (C := RX6) (T := TX6) (N := 3) hg hK (by decide) rfl (by decide) rfl) rfl hl.1 rfl (cat_sum _ (by simp)) dX8_gap_47 ⟨Nat.le_refl 0, Nat.le_refl 0⟩) hg (fun r19 s18 H locs hz20 hm2 h hg => ?_)
        have hm := hm.tn hm2
        refine lv_aload_n hx hb dX8_gap_50 rfl (lv_at hl 0 rfl) ?_
        refine q_getx (ci := 8) (C := RX8) (T := TX8) (N := 14) (j := 15) hx hb hts (fun _ h9 => List.mem_cons_of_mem _ (List.mem_append_left _ (List.mem_append_left _ (List.mem_append_right _ h9)))) hown hK hg 0 (by decide) rfl rfl (by decide) rfl 8 (by decide) (hts (.fieldLink RX8 68 "JoinMaps" "first" "LJoinMaps$Row;") (List.mem_cons_of_mem _ (List.mem_append_left _ (List.mem_append_left _ (List.mem_append_left _ (List.mem_append_left _ (List.mem_of_getElem? (i := 1) rfl))))))) rfl rfl rfl dX8_gap_51 ?_
        refine lv_iload_n hx hb dX8_gap_54 rfl (lv_at hl 2 rfl) ?_
        refine lv_iconst (v := iI 1) hx hb dX8_gap_55 (by decide) ?_
        refine q_isub hx hb dX8_gap_56 ?_
        obtain ⟨hR21, h⟩ := h
        refine call_i (run_V (a := ea E 15) (As := [.int (iI ((v3 - 1)))]) (rest := [.int (iI (r19)), .int (iI (v2))]) ⟨hx, hb, hml, hown, hts⟩ (ctX6_keyAt l E 15 (v3 - 1) s18 _ (by decide) hR21 h) (cwV 1 hts gX8_gap_X6_keyAt rfl rfl rfl ⟨rfl, hdX6_keyAt⟩ ⟨Nat.le_of_ble_eq_true rfl, Nat.le_of_ble_eq_true rfl⟩) hK hN hg (recv_x (ci := 6) (C := RX6) (T := TX6) (N := 3) hg hK (by decide) rfl (by decide) rfl) rfl hl.1 rfl (cat_sum _ (by simp)) dX8_gap_57 ⟨Nat.le_refl 0, Nat.le_refl 0⟩) hg (fun r23 s22 H locs hz24 hm2 h hg => ?_)
        have hm := hm.tn hm2
        refine q_isub hx hb dX8_gap_60 ?_
        obtain ⟨hR25, hR26, h⟩ := h
        refine q_max hx hb (by rw [hml]; exact hl.1.symm) hown (hts (.methodLink RX8 158 Lib.Math.max.name) (List.mem_cons_of_mem _ (List.mem_append_left _ (List.mem_append_left _ (List.mem_append_left _ (List.mem_append_left _ (List.mem_of_getElem? (i := 4) rfl))))))) (hts (.static Lib.Math.max.name) (List.mem_cons_of_mem _ (List.mem_append_left _ (List.mem_append_left _ (List.mem_append_left _ (List.mem_append_left _ (List.mem_of_getElem? (i := 5) rfl))))))) (hts (.initialized "java/lang/Math") (List.mem_cons_of_mem _ (List.mem_append_left _ (List.mem_append_left _ (List.mem_append_left _ (List.mem_append_left _ (List.mem_of_getElem? (i := 6) rfl))))))) (hts (.code Lib.Math.max.name Lib.Math.max.code 2 (some .int)) (List.mem_cons_of_mem _ (List.mem_append_left _ (List.mem_append_left _ (List.mem_append_left _ (List.mem_append_left _ (List.mem_of_getElem? (i := 7) rfl))))))) (Nat.le_of_ble_eq_true rfl) (by simp) (Nat.le_of_ble_eq_true rfl) (Nat.le_refl 0) (Nat.le_refl 0) hR25 hR26 dX8_gap_61 ?_
        have hR27 : R32 (max v2 (r19 - r23)) := by have q1 := hR25; have q2 := hR26; omega
        refine lv_istore_n (i := 2) (lv' := [(2, .int (iI ((max v2 (r19 - r23))))), (0, .ref (ea E 0)), (3, .int (iI (v3)))]) hx hb dX8_gap_64 rfl hl (by decide) rfl (fun ls hl => ?_)
        refine lv_iinc (v := iI (v3 + 1)) (lv' := [(3, .int (iI (v3 + 1))), (2, .int (iI ((max v2 (r19 - r23))))), (0, .ref (ea E 0))]) hx hb dX8_gap_65 hl (k := 2) rfl (iI_add _ _) (by decide) rfl (fun ls hl => ?_)
        refine lv_goto (tgt := 30) hx hb dX8_gap_68 (by decide) ?_
        exact ih ((max v2 (r19 - r23))) (v3 + 1) (s22) _ _ _ hg hm (lv_sub hl [2, 1, 0] rfl) h
  refine lv_iload_n hx hb dX8_gap_0 rfl (lv_at hl 1 rfl) ?_
  refine call_z (run_S (As := [.int (iI (a1))]) (rest := []) ⟨hx, hb, hml, hown, hts⟩ (ctX8_isMap l E a1 σ _ ha1 h) (va_cwS 1 hts gX8_gap_X8_isMap rfl rfl rfl hdX8_isMap ⟨Nat.le_of_ble_eq_true rfl, Nat.le_of_ble_eq_true rfl⟩) hK hN hg rfl hl.1 rfl (cat_sum _ (by simp)) dX8_gap_1 ⟨Nat.le_refl 0, Nat.le_refl 0⟩) hg (fun r2 s1 H locs hz3 hm2 h hg => ?_)
  have hm := hm.tn hm2
  refine k_ne (tgt := 12) hx hb dX8_gap_4 (by decide) (z_R hz3) (fun c4 => ?_) (fun c4 => ?_)
  · have h := h.1 c4
    refine q_ldc (z := (-2000000001)) hx hb hown (hts (.constant RX8 100 (-2000000001)) (List.mem_cons_of_mem _ (List.mem_append_left _ (List.mem_append_left _ (List.mem_append_left _ (List.mem_append_left _ (List.mem_of_getElem? (i := 0) rfl))))))) (by decide) dX8_gap_12 ?_
    refine lv_istore_n (i := 2) (lv' := [(2, .int (iI ((-2000000001)))), (0, .ref (ea E 0)), (1, .int (iI (a1)))]) hx hb dX8_gap_14 rfl hl (by decide) rfl (fun ls hl => ?_)
    refine lv_aload_n hx hb dX8_gap_15 rfl (lv_at hl 1 rfl) ?_
    refine q_getx (ci := 8) (C := RX8) (T := TX8) (N := 14) (j := 15) hx hb hts (fun _ h9 => List.mem_cons_of_mem _ (List.mem_append_left _ (List.mem_append_left _ (List.mem_append_right _ h9)))) hown hK hg 0 (by decide) rfl rfl (by decide) rfl 8 (by decide) (hts (.fieldLink RX8 68 "JoinMaps" "first" "LJoinMaps$Row;") (List.mem_cons_of_mem _ (List.mem_append_left _ (List.mem_append_left _ (List.mem_append_left _ (List.mem_append_left _ (List.mem_of_getElem? (i := 1) rfl))))))) rfl rfl rfl dX8_gap_16 ?_
    refine lv_aload_n hx hb dX8_gap_19 rfl (lv_at hl 1 rfl) ?_
    refine q_getx (ci := 8) (C := RX8) (T := TX8) (N := 14) (j := 3) hx hb hts (fun _ h9 => List.mem_cons_of_mem _ (List.mem_append_left _ (List.mem_append_left _ (List.mem_append_right _ h9)))) hown hK hg 0 (by decide) rfl rfl (by decide) rfl 2 (by decide) (hts (.fieldLink RX8 27 "JoinMaps" "maps" "[LJoinMaps$Node;") (List.mem_cons_of_mem _ (List.mem_append_left _ (List.mem_append_left _ (List.mem_append_left _ (List.mem_append_left _ (List.mem_of_getElem? (i := 2) rfl))))))) rfl rfl rfl dX8_gap_20 ?_
    refine lv_iload_n hx hb dX8_gap_23 rfl (lv_at hl 2 rfl) ?_
    obtain ⟨hP5, hP6, h⟩ := h
    refine q_aald (N := 6) hx hb hK hg 3 (by decide) rfl rfl hP5 hP6 (by decide) dX8_gap_24 ?_
    have hS7 : ∀ b, (sf s1 3 (a1 : Int).toNat) = some b → sS s1 b := fun b h0 => GS_F hg h0
    refine call_v (run_V (a := ea E 15) (As := [va_rf ((sf s1 3 (a1 : Int).toNat))]) (rest := []) ⟨hx, hb, hml, hown, hts⟩ (ctX6_take l E 15 (sf s1 3 (a1 : Int).toNat) s1 _ (by decide) hS7 h) (cwV 1 hts gX8_gap_X6_take rfl rfl rfl ⟨rfl, hdX6_take⟩ ⟨Nat.le_of_ble_eq_true rfl, Nat.le_of_ble_eq_true rfl⟩) hK hN hg (recv_x (ci := 6) (C := RX6) (T := TX6) (N := 3) hg hK (by decide) rfl (by decide) rfl) rfl hl.1 rfl (cat_sum _ (by simp)) dX8_gap_25 ⟨Nat.le_refl 0, Nat.le_refl 0⟩) hg (fun s8 H locs hm2 h hg => ?_)
    have hm := hm.tn hm2
    refine lv_iconst (v := iI 1) hx hb dX8_gap_28 (by decide) ?_
    refine lv_istore_n (i := 3) (lv' := [(3, .int (iI (1))), (2, .int (iI ((-2000000001)))), (0, .ref (ea E 0)), (1, .int (iI (a1)))]) hx hb dX8_gap_29 rfl hl (by decide) rfl (fun ls hl => ?_)
    obtain ⟨kk, h⟩ := h
    exact J30  kk ((-2000000001)) (1) (s8) _ _ _ hg hm (lv_sub hl [2, 1, 0] rfl) h
  · have h := h.2 c4
    refine lv_aload_n hx hb dX8_gap_7 rfl (lv_at hl 0 rfl) ?_
    refine call_i (run_V (a := ea E 0) (As := []) (rest := []) ⟨hx, hb, hml, hown, hts⟩ (ctX8_bad l E  s1 _  h) (cwV 0 hts gX8_gap_X8_bad rfl rfl rfl ⟨rfl, hdX8_bad⟩ ⟨Nat.le_of_ble_eq_true rfl, Nat.le_of_ble_eq_true rfl⟩) hK hN hg (recv_x (ci := 8) (C := RX8) (T := TX8) (N := 14) hg hK (by decide) rfl (by decide) rfl) rfl hl.1 rfl (cat_sum _ (by simp)) dX8_gap_8 ⟨Nat.le_refl 0, Nat.le_refl 0⟩) hg (fun r12 s11 H locs hz13 hm2 h hg => ?_)
    have hm := hm.tn hm2
    exact ret_i hx hb hr hlocks hg hz13 hm h dX8_gap_11
theorem hdX8_top : yX8_top.cls ≠ "java/lang/invoke/MethodHandle" ∧ yX8_top.cls ≠ "java/lang/invoke/VarHandle" ∧ (parseMethodDescriptor yX8_top.desc).map (fun d => d.parameters.length) = some 2 := by decide +kernel
set_option maxRecDepth 100000 in
set_option maxHeartbeats 4000000 in
theorem ctX8_top (l : Launch) (E : Ev) (a1 : Int) (a2 : Int) (σ : SS) (Q : Int → SS → Prop) (ha1 : R32 a1) (ha2 : R32 a2) (h : wX8_top a1 a2 σ Q) : Met l yX8_top wsX8_top ({ frames := 47, cells := 0, slots := 0, locals := 1033 } : Room) (Pc E σ [.ref (ea E 0), .int (iI (a1)), .int (iI (a2))]) (Qi E (sz σ) σ Q) 0 0 (Av E) := by
  rw [wX8_top] at h
  refine Met.ofW (cc := cX8_top) (maxL := 3) (ret := (some .int)) (by decide) rfl ?_
  intro p e s m args below meth c s₁ B hml hv
  obtain ⟨rfl, hH, hK, hN⟩ := hv
  have hx := B.exec
  have hb := B.bytes
  have hr := B.returns
  have hts := atoms_spec (ws := wsX8_top) B.pre
  have hown : s.vm.findClass RX8 = some m.cls := findClass_of_methodNamed B.named
  have hlocks := B.notSynchronized
  have hg : GS E σ s s.heap [] := ⟨hH, va_S.rf⟩
  have hm : Mo (sz σ) σ σ := Mo.rf (Nat.le_refl _)
  have hl := ent (vs := [.ref (ea E 0), .int (iI (a1)), .int (iI (a2))]) (n := 3) (cats_x (cats_i (cats_i cats_nil))) (Nat.le_of_ble_eq_true rfl)
  rw [lg_entry_eq]
  generalize (lg_sl ([.ref (ea E 0), .int (iI (a1)), .int (iI (a2))]) ++ List.replicate (3 - (lg_sl ([.ref (ea E 0), .int (iI (a1)), .int (iI (a2))])).length) Slot.unset).toArray = ls at hl ⊢
  have hl : lv_has ls 3 [(0, .ref (ea E 0)), (1, .int (iI (a1))), (2, .int (iI (a2)))] := hl
  refine lv_iload_n hx hb dX8_top_0 rfl (lv_at hl 1 rfl) ?_
  refine call_z (run_S (As := [.int (iI (a1))]) (rest := []) ⟨hx, hb, hml, hown, hts⟩ (ctX8_isMap l E a1 σ _ ha1 h) (va_cwS 1 hts gX8_top_X8_isMap rfl rfl rfl hdX8_isMap ⟨Nat.le_of_ble_eq_true rfl, Nat.le_of_ble_eq_true rfl⟩) hK hN hg rfl hl.1 rfl (cat_sum _ (by simp)) dX8_top_1 ⟨Nat.le_refl 0, Nat.le_refl 0⟩) hg (fun r2 s1 H locs hz3 hm2 h hg => ?_)
  have hm := hm.tn hm2
  refine k_eq (tgt := 11) hx hb dX8_top_4 (by decide) (z_R hz3) (fun c4 => ?_) (fun c4 => ?_)
  · have h := h.1 c4
    refine lv_aload_n hx hb dX8_top_11 rfl (lv_at hl 0 rfl) ?_
    refine call_i (run_V (a := ea E 0) (As := []) (rest := []) ⟨hx, hb, hml, hown, hts⟩ (ctX8_bad l E  s1 _  h) (cwV 0 hts gX8_top_X8_bad rfl rfl rfl ⟨rfl, hdX8_bad⟩ ⟨Nat.le_of_ble_eq_true rfl, Nat.le_of_ble_eq_true rfl⟩) hK hN hg (recv_x (ci := 8) (C := RX8) (T := TX8) (N := 14) hg hK (by decide) rfl (by decide) rfl) rfl hl.1 rfl (cat_sum _ (by simp)) dX8_top_12 ⟨Nat.le_refl 0, Nat.le_refl 0⟩) hg (fun r6 s5 H locs hz7 hm2 h hg => ?_)
    have hm := hm.tn hm2
    exact ret_i hx hb hr hlocks hg hz7 hm h dX8_top_15
  · have h := h.2 c4
    refine lv_iload_n hx hb dX8_top_7 rfl (lv_at hl 2 rfl) ?_
    refine k_ge (tgt := 16) hx hb dX8_top_8 (by decide) ha2 (fun c8 => ?_) (fun c8 => ?_)
    · have h := h.1 c8
      refine lv_iload_n hx hb dX8_top_16 rfl (lv_at hl 2 rfl) ?_
      refine lv_aload_n hx hb dX8_top_17 rfl (lv_at hl 0 rfl) ?_
      refine q_getx (ci := 8) (C := RX8) (T := TX8) (N := 14) (j := 3) hx hb hts (fun _ h9 => List.mem_cons_of_mem _ (List.mem_append_left _ (List.mem_append_left _ (List.mem_append_right _ h9)))) hown hK hg 0 (by decide) rfl rfl (by decide) rfl 2 (by decide) (hts (.fieldLink RX8 27 "JoinMaps" "maps" "[LJoinMaps$Node;") (List.mem_cons_of_mem _ (List.mem_append_left _ (List.mem_append_left _ (List.mem_append_left _ (List.mem_append_left _ (List.mem_of_getElem? (i := 0) rfl))))))) rfl rfl rfl dX8_top_18 ?_
      refine lv_iload_n hx hb dX8_top_21 rfl (lv_at hl 1 rfl) ?_
      obtain ⟨hP9, hP10, h⟩ := h
      refine q_aald (N := 6) hx hb hK hg 3 (by decide) rfl rfl hP9 hP10 (by decide) dX8_top_22 ?_
      have hS11 : ∀ b, (sf s1 3 (a1 : Int).toNat) = some b → sS s1 b := fun b h0 => GS_F hg h0
      refine call_i (run_S (As := [va_rf ((sf s1 3 (a1 : Int).toNat))]) (rest := [.int (iI (a2))]) ⟨hx, hb, hml, hown, hts⟩ (ctX3_countOf l E (sf s1 3 (a1 : Int).toNat) s1 _ hS11 h) (va_cwS 1 hts gX8_top_X3_countOf rfl rfl rfl hdX3_countOf ⟨Nat.le_of_ble_eq_true rfl, Nat.le_of_ble_eq_true rfl⟩) hK hN hg rfl hl.1 rfl (cat_sum _ (by simp)) dX8_top_23 ⟨Nat.le_refl 0, Nat.le_refl 0⟩) hg (fun r13 s12 H locs hz14 hm2 h hg => ?_)
      have hm := hm.tn hm2
      refine j_lt (tgt := 32) hx hb dX8_top_26 (by decide) ha2 hz14 (fun c15 => ?_) (fun c15 => ?_)
      · have h := h.1 c15
        refine lv_aload_n hx hb dX8_top_32 rfl (lv_at hl 0 rfl) ?_
        refine q_getx (ci := 8) (C := RX8) (T := TX8) (N := 14) (j := 15) hx hb hts (fun _ h9 => List.mem_cons_of_mem _ (List.mem_append_left _ (List.mem_append_left _ (List.mem_append_right _ h9)))) hown hK hg 0 (by decide) rfl rfl (by decide) rfl 8 (by decide) (hts (.fieldLink RX8 68 "JoinMaps" "first" "LJoinMaps$Row;") (List.mem_cons_of_mem _ (List.mem_append_left _ (List.mem_append_left _ (List.mem_append_left _ (List.mem_append_left _ (List.mem_of_getElem? (i := 2) rfl))))))) rfl rfl rfl dX8_top_33 ?_
        refine lv_aload_n hx hb dX8_top_36 rfl (lv_at hl 0 rfl) ?_
        refine q_getx (ci := 8) (C := RX8) (T := TX8) (N := 14) (j := 3) hx hb hts (fun _ h9 => List.mem_cons_of_mem _ (List.mem_append_left _ (List.mem_append_left _ (List.mem_append_right _ h9)))) hown hK hg 0 (by decide) rfl rfl (by decide) rfl 2 (by decide) (hts (.fieldLink RX8 27 "JoinMaps" "maps" "[LJoinMaps$Node;") (List.mem_cons_of_mem _ (List.mem_append_left _ (List.mem_append_left _ (List.mem_append_left _ (List.mem_append_left _ (List.mem_of_getElem? (i := 0) rfl))))))) rfl rfl rfl dX8_top_37 ?_
        refine lv_iload_n hx hb dX8_top_40 rfl (lv_at hl 1 rfl) ?_
        obtain ⟨hP16, hP17, h⟩ := h
        refine q_aald (N := 6) hx hb hK hg 3 (by decide) rfl rfl hP16 hP17 (by decide) dX8_top_41 ?_
        have hS18 : ∀ b, (sf s12 3 (a1 : Int).toNat) = some b → sS s12 b := fun b h0 => GS_F hg h0
        refine call_v (run_V (a := ea E 15) (As := [va_rf ((sf s12 3 (a1 : Int).toNat))]) (rest := []) ⟨hx, hb, hml, hown, hts⟩ (ctX6_take l E 15 (sf s12 3 (a1 : Int).toNat) s12 _ (by decide) hS18 h) (cwV 1 hts gX8_top_X6_take rfl rfl rfl ⟨rfl, hdX6_take⟩ ⟨Nat.le_of_ble_eq_true rfl, Nat.le_of_ble_eq_true rfl⟩) hK hN hg (recv_x (ci := 6) (C := RX6) (T := TX6) (N := 3) hg hK (by decide) rfl (by decide) rfl) rfl hl.1 rfl (cat_sum _ (by simp)) dX8_top_42 ⟨Nat.le_refl 0, Nat.le_refl 0⟩) hg (fun s19 H locs hm2 h hg => ?_)
        have hm := hm.tn hm2
        refine lv_aload_n hx hb dX8_top_45 rfl (lv_at hl 0 rfl) ?_
        refine q_getx (ci := 8) (C := RX8) (T := TX8) (N := 14) (j := 15) hx hb hts (fun _ h9 => List.mem_cons_of_mem _ (List.mem_append_left _ (List.mem_append_left _ (List.mem_append_right _ h9)))) hown hK hg 0 (by decide) rfl rfl (by decide) rfl 8 (by decide) (hts (.fieldLink RX8 68 "JoinMaps" "first" "LJoinMaps$Row;") (List.mem_cons_of_mem _ (List.mem_append_left _ (List.mem_append_left _ (List.mem_append_left _ (List.mem_append_left _ (List.mem_of_getElem? (i := 2) rfl))))))) rfl rfl rfl dX8_top_46 ?_
        refine lv_iload_n hx hb dX8_top_49 rfl (lv_at hl 2 rfl) ?_
        refine call_i (run_V (a := ea E 15) (As := [.int (iI (a2))]) (rest := []) ⟨hx, hb, hml, hown, hts⟩ (ctX6_keyOfGreatest l E 15 a2 s19 _ (by decide) ha2 h) (cwV 1 hts gX8_top_X6_keyOfGreatest rfl rfl rfl ⟨rfl, hdX6_keyOfGreatest⟩ ⟨Nat.le_of_ble_eq_true rfl, Nat.le_of_ble_eq_true rfl⟩) hK hN hg (recv_x (ci := 6) (C := RX6) (T := TX6) (N := 3) hg hK (by decide) rfl (by decide) rfl) rfl hl.1 rfl (cat_sum _ (by simp)) dX8_top_50 ⟨Nat.le_refl 0, Nat.le_refl 0⟩) hg (fun r23 s22 H locs hz24 hm2 h hg => ?_)
        have hm := hm.tn hm2
        exact ret_i hx hb hr hlocks hg hz24 hm h dX8_top_53
      · have h := h.2 c15
        refine q_ldc (z := (-2000000001)) hx hb hown (hts (.constant RX8 100 (-2000000001)) (List.mem_cons_of_mem _ (List.mem_append_left _ (List.mem_append_left _ (List.mem_append_left _ (List.mem_append_left _ (List.mem_of_getElem? (i := 1) rfl))))))) (by decide) dX8_top_29 ?_
        exact ret_i hx hb hr hlocks hg (by decide) hm h dX8_top_31
    · have h := h.2 c8
      refine lv_aload_n hx hb dX8_top_11 rfl (lv_at hl 0 rfl) ?_
      refine call_i (run_V (a := ea E 0) (As := []) (rest := []) ⟨hx, hb, hml, hown, hts⟩ (ctX8_bad l E  s1 _  h) (cwV 0 hts gX8_top_X8_bad rfl rfl rfl ⟨rfl, hdX8_bad⟩ ⟨Nat.le_of_ble_eq_true rfl, Nat.le_of_ble_eq_true rfl⟩) hK hN hg (recv_x (ci := 8) (C := RX8) (T := TX8) (N := 14) hg hK (by decide) rfl (by decide) rfl) rfl hl.1 rfl (cat_sum _ (by simp)) dX8_top_12 ⟨Nat.le_refl 0, Nat.le_refl 0⟩) hg (fun r26 s25 H locs hz27 hm2 h hg => ?_)
      have hm := hm.tn hm2
      exact ret_i hx hb hr hlocks hg hz27 hm h dX8_top_15
theorem hdX8_firstUnlikeKey : yX8_firstUnlikeKey.cls ≠ "java/lang/invoke/MethodHandle" ∧ yX8_firstUnlikeKey.cls ≠ "java/lang/invoke/VarHandle" ∧ (parseMethodDescriptor yX8_firstUnlikeKey.desc).map (fun d => d.parameters.length) = some 2 := by decide +kernel
set_option maxRecDepth 100000 in
set_option maxHeartbeats 4000000 in
theorem ctX8_firstUnlikeKey (l : Launch) (E : Ev) (a1 : Int) (a2 : Int) (σ : SS) (Q : Int → SS → Prop) (ha1 : R32 a1) (ha2 : R32 a2) (h : wX8_firstUnlikeKey a1 a2 σ Q) : Met l yX8_firstUnlikeKey wsX8_firstUnlikeKey ({ frames := 47, cells := 0, slots := 0, locals := 1033 } : Room) (Pc E σ [.ref (ea E 0), .int (iI (a1)), .int (iI (a2))]) (Qi E (sz σ) σ Q) 0 0 (Av E) := by
  rw [wX8_firstUnlikeKey] at h
  refine Met.ofW (cc := cX8_firstUnlikeKey) (maxL := 5) (ret := (some .int)) (by decide) rfl ?_
  intro p e s m args below meth c s₁ B hml hv
  obtain ⟨rfl, hH, hK, hN⟩ := hv
  have hx := B.exec
  have hb := B.bytes
  have hr := B.returns
  have hts := atoms_spec (ws := wsX8_firstUnlikeKey) B.pre
  have hown : s.vm.findClass RX8 = some m.cls := findClass_of_methodNamed B.named
  have hlocks := B.notSynchronized
  have hg : GS E σ s s.heap [] := ⟨hH, va_S.rf⟩
  have hm : Mo (sz σ) σ σ := Mo.rf (Nat.le_refl _)
  have hl := ent (vs := [.ref (ea E 0), .int (iI (a1)), .int (iI (a2))]) (n := 5) (cats_x (cats_i (cats_i cats_nil))) (Nat.le_of_ble_eq_true rfl)
  rw [lg_entry_eq]
  generalize (lg_sl ([.ref (ea E 0), .int (iI (a1)), .int (iI (a2))]) ++ List.replicate (5 - (lg_sl ([.ref (ea E 0), .int (iI (a1)), .int (iI (a2))])).length) Slot.unset).toArray = ls at hl ⊢
  have hl : lv_has ls 5 [(0, .ref (ea E 0)), (1, .int (iI (a1))), (2, .int (iI (a2)))] := hl
  have J47 : ∀ (k : Nat), ∀ (v3 : Int) (v4 : Int) (sL : SS) (H : Heap) (locs : List Loc) (ls : Array Slot), GS E sL s H locs → Mo (sz σ) σ sL → lv_has ls 5 [(0, .ref (ea E 0)), (3, .int (iI (v3))), (4, .int (iI (v4)))] → wX8_firstUnlikeKey_L47 a1 a2 Q  k v3 v4 sL → W p l e (headSpec wsX8_firstUnlikeKey ({ frames := 47, cells := 0, slots := 0, locals := 1033 } : Room)).room s m (List.toArray [.ref (ea E 0), .int (iI (a1)), .int (iI (a2))]) below meth c H locs 0 0 (MQ below (Qi E (sz σ) σ Q) (List.toArray [.ref (ea E 0), .int (iI (a1)), .int (iI (a2))]) s 0 0 (Av E)) (F0 m 47 ls []) := by
    intro k
    induction k with
    | zero => intro v3 v4 sL H locs ls hg hm hl h; exact False.elim h
    | succ k ih =>
      intro v3 v4 sL H locs ls hg hm hl h
      rw [wX8_firstUnlikeKey_L47] at h
      refine lv_iload hx hb dX8_firstUnlikeKey_47 (lv_at hl 2 rfl) ?_
      refine lv_iload_n hx hb dX8_firstUnlikeKey_49 rfl (lv_at hl 1 rfl) ?_
      obtain ⟨hR16, hR17, h⟩ := h
      refine j_ge (tgt := 123) hx hb dX8_firstUnlikeKey_50 (by decide) hR16 hR17 (fun c18 => ?_) (fun c18 => ?_)
      · have h := h.1 c18
        refine lv_aload_n hx hb dX8_firstUnlikeKey_123 rfl (lv_at hl 0 rfl) ?_
        refine q_getx (ci := 8) (C := RX8) (T := TX8) (N := 14) (j := 15) hx hb hts (fun _ h9 => List.mem_cons_of_mem _ (List.mem_append_left _ (List.mem_append_left _ (List.mem_append_right _ h9)))) hown hK hg 0 (by decide) rfl rfl (by decide) rfl 8 (by decide) (hts (.fieldLink RX8 68 "JoinMaps" "first" "LJoinMaps$Row;") (List.mem_cons_of_mem _ (List.mem_append_left _ (List.mem_append_left _ (List.mem_append_left _ (List.mem_append_left _ (List.mem_of_getElem? (i := 0) rfl))))))) rfl rfl rfl dX8_firstUnlikeKey_124 ?_
        refine q_geti (ci := 6) (C := RX6) (T := TX6) (N := 3) hx hb hts (fun _ h9 => List.mem_cons_of_mem _ (List.mem_append_left _ (List.mem_append_right _ h9))) hown hK hg 15 (by decide) rfl rfl (by decide) rfl 2 (by decide) (hts (.fieldLink RX8 153 "JoinMaps$Row" "length" "I") (List.mem_cons_of_mem _ (List.mem_append_left _ (List.mem_append_left _ (List.mem_append_left _ (List.mem_append_left _ (List.mem_of_getElem? (i := 3) rfl))))))) rfl rfl dX8_firstUnlikeKey_127 ?_
        have hR19 := GS_R hg 15 2
        refine lv_iload_n hx hb dX8_firstUnlikeKey_130 rfl (lv_at hl 1 rfl) ?_
        refine j_le (tgt := 145) hx hb dX8_firstUnlikeKey_131 (by decide) hR19 hR17 (fun c20 => ?_) (fun c20 => ?_)
        · have h := h.1 c20
          refine lv_aload_n hx hb dX8_firstUnlikeKey_145 rfl (lv_at hl 0 rfl) ?_
          refine q_getx (ci := 8) (C := RX8) (T := TX8) (N := 14) (j := 18) hx hb hts (fun _ h9 => List.mem_cons_of_mem _ (List.mem_append_left _ (List.mem_append_left _ (List.mem_append_right _ h9)))) hown hK hg 0 (by decide) rfl rfl (by decide) rfl 9 (by decide) (hts (.fieldLink RX8 72 "JoinMaps" "second" "LJoinMaps$Row;") (List.mem_cons_of_mem _ (List.mem_append_left _ (List.mem_append_left _ (List.mem_append_left _ (List.mem_append_left _ (List.mem_of_getElem? (i := 2) rfl))))))) rfl rfl rfl dX8_firstUnlikeKey_146 ?_
          refine lv_iload_n hx hb dX8_firstUnlikeKey_149 rfl (lv_at hl 1 rfl) ?_
          refine call_i (run_V (a := ea E 18) (As := [.int (iI (v3))]) (rest := []) ⟨hx, hb, hml, hown, hts⟩ (ctX6_keyAt l E 18 v3 sL _ (by decide) hR17 h) (cwV 1 hts gX8_firstUnlikeKey_X6_keyAt rfl rfl rfl ⟨rfl, hdX6_keyAt⟩ ⟨Nat.le_of_ble_eq_true rfl, Nat.le_of_ble_eq_true rfl⟩) hK hN hg (recv_x (ci := 6) (C := RX6) (T := TX6) (N := 3) hg hK (by decide) rfl (by decide) rfl) rfl hl.1 rfl (cat_sum _ (by simp)) dX8_firstUnlikeKey_150 ⟨Nat.le_refl 0, Nat.le_refl 0⟩) hg (fun r22 s21 H locs hz23 hm2 h hg => ?_)
          have hm := hm.tn hm2
          exact ret_i hx hb hr hlocks hg hz23 hm h dX8_firstUnlikeKey_153
        · have h := h.2 c20
          refine lv_aload_n hx hb dX8_firstUnlikeKey_134 rfl (lv_at hl 0 rfl) ?_
          refine q_getx (ci := 8) (C := RX8) (T := TX8) (N := 14) (j := 15) hx hb hts (fun _ h9 => List.mem_cons_of_mem _ (List.mem_append_left _ (List.mem_append_left _ (List.mem_append_right _ h9)))) hown hK hg 0 (by decide) rfl rfl (by decide) rfl 8 (by decide) (hts (.fieldLink RX8 68 "JoinMaps" "first" "LJoinMaps$Row;") (List.mem_cons_of_mem _ (List.mem_append_left _ (List.mem_append_left _ (List.mem_append_left _ (List.mem_append_left _ (List.mem_of_getElem? (i := 0) rfl))))))) rfl rfl rfl dX8_firstUnlikeKey_135 ?_
          refine lv_iload_n hx hb dX8_firstUnlikeKey_138 rfl (lv_at hl 1 rfl) ?_
          refine call_i (run_V (a := ea E 15) (As := [.int (iI (v3))]) (rest := []) ⟨hx, hb, hml, hown, hts⟩ (ctX6_keyAt l E 15 v3 sL _ (by decide) hR17 h) (cwV 1 hts gX8_firstUnlikeKey_X6_keyAt rfl rfl rfl ⟨rfl, hdX6_keyAt⟩ ⟨Nat.le_of_ble_eq_true rfl, Nat.le_of_ble_eq_true rfl⟩) hK hN hg (recv_x (ci := 6) (C := RX6) (T := TX6) (N := 3) hg hK (by decide) rfl (by decide) rfl) rfl hl.1 rfl (cat_sum _ (by simp)) dX8_firstUnlikeKey_139 ⟨Nat.le_refl 0, Nat.le_refl 0⟩) hg (fun r25 s24 H locs hz26 hm2 h hg => ?_)
          have hm := hm.tn hm2
          refine lv_goto (tgt := 153) hx hb dX8_firstUnlikeKey_142 (by decide) ?_
          exact ret_i hx hb hr hlocks hg hz26 hm h dX8_firstUnlikeKey_153
      · have h := h.2 c18
        refine lv_aload_n hx hb dX8_firstUnlikeKey_53 rfl (lv_at hl 0 rfl) ?_
        refine q_getx (ci := 8) (C := RX8) (T := TX8) (N := 14) (j := 15) hx hb hts (fun _ h9 => List.mem_cons_of_mem _ (List.mem_append_left _ (List.mem_append_left _ (List.mem_append_right _ h9)))) hown hK hg 0 (by decide) rfl rfl (by decide) rfl 8 (by decide) (hts (.fieldLink RX8 68 "JoinMaps" "first" "LJoinMaps$Row;") (List.mem_cons_of_mem _ (List.mem_append_left _ (List.mem_append_left _ (List.mem_append_left _ (List.mem_append_left _ (List.mem_of_getElem? (i := 0) rfl))))))) rfl rfl rfl dX8_firstUnlikeKey_54 ?_
        refine lv_iload hx hb dX8_firstUnlikeKey_57 (lv_at hl 2 rfl) ?_
        refine call_i (run_V (a := ea E 15) (As := [.int (iI (v4))]) (rest := []) ⟨hx, hb, hml, hown, hts⟩ (ctX6_keyAt l E 15 v4 sL _ (by decide) hR16 h) (cwV 1 hts gX8_firstUnlikeKey_X6_keyAt rfl rfl rfl ⟨rfl, hdX6_keyAt⟩ ⟨Nat.le_of_ble_eq_true rfl, Nat.le_of_ble_eq_true rfl⟩) hK hN hg (recv_x (ci := 6) (C := RX6) (T := TX6) (N := 3) hg hK (by decide) rfl (by decide) rfl) rfl hl.1 rfl (cat_sum _ (by simp)) dX8_firstUnlikeKey_59 ⟨Nat.le_refl 0, Nat.le_refl 0⟩) hg (fun r28 s27 H locs hz29 hm2 h hg => ?_)
        have hm := hm.tn hm2
        refine lv_aload_n hx hb dX8_firstUnlikeKey_62 rfl (lv_at hl 0 rfl) ?_
        refine q_getx (ci := 8) (C := RX8) (T := TX8) (N := 14) (j := 18) hx hb hts (fun _ h9 => List.mem_cons_of_mem _ (List.mem_append_left _ (List.mem_append_left _ (List.mem_append_right _ h9)))) hown hK hg 0 (by decide) rfl rfl (by decide) rfl 9 (by decide) (hts (.fieldLink RX8 72 "JoinMaps" "second" "LJoinMaps$Row;") (List.mem_cons_of_mem _ (List.mem_append_left _ (List.mem_append_left _ (List.mem_append_left _ (List.mem_append_left _ (List.mem_of_getElem? (i := 2) rfl))))))) rfl rfl rfl dX8_firstUnlikeKey_63 ?_
        refine lv_iload hx hb dX8_firstUnlikeKey_66 (lv_at hl 2 rfl) ?_
        refine call_i (run_V (a := ea E 18) (As := [.int (iI (v4))]) (rest := [.int (iI (r28))]) ⟨hx, hb, hml, hown, hts⟩ (ctX6_keyAt l E 18 v4 s27 _ (by decide) hR16 h) (cwV 1 hts gX8_firstUnlikeKey_X6_keyAt rfl rfl rfl ⟨rfl, hdX6_keyAt⟩ ⟨Nat.le_of_ble_eq_true rfl, Nat.le_of_ble_eq_true rfl⟩) hK hN hg (recv_x (ci := 6) (C := RX6) (T := TX6) (N := 3) hg hK (by decide) rfl (by decide) rfl) rfl hl.1 rfl (cat_sum _ (by simp)) dX8_firstUnlikeKey_68 ⟨Nat.le_refl 0, Nat.le_refl 0⟩) hg (fun r31 s30 H locs hz32 hm2 h hg => ?_)
        have hm := hm.tn hm2
        refine j_ne (tgt := 95) hx hb dX8_firstUnlikeKey_71 (by decide) hz29 hz32 (fun c33 => ?_) (fun c33 => ?_)
        · have h := h.1 c33
          refine lv_aload_n hx hb dX8_firstUnlikeKey_95 rfl (lv_at hl 0 rfl) ?_
          refine q_getx (ci := 8) (C := RX8) (T := TX8) (N := 14) (j := 15) hx hb hts (fun _ h9 => List.mem_cons_of_mem _ (List.mem_append_left _ (List.mem_append_left _ (List.mem_append_right _ h9)))) hown hK hg 0 (by decide) rfl rfl (by decide) rfl 8 (by decide) (hts (.fieldLink RX8 68 "JoinMaps" "first" "LJoinMaps$Row;") (List.mem_cons_of_mem _ (List.mem_append_left _ (List.mem_append_left _ (List.mem_append_left _ (List.mem_append_left _ (List.mem_of_getElem? (i := 0) rfl))))))) rfl rfl rfl dX8_firstUnlikeKey_96 ?_
          refine lv_iload hx hb dX8_firstUnlikeKey_99 (lv_at hl 2 rfl) ?_
          refine call_i (run_V (a := ea E 15) (As := [.int (iI (v4))]) (rest := []) ⟨hx, hb, hml, hown, hts⟩ (ctX6_keyAt l E 15 v4 s30 _ (by decide) hR16 h) (cwV 1 hts gX8_firstUnlikeKey_X6_keyAt rfl rfl rfl ⟨rfl, hdX6_keyAt⟩ ⟨Nat.le_of_ble_eq_true rfl, Nat.le_of_ble_eq_true rfl⟩) hK hN hg (recv_x (ci := 6) (C := RX6) (T := TX6) (N := 3) hg hK (by decide) rfl (by decide) rfl) rfl hl.1 rfl (cat_sum _ (by simp)) dX8_firstUnlikeKey_101 ⟨Nat.le_refl 0, Nat.le_refl 0⟩) hg (fun r35 s34 H locs hz36 hm2 h hg => ?_)
          have hm := hm.tn hm2
          refine lv_aload_n hx hb dX8_firstUnlikeKey_104 rfl (lv_at hl 0 rfl) ?_
          refine q_getx (ci := 8) (C := RX8) (T := TX8) (N := 14) (j := 18) hx hb hts (fun _ h9 => List.mem_cons_of_mem _ (List.mem_append_left _ (List.mem_append_left _ (List.mem_append_right _ h9)))) hown hK hg 0 (by decide) rfl rfl (by decide) rfl 9 (by decide) (hts (.fieldLink RX8 72 "JoinMaps" "second" "LJoinMaps$Row;") (List.mem_cons_of_mem _ (List.mem_append_left _ (List.mem_append_left _ (List.mem_append_left _ (List.mem_append_left _ (List.mem_of_getElem? (i := 2) rfl))))))) rfl rfl rfl dX8_firstUnlikeKey_105 ?_
          refine lv_iload hx hb dX8_firstUnlikeKey_108 (lv_at hl 2 rfl) ?_
          refine call_i (run_V (a := ea E 18) (As := [.int (iI (v4))]) (rest := [.int (iI (r35))]) ⟨hx, hb, hml, hown, hts⟩ (ctX6_keyAt l E 18 v4 s34 _ (by decide) hR16 h) (cwV 1 hts gX8_firstUnlikeKey_X6_keyAt rfl rfl rfl ⟨rfl, hdX6_keyAt⟩ ⟨Nat.le_of_ble_eq_true rfl, Nat.le_of_ble_eq_true rfl⟩) hK hN hg (recv_x (ci := 6) (C := RX6) (T := TX6) (N := 3) hg hK (by decide) rfl (by decide) rfl) rfl hl.1 rfl (cat_sum _ (by simp)) dX8_firstUnlikeKey_110 ⟨Nat.le_refl 0, Nat.le_refl 0⟩) hg (fun r38 s37 H locs hz39 hm2 h hg => ?_)
          have hm := hm.tn hm2
          refine q_min hx hb (by rw [hml]; exact hl.1.symm) hown (hts (.methodLink RX8 206 Lib.Math.min.name) (List.mem_cons_of_mem _ (List.mem_append_left _ (List.mem_append_left _ (List.mem_append_left _ (List.mem_append_left _ (List.mem_of_getElem? (i := 4) rfl))))))) (hts (.static Lib.Math.min.name) (List.mem_cons_of_mem _ (List.mem_append_left _ (List.mem_append_left _ (List.mem_append_left _ (List.mem_append_left _ (List.mem_of_getElem? (i := 5) rfl))))))) (hts (.initialized "java/lang/Math") (List.mem_cons_of_mem _ (List.mem_append_left _ (List.mem_append_left _ (List.mem_append_left _ (List.mem_append_left _ (List.mem_of_getElem? (i := 6) rfl))))))) (hts (.code Lib.Math.min.name Lib.Math.min.code 2 (some .int)) (List.mem_cons_of_mem _ (List.mem_append_left _ (List.mem_append_left _ (List.mem_append_left _ (List.mem_append_left _ (List.mem_of_getElem? (i := 7) rfl))))))) (Nat.le_of_ble_eq_true rfl) (by simp) (Nat.le_of_ble_eq_true rfl) (Nat.le_refl 0) (Nat.le_refl 0) hz36 hz39 dX8_firstUnlikeKey_113 ?_
          have hR40 : R32 (min r35 r38) := by have q1 := hz36; have q2 := hz39; omega
          exact ret_i hx hb hr hlocks hg hR40 hm h dX8_firstUnlikeKey_116
        · have h := h.2 c33
          refine lv_aload_n hx hb dX8_firstUnlikeKey_74 rfl (lv_at hl 0 rfl) ?_
          refine q_getx (ci := 8) (C := RX8) (T := TX8) (N := 14) (j := 15) hx hb hts (fun _ h9 => List.mem_cons_of_mem _ (List.mem_append_left _ (List.mem_append_left _ (List.mem_append_right _ h9)))) hown hK hg 0 (by decide) rfl rfl (by decide) rfl 8 (by decide) (hts (.fieldLink RX8 68 "JoinMaps" "first" "LJoinMaps$Row;") (List.mem_cons_of_mem _ (List.mem_append_left _ (List.mem_append_left _ (List.mem_append_left _ (List.mem_append_left _ (List.mem_of_getElem? (i := 0) rfl))))))) rfl rfl rfl dX8_firstUnlikeKey_75 ?_
          refine lv_iload hx hb dX8_firstUnlikeKey_78 (lv_at hl 2 rfl) ?_
          refine call_i (run_V (a := ea E 15) (As := [.int (iI (v4))]) (rest := []) ⟨hx, hb, hml, hown, hts⟩ (ctX6_valueAt l E 15 v4 s30 _ (by decide) hR16 h) (cwV 1 hts gX8_firstUnlikeKey_X6_valueAt rfl rfl rfl ⟨rfl, hdX6_valueAt⟩ ⟨Nat.le_of_ble_eq_true rfl, Nat.le_of_ble_eq_true rfl⟩) hK hN hg (recv_x (ci := 6) (C := RX6) (T := TX6) (N := 3) hg hK (by decide) rfl (by decide) rfl) rfl hl.1 rfl (cat_sum _ (by simp)) dX8_firstUnlikeKey_80 ⟨Nat.le_refl 0, Nat.le_refl 0⟩) hg (fun r42 s41 H locs hz43 hm2 h hg => ?_)
          have hm := hm.tn hm2
          refine lv_aload_n hx hb dX8_firstUnlikeKey_83 rfl (lv_at hl 0 rfl) ?_
          refine q_getx (ci := 8) (C := RX8) (T := TX8) (N := 14) (j := 18) hx hb hts (fun _ h9 => List.mem_cons_of_mem _ (List.mem_append_left _ (List.mem_append_left _ (List.mem_append_right _ h9)))) hown hK hg 0 (by decide) rfl rfl (by decide) rfl 9 (by decide) (hts (.fieldLink RX8 72 "JoinMaps" "second" "LJoinMaps$Row;") (List.mem_cons_of_mem _ (List.mem_append_left _ (List.mem_append_left _ (List.mem_append_left _ (List.mem_append_left _ (List.mem_of_getElem? (i := 2) rfl))))))) rfl rfl rfl dX8_firstUnlikeKey_84 ?_
          refine lv_iload hx hb dX8_firstUnlikeKey_87 (lv_at hl 2 rfl) ?_
          refine call_i (run_V (a := ea E 18) (As := [.int (iI (v4))]) (rest := [.int (iI (r42))]) ⟨hx, hb, hml, hown, hts⟩ (ctX6_valueAt l E 18 v4 s41 _ (by decide) hR16 h) (cwV 1 hts gX8_firstUnlikeKey_X6_valueAt rfl rfl rfl ⟨rfl, hdX6_valueAt⟩ ⟨Nat.le_of_ble_eq_true rfl, Nat.le_of_ble_eq_true rfl⟩) hK hN hg (recv_x (ci := 6) (C := RX6) (T := TX6) (N := 3) hg hK (by decide) rfl (by decide) rfl) rfl hl.1 rfl (cat_sum _ (by simp)) dX8_firstUnlikeKey_89 ⟨Nat.le_refl 0, Nat.le_refl 0⟩) hg (fun r45 s44 H locs hz46 hm2 h hg => ?_)
          have hm := hm.tn hm2
          refine j_eq (tgt := 117) hx hb dX8_firstUnlikeKey_92 (by decide) hz43 hz46 (fun c47 => ?_) (fun c47 => ?_)
          · have h := h.1 c47
            refine lv_iinc (v := iI (v4 + 1)) (lv' := [(4, .int (iI (v4 + 1))), (0, .ref (ea E 0)), (3, .int (iI (v3)))]) hx hb dX8_firstUnlikeKey_117 hl (k := 2) rfl (iI_add _ _) (by decide) rfl (fun ls hl => ?_)
            refine lv_goto (tgt := 47) hx hb dX8_firstUnlikeKey_120 (by decide) ?_
            exact ih (v3) (v4 + 1) (s44) _ _ _ hg hm (lv_sub hl [1, 2, 0] rfl) h
          · have h := h.2 c47
            refine lv_aload_n hx hb dX8_firstUnlikeKey_95 rfl (lv_at hl 0 rfl) ?_
            refine q_getx (ci := 8) (C := RX8) (T := TX8) (N := 14) (j := 15) hx hb hts (fun _ h9 => List.mem_cons_of_mem _ (List.mem_append_left _ (List.mem_append_left _ (List.mem_append_right _ h9)))) hown hK hg 0 (by decide) rfl rfl (by decide) rfl 8 (by decide) (hts (.fieldLink RX8 68 "JoinMaps" "first" "LJoinMaps$Row;") (List.mem_cons_of_mem _ (List.mem_append_left _ (List.mem_append_left _ (List.mem_append_left _ (List.mem_append_left _ (List.mem_of_getElem? (i := 0) rfl))))))) rfl rfl rfl dX8_firstUnlikeKey_96 ?_
            refine lv_iload hx hb dX8_firstUnlikeKey_99 (lv_at hl 2 rfl) ?_
            refine call_i (run_V (a := ea E 15) (As := [.int (iI (v4))]) (rest := []) ⟨hx, hb, hml, hown, hts⟩ (ctX6_keyAt l E 15 v4 s44 _ (by decide) hR16 h) (cwV 1 hts gX8_firstUnlikeKey_X6_keyAt rfl rfl rfl ⟨rfl, hdX6_keyAt⟩ ⟨Nat.le_of_ble_eq_true rfl, Nat.le_of_ble_eq_true rfl⟩) hK hN hg (recv_x (ci := 6) (C := RX6) (T := TX6) (N := 3) hg hK (by decide) rfl (by decide) rfl) rfl hl.1 rfl (cat_sum _ (by simp)) dX8_firstUnlikeKey_101 ⟨Nat.le_refl 0, Nat.le_refl 0⟩) hg (fun r49 s48 H locs hz50 hm2 h hg => ?_)
            have hm := hm.tn hm2
            refine lv_aload_n hx hb dX8_firstUnlikeKey_104 rfl (lv_at hl 0 rfl) ?_
            refine q_getx (ci := 8) (C := RX8) (T := TX8) (N := 14) (j := 18) hx hb hts (fun _ h9 => List.mem_cons_of_mem _ (List.mem_append_left _ (List.mem_append_left _ (List.mem_append_right _ h9)))) hown hK hg 0 (by decide) rfl rfl (by decide) rfl 9 (by decide) (hts (.fieldLink RX8 72 "JoinMaps" "second" "LJoinMaps$Row;") (List.mem_cons_of_mem _ (List.mem_append_left _ (List.mem_append_left _ (List.mem_append_left _ (List.mem_append_left _ (List.mem_of_getElem? (i := 2) rfl))))))) rfl rfl rfl dX8_firstUnlikeKey_105 ?_
            refine lv_iload hx hb dX8_firstUnlikeKey_108 (lv_at hl 2 rfl) ?_
            refine call_i (run_V (a := ea E 18) (As := [.int (iI (v4))]) (rest := [.int (iI (r49))]) ⟨hx, hb, hml, hown, hts⟩ (ctX6_keyAt l E 18 v4 s48 _ (by decide) hR16 h) (cwV 1 hts gX8_firstUnlikeKey_X6_keyAt rfl rfl rfl ⟨rfl, hdX6_keyAt⟩ ⟨Nat.le_of_ble_eq_true rfl, Nat.le_of_ble_eq_true rfl⟩) hK hN hg (recv_x (ci := 6) (C := RX6) (T := TX6) (N := 3) hg hK (by decide) rfl (by decide) rfl) rfl hl.1 rfl (cat_sum _ (by simp)) dX8_firstUnlikeKey_110 ⟨Nat.le_refl 0, Nat.le_refl 0⟩) hg (fun r52 s51 H locs hz53 hm2 h hg => ?_)
            have hm := hm.tn hm2
            refine q_min hx hb (by rw [hml]; exact hl.1.symm) hown (hts (.methodLink RX8 206 Lib.Math.min.name) (List.mem_cons_of_mem _ (List.mem_append_left _ (List.mem_append_left _ (List.mem_append_left _ (List.mem_append_left _ (List.mem_of_getElem? (i := 4) rfl))))))) (hts (.static Lib.Math.min.name) (List.mem_cons_of_mem _ (List.mem_append_left _ (List.mem_append_left _ (List.mem_append_left _ (List.mem_append_left _ (List.mem_of_getElem? (i := 5) rfl))))))) (hts (.initialized "java/lang/Math") (List.mem_cons_of_mem _ (List.mem_append_left _ (List.mem_append_left _ (List.mem_append_left _ (List.mem_append_left _ (List.mem_of_getElem? (i := 6) rfl))))))) (hts (.code Lib.Math.min.name Lib.Math.min.code 2 (some .int)) (List.mem_cons_of_mem _ (List.mem_append_left _ (List.mem_append_left _ (List.mem_append_left _ (List.mem_append_left _ (List.mem_of_getElem? (i := 7) rfl))))))) (Nat.le_of_ble_eq_true rfl) (by simp) (Nat.le_of_ble_eq_true rfl) (Nat.le_refl 0) (Nat.le_refl 0) hz50 hz53 dX8_firstUnlikeKey_113 ?_
            have hR54 : R32 (min r49 r52) := by have q1 := hz50; have q2 := hz53; omega
            exact ret_i hx hb hr hlocks hg hR54 hm h dX8_firstUnlikeKey_116
  refine lv_aload_n hx hb dX8_firstUnlikeKey_0 rfl (lv_at hl 0 rfl) ?_
  refine q_getx (ci := 8) (C := RX8) (T := TX8) (N := 14) (j := 15) hx hb hts (fun _ h9 => List.mem_cons_of_mem _ (List.mem_append_left _ (List.mem_append_left _ (List.mem_append_right _ h9)))) hown hK hg 0 (by decide) rfl rfl (by decide) rfl 8 (by decide) (hts (.fieldLink RX8 68 "JoinMaps" "first" "LJoinMaps$Row;") (List.mem_cons_of_mem _ (List.mem_append_left _ (List.mem_append_left _ (List.mem_append_left _ (List.mem_append_left _ (List.mem_of_getElem? (i := 0) rfl))))))) rfl rfl rfl dX8_firstUnlikeKey_1 ?_
  refine lv_aload_n hx hb dX8_firstUnlikeKey_4 rfl (lv_at hl 0 rfl) ?_
  refine q_getx (ci := 8) (C := RX8) (T := TX8) (N := 14) (j := 3) hx hb hts (fun _ h9 => List.mem_cons_of_mem _ (List.mem_append_left _ (List.mem_append_left _ (List.mem_append_right _ h9)))) hown hK hg 0 (by decide) rfl rfl (by decide) rfl 2 (by decide) (hts (.fieldLink RX8 27 "JoinMaps" "maps" "[LJoinMaps$Node;") (List.mem_cons_of_mem _ (List.mem_append_left _ (List.mem_append_left _ (List.mem_append_left _ (List.mem_append_left _ (List.mem_of_getElem? (i := 1) rfl))))))) rfl rfl rfl dX8_firstUnlikeKey_5 ?_
  refine lv_iload_n hx hb dX8_firstUnlikeKey_8 rfl (lv_at hl 1 rfl) ?_
  obtain ⟨hP1, hP2, h⟩ := h
  refine q_aald (N := 6) hx hb hK hg 3 (by decide) rfl rfl hP1 hP2 (by decide) dX8_firstUnlikeKey_9 ?_
  have hS3 : ∀ b, (sf σ 3 (a1 : Int).toNat) = some b → sS σ b := fun b h0 => GS_F hg h0
  refine call_v (run_V (a := ea E 15) (As := [va_rf ((sf σ 3 (a1 : Int).toNat))]) (rest := []) ⟨hx, hb, hml, hown, hts⟩ (ctX6_take l E 15 (sf σ 3 (a1 : Int).toNat) σ _ (by decide) hS3 h) (cwV 1 hts gX8_firstUnlikeKey_X6_take rfl rfl rfl ⟨rfl, hdX6_take⟩ ⟨Nat.le_of_ble_eq_true rfl, Nat.le_of_ble_eq_true rfl⟩) hK hN hg (recv_x (ci := 6) (C := RX6) (T := TX6) (N := 3) hg hK (by decide) rfl (by decide) rfl) rfl hl.1 rfl (cat_sum _ (by simp)) dX8_firstUnlikeKey_10 ⟨Nat.le_refl 0, Nat.le_refl 0⟩) hg (fun s4 H locs hm2 h hg => ?_)
  have hm := hm.tn hm2
  refine lv_aload_n hx hb dX8_firstUnlikeKey_13 rfl (lv_at hl 0 rfl) ?_
  refine q_getx (ci := 8) (C := RX8) (T := TX8) (N := 14) (j := 18) hx hb hts (fun _ h9 => List.mem_cons_of_mem _ (List.mem_append_left _ (List.mem_append_left _ (List.mem_append_right _ h9)))) hown hK hg 0 (by decide) rfl rfl (by decide) rfl 9 (by decide) (hts (.fieldLink RX8 72 "JoinMaps" "second" "LJoinMaps$Row;") (List.mem_cons_of_mem _ (List.mem_append_left _ (List.mem_append_left _ (List.mem_append_left _ (List.mem_append_left _ (List.mem_of_getElem? (i := 2) rfl))))))) rfl rfl rfl dX8_firstUnlikeKey_14 ?_
  refine lv_aload_n hx hb dX8_firstUnlikeKey_17 rfl (lv_at hl 0 rfl) ?_
  refine q_getx (ci := 8) (C := RX8) (T := TX8) (N := 14) (j := 3) hx hb hts (fun _ h9 => List.mem_cons_of_mem _ (List.mem_append_left _ (List.mem_append_left _ (List.mem_append_right _ h9)))) hown hK hg 0 (by decide) rfl rfl (by decide) rfl 2 (by decide) (hts (.fieldLink RX8 27 "JoinMaps" "maps" "[LJoinMaps$Node;") (List.mem_cons_of_mem _ (List.mem_append_left _ (List.mem_append_left _ (List.mem_append_left _ (List.mem_append_left _ (List.mem_of_getElem? (i := 1) rfl))))))) rfl rfl rfl dX8_firstUnlikeKey_18 ?_
  refine lv_iload_n hx hb dX8_firstUnlikeKey_21 rfl (lv_at hl 2 rfl) ?_
  obtain ⟨hP7, hP8, h⟩ := h
  refine q_aald (N := 6) hx hb hK hg 3 (by decide) rfl rfl hP7 hP8 (by decide) dX8_firstUnlikeKey_22 ?_
  have hS9 : ∀ b, (sf s4 3 (a2 : Int).toNat) = some b → sS s4 b := fun b h0 => GS_F hg h0
  refine call_v (run_V (a := ea E 18) (As := [va_rf ((sf s4 3 (a2 : Int).toNat))]) (rest := []) ⟨hx, hb, hml, hown, hts⟩ (ctX6_take l E 18 (sf s4 3 (a2 : Int).toNat) s4 _ (by decide) hS9 h) (cwV 1 hts gX8_firstUnlikeKey_X6_take rfl rfl rfl ⟨rfl, hdX6_take⟩ ⟨Nat.le_of_ble_eq_true rfl, Nat.le_of_ble_eq_true rfl⟩) hK hN hg (recv_x (ci := 6) (C := RX6) (T := TX6) (N := 3) hg hK (by decide) rfl (by decide) rfl) rfl hl.1 rfl (cat_sum _ (by simp)) dX8_firstUnlikeKey_23 ⟨Nat.le_refl 0, Nat.le_refl 0⟩) hg (fun s10 H locs hm2 h hg => ?_)
  have hm := hm.tn hm2
  refine lv_aload_n hx hb dX8_firstUnlikeKey_26 rfl (lv_at hl 0 rfl) ?_
  refine q_getx (ci := 8) (C := RX8) (T := TX8) (N := 14) (j := 15) hx hb hts (fun _ h9 => List.mem_cons_of_mem _ (List.mem_append_left _ (List.mem_append_left _ (List.mem_append_right _ h9)))) hown hK hg 0 (by decide) rfl rfl (by decide) rfl 8 (by decide) (hts (.fieldLink RX8 68 "JoinMaps" "first" "LJoinMaps$Row;") (List.mem_cons_of_mem _ (List.mem_append_left _ (List.mem_append_left _ (List.mem_append_left _ (List.mem_append_left _ (List.mem_of_getElem? (i := 0) rfl))))))) rfl rfl rfl dX8_firstUnlikeKey_27 ?_
  refine q_geti (ci := 6) (C := RX6) (T := TX6) (N := 3) hx hb hts (fun _ h9 => List.mem_cons_of_mem _ (List.mem_append_left _ (List.mem_append_right _ h9))) hown hK hg 15 (by decide) rfl rfl (by decide) rfl 2 (by decide) (hts (.fieldLink RX8 153 "JoinMaps$Row" "length" "I") (List.mem_cons_of_mem _ (List.mem_append_left _ (List.mem_append_left _ (List.mem_append_left _ (List.mem_append_left _ (List.mem_of_getElem? (i := 3) rfl))))))) rfl rfl dX8_firstUnlikeKey_30 ?_
  have hR13 := GS_R hg 15 2
  refine lv_aload_n hx hb dX8_firstUnlikeKey_33 rfl (lv_at hl 0 rfl) ?_
  refine q_getx (ci := 8) (C := RX8) (T := TX8) (N := 14) (j := 18) hx hb hts (fun _ h9 => List.mem_cons_of_mem _ (List.mem_append_left _ (List.mem_append_left _ (List.mem_append_right _ h9)))) hown hK hg 0 (by decide) rfl rfl (by decide) rfl 9 (by decide) (hts (.fieldLink RX8 72 "JoinMaps" "second" "LJoinMaps$Row;") (List.mem_cons_of_mem _ (List.mem_append_left _ (List.mem_append_left _ (List.mem_append_left _ (List.mem_append_left _ (List.mem_of_getElem? (i := 2) rfl))))))) rfl rfl rfl dX8_firstUnlikeKey_34 ?_
  refine q_geti (ci := 6) (C := RX6) (T := TX6) (N := 3) hx hb hts (fun _ h9 => List.mem_cons_of_mem _ (List.mem_append_left _ (List.mem_append_right _ h9))) hown hK hg 18 (by decide) rfl rfl (by decide) rfl 2 (by decide) (hts (.fieldLink RX8 153 "JoinMaps$Row" "length" "I") (List.mem_cons_of_mem _ (List.mem_append_left _ (List.mem_append_left _ (List.mem_append_left _ (List.mem_append_left _ (List.mem_of_getElem? (i := 3) rfl))))))) rfl rfl dX8_firstUnlikeKey_37 ?_
  have hR14 := GS_R hg 18 2
  refine q_min hx hb (by rw [hml]; exact hl.1.symm) hown (hts (.methodLink RX8 206 Lib.Math.min.name) (List.mem_cons_of_mem _ (List.mem_append_left _ (List.mem_append_left _ (List.mem_append_left _ (List.mem_append_left _ (List.mem_of_getElem? (i := 4) rfl))))))) (hts (.static Lib.Math.min.name) (List.mem_cons_of_mem _ (List.mem_append_left _ (List.mem_append_left _ (List.mem_append_left _ (List.mem_append_left _ (List.mem_of_getElem? (i := 5) rfl))))))) (hts (.initialized "java/lang/Math") (List.mem_cons_of_mem _ (List.mem_append_left _ (List.mem_append_left _ (List.mem_append_left _ (List.mem_append_left _ (List.mem_of_getElem? (i := 6) rfl))))))) (hts (.code Lib.Math.min.name Lib.Math.min.code 2 (some .int)) (List.mem_cons_of_mem _ (List.mem_append_left _ (List.mem_append_left _ (List.mem_append_left _ (List.mem_append_left _ (List.mem_of_getElem? (i := 7) rfl))))))) (Nat.le_of_ble_eq_true rfl) (by simp) (Nat.le_of_ble_eq_true rfl) (Nat.le_refl 0) (Nat.le_refl 0) hR13 hR14 dX8_firstUnlikeKey_40 ?_
  have hR15 : R32 (min (sn s10 15 2) (sn s10 18 2)) := by have q1 := hR13; have q2 := hR14; omega
  refine lv_istore_n (i := 3) (lv' := [(3, .int (iI ((min (sn s10 15 2) (sn s10 18 2))))), (0, .ref (ea E 0)), (1, .int (iI (a1))), (2, .int (iI (a2)))]) hx hb dX8_firstUnlikeKey_43 rfl hl (by decide) rfl (fun ls hl => ?_)
  refine lv_iconst (v := iI 0) hx hb dX8_firstUnlikeKey_44 (by decide) ?_
  refine lv_istore (i := 4) (lv' := [(4, .int (iI (0))), (3, .int (iI ((min (sn s10 15 2) (sn s10 18 2))))), (0, .ref (ea E 0)), (1, .int (iI (a1))), (2, .int (iI (a2)))]) hx hb dX8_firstUnlikeKey_45 hl (by decide) rfl (fun ls hl => ?_)
  obtain ⟨kk, h⟩ := h
  exact J47  kk ((min (sn s10 15 2) (sn s10 18 2))) (0) (s10) _ _ _ hg hm (lv_sub hl [2, 1, 0] rfl) h
theorem hdX8_same : yX8_same.cls ≠ "java/lang/invoke/MethodHandle" ∧ yX8_same.cls ≠ "java/lang/invoke/VarHandle" ∧ (parseMethodDescriptor yX8_same.desc).map (fun d => d.parameters.length) = some 2 := by decide +kernel
set_option maxRecDepth 100000 in
set_option maxHeartbeats 4000000 in
theorem ctX8_same (l : Launch) (E : Ev) (a1 : Int) (a2 : Int) (σ : SS) (Q : Int → SS → Prop) (ha1 : R32 a1) (ha2 : R32 a2) (h : wX8_same a1 a2 σ Q) : Met l yX8_same wsX8_same ({ frames := 48, cells := 0, slots := 0, locals := 1057 } : Room) (Pc E σ [.ref (ea E 0), .int (iI (a1)), .int (iI (a2))]) (Qi E (sz σ) σ Q) 0 0 (Av E) := by
  rw [wX8_same] at h
  refine Met.ofW (cc := cX8_same) (maxL := 3) (ret := (some .int)) (by decide) rfl ?_
  intro p e s m args below meth c s₁ B hml hv
  obtain ⟨rfl, hH, hK, hN⟩ := hv
  have hx := B.exec
  have hb := B.bytes
  have hr := B.returns
  have hts := atoms_spec (ws := wsX8_same) B.pre
  have hown : s.vm.findClass RX8 = some m.cls := findClass_of_methodNamed B.named
  have hlocks := B.notSynchronized
  have hg : GS E σ s s.heap [] := ⟨hH, va_S.rf⟩
  have hm : Mo (sz σ) σ σ := Mo.rf (Nat.le_refl _)
  have hl := ent (vs := [.ref (ea E 0), .int (iI (a1)), .int (iI (a2))]) (n := 3) (cats_x (cats_i (cats_i cats_nil))) (Nat.le_of_ble_eq_true rfl)
  rw [lg_entry_eq]
  generalize (lg_sl ([.ref (ea E 0), .int (iI (a1)), .int (iI (a2))]) ++ List.replicate (3 - (lg_sl ([.ref (ea E 0), .int (iI (a1)), .int (iI (a2))])).length) Slot.unset).toArray = ls at hl ⊢
  have hl : lv_has ls 3 [(0, .ref (ea E 0)), (1, .int (iI (a1))), (2, .int (iI (a2)))] := hl
  refine lv_iload_n hx hb dX8_same_0 rfl (lv_at hl 1 rfl) ?_
  refine call_z (run_S (As := [.int (iI (a1))]) (rest := []) ⟨hx, hb, hml, hown, hts⟩ (ctX8_isMap l E a1 σ _ ha1 h) (va_cwS 1 hts gX8_same_X8_isMap rfl rfl rfl hdX8_isMap ⟨Nat.le_of_ble_eq_true rfl, Nat.le_of_ble_eq_true rfl⟩) hK hN hg rfl hl.1 rfl (cat_sum _ (by simp)) dX8_same_1 ⟨Nat.le_refl 0, Nat.le_refl 0⟩) hg (fun r2 s1 H locs hz3 hm2 h hg => ?_)
  have hm := hm.tn hm2
  refine k_eq (tgt := 14) hx hb dX8_same_4 (by decide) (z_R hz3) (fun c4 => ?_) (fun c4 => ?_)
  · have h := h.1 c4
    refine lv_aload_n hx hb dX8_same_14 rfl (lv_at hl 0 rfl) ?_
    refine call_i (run_V (a := ea E 0) (As := []) (rest := []) ⟨hx, hb, hml, hown, hts⟩ (ctX8_bad l E  s1 _  h) (cwV 0 hts gX8_same_X8_bad rfl rfl rfl ⟨rfl, hdX8_bad⟩ ⟨Nat.le_of_ble_eq_true rfl, Nat.le_of_ble_eq_true rfl⟩) hK hN hg (recv_x (ci := 8) (C := RX8) (T := TX8) (N := 14) hg hK (by decide) rfl (by decide) rfl) rfl hl.1 rfl (cat_sum _ (by simp)) dX8_same_15 ⟨Nat.le_refl 0, Nat.le_refl 0⟩) hg (fun r6 s5 H locs hz7 hm2 h hg => ?_)
    have hm := hm.tn hm2
    exact ret_i hx hb hr hlocks hg hz7 hm h dX8_same_18
  · have h := h.2 c4
    refine lv_iload_n hx hb dX8_same_7 rfl (lv_at hl 2 rfl) ?_
    refine call_z (run_S (As := [.int (iI (a2))]) (rest := []) ⟨hx, hb, hml, hown, hts⟩ (ctX8_isMap l E a2 s1 _ ha2 h) (va_cwS 1 hts gX8_same_X8_isMap rfl rfl rfl hdX8_isMap ⟨Nat.le_of_ble_eq_true rfl, Nat.le_of_ble_eq_true rfl⟩) hK hN hg rfl hl.1 rfl (cat_sum _ (by simp)) dX8_same_8 ⟨Nat.le_refl 0, Nat.le_refl 0⟩) hg (fun r9 s8 H locs hz10 hm2 h hg => ?_)
    have hm := hm.tn hm2
    refine k_ne (tgt := 19) hx hb dX8_same_11 (by decide) (z_R hz10) (fun c11 => ?_) (fun c11 => ?_)
    · have h := h.1 c11
      refine lv_aload_n hx hb dX8_same_19 rfl (lv_at hl 0 rfl) ?_
      refine lv_iload_n hx hb dX8_same_20 rfl (lv_at hl 1 rfl) ?_
      refine lv_iload_n hx hb dX8_same_21 rfl (lv_at hl 2 rfl) ?_
      refine call_i (run_V (a := ea E 0) (As := [.int (iI (a1)), .int (iI (a2))]) (rest := []) ⟨hx, hb, hml, hown, hts⟩ (ctX8_firstUnlikeKey l E a1 a2 s8 _ ha1 ha2 h) (cwV 2 hts gX8_same_X8_firstUnlikeKey rfl rfl rfl ⟨rfl, hdX8_firstUnlikeKey⟩ ⟨Nat.le_of_ble_eq_true rfl, Nat.le_of_ble_eq_true rfl⟩) hK hN hg (recv_x (ci := 8) (C := RX8) (T := TX8) (N := 14) hg hK (by decide) rfl (by decide) rfl) rfl hl.1 rfl (cat_sum _ (by simp)) dX8_same_22 ⟨Nat.le_refl 0, Nat.le_refl 0⟩) hg (fun r13 s12 H locs hz14 hm2 h hg => ?_)
      have hm := hm.tn hm2
      refine q_ldc (z := (-2000000001)) hx hb hown (hts (.constant RX8 100 (-2000000001)) (List.mem_cons_of_mem _ (List.mem_append_left _ (List.mem_append_left _ (List.mem_append_left _ (List.mem_append_left _ (List.mem_of_getElem? (i := 0) rfl))))))) (by decide) dX8_same_25 ?_
      refine j_ne (tgt := 34) hx hb dX8_same_27 (by decide) hz14 (by decide) (fun c15 => ?_) (fun c15 => ?_)
      · have h := h.1 c15
        refine lv_iconst (v := iI 0) hx hb dX8_same_34 (by decide) ?_
        exact ret_i hx hb hr hlocks hg (by decide) hm h dX8_same_35
      · have h := h.2 c15
        refine lv_iconst (v := iI 1) hx hb dX8_same_30 (by decide) ?_
        refine lv_goto (tgt := 35) hx hb dX8_same_31 (by decide) ?_
        exact ret_i hx hb hr hlocks hg (by decide) hm h dX8_same_35
    · have h := h.2 c11
      refine lv_aload_n hx hb dX8_same_14 rfl (lv_at hl 0 rfl) ?_
      refine call_i (run_V (a := ea E 0) (As := []) (rest := []) ⟨hx, hb, hml, hown, hts⟩ (ctX8_bad l E  s8 _  h) (cwV 0 hts gX8_same_X8_bad rfl rfl rfl ⟨rfl, hdX8_bad⟩ ⟨Nat.le_of_ble_eq_true rfl, Nat.le_of_ble_eq_true rfl⟩) hK hN hg (recv_x (ci := 8) (C := RX8) (T := TX8) (N := 14) hg hK (by decide) rfl (by decide) rfl) rfl hl.1 rfl (cat_sum _ (by simp)) dX8_same_15 ⟨Nat.le_refl 0, Nat.le_refl 0⟩) hg (fun r17 s16 H locs hz18 hm2 h hg => ?_)
      have hm := hm.tn hm2
      exact ret_i hx hb hr hlocks hg hz18 hm h dX8_same_18
theorem hdX8_common : yX8_common.cls ≠ "java/lang/invoke/MethodHandle" ∧ yX8_common.cls ≠ "java/lang/invoke/VarHandle" ∧ (parseMethodDescriptor yX8_common.desc).map (fun d => d.parameters.length) = some 2 := by decide +kernel
set_option maxRecDepth 100000 in
set_option maxHeartbeats 4000000 in
theorem ctX8_common (l : Launch) (E : Ev) (a1 : Int) (a2 : Int) (σ : SS) (Q : Int → SS → Prop) (ha1 : R32 a1) (ha2 : R32 a2) (h : wX8_common a1 a2 σ Q) : Met l yX8_common wsX8_common ({ frames := 47, cells := 0, slots := 0, locals := 1033 } : Room) (Pc E σ [.ref (ea E 0), .int (iI (a1)), .int (iI (a2))]) (Qi E (sz σ) σ Q) 0 0 (Av E) := by
  rw [wX8_common] at h
  refine Met.ofW (cc := cX8_common) (maxL := 5) (ret := (some .int)) (by decide) rfl ?_
  intro p e s m args below meth c s₁ B hml hv
  obtain ⟨rfl, hH, hK, hN⟩ := hv
  have hx := B.exec
  have hb := B.bytes
  have hr := B.returns
  have hts := atoms_spec (ws := wsX8_common) B.pre
  have hown : s.vm.findClass RX8 = some m.cls := findClass_of_methodNamed B.named
  have hlocks := B.notSynchronized
  have hg : GS E σ s s.heap [] := ⟨hH, va_S.rf⟩
  have hm : Mo (sz σ) σ σ := Mo.rf (Nat.le_refl _)
  have hl := ent (vs := [.ref (ea E 0), .int (iI (a1)), .int (iI (a2))]) (n := 5) (cats_x (cats_i (cats_i cats_nil))) (Nat.le_of_ble_eq_true rfl)
  rw [lg_entry_eq]
  generalize (lg_sl ([.ref (ea E 0), .int (iI (a1)), .int (iI (a2))]) ++ List.replicate (5 - (lg_sl ([.ref (ea E 0), .int (iI (a1)), .int (iI (a2))])).length) Slot.unset).toArray = ls at hl ⊢
  have hl : lv_has ls 5 [(0, .ref (ea E 0)), (1, .int (iI (a1))), (2, .int (iI (a2)))] := hl
  have J37 : ∀ (k : Nat), ∀ (v3 : Int) (v4 : Int) (sL : SS) (H : Heap) (locs : List Loc) (ls : Array Slot), GS E sL s H locs → Mo (sz σ) σ sL → lv_has ls 5 [(0, .ref (ea E 0)), (2, .int (iI (a2))), (3, .int (iI (v3))), (4, .int (iI (v4)))] → wX8_common_L37 a1 a2 Q  k v3 v4 sL → W p l e (headSpec wsX8_common ({ frames := 47, cells := 0, slots := 0, locals := 1033 } : Room)).room s m (List.toArray [.ref (ea E 0), .int (iI (a1)), .int (iI (a2))]) below meth c H locs 0 0 (MQ below (Qi E (sz σ) σ Q) (List.toArray [.ref (ea E 0), .int (iI (a1)), .int (iI (a2))]) s 0 0 (Av E)) (F0 m 37 ls []) := by
    intro k
    induction k with
    | zero => intro v3 v4 sL H locs ls hg hm hl h; exact False.elim h
    | succ k ih =>
      intro v3 v4 sL H locs ls hg hm hl h
      rw [wX8_common_L37] at h
      refine lv_iload hx hb dX8_common_37 (lv_at hl 3 rfl) ?_
      refine lv_aload_n hx hb dX8_common_39 rfl (lv_at hl 0 rfl) ?_
      refine q_getx (ci := 8) (C := RX8) (T := TX8) (N := 14) (j := 15) hx hb hts (fun _ h9 => List.mem_cons_of_mem _ (List.mem_append_left _ (List.mem_append_left _ (List.mem_append_right _ h9)))) hown hK hg 0 (by decide) rfl rfl (by decide) rfl 8 (by decide) (hts (.fieldLink RX8 68 "JoinMaps" "first" "LJoinMaps$Row;") (List.mem_cons_of_mem _ (List.mem_append_left _ (List.mem_append_left _ (List.mem_append_left _ (List.mem_append_left _ (List.mem_of_getElem? (i := 0) rfl))))))) rfl rfl rfl dX8_common_40 ?_
      refine q_geti (ci := 6) (C := RX6) (T := TX6) (N := 3) hx hb hts (fun _ h9 => List.mem_cons_of_mem _ (List.mem_append_left _ (List.mem_append_right _ h9))) hown hK hg 15 (by decide) rfl rfl (by decide) rfl 2 (by decide) (hts (.fieldLink RX8 153 "JoinMaps$Row" "length" "I") (List.mem_cons_of_mem _ (List.mem_append_left _ (List.mem_append_left _ (List.mem_append_left _ (List.mem_append_left _ (List.mem_of_getElem? (i := 2) rfl))))))) rfl rfl dX8_common_43 ?_
      have hR21 := GS_R hg 15 2
      obtain ⟨hR22, h⟩ := h
      refine j_ge (tgt := 79) hx hb dX8_common_46 (by decide) hR22 hR21 (fun c23 => ?_) (fun c23 => ?_)
      · have h := h.1 c23
        refine lv_iload_n hx hb dX8_common_79 rfl (lv_at hl 2 rfl) ?_
        obtain ⟨hR24, h⟩ := h
        exact ret_i hx hb hr hlocks hg hR24 hm h dX8_common_80
      · have h := h.2 c23
        refine lv_aload_n hx hb dX8_common_49 rfl (lv_at hl 0 rfl) ?_
        refine q_getx (ci := 8) (C := RX8) (T := TX8) (N := 14) (j := 3) hx hb hts (fun _ h9 => List.mem_cons_of_mem _ (List.mem_append_left _ (List.mem_append_left _ (List.mem_append_right _ h9)))) hown hK hg 0 (by decide) rfl rfl (by decide) rfl 2 (by decide) (hts (.fieldLink RX8 27 "JoinMaps" "maps" "[LJoinMaps$Node;") (List.mem_cons_of_mem _ (List.mem_append_left _ (List.mem_append_left _ (List.mem_append_left _ (List.mem_append_left _ (List.mem_of_getElem? (i := 1) rfl))))))) rfl rfl rfl dX8_common_50 ?_
        refine lv_iload_n hx hb dX8_common_53 rfl (lv_at hl 1 rfl) ?_
        obtain ⟨hP25, hP26, h⟩ := h
        refine q_aald (N := 6) hx hb hK hg 3 (by decide) rfl rfl hP25 hP26 (by decide) dX8_common_54 ?_
        have hS27 : ∀ b, (sf sL 3 (a2 : Int).toNat) = some b → sS sL b := fun b h0 => GS_F hg h0
        refine lv_aload_n hx hb dX8_common_55 rfl (lv_at hl 0 rfl) ?_
        refine q_getx (ci := 8) (C := RX8) (T := TX8) (N := 14) (j := 15) hx hb hts (fun _ h9 => List.mem_cons_of_mem _ (List.mem_append_left _ (List.mem_append_left _ (List.mem_append_right _ h9)))) hown hK hg 0 (by decide) rfl rfl (by decide) rfl 8 (by decide) (hts (.fieldLink RX8 68 "JoinMaps" "first" "LJoinMaps$Row;") (List.mem_cons_of_mem _ (List.mem_append_left _ (List.mem_append_left _ (List.mem_append_left _ (List.mem_append_left _ (List.mem_of_getElem? (i := 0) rfl))))))) rfl rfl rfl dX8_common_56 ?_
        refine lv_iload hx hb dX8_common_59 (lv_at hl 3 rfl) ?_
        refine call_i (run_V (a := ea E 15) (As := [.int (iI (v4))]) (rest := [va_rf ((sf sL 3 (a2 : Int).toNat))]) ⟨hx, hb, hml, hown, hts⟩ (ctX6_keyAt l E 15 v4 sL _ (by decide) hR22 h) (cwV 1 hts gX8_common_X6_keyAt rfl rfl rfl ⟨rfl, hdX6_keyAt⟩ ⟨Nat.le_of_ble_eq_true rfl, Nat.le_of_ble_eq_true rfl⟩) hK hN hg (recv_x (ci := 6) (C := RX6) (T := TX6) (N := 3) hg hK (by decide) rfl (by decide) rfl) rfl hl.1 rfl (cat_sum _ (by simp)) dX8_common_61 ⟨Nat.le_refl 0, Nat.le_refl 0⟩) hg (fun r29 s28 H locs hz30 hm2 h hg => ?_)
        have hS31 : ∀ b, (sf sL 3 (a2 : Int).toNat) = some b → sS s28 b := (fun b h0 => hm2.1 b (hS27 b h0))
        have hm := hm.tn hm2
        refine call_r (run_S (As := [va_rf ((sf sL 3 (a2 : Int).toNat)), .int (iI (r29))]) (rest := []) ⟨hx, hb, hml, hown, hts⟩ (ctX3_find l E (sf sL 3 (a2 : Int).toNat) r29 s28 _ hS31 hz30 h) (va_cwS 2 hts gX8_common_X3_find rfl rfl rfl hdX3_find ⟨Nat.le_of_ble_eq_true rfl, Nat.le_of_ble_eq_true rfl⟩) hK hN hg rfl hl.1 rfl (cat_sum _ (by simp)) dX8_common_64 ⟨Nat.le_refl 0, Nat.le_refl 0⟩) hg (fun r33 s32 H locs hz34 hm2 h hg => ?_)
        have hm := hm.tn hm2
        refine j_null (tgt := 73) hx hb dX8_common_67 (by decide) (fun c35 => ?_) (fun b36 c35 => ?_)
        · have h := h.1 c35
          refine lv_iinc (v := iI (v4 + 1)) (lv' := [(4, .int (iI (v4 + 1))), (0, .ref (ea E 0)), (2, .int (iI (a2))), (3, .int (iI (v3)))]) hx hb dX8_common_73 hl (k := 3) rfl (iI_add _ _) (by decide) rfl (fun ls hl => ?_)
          refine lv_goto (tgt := 37) hx hb dX8_common_76 (by decide) ?_
          exact ih (v3) (v4 + 1) (s32) _ _ _ hg hm (lv_sub hl [1, 2, 3, 0] rfl) h
        · have h := h.2 b36 c35
          refine lv_iinc (v := iI (v3 + 1)) (lv' := [(3, .int (iI (v3 + 1))), (0, .ref (ea E 0)), (2, .int (iI (a2))), (4, .int (iI (v4)))]) hx hb dX8_common_70 hl (k := 2) rfl (iI_add _ _) (by decide) rfl (fun ls hl => ?_)
          refine lv_iinc (v := iI (v4 + 1)) (lv' := [(4, .int (iI (v4 + 1))), (3, .int (iI (v3 + 1))), (0, .ref (ea E 0)), (2, .int (iI (a2)))]) hx hb dX8_common_73 hl (k := 3) rfl (iI_add _ _) (by decide) rfl (fun ls hl => ?_)
          refine lv_goto (tgt := 37) hx hb dX8_common_76 (by decide) ?_
          exact ih (v3 + 1) (v4 + 1) (s32) _ _ _ hg hm (lv_sub hl [2, 3, 1, 0] rfl) h
  refine lv_iload_n hx hb dX8_common_0 rfl (lv_at hl 1 rfl) ?_
  refine call_z (run_S (As := [.int (iI (a1))]) (rest := []) ⟨hx, hb, hml, hown, hts⟩ (ctX8_isMap l E a1 σ _ ha1 h) (va_cwS 1 hts gX8_common_X8_isMap rfl rfl rfl hdX8_isMap ⟨Nat.le_of_ble_eq_true rfl, Nat.le_of_ble_eq_true rfl⟩) hK hN hg rfl hl.1 rfl (cat_sum _ (by simp)) dX8_common_1 ⟨Nat.le_refl 0, Nat.le_refl 0⟩) hg (fun r2 s1 H locs hz3 hm2 h hg => ?_)
  have hm := hm.tn hm2
  refine k_eq (tgt := 14) hx hb dX8_common_4 (by decide) (z_R hz3) (fun c4 => ?_) (fun c4 => ?_)
  · have h := h.1 c4
    refine lv_aload_n hx hb dX8_common_14 rfl (lv_at hl 0 rfl) ?_
    refine call_i (run_V (a := ea E 0) (As := []) (rest := []) ⟨hx, hb, hml, hown, hts⟩ (ctX8_bad l E  s1 _  h) (cwV 0 hts gX8_common_X8_bad rfl rfl rfl ⟨rfl, hdX8_bad⟩ ⟨Nat.le_of_ble_eq_true rfl, Nat.le_of_ble_eq_true rfl⟩) hK hN hg (recv_x (ci := 8) (C := RX8) (T := TX8) (N := 14) hg hK (by decide) rfl (by decide) rfl) rfl hl.1 rfl (cat_sum _ (by simp)) dX8_common_15 ⟨Nat.le_refl 0, Nat.le_refl 0⟩) hg (fun r6 s5 H locs hz7 hm2 h hg => ?_)
    have hm := hm.tn hm2
    exact ret_i hx hb hr hlocks hg hz7 hm h dX8_common_18
  · have h := h.2 c4
    refine lv_iload_n hx hb dX8_common_7 rfl (lv_at hl 2 rfl) ?_
    refine call_z (run_S (As := [.int (iI (a2))]) (rest := []) ⟨hx, hb, hml, hown, hts⟩ (ctX8_isMap l E a2 s1 _ ha2 h) (va_cwS 1 hts gX8_common_X8_isMap rfl rfl rfl hdX8_isMap ⟨Nat.le_of_ble_eq_true rfl, Nat.le_of_ble_eq_true rfl⟩) hK hN hg rfl hl.1 rfl (cat_sum _ (by simp)) dX8_common_8 ⟨Nat.le_refl 0, Nat.le_refl 0⟩) hg (fun r9 s8 H locs hz10 hm2 h hg => ?_)
    have hm := hm.tn hm2
    refine k_ne (tgt := 19) hx hb dX8_common_11 (by decide) (z_R hz10) (fun c11 => ?_) (fun c11 => ?_)
    · have h := h.1 c11
      refine lv_iconst (v := iI 0) hx hb dX8_common_19 (by decide) ?_
      refine lv_istore_n (i := 3) (lv' := [(3, .int (iI (0))), (0, .ref (ea E 0)), (1, .int (iI (a1))), (2, .int (iI (a2)))]) hx hb dX8_common_20 rfl hl (by decide) rfl (fun ls hl => ?_)
      refine lv_aload_n hx hb dX8_common_21 rfl (lv_at hl 1 rfl) ?_
      refine q_getx (ci := 8) (C := RX8) (T := TX8) (N := 14) (j := 15) hx hb hts (fun _ h9 => List.mem_cons_of_mem _ (List.mem_append_left _ (List.mem_append_left _ (List.mem_append_right _ h9)))) hown hK hg 0 (by decide) rfl rfl (by decide) rfl 8 (by decide) (hts (.fieldLink RX8 68 "JoinMaps" "first" "LJoinMaps$Row;") (List.mem_cons_of_mem _ (List.mem_append_left _ (List.mem_append_left _ (List.mem_append_left _ (List.mem_append_left _ (List.mem_of_getElem? (i := 0) rfl))))))) rfl rfl rfl dX8_common_22 ?_
      refine lv_aload_n hx hb dX8_common_25 rfl (lv_at hl 1 rfl) ?_
      refine q_getx (ci := 8) (C := RX8) (T := TX8) (N := 14) (j := 3) hx hb hts (fun _ h9 => List.mem_cons_of_mem _ (List.mem_append_left _ (List.mem_append_left _ (List.mem_append_right _ h9)))) hown hK hg 0 (by decide) rfl rfl (by decide) rfl 2 (by decide) (hts (.fieldLink RX8 27 "JoinMaps" "maps" "[LJoinMaps$Node;") (List.mem_cons_of_mem _ (List.mem_append_left _ (List.mem_append_left _ (List.mem_append_left _ (List.mem_append_left _ (List.mem_of_getElem? (i := 1) rfl))))))) rfl rfl rfl dX8_common_26 ?_
      refine lv_iload_n hx hb dX8_common_29 rfl (lv_at hl 2 rfl) ?_
      obtain ⟨hP12, hP13, h⟩ := h
      refine q_aald (N := 6) hx hb hK hg 3 (by decide) rfl rfl hP12 hP13 (by decide) dX8_common_30 ?_
      have hS14 : ∀ b, (sf s8 3 (a1 : Int).toNat) = some b → sS s8 b := fun b h0 => GS_F hg h0
      refine call_v (run_V (a := ea E 15) (As := [va_rf ((sf s8 3 (a1 : Int).toNat))]) (rest := []) ⟨hx, hb, hml, hown, hts⟩ (ctX6_take l E 15 (sf s8 3 (a1 : Int).toNat) s8 _ (by decide) hS14 h) (cwV 1 hts gX8_common_X6_take rfl rfl rfl ⟨rfl, hdX6_take⟩ ⟨Nat.le_of_ble_eq_true rfl, Nat.le_of_ble_eq_true rfl⟩) hK hN hg (recv_x (ci := 6) (C := RX6) (T := TX6) (N := 3) hg hK (by decide) rfl (by decide) rfl) rfl hl.1 rfl (cat_sum _ (by simp)) dX8_common_31 ⟨Nat.le_refl 0, Nat.le_refl 0⟩) hg (fun s15 H locs hm2 h hg => ?_)
      have hm := hm.tn hm2
      refine lv_iconst (v := iI 0) hx hb dX8_common_34 (by decide) ?_
      refine lv_istore (i := 4) (lv' := [(4, .int (iI (0))), (3, .int (iI (0))), (0, .ref (ea E 0)), (1, .int (iI (a1))), (2, .int (iI (a2)))]) hx hb dX8_common_35 hl (by decide) rfl (fun ls hl => ?_)
      obtain ⟨kk, h⟩ := h
      exact J37  kk (0) (0) (s15) _ _ _ hg hm (lv_sub hl [2, 4, 1, 0] rfl) h
    · have h := h.2 c11
      refine lv_aload_n hx hb dX8_common_14 rfl (lv_at hl 0 rfl) ?_
      refine call_i (run_V (a := ea E 0) (As := []) (rest := []) ⟨hx, hb, hml, hown, hts⟩ (ctX8_bad l E  s8 _  h) (cwV 0 hts gX8_common_X8_bad rfl rfl rfl ⟨rfl, hdX8_bad⟩ ⟨Nat.le_of_ble_eq_true rfl, Nat.le_of_ble_eq_true rfl⟩) hK hN hg (recv_x (ci := 8) (C := RX8) (T := TX8) (N := 14) hg hK (by decide) rfl (by decide) rfl) rfl hl.1 rfl (cat_sum _ (by simp)) dX8_common_15 ⟨Nat.le_refl 0, Nat.le_refl 0⟩) hg (fun r19 s18 H locs hz20 hm2 h hg => ?_)
      have hm := hm.tn hm2
      exact ret_i hx hb hr hlocks hg hz20 hm h dX8_common_18
theorem hdX8_apart : yX8_apart.cls ≠ "java/lang/invoke/MethodHandle" ∧ yX8_apart.cls ≠ "java/lang/invoke/VarHandle" ∧ (parseMethodDescriptor yX8_apart.desc).map (fun d => d.parameters.length) = some 2 := by decide +kernel
set_option maxRecDepth 100000 in
set_option maxHeartbeats 4000000 in
theorem ctX8_apart (l : Launch) (E : Ev) (a1 : Int) (a2 : Int) (σ : SS) (Q : Int → SS → Prop) (ha1 : R32 a1) (ha2 : R32 a2) (h : wX8_apart a1 a2 σ Q) : Met l yX8_apart wsX8_apart ({ frames := 48, cells := 0, slots := 0, locals := 1057 } : Room) (Pc E σ [.ref (ea E 0), .int (iI (a1)), .int (iI (a2))]) (Qi E (sz σ) σ Q) 0 0 (Av E) := by
  rw [wX8_apart] at h
  refine Met.ofW (cc := cX8_apart) (maxL := 3) (ret := (some .int)) (by decide) rfl ?_
  intro p e s m args below meth c s₁ B hml hv
  obtain ⟨rfl, hH, hK, hN⟩ := hv
  have hx := B.exec
  have hb := B.bytes
  have hr := B.returns
  have hts := atoms_spec (ws := wsX8_apart) B.pre
  have hown : s.vm.findClass RX8 = some m.cls := findClass_of_methodNamed B.named
  have hlocks := B.notSynchronized
  have hg : GS E σ s s.heap [] := ⟨hH, va_S.rf⟩
  have hm : Mo (sz σ) σ σ := Mo.rf (Nat.le_refl _)
  have hl := ent (vs := [.ref (ea E 0), .int (iI (a1)), .int (iI (a2))]) (n := 3) (cats_x (cats_i (cats_i cats_nil))) (Nat.le_of_ble_eq_true rfl)
  rw [lg_entry_eq]
  generalize (lg_sl ([.ref (ea E 0), .int (iI (a1)), .int (iI (a2))]) ++ List.replicate (3 - (lg_sl ([.ref (ea E 0), .int (iI (a1)), .int (iI (a2))])).length) Slot.unset).toArray = ls at hl ⊢
  have hl : lv_has ls 3 [(0, .ref (ea E 0)), (1, .int (iI (a1))), (2, .int (iI (a2)))] := hl
  refine lv_iload_n hx hb dX8_apart_0 rfl (lv_at hl 1 rfl) ?_
  refine call_z (run_S (As := [.int (iI (a1))]) (rest := []) ⟨hx, hb, hml, hown, hts⟩ (ctX8_isMap l E a1 σ _ ha1 h) (va_cwS 1 hts gX8_apart_X8_isMap rfl rfl rfl hdX8_isMap ⟨Nat.le_of_ble_eq_true rfl, Nat.le_of_ble_eq_true rfl⟩) hK hN hg rfl hl.1 rfl (cat_sum _ (by simp)) dX8_apart_1 ⟨Nat.le_refl 0, Nat.le_refl 0⟩) hg (fun r2 s1 H locs hz3 hm2 h hg => ?_)
  have hm := hm.tn hm2
  refine k_eq (tgt := 23) hx hb dX8_apart_4 (by decide) (z_R hz3) (fun c4 => ?_) (fun c4 => ?_)
  · have h := h.1 c4
    refine lv_aload_n hx hb dX8_apart_23 rfl (lv_at hl 0 rfl) ?_
    refine call_i (run_V (a := ea E 0) (As := []) (rest := []) ⟨hx, hb, hml, hown, hts⟩ (ctX8_bad l E  s1 _  h) (cwV 0 hts gX8_apart_X8_bad rfl rfl rfl ⟨rfl, hdX8_bad⟩ ⟨Nat.le_of_ble_eq_true rfl, Nat.le_of_ble_eq_true rfl⟩) hK hN hg (recv_x (ci := 8) (C := RX8) (T := TX8) (N := 14) hg hK (by decide) rfl (by decide) rfl) rfl hl.1 rfl (cat_sum _ (by simp)) dX8_apart_24 ⟨Nat.le_refl 0, Nat.le_refl 0⟩) hg (fun r6 s5 H locs hz7 hm2 h hg => ?_)
    have hm := hm.tn hm2
    exact ret_i hx hb hr hlocks hg hz7 hm h dX8_apart_27
  · have h := h.2 c4
    refine lv_iload_n hx hb dX8_apart_7 rfl (lv_at hl 2 rfl) ?_
    refine call_z (run_S (As := [.int (iI (a2))]) (rest := []) ⟨hx, hb, hml, hown, hts⟩ (ctX8_isMap l E a2 s1 _ ha2 h) (va_cwS 1 hts gX8_apart_X8_isMap rfl rfl rfl hdX8_isMap ⟨Nat.le_of_ble_eq_true rfl, Nat.le_of_ble_eq_true rfl⟩) hK hN hg rfl hl.1 rfl (cat_sum _ (by simp)) dX8_apart_8 ⟨Nat.le_refl 0, Nat.le_refl 0⟩) hg (fun r9 s8 H locs hz10 hm2 h hg => ?_)
    have hm := hm.tn hm2
    refine k_eq (tgt := 23) hx hb dX8_apart_11 (by decide) (z_R hz10) (fun c11 => ?_) (fun c11 => ?_)
    · have h := h.1 c11
      refine lv_aload_n hx hb dX8_apart_23 rfl (lv_at hl 0 rfl) ?_
      refine call_i (run_V (a := ea E 0) (As := []) (rest := []) ⟨hx, hb, hml, hown, hts⟩ (ctX8_bad l E  s8 _  h) (cwV 0 hts gX8_apart_X8_bad rfl rfl rfl ⟨rfl, hdX8_bad⟩ ⟨Nat.le_of_ble_eq_true rfl, Nat.le_of_ble_eq_true rfl⟩) hK hN hg (recv_x (ci := 8) (C := RX8) (T := TX8) (N := 14) hg hK (by decide) rfl (by decide) rfl) rfl hl.1 rfl (cat_sum _ (by simp)) dX8_apart_24 ⟨Nat.le_refl 0, Nat.le_refl 0⟩) hg (fun r13 s12 H locs hz14 hm2 h hg => ?_)
      have hm := hm.tn hm2
      exact ret_i hx hb hr hlocks hg hz14 hm h dX8_apart_27
    · have h := h.2 c11
      refine lv_aload_n hx hb dX8_apart_14 rfl (lv_at hl 0 rfl) ?_
      refine lv_iload_n hx hb dX8_apart_15 rfl (lv_at hl 1 rfl) ?_
      refine lv_iload_n hx hb dX8_apart_16 rfl (lv_at hl 2 rfl) ?_
      refine call_i (run_V (a := ea E 0) (As := [.int (iI (a1)), .int (iI (a2))]) (rest := []) ⟨hx, hb, hml, hown, hts⟩ (ctX8_firstUnlikeKey l E a1 a2 s8 _ ha1 ha2 h) (cwV 2 hts gX8_apart_X8_firstUnlikeKey rfl rfl rfl ⟨rfl, hdX8_firstUnlikeKey⟩ ⟨Nat.le_of_ble_eq_true rfl, Nat.le_of_ble_eq_true rfl⟩) hK hN hg (recv_x (ci := 8) (C := RX8) (T := TX8) (N := 14) hg hK (by decide) rfl (by decide) rfl) rfl hl.1 rfl (cat_sum _ (by simp)) dX8_apart_17 ⟨Nat.le_refl 0, Nat.le_refl 0⟩) hg (fun r16 s15 H locs hz17 hm2 h hg => ?_)
      have hm := hm.tn hm2
      refine lv_goto (tgt := 27) hx hb dX8_apart_20 (by decide) ?_
      exact ret_i hx hb hr hlocks hg hz17 hm h dX8_apart_27
theorem hdX8_cut : yX8_cut.cls ≠ "java/lang/invoke/MethodHandle" ∧ yX8_cut.cls ≠ "java/lang/invoke/VarHandle" ∧ (parseMethodDescriptor yX8_cut.desc).map (fun d => d.parameters.length) = some 3 := by decide +kernel
set_option maxRecDepth 100000 in
set_option maxHeartbeats 4000000 in
theorem ctX8_cut (l : Launch) (E : Ev) (tp : Nat) (a1 : Int) (a2 : Int) (a3 : Int) (σ : SS) (Q : Int → SS → Prop) (ha1 : R32 a1) (ha2 : R32 a2) (ha3 : R32 a3) (ht : sz σ ≤ tp) (h : wX8_cut tp a1 a2 a3 σ Q) : Met l yX8_cut wsX8_cut ({ frames := 94, cells := tp - sz σ, slots := 9 * (tp - sz σ), locals := 2408 } : Room) (Pc E σ [.ref (ea E 0), .int (iI (a1)), .int (iI (a2)), .int (iI (a3))]) (Qi E tp σ Q) (tp - sz σ) (9 * (tp - sz σ)) (Av E) := by
  rw [wX8_cut] at h
  refine Met.ofW (cc := cX8_cut) (maxL := 5) (ret := (some .int)) (by decide) rfl ?_
  intro p e s m args below meth c s₁ B hml hv
  obtain ⟨rfl, hH, hK, hN⟩ := hv
  have hx := B.exec
  have hb := B.bytes
  have hr := B.returns
  have hts := atoms_spec (ws := wsX8_cut) B.pre
  have hown : s.vm.findClass RX8 = some m.cls := findClass_of_methodNamed B.named
  have hlocks := B.notSynchronized
  have hg : GS E σ s s.heap [] := ⟨hH, va_S.rf⟩
  have hm : Mo tp σ σ := Mo.rf ht
  have hl := ent (vs := [.ref (ea E 0), .int (iI (a1)), .int (iI (a2)), .int (iI (a3))]) (n := 5) (cats_x (cats_i (cats_i (cats_i cats_nil)))) (Nat.le_of_ble_eq_true rfl)
  rw [lg_entry_eq]
  generalize (lg_sl ([.ref (ea E 0), .int (iI (a1)), .int (iI (a2)), .int (iI (a3))]) ++ List.replicate (5 - (lg_sl ([.ref (ea E 0), .int (iI (a1)), .int (iI (a2)), .int (iI (a3))])).length) Slot.unset).toArray = ls at hl ⊢
  have hl : lv_has ls 5 [(0, .ref (ea E 0)), (1, .int (iI (a1))), (2, .int (iI (a2))), (3, .int (iI (a3)))] := hl
  refine W_narrow hg hH (show sz σ ≤ sz σ + (sz σ - sz σ) by omega) (show 9 * (sz σ - sz σ) ≤ 9 * (sz σ - sz σ) from Nat.le_refl _) ?_
  refine lv_iload_n hx hb dX8_cut_0 rfl (lv_at hl 1 rfl) ?_
  refine call_z (run_S (As := [.int (iI (a1))]) (rest := []) ⟨hx, hb, hml, hown, hts⟩ (ctX8_isMap l E a1 σ _ ha1 h) (va_cwS 1 hts gX8_cut_X8_isMap rfl rfl rfl hdX8_isMap ⟨Nat.le_of_ble_eq_true rfl, Nat.le_of_ble_eq_true rfl⟩) hK hN hg rfl hl.1 rfl (cat_sum _ (by simp)) dX8_cut_1 (show (sz σ - sz σ) + 0 ≤ tp - sz σ ∧ 9 * (sz σ - sz σ) + 0 ≤ 9 * (tp - sz σ) by have q1 := hm.2.1; have q2 := hm.2.2; omega)) hg (fun r2 s1 H locs hz3 hm2 h hg => ?_)
  have hm := hm.tn hm2
  refine W_narrow hg hH (show sz s1 ≤ sz σ + (sz s1 - sz σ) by have q1 := hm.2.1; omega) (Nat.le_refl _) ?_
  refine k_eq (tgt := 26) hx hb dX8_cut_4 (by decide) (z_R hz3) (fun c4 => ?_) (fun c4 => ?_)
  · have h := h.1 c4
    refine lv_aload_n hx hb dX8_cut_26 rfl (lv_at hl 0 rfl) ?_
    refine call_i (run_V (a := ea E 0) (As := []) (rest := []) ⟨hx, hb, hml, hown, hts⟩ (ctX8_bad l E  s1 _  h) (cwV 0 hts gX8_cut_X8_bad rfl rfl rfl ⟨rfl, hdX8_bad⟩ ⟨Nat.le_of_ble_eq_true rfl, Nat.le_of_ble_eq_true rfl⟩) hK hN hg (recv_x (ci := 8) (C := RX8) (T := TX8) (N := 14) hg hK (by decide) rfl (by decide) rfl) rfl hl.1 rfl (cat_sum _ (by simp)) dX8_cut_27 (show (sz s1 - sz σ) + 0 ≤ tp - sz σ ∧ 9 * (sz s1 - sz σ) + 0 ≤ 9 * (tp - sz σ) by have q1 := hm.2.1; have q2 := hm.2.2; omega)) hg (fun r6 s5 H locs hz7 hm2 h hg => ?_)
    have hm := hm.tn hm2
    refine W_narrow hg hH (show sz s5 ≤ sz σ + (sz s5 - sz σ) by have q1 := hm.2.1; omega) (Nat.le_refl _) ?_
    refine W.widen (k := tp - sz σ) (n := 9 * (tp - sz σ)) (show sz s5 - sz σ ≤ _ by have q1 := hm.2.2; omega) (show 9 * (sz s5 - sz σ) ≤ _ by have q1 := hm.2.2; omega) ?_
    exact ret_i hx hb hr hlocks hg hz7 hm h dX8_cut_30
  · have h := h.2 c4
    refine lv_iload_n hx hb dX8_cut_7 rfl (lv_at hl 2 rfl) ?_
    refine call_z (run_S (As := [.int (iI (a2))]) (rest := []) ⟨hx, hb, hml, hown, hts⟩ (ctX8_isKey l E a2 s1 _ ha2 h) (va_cwS 1 hts gX8_cut_X8_isKey rfl rfl rfl hdX8_isKey ⟨Nat.le_of_ble_eq_true rfl, Nat.le_of_ble_eq_true rfl⟩) hK hN hg rfl hl.1 rfl (cat_sum _ (by simp)) dX8_cut_8 (show (sz s1 - sz σ) + 0 ≤ tp - sz σ ∧ 9 * (sz s1 - sz σ) + 0 ≤ 9 * (tp - sz σ) by have q1 := hm.2.1; have q2 := hm.2.2; omega)) hg (fun r9 s8 H locs hz10 hm2 h hg => ?_)
    have hm := hm.tn hm2
    refine W_narrow hg hH (show sz s8 ≤ sz σ + (sz s8 - sz σ) by have q1 := hm.2.1; omega) (Nat.le_refl _) ?_
    refine k_eq (tgt := 26) hx hb dX8_cut_11 (by decide) (z_R hz10) (fun c11 => ?_) (fun c11 => ?_)
    · have h := h.1 c11
      refine lv_aload_n hx hb dX8_cut_26 rfl (lv_at hl 0 rfl) ?_
      refine call_i (run_V (a := ea E 0) (As := []) (rest := []) ⟨hx, hb, hml, hown, hts⟩ (ctX8_bad l E  s8 _  h) (cwV 0 hts gX8_cut_X8_bad rfl rfl rfl ⟨rfl, hdX8_bad⟩ ⟨Nat.le_of_ble_eq_true rfl, Nat.le_of_ble_eq_true rfl⟩) hK hN hg (recv_x (ci := 8) (C := RX8) (T := TX8) (N := 14) hg hK (by decide) rfl (by decide) rfl) rfl hl.1 rfl (cat_sum _ (by simp)) dX8_cut_27 (show (sz s8 - sz σ) + 0 ≤ tp - sz σ ∧ 9 * (sz s8 - sz σ) + 0 ≤ 9 * (tp - sz σ) by have q1 := hm.2.1; have q2 := hm.2.2; omega)) hg (fun r13 s12 H locs hz14 hm2 h hg => ?_)
      have hm := hm.tn hm2
      refine W_narrow hg hH (show sz s12 ≤ sz σ + (sz s12 - sz σ) by have q1 := hm.2.1; omega) (Nat.le_refl _) ?_
      refine W.widen (k := tp - sz σ) (n := 9 * (tp - sz σ)) (show sz s12 - sz σ ≤ _ by have q1 := hm.2.2; omega) (show 9 * (sz s12 - sz σ) ≤ _ by have q1 := hm.2.2; omega) ?_
      exact ret_i hx hb hr hlocks hg hz14 hm h dX8_cut_30
    · have h := h.2 c11
      refine lv_iload_n hx hb dX8_cut_14 rfl (lv_at hl 3 rfl) ?_
      refine call_z (run_S (As := [.int (iI (a3))]) (rest := []) ⟨hx, hb, hml, hown, hts⟩ (ctX8_isMap l E a3 s8 _ ha3 h) (va_cwS 1 hts gX8_cut_X8_isMap rfl rfl rfl hdX8_isMap ⟨Nat.le_of_ble_eq_true rfl, Nat.le_of_ble_eq_true rfl⟩) hK hN hg rfl hl.1 rfl (cat_sum _ (by simp)) dX8_cut_15 (show (sz s8 - sz σ) + 0 ≤ tp - sz σ ∧ 9 * (sz s8 - sz σ) + 0 ≤ 9 * (tp - sz σ) by have q1 := hm.2.1; have q2 := hm.2.2; omega)) hg (fun r16 s15 H locs hz17 hm2 h hg => ?_)
      have hm := hm.tn hm2
      refine W_narrow hg hH (show sz s15 ≤ sz σ + (sz s15 - sz σ) by have q1 := hm.2.1; omega) (Nat.le_refl _) ?_
      refine k_eq (tgt := 26) hx hb dX8_cut_18 (by decide) (z_R hz17) (fun c18 => ?_) (fun c18 => ?_)
      · have h := h.1 c18
        refine lv_aload_n hx hb dX8_cut_26 rfl (lv_at hl 0 rfl) ?_
        refine call_i (run_V (a := ea E 0) (As := []) (rest := []) ⟨hx, hb, hml, hown, hts⟩ (ctX8_bad l E  s15 _  h) (cwV 0 hts gX8_cut_X8_bad rfl rfl rfl ⟨rfl, hdX8_bad⟩ ⟨Nat.le_of_ble_eq_true rfl, Nat.le_of_ble_eq_true rfl⟩) hK hN hg (recv_x (ci := 8) (C := RX8) (T := TX8) (N := 14) hg hK (by decide) rfl (by decide) rfl) rfl hl.1 rfl (cat_sum _ (by simp)) dX8_cut_27 (show (sz s15 - sz σ) + 0 ≤ tp - sz σ ∧ 9 * (sz s15 - sz σ) + 0 ≤ 9 * (tp - sz σ) by have q1 := hm.2.1; have q2 := hm.2.2; omega)) hg (fun r20 s19 H locs hz21 hm2 h hg => ?_)
        have hm := hm.tn hm2
        refine W_narrow hg hH (show sz s19 ≤ sz σ + (sz s19 - sz σ) by have q1 := hm.2.1; omega) (Nat.le_refl _) ?_
        refine W.widen (k := tp - sz σ) (n := 9 * (tp - sz σ)) (show sz s19 - sz σ ≤ _ by have q1 := hm.2.2; omega) (show 9 * (sz s19 - sz σ) ≤ _ by have q1 := hm.2.2; omega) ?_
        exact ret_i hx hb hr hlocks hg hz21 hm h dX8_cut_30
      · have h := h.2 c18
        refine lv_iload_n hx hb dX8_cut_21 rfl (lv_at hl 1 rfl) ?_
        refine lv_iload_n hx hb dX8_cut_22 rfl (lv_at hl 3 rfl) ?_
        refine j_ne (tgt := 31) hx hb dX8_cut_23 (by decide) ha1 ha3 (fun c22 => ?_) (fun c22 => ?_)
        · have h := h.1 c22
          refine lv_aload_n hx hb dX8_cut_31 rfl (lv_at hl 0 rfl) ?_
          refine call_v (run_V (a := ea E 0) (As := []) (rest := []) ⟨hx, hb, hml, hown, hts⟩ (ctX8_startChange l E  s15 _  h) (cwV 0 hts gX8_cut_X8_startChange rfl rfl rfl ⟨rfl, hdX8_startChange⟩ ⟨Nat.le_of_ble_eq_true rfl, Nat.le_of_ble_eq_true rfl⟩) hK hN hg (recv_x (ci := 8) (C := RX8) (T := TX8) (N := 14) hg hK (by decide) rfl (by decide) rfl) rfl hl.1 rfl (cat_sum _ (by simp)) dX8_cut_32 (show (sz s15 - sz σ) + 0 ≤ tp - sz σ ∧ 9 * (sz s15 - sz σ) + 0 ≤ 9 * (tp - sz σ) by have q1 := hm.2.1; have q2 := hm.2.2; omega)) hg (fun s23 H locs hm2 h hg => ?_)
          have hm := hm.tn hm2
          refine W_narrow hg hH (show sz s23 ≤ sz σ + (sz s23 - sz σ) by have q1 := hm.2.1; omega) (Nat.le_refl _) ?_
          refine lv_aload_n hx hb dX8_cut_35 rfl (lv_at hl 0 rfl) ?_
          refine q_getx (ci := 8) (C := RX8) (T := TX8) (N := 14) (j := 4) hx hb hts (fun _ h9 => List.mem_cons_of_mem _ (List.mem_append_left _ (List.mem_append_left _ (List.mem_append_left _ (List.mem_append_left _ (List.mem_append_right _ h9)))))) hown hK hg 0 (by decide) rfl rfl (by decide) rfl 3 (by decide) (hts (.fieldLink RX8 34 "JoinMaps" "versions" "LJoinMaps$Versions;") (List.mem_cons_of_mem _ (List.mem_append_left _ (List.mem_append_left _ (List.mem_append_left _ (List.mem_append_left _ (List.mem_append_left _ (List.mem_append_left _ (List.mem_of_getElem? (i := 0) rfl))))))))) rfl rfl rfl dX8_cut_36 ?_
          refine lv_aload_n hx hb dX8_cut_39 rfl (lv_at hl 0 rfl) ?_
          refine q_getx (ci := 8) (C := RX8) (T := TX8) (N := 14) (j := 3) hx hb hts (fun _ h9 => List.mem_cons_of_mem _ (List.mem_append_left _ (List.mem_append_left _ (List.mem_append_left _ (List.mem_append_left _ (List.mem_append_right _ h9)))))) hown hK hg 0 (by decide) rfl rfl (by decide) rfl 2 (by decide) (hts (.fieldLink RX8 27 "JoinMaps" "maps" "[LJoinMaps$Node;") (List.mem_cons_of_mem _ (List.mem_append_left _ (List.mem_append_left _ (List.mem_append_left _ (List.mem_append_left _ (List.mem_append_left _ (List.mem_append_left _ (List.mem_of_getElem? (i := 1) rfl))))))))) rfl rfl rfl dX8_cut_40 ?_
          refine call_v (run_V (a := ea E 4) (As := [.ref (ea E 3)]) (rest := []) ⟨hx, hb, hml, hown, hts⟩ (ctX7_leave l E  s23 _  h) (cwV 1 hts gX8_cut_X7_leave rfl rfl rfl ⟨rfl, hdX7_leave⟩ ⟨Nat.le_of_ble_eq_true rfl, Nat.le_of_ble_eq_true rfl⟩) hK hN hg (recv_x (ci := 7) (C := RX7) (T := TX7) (N := 3) hg hK (by decide) rfl (by decide) rfl) rfl hl.1 rfl (cat_sum _ (by simp)) dX8_cut_43 (show (sz s23 - sz σ) + 0 ≤ tp - sz σ ∧ 9 * (sz s23 - sz σ) + 0 ≤ 9 * (tp - sz σ) by have q1 := hm.2.1; have q2 := hm.2.2; omega)) hg (fun s26 H locs hm2 h hg => ?_)
          have hm := hm.tn hm2
          refine W_narrow hg hH (show sz s26 ≤ sz σ + (sz s26 - sz σ) by have q1 := hm.2.1; omega) (Nat.le_refl _) ?_
          refine lv_aload_n hx hb dX8_cut_46 rfl (lv_at hl 0 rfl) ?_
          refine q_getx (ci := 8) (C := RX8) (T := TX8) (N := 14) (j := 3) hx hb hts (fun _ h9 => List.mem_cons_of_mem _ (List.mem_append_left _ (List.mem_append_left _ (List.mem_append_left _ (List.mem_append_left _ (List.mem_append_right _ h9)))))) hown hK hg 0 (by decide) rfl rfl (by decide) rfl 2 (by decide) (hts (.fieldLink RX8 27 "JoinMaps" "maps" "[LJoinMaps$Node;") (List.mem_cons_of_mem _ (List.mem_append_left _ (List.mem_append_left _ (List.mem_append_left _ (List.mem_append_left _ (List.mem_append_left _ (List.mem_append_left _ (List.mem_of_getElem? (i := 1) rfl))))))))) rfl rfl rfl dX8_cut_47 ?_
          refine lv_iload_n hx hb dX8_cut_50 rfl (lv_at hl 1 rfl) ?_
          obtain ⟨hP29, hP30, h⟩ := h
          refine q_aald (N := 6) hx hb hK hg 3 (by decide) rfl rfl hP29 hP30 (by decide) dX8_cut_51 ?_
          have hS31 : ∀ b, (sf s26 3 (a1 : Int).toNat) = some b → sS s26 b := fun b h0 => GS_F hg h0
          refine q_astore (i := 4) (lv' := [(4, va_rf ((sf s26 3 (a1 : Int).toNat))), (0, .ref (ea E 0)), (1, .int (iI (a1))), (2, .int (iI (a2))), (3, .int (iI (a3)))]) hx hb dX8_cut_52 hl (by decide) (by simp [List.filter_cons, rf_cat, ct_i, ct_l, ct_x]) (fun ls hl => ?_)
          refine lv_aload_n hx hb dX8_cut_54 rfl (lv_at hl 1 rfl) ?_
          refine q_getx (ci := 8) (C := RX8) (T := TX8) (N := 14) (j := 3) hx hb hts (fun _ h9 => List.mem_cons_of_mem _ (List.mem_append_left _ (List.mem_append_left _ (List.mem_append_left _ (List.mem_append_left _ (List.mem_append_right _ h9)))))) hown hK hg 0 (by decide) rfl rfl (by decide) rfl 2 (by decide) (hts (.fieldLink RX8 27 "JoinMaps" "maps" "[LJoinMaps$Node;") (List.mem_cons_of_mem _ (List.mem_append_left _ (List.mem_append_left _ (List.mem_append_left _ (List.mem_append_left _ (List.mem_append_left _ (List.mem_append_left _ (List.mem_of_getElem? (i := 1) rfl))))))))) rfl rfl rfl dX8_cut_55 ?_
          refine lv_iload_n hx hb dX8_cut_58 rfl (lv_at hl 2 rfl) ?_
          refine lv_aload_n hx hb dX8_cut_59 rfl (lv_at hl 1 rfl) ?_
          refine q_getx (ci := 8) (C := RX8) (T := TX8) (N := 14) (j := 1) hx hb hts (fun _ h9 => List.mem_cons_of_mem _ (List.mem_append_left _ (List.mem_append_left _ (List.mem_append_left _ (List.mem_append_left _ (List.mem_append_right _ h9)))))) hown hK hg 0 (by decide) rfl rfl (by decide) rfl 0 (by decide) (hts (.fieldLink RX8 10 "JoinMaps" "grove" "LJoinMaps$Grove;") (List.mem_cons_of_mem _ (List.mem_append_left _ (List.mem_append_left _ (List.mem_append_left _ (List.mem_append_left _ (List.mem_append_left _ (List.mem_append_left _ (List.mem_of_getElem? (i := 2) rfl))))))))) rfl rfl rfl dX8_cut_60 ?_
          refine q_aload hx hb dX8_cut_63 (lv_at hl 0 rfl) ?_
          refine lv_iload_n hx hb dX8_cut_65 rfl (lv_at hl 3 rfl) ?_
          refine lv_iconst (v := iI 0) hx hb dX8_cut_66 (by decide) ?_
          refine call_r (run_V (a := ea E 1) (As := [va_rf ((sf s26 3 (a1 : Int).toNat)), .int (iI (a2)), .int (iI (0))]) (rest := [.int (iI (a1)), .ref (ea E 3)]) ⟨hx, hb, hml, hown, hts⟩ (ctX2_below l E 44 tp (sf s26 3 (a1 : Int).toNat) a2 0 s26 _ hS31 ha2 (by decide) hm.2.2 h) (cwV 3 hts gX8_cut_X2_below rfl rfl rfl ⟨rfl, hdX2_below⟩ ⟨Nat.le_of_ble_eq_true rfl, Nat.le_of_ble_eq_true rfl⟩) hK hN hg (recv_x (ci := 2) (C := RX2) (T := TX2) (N := 4) hg hK (by decide) rfl (by decide) rfl) rfl hl.1 rfl (cat_sum _ (by simp)) dX8_cut_67 (show (sz s26 - sz σ) + (tp - sz s26) ≤ tp - sz σ ∧ 9 * (sz s26 - sz σ) + 9 * (tp - sz s26) ≤ 9 * (tp - sz σ) by have q1 := hm.2.1; have q2 := hm.2.2; omega)) hg (fun r33 s32 H locs hz34 hm2 h hg => ?_)
          have hS35 : ∀ b, (sf s26 3 (a1 : Int).toNat) = some b → sS s32 b := (fun b h0 => hm2.1 b (hS31 b h0))
          have hm := hm.ta hm2
          refine W_narrow hg hH (show sz s32 ≤ sz σ + (sz s32 - sz σ) by have q1 := hm.2.1; omega) (Nat.le_refl _) ?_
          obtain ⟨hP36, hP37, h⟩ := h
          refine q_aast (N := 6) hx hb hK hg 3 (by decide) rfl rfl hP36 hP37 (by decide) hz34 dX8_cut_70 (fun H locs hg => ?_)
          refine lv_aload_n hx hb dX8_cut_71 rfl (lv_at hl 1 rfl) ?_
          refine q_getx (ci := 8) (C := RX8) (T := TX8) (N := 14) (j := 3) hx hb hts (fun _ h9 => List.mem_cons_of_mem _ (List.mem_append_left _ (List.mem_append_left _ (List.mem_append_left _ (List.mem_append_left _ (List.mem_append_right _ h9)))))) hown hK hg 0 (by decide) rfl rfl (by decide) rfl 2 (by decide) (hts (.fieldLink RX8 27 "JoinMaps" "maps" "[LJoinMaps$Node;") (List.mem_cons_of_mem _ (List.mem_append_left _ (List.mem_append_left _ (List.mem_append_left _ (List.mem_append_left _ (List.mem_append_left _ (List.mem_append_left _ (List.mem_of_getElem? (i := 1) rfl))))))))) rfl rfl rfl dX8_cut_72 ?_
          refine lv_iload_n hx hb dX8_cut_75 rfl (lv_at hl 4 rfl) ?_
          refine lv_aload_n hx hb dX8_cut_76 rfl (lv_at hl 1 rfl) ?_
          refine q_getx (ci := 8) (C := RX8) (T := TX8) (N := 14) (j := 1) hx hb hts (fun _ h9 => List.mem_cons_of_mem _ (List.mem_append_left _ (List.mem_append_left _ (List.mem_append_left _ (List.mem_append_left _ (List.mem_append_right _ h9)))))) hown hK hg 0 (by decide) rfl rfl (by decide) rfl 0 (by decide) (hts (.fieldLink RX8 10 "JoinMaps" "grove" "LJoinMaps$Grove;") (List.mem_cons_of_mem _ (List.mem_append_left _ (List.mem_append_left _ (List.mem_append_left _ (List.mem_append_left _ (List.mem_append_left _ (List.mem_append_left _ (List.mem_of_getElem? (i := 2) rfl))))))))) rfl rfl rfl dX8_cut_77 ?_
          refine q_aload hx hb dX8_cut_80 (lv_at hl 0 rfl) ?_
          refine lv_iload_n hx hb dX8_cut_82 rfl (lv_at hl 3 rfl) ?_
          refine lv_iconst (v := iI 1) hx hb dX8_cut_83 (by decide) ?_
          refine q_isub hx hb dX8_cut_84 ?_
          refine lv_iconst (v := iI 0) hx hb dX8_cut_85 (by decide) ?_
          obtain ⟨hR38, h⟩ := h
          refine call_r (run_V (a := ea E 1) (As := [va_rf ((sf s26 3 (a1 : Int).toNat)), .int (iI ((a2 - 1))), .int (iI (0))]) (rest := [.int (iI (a3)), .ref (ea E 3)]) ⟨hx, hb, hml, hown, hts⟩ (ctX2_above l E 44 tp (sf s26 3 (a1 : Int).toNat) (a2 - 1) 0 (uf s32 3 (a1 : Int).toNat (r33)) _ hS35 hR38 (by decide) hm.2.2 h) (cwV 3 hts gX8_cut_X2_above rfl rfl rfl ⟨rfl, hdX2_above⟩ ⟨Nat.le_of_ble_eq_true rfl, Nat.le_of_ble_eq_true rfl⟩) hK hN hg (recv_x (ci := 2) (C := RX2) (T := TX2) (N := 4) hg hK (by decide) rfl (by decide) rfl) rfl hl.1 rfl (cat_sum _ (by simp)) dX8_cut_86 (show (sz s32 - sz σ) + (tp - sz s32) ≤ tp - sz σ ∧ 9 * (sz s32 - sz σ) + 9 * (tp - sz s32) ≤ 9 * (tp - sz σ) by have q1 := hm.2.1; have q2 := hm.2.2; omega)) hg (fun r40 s39 H locs hz41 hm2 h hg => ?_)
          have hS42 : ∀ b, (sf s26 3 (a1 : Int).toNat) = some b → sS s39 b := (fun b h0 => hm2.1 b (hS35 b h0))
          have hm := hm.ta hm2
          refine W_narrow hg hH (show sz s39 ≤ sz σ + (sz s39 - sz σ) by have q1 := hm.2.1; omega) (Nat.le_refl _) ?_
          obtain ⟨hP43, hP44, h⟩ := h
          refine q_aast (N := 6) hx hb hK hg 3 (by decide) rfl rfl hP43 hP44 (by decide) hz41 dX8_cut_89 (fun H locs hg => ?_)
          refine lv_aload_n hx hb dX8_cut_90 rfl (lv_at hl 1 rfl) ?_
          refine q_getx (ci := 8) (C := RX8) (T := TX8) (N := 14) (j := 3) hx hb hts (fun _ h9 => List.mem_cons_of_mem _ (List.mem_append_left _ (List.mem_append_left _ (List.mem_append_left _ (List.mem_append_left _ (List.mem_append_right _ h9)))))) hown hK hg 0 (by decide) rfl rfl (by decide) rfl 2 (by decide) (hts (.fieldLink RX8 27 "JoinMaps" "maps" "[LJoinMaps$Node;") (List.mem_cons_of_mem _ (List.mem_append_left _ (List.mem_append_left _ (List.mem_append_left _ (List.mem_append_left _ (List.mem_append_left _ (List.mem_append_left _ (List.mem_of_getElem? (i := 1) rfl))))))))) rfl rfl rfl dX8_cut_91 ?_
          refine lv_iload_n hx hb dX8_cut_94 rfl (lv_at hl 4 rfl) ?_
          obtain ⟨hP45, hP46, h⟩ := h
          refine q_aald (N := 6) hx hb hK hg 3 (by decide) rfl rfl hP45 hP46 (by decide) dX8_cut_95 ?_
          have hS47 : ∀ b, (sf (uf s39 3 (a3 : Int).toNat (r40)) 3 (a3 : Int).toNat) = some b → sS (uf s39 3 (a3 : Int).toNat (r40)) b := fun b h0 => GS_F hg h0
          refine call_i (run_S (As := [va_rf ((sf (uf s39 3 (a3 : Int).toNat (r40)) 3 (a3 : Int).toNat))]) (rest := []) ⟨hx, hb, hml, hown, hts⟩ (ctX3_countOf l E (sf (uf s39 3 (a3 : Int).toNat (r40)) 3 (a3 : Int).toNat) (uf s39 3 (a3 : Int).toNat (r40)) _ hS47 h) (va_cwS 1 hts gX8_cut_X3_countOf rfl rfl rfl hdX3_countOf ⟨Nat.le_of_ble_eq_true rfl, Nat.le_of_ble_eq_true rfl⟩) hK hN hg rfl hl.1 rfl (cat_sum _ (by simp)) dX8_cut_96 (show (sz s39 - sz σ) + 0 ≤ tp - sz σ ∧ 9 * (sz s39 - sz σ) + 0 ≤ 9 * (tp - sz σ) by have q1 := hm.2.1; have q2 := hm.2.2; omega)) hg (fun r49 s48 H locs hz50 hm2 h hg => ?_)
          have hS51 : ∀ b, (sf s26 3 (a1 : Int).toNat) = some b → sS s48 b := (fun b h0 => hm2.1 b (hS42 b h0))
          have hm := hm.tn hm2
          refine W_narrow hg hH (show sz s48 ≤ sz σ + (sz s48 - sz σ) by have q1 := hm.2.1; omega) (Nat.le_refl _) ?_
          refine W.widen (k := tp - sz σ) (n := 9 * (tp - sz σ)) (show sz s48 - sz σ ≤ _ by have q1 := hm.2.2; omega) (show 9 * (sz s48 - sz σ) ≤ _ by have q1 := hm.2.2; omega) ?_
          exact ret_i hx hb hr hlocks hg hz50 hm h dX8_cut_99
        · have h := h.2 c22
          refine lv_aload_n hx hb dX8_cut_26 rfl (lv_at hl 0 rfl) ?_
          refine call_i (run_V (a := ea E 0) (As := []) (rest := []) ⟨hx, hb, hml, hown, hts⟩ (ctX8_bad l E  s15 _  h) (cwV 0 hts gX8_cut_X8_bad rfl rfl rfl ⟨rfl, hdX8_bad⟩ ⟨Nat.le_of_ble_eq_true rfl, Nat.le_of_ble_eq_true rfl⟩) hK hN hg (recv_x (ci := 8) (C := RX8) (T := TX8) (N := 14) hg hK (by decide) rfl (by decide) rfl) rfl hl.1 rfl (cat_sum _ (by simp)) dX8_cut_27 (show (sz s15 - sz σ) + 0 ≤ tp - sz σ ∧ 9 * (sz s15 - sz σ) + 0 ≤ 9 * (tp - sz σ) by have q1 := hm.2.1; have q2 := hm.2.2; omega)) hg (fun r53 s52 H locs hz54 hm2 h hg => ?_)
          have hm := hm.tn hm2
          refine W_narrow hg hH (show sz s52 ≤ sz σ + (sz s52 - sz σ) by have q1 := hm.2.1; omega) (Nat.le_refl _) ?_
          refine W.widen (k := tp - sz σ) (n := 9 * (tp - sz σ)) (show sz s52 - sz σ ≤ _ by have q1 := hm.2.2; omega) (show 9 * (sz s52 - sz σ) ≤ _ by have q1 := hm.2.2; omega) ?_
          exact ret_i hx hb hr hlocks hg hz54 hm h dX8_cut_30
theorem hdX8_glue : yX8_glue.cls ≠ "java/lang/invoke/MethodHandle" ∧ yX8_glue.cls ≠ "java/lang/invoke/VarHandle" ∧ (parseMethodDescriptor yX8_glue.desc).map (fun d => d.parameters.length) = some 2 := by decide +kernel
set_option maxRecDepth 100000 in
set_option maxHeartbeats 4000000 in
theorem ctX8_glue (l : Launch) (E : Ev) (tp : Nat) (a1 : Int) (a2 : Int) (σ : SS) (Q : Int → SS → Prop) (ha1 : R32 a1) (ha2 : R32 a2) (ht : sz σ ≤ tp) (h : wX8_glue tp a1 a2 σ Q) : Met l yX8_glue wsX8_glue ({ frames := 95, cells := tp - sz σ, slots := 9 * (tp - sz σ), locals := 2431 } : Room) (Pc E σ [.ref (ea E 0), .int (iI (a1)), .int (iI (a2))]) (Qi E tp σ Q) (tp - sz σ) (9 * (tp - sz σ)) (Av E) := by
  rw [wX8_glue] at h
  refine Met.ofW (cc := cX8_glue) (maxL := 5) (ret := (some .int)) (by decide) rfl ?_
  intro p e s m args below meth c s₁ B hml hv
  obtain ⟨rfl, hH, hK, hN⟩ := hv
  have hx := B.exec
  have hb := B.bytes
  have hr := B.returns
  have hts := atoms_spec (ws := wsX8_glue) B.pre
  have hown : s.vm.findClass RX8 = some m.cls := findClass_of_methodNamed B.named
  have hlocks := B.notSynchronized
  have hg : GS E σ s s.heap [] := ⟨hH, va_S.rf⟩
  have hm : Mo tp σ σ := Mo.rf ht
  have hl := ent (vs := [.ref (ea E 0), .int (iI (a1)), .int (iI (a2))]) (n := 5) (cats_x (cats_i (cats_i cats_nil))) (Nat.le_of_ble_eq_true rfl)
  rw [lg_entry_eq]
  generalize (lg_sl ([.ref (ea E 0), .int (iI (a1)), .int (iI (a2))]) ++ List.replicate (5 - (lg_sl ([.ref (ea E 0), .int (iI (a1)), .int (iI (a2))])).length) Slot.unset).toArray = ls at hl ⊢
  have hl : lv_has ls 5 [(0, .ref (ea E 0)), (1, .int (iI (a1))), (2, .int (iI (a2)))] := hl
  refine W_narrow hg hH (show sz σ ≤ sz σ + (sz σ - sz σ) by omega) (show 9 * (sz σ - sz σ) ≤ 9 * (sz σ - sz σ) from Nat.le_refl _) ?_
  have J84 : ∀ (v3 : Int) (v4 : Int) (sL : SS) (H : Heap) (locs : List Loc) (ls : Array Slot), GS E sL s H locs → Mo tp σ sL → lv_has ls 5 [(0, .ref (ea E 0)), (1, .int (iI (a1))), (2, .int (iI (a2))), (3, .int (iI (v3))), (4, .int (iI (v4)))] → wX8_glue_L84 tp a1 a2 Q  v3 v4 sL → W p l e (headSpec wsX8_glue ({ frames := 95, cells := tp - sz σ, slots := 9 * (tp - sz σ), locals := 2431 } : Room)).room s m (List.toArray [.ref (ea E 0), .int (iI (a1)), .int (iI (a2))]) below meth c H locs (sz sL - sz σ) (9 * (sz sL - sz σ)) (MQ below (Qi E tp σ Q) (List.toArray [.ref (ea E 0), .int (iI (a1)), .int (iI (a2))]) s (tp - sz σ) (9 * (tp - sz σ)) (Av E)) (F0 m 84 ls []) := by
    intro v3 v4 sL H locs ls hg hm hl h
    rw [wX8_glue_L84] at h
    refine lv_iload_n hx hb dX8_glue_84 rfl (lv_at hl 3 rfl) ?_
    refine lv_iload hx hb dX8_glue_85 (lv_at hl 4 rfl) ?_
    refine q_iadd hx hb dX8_glue_87 ?_
    refine lv_sipush (v := iI 200) hx hb dX8_glue_88 (by decide) ?_
    obtain ⟨hR50, h⟩ := h
    refine j_le (tgt := 99) hx hb dX8_glue_91 (by decide) hR50 (by decide) (fun c51 => ?_) (fun c51 => ?_)
    · have h := h.1 c51
      refine lv_aload_n hx hb dX8_glue_99 rfl (lv_at hl 0 rfl) ?_
      refine call_v (run_V (a := ea E 0) (As := []) (rest := []) ⟨hx, hb, hml, hown, hts⟩ (ctX8_startChange l E  sL _  h) (cwV 0 hts gX8_glue_X8_startChange rfl rfl rfl ⟨rfl, hdX8_startChange⟩ ⟨Nat.le_of_ble_eq_true rfl, Nat.le_of_ble_eq_true rfl⟩) hK hN hg (recv_x (ci := 8) (C := RX8) (T := TX8) (N := 14) hg hK (by decide) rfl (by decide) rfl) rfl hl.1 rfl (cat_sum _ (by simp)) dX8_glue_100 (show (sz sL - sz σ) + 0 ≤ tp - sz σ ∧ 9 * (sz sL - sz σ) + 0 ≤ 9 * (tp - sz σ) by have q1 := hm.2.1; have q2 := hm.2.2; omega)) hg (fun s52 H locs hm2 h hg => ?_)
      have hm := hm.tn hm2
      refine W_narrow hg hH (show sz s52 ≤ sz σ + (sz s52 - sz σ) by have q1 := hm.2.1; omega) (Nat.le_refl _) ?_
      refine lv_aload_n hx hb dX8_glue_103 rfl (lv_at hl 0 rfl) ?_
      refine lv_iload_n hx hb dX8_glue_104 rfl (lv_at hl 1 rfl) ?_
      refine lv_aload_n hx hb dX8_glue_105 rfl (lv_at hl 0 rfl) ?_
      refine q_getx (ci := 8) (C := RX8) (T := TX8) (N := 14) (j := 1) hx hb hts (fun _ h9 => List.mem_cons_of_mem _ (List.mem_append_left _ (List.mem_append_left _ (List.mem_append_left _ (List.mem_append_left _ (List.mem_append_right _ h9)))))) hown hK hg 0 (by decide) rfl rfl (by decide) rfl 0 (by decide) (hts (.fieldLink RX8 10 "JoinMaps" "grove" "LJoinMaps$Grove;") (List.mem_cons_of_mem _ (List.mem_append_left _ (List.mem_append_left _ (List.mem_append_left _ (List.mem_append_left _ (List.mem_append_left _ (List.mem_append_left _ (List.mem_of_getElem? (i := 1) rfl))))))))) rfl rfl rfl dX8_glue_106 ?_
      refine lv_aload_n hx hb dX8_glue_109 rfl (lv_at hl 0 rfl) ?_
      refine q_getx (ci := 8) (C := RX8) (T := TX8) (N := 14) (j := 3) hx hb hts (fun _ h9 => List.mem_cons_of_mem _ (List.mem_append_left _ (List.mem_append_left _ (List.mem_append_left _ (List.mem_append_left _ (List.mem_append_right _ h9)))))) hown hK hg 0 (by decide) rfl rfl (by decide) rfl 2 (by decide) (hts (.fieldLink RX8 27 "JoinMaps" "maps" "[LJoinMaps$Node;") (List.mem_cons_of_mem _ (List.mem_append_left _ (List.mem_append_left _ (List.mem_append_left _ (List.mem_append_left _ (List.mem_append_left _ (List.mem_append_left _ (List.mem_of_getElem? (i := 0) rfl))))))))) rfl rfl rfl dX8_glue_110 ?_
      refine lv_iload_n hx hb dX8_glue_113 rfl (lv_at hl 1 rfl) ?_
      obtain ⟨hP55, hP56, h⟩ := h
      refine q_aald (N := 6) hx hb hK hg 3 (by decide) rfl rfl hP55 hP56 (by decide) dX8_glue_114 ?_
      have hS57 : ∀ b, (sf s52 3 (a1 : Int).toNat) = some b → sS s52 b := fun b h0 => GS_F hg h0
      refine lv_aload_n hx hb dX8_glue_115 rfl (lv_at hl 0 rfl) ?_
      refine q_getx (ci := 8) (C := RX8) (T := TX8) (N := 14) (j := 3) hx hb hts (fun _ h9 => List.mem_cons_of_mem _ (List.mem_append_left _ (List.mem_append_left _ (List.mem_append_left _ (List.mem_append_left _ (List.mem_append_right _ h9)))))) hown hK hg 0 (by decide) rfl rfl (by decide) rfl 2 (by decide) (hts (.fieldLink RX8 27 "JoinMaps" "maps" "[LJoinMaps$Node;") (List.mem_cons_of_mem _ (List.mem_append_left _ (List.mem_append_left _ (List.mem_append_left _ (List.mem_append_left _ (List.mem_append_left _ (List.mem_append_left _ (List.mem_of_getElem? (i := 0) rfl))))))))) rfl rfl rfl dX8_glue_116 ?_
      refine lv_iload_n hx hb dX8_glue_119 rfl (lv_at hl 2 rfl) ?_
      obtain ⟨hP58, hP59, h⟩ := h
      refine q_aald (N := 6) hx hb hK hg 3 (by decide) rfl rfl hP58 hP59 (by decide) dX8_glue_120 ?_
      have hS60 : ∀ b, (sf s52 3 (a2 : Int).toNat) = some b → sS s52 b := fun b h0 => GS_F hg h0
      refine call_r (run_V (a := ea E 1) (As := [va_rf ((sf s52 3 (a1 : Int).toNat)), va_rf ((sf s52 3 (a2 : Int).toNat))]) (rest := [.int (iI (a1)), .ref (ea E 0)]) ⟨hx, hb, hml, hown, hts⟩ (ctX2_chain l E tp (sf s52 3 (a1 : Int).toNat) (sf s52 3 (a2 : Int).toNat) s52 _ hS57 hS60 hm.2.2 h) (cwV 2 hts gX8_glue_X2_chain rfl rfl rfl ⟨rfl, hdX2_chain⟩ ⟨Nat.le_of_ble_eq_true rfl, Nat.le_of_ble_eq_true rfl⟩) hK hN hg (recv_x (ci := 2) (C := RX2) (T := TX2) (N := 4) hg hK (by decide) rfl (by decide) rfl) rfl hl.1 rfl (cat_sum _ (by simp)) dX8_glue_121 (show (sz s52 - sz σ) + (tp - sz s52) ≤ tp - sz σ ∧ 9 * (sz s52 - sz σ) + 9 * (tp - sz s52) ≤ 9 * (tp - sz σ) by have q1 := hm.2.1; have q2 := hm.2.2; omega)) hg (fun r62 s61 H locs hz63 hm2 h hg => ?_)
      have hm := hm.ta hm2
      refine W_narrow hg hH (show sz s61 ≤ sz σ + (sz s61 - sz σ) by have q1 := hm.2.1; omega) (Nat.le_refl _) ?_
      refine call_i (run_V (a := ea E 0) (As := [.int (iI (a1)), va_rf (r62)]) (rest := []) ⟨hx, hb, hml, hown, hts⟩ (ctX8_settle l E a1 r62 s61 _ ha1 hz63 h) (cwV 2 hts gX8_glue_X8_settle rfl rfl rfl ⟨rfl, hdX8_settle⟩ ⟨Nat.le_of_ble_eq_true rfl, Nat.le_of_ble_eq_true rfl⟩) hK hN hg (recv_x (ci := 8) (C := RX8) (T := TX8) (N := 14) hg hK (by decide) rfl (by decide) rfl) rfl hl.1 rfl (cat_sum _ (by simp)) dX8_glue_124 (show (sz s61 - sz σ) + 0 ≤ tp - sz σ ∧ 9 * (sz s61 - sz σ) + 0 ≤ 9 * (tp - sz σ) by have q1 := hm.2.1; have q2 := hm.2.2; omega)) hg (fun r65 s64 H locs hz66 hm2 h hg => ?_)
      have hm := hm.tn hm2
      refine W_narrow hg hH (show sz s64 ≤ sz σ + (sz s64 - sz σ) by have q1 := hm.2.1; omega) (Nat.le_refl _) ?_
      refine lv_pop hx hb dX8_glue_127 rfl ?_
      refine lv_aload_n hx hb dX8_glue_128 rfl (lv_at hl 0 rfl) ?_
      refine q_getx (ci := 8) (C := RX8) (T := TX8) (N := 14) (j := 3) hx hb hts (fun _ h9 => List.mem_cons_of_mem _ (List.mem_append_left _ (List.mem_append_left _ (List.mem_append_left _ (List.mem_append_left _ (List.mem_append_right _ h9)))))) hown hK hg 0 (by decide) rfl rfl (by decide) rfl 2 (by decide) (hts (.fieldLink RX8 27 "JoinMaps" "maps" "[LJoinMaps$Node;") (List.mem_cons_of_mem _ (List.mem_append_left _ (List.mem_append_left _ (List.mem_append_left _ (List.mem_append_left _ (List.mem_append_left _ (List.mem_append_left _ (List.mem_of_getElem? (i := 0) rfl))))))))) rfl rfl rfl dX8_glue_129 ?_
      refine lv_iload_n hx hb dX8_glue_132 rfl (lv_at hl 2 rfl) ?_
      refine q_null hx hb dX8_glue_133 ?_
      obtain ⟨hP67, hP68, h⟩ := h
      refine q_aast (N := 6) hx hb hK hg 3 (by decide) rfl rfl hP67 hP68 (by decide) (fun b h0 => by cases h0) dX8_glue_134 (fun H locs hg => ?_)
      refine lv_iload_n hx hb dX8_glue_135 rfl (lv_at hl 3 rfl) ?_
      refine lv_iload hx hb dX8_glue_136 (lv_at hl 4 rfl) ?_
      refine q_iadd hx hb dX8_glue_138 ?_
      refine W.widen (k := tp - sz σ) (n := 9 * (tp - sz σ)) (show sz s64 - sz σ ≤ _ by have q1 := hm.2.2; omega) (show 9 * (sz s64 - sz σ) ≤ _ by have q1 := hm.2.2; omega) ?_
      exact ret_i hx hb hr hlocks hg hR50 hm h dX8_glue_139
    · have h := h.2 c51
      refine lv_aload_n hx hb dX8_glue_94 rfl (lv_at hl 0 rfl) ?_
      refine call_i (run_V (a := ea E 0) (As := []) (rest := []) ⟨hx, hb, hml, hown, hts⟩ (ctX8_full l E  sL _  h) (cwV 0 hts gX8_glue_X8_full rfl rfl rfl ⟨rfl, hdX8_full⟩ ⟨Nat.le_of_ble_eq_true rfl, Nat.le_of_ble_eq_true rfl⟩) hK hN hg (recv_x (ci := 8) (C := RX8) (T := TX8) (N := 14) hg hK (by decide) rfl (by decide) rfl) rfl hl.1 rfl (cat_sum _ (by simp)) dX8_glue_95 (show (sz sL - sz σ) + 0 ≤ tp - sz σ ∧ 9 * (sz sL - sz σ) + 0 ≤ 9 * (tp - sz σ) by have q1 := hm.2.1; have q2 := hm.2.2; omega)) hg (fun r70 s69 H locs hz71 hm2 h hg => ?_)
      have hm := hm.tn hm2
      refine W_narrow hg hH (show sz s69 ≤ sz σ + (sz s69 - sz σ) by have q1 := hm.2.1; omega) (Nat.le_refl _) ?_
      refine W.widen (k := tp - sz σ) (n := 9 * (tp - sz σ)) (show sz s69 - sz σ ≤ _ by have q1 := hm.2.2; omega) (show 9 * (sz s69 - sz σ) ≤ _ by have q1 := hm.2.2; omega) ?_
      exact ret_i hx hb hr hlocks hg hz71 hm h dX8_glue_98
  refine lv_iload_n hx hb dX8_glue_0 rfl (lv_at hl 1 rfl) ?_
  refine call_z (run_S (As := [.int (iI (a1))]) (rest := []) ⟨hx, hb, hml, hown, hts⟩ (ctX8_isMap l E a1 σ _ ha1 h) (va_cwS 1 hts gX8_glue_X8_isMap rfl rfl rfl hdX8_isMap ⟨Nat.le_of_ble_eq_true rfl, Nat.le_of_ble_eq_true rfl⟩) hK hN hg rfl hl.1 rfl (cat_sum _ (by simp)) dX8_glue_1 (show (sz σ - sz σ) + 0 ≤ tp - sz σ ∧ 9 * (sz σ - sz σ) + 0 ≤ 9 * (tp - sz σ) by have q1 := hm.2.1; have q2 := hm.2.2; omega)) hg (fun r2 s1 H locs hz3 hm2 h hg => ?_)
  have hm := hm.tn hm2
  refine W_narrow hg hH (show sz s1 ≤ sz σ + (sz s1 - sz σ) by have q1 := hm.2.1; omega) (Nat.le_refl _) ?_
  refine k_eq (tgt := 19) hx hb dX8_glue_4 (by decide) (z_R hz3) (fun c4 => ?_) (fun c4 => ?_)
  · have h := h.1 c4
    refine lv_aload_n hx hb dX8_glue_19 rfl (lv_at hl 0 rfl) ?_
    refine call_i (run_V (a := ea E 0) (As := []) (rest := []) ⟨hx, hb, hml, hown, hts⟩ (ctX8_bad l E  s1 _  h) (cwV 0 hts gX8_glue_X8_bad rfl rfl rfl ⟨rfl, hdX8_bad⟩ ⟨Nat.le_of_ble_eq_true rfl, Nat.le_of_ble_eq_true rfl⟩) hK hN hg (recv_x (ci := 8) (C := RX8) (T := TX8) (N := 14) hg hK (by decide) rfl (by decide) rfl) rfl hl.1 rfl (cat_sum _ (by simp)) dX8_glue_20 (show (sz s1 - sz σ) + 0 ≤ tp - sz σ ∧ 9 * (sz s1 - sz σ) + 0 ≤ 9 * (tp - sz σ) by have q1 := hm.2.1; have q2 := hm.2.2; omega)) hg (fun r6 s5 H locs hz7 hm2 h hg => ?_)
    have hm := hm.tn hm2
    refine W_narrow hg hH (show sz s5 ≤ sz σ + (sz s5 - sz σ) by have q1 := hm.2.1; omega) (Nat.le_refl _) ?_
    refine W.widen (k := tp - sz σ) (n := 9 * (tp - sz σ)) (show sz s5 - sz σ ≤ _ by have q1 := hm.2.2; omega) (show 9 * (sz s5 - sz σ) ≤ _ by have q1 := hm.2.2; omega) ?_
    exact ret_i hx hb hr hlocks hg hz7 hm h dX8_glue_23
  · have h := h.2 c4
    refine lv_iload_n hx hb dX8_glue_7 rfl (lv_at hl 2 rfl) ?_
    refine call_z (run_S (As := [.int (iI (a2))]) (rest := []) ⟨hx, hb, hml, hown, hts⟩ (ctX8_isMap l E a2 s1 _ ha2 h) (va_cwS 1 hts gX8_glue_X8_isMap rfl rfl rfl hdX8_isMap ⟨Nat.le_of_ble_eq_true rfl, Nat.le_of_ble_eq_true rfl⟩) hK hN hg rfl hl.1 rfl (cat_sum _ (by simp)) dX8_glue_8 (show (sz s1 - sz σ) + 0 ≤ tp - sz σ ∧ 9 * (sz s1 - sz σ) + 0 ≤ 9 * (tp - sz σ) by have q1 := hm.2.1; have q2 := hm.2.2; omega)) hg (fun r9 s8 H locs hz10 hm2 h hg => ?_)
    have hm := hm.tn hm2
    refine W_narrow hg hH (show sz s8 ≤ sz σ + (sz s8 - sz σ) by have q1 := hm.2.1; omega) (Nat.le_refl _) ?_
    refine k_eq (tgt := 19) hx hb dX8_glue_11 (by decide) (z_R hz10) (fun c11 => ?_) (fun c11 => ?_)
    · have h := h.1 c11
      refine lv_aload_n hx hb dX8_glue_19 rfl (lv_at hl 0 rfl) ?_
      refine call_i (run_V (a := ea E 0) (As := []) (rest := []) ⟨hx, hb, hml, hown, hts⟩ (ctX8_bad l E  s8 _  h) (cwV 0 hts gX8_glue_X8_bad rfl rfl rfl ⟨rfl, hdX8_bad⟩ ⟨Nat.le_of_ble_eq_true rfl, Nat.le_of_ble_eq_true rfl⟩) hK hN hg (recv_x (ci := 8) (C := RX8) (T := TX8) (N := 14) hg hK (by decide) rfl (by decide) rfl) rfl hl.1 rfl (cat_sum _ (by simp)) dX8_glue_20 (show (sz s8 - sz σ) + 0 ≤ tp - sz σ ∧ 9 * (sz s8 - sz σ) + 0 ≤ 9 * (tp - sz σ) by have q1 := hm.2.1; have q2 := hm.2.2; omega)) hg (fun r13 s12 H locs hz14 hm2 h hg => ?_)
      have hm := hm.tn hm2
      refine W_narrow hg hH (show sz s12 ≤ sz σ + (sz s12 - sz σ) by have q1 := hm.2.1; omega) (Nat.le_refl _) ?_
      refine W.widen (k := tp - sz σ) (n := 9 * (tp - sz σ)) (show sz s12 - sz σ ≤ _ by have q1 := hm.2.2; omega) (show 9 * (sz s12 - sz σ) ≤ _ by have q1 := hm.2.2; omega) ?_
      exact ret_i hx hb hr hlocks hg hz14 hm h dX8_glue_23
    · have h := h.2 c11
      refine lv_iload_n hx hb dX8_glue_14 rfl (lv_at hl 1 rfl) ?_
      refine lv_iload_n hx hb dX8_glue_15 rfl (lv_at hl 2 rfl) ?_
      refine j_ne (tgt := 24) hx hb dX8_glue_16 (by decide) ha1 ha2 (fun c15 => ?_) (fun c15 => ?_)
      · have h := h.1 c15
        refine lv_aload_n hx hb dX8_glue_24 rfl (lv_at hl 0 rfl) ?_
        refine q_getx (ci := 8) (C := RX8) (T := TX8) (N := 14) (j := 3) hx hb hts (fun _ h9 => List.mem_cons_of_mem _ (List.mem_append_left _ (List.mem_append_left _ (List.mem_append_left _ (List.mem_append_left _ (List.mem_append_right _ h9)))))) hown hK hg 0 (by decide) rfl rfl (by decide) rfl 2 (by decide) (hts (.fieldLink RX8 27 "JoinMaps" "maps" "[LJoinMaps$Node;") (List.mem_cons_of_mem _ (List.mem_append_left _ (List.mem_append_left _ (List.mem_append_left _ (List.mem_append_left _ (List.mem_append_left _ (List.mem_append_left _ (List.mem_of_getElem? (i := 0) rfl))))))))) rfl rfl rfl dX8_glue_25 ?_
        refine lv_iload_n hx hb dX8_glue_28 rfl (lv_at hl 1 rfl) ?_
        obtain ⟨hP16, hP17, h⟩ := h
        refine q_aald (N := 6) hx hb hK hg 3 (by decide) rfl rfl hP16 hP17 (by decide) dX8_glue_29 ?_
        have hS18 : ∀ b, (sf s8 3 (a1 : Int).toNat) = some b → sS s8 b := fun b h0 => GS_F hg h0
        refine call_i (run_S (As := [va_rf ((sf s8 3 (a1 : Int).toNat))]) (rest := []) ⟨hx, hb, hml, hown, hts⟩ (ctX3_countOf l E (sf s8 3 (a1 : Int).toNat) s8 _ hS18 h) (va_cwS 1 hts gX8_glue_X3_countOf rfl rfl rfl hdX3_countOf ⟨Nat.le_of_ble_eq_true rfl, Nat.le_of_ble_eq_true rfl⟩) hK hN hg rfl hl.1 rfl (cat_sum _ (by simp)) dX8_glue_30 (show (sz s8 - sz σ) + 0 ≤ tp - sz σ ∧ 9 * (sz s8 - sz σ) + 0 ≤ 9 * (tp - sz σ) by have q1 := hm.2.1; have q2 := hm.2.2; omega)) hg (fun r20 s19 H locs hz21 hm2 h hg => ?_)
        have hm := hm.tn hm2
        refine W_narrow hg hH (show sz s19 ≤ sz σ + (sz s19 - sz σ) by have q1 := hm.2.1; omega) (Nat.le_refl _) ?_
        refine lv_istore_n (i := 3) (lv' := [(3, .int (iI (r20))), (0, .ref (ea E 0)), (1, .int (iI (a1))), (2, .int (iI (a2)))]) hx hb dX8_glue_33 rfl hl (by decide) rfl (fun ls hl => ?_)
        refine lv_aload_n hx hb dX8_glue_34 rfl (lv_at hl 1 rfl) ?_
        refine q_getx (ci := 8) (C := RX8) (T := TX8) (N := 14) (j := 3) hx hb hts (fun _ h9 => List.mem_cons_of_mem _ (List.mem_append_left _ (List.mem_append_left _ (List.mem_append_left _ (List.mem_append_left _ (List.mem_append_right _ h9)))))) hown hK hg 0 (by decide) rfl rfl (by decide) rfl 2 (by decide) (hts (.fieldLink RX8 27 "JoinMaps" "maps" "[LJoinMaps$Node;") (List.mem_cons_of_mem _ (List.mem_append_left _ (List.mem_append_left _ (List.mem_append_left _ (List.mem_append_left _ (List.mem_append_left _ (List.mem_append_left _ (List.mem_of_getElem? (i := 0) rfl))))))))) rfl rfl rfl dX8_glue_35 ?_
        refine lv_iload_n hx hb dX8_glue_38 rfl (lv_at hl 3 rfl) ?_
        obtain ⟨hP22, hP23, h⟩ := h
        refine q_aald (N := 6) hx hb hK hg 3 (by decide) rfl rfl hP22 hP23 (by decide) dX8_glue_39 ?_
        have hS24 : ∀ b, (sf s19 3 (a2 : Int).toNat) = some b → sS s19 b := fun b h0 => GS_F hg h0
        refine call_i (run_S (As := [va_rf ((sf s19 3 (a2 : Int).toNat))]) (rest := []) ⟨hx, hb, hml, hown, hts⟩ (ctX3_countOf l E (sf s19 3 (a2 : Int).toNat) s19 _ hS24 h) (va_cwS 1 hts gX8_glue_X3_countOf rfl rfl rfl hdX3_countOf ⟨Nat.le_of_ble_eq_true rfl, Nat.le_of_ble_eq_true rfl⟩) hK hN hg rfl hl.1 rfl (cat_sum _ (by simp)) dX8_glue_40 (show (sz s19 - sz σ) + 0 ≤ tp - sz σ ∧ 9 * (sz s19 - sz σ) + 0 ≤ 9 * (tp - sz σ) by have q1 := hm.2.1; have q2 := hm.2.2; omega)) hg (fun r26 s25 H locs hz27 hm2 h hg => ?_)
        have hm := hm.tn hm2
        refine W_narrow hg hH (show sz s25 ≤ sz σ + (sz s25 - sz σ) by have q1 := hm.2.1; omega) (Nat.le_refl _) ?_
        refine lv_istore (i := 4) (lv' := [(4, .int (iI (r26))), (3, .int (iI (r20))), (0, .ref (ea E 0)), (1, .int (iI (a1))), (2, .int (iI (a2)))]) hx hb dX8_glue_43 hl (by decide) rfl (fun ls hl => ?_)
        refine lv_iload_n hx hb dX8_glue_45 rfl (lv_at hl 1 rfl) ?_
        refine k_le (tgt := 84) hx hb dX8_glue_46 (by decide) hz21 (fun c28 => ?_) (fun c28 => ?_)
        · have h := h.1 c28
          exact J84  (r20) (r26) (s25) _ _ _ hg hm (lv_sub hl [2, 3, 4, 1, 0] rfl) h
        · have h := h.2 c28
          refine lv_iload hx hb dX8_glue_49 (lv_at hl 0 rfl) ?_
          refine k_le (tgt := 84) hx hb dX8_glue_51 (by decide) hz27 (fun c29 => ?_) (fun c29 => ?_)
          · have h := h.1 c29
            exact J84  (r20) (r26) (s25) _ _ _ hg hm (lv_sub hl [2, 3, 4, 1, 0] rfl) h
          · have h := h.2 c29
            refine lv_aload_n hx hb dX8_glue_54 rfl (lv_at hl 2 rfl) ?_
            refine q_getx (ci := 8) (C := RX8) (T := TX8) (N := 14) (j := 3) hx hb hts (fun _ h9 => List.mem_cons_of_mem _ (List.mem_append_left _ (List.mem_append_left _ (List.mem_append_left _ (List.mem_append_left _ (List.mem_append_right _ h9)))))) hown hK hg 0 (by decide) rfl rfl (by decide) rfl 2 (by decide) (hts (.fieldLink RX8 27 "JoinMaps" "maps" "[LJoinMaps$Node;") (List.mem_cons_of_mem _ (List.mem_append_left _ (List.mem_append_left _ (List.mem_append_left _ (List.mem_append_left _ (List.mem_append_left _ (List.mem_append_left _ (List.mem_of_getElem? (i := 0) rfl))))))))) rfl rfl rfl dX8_glue_55 ?_
            refine lv_iload_n hx hb dX8_glue_58 rfl (lv_at hl 3 rfl) ?_
            obtain ⟨hP30, hP31, h⟩ := h
            refine q_aald (N := 6) hx hb hK hg 3 (by decide) rfl rfl hP30 hP31 (by decide) dX8_glue_59 ?_
            have hS32 : ∀ b, (sf s25 3 (a1 : Int).toNat) = some b → sS s25 b := fun b h0 => GS_F hg h0
            refine lv_iload_n hx hb dX8_glue_60 rfl (lv_at hl 1 rfl) ?_
            refine lv_iconst (v := iI 1) hx hb dX8_glue_61 (by decide) ?_
            refine q_isub hx hb dX8_glue_62 ?_
            obtain ⟨hR33, h⟩ := h
            refine call_i (run_S (As := [va_rf ((sf s25 3 (a1 : Int).toNat)), .int (iI ((r20 - 1)))]) (rest := []) ⟨hx, hb, hml, hown, hts⟩ (ctX3_keyAt l E (sf s25 3 (a1 : Int).toNat) (r20 - 1) s25 _ hS32 hR33 h) (va_cwS 2 hts gX8_glue_X3_keyAt rfl rfl rfl hdX3_keyAt ⟨Nat.le_of_ble_eq_true rfl, Nat.le_of_ble_eq_true rfl⟩) hK hN hg rfl hl.1 rfl (cat_sum _ (by simp)) dX8_glue_63 (show (sz s25 - sz σ) + 0 ≤ tp - sz σ ∧ 9 * (sz s25 - sz σ) + 0 ≤ 9 * (tp - sz σ) by have q1 := hm.2.1; have q2 := hm.2.2; omega)) hg (fun r35 s34 H locs hz36 hm2 h hg => ?_)
            have hm := hm.tn hm2
            refine W_narrow hg hH (show sz s34 ≤ sz σ + (sz s34 - sz σ) by have q1 := hm.2.1; omega) (Nat.le_refl _) ?_
            refine lv_aload_n hx hb dX8_glue_66 rfl (lv_at hl 2 rfl) ?_
            refine q_getx (ci := 8) (C := RX8) (T := TX8) (N := 14) (j := 3) hx hb hts (fun _ h9 => List.mem_cons_of_mem _ (List.mem_append_left _ (List.mem_append_left _ (List.mem_append_left _ (List.mem_append_left _ (List.mem_append_right _ h9)))))) hown hK hg 0 (by decide) rfl rfl (by decide) rfl 2 (by decide) (hts (.fieldLink RX8 27 "JoinMaps" "maps" "[LJoinMaps$Node;") (List.mem_cons_of_mem _ (List.mem_append_left _ (List.mem_append_left _ (List.mem_append_left _ (List.mem_append_left _ (List.mem_append_left _ (List.mem_append_left _ (List.mem_of_getElem? (i := 0) rfl))))))))) rfl rfl rfl dX8_glue_67 ?_
            refine lv_iload_n hx hb dX8_glue_70 rfl (lv_at hl 4 rfl) ?_
            obtain ⟨hP37, hP38, h⟩ := h
            refine q_aald (N := 6) hx hb hK hg 3 (by decide) rfl rfl hP37 hP38 (by decide) dX8_glue_71 ?_
            have hS39 : ∀ b, (sf s34 3 (a2 : Int).toNat) = some b → sS s34 b := fun b h0 => GS_F hg h0
            refine lv_iconst (v := iI 0) hx hb dX8_glue_72 (by decide) ?_
            refine call_i (run_S (As := [va_rf ((sf s34 3 (a2 : Int).toNat)), .int (iI (0))]) (rest := [.int (iI (r35))]) ⟨hx, hb, hml, hown, hts⟩ (ctX3_keyAt l E (sf s34 3 (a2 : Int).toNat) 0 s34 _ hS39 (by decide) h) (va_cwS 2 hts gX8_glue_X3_keyAt rfl rfl rfl hdX3_keyAt ⟨Nat.le_of_ble_eq_true rfl, Nat.le_of_ble_eq_true rfl⟩) hK hN hg rfl hl.1 rfl (cat_sum _ (by simp)) dX8_glue_73 (show (sz s34 - sz σ) + 0 ≤ tp - sz σ ∧ 9 * (sz s34 - sz σ) + 0 ≤ 9 * (tp - sz σ) by have q1 := hm.2.1; have q2 := hm.2.2; omega)) hg (fun r41 s40 H locs hz42 hm2 h hg => ?_)
            have hm := hm.tn hm2
            refine W_narrow hg hH (show sz s40 ≤ sz σ + (sz s40 - sz σ) by have q1 := hm.2.1; omega) (Nat.le_refl _) ?_
            refine j_lt (tgt := 84) hx hb dX8_glue_76 (by decide) hz36 hz42 (fun c43 => ?_) (fun c43 => ?_)
            · have h := h.1 c43
              exact J84  (r20) (r26) (s40) _ _ _ hg hm (lv_sub hl [2, 3, 4, 1, 0] rfl) h
            · have h := h.2 c43
              refine lv_aload_n hx hb dX8_glue_79 rfl (lv_at hl 2 rfl) ?_
              refine call_i (run_V (a := ea E 0) (As := []) (rest := []) ⟨hx, hb, hml, hown, hts⟩ (ctX8_no l E  s40 _  h) (cwV 0 hts gX8_glue_X8_no rfl rfl rfl ⟨rfl, hdX8_no⟩ ⟨Nat.le_of_ble_eq_true rfl, Nat.le_of_ble_eq_true rfl⟩) hK hN hg (recv_x (ci := 8) (C := RX8) (T := TX8) (N := 14) hg hK (by decide) rfl (by decide) rfl) rfl hl.1 rfl (cat_sum _ (by simp)) dX8_glue_80 (show (sz s40 - sz σ) + 0 ≤ tp - sz σ ∧ 9 * (sz s40 - sz σ) + 0 ≤ 9 * (tp - sz σ) by have q1 := hm.2.1; have q2 := hm.2.2; omega)) hg (fun r45 s44 H locs hz46 hm2 h hg => ?_)
              have hm := hm.tn hm2
              refine W_narrow hg hH (show sz s44 ≤ sz σ + (sz s44 - sz σ) by have q1 := hm.2.1; omega) (Nat.le_refl _) ?_
              refine W.widen (k := tp - sz σ) (n := 9 * (tp - sz σ)) (show sz s44 - sz σ ≤ _ by have q1 := hm.2.2; omega) (show 9 * (sz s44 - sz σ) ≤ _ by have q1 := hm.2.2; omega) ?_
              exact ret_i hx hb hr hlocks hg hz46 hm h dX8_glue_83
      · have h := h.2 c15
        refine lv_aload_n hx hb dX8_glue_19 rfl (lv_at hl 0 rfl) ?_
        refine call_i (run_V (a := ea E 0) (As := []) (rest := []) ⟨hx, hb, hml, hown, hts⟩ (ctX8_bad l E  s8 _  h) (cwV 0 hts gX8_glue_X8_bad rfl rfl rfl ⟨rfl, hdX8_bad⟩ ⟨Nat.le_of_ble_eq_true rfl, Nat.le_of_ble_eq_true rfl⟩) hK hN hg (recv_x (ci := 8) (C := RX8) (T := TX8) (N := 14) hg hK (by decide) rfl (by decide) rfl) rfl hl.1 rfl (cat_sum _ (by simp)) dX8_glue_20 (show (sz s8 - sz σ) + 0 ≤ tp - sz σ ∧ 9 * (sz s8 - sz σ) + 0 ≤ 9 * (tp - sz σ) by have q1 := hm.2.1; have q2 := hm.2.2; omega)) hg (fun r48 s47 H locs hz49 hm2 h hg => ?_)
        have hm := hm.tn hm2
        refine W_narrow hg hH (show sz s47 ≤ sz σ + (sz s47 - sz σ) by have q1 := hm.2.1; omega) (Nat.le_refl _) ?_
        refine W.widen (k := tp - sz σ) (n := 9 * (tp - sz σ)) (show sz s47 - sz σ ≤ _ by have q1 := hm.2.2; omega) (show 9 * (sz s47 - sz σ) ≤ _ by have q1 := hm.2.2; omega) ?_
        exact ret_i hx hb hr hlocks hg hz49 hm h dX8_glue_23
