theorem hdX9_in : yX9_in.cls ≠ "java/lang/invoke/MethodHandle" ∧ yX9_in.cls ≠ "java/lang/invoke/VarHandle" ∧ (parseMethodDescriptor yX9_in.desc).map (fun d => d.parameters.length) = some 3 := by decide +kernel
set_option maxRecDepth 100000 in
set_option maxHeartbeats 4000000 in
theorem ctX9_in (l : Launch) (E : Ev) (a0 : Int) (a2 : Int) (a4 : Int) (σ : SS) (Q : Int → SS → Prop) (ha0 : R64 a0) (ha2 : R64 a2) (ha4 : R64 a4) (h : wX9_in a0 a2 a4 σ Q) : Met l yX9_in wsX9_in ({ frames := 0, cells := 0, slots := 0, locals := 0 } : Room) (Pc E σ [.long (lI (a0)), .long (lI (a2)), .long (lI (a4))]) (Qz E (sz σ) σ Q) 0 0 (Av E) := by
  rw [wX9_in] at h
  refine Met.ofW (cc := cX9_in) (maxL := 6) (ret := (some .boolean)) (by decide) rfl ?_
  intro p e s m args below meth c s₁ B hml hv
  obtain ⟨rfl, hH, hK, hN⟩ := hv
  have hx := B.exec
  have hb := B.bytes
  have hr := B.returns
  have hts := atoms_spec (ws := wsX9_in) B.pre
  have hown : s.vm.findClass RX9 = some m.cls := findClass_of_methodNamed B.named
  have hlocks := B.notSynchronized
  have hg : GS E σ s s.heap [] := ⟨hH, va_S.rf⟩
  have hm : Mo (sz σ) σ σ := Mo.rf (Nat.le_refl _)
  have hl := lv_entry ([.long (lI (a0)), .long (lI (a2)), .long (lI (a4))]) (n := 6) (Nat.le_of_ble_eq_true rfl)
  rw [lg_entry_eq]
  generalize (lg_sl ([.long (lI (a0)), .long (lI (a2)), .long (lI (a4))]) ++ List.replicate (6 - (lg_sl ([.long (lI (a0)), .long (lI (a2)), .long (lI (a4))])).length) Slot.unset).toArray = ls at hl ⊢
  have hl : lv_has ls 6 [(0, .long (lI (a0))), (2, .long (lI (a2))), (4, .long (lI (a4)))] := hl
  refine lv_lload_n hx hb dX9_in_0 rfl (lv_at hl 0 rfl) ?_
  refine lv_lload_n hx hb dX9_in_1 rfl (lv_at hl 1 rfl) ?_
  refine l_lt (tgt := 17) hx hb dX9_in_2 dX9_in_3 (by decide) ha0 ha2 (fun c1 => ?_) (fun c1 => ?_)
  · have h := h.1 c1
    refine lv_iconst (v := iI 0) hx hb dX9_in_17 (by decide) ?_
    exact ret_z hx hb hr hlocks hg (by decide) hm h dX9_in_18
  · have h := h.2 c1
    refine lv_lload_n hx hb dX9_in_6 rfl (lv_at hl 0 rfl) ?_
    refine lv_lload hx hb dX9_in_7 (lv_at hl 2 rfl) ?_
    refine l_gt (tgt := 17) hx hb dX9_in_9 dX9_in_10 (by decide) ha0 ha4 (fun c2 => ?_) (fun c2 => ?_)
    · have h := h.1 c2
      refine lv_iconst (v := iI 0) hx hb dX9_in_17 (by decide) ?_
      exact ret_z hx hb hr hlocks hg (by decide) hm h dX9_in_18
    · have h := h.2 c2
      refine lv_iconst (v := iI 1) hx hb dX9_in_13 (by decide) ?_
      refine lv_goto (tgt := 18) hx hb dX9_in_14 (by decide) ?_
      exact ret_z hx hb hr hlocks hg (by decide) hm h dX9_in_18
theorem hdX9_refuses : yX9_refuses.cls ≠ "java/lang/invoke/MethodHandle" ∧ yX9_refuses.cls ≠ "java/lang/invoke/VarHandle" ∧ (parseMethodDescriptor yX9_refuses.desc).map (fun d => d.parameters.length) = some 1 := by decide +kernel
set_option maxRecDepth 100000 in
set_option maxHeartbeats 4000000 in
theorem ctX9_refuses (l : Launch) (E : Ev) (a1 : Int) (σ : SS) (Q : Int → SS → Prop) (ha1 : R32 a1) (h : wX9_refuses a1 σ Q) : Met l yX9_refuses wsX9_refuses ({ frames := 0, cells := 0, slots := 0, locals := 0 } : Room) (Pc E σ [.ref (ea E 21), .int (iI (a1))]) (Qi E (sz σ) σ Q) 0 0 (Av E) := by
  rw [wX9_refuses] at h
  refine Met.ofW (cc := cX9_refuses) (maxL := 2) (ret := (some .int)) (by decide) rfl ?_
  intro p e s m args below meth c s₁ B hml hv
  obtain ⟨rfl, hH, hK, hN⟩ := hv
  have hx := B.exec
  have hb := B.bytes
  have hr := B.returns
  have hts := atoms_spec (ws := wsX9_refuses) B.pre
  have hown : s.vm.findClass RX9 = some m.cls := findClass_of_methodNamed B.named
  have hlocks := B.notSynchronized
  have hg : GS E σ s s.heap [] := ⟨hH, va_S.rf⟩
  have hm : Mo (sz σ) σ σ := Mo.rf (Nat.le_refl _)
  have hl := ent (vs := [.ref (ea E 21), .int (iI (a1))]) (n := 2) (cats_x (cats_i cats_nil)) (Nat.le_of_ble_eq_true rfl)
  rw [lg_entry_eq]
  generalize (lg_sl ([.ref (ea E 21), .int (iI (a1))]) ++ List.replicate (2 - (lg_sl ([.ref (ea E 21), .int (iI (a1))])).length) Slot.unset).toArray = ls at hl ⊢
  have hl : lv_has ls 2 [(0, .ref (ea E 21)), (1, .int (iI (a1)))] := hl
  refine lv_aload_n hx hb dX9_refuses_0 rfl (lv_at hl 0 rfl) ?_
  refine q_getx (ci := 9) (C := RX9) (T := TX9) (N := 27) (j := 29) hx hb hts (fun _ h9 => List.mem_cons_of_mem _ (List.mem_append_right _ h9)) hown hK hg 21 (by decide) rfl rfl (by decide) rfl 8 (by decide) (hts (.fieldLink RX9 31 "JoinMapsModel" "refused" "[I") (List.mem_cons_of_mem _ (List.mem_append_left _ (List.mem_of_getElem? (i := 0) rfl)))) rfl rfl rfl dX9_refuses_1 ?_
  refine q_ldc (z := (-2000000002)) hx hb hown (hts (.constant RX9 61 (-2000000002)) (List.mem_cons_of_mem _ (List.mem_append_left _ (List.mem_of_getElem? (i := 1) rfl)))) (by decide) dX9_refuses_4 ?_
  refine lv_iload_n hx hb dX9_refuses_6 rfl (lv_at hl 1 rfl) ?_
  refine q_isub hx hb dX9_refuses_7 ?_
  refine lv_dup2_11 hx hb dX9_refuses_8 rfl rfl ?_
  obtain ⟨hP1, hP2, h⟩ := h
  refine q_iald (N := 3) hx hb hK hg 29 (by decide) rfl rfl hP1 hP2 (by decide) dX9_refuses_9 ?_
  have hR3 := GS_R hg 29 (((-2000000002) - a1) : Int).toNat
  refine lv_iconst (v := iI 1) hx hb dX9_refuses_10 (by decide) ?_
  refine q_iadd hx hb dX9_refuses_11 ?_
  obtain ⟨hP4, hP5, hR6, h⟩ := h
  refine q_iast (N := 3) hx hb hK hg 29 (by decide) rfl rfl hP4 hP5 (by decide) hR6 dX9_refuses_12 (fun H locs hg => ?_)
  refine lv_iload_n hx hb dX9_refuses_13 rfl (lv_at hl 1 rfl) ?_
  exact ret_i hx hb hr hlocks hg ha1 hm h dX9_refuses_14
theorem hdX9_held : yX9_held.cls ≠ "java/lang/invoke/MethodHandle" ∧ yX9_held.cls ≠ "java/lang/invoke/VarHandle" ∧ (parseMethodDescriptor yX9_held.desc).map (fun d => d.parameters.length) = some 1 := by decide +kernel
set_option maxRecDepth 100000 in
set_option maxHeartbeats 4000000 in
theorem ctX9_held (l : Launch) (E : Ev) (a0 : Int) (σ : SS) (Q : Int → SS → Prop) (ha0 : R64 a0) (h : wX9_held a0 σ Q) : Met l yX9_held wsX9_held ({ frames := 0, cells := 0, slots := 0, locals := 0 } : Room) (Pc E σ [.long (lI (a0))]) (Qi E (sz σ) σ Q) 0 0 (Av E) := by
  rw [wX9_held] at h
  refine Met.ofW (cc := cX9_held) (maxL := 2) (ret := (some .int)) (by decide) rfl ?_
  intro p e s m args below meth c s₁ B hml hv
  obtain ⟨rfl, hH, hK, hN⟩ := hv
  have hx := B.exec
  have hb := B.bytes
  have hr := B.returns
  have hts := atoms_spec (ws := wsX9_held) B.pre
  have hown : s.vm.findClass RX9 = some m.cls := findClass_of_methodNamed B.named
  have hlocks := B.notSynchronized
  have hg : GS E σ s s.heap [] := ⟨hH, va_S.rf⟩
  have hm : Mo (sz σ) σ σ := Mo.rf (Nat.le_refl _)
  have hl := lv_entry ([.long (lI (a0))]) (n := 2) (Nat.le_of_ble_eq_true rfl)
  rw [lg_entry_eq]
  generalize (lg_sl ([.long (lI (a0))]) ++ List.replicate (2 - (lg_sl ([.long (lI (a0))])).length) Slot.unset).toArray = ls at hl ⊢
  have hl : lv_has ls 2 [(0, .long (lI (a0)))] := hl
  refine lv_lload_n hx hb dX9_held_0 rfl (lv_at hl 0 rfl) ?_
  refine q_ldc2 (z := (-1000000)) hx hb hown (hts (.constantLong RX9 62 (-1000000)) (List.mem_cons_of_mem _ (List.mem_of_getElem? (i := 0) rfl))) (by decide) dX9_held_1 ?_
  refine l_ge (tgt := 14) hx hb dX9_held_4 dX9_held_5 (by decide) ha0 (by decide) (fun c1 => ?_) (fun c1 => ?_)
  · have h := h.1 c1
    refine lv_lload_n hx hb dX9_held_14 rfl (lv_at hl 0 rfl) ?_
    refine q_ldc2 (z := 1000000) hx hb hown (hts (.constantLong RX9 64 (1000000)) (List.mem_cons_of_mem _ (List.mem_of_getElem? (i := 1) rfl))) (by decide) dX9_held_15 ?_
    refine l_le (tgt := 28) hx hb dX9_held_18 dX9_held_19 (by decide) ha0 (by decide) (fun c2 => ?_) (fun c2 => ?_)
    · have h := h.1 c2
      refine lv_lload_n hx hb dX9_held_28 rfl (lv_at hl 0 rfl) ?_
      refine q_l2i hx hb dX9_held_29 ?_
      obtain ⟨hR3, h⟩ := h
      exact ret_i hx hb hr hlocks hg hR3 hm h dX9_held_30
    · have h := h.2 c2
      refine q_ldc2 (z := 1000000) hx hb hown (hts (.constantLong RX9 64 (1000000)) (List.mem_cons_of_mem _ (List.mem_of_getElem? (i := 1) rfl))) (by decide) dX9_held_22 ?_
      refine lv_goto (tgt := 29) hx hb dX9_held_25 (by decide) ?_
      refine q_l2i hx hb dX9_held_29 ?_
      obtain ⟨hR4, h⟩ := h
      exact ret_i hx hb hr hlocks hg hR4 hm h dX9_held_30
  · have h := h.2 c1
    refine q_ldc2 (z := (-1000000)) hx hb hown (hts (.constantLong RX9 62 (-1000000)) (List.mem_cons_of_mem _ (List.mem_of_getElem? (i := 0) rfl))) (by decide) dX9_held_8 ?_
    refine lv_goto (tgt := 29) hx hb dX9_held_11 (by decide) ?_
    refine q_l2i hx hb dX9_held_29 ?_
    obtain ⟨hR5, h⟩ := h
    exact ret_i hx hb hr hlocks hg hR5 hm h dX9_held_30
theorem hdX9_isMap : yX9_isMap.cls ≠ "java/lang/invoke/MethodHandle" ∧ yX9_isMap.cls ≠ "java/lang/invoke/VarHandle" ∧ (parseMethodDescriptor yX9_isMap.desc).map (fun d => d.parameters.length) = some 1 := by decide +kernel
set_option maxRecDepth 100000 in
set_option maxHeartbeats 4000000 in
theorem ctX9_isMap (l : Launch) (E : Ev) (a0 : Int) (σ : SS) (Q : Int → SS → Prop) (ha0 : R32 a0) (h : wX9_isMap a0 σ Q) : Met l yX9_isMap wsX9_isMap ({ frames := 1, cells := 0, slots := 0, locals := 25 } : Room) (Pc E σ [.int (iI (a0))]) (Qz E (sz σ) σ Q) 0 0 (Av E) := by
  rw [wX9_isMap] at h
  refine Met.ofW (cc := cX9_isMap) (maxL := 1) (ret := (some .boolean)) (by decide) rfl ?_
  intro p e s m args below meth c s₁ B hml hv
  obtain ⟨rfl, hH, hK, hN⟩ := hv
  have hx := B.exec
  have hb := B.bytes
  have hr := B.returns
  have hts := atoms_spec (ws := wsX9_isMap) B.pre
  have hown : s.vm.findClass RX9 = some m.cls := findClass_of_methodNamed B.named
  have hlocks := B.notSynchronized
  have hg : GS E σ s s.heap [] := ⟨hH, va_S.rf⟩
  have hm : Mo (sz σ) σ σ := Mo.rf (Nat.le_refl _)
  have hl := ent (vs := [.int (iI (a0))]) (n := 1) (cats_i cats_nil) (Nat.le_of_ble_eq_true rfl)
  rw [lg_entry_eq]
  generalize (lg_sl ([.int (iI (a0))]) ++ List.replicate (1 - (lg_sl ([.int (iI (a0))])).length) Slot.unset).toArray = ls at hl ⊢
  have hl : lv_has ls 1 [(0, .int (iI (a0)))] := hl
  refine lv_iload_n hx hb dX9_isMap_0 rfl (lv_at hl 0 rfl) ?_
  refine q_i2l hx hb ha0 dX9_isMap_1 ?_
  refine lv_lconst (v := lI 0) hx hb dX9_isMap_2 (by decide) ?_
  refine q_ldc2 (z := 5) hx hb hown (hts (.constantLong RX9 66 (5)) (List.mem_cons_of_mem _ (List.mem_of_getElem? (i := 0) rfl))) (by decide) dX9_isMap_3 ?_
  refine call_z (run_S (As := [.long (lI (a0)), .long (lI (0)), .long (lI (5))]) (rest := []) ⟨hx, hb, hml, hown, hts⟩ (ctX9_in l E a0 0 5 σ _ (R64_of ha0) (by decide) (by decide) h) (va_cwS 3 hts gX9_isMap_X9_in rfl rfl rfl hdX9_in ⟨Nat.le_of_ble_eq_true rfl, Nat.le_of_ble_eq_true rfl⟩) hK hN hg rfl hl.1 rfl (cat_sum _ (by simp)) dX9_isMap_6 ⟨Nat.le_refl 0, Nat.le_refl 0⟩) hg (fun r2 s1 H locs hz3 hm2 h hg => ?_)
  have hm := hm.tn hm2
  exact ret_z hx hb hr hlocks hg hz3 hm h dX9_isMap_9
theorem hdX9_isKey : yX9_isKey.cls ≠ "java/lang/invoke/MethodHandle" ∧ yX9_isKey.cls ≠ "java/lang/invoke/VarHandle" ∧ (parseMethodDescriptor yX9_isKey.desc).map (fun d => d.parameters.length) = some 1 := by decide +kernel
set_option maxRecDepth 100000 in
set_option maxHeartbeats 4000000 in
theorem ctX9_isKey (l : Launch) (E : Ev) (a0 : Int) (σ : SS) (Q : Int → SS → Prop) (ha0 : R32 a0) (h : wX9_isKey a0 σ Q) : Met l yX9_isKey wsX9_isKey ({ frames := 1, cells := 0, slots := 0, locals := 25 } : Room) (Pc E σ [.int (iI (a0))]) (Qz E (sz σ) σ Q) 0 0 (Av E) := by
  rw [wX9_isKey] at h
  refine Met.ofW (cc := cX9_isKey) (maxL := 1) (ret := (some .boolean)) (by decide) rfl ?_
  intro p e s m args below meth c s₁ B hml hv
  obtain ⟨rfl, hH, hK, hN⟩ := hv
  have hx := B.exec
  have hb := B.bytes
  have hr := B.returns
  have hts := atoms_spec (ws := wsX9_isKey) B.pre
  have hown : s.vm.findClass RX9 = some m.cls := findClass_of_methodNamed B.named
  have hlocks := B.notSynchronized
  have hg : GS E σ s s.heap [] := ⟨hH, va_S.rf⟩
  have hm : Mo (sz σ) σ σ := Mo.rf (Nat.le_refl _)
  have hl := ent (vs := [.int (iI (a0))]) (n := 1) (cats_i cats_nil) (Nat.le_of_ble_eq_true rfl)
  rw [lg_entry_eq]
  generalize (lg_sl ([.int (iI (a0))]) ++ List.replicate (1 - (lg_sl ([.int (iI (a0))])).length) Slot.unset).toArray = ls at hl ⊢
  have hl : lv_has ls 1 [(0, .int (iI (a0)))] := hl
  refine lv_iload_n hx hb dX9_isKey_0 rfl (lv_at hl 0 rfl) ?_
  refine q_i2l hx hb ha0 dX9_isKey_1 ?_
  refine q_ldc2 (z := (-500)) hx hb hown (hts (.constantLong RX9 72 (-500)) (List.mem_cons_of_mem _ (List.mem_of_getElem? (i := 0) rfl))) (by decide) dX9_isKey_2 ?_
  refine q_ldc2 (z := 500) hx hb hown (hts (.constantLong RX9 74 (500)) (List.mem_cons_of_mem _ (List.mem_of_getElem? (i := 1) rfl))) (by decide) dX9_isKey_5 ?_
  refine call_z (run_S (As := [.long (lI (a0)), .long (lI ((-500))), .long (lI (500))]) (rest := []) ⟨hx, hb, hml, hown, hts⟩ (ctX9_in l E a0 (-500) 500 σ _ (R64_of ha0) (by decide) (by decide) h) (va_cwS 3 hts gX9_isKey_X9_in rfl rfl rfl hdX9_in ⟨Nat.le_of_ble_eq_true rfl, Nat.le_of_ble_eq_true rfl⟩) hK hN hg rfl hl.1 rfl (cat_sum _ (by simp)) dX9_isKey_8 ⟨Nat.le_refl 0, Nat.le_refl 0⟩) hg (fun r2 s1 H locs hz3 hm2 h hg => ?_)
  have hm := hm.tn hm2
  exact ret_z hx hb hr hlocks hg hz3 hm h dX9_isKey_11
theorem hdX9_isRange : yX9_isRange.cls ≠ "java/lang/invoke/MethodHandle" ∧ yX9_isRange.cls ≠ "java/lang/invoke/VarHandle" ∧ (parseMethodDescriptor yX9_isRange.desc).map (fun d => d.parameters.length) = some 2 := by decide +kernel
set_option maxRecDepth 100000 in
set_option maxHeartbeats 4000000 in
theorem ctX9_isRange (l : Launch) (E : Ev) (a0 : Int) (a1 : Int) (σ : SS) (Q : Int → SS → Prop) (ha0 : R32 a0) (ha1 : R32 a1) (h : wX9_isRange a0 a1 σ Q) : Met l yX9_isRange wsX9_isRange ({ frames := 2, cells := 0, slots := 0, locals := 45 } : Room) (Pc E σ [.int (iI (a0)), .int (iI (a1))]) (Qz E (sz σ) σ Q) 0 0 (Av E) := by
  rw [wX9_isRange] at h
  refine Met.ofW (cc := cX9_isRange) (maxL := 2) (ret := (some .boolean)) (by decide) rfl ?_
  intro p e s m args below meth c s₁ B hml hv
  obtain ⟨rfl, hH, hK, hN⟩ := hv
  have hx := B.exec
  have hb := B.bytes
  have hr := B.returns
  have hts := atoms_spec (ws := wsX9_isRange) B.pre
  have hown : s.vm.findClass RX9 = some m.cls := findClass_of_methodNamed B.named
  have hlocks := B.notSynchronized
  have hg : GS E σ s s.heap [] := ⟨hH, va_S.rf⟩
  have hm : Mo (sz σ) σ σ := Mo.rf (Nat.le_refl _)
  have hl := ent (vs := [.int (iI (a0)), .int (iI (a1))]) (n := 2) (cats_i (cats_i cats_nil)) (Nat.le_of_ble_eq_true rfl)
  rw [lg_entry_eq]
  generalize (lg_sl ([.int (iI (a0)), .int (iI (a1))]) ++ List.replicate (2 - (lg_sl ([.int (iI (a0)), .int (iI (a1))])).length) Slot.unset).toArray = ls at hl ⊢
  have hl : lv_has ls 2 [(0, .int (iI (a0))), (1, .int (iI (a1)))] := hl
  refine lv_iload_n hx hb dX9_isRange_0 rfl (lv_at hl 0 rfl) ?_
  refine call_z (run_S (As := [.int (iI (a0))]) (rest := []) ⟨hx, hb, hml, hown, hts⟩ (ctX9_isKey l E a0 σ _ ha0 h) (va_cwS 1 hts gX9_isRange_X9_isKey rfl rfl rfl hdX9_isKey ⟨Nat.le_of_ble_eq_true rfl, Nat.le_of_ble_eq_true rfl⟩) hK hN hg rfl hl.1 rfl (cat_sum _ (by simp)) dX9_isRange_1 ⟨Nat.le_refl 0, Nat.le_refl 0⟩) hg (fun r2 s1 H locs hz3 hm2 h hg => ?_)
  have hm := hm.tn hm2
  refine k_eq (tgt := 23) hx hb dX9_isRange_4 (by decide) (z_R hz3) (fun c4 => ?_) (fun c4 => ?_)
  · have h := h.1 c4
    refine lv_iconst (v := iI 0) hx hb dX9_isRange_23 (by decide) ?_
    exact ret_z hx hb hr hlocks hg (by decide) hm h dX9_isRange_24
  · have h := h.2 c4
    refine lv_iload_n hx hb dX9_isRange_7 rfl (lv_at hl 1 rfl) ?_
    refine call_z (run_S (As := [.int (iI (a1))]) (rest := []) ⟨hx, hb, hml, hown, hts⟩ (ctX9_isKey l E a1 s1 _ ha1 h) (va_cwS 1 hts gX9_isRange_X9_isKey rfl rfl rfl hdX9_isKey ⟨Nat.le_of_ble_eq_true rfl, Nat.le_of_ble_eq_true rfl⟩) hK hN hg rfl hl.1 rfl (cat_sum _ (by simp)) dX9_isRange_8 ⟨Nat.le_refl 0, Nat.le_refl 0⟩) hg (fun r6 s5 H locs hz7 hm2 h hg => ?_)
    have hm := hm.tn hm2
    refine k_eq (tgt := 23) hx hb dX9_isRange_11 (by decide) (z_R hz7) (fun c8 => ?_) (fun c8 => ?_)
    · have h := h.1 c8
      refine lv_iconst (v := iI 0) hx hb dX9_isRange_23 (by decide) ?_
      exact ret_z hx hb hr hlocks hg (by decide) hm h dX9_isRange_24
    · have h := h.2 c8
      refine lv_iload_n hx hb dX9_isRange_14 rfl (lv_at hl 0 rfl) ?_
      refine lv_iload_n hx hb dX9_isRange_15 rfl (lv_at hl 1 rfl) ?_
      refine j_gt (tgt := 23) hx hb dX9_isRange_16 (by decide) ha0 ha1 (fun c9 => ?_) (fun c9 => ?_)
      · have h := h.1 c9
        refine lv_iconst (v := iI 0) hx hb dX9_isRange_23 (by decide) ?_
        exact ret_z hx hb hr hlocks hg (by decide) hm h dX9_isRange_24
      · have h := h.2 c9
        refine lv_iconst (v := iI 1) hx hb dX9_isRange_19 (by decide) ?_
        refine lv_goto (tgt := 24) hx hb dX9_isRange_20 (by decide) ?_
        exact ret_z hx hb hr hlocks hg (by decide) hm h dX9_isRange_24
theorem hdX9_entry : yX9_entry.cls ≠ "java/lang/invoke/MethodHandle" ∧ yX9_entry.cls ≠ "java/lang/invoke/VarHandle" ∧ (parseMethodDescriptor yX9_entry.desc).map (fun d => d.parameters.length) = some 2 := by decide +kernel
set_option maxRecDepth 100000 in
set_option maxHeartbeats 4000000 in
theorem ctX9_entry (l : Launch) (E : Ev) (a0 : Int) (a1 : Int) (σ : SS) (Q : Int → SS → Prop) (ha0 : R32 a0) (ha1 : R32 a1) (h : wX9_entry a0 a1 σ Q) : Met l yX9_entry wsX9_entry ({ frames := 0, cells := 0, slots := 0, locals := 0 } : Room) (Pc E σ [.int (iI (a0)), .int (iI (a1))]) (Qi E (sz σ) σ Q) 0 0 (Av E) := by
  rw [wX9_entry] at h
  refine Met.ofW (cc := cX9_entry) (maxL := 2) (ret := (some .int)) (by decide) rfl ?_
  intro p e s m args below meth c s₁ B hml hv
  obtain ⟨rfl, hH, hK, hN⟩ := hv
  have hx := B.exec
  have hb := B.bytes
  have hr := B.returns
  have hts := atoms_spec (ws := wsX9_entry) B.pre
  have hown : s.vm.findClass RX9 = some m.cls := findClass_of_methodNamed B.named
  have hlocks := B.notSynchronized
  have hg : GS E σ s s.heap [] := ⟨hH, va_S.rf⟩
  have hm : Mo (sz σ) σ σ := Mo.rf (Nat.le_refl _)
  have hl := ent (vs := [.int (iI (a0)), .int (iI (a1))]) (n := 2) (cats_i (cats_i cats_nil)) (Nat.le_of_ble_eq_true rfl)
  rw [lg_entry_eq]
  generalize (lg_sl ([.int (iI (a0)), .int (iI (a1))]) ++ List.replicate (2 - (lg_sl ([.int (iI (a0)), .int (iI (a1))])).length) Slot.unset).toArray = ls at hl ⊢
  have hl : lv_has ls 2 [(0, .int (iI (a0))), (1, .int (iI (a1)))] := hl
  refine lv_iload_n hx hb dX9_entry_0 rfl (lv_at hl 0 rfl) ?_
  refine lv_sipush (v := iI (-500)) hx hb dX9_entry_1 (by decide) ?_
  refine q_isub hx hb dX9_entry_4 ?_
  refine lv_bipush (v := iI 21) hx hb dX9_entry_5 (by decide) ?_
  obtain ⟨hP1, hP2, hP3, h⟩ := h
  refine q_ishl hx hb hP1 hP2 hP3 dX9_entry_7 ?_
  refine lv_iload_n hx hb dX9_entry_8 rfl (lv_at hl 1 rfl) ?_
  refine q_ldc (z := 1000000) hx hb hown (hts (.constant RX9 80 (1000000)) (List.mem_cons_of_mem _ (List.mem_of_getElem? (i := 0) rfl))) (by decide) dX9_entry_9 ?_
  refine q_iadd hx hb dX9_entry_11 ?_
  obtain ⟨hP4, hP5, h⟩ := h
  refine q_ior hx hb hP4 hP5 dX9_entry_12 ?_
  obtain ⟨hR6, h⟩ := h
  exact ret_i hx hb hr hlocks hg hR6 hm h dX9_entry_13
theorem hdX9_keyOf : yX9_keyOf.cls ≠ "java/lang/invoke/MethodHandle" ∧ yX9_keyOf.cls ≠ "java/lang/invoke/VarHandle" ∧ (parseMethodDescriptor yX9_keyOf.desc).map (fun d => d.parameters.length) = some 1 := by decide +kernel
set_option maxRecDepth 100000 in
set_option maxHeartbeats 4000000 in
theorem ctX9_keyOf (l : Launch) (E : Ev) (a0 : Int) (σ : SS) (Q : Int → SS → Prop) (ha0 : R32 a0) (h : wX9_keyOf a0 σ Q) : Met l yX9_keyOf wsX9_keyOf ({ frames := 0, cells := 0, slots := 0, locals := 0 } : Room) (Pc E σ [.int (iI (a0))]) (Qi E (sz σ) σ Q) 0 0 (Av E) := by
  rw [wX9_keyOf] at h
  refine Met.ofW (cc := cX9_keyOf) (maxL := 1) (ret := (some .int)) (by decide) rfl ?_
  intro p e s m args below meth c s₁ B hml hv
  obtain ⟨rfl, hH, hK, hN⟩ := hv
  have hx := B.exec
  have hb := B.bytes
  have hr := B.returns
  have hts := atoms_spec (ws := wsX9_keyOf) B.pre
  have hown : s.vm.findClass RX9 = some m.cls := findClass_of_methodNamed B.named
  have hlocks := B.notSynchronized
  have hg : GS E σ s s.heap [] := ⟨hH, va_S.rf⟩
  have hm : Mo (sz σ) σ σ := Mo.rf (Nat.le_refl _)
  have hl := ent (vs := [.int (iI (a0))]) (n := 1) (cats_i cats_nil) (Nat.le_of_ble_eq_true rfl)
  rw [lg_entry_eq]
  generalize (lg_sl ([.int (iI (a0))]) ++ List.replicate (1 - (lg_sl ([.int (iI (a0))])).length) Slot.unset).toArray = ls at hl ⊢
  have hl : lv_has ls 1 [(0, .int (iI (a0)))] := hl
  refine lv_iload_n hx hb dX9_keyOf_0 rfl (lv_at hl 0 rfl) ?_
  refine lv_bipush (v := iI 21) hx hb dX9_keyOf_1 (by decide) ?_
  obtain ⟨hP1, h⟩ := h
  refine q_ishr hx hb hP1 dX9_keyOf_3 ?_
  refine lv_sipush (v := iI (-500)) hx hb dX9_keyOf_4 (by decide) ?_
  refine q_iadd hx hb dX9_keyOf_7 ?_
  obtain ⟨hR2, h⟩ := h
  exact ret_i hx hb hr hlocks hg hR2 hm h dX9_keyOf_8
theorem hdX9_valueOf : yX9_valueOf.cls ≠ "java/lang/invoke/MethodHandle" ∧ yX9_valueOf.cls ≠ "java/lang/invoke/VarHandle" ∧ (parseMethodDescriptor yX9_valueOf.desc).map (fun d => d.parameters.length) = some 1 := by decide +kernel
set_option maxRecDepth 100000 in
set_option maxHeartbeats 4000000 in
theorem ctX9_valueOf (l : Launch) (E : Ev) (a0 : Int) (σ : SS) (Q : Int → SS → Prop) (ha0 : R32 a0) (h : wX9_valueOf a0 σ Q) : Met l yX9_valueOf wsX9_valueOf ({ frames := 0, cells := 0, slots := 0, locals := 0 } : Room) (Pc E σ [.int (iI (a0))]) (Qi E (sz σ) σ Q) 0 0 (Av E) := by
  rw [wX9_valueOf] at h
  refine Met.ofW (cc := cX9_valueOf) (maxL := 1) (ret := (some .int)) (by decide) rfl ?_
  intro p e s m args below meth c s₁ B hml hv
  obtain ⟨rfl, hH, hK, hN⟩ := hv
  have hx := B.exec
  have hb := B.bytes
  have hr := B.returns
  have hts := atoms_spec (ws := wsX9_valueOf) B.pre
  have hown : s.vm.findClass RX9 = some m.cls := findClass_of_methodNamed B.named
  have hlocks := B.notSynchronized
  have hg : GS E σ s s.heap [] := ⟨hH, va_S.rf⟩
  have hm : Mo (sz σ) σ σ := Mo.rf (Nat.le_refl _)
  have hl := ent (vs := [.int (iI (a0))]) (n := 1) (cats_i cats_nil) (Nat.le_of_ble_eq_true rfl)
  rw [lg_entry_eq]
  generalize (lg_sl ([.int (iI (a0))]) ++ List.replicate (1 - (lg_sl ([.int (iI (a0))])).length) Slot.unset).toArray = ls at hl ⊢
  have hl : lv_has ls 1 [(0, .int (iI (a0)))] := hl
  refine lv_iload_n hx hb dX9_valueOf_0 rfl (lv_at hl 0 rfl) ?_
  refine q_ldc (z := 2097151) hx hb hown (hts (.constant RX9 81 (2097151)) (List.mem_cons_of_mem _ (List.mem_of_getElem? (i := 0) rfl))) (by decide) dX9_valueOf_1 ?_
  obtain ⟨hP1, hP2, h⟩ := h
  refine q_iand hx hb hP1 hP2 dX9_valueOf_3 ?_
  refine q_ldc (z := 1000000) hx hb hown (hts (.constant RX9 80 (1000000)) (List.mem_cons_of_mem _ (List.mem_of_getElem? (i := 1) rfl))) (by decide) dX9_valueOf_4 ?_
  refine q_isub hx hb dX9_valueOf_6 ?_
  obtain ⟨hR3, h⟩ := h
  exact ret_i hx hb hr hlocks hg hR3 hm h dX9_valueOf_7
theorem hdX9_keyAt : yX9_keyAt.cls ≠ "java/lang/invoke/MethodHandle" ∧ yX9_keyAt.cls ≠ "java/lang/invoke/VarHandle" ∧ (parseMethodDescriptor yX9_keyAt.desc).map (fun d => d.parameters.length) = some 2 := by decide +kernel
set_option maxRecDepth 100000 in
set_option maxHeartbeats 4000000 in
theorem ctX9_keyAt (l : Launch) (E : Ev) (a1 : Int) (a2 : Int) (σ : SS) (Q : Int → SS → Prop) (ha1 : R32 a1) (ha2 : R32 a2) (h : wX9_keyAt a1 a2 σ Q) : Met l yX9_keyAt wsX9_keyAt ({ frames := 1, cells := 0, slots := 0, locals := 20 } : Room) (Pc E σ [.ref (ea E 21), .int (iI (a1)), .int (iI (a2))]) (Qi E (sz σ) σ Q) 0 0 (Av E) := by
  rw [wX9_keyAt] at h
  refine Met.ofW (cc := cX9_keyAt) (maxL := 3) (ret := (some .int)) (by decide) rfl ?_
  intro p e s m args below meth c s₁ B hml hv
  obtain ⟨rfl, hH, hK, hN⟩ := hv
  have hx := B.exec
  have hb := B.bytes
  have hr := B.returns
  have hts := atoms_spec (ws := wsX9_keyAt) B.pre
  have hown : s.vm.findClass RX9 = some m.cls := findClass_of_methodNamed B.named
  have hlocks := B.notSynchronized
  have hg : GS E σ s s.heap [] := ⟨hH, va_S.rf⟩
  have hm : Mo (sz σ) σ σ := Mo.rf (Nat.le_refl _)
  have hl := ent (vs := [.ref (ea E 21), .int (iI (a1)), .int (iI (a2))]) (n := 3) (cats_x (cats_i (cats_i cats_nil))) (Nat.le_of_ble_eq_true rfl)
  rw [lg_entry_eq]
  generalize (lg_sl ([.ref (ea E 21), .int (iI (a1)), .int (iI (a2))]) ++ List.replicate (3 - (lg_sl ([.ref (ea E 21), .int (iI (a1)), .int (iI (a2))])).length) Slot.unset).toArray = ls at hl ⊢
  have hl : lv_has ls 3 [(0, .ref (ea E 21)), (1, .int (iI (a1))), (2, .int (iI (a2)))] := hl
  refine lv_aload_n hx hb dX9_keyAt_0 rfl (lv_at hl 0 rfl) ?_
  refine q_getx (ci := 9) (C := RX9) (T := TX9) (N := 27) (j := 22) hx hb hts (fun _ h9 => List.mem_cons_of_mem _ (List.mem_append_right _ h9)) hown hK hg 21 (by decide) rfl rfl (by decide) rfl 0 (by decide) (hts (.fieldLink RX9 7 "JoinMapsModel" "rows" "[I") (List.mem_cons_of_mem _ (List.mem_append_left _ (List.mem_of_getElem? (i := 0) rfl)))) rfl rfl rfl dX9_keyAt_1 ?_
  refine lv_sipush (v := iI 200) hx hb dX9_keyAt_4 (by decide) ?_
  refine lv_iload_n hx hb dX9_keyAt_7 rfl (lv_at hl 1 rfl) ?_
  refine q_imul hx hb dX9_keyAt_8 ?_
  refine lv_iload_n hx hb dX9_keyAt_9 rfl (lv_at hl 2 rfl) ?_
  refine q_iadd hx hb dX9_keyAt_10 ?_
  obtain ⟨hP1, hP2, h⟩ := h
  refine q_iald (N := 1200) hx hb hK hg 22 (by decide) rfl rfl hP1 hP2 (by decide) dX9_keyAt_11 ?_
  have hR3 := GS_R hg 22 (((200 * a1) + a2) : Int).toNat
  refine call_i (run_S (As := [.int (iI ((sn σ 22 (((200 * a1) + a2) : Int).toNat)))]) (rest := []) ⟨hx, hb, hml, hown, hts⟩ (ctX9_keyOf l E (sn σ 22 (((200 * a1) + a2) : Int).toNat) σ _ hR3 h) (va_cwS 1 hts gX9_keyAt_X9_keyOf rfl rfl rfl hdX9_keyOf ⟨Nat.le_of_ble_eq_true rfl, Nat.le_of_ble_eq_true rfl⟩) hK hN hg rfl hl.1 rfl (cat_sum _ (by simp)) dX9_keyAt_12 ⟨Nat.le_refl 0, Nat.le_refl 0⟩) hg (fun r5 s4 H locs hz6 hm2 h hg => ?_)
  have hm := hm.tn hm2
  exact ret_i hx hb hr hlocks hg hz6 hm h dX9_keyAt_15
theorem hdX9_valueAt : yX9_valueAt.cls ≠ "java/lang/invoke/MethodHandle" ∧ yX9_valueAt.cls ≠ "java/lang/invoke/VarHandle" ∧ (parseMethodDescriptor yX9_valueAt.desc).map (fun d => d.parameters.length) = some 2 := by decide +kernel
set_option maxRecDepth 100000 in
set_option maxHeartbeats 4000000 in
theorem ctX9_valueAt (l : Launch) (E : Ev) (a1 : Int) (a2 : Int) (σ : SS) (Q : Int → SS → Prop) (ha1 : R32 a1) (ha2 : R32 a2) (h : wX9_valueAt a1 a2 σ Q) : Met l yX9_valueAt wsX9_valueAt ({ frames := 1, cells := 0, slots := 0, locals := 20 } : Room) (Pc E σ [.ref (ea E 21), .int (iI (a1)), .int (iI (a2))]) (Qi E (sz σ) σ Q) 0 0 (Av E) := by
  rw [wX9_valueAt] at h
  refine Met.ofW (cc := cX9_valueAt) (maxL := 3) (ret := (some .int)) (by decide) rfl ?_
  intro p e s m args below meth c s₁ B hml hv
  obtain ⟨rfl, hH, hK, hN⟩ := hv
  have hx := B.exec
  have hb := B.bytes
  have hr := B.returns
  have hts := atoms_spec (ws := wsX9_valueAt) B.pre
  have hown : s.vm.findClass RX9 = some m.cls := findClass_of_methodNamed B.named
  have hlocks := B.notSynchronized
  have hg : GS E σ s s.heap [] := ⟨hH, va_S.rf⟩
  have hm : Mo (sz σ) σ σ := Mo.rf (Nat.le_refl _)
  have hl := ent (vs := [.ref (ea E 21), .int (iI (a1)), .int (iI (a2))]) (n := 3) (cats_x (cats_i (cats_i cats_nil))) (Nat.le_of_ble_eq_true rfl)
  rw [lg_entry_eq]
  generalize (lg_sl ([.ref (ea E 21), .int (iI (a1)), .int (iI (a2))]) ++ List.replicate (3 - (lg_sl ([.ref (ea E 21), .int (iI (a1)), .int (iI (a2))])).length) Slot.unset).toArray = ls at hl ⊢
  have hl : lv_has ls 3 [(0, .ref (ea E 21)), (1, .int (iI (a1))), (2, .int (iI (a2)))] := hl
  refine lv_aload_n hx hb dX9_valueAt_0 rfl (lv_at hl 0 rfl) ?_
  refine q_getx (ci := 9) (C := RX9) (T := TX9) (N := 27) (j := 22) hx hb hts (fun _ h9 => List.mem_cons_of_mem _ (List.mem_append_right _ h9)) hown hK hg 21 (by decide) rfl rfl (by decide) rfl 0 (by decide) (hts (.fieldLink RX9 7 "JoinMapsModel" "rows" "[I") (List.mem_cons_of_mem _ (List.mem_append_left _ (List.mem_of_getElem? (i := 0) rfl)))) rfl rfl rfl dX9_valueAt_1 ?_
  refine lv_sipush (v := iI 200) hx hb dX9_valueAt_4 (by decide) ?_
  refine lv_iload_n hx hb dX9_valueAt_7 rfl (lv_at hl 1 rfl) ?_
  refine q_imul hx hb dX9_valueAt_8 ?_
  refine lv_iload_n hx hb dX9_valueAt_9 rfl (lv_at hl 2 rfl) ?_
  refine q_iadd hx hb dX9_valueAt_10 ?_
  obtain ⟨hP1, hP2, h⟩ := h
  refine q_iald (N := 1200) hx hb hK hg 22 (by decide) rfl rfl hP1 hP2 (by decide) dX9_valueAt_11 ?_
  have hR3 := GS_R hg 22 (((200 * a1) + a2) : Int).toNat
  refine call_i (run_S (As := [.int (iI ((sn σ 22 (((200 * a1) + a2) : Int).toNat)))]) (rest := []) ⟨hx, hb, hml, hown, hts⟩ (ctX9_valueOf l E (sn σ 22 (((200 * a1) + a2) : Int).toNat) σ _ hR3 h) (va_cwS 1 hts gX9_valueAt_X9_valueOf rfl rfl rfl hdX9_valueOf ⟨Nat.le_of_ble_eq_true rfl, Nat.le_of_ble_eq_true rfl⟩) hK hN hg rfl hl.1 rfl (cat_sum _ (by simp)) dX9_valueAt_12 ⟨Nat.le_refl 0, Nat.le_refl 0⟩) hg (fun r5 s4 H locs hz6 hm2 h hg => ?_)
  have hm := hm.tn hm2
  exact ret_i hx hb hr hlocks hg hz6 hm h dX9_valueAt_15
theorem hdX9_below : yX9_below.cls ≠ "java/lang/invoke/MethodHandle" ∧ yX9_below.cls ≠ "java/lang/invoke/VarHandle" ∧ (parseMethodDescriptor yX9_below.desc).map (fun d => d.parameters.length) = some 2 := by decide +kernel
set_option maxRecDepth 100000 in
set_option maxHeartbeats 4000000 in
theorem ctX9_below (l : Launch) (E : Ev) (a1 : Int) (a2 : Int) (σ : SS) (Q : Int → SS → Prop) (ha1 : R32 a1) (ha2 : R32 a2) (h : wX9_below a1 a2 σ Q) : Met l yX9_below wsX9_below ({ frames := 2, cells := 0, slots := 0, locals := 42 } : Room) (Pc E σ [.ref (ea E 21), .int (iI (a1)), .int (iI (a2))]) (Qi E (sz σ) σ Q) 0 0 (Av E) := by
  rw [wX9_below] at h
  refine Met.ofW (cc := cX9_below) (maxL := 4) (ret := (some .int)) (by decide) rfl ?_
  intro p e s m args below meth c s₁ B hml hv
  obtain ⟨rfl, hH, hK, hN⟩ := hv
  have hx := B.exec
  have hb := B.bytes
  have hr := B.returns
  have hts := atoms_spec (ws := wsX9_below) B.pre
  have hown : s.vm.findClass RX9 = some m.cls := findClass_of_methodNamed B.named
  have hlocks := B.notSynchronized
  have hg : GS E σ s s.heap [] := ⟨hH, va_S.rf⟩
  have hm : Mo (sz σ) σ σ := Mo.rf (Nat.le_refl _)
  have hl := ent (vs := [.ref (ea E 21), .int (iI (a1)), .int (iI (a2))]) (n := 4) (cats_x (cats_i (cats_i cats_nil))) (Nat.le_of_ble_eq_true rfl)
  rw [lg_entry_eq]
  generalize (lg_sl ([.ref (ea E 21), .int (iI (a1)), .int (iI (a2))]) ++ List.replicate (4 - (lg_sl ([.ref (ea E 21), .int (iI (a1)), .int (iI (a2))])).length) Slot.unset).toArray = ls at hl ⊢
  have hl : lv_has ls 4 [(0, .ref (ea E 21)), (1, .int (iI (a1))), (2, .int (iI (a2)))] := hl
  have J2 : ∀ (k : Nat), ∀ (v3 : Int) (sL : SS) (H : Heap) (locs : List Loc) (ls : Array Slot), GS E sL s H locs → Mo (sz σ) σ sL → lv_has ls 4 [(0, .ref (ea E 21)), (1, .int (iI (a1))), (2, .int (iI (a2))), (3, .int (iI (v3)))] → wX9_below_L2 a1 a2 Q  k v3 sL → W p l e (headSpec wsX9_below ({ frames := 2, cells := 0, slots := 0, locals := 42 } : Room)).room s m (List.toArray [.ref (ea E 21), .int (iI (a1)), .int (iI (a2))]) below meth c H locs 0 0 (MQ below (Qi E (sz σ) σ Q) (List.toArray [.ref (ea E 21), .int (iI (a1)), .int (iI (a2))]) s 0 0 (Av E)) (F0 m 2 ls []) := by
    intro k
    induction k with
    | zero => intro v3 sL H locs ls hg hm hl h; exact False.elim h
    | succ k ih =>
      intro v3 sL H locs ls hg hm hl h
      rw [wX9_below_L2] at h
      refine lv_iload_n hx hb dX9_below_2 rfl (lv_at hl 3 rfl) ?_
      refine lv_aload_n hx hb dX9_below_3 rfl (lv_at hl 0 rfl) ?_
      refine q_getx (ci := 9) (C := RX9) (T := TX9) (N := 27) (j := 23) hx hb hts (fun _ h9 => List.mem_cons_of_mem _ (List.mem_append_right _ h9)) hown hK hg 21 (by decide) rfl rfl (by decide) rfl 1 (by decide) (hts (.fieldLink RX9 13 "JoinMapsModel" "sizes" "[I") (List.mem_cons_of_mem _ (List.mem_append_left _ (List.mem_of_getElem? (i := 0) rfl)))) rfl rfl rfl dX9_below_4 ?_
      refine lv_iload_n hx hb dX9_below_7 rfl (lv_at hl 1 rfl) ?_
      obtain ⟨hP1, hP2, h⟩ := h
      refine q_iald (N := 6) hx hb hK hg 23 (by decide) rfl rfl hP1 hP2 (by decide) dX9_below_8 ?_
      have hR3 := GS_R hg 23 (a1 : Int).toNat
      obtain ⟨hR4, h⟩ := h
      refine j_ge (tgt := 28) hx hb dX9_below_9 (by decide) hR4 hR3 (fun c5 => ?_) (fun c5 => ?_)
      · have h := h.1 c5
        refine lv_iload_n hx hb dX9_below_28 rfl (lv_at hl 3 rfl) ?_
        exact ret_i hx hb hr hlocks hg hR4 hm h dX9_below_29
      · have h := h.2 c5
        refine lv_aload_n hx hb dX9_below_12 rfl (lv_at hl 0 rfl) ?_
        refine lv_iload_n hx hb dX9_below_13 rfl (lv_at hl 1 rfl) ?_
        refine lv_iload_n hx hb dX9_below_14 rfl (lv_at hl 3 rfl) ?_
        refine call_i (run_V (a := ea E 21) (As := [.int (iI (a1)), .int (iI (v3))]) (rest := []) ⟨hx, hb, hml, hown, hts⟩ (ctX9_keyAt l E a1 v3 sL _ ha1 hR4 h) (cwV 2 hts gX9_below_X9_keyAt rfl rfl rfl ⟨rfl, hdX9_keyAt⟩ ⟨Nat.le_of_ble_eq_true rfl, Nat.le_of_ble_eq_true rfl⟩) hK hN hg (recv_x (ci := 9) (C := RX9) (T := TX9) (N := 27) hg hK (by decide) rfl (by decide) rfl) rfl hl.1 rfl (cat_sum _ (by simp)) dX9_below_15 ⟨Nat.le_refl 0, Nat.le_refl 0⟩) hg (fun r7 s6 H locs hz8 hm2 h hg => ?_)
        have hm := hm.tn hm2
        refine lv_iload_n hx hb dX9_below_18 rfl (lv_at hl 2 rfl) ?_
        refine j_ge (tgt := 28) hx hb dX9_below_19 (by decide) hz8 ha2 (fun c9 => ?_) (fun c9 => ?_)
        · have h := h.1 c9
          refine lv_iload_n hx hb dX9_below_28 rfl (lv_at hl 3 rfl) ?_
          exact ret_i hx hb hr hlocks hg hR4 hm h dX9_below_29
        · have h := h.2 c9
          refine lv_iinc (v := iI (v3 + 1)) (lv' := [(3, .int (iI (v3 + 1))), (0, .ref (ea E 21)), (1, .int (iI (a1))), (2, .int (iI (a2)))]) hx hb dX9_below_22 hl (k := 3) rfl (iI_add _ _) (by decide) rfl (fun ls hl => ?_)
          refine lv_goto (tgt := 2) hx hb dX9_below_25 (by decide) ?_
          exact ih (v3 + 1) (s6) _ _ _ hg hm (lv_sub hl [1, 2, 3, 0] rfl) h
  refine lv_iconst (v := iI 0) hx hb dX9_below_0 (by decide) ?_
  refine lv_istore_n (i := 3) (lv' := [(3, .int (iI (0))), (0, .ref (ea E 21)), (1, .int (iI (a1))), (2, .int (iI (a2)))]) hx hb dX9_below_1 rfl hl (by decide) rfl (fun ls hl => ?_)
  obtain ⟨kk, h⟩ := h
  exact J2  kk (0) (σ) _ _ _ hg hm (lv_sub hl [1, 2, 3, 0] rfl) h
theorem hdX9_isThere : yX9_isThere.cls ≠ "java/lang/invoke/MethodHandle" ∧ yX9_isThere.cls ≠ "java/lang/invoke/VarHandle" ∧ (parseMethodDescriptor yX9_isThere.desc).map (fun d => d.parameters.length) = some 3 := by decide +kernel
set_option maxRecDepth 100000 in
set_option maxHeartbeats 4000000 in
theorem ctX9_isThere (l : Launch) (E : Ev) (a1 : Int) (a2 : Int) (a3 : Int) (σ : SS) (Q : Int → SS → Prop) (ha1 : R32 a1) (ha2 : R32 a2) (ha3 : R32 a3) (h : wX9_isThere a1 a2 a3 σ Q) : Met l yX9_isThere wsX9_isThere ({ frames := 2, cells := 0, slots := 0, locals := 42 } : Room) (Pc E σ [.ref (ea E 21), .int (iI (a1)), .int (iI (a2)), .int (iI (a3))]) (Qz E (sz σ) σ Q) 0 0 (Av E) := by
  rw [wX9_isThere] at h
  refine Met.ofW (cc := cX9_isThere) (maxL := 4) (ret := (some .boolean)) (by decide) rfl ?_
  intro p e s m args below meth c s₁ B hml hv
  obtain ⟨rfl, hH, hK, hN⟩ := hv
  have hx := B.exec
  have hb := B.bytes
  have hr := B.returns
  have hts := atoms_spec (ws := wsX9_isThere) B.pre
  have hown : s.vm.findClass RX9 = some m.cls := findClass_of_methodNamed B.named
  have hlocks := B.notSynchronized
  have hg : GS E σ s s.heap [] := ⟨hH, va_S.rf⟩
  have hm : Mo (sz σ) σ σ := Mo.rf (Nat.le_refl _)
  have hl := ent (vs := [.ref (ea E 21), .int (iI (a1)), .int (iI (a2)), .int (iI (a3))]) (n := 4) (cats_x (cats_i (cats_i (cats_i cats_nil)))) (Nat.le_of_ble_eq_true rfl)
  rw [lg_entry_eq]
  generalize (lg_sl ([.ref (ea E 21), .int (iI (a1)), .int (iI (a2)), .int (iI (a3))]) ++ List.replicate (4 - (lg_sl ([.ref (ea E 21), .int (iI (a1)), .int (iI (a2)), .int (iI (a3))])).length) Slot.unset).toArray = ls at hl ⊢
  have hl : lv_has ls 4 [(0, .ref (ea E 21)), (1, .int (iI (a1))), (2, .int (iI (a2))), (3, .int (iI (a3)))] := hl
  refine lv_iload_n hx hb dX9_isThere_0 rfl (lv_at hl 2 rfl) ?_
  refine lv_aload_n hx hb dX9_isThere_1 rfl (lv_at hl 0 rfl) ?_
  refine q_getx (ci := 9) (C := RX9) (T := TX9) (N := 27) (j := 23) hx hb hts (fun _ h9 => List.mem_cons_of_mem _ (List.mem_append_right _ h9)) hown hK hg 21 (by decide) rfl rfl (by decide) rfl 1 (by decide) (hts (.fieldLink RX9 13 "JoinMapsModel" "sizes" "[I") (List.mem_cons_of_mem _ (List.mem_append_left _ (List.mem_of_getElem? (i := 0) rfl)))) rfl rfl rfl dX9_isThere_2 ?_
  refine lv_iload_n hx hb dX9_isThere_5 rfl (lv_at hl 1 rfl) ?_
  obtain ⟨hP1, hP2, h⟩ := h
  refine q_iald (N := 6) hx hb hK hg 23 (by decide) rfl rfl hP1 hP2 (by decide) dX9_isThere_6 ?_
  have hR3 := GS_R hg 23 (a1 : Int).toNat
  refine j_ge (tgt := 24) hx hb dX9_isThere_7 (by decide) ha2 hR3 (fun c4 => ?_) (fun c4 => ?_)
  · have h := h.1 c4
    refine lv_iconst (v := iI 0) hx hb dX9_isThere_24 (by decide) ?_
    exact ret_z hx hb hr hlocks hg (by decide) hm h dX9_isThere_25
  · have h := h.2 c4
    refine lv_aload_n hx hb dX9_isThere_10 rfl (lv_at hl 0 rfl) ?_
    refine lv_iload_n hx hb dX9_isThere_11 rfl (lv_at hl 1 rfl) ?_
    refine lv_iload_n hx hb dX9_isThere_12 rfl (lv_at hl 2 rfl) ?_
    refine call_i (run_V (a := ea E 21) (As := [.int (iI (a1)), .int (iI (a2))]) (rest := []) ⟨hx, hb, hml, hown, hts⟩ (ctX9_keyAt l E a1 a2 σ _ ha1 ha2 h) (cwV 2 hts gX9_isThere_X9_keyAt rfl rfl rfl ⟨rfl, hdX9_keyAt⟩ ⟨Nat.le_of_ble_eq_true rfl, Nat.le_of_ble_eq_true rfl⟩) hK hN hg (recv_x (ci := 9) (C := RX9) (T := TX9) (N := 27) hg hK (by decide) rfl (by decide) rfl) rfl hl.1 rfl (cat_sum _ (by simp)) dX9_isThere_13 ⟨Nat.le_refl 0, Nat.le_refl 0⟩) hg (fun r6 s5 H locs hz7 hm2 h hg => ?_)
    have hm := hm.tn hm2
    refine lv_iload_n hx hb dX9_isThere_16 rfl (lv_at hl 3 rfl) ?_
    refine j_ne (tgt := 24) hx hb dX9_isThere_17 (by decide) hz7 ha3 (fun c8 => ?_) (fun c8 => ?_)
    · have h := h.1 c8
      refine lv_iconst (v := iI 0) hx hb dX9_isThere_24 (by decide) ?_
      exact ret_z hx hb hr hlocks hg (by decide) hm h dX9_isThere_25
    · have h := h.2 c8
      refine lv_iconst (v := iI 1) hx hb dX9_isThere_20 (by decide) ?_
      refine lv_goto (tgt := 25) hx hb dX9_isThere_21 (by decide) ?_
      exact ret_z hx hb hr hlocks hg (by decide) hm h dX9_isThere_25
theorem hdX9_lays : yX9_lays.cls ≠ "java/lang/invoke/MethodHandle" ∧ yX9_lays.cls ≠ "java/lang/invoke/VarHandle" ∧ (parseMethodDescriptor yX9_lays.desc).map (fun d => d.parameters.length) = some 3 := by decide +kernel
set_option maxRecDepth 100000 in
set_option maxHeartbeats 4000000 in
theorem ctX9_lays (l : Launch) (E : Ev) (a1 : Int) (a2 : Int) (a3 : Int) (σ : SS) (Q : SS → Prop) (ha1 : R32 a1) (ha2 : R32 a2) (ha3 : R32 a3) (h : wX9_lays a1 a2 a3 σ Q) : Met l yX9_lays wsX9_lays ({ frames := 3, cells := 0, slots := 0, locals := 65 } : Room) (Pc E σ [.ref (ea E 21), .int (iI (a1)), .int (iI (a2)), .int (iI (a3))]) (Qv E (sz σ) σ Q) 0 0 (Av E) := by
  rw [wX9_lays] at h
  refine Met.ofW (cc := cX9_lays) (maxL := 6) (ret := none) (by decide) rfl ?_
  intro p e s m args below meth c s₁ B hml hv
  obtain ⟨rfl, hH, hK, hN⟩ := hv
  have hx := B.exec
  have hb := B.bytes
  have hr := B.returns
  have hts := atoms_spec (ws := wsX9_lays) B.pre
  have hown : s.vm.findClass RX9 = some m.cls := findClass_of_methodNamed B.named
  have hlocks := B.notSynchronized
  have hg : GS E σ s s.heap [] := ⟨hH, va_S.rf⟩
  have hm : Mo (sz σ) σ σ := Mo.rf (Nat.le_refl _)
  have hl := ent (vs := [.ref (ea E 21), .int (iI (a1)), .int (iI (a2)), .int (iI (a3))]) (n := 6) (cats_x (cats_i (cats_i (cats_i cats_nil)))) (Nat.le_of_ble_eq_true rfl)
  rw [lg_entry_eq]
  generalize (lg_sl ([.ref (ea E 21), .int (iI (a1)), .int (iI (a2)), .int (iI (a3))]) ++ List.replicate (6 - (lg_sl ([.ref (ea E 21), .int (iI (a1)), .int (iI (a2)), .int (iI (a3))])).length) Slot.unset).toArray = ls at hl ⊢
  have hl : lv_has ls 6 [(0, .ref (ea E 21)), (1, .int (iI (a1))), (2, .int (iI (a2))), (3, .int (iI (a3)))] := hl
  have J27 : ∀ (k : Nat), ∀ (v4 : Int) (v5 : Int) (sL : SS) (H : Heap) (locs : List Loc) (ls : Array Slot), GS E sL s H locs → Mo (sz σ) σ sL → lv_has ls 6 [(0, .ref (ea E 21)), (1, .int (iI (a1))), (2, .int (iI (a2))), (3, .int (iI (a3))), (4, .int (iI (v4))), (5, .int (iI (v5)))] → wX9_lays_L27 a1 a2 a3 Q  k v4 v5 sL → W p l e (headSpec wsX9_lays ({ frames := 3, cells := 0, slots := 0, locals := 65 } : Room)).room s m (List.toArray [.ref (ea E 21), .int (iI (a1)), .int (iI (a2)), .int (iI (a3))]) below meth c H locs 0 0 (MQ below (Qv E (sz σ) σ Q) (List.toArray [.ref (ea E 21), .int (iI (a1)), .int (iI (a2)), .int (iI (a3))]) s 0 0 (Av E)) (F0 m 27 ls []) := by
    intro k
    induction k with
    | zero => intro v4 v5 sL H locs ls hg hm hl h; exact False.elim h
    | succ k ih =>
      intro v4 v5 sL H locs ls hg hm hl h
      rw [wX9_lays_L27] at h
      refine lv_iload hx hb dX9_lays_27 (lv_at hl 5 rfl) ?_
      refine lv_iload hx hb dX9_lays_29 (lv_at hl 4 rfl) ?_
      obtain ⟨hR16, hR17, h⟩ := h
      refine j_le (tgt := 68) hx hb dX9_lays_31 (by decide) hR16 hR17 (fun c18 => ?_) (fun c18 => ?_)
      · have h := h.1 c18
        refine lv_aload_n hx hb dX9_lays_68 rfl (lv_at hl 0 rfl) ?_
        refine q_getx (ci := 9) (C := RX9) (T := TX9) (N := 27) (j := 23) hx hb hts (fun _ h9 => List.mem_cons_of_mem _ (List.mem_append_right _ h9)) hown hK hg 21 (by decide) rfl rfl (by decide) rfl 1 (by decide) (hts (.fieldLink RX9 13 "JoinMapsModel" "sizes" "[I") (List.mem_cons_of_mem _ (List.mem_append_left _ (List.mem_of_getElem? (i := 0) rfl)))) rfl rfl rfl dX9_lays_69 ?_
        refine lv_iload_n hx hb dX9_lays_72 rfl (lv_at hl 1 rfl) ?_
        refine lv_dup2_11 hx hb dX9_lays_73 rfl rfl ?_
        obtain ⟨hP19, hP20, h⟩ := h
        refine q_iald (N := 6) hx hb hK hg 23 (by decide) rfl rfl hP19 hP20 (by decide) dX9_lays_74 ?_
        have hR21 := GS_R hg 23 (a1 : Int).toNat
        refine lv_iconst (v := iI 1) hx hb dX9_lays_75 (by decide) ?_
        refine q_iadd hx hb dX9_lays_76 ?_
        obtain ⟨hP22, hP23, hR24, h⟩ := h
        refine q_iast (N := 6) hx hb hK hg 23 (by decide) rfl rfl hP22 hP23 (by decide) hR24 dX9_lays_77 (fun H locs hg => ?_)
        refine lv_aload_n hx hb dX9_lays_78 rfl (lv_at hl 0 rfl) ?_
        refine q_getx (ci := 9) (C := RX9) (T := TX9) (N := 27) (j := 22) hx hb hts (fun _ h9 => List.mem_cons_of_mem _ (List.mem_append_right _ h9)) hown hK hg 21 (by decide) rfl rfl (by decide) rfl 0 (by decide) (hts (.fieldLink RX9 7 "JoinMapsModel" "rows" "[I") (List.mem_cons_of_mem _ (List.mem_append_left _ (List.mem_of_getElem? (i := 1) rfl)))) rfl rfl rfl dX9_lays_79 ?_
        refine lv_sipush (v := iI 200) hx hb dX9_lays_82 (by decide) ?_
        refine lv_iload_n hx hb dX9_lays_85 rfl (lv_at hl 1 rfl) ?_
        refine q_imul hx hb dX9_lays_86 ?_
        refine lv_iload hx hb dX9_lays_87 (lv_at hl 4 rfl) ?_
        refine q_iadd hx hb dX9_lays_89 ?_
        refine lv_iload_n hx hb dX9_lays_90 rfl (lv_at hl 2 rfl) ?_
        refine lv_iload_n hx hb dX9_lays_91 rfl (lv_at hl 3 rfl) ?_
        refine call_i (run_S (As := [.int (iI (a2)), .int (iI (a3))]) (rest := [.int (iI (((200 * a1) + v4))), .ref (ea E 22)]) ⟨hx, hb, hml, hown, hts⟩ (ctX9_entry l E a2 a3 (un sL 23 (a1 : Int).toNat (((sn sL 23 (a1 : Int).toNat) + 1))) _ ha2 ha3 h) (va_cwS 2 hts gX9_lays_X9_entry rfl rfl rfl hdX9_entry ⟨Nat.le_of_ble_eq_true rfl, Nat.le_of_ble_eq_true rfl⟩) hK hN hg rfl hl.1 rfl (cat_sum _ (by simp)) dX9_lays_92 ⟨Nat.le_refl 0, Nat.le_refl 0⟩) hg (fun r26 s25 H locs hz27 hm2 h hg => ?_)
        have hm := hm.tn hm2
        obtain ⟨hP28, hP29, h⟩ := h
        refine q_iast (N := 1200) hx hb hK hg 22 (by decide) rfl rfl hP28 hP29 (by decide) hz27 dX9_lays_95 (fun H locs hg => ?_)
        exact ret_v hx hb hr hlocks hg hm h dX9_lays_96
      · have h := h.2 c18
        refine lv_aload_n hx hb dX9_lays_34 rfl (lv_at hl 0 rfl) ?_
        refine q_getx (ci := 9) (C := RX9) (T := TX9) (N := 27) (j := 22) hx hb hts (fun _ h9 => List.mem_cons_of_mem _ (List.mem_append_right _ h9)) hown hK hg 21 (by decide) rfl rfl (by decide) rfl 0 (by decide) (hts (.fieldLink RX9 7 "JoinMapsModel" "rows" "[I") (List.mem_cons_of_mem _ (List.mem_append_left _ (List.mem_of_getElem? (i := 1) rfl)))) rfl rfl rfl dX9_lays_35 ?_
        refine lv_sipush (v := iI 200) hx hb dX9_lays_38 (by decide) ?_
        refine lv_iload_n hx hb dX9_lays_41 rfl (lv_at hl 1 rfl) ?_
        refine q_imul hx hb dX9_lays_42 ?_
        refine lv_iload hx hb dX9_lays_43 (lv_at hl 5 rfl) ?_
        refine q_iadd hx hb dX9_lays_45 ?_
        refine lv_aload_n hx hb dX9_lays_46 rfl (lv_at hl 0 rfl) ?_
        refine q_getx (ci := 9) (C := RX9) (T := TX9) (N := 27) (j := 22) hx hb hts (fun _ h9 => List.mem_cons_of_mem _ (List.mem_append_right _ h9)) hown hK hg 21 (by decide) rfl rfl (by decide) rfl 0 (by decide) (hts (.fieldLink RX9 7 "JoinMapsModel" "rows" "[I") (List.mem_cons_of_mem _ (List.mem_append_left _ (List.mem_of_getElem? (i := 1) rfl)))) rfl rfl rfl dX9_lays_47 ?_
        refine lv_sipush (v := iI 200) hx hb dX9_lays_50 (by decide) ?_
        refine lv_iload_n hx hb dX9_lays_53 rfl (lv_at hl 1 rfl) ?_
        refine q_imul hx hb dX9_lays_54 ?_
        refine lv_iload hx hb dX9_lays_55 (lv_at hl 5 rfl) ?_
        refine q_iadd hx hb dX9_lays_57 ?_
        refine lv_iconst (v := iI 1) hx hb dX9_lays_58 (by decide) ?_
        refine q_isub hx hb dX9_lays_59 ?_
        obtain ⟨hP30, hP31, h⟩ := h
        refine q_iald (N := 1200) hx hb hK hg 22 (by decide) rfl rfl hP30 hP31 (by decide) dX9_lays_60 ?_
        have hR32 := GS_R hg 22 ((((200 * a1) + v5) - 1) : Int).toNat
        obtain ⟨hP33, hP34, h⟩ := h
        refine q_iast (N := 1200) hx hb hK hg 22 (by decide) rfl rfl hP33 hP34 (by decide) hR32 dX9_lays_61 (fun H locs hg => ?_)
        refine lv_iinc (v := iI (v5 + (-1))) (lv' := [(5, .int (iI (v5 + (-1)))), (0, .ref (ea E 21)), (1, .int (iI (a1))), (2, .int (iI (a2))), (3, .int (iI (a3))), (4, .int (iI (v4)))]) hx hb dX9_lays_62 hl (k := 5) rfl (iI_add _ _) (by decide) rfl (fun ls hl => ?_)
        refine lv_goto (tgt := 27) hx hb dX9_lays_65 (by decide) ?_
        exact ih (v4) (v5 + (-1)) (un sL 22 (((200 * a1) + v5) : Int).toNat ((sn sL 22 ((((200 * a1) + v5) - 1) : Int).toNat))) _ _ _ hg hm (lv_sub hl [1, 2, 3, 4, 5, 0] rfl) h
  refine lv_aload_n hx hb dX9_lays_0 rfl (lv_at hl 0 rfl) ?_
  refine lv_iload_n hx hb dX9_lays_1 rfl (lv_at hl 1 rfl) ?_
  refine lv_iload_n hx hb dX9_lays_2 rfl (lv_at hl 2 rfl) ?_
  refine call_i (run_V (a := ea E 21) (As := [.int (iI (a1)), .int (iI (a2))]) (rest := []) ⟨hx, hb, hml, hown, hts⟩ (ctX9_below l E a1 a2 σ _ ha1 ha2 h) (cwV 2 hts gX9_lays_X9_below rfl rfl rfl ⟨rfl, hdX9_below⟩ ⟨Nat.le_of_ble_eq_true rfl, Nat.le_of_ble_eq_true rfl⟩) hK hN hg (recv_x (ci := 9) (C := RX9) (T := TX9) (N := 27) hg hK (by decide) rfl (by decide) rfl) rfl hl.1 rfl (cat_sum _ (by simp)) dX9_lays_3 ⟨Nat.le_refl 0, Nat.le_refl 0⟩) hg (fun r2 s1 H locs hz3 hm2 h hg => ?_)
  have hm := hm.tn hm2
  refine lv_istore (i := 4) (lv' := [(4, .int (iI (r2))), (0, .ref (ea E 21)), (1, .int (iI (a1))), (2, .int (iI (a2))), (3, .int (iI (a3)))]) hx hb dX9_lays_6 hl (by decide) rfl (fun ls hl => ?_)
  refine lv_aload_n hx hb dX9_lays_8 rfl (lv_at hl 1 rfl) ?_
  refine lv_iload_n hx hb dX9_lays_9 rfl (lv_at hl 2 rfl) ?_
  refine lv_iload hx hb dX9_lays_10 (lv_at hl 0 rfl) ?_
  refine lv_iload_n hx hb dX9_lays_12 rfl (lv_at hl 3 rfl) ?_
  refine call_z (run_V (a := ea E 21) (As := [.int (iI (a1)), .int (iI (r2)), .int (iI (a2))]) (rest := []) ⟨hx, hb, hml, hown, hts⟩ (ctX9_isThere l E a1 r2 a2 s1 _ ha1 hz3 ha2 h) (cwV 3 hts gX9_lays_X9_isThere rfl rfl rfl ⟨rfl, hdX9_isThere⟩ ⟨Nat.le_of_ble_eq_true rfl, Nat.le_of_ble_eq_true rfl⟩) hK hN hg (recv_x (ci := 9) (C := RX9) (T := TX9) (N := 27) hg hK (by decide) rfl (by decide) rfl) rfl hl.1 rfl (cat_sum _ (by simp)) dX9_lays_13 ⟨Nat.le_refl 0, Nat.le_refl 0⟩) hg (fun r5 s4 H locs hz6 hm2 h hg => ?_)
  have hm := hm.tn hm2
  refine k_ne (tgt := 78) hx hb dX9_lays_16 (by decide) (z_R hz6) (fun c7 => ?_) (fun c7 => ?_)
  · have h := h.1 c7
    refine lv_aload_n hx hb dX9_lays_78 rfl (lv_at hl 1 rfl) ?_
    refine q_getx (ci := 9) (C := RX9) (T := TX9) (N := 27) (j := 22) hx hb hts (fun _ h9 => List.mem_cons_of_mem _ (List.mem_append_right _ h9)) hown hK hg 21 (by decide) rfl rfl (by decide) rfl 0 (by decide) (hts (.fieldLink RX9 7 "JoinMapsModel" "rows" "[I") (List.mem_cons_of_mem _ (List.mem_append_left _ (List.mem_of_getElem? (i := 1) rfl)))) rfl rfl rfl dX9_lays_79 ?_
    refine lv_sipush (v := iI 200) hx hb dX9_lays_82 (by decide) ?_
    refine lv_iload_n hx hb dX9_lays_85 rfl (lv_at hl 2 rfl) ?_
    refine q_imul hx hb dX9_lays_86 ?_
    refine lv_iload hx hb dX9_lays_87 (lv_at hl 0 rfl) ?_
    refine q_iadd hx hb dX9_lays_89 ?_
    refine lv_iload_n hx hb dX9_lays_90 rfl (lv_at hl 3 rfl) ?_
    refine lv_iload_n hx hb dX9_lays_91 rfl (lv_at hl 4 rfl) ?_
    refine call_i (run_S (As := [.int (iI (a2)), .int (iI (a3))]) (rest := [.int (iI (((200 * a1) + r2))), .ref (ea E 22)]) ⟨hx, hb, hml, hown, hts⟩ (ctX9_entry l E a2 a3 s4 _ ha2 ha3 h) (va_cwS 2 hts gX9_lays_X9_entry rfl rfl rfl hdX9_entry ⟨Nat.le_of_ble_eq_true rfl, Nat.le_of_ble_eq_true rfl⟩) hK hN hg rfl hl.1 rfl (cat_sum _ (by simp)) dX9_lays_92 ⟨Nat.le_refl 0, Nat.le_refl 0⟩) hg (fun r9 s8 H locs hz10 hm2 h hg => ?_)
    have hm := hm.tn hm2
    obtain ⟨hP11, hP12, h⟩ := h
    refine q_iast (N := 1200) hx hb hK hg 22 (by decide) rfl rfl hP11 hP12 (by decide) hz10 dX9_lays_95 (fun H locs hg => ?_)
    exact ret_v hx hb hr hlocks hg hm h dX9_lays_96
  · have h := h.2 c7
    refine lv_aload_n hx hb dX9_lays_19 rfl (lv_at hl 1 rfl) ?_
    refine q_getx (ci := 9) (C := RX9) (T := TX9) (N := 27) (j := 23) hx hb hts (fun _ h9 => List.mem_cons_of_mem _ (List.mem_append_right _ h9)) hown hK hg 21 (by decide) rfl rfl (by decide) rfl 1 (by decide) (hts (.fieldLink RX9 13 "JoinMapsModel" "sizes" "[I") (List.mem_cons_of_mem _ (List.mem_append_left _ (List.mem_of_getElem? (i := 0) rfl)))) rfl rfl rfl dX9_lays_20 ?_
    refine lv_iload_n hx hb dX9_lays_23 rfl (lv_at hl 2 rfl) ?_
    obtain ⟨hP13, hP14, h⟩ := h
    refine q_iald (N := 6) hx hb hK hg 23 (by decide) rfl rfl hP13 hP14 (by decide) dX9_lays_24 ?_
    have hR15 := GS_R hg 23 (a1 : Int).toNat
    refine lv_istore (i := 5) (lv' := [(5, .int (iI ((sn s4 23 (a1 : Int).toNat)))), (4, .int (iI (r2))), (0, .ref (ea E 21)), (1, .int (iI (a1))), (2, .int (iI (a2))), (3, .int (iI (a3)))]) hx hb dX9_lays_25 hl (by decide) rfl (fun ls hl => ?_)
    obtain ⟨kk, h⟩ := h
    exact J27  kk (r2) ((sn s4 23 (a1 : Int).toNat)) (s4) _ _ _ hg hm (lv_sub hl [2, 3, 4, 5, 1, 0] rfl) h
theorem hdX9_goes : yX9_goes.cls ≠ "java/lang/invoke/MethodHandle" ∧ yX9_goes.cls ≠ "java/lang/invoke/VarHandle" ∧ (parseMethodDescriptor yX9_goes.desc).map (fun d => d.parameters.length) = some 3 := by decide +kernel
set_option maxRecDepth 100000 in
set_option maxHeartbeats 4000000 in
theorem ctX9_goes (l : Launch) (E : Ev) (a1 : Int) (a2 : Int) (a3 : Int) (σ : SS) (Q : SS → Prop) (ha1 : R32 a1) (ha2 : R32 a2) (ha3 : R32 a3) (h : wX9_goes a1 a2 a3 σ Q) : Met l yX9_goes wsX9_goes ({ frames := 0, cells := 0, slots := 0, locals := 0 } : Room) (Pc E σ [.ref (ea E 21), .int (iI (a1)), .int (iI (a2)), .int (iI (a3))]) (Qv E (sz σ) σ Q) 0 0 (Av E) := by
  rw [wX9_goes] at h
  refine Met.ofW (cc := cX9_goes) (maxL := 5) (ret := none) (by decide) rfl ?_
  intro p e s m args below meth c s₁ B hml hv
  obtain ⟨rfl, hH, hK, hN⟩ := hv
  have hx := B.exec
  have hb := B.bytes
  have hr := B.returns
  have hts := atoms_spec (ws := wsX9_goes) B.pre
  have hown : s.vm.findClass RX9 = some m.cls := findClass_of_methodNamed B.named
  have hlocks := B.notSynchronized
  have hg : GS E σ s s.heap [] := ⟨hH, va_S.rf⟩
  have hm : Mo (sz σ) σ σ := Mo.rf (Nat.le_refl _)
  have hl := ent (vs := [.ref (ea E 21), .int (iI (a1)), .int (iI (a2)), .int (iI (a3))]) (n := 5) (cats_x (cats_i (cats_i (cats_i cats_nil)))) (Nat.le_of_ble_eq_true rfl)
  rw [lg_entry_eq]
  generalize (lg_sl ([.ref (ea E 21), .int (iI (a1)), .int (iI (a2)), .int (iI (a3))]) ++ List.replicate (5 - (lg_sl ([.ref (ea E 21), .int (iI (a1)), .int (iI (a2)), .int (iI (a3))])).length) Slot.unset).toArray = ls at hl ⊢
  have hl : lv_has ls 5 [(0, .ref (ea E 21)), (1, .int (iI (a1))), (2, .int (iI (a2))), (3, .int (iI (a3)))] := hl
  have J3 : ∀ (k : Nat), ∀ (v4 : Int) (sL : SS) (H : Heap) (locs : List Loc) (ls : Array Slot), GS E sL s H locs → Mo (sz σ) σ sL → lv_has ls 5 [(0, .ref (ea E 21)), (1, .int (iI (a1))), (2, .int (iI (a2))), (3, .int (iI (a3))), (4, .int (iI (v4)))] → wX9_goes_L3 a1 a2 a3 Q  k v4 sL → W p l e (headSpec wsX9_goes ({ frames := 0, cells := 0, slots := 0, locals := 0 } : Room)).room s m (List.toArray [.ref (ea E 21), .int (iI (a1)), .int (iI (a2)), .int (iI (a3))]) below meth c H locs 0 0 (MQ below (Qv E (sz σ) σ Q) (List.toArray [.ref (ea E 21), .int (iI (a1)), .int (iI (a2)), .int (iI (a3))]) s 0 0 (Av E)) (F0 m 3 ls []) := by
    intro k
    induction k with
    | zero => intro v4 sL H locs ls hg hm hl h; exact False.elim h
    | succ k ih =>
      intro v4 sL H locs ls hg hm hl h
      rw [wX9_goes_L3] at h
      refine lv_iload hx hb dX9_goes_3 (lv_at hl 4 rfl) ?_
      refine lv_aload_n hx hb dX9_goes_5 rfl (lv_at hl 0 rfl) ?_
      refine q_getx (ci := 9) (C := RX9) (T := TX9) (N := 27) (j := 23) hx hb hts (fun _ h9 => List.mem_cons_of_mem _ (List.mem_append_right _ h9)) hown hK hg 21 (by decide) rfl rfl (by decide) rfl 1 (by decide) (hts (.fieldLink RX9 13 "JoinMapsModel" "sizes" "[I") (List.mem_cons_of_mem _ (List.mem_append_left _ (List.mem_of_getElem? (i := 0) rfl)))) rfl rfl rfl dX9_goes_6 ?_
      refine lv_iload_n hx hb dX9_goes_9 rfl (lv_at hl 1 rfl) ?_
      obtain ⟨hP1, hP2, h⟩ := h
      refine q_iald (N := 6) hx hb hK hg 23 (by decide) rfl rfl hP1 hP2 (by decide) dX9_goes_10 ?_
      have hR3 := GS_R hg 23 (a1 : Int).toNat
      obtain ⟨hR4, h⟩ := h
      refine j_ge (tgt := 50) hx hb dX9_goes_11 (by decide) hR4 hR3 (fun c5 => ?_) (fun c5 => ?_)
      · have h := h.1 c5
        refine lv_aload_n hx hb dX9_goes_50 rfl (lv_at hl 0 rfl) ?_
        refine q_getx (ci := 9) (C := RX9) (T := TX9) (N := 27) (j := 23) hx hb hts (fun _ h9 => List.mem_cons_of_mem _ (List.mem_append_right _ h9)) hown hK hg 21 (by decide) rfl rfl (by decide) rfl 1 (by decide) (hts (.fieldLink RX9 13 "JoinMapsModel" "sizes" "[I") (List.mem_cons_of_mem _ (List.mem_append_left _ (List.mem_of_getElem? (i := 0) rfl)))) rfl rfl rfl dX9_goes_51 ?_
        refine lv_iload_n hx hb dX9_goes_54 rfl (lv_at hl 1 rfl) ?_
        refine lv_dup2_11 hx hb dX9_goes_55 rfl rfl ?_
        obtain ⟨hP6, hP7, h⟩ := h
        refine q_iald (N := 6) hx hb hK hg 23 (by decide) rfl rfl hP6 hP7 (by decide) dX9_goes_56 ?_
        have hR8 := GS_R hg 23 (a1 : Int).toNat
        refine lv_iload_n hx hb dX9_goes_57 rfl (lv_at hl 3 rfl) ?_
        refine lv_iload_n hx hb dX9_goes_58 rfl (lv_at hl 2 rfl) ?_
        refine q_isub hx hb dX9_goes_59 ?_
        refine q_isub hx hb dX9_goes_60 ?_
        obtain ⟨hP9, hP10, hR11, h⟩ := h
        refine q_iast (N := 6) hx hb hK hg 23 (by decide) rfl rfl hP9 hP10 (by decide) hR11 dX9_goes_61 (fun H locs hg => ?_)
        exact ret_v hx hb hr hlocks hg hm h dX9_goes_62
      · have h := h.2 c5
        refine lv_aload_n hx hb dX9_goes_14 rfl (lv_at hl 0 rfl) ?_
        refine q_getx (ci := 9) (C := RX9) (T := TX9) (N := 27) (j := 22) hx hb hts (fun _ h9 => List.mem_cons_of_mem _ (List.mem_append_right _ h9)) hown hK hg 21 (by decide) rfl rfl (by decide) rfl 0 (by decide) (hts (.fieldLink RX9 7 "JoinMapsModel" "rows" "[I") (List.mem_cons_of_mem _ (List.mem_append_left _ (List.mem_of_getElem? (i := 1) rfl)))) rfl rfl rfl dX9_goes_15 ?_
        refine lv_sipush (v := iI 200) hx hb dX9_goes_18 (by decide) ?_
        refine lv_iload_n hx hb dX9_goes_21 rfl (lv_at hl 1 rfl) ?_
        refine q_imul hx hb dX9_goes_22 ?_
        refine lv_iload_n hx hb dX9_goes_23 rfl (lv_at hl 2 rfl) ?_
        refine q_iadd hx hb dX9_goes_24 ?_
        refine lv_iload hx hb dX9_goes_25 (lv_at hl 4 rfl) ?_
        refine q_iadd hx hb dX9_goes_27 ?_
        refine lv_iload_n hx hb dX9_goes_28 rfl (lv_at hl 3 rfl) ?_
        refine q_isub hx hb dX9_goes_29 ?_
        refine lv_aload_n hx hb dX9_goes_30 rfl (lv_at hl 0 rfl) ?_
        refine q_getx (ci := 9) (C := RX9) (T := TX9) (N := 27) (j := 22) hx hb hts (fun _ h9 => List.mem_cons_of_mem _ (List.mem_append_right _ h9)) hown hK hg 21 (by decide) rfl rfl (by decide) rfl 0 (by decide) (hts (.fieldLink RX9 7 "JoinMapsModel" "rows" "[I") (List.mem_cons_of_mem _ (List.mem_append_left _ (List.mem_of_getElem? (i := 1) rfl)))) rfl rfl rfl dX9_goes_31 ?_
        refine lv_sipush (v := iI 200) hx hb dX9_goes_34 (by decide) ?_
        refine lv_iload_n hx hb dX9_goes_37 rfl (lv_at hl 1 rfl) ?_
        refine q_imul hx hb dX9_goes_38 ?_
        refine lv_iload hx hb dX9_goes_39 (lv_at hl 4 rfl) ?_
        refine q_iadd hx hb dX9_goes_41 ?_
        obtain ⟨hP12, hP13, h⟩ := h
        refine q_iald (N := 1200) hx hb hK hg 22 (by decide) rfl rfl hP12 hP13 (by decide) dX9_goes_42 ?_
        have hR14 := GS_R hg 22 (((200 * a1) + v4) : Int).toNat
        obtain ⟨hP15, hP16, h⟩ := h
        refine q_iast (N := 1200) hx hb hK hg 22 (by decide) rfl rfl hP15 hP16 (by decide) hR14 dX9_goes_43 (fun H locs hg => ?_)
        refine lv_iinc (v := iI (v4 + 1)) (lv' := [(4, .int (iI (v4 + 1))), (0, .ref (ea E 21)), (1, .int (iI (a1))), (2, .int (iI (a2))), (3, .int (iI (a3)))]) hx hb dX9_goes_44 hl (k := 4) rfl (iI_add _ _) (by decide) rfl (fun ls hl => ?_)
        refine lv_goto (tgt := 3) hx hb dX9_goes_47 (by decide) ?_
        exact ih (v4 + 1) (un sL 22 (((((200 * a1) + a2) + v4) - a3) : Int).toNat ((sn sL 22 (((200 * a1) + v4) : Int).toNat))) _ _ _ hg hm (lv_sub hl [1, 2, 3, 4, 0] rfl) h
  refine lv_iload_n hx hb dX9_goes_0 rfl (lv_at hl 3 rfl) ?_
  refine lv_istore (i := 4) (lv' := [(4, .int (iI (a3))), (0, .ref (ea E 21)), (1, .int (iI (a1))), (2, .int (iI (a2))), (3, .int (iI (a3)))]) hx hb dX9_goes_1 hl (by decide) rfl (fun ls hl => ?_)
  obtain ⟨kk, h⟩ := h
  exact J3  kk (a3) (σ) _ _ _ hg hm (lv_sub hl [1, 2, 3, 4, 0] rfl) h
theorem hdX9_keeps : yX9_keeps.cls ≠ "java/lang/invoke/MethodHandle" ∧ yX9_keeps.cls ≠ "java/lang/invoke/VarHandle" ∧ (parseMethodDescriptor yX9_keeps.desc).map (fun d => d.parameters.length) = some 0 := by decide +kernel
set_option maxRecDepth 100000 in
set_option maxHeartbeats 4000000 in
theorem ctX9_keeps (l : Launch) (E : Ev)  (σ : SS) (Q : SS → Prop)  (h : wX9_keeps  σ Q) : Met l yX9_keeps wsX9_keeps ({ frames := 0, cells := 0, slots := 0, locals := 0 } : Room) (Pc E σ [.ref (ea E 21)]) (Qv E (sz σ) σ Q) 0 0 (Av E) := by
  rw [wX9_keeps] at h
  refine Met.ofW (cc := cX9_keeps) (maxL := 2) (ret := none) (by decide) rfl ?_
  intro p e s m args below meth c s₁ B hml hv
  obtain ⟨rfl, hH, hK, hN⟩ := hv
  have hx := B.exec
  have hb := B.bytes
  have hr := B.returns
  have hts := atoms_spec (ws := wsX9_keeps) B.pre
  have hown : s.vm.findClass RX9 = some m.cls := findClass_of_methodNamed B.named
  have hlocks := B.notSynchronized
  have hg : GS E σ s s.heap [] := ⟨hH, va_S.rf⟩
  have hm : Mo (sz σ) σ σ := Mo.rf (Nat.le_refl _)
  have hl := ent (vs := [.ref (ea E 21)]) (n := 2) (cats_x cats_nil) (Nat.le_of_ble_eq_true rfl)
  rw [lg_entry_eq]
  generalize (lg_sl ([.ref (ea E 21)]) ++ List.replicate (2 - (lg_sl ([.ref (ea E 21)])).length) Slot.unset).toArray = ls at hl ⊢
  have hl : lv_has ls 2 [(0, .ref (ea E 21))] := hl
  have J117 : ∀ (k : Nat), ∀ (v1 : Int) (sL : SS) (H : Heap) (locs : List Loc) (ls : Array Slot), GS E sL s H locs → Mo (sz σ) σ sL → lv_has ls 2 [(0, .ref (ea E 21)), (1, .int (iI (v1)))] → wX9_keeps_L117  Q  k v1 sL → W p l e (headSpec wsX9_keeps ({ frames := 0, cells := 0, slots := 0, locals := 0 } : Room)).room s m (List.toArray [.ref (ea E 21)]) below meth c H locs 0 0 (MQ below (Qv E (sz σ) σ Q) (List.toArray [.ref (ea E 21)]) s 0 0 (Av E)) (F0 m 117 ls []) := by
    intro k
    induction k with
    | zero => intro v1 sL H locs ls hg hm hl h; exact False.elim h
    | succ k ih =>
      intro v1 sL H locs ls hg hm hl h
      rw [wX9_keeps_L117] at h
      refine lv_iload_n hx hb dX9_keeps_117 rfl (lv_at hl 1 rfl) ?_
      refine lv_bipush (v := iI 6) hx hb dX9_keeps_118 (by decide) ?_
      obtain ⟨hR18, h⟩ := h
      refine j_ge (tgt := 149) hx hb dX9_keeps_120 (by decide) hR18 (by decide) (fun c19 => ?_) (fun c19 => ?_)
      · have h := h.1 c19
        refine lv_aload_n hx hb dX9_keeps_149 rfl (lv_at hl 0 rfl) ?_
        refine lv_dup hx hb dX9_keeps_150 rfl ?_
        refine q_geti (ci := 9) (C := RX9) (T := TX9) (N := 27) hx hb hts (fun _ h9 => List.mem_cons_of_mem _ (List.mem_append_right _ h9)) hown hK hg 21 (by decide) rfl rfl (by decide) rfl 4 (by decide) (hts (.fieldLink RX9 103 "JoinMapsModel" "known" "I") (List.mem_cons_of_mem _ (List.mem_append_left _ (List.mem_of_getElem? (i := 0) rfl)))) rfl rfl dX9_keeps_151 ?_
        have hR20 := GS_R hg 21 4
        refine lv_iconst (v := iI 1) hx hb dX9_keeps_154 (by decide) ?_
        refine q_iadd hx hb dX9_keeps_155 ?_
        obtain ⟨hR21, h⟩ := h
        refine q_puti (ci := 9) (C := RX9) (T := TX9) (N := 27) hx hb hts (fun _ h9 => List.mem_cons_of_mem _ (List.mem_append_right _ h9)) tyX9 tyX9_ok nmX9 hown hK hg 21 (by decide) rfl rfl (by decide) rfl 4 (by decide) (hts (.fieldLink RX9 103 "JoinMapsModel" "known" "I") (List.mem_cons_of_mem _ (List.mem_append_left _ (List.mem_of_getElem? (i := 0) rfl)))) rfl rfl (by decide +kernel) rfl hR21 dX9_keeps_156 (fun H locs hg => ?_)
        exact ret_v hx hb hr hlocks hg hm h dX9_keeps_159
      · have h := h.2 c19
        refine lv_aload_n hx hb dX9_keeps_123 rfl (lv_at hl 0 rfl) ?_
        refine q_getx (ci := 9) (C := RX9) (T := TX9) (N := 27) (j := 25) hx hb hts (fun _ h9 => List.mem_cons_of_mem _ (List.mem_append_right _ h9)) hown hK hg 21 (by decide) rfl rfl (by decide) rfl 3 (by decide) (hts (.fieldLink RX9 19 "JoinMapsModel" "pastSizes" "[I") (List.mem_cons_of_mem _ (List.mem_append_left _ (List.mem_of_getElem? (i := 2) rfl)))) rfl rfl rfl dX9_keeps_124 ?_
        refine lv_bipush (v := iI 6) hx hb dX9_keeps_127 (by decide) ?_
        refine lv_aload_n hx hb dX9_keeps_129 rfl (lv_at hl 0 rfl) ?_
        refine q_geti (ci := 9) (C := RX9) (T := TX9) (N := 27) hx hb hts (fun _ h9 => List.mem_cons_of_mem _ (List.mem_append_right _ h9)) hown hK hg 21 (by decide) rfl rfl (by decide) rfl 4 (by decide) (hts (.fieldLink RX9 103 "JoinMapsModel" "known" "I") (List.mem_cons_of_mem _ (List.mem_append_left _ (List.mem_of_getElem? (i := 0) rfl)))) rfl rfl dX9_keeps_130 ?_
        have hR22 := GS_R hg 21 4
        refine q_imul hx hb dX9_keeps_133 ?_
        refine lv_iload_n hx hb dX9_keeps_134 rfl (lv_at hl 1 rfl) ?_
        refine q_iadd hx hb dX9_keeps_135 ?_
        refine lv_aload_n hx hb dX9_keeps_136 rfl (lv_at hl 0 rfl) ?_
        refine q_getx (ci := 9) (C := RX9) (T := TX9) (N := 27) (j := 23) hx hb hts (fun _ h9 => List.mem_cons_of_mem _ (List.mem_append_right _ h9)) hown hK hg 21 (by decide) rfl rfl (by decide) rfl 1 (by decide) (hts (.fieldLink RX9 13 "JoinMapsModel" "sizes" "[I") (List.mem_cons_of_mem _ (List.mem_append_left _ (List.mem_of_getElem? (i := 4) rfl)))) rfl rfl rfl dX9_keeps_137 ?_
        refine lv_iload_n hx hb dX9_keeps_140 rfl (lv_at hl 1 rfl) ?_
        obtain ⟨hP23, hP24, h⟩ := h
        refine q_iald (N := 6) hx hb hK hg 23 (by decide) rfl rfl hP23 hP24 (by decide) dX9_keeps_141 ?_
        have hR25 := GS_R hg 23 (v1 : Int).toNat
        obtain ⟨hP26, hP27, h⟩ := h
        refine q_iast (N := 72) hx hb hK hg 25 (by decide) rfl rfl hP26 hP27 (by decide) hR25 dX9_keeps_142 (fun H locs hg => ?_)
        refine lv_iinc (v := iI (v1 + 1)) (lv' := [(1, .int (iI (v1 + 1))), (0, .ref (ea E 21))]) hx hb dX9_keeps_143 hl (k := 1) rfl (iI_add _ _) (by decide) rfl (fun ls hl => ?_)
        refine lv_goto (tgt := 117) hx hb dX9_keeps_146 (by decide) ?_
        exact ih (v1 + 1) (un sL 25 (((6 * (sn sL 21 4)) + v1) : Int).toNat ((sn sL 23 (v1 : Int).toNat))) _ _ _ hg hm (lv_sub hl [1, 0] rfl) h
  have J42 : ∀ (K81 : Int → SS → Prop) (hK81 : ∀ (v1 : Int) (sL : SS) (H : Heap) (locs : List Loc) (ls : Array Slot), GS E sL s H locs → Mo (sz σ) σ sL → lv_has ls 2 [(0, .ref (ea E 21)), (1, .int (iI (v1)))] → K81 v1 sL → W p l e (headSpec wsX9_keeps ({ frames := 0, cells := 0, slots := 0, locals := 0 } : Room)).room s m (List.toArray [.ref (ea E 21)]) below meth c H locs 0 0 (MQ below (Qv E (sz σ) σ Q) (List.toArray [.ref (ea E 21)]) s 0 0 (Av E)) (F0 m 81 ls [])) (k : Nat), ∀ (v1 : Int) (sL : SS) (H : Heap) (locs : List Loc) (ls : Array Slot), GS E sL s H locs → Mo (sz σ) σ sL → lv_has ls 2 [(0, .ref (ea E 21)), (1, .int (iI (v1)))] → wX9_keeps_L42  Q K81 k v1 sL → W p l e (headSpec wsX9_keeps ({ frames := 0, cells := 0, slots := 0, locals := 0 } : Room)).room s m (List.toArray [.ref (ea E 21)]) below meth c H locs 0 0 (MQ below (Qv E (sz σ) σ Q) (List.toArray [.ref (ea E 21)]) s 0 0 (Av E)) (F0 m 42 ls []) := by
    intro K81 hK81
    intro k
    induction k with
    | zero => intro v1 sL H locs ls hg hm hl h; exact False.elim h
    | succ k ih =>
      intro v1 sL H locs ls hg hm hl h
      rw [wX9_keeps_L42] at h
      refine lv_iload_n hx hb dX9_keeps_42 rfl (lv_at hl 1 rfl) ?_
      refine lv_bipush (v := iI 66) hx hb dX9_keeps_43 (by decide) ?_
      obtain ⟨hR28, h⟩ := h
      refine j_ge (tgt := 69) hx hb dX9_keeps_45 (by decide) hR28 (by decide) (fun c29 => ?_) (fun c29 => ?_)
      · have h := h.1 c29
        refine lv_aload_n hx hb dX9_keeps_69 rfl (lv_at hl 0 rfl) ?_
        refine lv_dup hx hb dX9_keeps_70 rfl ?_
        refine q_geti (ci := 9) (C := RX9) (T := TX9) (N := 27) hx hb hts (fun _ h9 => List.mem_cons_of_mem _ (List.mem_append_right _ h9)) hown hK hg 21 (by decide) rfl rfl (by decide) rfl 4 (by decide) (hts (.fieldLink RX9 103 "JoinMapsModel" "known" "I") (List.mem_cons_of_mem _ (List.mem_append_left _ (List.mem_of_getElem? (i := 0) rfl)))) rfl rfl dX9_keeps_71 ?_
        have hR30 := GS_R hg 21 4
        refine lv_iconst (v := iI 1) hx hb dX9_keeps_74 (by decide) ?_
        refine q_isub hx hb dX9_keeps_75 ?_
        obtain ⟨hR31, h⟩ := h
        refine q_puti (ci := 9) (C := RX9) (T := TX9) (N := 27) hx hb hts (fun _ h9 => List.mem_cons_of_mem _ (List.mem_append_right _ h9)) tyX9 tyX9_ok nmX9 hown hK hg 21 (by decide) rfl rfl (by decide) rfl 4 (by decide) (hts (.fieldLink RX9 103 "JoinMapsModel" "known" "I") (List.mem_cons_of_mem _ (List.mem_append_left _ (List.mem_of_getElem? (i := 0) rfl)))) rfl rfl (by decide +kernel) rfl hR31 dX9_keeps_76 (fun H locs hg => ?_)
        refine lv_iconst (v := iI 0) hx hb dX9_keeps_79 (by decide) ?_
        refine lv_istore_n (i := 1) (lv' := [(1, .int (iI (0))), (0, .ref (ea E 21))]) hx hb dX9_keeps_80 rfl hl (by decide) rfl (fun ls hl => ?_)
        exact hK81 (0) (un sL 21 4 (((sn sL 21 4) - 1))) _ _ _ hg hm (lv_sub hl [1, 0] rfl) h
      · have h := h.2 c29
        refine lv_aload_n hx hb dX9_keeps_48 rfl (lv_at hl 0 rfl) ?_
        refine q_getx (ci := 9) (C := RX9) (T := TX9) (N := 27) (j := 25) hx hb hts (fun _ h9 => List.mem_cons_of_mem _ (List.mem_append_right _ h9)) hown hK hg 21 (by decide) rfl rfl (by decide) rfl 3 (by decide) (hts (.fieldLink RX9 19 "JoinMapsModel" "pastSizes" "[I") (List.mem_cons_of_mem _ (List.mem_append_left _ (List.mem_of_getElem? (i := 2) rfl)))) rfl rfl rfl dX9_keeps_49 ?_
        refine lv_iload_n hx hb dX9_keeps_52 rfl (lv_at hl 1 rfl) ?_
        refine lv_aload_n hx hb dX9_keeps_53 rfl (lv_at hl 0 rfl) ?_
        refine q_getx (ci := 9) (C := RX9) (T := TX9) (N := 27) (j := 25) hx hb hts (fun _ h9 => List.mem_cons_of_mem _ (List.mem_append_right _ h9)) hown hK hg 21 (by decide) rfl rfl (by decide) rfl 3 (by decide) (hts (.fieldLink RX9 19 "JoinMapsModel" "pastSizes" "[I") (List.mem_cons_of_mem _ (List.mem_append_left _ (List.mem_of_getElem? (i := 2) rfl)))) rfl rfl rfl dX9_keeps_54 ?_
        refine lv_iload_n hx hb dX9_keeps_57 rfl (lv_at hl 1 rfl) ?_
        refine lv_bipush (v := iI 6) hx hb dX9_keeps_58 (by decide) ?_
        refine q_iadd hx hb dX9_keeps_60 ?_
        obtain ⟨hP32, hP33, h⟩ := h
        refine q_iald (N := 72) hx hb hK hg 25 (by decide) rfl rfl hP32 hP33 (by decide) dX9_keeps_61 ?_
        have hR34 := GS_R hg 25 ((v1 + 6) : Int).toNat
        obtain ⟨hP35, hP36, h⟩ := h
        refine q_iast (N := 72) hx hb hK hg 25 (by decide) rfl rfl hP35 hP36 (by decide) hR34 dX9_keeps_62 (fun H locs hg => ?_)
        refine lv_iinc (v := iI (v1 + 1)) (lv' := [(1, .int (iI (v1 + 1))), (0, .ref (ea E 21))]) hx hb dX9_keeps_63 hl (k := 1) rfl (iI_add _ _) (by decide) rfl (fun ls hl => ?_)
        refine lv_goto (tgt := 42) hx hb dX9_keeps_66 (by decide) ?_
        exact ih (v1 + 1) (un sL 25 (v1 : Int).toNat ((sn sL 25 ((v1 + 6) : Int).toNat))) _ _ _ hg hm (lv_sub hl [1, 0] rfl) h
  have J81 : ∀ (k : Nat), ∀ (v1 : Int) (sL : SS) (H : Heap) (locs : List Loc) (ls : Array Slot), GS E sL s H locs → Mo (sz σ) σ sL → lv_has ls 2 [(0, .ref (ea E 21)), (1, .int (iI (v1)))] → wX9_keeps_L81  Q  k v1 sL → W p l e (headSpec wsX9_keeps ({ frames := 0, cells := 0, slots := 0, locals := 0 } : Room)).room s m (List.toArray [.ref (ea E 21)]) below meth c H locs 0 0 (MQ below (Qv E (sz σ) σ Q) (List.toArray [.ref (ea E 21)]) s 0 0 (Av E)) (F0 m 81 ls []) := by
    intro k
    induction k with
    | zero => intro v1 sL H locs ls hg hm hl h; exact False.elim h
    | succ k ih =>
      intro v1 sL H locs ls hg hm hl h
      rw [wX9_keeps_L81] at h
      refine lv_iload_n hx hb dX9_keeps_81 rfl (lv_at hl 1 rfl) ?_
      refine lv_sipush (v := iI 1200) hx hb dX9_keeps_82 (by decide) ?_
      obtain ⟨hR3, h⟩ := h
      refine j_ge (tgt := 115) hx hb dX9_keeps_85 (by decide) hR3 (by decide) (fun c4 => ?_) (fun c4 => ?_)
      · have h := h.1 c4
        refine lv_iconst (v := iI 0) hx hb dX9_keeps_115 (by decide) ?_
        refine lv_istore_n (i := 1) (lv' := [(1, .int (iI (0))), (0, .ref (ea E 21))]) hx hb dX9_keeps_116 rfl hl (by decide) rfl (fun ls hl => ?_)
        obtain ⟨kk, h⟩ := h
        exact J117  kk (0) (sL) _ _ _ hg hm (lv_sub hl [1, 0] rfl) h
      · have h := h.2 c4
        refine lv_aload_n hx hb dX9_keeps_88 rfl (lv_at hl 0 rfl) ?_
        refine q_getx (ci := 9) (C := RX9) (T := TX9) (N := 27) (j := 24) hx hb hts (fun _ h9 => List.mem_cons_of_mem _ (List.mem_append_right _ h9)) hown hK hg 21 (by decide) rfl rfl (by decide) rfl 2 (by decide) (hts (.fieldLink RX9 16 "JoinMapsModel" "past" "[I") (List.mem_cons_of_mem _ (List.mem_append_left _ (List.mem_of_getElem? (i := 1) rfl)))) rfl rfl rfl dX9_keeps_89 ?_
        refine lv_sipush (v := iI 1200) hx hb dX9_keeps_92 (by decide) ?_
        refine lv_aload_n hx hb dX9_keeps_95 rfl (lv_at hl 0 rfl) ?_
        refine q_geti (ci := 9) (C := RX9) (T := TX9) (N := 27) hx hb hts (fun _ h9 => List.mem_cons_of_mem _ (List.mem_append_right _ h9)) hown hK hg 21 (by decide) rfl rfl (by decide) rfl 4 (by decide) (hts (.fieldLink RX9 103 "JoinMapsModel" "known" "I") (List.mem_cons_of_mem _ (List.mem_append_left _ (List.mem_of_getElem? (i := 0) rfl)))) rfl rfl dX9_keeps_96 ?_
        have hR5 := GS_R hg 21 4
        refine q_imul hx hb dX9_keeps_99 ?_
        refine lv_iload_n hx hb dX9_keeps_100 rfl (lv_at hl 1 rfl) ?_
        refine q_iadd hx hb dX9_keeps_101 ?_
        refine lv_aload_n hx hb dX9_keeps_102 rfl (lv_at hl 0 rfl) ?_
        refine q_getx (ci := 9) (C := RX9) (T := TX9) (N := 27) (j := 22) hx hb hts (fun _ h9 => List.mem_cons_of_mem _ (List.mem_append_right _ h9)) hown hK hg 21 (by decide) rfl rfl (by decide) rfl 0 (by decide) (hts (.fieldLink RX9 7 "JoinMapsModel" "rows" "[I") (List.mem_cons_of_mem _ (List.mem_append_left _ (List.mem_of_getElem? (i := 3) rfl)))) rfl rfl rfl dX9_keeps_103 ?_
        refine lv_iload_n hx hb dX9_keeps_106 rfl (lv_at hl 1 rfl) ?_
        obtain ⟨hP6, hP7, h⟩ := h
        refine q_iald (N := 1200) hx hb hK hg 22 (by decide) rfl rfl hP6 hP7 (by decide) dX9_keeps_107 ?_
        have hR8 := GS_R hg 22 (v1 : Int).toNat
        obtain ⟨hP9, hP10, h⟩ := h
        refine q_iast (N := 14400) hx hb hK hg 24 (by decide) rfl rfl hP9 hP10 (by decide) hR8 dX9_keeps_108 (fun H locs hg => ?_)
        refine lv_iinc (v := iI (v1 + 1)) (lv' := [(1, .int (iI (v1 + 1))), (0, .ref (ea E 21))]) hx hb dX9_keeps_109 hl (k := 1) rfl (iI_add _ _) (by decide) rfl (fun ls hl => ?_)
        refine lv_goto (tgt := 81) hx hb dX9_keeps_112 (by decide) ?_
        exact ih (v1 + 1) (un sL 24 (((1200 * (sn sL 21 4)) + v1) : Int).toNat ((sn sL 22 (v1 : Int).toNat))) _ _ _ hg hm (lv_sub hl [1, 0] rfl) h
  have J11 : ∀ (K81 : Int → SS → Prop) (hK81 : ∀ (v1 : Int) (sL : SS) (H : Heap) (locs : List Loc) (ls : Array Slot), GS E sL s H locs → Mo (sz σ) σ sL → lv_has ls 2 [(0, .ref (ea E 21)), (1, .int (iI (v1)))] → K81 v1 sL → W p l e (headSpec wsX9_keeps ({ frames := 0, cells := 0, slots := 0, locals := 0 } : Room)).room s m (List.toArray [.ref (ea E 21)]) below meth c H locs 0 0 (MQ below (Qv E (sz σ) σ Q) (List.toArray [.ref (ea E 21)]) s 0 0 (Av E)) (F0 m 81 ls [])) (k : Nat), ∀ (v1 : Int) (sL : SS) (H : Heap) (locs : List Loc) (ls : Array Slot), GS E sL s H locs → Mo (sz σ) σ sL → lv_has ls 2 [(0, .ref (ea E 21)), (1, .int (iI (v1)))] → wX9_keeps_L11  Q K81 k v1 sL → W p l e (headSpec wsX9_keeps ({ frames := 0, cells := 0, slots := 0, locals := 0 } : Room)).room s m (List.toArray [.ref (ea E 21)]) below meth c H locs 0 0 (MQ below (Qv E (sz σ) σ Q) (List.toArray [.ref (ea E 21)]) s 0 0 (Av E)) (F0 m 11 ls []) := by
    intro K81 hK81
    intro k
    induction k with
    | zero => intro v1 sL H locs ls hg hm hl h; exact False.elim h
    | succ k ih =>
      intro v1 sL H locs ls hg hm hl h
      rw [wX9_keeps_L11] at h
      refine lv_iload_n hx hb dX9_keeps_11 rfl (lv_at hl 1 rfl) ?_
      refine lv_sipush (v := iI 13200) hx hb dX9_keeps_12 (by decide) ?_
      obtain ⟨hR11, h⟩ := h
      refine j_ge (tgt := 40) hx hb dX9_keeps_15 (by decide) hR11 (by decide) (fun c12 => ?_) (fun c12 => ?_)
      · have h := h.1 c12
        refine lv_iconst (v := iI 0) hx hb dX9_keeps_40 (by decide) ?_
        refine lv_istore_n (i := 1) (lv' := [(1, .int (iI (0))), (0, .ref (ea E 21))]) hx hb dX9_keeps_41 rfl hl (by decide) rfl (fun ls hl => ?_)
        obtain ⟨kk, h⟩ := h
        exact J42 _ hK81 kk (0) (sL) _ _ _ hg hm (lv_sub hl [1, 0] rfl) h
      · have h := h.2 c12
        refine lv_aload_n hx hb dX9_keeps_18 rfl (lv_at hl 0 rfl) ?_
        refine q_getx (ci := 9) (C := RX9) (T := TX9) (N := 27) (j := 24) hx hb hts (fun _ h9 => List.mem_cons_of_mem _ (List.mem_append_right _ h9)) hown hK hg 21 (by decide) rfl rfl (by decide) rfl 2 (by decide) (hts (.fieldLink RX9 16 "JoinMapsModel" "past" "[I") (List.mem_cons_of_mem _ (List.mem_append_left _ (List.mem_of_getElem? (i := 1) rfl)))) rfl rfl rfl dX9_keeps_19 ?_
        refine lv_iload_n hx hb dX9_keeps_22 rfl (lv_at hl 1 rfl) ?_
        refine lv_aload_n hx hb dX9_keeps_23 rfl (lv_at hl 0 rfl) ?_
        refine q_getx (ci := 9) (C := RX9) (T := TX9) (N := 27) (j := 24) hx hb hts (fun _ h9 => List.mem_cons_of_mem _ (List.mem_append_right _ h9)) hown hK hg 21 (by decide) rfl rfl (by decide) rfl 2 (by decide) (hts (.fieldLink RX9 16 "JoinMapsModel" "past" "[I") (List.mem_cons_of_mem _ (List.mem_append_left _ (List.mem_of_getElem? (i := 1) rfl)))) rfl rfl rfl dX9_keeps_24 ?_
        refine lv_iload_n hx hb dX9_keeps_27 rfl (lv_at hl 1 rfl) ?_
        refine lv_sipush (v := iI 1200) hx hb dX9_keeps_28 (by decide) ?_
        refine q_iadd hx hb dX9_keeps_31 ?_
        obtain ⟨hP13, hP14, h⟩ := h
        refine q_iald (N := 14400) hx hb hK hg 24 (by decide) rfl rfl hP13 hP14 (by decide) dX9_keeps_32 ?_
        have hR15 := GS_R hg 24 ((v1 + 1200) : Int).toNat
        obtain ⟨hP16, hP17, h⟩ := h
        refine q_iast (N := 14400) hx hb hK hg 24 (by decide) rfl rfl hP16 hP17 (by decide) hR15 dX9_keeps_33 (fun H locs hg => ?_)
        refine lv_iinc (v := iI (v1 + 1)) (lv' := [(1, .int (iI (v1 + 1))), (0, .ref (ea E 21))]) hx hb dX9_keeps_34 hl (k := 1) rfl (iI_add _ _) (by decide) rfl (fun ls hl => ?_)
        refine lv_goto (tgt := 11) hx hb dX9_keeps_37 (by decide) ?_
        exact ih (v1 + 1) (un sL 24 (v1 : Int).toNat ((sn sL 24 ((v1 + 1200) : Int).toNat))) _ _ _ hg hm (lv_sub hl [1, 0] rfl) h
  refine lv_aload_n hx hb dX9_keeps_0 rfl (lv_at hl 0 rfl) ?_
  refine q_geti (ci := 9) (C := RX9) (T := TX9) (N := 27) hx hb hts (fun _ h9 => List.mem_cons_of_mem _ (List.mem_append_right _ h9)) hown hK hg 21 (by decide) rfl rfl (by decide) rfl 4 (by decide) (hts (.fieldLink RX9 103 "JoinMapsModel" "known" "I") (List.mem_cons_of_mem _ (List.mem_append_left _ (List.mem_of_getElem? (i := 0) rfl)))) rfl rfl dX9_keeps_1 ?_
  have hR1 := GS_R hg 21 4
  refine lv_bipush (v := iI 12) hx hb dX9_keeps_4 (by decide) ?_
  refine j_ne (tgt := 79) hx hb dX9_keeps_6 (by decide) hR1 (by decide) (fun c2 => ?_) (fun c2 => ?_)
  · have h := h.1 c2
    refine lv_iconst (v := iI 0) hx hb dX9_keeps_79 (by decide) ?_
    refine lv_istore_n (i := 1) (lv' := [(1, .int (iI (0))), (0, .ref (ea E 21))]) hx hb dX9_keeps_80 rfl hl (by decide) rfl (fun ls hl => ?_)
    obtain ⟨kk, h⟩ := h
    exact J81  kk (0) (σ) _ _ _ hg hm (lv_sub hl [1, 0] rfl) h
  · have h := h.2 c2
    refine lv_iconst (v := iI 0) hx hb dX9_keeps_9 (by decide) ?_
    refine lv_istore_n (i := 1) (lv' := [(1, .int (iI (0))), (0, .ref (ea E 21))]) hx hb dX9_keeps_10 rfl hl (by decide) rfl (fun ls hl => ?_)
    obtain ⟨kk, h⟩ := h
    exact J11 _ (fun v1 sL H locs ls hg hm hl h => by obtain ⟨kk, h⟩ := h; exact J81  kk v1 sL H locs ls hg hm hl h) kk (0) (σ) _ _ _ hg hm (lv_sub hl [1, 0] rfl) h
theorem hdX9_put : yX9_put.cls ≠ "java/lang/invoke/MethodHandle" ∧ yX9_put.cls ≠ "java/lang/invoke/VarHandle" ∧ (parseMethodDescriptor yX9_put.desc).map (fun d => d.parameters.length) = some 3 := by decide +kernel
set_option maxRecDepth 100000 in
set_option maxHeartbeats 4000000 in
theorem ctX9_put (l : Launch) (E : Ev) (a1 : Int) (a2 : Int) (a3 : Int) (σ : SS) (Q : Int → SS → Prop) (ha1 : R32 a1) (ha2 : R32 a2) (ha3 : R32 a3) (h : wX9_put a1 a2 a3 σ Q) : Met l yX9_put wsX9_put ({ frames := 4, cells := 0, slots := 0, locals := 90 } : Room) (Pc E σ [.ref (ea E 21), .int (iI (a1)), .int (iI (a2)), .int (iI (a3))]) (Qi E (sz σ) σ Q) 0 0 (Av E) := by
  rw [wX9_put] at h
  refine Met.ofW (cc := cX9_put) (maxL := 7) (ret := (some .int)) (by decide) rfl ?_
  intro p e s m args below meth c s₁ B hml hv
  obtain ⟨rfl, hH, hK, hN⟩ := hv
  have hx := B.exec
  have hb := B.bytes
  have hr := B.returns
  have hts := atoms_spec (ws := wsX9_put) B.pre
  have hown : s.vm.findClass RX9 = some m.cls := findClass_of_methodNamed B.named
  have hlocks := B.notSynchronized
  have hg : GS E σ s s.heap [] := ⟨hH, va_S.rf⟩
  have hm : Mo (sz σ) σ σ := Mo.rf (Nat.le_refl _)
  have hl := ent (vs := [.ref (ea E 21), .int (iI (a1)), .int (iI (a2)), .int (iI (a3))]) (n := 7) (cats_x (cats_i (cats_i (cats_i cats_nil)))) (Nat.le_of_ble_eq_true rfl)
  rw [lg_entry_eq]
  generalize (lg_sl ([.ref (ea E 21), .int (iI (a1)), .int (iI (a2)), .int (iI (a3))]) ++ List.replicate (7 - (lg_sl ([.ref (ea E 21), .int (iI (a1)), .int (iI (a2)), .int (iI (a3))])).length) Slot.unset).toArray = ls at hl ⊢
  have hl : lv_has ls 7 [(0, .ref (ea E 21)), (1, .int (iI (a1))), (2, .int (iI (a2))), (3, .int (iI (a3)))] := hl
  have J77 : ∀ (v4 : Int) (v5 : Int) (sL : SS) (H : Heap) (locs : List Loc) (ls : Array Slot), GS E sL s H locs → Mo (sz σ) σ sL → lv_has ls 7 [(0, .ref (ea E 21)), (1, .int (iI (a1))), (2, .int (iI (a2))), (3, .int (iI (a3))), (4, .int (iI (v4))), (5, .int (iI (v5)))] → wX9_put_L77 a1 a2 a3 Q  v4 v5 sL → W p l e (headSpec wsX9_put ({ frames := 4, cells := 0, slots := 0, locals := 90 } : Room)).room s m (List.toArray [.ref (ea E 21), .int (iI (a1)), .int (iI (a2)), .int (iI (a3))]) below meth c H locs 0 0 (MQ below (Qi E (sz σ) σ Q) (List.toArray [.ref (ea E 21), .int (iI (a1)), .int (iI (a2)), .int (iI (a3))]) s 0 0 (Av E)) (F0 m 77 ls []) := by
    intro v4 v5 sL H locs ls hg hm hl h
    rw [wX9_put_L77] at h
    refine lv_aload_n hx hb dX9_put_77 rfl (lv_at hl 0 rfl) ?_
    refine call_v (run_V (a := ea E 21) (As := []) (rest := []) ⟨hx, hb, hml, hown, hts⟩ (ctX9_keeps l E  sL _  h) (cwV 0 hts gX9_put_X9_keeps rfl rfl rfl ⟨rfl, hdX9_keeps⟩ ⟨Nat.le_of_ble_eq_true rfl, Nat.le_of_ble_eq_true rfl⟩) hK hN hg (recv_x (ci := 9) (C := RX9) (T := TX9) (N := 27) hg hK (by decide) rfl (by decide) rfl) rfl hl.1 rfl (cat_sum _ (by simp)) dX9_put_78 ⟨Nat.le_refl 0, Nat.le_refl 0⟩) hg (fun s36 H locs hm2 h hg => ?_)
    have hm := hm.tn hm2
    refine lv_iload hx hb dX9_put_81 (lv_at hl 5 rfl) ?_
    obtain ⟨hR39, h⟩ := h
    refine k_eq (tgt := 96) hx hb dX9_put_83 (by decide) hR39 (fun c40 => ?_) (fun c40 => ?_)
    · have h := h.1 c40
      refine q_ldc (z := (-2000000001)) hx hb hown (hts (.constant RX9 120 (-2000000001)) (List.mem_cons_of_mem _ (List.mem_append_left _ (List.mem_append_left _ (List.mem_of_getElem? (i := 5) rfl))))) (by decide) dX9_put_96 ?_
      refine lv_istore (i := 6) (lv' := [(6, .int (iI ((-2000000001)))), (0, .ref (ea E 21)), (1, .int (iI (a1))), (2, .int (iI (a2))), (3, .int (iI (a3))), (4, .int (iI (v4))), (5, .int (iI (v5)))]) hx hb dX9_put_98 hl (by decide) rfl (fun ls hl => ?_)
      refine lv_aload_n hx hb dX9_put_100 rfl (lv_at hl 1 rfl) ?_
      refine lv_iload_n hx hb dX9_put_101 rfl (lv_at hl 2 rfl) ?_
      refine lv_iload_n hx hb dX9_put_102 rfl (lv_at hl 3 rfl) ?_
      refine lv_iload_n hx hb dX9_put_103 rfl (lv_at hl 4 rfl) ?_
      refine call_v (run_V (a := ea E 21) (As := [.int (iI (a1)), .int (iI (a2)), .int (iI (a3))]) (rest := []) ⟨hx, hb, hml, hown, hts⟩ (ctX9_lays l E a1 a2 a3 s36 _ ha1 ha2 ha3 h) (cwV 3 hts gX9_put_X9_lays rfl rfl rfl ⟨rfl, hdX9_lays⟩ ⟨Nat.le_of_ble_eq_true rfl, Nat.le_of_ble_eq_true rfl⟩) hK hN hg (recv_x (ci := 9) (C := RX9) (T := TX9) (N := 27) hg hK (by decide) rfl (by decide) rfl) rfl hl.1 rfl (cat_sum _ (by simp)) dX9_put_104 ⟨Nat.le_refl 0, Nat.le_refl 0⟩) hg (fun s41 H locs hm2 h hg => ?_)
      have hm := hm.tn hm2
      refine lv_iload hx hb dX9_put_107 (lv_at hl 0 rfl) ?_
      exact ret_i hx hb hr hlocks hg (by decide) hm h dX9_put_109
    · have h := h.2 c40
      refine lv_aload_n hx hb dX9_put_86 rfl (lv_at hl 0 rfl) ?_
      refine lv_iload_n hx hb dX9_put_87 rfl (lv_at hl 1 rfl) ?_
      refine lv_iload hx hb dX9_put_88 (lv_at hl 4 rfl) ?_
      obtain ⟨hR44, h⟩ := h
      refine call_i (run_V (a := ea E 21) (As := [.int (iI (a1)), .int (iI (v4))]) (rest := []) ⟨hx, hb, hml, hown, hts⟩ (ctX9_valueAt l E a1 v4 s36 _ ha1 hR44 h) (cwV 2 hts gX9_put_X9_valueAt rfl rfl rfl ⟨rfl, hdX9_valueAt⟩ ⟨Nat.le_of_ble_eq_true rfl, Nat.le_of_ble_eq_true rfl⟩) hK hN hg (recv_x (ci := 9) (C := RX9) (T := TX9) (N := 27) hg hK (by decide) rfl (by decide) rfl) rfl hl.1 rfl (cat_sum _ (by simp)) dX9_put_90 ⟨Nat.le_refl 0, Nat.le_refl 0⟩) hg (fun r46 s45 H locs hz47 hm2 h hg => ?_)
      have hm := hm.tn hm2
      refine lv_goto (tgt := 98) hx hb dX9_put_93 (by decide) ?_
      refine lv_istore (i := 6) (lv' := [(6, .int (iI (r46))), (0, .ref (ea E 21)), (1, .int (iI (a1))), (2, .int (iI (a2))), (3, .int (iI (a3))), (4, .int (iI (v4))), (5, .int (iI (v5)))]) hx hb dX9_put_98 hl (by decide) rfl (fun ls hl => ?_)
      refine lv_aload_n hx hb dX9_put_100 rfl (lv_at hl 1 rfl) ?_
      refine lv_iload_n hx hb dX9_put_101 rfl (lv_at hl 2 rfl) ?_
      refine lv_iload_n hx hb dX9_put_102 rfl (lv_at hl 3 rfl) ?_
      refine lv_iload_n hx hb dX9_put_103 rfl (lv_at hl 4 rfl) ?_
      refine call_v (run_V (a := ea E 21) (As := [.int (iI (a1)), .int (iI (a2)), .int (iI (a3))]) (rest := []) ⟨hx, hb, hml, hown, hts⟩ (ctX9_lays l E a1 a2 a3 s45 _ ha1 ha2 ha3 h) (cwV 3 hts gX9_put_X9_lays rfl rfl rfl ⟨rfl, hdX9_lays⟩ ⟨Nat.le_of_ble_eq_true rfl, Nat.le_of_ble_eq_true rfl⟩) hK hN hg (recv_x (ci := 9) (C := RX9) (T := TX9) (N := 27) hg hK (by decide) rfl (by decide) rfl) rfl hl.1 rfl (cat_sum _ (by simp)) dX9_put_104 ⟨Nat.le_refl 0, Nat.le_refl 0⟩) hg (fun s48 H locs hm2 h hg => ?_)
      have hm := hm.tn hm2
      refine lv_iload hx hb dX9_put_107 (lv_at hl 0 rfl) ?_
      exact ret_i hx hb hr hlocks hg hz47 hm h dX9_put_109
  refine lv_iload_n hx hb dX9_put_0 rfl (lv_at hl 1 rfl) ?_
  refine call_z (run_S (As := [.int (iI (a1))]) (rest := []) ⟨hx, hb, hml, hown, hts⟩ (ctX9_isMap l E a1 σ _ ha1 h) (va_cwS 1 hts gX9_put_X9_isMap rfl rfl rfl hdX9_isMap ⟨Nat.le_of_ble_eq_true rfl, Nat.le_of_ble_eq_true rfl⟩) hK hN hg rfl hl.1 rfl (cat_sum _ (by simp)) dX9_put_1 ⟨Nat.le_refl 0, Nat.le_refl 0⟩) hg (fun r2 s1 H locs hz3 hm2 h hg => ?_)
  have hm := hm.tn hm2
  refine k_eq (tgt := 28) hx hb dX9_put_4 (by decide) (z_R hz3) (fun c4 => ?_) (fun c4 => ?_)
  · have h := h.1 c4
    refine lv_aload_n hx hb dX9_put_28 rfl (lv_at hl 0 rfl) ?_
    refine q_ldc (z := (-2000000002)) hx hb hown (hts (.constant RX9 61 (-2000000002)) (List.mem_cons_of_mem _ (List.mem_append_left _ (List.mem_append_left _ (List.mem_of_getElem? (i := 2) rfl))))) (by decide) dX9_put_29 ?_
    refine call_i (run_V (a := ea E 21) (As := [.int (iI ((-2000000002)))]) (rest := []) ⟨hx, hb, hml, hown, hts⟩ (ctX9_refuses l E (-2000000002) s1 _ (by decide) h) (cwV 1 hts gX9_put_X9_refuses rfl rfl rfl ⟨rfl, hdX9_refuses⟩ ⟨Nat.le_of_ble_eq_true rfl, Nat.le_of_ble_eq_true rfl⟩) hK hN hg (recv_x (ci := 9) (C := RX9) (T := TX9) (N := 27) hg hK (by decide) rfl (by decide) rfl) rfl hl.1 rfl (cat_sum _ (by simp)) dX9_put_31 ⟨Nat.le_refl 0, Nat.le_refl 0⟩) hg (fun r6 s5 H locs hz7 hm2 h hg => ?_)
    have hm := hm.tn hm2
    exact ret_i hx hb hr hlocks hg hz7 hm h dX9_put_34
  · have h := h.2 c4
    refine lv_iload_n hx hb dX9_put_7 rfl (lv_at hl 2 rfl) ?_
    refine call_z (run_S (As := [.int (iI (a2))]) (rest := []) ⟨hx, hb, hml, hown, hts⟩ (ctX9_isKey l E a2 s1 _ ha2 h) (va_cwS 1 hts gX9_put_X9_isKey rfl rfl rfl hdX9_isKey ⟨Nat.le_of_ble_eq_true rfl, Nat.le_of_ble_eq_true rfl⟩) hK hN hg rfl hl.1 rfl (cat_sum _ (by simp)) dX9_put_8 ⟨Nat.le_refl 0, Nat.le_refl 0⟩) hg (fun r9 s8 H locs hz10 hm2 h hg => ?_)
    have hm := hm.tn hm2
    refine k_eq (tgt := 28) hx hb dX9_put_11 (by decide) (z_R hz10) (fun c11 => ?_) (fun c11 => ?_)
    · have h := h.1 c11
      refine lv_aload_n hx hb dX9_put_28 rfl (lv_at hl 0 rfl) ?_
      refine q_ldc (z := (-2000000002)) hx hb hown (hts (.constant RX9 61 (-2000000002)) (List.mem_cons_of_mem _ (List.mem_append_left _ (List.mem_append_left _ (List.mem_of_getElem? (i := 2) rfl))))) (by decide) dX9_put_29 ?_
      refine call_i (run_V (a := ea E 21) (As := [.int (iI ((-2000000002)))]) (rest := []) ⟨hx, hb, hml, hown, hts⟩ (ctX9_refuses l E (-2000000002) s8 _ (by decide) h) (cwV 1 hts gX9_put_X9_refuses rfl rfl rfl ⟨rfl, hdX9_refuses⟩ ⟨Nat.le_of_ble_eq_true rfl, Nat.le_of_ble_eq_true rfl⟩) hK hN hg (recv_x (ci := 9) (C := RX9) (T := TX9) (N := 27) hg hK (by decide) rfl (by decide) rfl) rfl hl.1 rfl (cat_sum _ (by simp)) dX9_put_31 ⟨Nat.le_refl 0, Nat.le_refl 0⟩) hg (fun r13 s12 H locs hz14 hm2 h hg => ?_)
      have hm := hm.tn hm2
      exact ret_i hx hb hr hlocks hg hz14 hm h dX9_put_34
    · have h := h.2 c11
      refine lv_iload_n hx hb dX9_put_14 rfl (lv_at hl 3 rfl) ?_
      refine q_i2l hx hb ha3 dX9_put_15 ?_
      refine q_ldc2 (z := (-1000000)) hx hb hown (hts (.constantLong RX9 62 (-1000000)) (List.mem_cons_of_mem _ (List.mem_append_left _ (List.mem_append_left _ (List.mem_of_getElem? (i := 0) rfl))))) (by decide) dX9_put_16 ?_
      refine q_ldc2 (z := 1000000) hx hb hown (hts (.constantLong RX9 64 (1000000)) (List.mem_cons_of_mem _ (List.mem_append_left _ (List.mem_append_left _ (List.mem_of_getElem? (i := 1) rfl))))) (by decide) dX9_put_19 ?_
      refine call_z (run_S (As := [.long (lI (a3)), .long (lI ((-1000000))), .long (lI (1000000))]) (rest := []) ⟨hx, hb, hml, hown, hts⟩ (ctX9_in l E a3 (-1000000) 1000000 s8 _ (R64_of ha3) (by decide) (by decide) h) (va_cwS 3 hts gX9_put_X9_in rfl rfl rfl hdX9_in ⟨Nat.le_of_ble_eq_true rfl, Nat.le_of_ble_eq_true rfl⟩) hK hN hg rfl hl.1 rfl (cat_sum _ (by simp)) dX9_put_22 ⟨Nat.le_refl 0, Nat.le_refl 0⟩) hg (fun r16 s15 H locs hz17 hm2 h hg => ?_)
      have hm := hm.tn hm2
      refine k_ne (tgt := 35) hx hb dX9_put_25 (by decide) (z_R hz17) (fun c18 => ?_) (fun c18 => ?_)
      · have h := h.1 c18
        refine lv_aload_n hx hb dX9_put_35 rfl (lv_at hl 0 rfl) ?_
        refine lv_iload_n hx hb dX9_put_36 rfl (lv_at hl 1 rfl) ?_
        refine lv_iload_n hx hb dX9_put_37 rfl (lv_at hl 2 rfl) ?_
        refine call_i (run_V (a := ea E 21) (As := [.int (iI (a1)), .int (iI (a2))]) (rest := []) ⟨hx, hb, hml, hown, hts⟩ (ctX9_below l E a1 a2 s15 _ ha1 ha2 h) (cwV 2 hts gX9_put_X9_below rfl rfl rfl ⟨rfl, hdX9_below⟩ ⟨Nat.le_of_ble_eq_true rfl, Nat.le_of_ble_eq_true rfl⟩) hK hN hg (recv_x (ci := 9) (C := RX9) (T := TX9) (N := 27) hg hK (by decide) rfl (by decide) rfl) rfl hl.1 rfl (cat_sum _ (by simp)) dX9_put_38 ⟨Nat.le_refl 0, Nat.le_refl 0⟩) hg (fun r20 s19 H locs hz21 hm2 h hg => ?_)
        have hm := hm.tn hm2
        refine lv_istore (i := 4) (lv' := [(4, .int (iI (r20))), (0, .ref (ea E 21)), (1, .int (iI (a1))), (2, .int (iI (a2))), (3, .int (iI (a3)))]) hx hb dX9_put_41 hl (by decide) rfl (fun ls hl => ?_)
        refine lv_aload_n hx hb dX9_put_43 rfl (lv_at hl 1 rfl) ?_
        refine lv_iload_n hx hb dX9_put_44 rfl (lv_at hl 2 rfl) ?_
        refine lv_iload hx hb dX9_put_45 (lv_at hl 0 rfl) ?_
        refine lv_iload_n hx hb dX9_put_47 rfl (lv_at hl 3 rfl) ?_
        refine call_z (run_V (a := ea E 21) (As := [.int (iI (a1)), .int (iI (r20)), .int (iI (a2))]) (rest := []) ⟨hx, hb, hml, hown, hts⟩ (ctX9_isThere l E a1 r20 a2 s19 _ ha1 hz21 ha2 h) (cwV 3 hts gX9_put_X9_isThere rfl rfl rfl ⟨rfl, hdX9_isThere⟩ ⟨Nat.le_of_ble_eq_true rfl, Nat.le_of_ble_eq_true rfl⟩) hK hN hg (recv_x (ci := 9) (C := RX9) (T := TX9) (N := 27) hg hK (by decide) rfl (by decide) rfl) rfl hl.1 rfl (cat_sum _ (by simp)) dX9_put_48 ⟨Nat.le_refl 0, Nat.le_refl 0⟩) hg (fun r23 s22 H locs hz24 hm2 h hg => ?_)
        have hm := hm.tn hm2
        refine lv_istore (i := 5) (lv' := [(5, .int (iI (r23))), (4, .int (iI (r20))), (0, .ref (ea E 21)), (1, .int (iI (a1))), (2, .int (iI (a2))), (3, .int (iI (a3)))]) hx hb dX9_put_51 hl (by decide) rfl (fun ls hl => ?_)
        refine lv_iload hx hb dX9_put_53 (lv_at hl 0 rfl) ?_
        refine k_ne (tgt := 77) hx hb dX9_put_55 (by decide) (z_R hz24) (fun c25 => ?_) (fun c25 => ?_)
        · have h := h.1 c25
          exact J77  (r20) (r23) (s22) _ _ _ hg hm (lv_sub hl [2, 3, 4, 5, 1, 0] rfl) h
        · have h := h.2 c25
          refine lv_aload_n hx hb dX9_put_58 rfl (lv_at hl 2 rfl) ?_
          refine q_getx (ci := 9) (C := RX9) (T := TX9) (N := 27) (j := 23) hx hb hts (fun _ h9 => List.mem_cons_of_mem _ (List.mem_append_right _ h9)) hown hK hg 21 (by decide) rfl rfl (by decide) rfl 1 (by decide) (hts (.fieldLink RX9 13 "JoinMapsModel" "sizes" "[I") (List.mem_cons_of_mem _ (List.mem_append_left _ (List.mem_append_left _ (List.mem_of_getElem? (i := 3) rfl))))) rfl rfl rfl dX9_put_59 ?_
          refine lv_iload_n hx hb dX9_put_62 rfl (lv_at hl 3 rfl) ?_
          obtain ⟨hP26, hP27, h⟩ := h
          refine q_iald (N := 6) hx hb hK hg 23 (by decide) rfl rfl hP26 hP27 (by decide) dX9_put_63 ?_
          have hR28 := GS_R hg 23 (a1 : Int).toNat
          refine lv_sipush (v := iI 200) hx hb dX9_put_64 (by decide) ?_
          refine j_ne (tgt := 77) hx hb dX9_put_67 (by decide) hR28 (by decide) (fun c29 => ?_) (fun c29 => ?_)
          · have h := h.1 c29
            exact J77  (r20) (r23) (s22) _ _ _ hg hm (lv_sub hl [2, 3, 4, 5, 1, 0] rfl) h
          · have h := h.2 c29
            refine lv_aload_n hx hb dX9_put_70 rfl (lv_at hl 2 rfl) ?_
            refine q_ldc (z := (-2000000004)) hx hb hown (hts (.constant RX9 113 (-2000000004)) (List.mem_cons_of_mem _ (List.mem_append_left _ (List.mem_append_left _ (List.mem_of_getElem? (i := 4) rfl))))) (by decide) dX9_put_71 ?_
            refine call_i (run_V (a := ea E 21) (As := [.int (iI ((-2000000004)))]) (rest := []) ⟨hx, hb, hml, hown, hts⟩ (ctX9_refuses l E (-2000000004) s22 _ (by decide) h) (cwV 1 hts gX9_put_X9_refuses rfl rfl rfl ⟨rfl, hdX9_refuses⟩ ⟨Nat.le_of_ble_eq_true rfl, Nat.le_of_ble_eq_true rfl⟩) hK hN hg (recv_x (ci := 9) (C := RX9) (T := TX9) (N := 27) hg hK (by decide) rfl (by decide) rfl) rfl hl.1 rfl (cat_sum _ (by simp)) dX9_put_73 ⟨Nat.le_refl 0, Nat.le_refl 0⟩) hg (fun r31 s30 H locs hz32 hm2 h hg => ?_)
            have hm := hm.tn hm2
            exact ret_i hx hb hr hlocks hg hz32 hm h dX9_put_76
      · have h := h.2 c18
        refine lv_aload_n hx hb dX9_put_28 rfl (lv_at hl 0 rfl) ?_
        refine q_ldc (z := (-2000000002)) hx hb hown (hts (.constant RX9 61 (-2000000002)) (List.mem_cons_of_mem _ (List.mem_append_left _ (List.mem_append_left _ (List.mem_of_getElem? (i := 2) rfl))))) (by decide) dX9_put_29 ?_
        refine call_i (run_V (a := ea E 21) (As := [.int (iI ((-2000000002)))]) (rest := []) ⟨hx, hb, hml, hown, hts⟩ (ctX9_refuses l E (-2000000002) s15 _ (by decide) h) (cwV 1 hts gX9_put_X9_refuses rfl rfl rfl ⟨rfl, hdX9_refuses⟩ ⟨Nat.le_of_ble_eq_true rfl, Nat.le_of_ble_eq_true rfl⟩) hK hN hg (recv_x (ci := 9) (C := RX9) (T := TX9) (N := 27) hg hK (by decide) rfl (by decide) rfl) rfl hl.1 rfl (cat_sum _ (by simp)) dX9_put_31 ⟨Nat.le_refl 0, Nat.le_refl 0⟩) hg (fun r34 s33 H locs hz35 hm2 h hg => ?_)
        have hm := hm.tn hm2
        exact ret_i hx hb hr hlocks hg hz35 hm h dX9_put_34
theorem hdX9_remove : yX9_remove.cls ≠ "java/lang/invoke/MethodHandle" ∧ yX9_remove.cls ≠ "java/lang/invoke/VarHandle" ∧ (parseMethodDescriptor yX9_remove.desc).map (fun d => d.parameters.length) = some 2 := by decide +kernel
set_option maxRecDepth 100000 in
set_option maxHeartbeats 4000000 in
theorem ctX9_remove (l : Launch) (E : Ev) (a1 : Int) (a2 : Int) (σ : SS) (Q : Int → SS → Prop) (ha1 : R32 a1) (ha2 : R32 a2) (h : wX9_remove a1 a2 σ Q) : Met l yX9_remove wsX9_remove ({ frames := 3, cells := 0, slots := 0, locals := 65 } : Room) (Pc E σ [.ref (ea E 21), .int (iI (a1)), .int (iI (a2))]) (Qi E (sz σ) σ Q) 0 0 (Av E) := by
  rw [wX9_remove] at h
  refine Met.ofW (cc := cX9_remove) (maxL := 5) (ret := (some .int)) (by decide) rfl ?_
  intro p e s m args below meth c s₁ B hml hv
  obtain ⟨rfl, hH, hK, hN⟩ := hv
  have hx := B.exec
  have hb := B.bytes
  have hr := B.returns
  have hts := atoms_spec (ws := wsX9_remove) B.pre
  have hown : s.vm.findClass RX9 = some m.cls := findClass_of_methodNamed B.named
  have hlocks := B.notSynchronized
  have hg : GS E σ s s.heap [] := ⟨hH, va_S.rf⟩
  have hm : Mo (sz σ) σ σ := Mo.rf (Nat.le_refl _)
  have hl := ent (vs := [.ref (ea E 21), .int (iI (a1)), .int (iI (a2))]) (n := 5) (cats_x (cats_i (cats_i cats_nil))) (Nat.le_of_ble_eq_true rfl)
  rw [lg_entry_eq]
  generalize (lg_sl ([.ref (ea E 21), .int (iI (a1)), .int (iI (a2))]) ++ List.replicate (5 - (lg_sl ([.ref (ea E 21), .int (iI (a1)), .int (iI (a2))])).length) Slot.unset).toArray = ls at hl ⊢
  have hl : lv_has ls 5 [(0, .ref (ea E 21)), (1, .int (iI (a1))), (2, .int (iI (a2)))] := hl
  refine lv_iload_n hx hb dX9_remove_0 rfl (lv_at hl 1 rfl) ?_
  refine call_z (run_S (As := [.int (iI (a1))]) (rest := []) ⟨hx, hb, hml, hown, hts⟩ (ctX9_isMap l E a1 σ _ ha1 h) (va_cwS 1 hts gX9_remove_X9_isMap rfl rfl rfl hdX9_isMap ⟨Nat.le_of_ble_eq_true rfl, Nat.le_of_ble_eq_true rfl⟩) hK hN hg rfl hl.1 rfl (cat_sum _ (by simp)) dX9_remove_1 ⟨Nat.le_refl 0, Nat.le_refl 0⟩) hg (fun r2 s1 H locs hz3 hm2 h hg => ?_)
  have hm := hm.tn hm2
  refine k_eq (tgt := 14) hx hb dX9_remove_4 (by decide) (z_R hz3) (fun c4 => ?_) (fun c4 => ?_)
  · have h := h.1 c4
    refine lv_aload_n hx hb dX9_remove_14 rfl (lv_at hl 0 rfl) ?_
    refine q_ldc (z := (-2000000002)) hx hb hown (hts (.constant RX9 61 (-2000000002)) (List.mem_cons_of_mem _ (List.mem_append_left _ (List.mem_append_left _ (List.mem_of_getElem? (i := 0) rfl))))) (by decide) dX9_remove_15 ?_
    refine call_i (run_V (a := ea E 21) (As := [.int (iI ((-2000000002)))]) (rest := []) ⟨hx, hb, hml, hown, hts⟩ (ctX9_refuses l E (-2000000002) s1 _ (by decide) h) (cwV 1 hts gX9_remove_X9_refuses rfl rfl rfl ⟨rfl, hdX9_refuses⟩ ⟨Nat.le_of_ble_eq_true rfl, Nat.le_of_ble_eq_true rfl⟩) hK hN hg (recv_x (ci := 9) (C := RX9) (T := TX9) (N := 27) hg hK (by decide) rfl (by decide) rfl) rfl hl.1 rfl (cat_sum _ (by simp)) dX9_remove_17 ⟨Nat.le_refl 0, Nat.le_refl 0⟩) hg (fun r6 s5 H locs hz7 hm2 h hg => ?_)
    have hm := hm.tn hm2
    exact ret_i hx hb hr hlocks hg hz7 hm h dX9_remove_20
  · have h := h.2 c4
    refine lv_iload_n hx hb dX9_remove_7 rfl (lv_at hl 2 rfl) ?_
    refine call_z (run_S (As := [.int (iI (a2))]) (rest := []) ⟨hx, hb, hml, hown, hts⟩ (ctX9_isKey l E a2 s1 _ ha2 h) (va_cwS 1 hts gX9_remove_X9_isKey rfl rfl rfl hdX9_isKey ⟨Nat.le_of_ble_eq_true rfl, Nat.le_of_ble_eq_true rfl⟩) hK hN hg rfl hl.1 rfl (cat_sum _ (by simp)) dX9_remove_8 ⟨Nat.le_refl 0, Nat.le_refl 0⟩) hg (fun r9 s8 H locs hz10 hm2 h hg => ?_)
    have hm := hm.tn hm2
    refine k_ne (tgt := 21) hx hb dX9_remove_11 (by decide) (z_R hz10) (fun c11 => ?_) (fun c11 => ?_)
    · have h := h.1 c11
      refine lv_aload_n hx hb dX9_remove_21 rfl (lv_at hl 0 rfl) ?_
      refine lv_iload_n hx hb dX9_remove_22 rfl (lv_at hl 1 rfl) ?_
      refine lv_iload_n hx hb dX9_remove_23 rfl (lv_at hl 2 rfl) ?_
      refine call_i (run_V (a := ea E 21) (As := [.int (iI (a1)), .int (iI (a2))]) (rest := []) ⟨hx, hb, hml, hown, hts⟩ (ctX9_below l E a1 a2 s8 _ ha1 ha2 h) (cwV 2 hts gX9_remove_X9_below rfl rfl rfl ⟨rfl, hdX9_below⟩ ⟨Nat.le_of_ble_eq_true rfl, Nat.le_of_ble_eq_true rfl⟩) hK hN hg (recv_x (ci := 9) (C := RX9) (T := TX9) (N := 27) hg hK (by decide) rfl (by decide) rfl) rfl hl.1 rfl (cat_sum _ (by simp)) dX9_remove_24 ⟨Nat.le_refl 0, Nat.le_refl 0⟩) hg (fun r13 s12 H locs hz14 hm2 h hg => ?_)
      have hm := hm.tn hm2
      refine lv_istore_n (i := 3) (lv' := [(3, .int (iI (r13))), (0, .ref (ea E 21)), (1, .int (iI (a1))), (2, .int (iI (a2)))]) hx hb dX9_remove_27 rfl hl (by decide) rfl (fun ls hl => ?_)
      refine lv_aload_n hx hb dX9_remove_28 rfl (lv_at hl 1 rfl) ?_
      refine lv_iload_n hx hb dX9_remove_29 rfl (lv_at hl 2 rfl) ?_
      refine lv_iload_n hx hb dX9_remove_30 rfl (lv_at hl 0 rfl) ?_
      refine lv_iload_n hx hb dX9_remove_31 rfl (lv_at hl 3 rfl) ?_
      refine call_z (run_V (a := ea E 21) (As := [.int (iI (a1)), .int (iI (r13)), .int (iI (a2))]) (rest := []) ⟨hx, hb, hml, hown, hts⟩ (ctX9_isThere l E a1 r13 a2 s12 _ ha1 hz14 ha2 h) (cwV 3 hts gX9_remove_X9_isThere rfl rfl rfl ⟨rfl, hdX9_isThere⟩ ⟨Nat.le_of_ble_eq_true rfl, Nat.le_of_ble_eq_true rfl⟩) hK hN hg (recv_x (ci := 9) (C := RX9) (T := TX9) (N := 27) hg hK (by decide) rfl (by decide) rfl) rfl hl.1 rfl (cat_sum _ (by simp)) dX9_remove_32 ⟨Nat.le_refl 0, Nat.le_refl 0⟩) hg (fun r16 s15 H locs hz17 hm2 h hg => ?_)
      have hm := hm.tn hm2
      refine k_ne (tgt := 45) hx hb dX9_remove_35 (by decide) (z_R hz17) (fun c18 => ?_) (fun c18 => ?_)
      · have h := h.1 c18
        refine lv_aload_n hx hb dX9_remove_45 rfl (lv_at hl 1 rfl) ?_
        refine call_v (run_V (a := ea E 21) (As := []) (rest := []) ⟨hx, hb, hml, hown, hts⟩ (ctX9_keeps l E  s15 _  h) (cwV 0 hts gX9_remove_X9_keeps rfl rfl rfl ⟨rfl, hdX9_keeps⟩ ⟨Nat.le_of_ble_eq_true rfl, Nat.le_of_ble_eq_true rfl⟩) hK hN hg (recv_x (ci := 9) (C := RX9) (T := TX9) (N := 27) hg hK (by decide) rfl (by decide) rfl) rfl hl.1 rfl (cat_sum _ (by simp)) dX9_remove_46 ⟨Nat.le_refl 0, Nat.le_refl 0⟩) hg (fun s19 H locs hm2 h hg => ?_)
        have hm := hm.tn hm2
        refine lv_aload_n hx hb dX9_remove_49 rfl (lv_at hl 1 rfl) ?_
        refine lv_iload_n hx hb dX9_remove_50 rfl (lv_at hl 2 rfl) ?_
        refine lv_iload_n hx hb dX9_remove_51 rfl (lv_at hl 0 rfl) ?_
        refine call_i (run_V (a := ea E 21) (As := [.int (iI (a1)), .int (iI (r13))]) (rest := []) ⟨hx, hb, hml, hown, hts⟩ (ctX9_valueAt l E a1 r13 s19 _ ha1 hz14 h) (cwV 2 hts gX9_remove_X9_valueAt rfl rfl rfl ⟨rfl, hdX9_valueAt⟩ ⟨Nat.le_of_ble_eq_true rfl, Nat.le_of_ble_eq_true rfl⟩) hK hN hg (recv_x (ci := 9) (C := RX9) (T := TX9) (N := 27) hg hK (by decide) rfl (by decide) rfl) rfl hl.1 rfl (cat_sum _ (by simp)) dX9_remove_52 ⟨Nat.le_refl 0, Nat.le_refl 0⟩) hg (fun r23 s22 H locs hz24 hm2 h hg => ?_)
        have hm := hm.tn hm2
        refine lv_istore (i := 4) (lv' := [(4, .int (iI (r23))), (3, .int (iI (r13))), (0, .ref (ea E 21)), (1, .int (iI (a1))), (2, .int (iI (a2)))]) hx hb dX9_remove_55 hl (by decide) rfl (fun ls hl => ?_)
        refine lv_aload_n hx hb dX9_remove_57 rfl (lv_at hl 2 rfl) ?_
        refine lv_iload_n hx hb dX9_remove_58 rfl (lv_at hl 3 rfl) ?_
        refine lv_iload_n hx hb dX9_remove_59 rfl (lv_at hl 1 rfl) ?_
        refine lv_iload_n hx hb dX9_remove_60 rfl (lv_at hl 1 rfl) ?_
        refine lv_iconst (v := iI 1) hx hb dX9_remove_61 (by decide) ?_
        refine q_iadd hx hb dX9_remove_62 ?_
        obtain ⟨hR25, h⟩ := h
        refine call_v (run_V (a := ea E 21) (As := [.int (iI (a1)), .int (iI (r13)), .int (iI ((r13 + 1)))]) (rest := []) ⟨hx, hb, hml, hown, hts⟩ (ctX9_goes l E a1 r13 (r13 + 1) s22 _ ha1 hz14 hR25 h) (cwV 3 hts gX9_remove_X9_goes rfl rfl rfl ⟨rfl, hdX9_goes⟩ ⟨Nat.le_of_ble_eq_true rfl, Nat.le_of_ble_eq_true rfl⟩) hK hN hg (recv_x (ci := 9) (C := RX9) (T := TX9) (N := 27) hg hK (by decide) rfl (by decide) rfl) rfl hl.1 rfl (cat_sum _ (by simp)) dX9_remove_63 ⟨Nat.le_refl 0, Nat.le_refl 0⟩) hg (fun s26 H locs hm2 h hg => ?_)
        have hm := hm.tn hm2
        refine lv_iload hx hb dX9_remove_66 (lv_at hl 0 rfl) ?_
        exact ret_i hx hb hr hlocks hg hz24 hm h dX9_remove_68
      · have h := h.2 c18
        refine lv_aload_n hx hb dX9_remove_38 rfl (lv_at hl 1 rfl) ?_
        refine q_ldc (z := (-2000000003)) hx hb hown (hts (.constant RX9 125 (-2000000003)) (List.mem_cons_of_mem _ (List.mem_append_left _ (List.mem_append_left _ (List.mem_of_getElem? (i := 1) rfl))))) (by decide) dX9_remove_39 ?_
        refine call_i (run_V (a := ea E 21) (As := [.int (iI ((-2000000003)))]) (rest := []) ⟨hx, hb, hml, hown, hts⟩ (ctX9_refuses l E (-2000000003) s15 _ (by decide) h) (cwV 1 hts gX9_remove_X9_refuses rfl rfl rfl ⟨rfl, hdX9_refuses⟩ ⟨Nat.le_of_ble_eq_true rfl, Nat.le_of_ble_eq_true rfl⟩) hK hN hg (recv_x (ci := 9) (C := RX9) (T := TX9) (N := 27) hg hK (by decide) rfl (by decide) rfl) rfl hl.1 rfl (cat_sum _ (by simp)) dX9_remove_41 ⟨Nat.le_refl 0, Nat.le_refl 0⟩) hg (fun r30 s29 H locs hz31 hm2 h hg => ?_)
        have hm := hm.tn hm2
        exact ret_i hx hb hr hlocks hg hz31 hm h dX9_remove_44
    · have h := h.2 c11
      refine lv_aload_n hx hb dX9_remove_14 rfl (lv_at hl 0 rfl) ?_
      refine q_ldc (z := (-2000000002)) hx hb hown (hts (.constant RX9 61 (-2000000002)) (List.mem_cons_of_mem _ (List.mem_append_left _ (List.mem_append_left _ (List.mem_of_getElem? (i := 0) rfl))))) (by decide) dX9_remove_15 ?_
      refine call_i (run_V (a := ea E 21) (As := [.int (iI ((-2000000002)))]) (rest := []) ⟨hx, hb, hml, hown, hts⟩ (ctX9_refuses l E (-2000000002) s8 _ (by decide) h) (cwV 1 hts gX9_remove_X9_refuses rfl rfl rfl ⟨rfl, hdX9_refuses⟩ ⟨Nat.le_of_ble_eq_true rfl, Nat.le_of_ble_eq_true rfl⟩) hK hN hg (recv_x (ci := 9) (C := RX9) (T := TX9) (N := 27) hg hK (by decide) rfl (by decide) rfl) rfl hl.1 rfl (cat_sum _ (by simp)) dX9_remove_17 ⟨Nat.le_refl 0, Nat.le_refl 0⟩) hg (fun r33 s32 H locs hz34 hm2 h hg => ?_)
      have hm := hm.tn hm2
      exact ret_i hx hb hr hlocks hg hz34 hm h dX9_remove_20
theorem hdX9_get : yX9_get.cls ≠ "java/lang/invoke/MethodHandle" ∧ yX9_get.cls ≠ "java/lang/invoke/VarHandle" ∧ (parseMethodDescriptor yX9_get.desc).map (fun d => d.parameters.length) = some 2 := by decide +kernel
set_option maxRecDepth 100000 in
set_option maxHeartbeats 4000000 in
theorem ctX9_get (l : Launch) (E : Ev) (a1 : Int) (a2 : Int) (σ : SS) (Q : Int → SS → Prop) (ha1 : R32 a1) (ha2 : R32 a2) (h : wX9_get a1 a2 σ Q) : Met l yX9_get wsX9_get ({ frames := 3, cells := 0, slots := 0, locals := 65 } : Room) (Pc E σ [.ref (ea E 21), .int (iI (a1)), .int (iI (a2))]) (Qi E (sz σ) σ Q) 0 0 (Av E) := by
  rw [wX9_get] at h
  refine Met.ofW (cc := cX9_get) (maxL := 4) (ret := (some .int)) (by decide) rfl ?_
  intro p e s m args below meth c s₁ B hml hv
  obtain ⟨rfl, hH, hK, hN⟩ := hv
  have hx := B.exec
  have hb := B.bytes
  have hr := B.returns
  have hts := atoms_spec (ws := wsX9_get) B.pre
  have hown : s.vm.findClass RX9 = some m.cls := findClass_of_methodNamed B.named
  have hlocks := B.notSynchronized
  have hg : GS E σ s s.heap [] := ⟨hH, va_S.rf⟩
  have hm : Mo (sz σ) σ σ := Mo.rf (Nat.le_refl _)
  have hl := ent (vs := [.ref (ea E 21), .int (iI (a1)), .int (iI (a2))]) (n := 4) (cats_x (cats_i (cats_i cats_nil))) (Nat.le_of_ble_eq_true rfl)
  rw [lg_entry_eq]
  generalize (lg_sl ([.ref (ea E 21), .int (iI (a1)), .int (iI (a2))]) ++ List.replicate (4 - (lg_sl ([.ref (ea E 21), .int (iI (a1)), .int (iI (a2))])).length) Slot.unset).toArray = ls at hl ⊢
  have hl : lv_has ls 4 [(0, .ref (ea E 21)), (1, .int (iI (a1))), (2, .int (iI (a2)))] := hl
  refine lv_iload_n hx hb dX9_get_0 rfl (lv_at hl 1 rfl) ?_
  refine call_z (run_S (As := [.int (iI (a1))]) (rest := []) ⟨hx, hb, hml, hown, hts⟩ (ctX9_isMap l E a1 σ _ ha1 h) (va_cwS 1 hts gX9_get_X9_isMap rfl rfl rfl hdX9_isMap ⟨Nat.le_of_ble_eq_true rfl, Nat.le_of_ble_eq_true rfl⟩) hK hN hg rfl hl.1 rfl (cat_sum _ (by simp)) dX9_get_1 ⟨Nat.le_refl 0, Nat.le_refl 0⟩) hg (fun r2 s1 H locs hz3 hm2 h hg => ?_)
  have hm := hm.tn hm2
  refine k_eq (tgt := 14) hx hb dX9_get_4 (by decide) (z_R hz3) (fun c4 => ?_) (fun c4 => ?_)
  · have h := h.1 c4
    refine lv_aload_n hx hb dX9_get_14 rfl (lv_at hl 0 rfl) ?_
    refine q_ldc (z := (-2000000002)) hx hb hown (hts (.constant RX9 61 (-2000000002)) (List.mem_cons_of_mem _ (List.mem_append_left _ (List.mem_append_left _ (List.mem_of_getElem? (i := 0) rfl))))) (by decide) dX9_get_15 ?_
    refine call_i (run_V (a := ea E 21) (As := [.int (iI ((-2000000002)))]) (rest := []) ⟨hx, hb, hml, hown, hts⟩ (ctX9_refuses l E (-2000000002) s1 _ (by decide) h) (cwV 1 hts gX9_get_X9_refuses rfl rfl rfl ⟨rfl, hdX9_refuses⟩ ⟨Nat.le_of_ble_eq_true rfl, Nat.le_of_ble_eq_true rfl⟩) hK hN hg (recv_x (ci := 9) (C := RX9) (T := TX9) (N := 27) hg hK (by decide) rfl (by decide) rfl) rfl hl.1 rfl (cat_sum _ (by simp)) dX9_get_17 ⟨Nat.le_refl 0, Nat.le_refl 0⟩) hg (fun r6 s5 H locs hz7 hm2 h hg => ?_)
    have hm := hm.tn hm2
    exact ret_i hx hb hr hlocks hg hz7 hm h dX9_get_20
  · have h := h.2 c4
    refine lv_iload_n hx hb dX9_get_7 rfl (lv_at hl 2 rfl) ?_
    refine call_z (run_S (As := [.int (iI (a2))]) (rest := []) ⟨hx, hb, hml, hown, hts⟩ (ctX9_isKey l E a2 s1 _ ha2 h) (va_cwS 1 hts gX9_get_X9_isKey rfl rfl rfl hdX9_isKey ⟨Nat.le_of_ble_eq_true rfl, Nat.le_of_ble_eq_true rfl⟩) hK hN hg rfl hl.1 rfl (cat_sum _ (by simp)) dX9_get_8 ⟨Nat.le_refl 0, Nat.le_refl 0⟩) hg (fun r9 s8 H locs hz10 hm2 h hg => ?_)
    have hm := hm.tn hm2
    refine k_ne (tgt := 21) hx hb dX9_get_11 (by decide) (z_R hz10) (fun c11 => ?_) (fun c11 => ?_)
    · have h := h.1 c11
      refine lv_aload_n hx hb dX9_get_21 rfl (lv_at hl 0 rfl) ?_
      refine lv_iload_n hx hb dX9_get_22 rfl (lv_at hl 1 rfl) ?_
      refine lv_iload_n hx hb dX9_get_23 rfl (lv_at hl 2 rfl) ?_
      refine call_i (run_V (a := ea E 21) (As := [.int (iI (a1)), .int (iI (a2))]) (rest := []) ⟨hx, hb, hml, hown, hts⟩ (ctX9_below l E a1 a2 s8 _ ha1 ha2 h) (cwV 2 hts gX9_get_X9_below rfl rfl rfl ⟨rfl, hdX9_below⟩ ⟨Nat.le_of_ble_eq_true rfl, Nat.le_of_ble_eq_true rfl⟩) hK hN hg (recv_x (ci := 9) (C := RX9) (T := TX9) (N := 27) hg hK (by decide) rfl (by decide) rfl) rfl hl.1 rfl (cat_sum _ (by simp)) dX9_get_24 ⟨Nat.le_refl 0, Nat.le_refl 0⟩) hg (fun r13 s12 H locs hz14 hm2 h hg => ?_)
      have hm := hm.tn hm2
      refine lv_istore_n (i := 3) (lv' := [(3, .int (iI (r13))), (0, .ref (ea E 21)), (1, .int (iI (a1))), (2, .int (iI (a2)))]) hx hb dX9_get_27 rfl hl (by decide) rfl (fun ls hl => ?_)
      refine lv_aload_n hx hb dX9_get_28 rfl (lv_at hl 1 rfl) ?_
      refine lv_iload_n hx hb dX9_get_29 rfl (lv_at hl 2 rfl) ?_
      refine lv_iload_n hx hb dX9_get_30 rfl (lv_at hl 0 rfl) ?_
      refine lv_iload_n hx hb dX9_get_31 rfl (lv_at hl 3 rfl) ?_
      refine call_z (run_V (a := ea E 21) (As := [.int (iI (a1)), .int (iI (r13)), .int (iI (a2))]) (rest := []) ⟨hx, hb, hml, hown, hts⟩ (ctX9_isThere l E a1 r13 a2 s12 _ ha1 hz14 ha2 h) (cwV 3 hts gX9_get_X9_isThere rfl rfl rfl ⟨rfl, hdX9_isThere⟩ ⟨Nat.le_of_ble_eq_true rfl, Nat.le_of_ble_eq_true rfl⟩) hK hN hg (recv_x (ci := 9) (C := RX9) (T := TX9) (N := 27) hg hK (by decide) rfl (by decide) rfl) rfl hl.1 rfl (cat_sum _ (by simp)) dX9_get_32 ⟨Nat.le_refl 0, Nat.le_refl 0⟩) hg (fun r16 s15 H locs hz17 hm2 h hg => ?_)
      have hm := hm.tn hm2
      refine k_eq (tgt := 47) hx hb dX9_get_35 (by decide) (z_R hz17) (fun c18 => ?_) (fun c18 => ?_)
      · have h := h.1 c18
        refine q_ldc (z := (-2000000001)) hx hb hown (hts (.constant RX9 120 (-2000000001)) (List.mem_cons_of_mem _ (List.mem_append_left _ (List.mem_append_left _ (List.mem_of_getElem? (i := 1) rfl))))) (by decide) dX9_get_47 ?_
        exact ret_i hx hb hr hlocks hg (by decide) hm h dX9_get_49
      · have h := h.2 c18
        refine lv_aload_n hx hb dX9_get_38 rfl (lv_at hl 1 rfl) ?_
        refine lv_iload_n hx hb dX9_get_39 rfl (lv_at hl 2 rfl) ?_
        refine lv_iload_n hx hb dX9_get_40 rfl (lv_at hl 0 rfl) ?_
        refine call_i (run_V (a := ea E 21) (As := [.int (iI (a1)), .int (iI (r13))]) (rest := []) ⟨hx, hb, hml, hown, hts⟩ (ctX9_valueAt l E a1 r13 s15 _ ha1 hz14 h) (cwV 2 hts gX9_get_X9_valueAt rfl rfl rfl ⟨rfl, hdX9_valueAt⟩ ⟨Nat.le_of_ble_eq_true rfl, Nat.le_of_ble_eq_true rfl⟩) hK hN hg (recv_x (ci := 9) (C := RX9) (T := TX9) (N := 27) hg hK (by decide) rfl (by decide) rfl) rfl hl.1 rfl (cat_sum _ (by simp)) dX9_get_41 ⟨Nat.le_refl 0, Nat.le_refl 0⟩) hg (fun r20 s19 H locs hz21 hm2 h hg => ?_)
        have hm := hm.tn hm2
        refine lv_goto (tgt := 49) hx hb dX9_get_44 (by decide) ?_
        exact ret_i hx hb hr hlocks hg hz21 hm h dX9_get_49
    · have h := h.2 c11
      refine lv_aload_n hx hb dX9_get_14 rfl (lv_at hl 0 rfl) ?_
      refine q_ldc (z := (-2000000002)) hx hb hown (hts (.constant RX9 61 (-2000000002)) (List.mem_cons_of_mem _ (List.mem_append_left _ (List.mem_append_left _ (List.mem_of_getElem? (i := 0) rfl))))) (by decide) dX9_get_15 ?_
      refine call_i (run_V (a := ea E 21) (As := [.int (iI ((-2000000002)))]) (rest := []) ⟨hx, hb, hml, hown, hts⟩ (ctX9_refuses l E (-2000000002) s8 _ (by decide) h) (cwV 1 hts gX9_get_X9_refuses rfl rfl rfl ⟨rfl, hdX9_refuses⟩ ⟨Nat.le_of_ble_eq_true rfl, Nat.le_of_ble_eq_true rfl⟩) hK hN hg (recv_x (ci := 9) (C := RX9) (T := TX9) (N := 27) hg hK (by decide) rfl (by decide) rfl) rfl hl.1 rfl (cat_sum _ (by simp)) dX9_get_17 ⟨Nat.le_refl 0, Nat.le_refl 0⟩) hg (fun r23 s22 H locs hz24 hm2 h hg => ?_)
      have hm := hm.tn hm2
      exact ret_i hx hb hr hlocks hg hz24 hm h dX9_get_20
theorem hdX9_size : yX9_size.cls ≠ "java/lang/invoke/MethodHandle" ∧ yX9_size.cls ≠ "java/lang/invoke/VarHandle" ∧ (parseMethodDescriptor yX9_size.desc).map (fun d => d.parameters.length) = some 1 := by decide +kernel
set_option maxRecDepth 100000 in
set_option maxHeartbeats 4000000 in
theorem ctX9_size (l : Launch) (E : Ev) (a1 : Int) (σ : SS) (Q : Int → SS → Prop) (ha1 : R32 a1) (h : wX9_size a1 σ Q) : Met l yX9_size wsX9_size ({ frames := 2, cells := 0, slots := 0, locals := 45 } : Room) (Pc E σ [.ref (ea E 21), .int (iI (a1))]) (Qi E (sz σ) σ Q) 0 0 (Av E) := by
  rw [wX9_size] at h
  refine Met.ofW (cc := cX9_size) (maxL := 2) (ret := (some .int)) (by decide) rfl ?_
  intro p e s m args below meth c s₁ B hml hv
  obtain ⟨rfl, hH, hK, hN⟩ := hv
  have hx := B.exec
  have hb := B.bytes
  have hr := B.returns
  have hts := atoms_spec (ws := wsX9_size) B.pre
  have hown : s.vm.findClass RX9 = some m.cls := findClass_of_methodNamed B.named
  have hlocks := B.notSynchronized
  have hg : GS E σ s s.heap [] := ⟨hH, va_S.rf⟩
  have hm : Mo (sz σ) σ σ := Mo.rf (Nat.le_refl _)
  have hl := ent (vs := [.ref (ea E 21), .int (iI (a1))]) (n := 2) (cats_x (cats_i cats_nil)) (Nat.le_of_ble_eq_true rfl)
  rw [lg_entry_eq]
  generalize (lg_sl ([.ref (ea E 21), .int (iI (a1))]) ++ List.replicate (2 - (lg_sl ([.ref (ea E 21), .int (iI (a1))])).length) Slot.unset).toArray = ls at hl ⊢
  have hl : lv_has ls 2 [(0, .ref (ea E 21)), (1, .int (iI (a1)))] := hl
  refine lv_iload_n hx hb dX9_size_0 rfl (lv_at hl 1 rfl) ?_
  refine call_z (run_S (As := [.int (iI (a1))]) (rest := []) ⟨hx, hb, hml, hown, hts⟩ (ctX9_isMap l E a1 σ _ ha1 h) (va_cwS 1 hts gX9_size_X9_isMap rfl rfl rfl hdX9_isMap ⟨Nat.le_of_ble_eq_true rfl, Nat.le_of_ble_eq_true rfl⟩) hK hN hg rfl hl.1 rfl (cat_sum _ (by simp)) dX9_size_1 ⟨Nat.le_refl 0, Nat.le_refl 0⟩) hg (fun r2 s1 H locs hz3 hm2 h hg => ?_)
  have hm := hm.tn hm2
  refine k_eq (tgt := 16) hx hb dX9_size_4 (by decide) (z_R hz3) (fun c4 => ?_) (fun c4 => ?_)
  · have h := h.1 c4
    refine lv_aload_n hx hb dX9_size_16 rfl (lv_at hl 0 rfl) ?_
    refine q_ldc (z := (-2000000002)) hx hb hown (hts (.constant RX9 61 (-2000000002)) (List.mem_cons_of_mem _ (List.mem_append_left _ (List.mem_of_getElem? (i := 1) rfl)))) (by decide) dX9_size_17 ?_
    refine call_i (run_V (a := ea E 21) (As := [.int (iI ((-2000000002)))]) (rest := []) ⟨hx, hb, hml, hown, hts⟩ (ctX9_refuses l E (-2000000002) s1 _ (by decide) h) (cwV 1 hts gX9_size_X9_refuses rfl rfl rfl ⟨rfl, hdX9_refuses⟩ ⟨Nat.le_of_ble_eq_true rfl, Nat.le_of_ble_eq_true rfl⟩) hK hN hg (recv_x (ci := 9) (C := RX9) (T := TX9) (N := 27) hg hK (by decide) rfl (by decide) rfl) rfl hl.1 rfl (cat_sum _ (by simp)) dX9_size_19 ⟨Nat.le_refl 0, Nat.le_refl 0⟩) hg (fun r6 s5 H locs hz7 hm2 h hg => ?_)
    have hm := hm.tn hm2
    exact ret_i hx hb hr hlocks hg hz7 hm h dX9_size_22
  · have h := h.2 c4
    refine lv_aload_n hx hb dX9_size_7 rfl (lv_at hl 0 rfl) ?_
    refine q_getx (ci := 9) (C := RX9) (T := TX9) (N := 27) (j := 23) hx hb hts (fun _ h9 => List.mem_cons_of_mem _ (List.mem_append_right _ h9)) hown hK hg 21 (by decide) rfl rfl (by decide) rfl 1 (by decide) (hts (.fieldLink RX9 13 "JoinMapsModel" "sizes" "[I") (List.mem_cons_of_mem _ (List.mem_append_left _ (List.mem_of_getElem? (i := 0) rfl)))) rfl rfl rfl dX9_size_8 ?_
    refine lv_iload_n hx hb dX9_size_11 rfl (lv_at hl 1 rfl) ?_
    obtain ⟨hP8, hP9, h⟩ := h
    refine q_iald (N := 6) hx hb hK hg 23 (by decide) rfl rfl hP8 hP9 (by decide) dX9_size_12 ?_
    have hR10 := GS_R hg 23 (a1 : Int).toNat
    refine lv_goto (tgt := 22) hx hb dX9_size_13 (by decide) ?_
    exact ret_i hx hb hr hlocks hg hR10 hm h dX9_size_22
theorem hdX9_rank : yX9_rank.cls ≠ "java/lang/invoke/MethodHandle" ∧ yX9_rank.cls ≠ "java/lang/invoke/VarHandle" ∧ (parseMethodDescriptor yX9_rank.desc).map (fun d => d.parameters.length) = some 2 := by decide +kernel
set_option maxRecDepth 100000 in
set_option maxHeartbeats 4000000 in
theorem ctX9_rank (l : Launch) (E : Ev) (a1 : Int) (a2 : Int) (σ : SS) (Q : Int → SS → Prop) (ha1 : R32 a1) (ha2 : R32 a2) (h : wX9_rank a1 a2 σ Q) : Met l yX9_rank wsX9_rank ({ frames := 3, cells := 0, slots := 0, locals := 65 } : Room) (Pc E σ [.ref (ea E 21), .int (iI (a1)), .int (iI (a2))]) (Qi E (sz σ) σ Q) 0 0 (Av E) := by
  rw [wX9_rank] at h
  refine Met.ofW (cc := cX9_rank) (maxL := 3) (ret := (some .int)) (by decide) rfl ?_
  intro p e s m args below meth c s₁ B hml hv
  obtain ⟨rfl, hH, hK, hN⟩ := hv
  have hx := B.exec
  have hb := B.bytes
  have hr := B.returns
  have hts := atoms_spec (ws := wsX9_rank) B.pre
  have hown : s.vm.findClass RX9 = some m.cls := findClass_of_methodNamed B.named
  have hlocks := B.notSynchronized
  have hg : GS E σ s s.heap [] := ⟨hH, va_S.rf⟩
  have hm : Mo (sz σ) σ σ := Mo.rf (Nat.le_refl _)
  have hl := ent (vs := [.ref (ea E 21), .int (iI (a1)), .int (iI (a2))]) (n := 3) (cats_x (cats_i (cats_i cats_nil))) (Nat.le_of_ble_eq_true rfl)
  rw [lg_entry_eq]
  generalize (lg_sl ([.ref (ea E 21), .int (iI (a1)), .int (iI (a2))]) ++ List.replicate (3 - (lg_sl ([.ref (ea E 21), .int (iI (a1)), .int (iI (a2))])).length) Slot.unset).toArray = ls at hl ⊢
  have hl : lv_has ls 3 [(0, .ref (ea E 21)), (1, .int (iI (a1))), (2, .int (iI (a2)))] := hl
  refine lv_iload_n hx hb dX9_rank_0 rfl (lv_at hl 1 rfl) ?_
  refine call_z (run_S (As := [.int (iI (a1))]) (rest := []) ⟨hx, hb, hml, hown, hts⟩ (ctX9_isMap l E a1 σ _ ha1 h) (va_cwS 1 hts gX9_rank_X9_isMap rfl rfl rfl hdX9_isMap ⟨Nat.le_of_ble_eq_true rfl, Nat.le_of_ble_eq_true rfl⟩) hK hN hg rfl hl.1 rfl (cat_sum _ (by simp)) dX9_rank_1 ⟨Nat.le_refl 0, Nat.le_refl 0⟩) hg (fun r2 s1 H locs hz3 hm2 h hg => ?_)
  have hm := hm.tn hm2
  refine k_eq (tgt := 30) hx hb dX9_rank_4 (by decide) (z_R hz3) (fun c4 => ?_) (fun c4 => ?_)
  · have h := h.1 c4
    refine lv_aload_n hx hb dX9_rank_30 rfl (lv_at hl 0 rfl) ?_
    refine q_ldc (z := (-2000000002)) hx hb hown (hts (.constant RX9 61 (-2000000002)) (List.mem_cons_of_mem _ (List.mem_append_left _ (List.mem_append_left _ (List.mem_of_getElem? (i := 2) rfl))))) (by decide) dX9_rank_31 ?_
    refine call_i (run_V (a := ea E 21) (As := [.int (iI ((-2000000002)))]) (rest := []) ⟨hx, hb, hml, hown, hts⟩ (ctX9_refuses l E (-2000000002) s1 _ (by decide) h) (cwV 1 hts gX9_rank_X9_refuses rfl rfl rfl ⟨rfl, hdX9_refuses⟩ ⟨Nat.le_of_ble_eq_true rfl, Nat.le_of_ble_eq_true rfl⟩) hK hN hg (recv_x (ci := 9) (C := RX9) (T := TX9) (N := 27) hg hK (by decide) rfl (by decide) rfl) rfl hl.1 rfl (cat_sum _ (by simp)) dX9_rank_33 ⟨Nat.le_refl 0, Nat.le_refl 0⟩) hg (fun r6 s5 H locs hz7 hm2 h hg => ?_)
    have hm := hm.tn hm2
    exact ret_i hx hb hr hlocks hg hz7 hm h dX9_rank_36
  · have h := h.2 c4
    refine lv_iload_n hx hb dX9_rank_7 rfl (lv_at hl 2 rfl) ?_
    refine q_i2l hx hb ha2 dX9_rank_8 ?_
    refine q_ldc2 (z := (-501)) hx hb hown (hts (.constantLong RX9 129 (-501)) (List.mem_cons_of_mem _ (List.mem_append_left _ (List.mem_append_left _ (List.mem_of_getElem? (i := 0) rfl))))) (by decide) dX9_rank_9 ?_
    refine q_ldc2 (z := 501) hx hb hown (hts (.constantLong RX9 131 (501)) (List.mem_cons_of_mem _ (List.mem_append_left _ (List.mem_append_left _ (List.mem_of_getElem? (i := 1) rfl))))) (by decide) dX9_rank_12 ?_
    refine call_z (run_S (As := [.long (lI (a2)), .long (lI ((-501))), .long (lI (501))]) (rest := []) ⟨hx, hb, hml, hown, hts⟩ (ctX9_in l E a2 (-501) 501 s1 _ (R64_of ha2) (by decide) (by decide) h) (va_cwS 3 hts gX9_rank_X9_in rfl rfl rfl hdX9_in ⟨Nat.le_of_ble_eq_true rfl, Nat.le_of_ble_eq_true rfl⟩) hK hN hg rfl hl.1 rfl (cat_sum _ (by simp)) dX9_rank_15 ⟨Nat.le_refl 0, Nat.le_refl 0⟩) hg (fun r9 s8 H locs hz10 hm2 h hg => ?_)
    have hm := hm.tn hm2
    refine k_eq (tgt := 30) hx hb dX9_rank_18 (by decide) (z_R hz10) (fun c11 => ?_) (fun c11 => ?_)
    · have h := h.1 c11
      refine lv_aload_n hx hb dX9_rank_30 rfl (lv_at hl 0 rfl) ?_
      refine q_ldc (z := (-2000000002)) hx hb hown (hts (.constant RX9 61 (-2000000002)) (List.mem_cons_of_mem _ (List.mem_append_left _ (List.mem_append_left _ (List.mem_of_getElem? (i := 2) rfl))))) (by decide) dX9_rank_31 ?_
      refine call_i (run_V (a := ea E 21) (As := [.int (iI ((-2000000002)))]) (rest := []) ⟨hx, hb, hml, hown, hts⟩ (ctX9_refuses l E (-2000000002) s8 _ (by decide) h) (cwV 1 hts gX9_rank_X9_refuses rfl rfl rfl ⟨rfl, hdX9_refuses⟩ ⟨Nat.le_of_ble_eq_true rfl, Nat.le_of_ble_eq_true rfl⟩) hK hN hg (recv_x (ci := 9) (C := RX9) (T := TX9) (N := 27) hg hK (by decide) rfl (by decide) rfl) rfl hl.1 rfl (cat_sum _ (by simp)) dX9_rank_33 ⟨Nat.le_refl 0, Nat.le_refl 0⟩) hg (fun r13 s12 H locs hz14 hm2 h hg => ?_)
      have hm := hm.tn hm2
      exact ret_i hx hb hr hlocks hg hz14 hm h dX9_rank_36
    · have h := h.2 c11
      refine lv_aload_n hx hb dX9_rank_21 rfl (lv_at hl 0 rfl) ?_
      refine lv_iload_n hx hb dX9_rank_22 rfl (lv_at hl 1 rfl) ?_
      refine lv_iload_n hx hb dX9_rank_23 rfl (lv_at hl 2 rfl) ?_
      refine call_i (run_V (a := ea E 21) (As := [.int (iI (a1)), .int (iI (a2))]) (rest := []) ⟨hx, hb, hml, hown, hts⟩ (ctX9_below l E a1 a2 s8 _ ha1 ha2 h) (cwV 2 hts gX9_rank_X9_below rfl rfl rfl ⟨rfl, hdX9_below⟩ ⟨Nat.le_of_ble_eq_true rfl, Nat.le_of_ble_eq_true rfl⟩) hK hN hg (recv_x (ci := 9) (C := RX9) (T := TX9) (N := 27) hg hK (by decide) rfl (by decide) rfl) rfl hl.1 rfl (cat_sum _ (by simp)) dX9_rank_24 ⟨Nat.le_refl 0, Nat.le_refl 0⟩) hg (fun r16 s15 H locs hz17 hm2 h hg => ?_)
      have hm := hm.tn hm2
      refine lv_goto (tgt := 36) hx hb dX9_rank_27 (by decide) ?_
      exact ret_i hx hb hr hlocks hg hz17 hm h dX9_rank_36
theorem hdX9_nth : yX9_nth.cls ≠ "java/lang/invoke/MethodHandle" ∧ yX9_nth.cls ≠ "java/lang/invoke/VarHandle" ∧ (parseMethodDescriptor yX9_nth.desc).map (fun d => d.parameters.length) = some 2 := by decide +kernel
set_option maxRecDepth 100000 in
set_option maxHeartbeats 4000000 in
theorem ctX9_nth (l : Launch) (E : Ev) (a1 : Int) (a2 : Int) (σ : SS) (Q : Int → SS → Prop) (ha1 : R32 a1) (ha2 : R32 a2) (h : wX9_nth a1 a2 σ Q) : Met l yX9_nth wsX9_nth ({ frames := 2, cells := 0, slots := 0, locals := 45 } : Room) (Pc E σ [.ref (ea E 21), .int (iI (a1)), .int (iI (a2))]) (Qi E (sz σ) σ Q) 0 0 (Av E) := by
  rw [wX9_nth] at h
  refine Met.ofW (cc := cX9_nth) (maxL := 3) (ret := (some .int)) (by decide) rfl ?_
  intro p e s m args below meth c s₁ B hml hv
  obtain ⟨rfl, hH, hK, hN⟩ := hv
  have hx := B.exec
  have hb := B.bytes
  have hr := B.returns
  have hts := atoms_spec (ws := wsX9_nth) B.pre
  have hown : s.vm.findClass RX9 = some m.cls := findClass_of_methodNamed B.named
  have hlocks := B.notSynchronized
  have hg : GS E σ s s.heap [] := ⟨hH, va_S.rf⟩
  have hm : Mo (sz σ) σ σ := Mo.rf (Nat.le_refl _)
  have hl := ent (vs := [.ref (ea E 21), .int (iI (a1)), .int (iI (a2))]) (n := 3) (cats_x (cats_i (cats_i cats_nil))) (Nat.le_of_ble_eq_true rfl)
  rw [lg_entry_eq]
  generalize (lg_sl ([.ref (ea E 21), .int (iI (a1)), .int (iI (a2))]) ++ List.replicate (3 - (lg_sl ([.ref (ea E 21), .int (iI (a1)), .int (iI (a2))])).length) Slot.unset).toArray = ls at hl ⊢
  have hl : lv_has ls 3 [(0, .ref (ea E 21)), (1, .int (iI (a1))), (2, .int (iI (a2)))] := hl
  refine lv_iload_n hx hb dX9_nth_0 rfl (lv_at hl 1 rfl) ?_
  refine call_z (run_S (As := [.int (iI (a1))]) (rest := []) ⟨hx, hb, hml, hown, hts⟩ (ctX9_isMap l E a1 σ _ ha1 h) (va_cwS 1 hts gX9_nth_X9_isMap rfl rfl rfl hdX9_isMap ⟨Nat.le_of_ble_eq_true rfl, Nat.le_of_ble_eq_true rfl⟩) hK hN hg rfl hl.1 rfl (cat_sum _ (by simp)) dX9_nth_1 ⟨Nat.le_refl 0, Nat.le_refl 0⟩) hg (fun r2 s1 H locs hz3 hm2 h hg => ?_)
  have hm := hm.tn hm2
  refine k_eq (tgt := 11) hx hb dX9_nth_4 (by decide) (z_R hz3) (fun c4 => ?_) (fun c4 => ?_)
  · have h := h.1 c4
    refine lv_aload_n hx hb dX9_nth_11 rfl (lv_at hl 0 rfl) ?_
    refine q_ldc (z := (-2000000002)) hx hb hown (hts (.constant RX9 61 (-2000000002)) (List.mem_cons_of_mem _ (List.mem_append_left _ (List.mem_of_getElem? (i := 0) rfl)))) (by decide) dX9_nth_12 ?_
    refine call_i (run_V (a := ea E 21) (As := [.int (iI ((-2000000002)))]) (rest := []) ⟨hx, hb, hml, hown, hts⟩ (ctX9_refuses l E (-2000000002) s1 _ (by decide) h) (cwV 1 hts gX9_nth_X9_refuses rfl rfl rfl ⟨rfl, hdX9_refuses⟩ ⟨Nat.le_of_ble_eq_true rfl, Nat.le_of_ble_eq_true rfl⟩) hK hN hg (recv_x (ci := 9) (C := RX9) (T := TX9) (N := 27) hg hK (by decide) rfl (by decide) rfl) rfl hl.1 rfl (cat_sum _ (by simp)) dX9_nth_14 ⟨Nat.le_refl 0, Nat.le_refl 0⟩) hg (fun r6 s5 H locs hz7 hm2 h hg => ?_)
    have hm := hm.tn hm2
    exact ret_i hx hb hr hlocks hg hz7 hm h dX9_nth_17
  · have h := h.2 c4
    refine lv_iload_n hx hb dX9_nth_7 rfl (lv_at hl 2 rfl) ?_
    refine k_ge (tgt := 18) hx hb dX9_nth_8 (by decide) ha2 (fun c8 => ?_) (fun c8 => ?_)
    · have h := h.1 c8
      refine lv_iload_n hx hb dX9_nth_18 rfl (lv_at hl 2 rfl) ?_
      refine lv_aload_n hx hb dX9_nth_19 rfl (lv_at hl 0 rfl) ?_
      refine q_getx (ci := 9) (C := RX9) (T := TX9) (N := 27) (j := 23) hx hb hts (fun _ h9 => List.mem_cons_of_mem _ (List.mem_append_right _ h9)) hown hK hg 21 (by decide) rfl rfl (by decide) rfl 1 (by decide) (hts (.fieldLink RX9 13 "JoinMapsModel" "sizes" "[I") (List.mem_cons_of_mem _ (List.mem_append_left _ (List.mem_of_getElem? (i := 1) rfl)))) rfl rfl rfl dX9_nth_20 ?_
      refine lv_iload_n hx hb dX9_nth_23 rfl (lv_at hl 1 rfl) ?_
      obtain ⟨hP9, hP10, h⟩ := h
      refine q_iald (N := 6) hx hb hK hg 23 (by decide) rfl rfl hP9 hP10 (by decide) dX9_nth_24 ?_
      have hR11 := GS_R hg 23 (a1 : Int).toNat
      refine j_ge (tgt := 37) hx hb dX9_nth_25 (by decide) ha2 hR11 (fun c12 => ?_) (fun c12 => ?_)
      · have h := h.1 c12
        refine q_ldc (z := (-2000000001)) hx hb hown (hts (.constant RX9 120 (-2000000001)) (List.mem_cons_of_mem _ (List.mem_append_left _ (List.mem_of_getElem? (i := 2) rfl)))) (by decide) dX9_nth_37 ?_
        exact ret_i hx hb hr hlocks hg (by decide) hm h dX9_nth_39
      · have h := h.2 c12
        refine lv_aload_n hx hb dX9_nth_28 rfl (lv_at hl 0 rfl) ?_
        refine lv_iload_n hx hb dX9_nth_29 rfl (lv_at hl 1 rfl) ?_
        refine lv_iload_n hx hb dX9_nth_30 rfl (lv_at hl 2 rfl) ?_
        refine call_i (run_V (a := ea E 21) (As := [.int (iI (a1)), .int (iI (a2))]) (rest := []) ⟨hx, hb, hml, hown, hts⟩ (ctX9_keyAt l E a1 a2 s1 _ ha1 ha2 h) (cwV 2 hts gX9_nth_X9_keyAt rfl rfl rfl ⟨rfl, hdX9_keyAt⟩ ⟨Nat.le_of_ble_eq_true rfl, Nat.le_of_ble_eq_true rfl⟩) hK hN hg (recv_x (ci := 9) (C := RX9) (T := TX9) (N := 27) hg hK (by decide) rfl (by decide) rfl) rfl hl.1 rfl (cat_sum _ (by simp)) dX9_nth_31 ⟨Nat.le_refl 0, Nat.le_refl 0⟩) hg (fun r14 s13 H locs hz15 hm2 h hg => ?_)
        have hm := hm.tn hm2
        refine lv_goto (tgt := 39) hx hb dX9_nth_34 (by decide) ?_
        exact ret_i hx hb hr hlocks hg hz15 hm h dX9_nth_39
    · have h := h.2 c8
      refine lv_aload_n hx hb dX9_nth_11 rfl (lv_at hl 0 rfl) ?_
      refine q_ldc (z := (-2000000002)) hx hb hown (hts (.constant RX9 61 (-2000000002)) (List.mem_cons_of_mem _ (List.mem_append_left _ (List.mem_of_getElem? (i := 0) rfl)))) (by decide) dX9_nth_12 ?_
      refine call_i (run_V (a := ea E 21) (As := [.int (iI ((-2000000002)))]) (rest := []) ⟨hx, hb, hml, hown, hts⟩ (ctX9_refuses l E (-2000000002) s1 _ (by decide) h) (cwV 1 hts gX9_nth_X9_refuses rfl rfl rfl ⟨rfl, hdX9_refuses⟩ ⟨Nat.le_of_ble_eq_true rfl, Nat.le_of_ble_eq_true rfl⟩) hK hN hg (recv_x (ci := 9) (C := RX9) (T := TX9) (N := 27) hg hK (by decide) rfl (by decide) rfl) rfl hl.1 rfl (cat_sum _ (by simp)) dX9_nth_14 ⟨Nat.le_refl 0, Nat.le_refl 0⟩) hg (fun r17 s16 H locs hz18 hm2 h hg => ?_)
      have hm := hm.tn hm2
      exact ret_i hx hb hr hlocks hg hz18 hm h dX9_nth_17
theorem hdX9_near : yX9_near.cls ≠ "java/lang/invoke/MethodHandle" ∧ yX9_near.cls ≠ "java/lang/invoke/VarHandle" ∧ (parseMethodDescriptor yX9_near.desc).map (fun d => d.parameters.length) = some 3 := by decide +kernel
set_option maxRecDepth 100000 in
set_option maxHeartbeats 4000000 in
theorem ctX9_near (l : Launch) (E : Ev) (a1 : Int) (a2 : Int) (a3 : Int) (σ : SS) (Q : Int → SS → Prop) (ha1 : R32 a1) (ha2 : R32 a2) (ha3 : R32 a3) (h : wX9_near a1 a2 a3 σ Q) : Met l yX9_near wsX9_near ({ frames := 3, cells := 0, slots := 0, locals := 65 } : Room) (Pc E σ [.ref (ea E 21), .int (iI (a1)), .int (iI (a2)), .int (iI (a3))]) (Qi E (sz σ) σ Q) 0 0 (Av E) := by
  rw [wX9_near] at h
  refine Met.ofW (cc := cX9_near) (maxL := 5) (ret := (some .int)) (by decide) rfl ?_
  intro p e s m args below meth c s₁ B hml hv
  obtain ⟨rfl, hH, hK, hN⟩ := hv
  have hx := B.exec
  have hb := B.bytes
  have hr := B.returns
  have hts := atoms_spec (ws := wsX9_near) B.pre
  have hown : s.vm.findClass RX9 = some m.cls := findClass_of_methodNamed B.named
  have hlocks := B.notSynchronized
  have hg : GS E σ s s.heap [] := ⟨hH, va_S.rf⟩
  have hm : Mo (sz σ) σ σ := Mo.rf (Nat.le_refl _)
  have hl := ent (vs := [.ref (ea E 21), .int (iI (a1)), .int (iI (a2)), .int (iI (a3))]) (n := 5) (cats_x (cats_i (cats_i (cats_i cats_nil)))) (Nat.le_of_ble_eq_true rfl)
  rw [lg_entry_eq]
  generalize (lg_sl ([.ref (ea E 21), .int (iI (a1)), .int (iI (a2)), .int (iI (a3))]) ++ List.replicate (5 - (lg_sl ([.ref (ea E 21), .int (iI (a1)), .int (iI (a2)), .int (iI (a3))])).length) Slot.unset).toArray = ls at hl ⊢
  have hl : lv_has ls 5 [(0, .ref (ea E 21)), (1, .int (iI (a1))), (2, .int (iI (a2))), (3, .int (iI (a3)))] := hl
  have J55 : ∀ (u0 : Int) (sL : SS) (H : Heap) (locs : List Loc) (ls : Array Slot), GS E sL s H locs → Mo (sz σ) σ sL → lv_has ls 5 [(0, .ref (ea E 21)), (1, .int (iI (a1)))] → wX9_near_L55 a1 a2 a3 Q  u0 sL → W p l e (headSpec wsX9_near ({ frames := 3, cells := 0, slots := 0, locals := 65 } : Room)).room s m (List.toArray [.ref (ea E 21), .int (iI (a1)), .int (iI (a2)), .int (iI (a3))]) below meth c H locs 0 0 (MQ below (Qi E (sz σ) σ Q) (List.toArray [.ref (ea E 21), .int (iI (a1)), .int (iI (a2)), .int (iI (a3))]) s 0 0 (Av E)) (F0 m 55 ls [.int (iI (u0))]) := by
    intro u0 sL H locs ls hg hm hl h
    rw [wX9_near_L55] at h
    refine lv_istore (i := 4) (lv' := [(4, .int (iI (u0))), (0, .ref (ea E 21)), (1, .int (iI (a1)))]) hx hb dX9_near_55 hl (by decide) rfl (fun ls hl => ?_)
    refine lv_iload hx hb dX9_near_57 (lv_at hl 0 rfl) ?_
    obtain ⟨hR28, h⟩ := h
    refine q_i2l hx hb hR28 dX9_near_59 ?_
    refine lv_lconst (v := lI 0) hx hb dX9_near_60 (by decide) ?_
    refine lv_aload_n hx hb dX9_near_61 rfl (lv_at hl 1 rfl) ?_
    refine q_getx (ci := 9) (C := RX9) (T := TX9) (N := 27) (j := 23) hx hb hts (fun _ h9 => List.mem_cons_of_mem _ (List.mem_append_right _ h9)) hown hK hg 21 (by decide) rfl rfl (by decide) rfl 1 (by decide) (hts (.fieldLink RX9 13 "JoinMapsModel" "sizes" "[I") (List.mem_cons_of_mem _ (List.mem_append_left _ (List.mem_append_left _ (List.mem_of_getElem? (i := 1) rfl))))) rfl rfl rfl dX9_near_62 ?_
    refine lv_iload_n hx hb dX9_near_65 rfl (lv_at hl 2 rfl) ?_
    obtain ⟨hP29, hP30, h⟩ := h
    refine q_iald (N := 6) hx hb hK hg 23 (by decide) rfl rfl hP29 hP30 (by decide) dX9_near_66 ?_
    have hR31 := GS_R hg 23 (a1 : Int).toNat
    refine lv_iconst (v := iI 1) hx hb dX9_near_67 (by decide) ?_
    refine q_isub hx hb dX9_near_68 ?_
    obtain ⟨hR32, h⟩ := h
    refine q_i2l hx hb hR32 dX9_near_69 ?_
    refine call_z (run_S (As := [.long (lI (u0)), .long (lI (0)), .long (lI (((sn sL 23 (a1 : Int).toNat) - 1)))]) (rest := []) ⟨hx, hb, hml, hown, hts⟩ (ctX9_in l E u0 0 ((sn sL 23 (a1 : Int).toNat) - 1) sL _ (R64_of hR28) (by decide) (R64_of hR32) h) (va_cwS 3 hts gX9_near_X9_in rfl rfl rfl hdX9_in ⟨Nat.le_of_ble_eq_true rfl, Nat.le_of_ble_eq_true rfl⟩) hK hN hg rfl hl.1 rfl (cat_sum _ (by simp)) dX9_near_70 ⟨Nat.le_refl 0, Nat.le_refl 0⟩) hg (fun r34 s33 H locs hz35 hm2 h hg => ?_)
    have hm := hm.tn hm2
    refine k_eq (tgt := 86) hx hb dX9_near_73 (by decide) (z_R hz35) (fun c36 => ?_) (fun c36 => ?_)
    · have h := h.1 c36
      refine q_ldc (z := (-2000000001)) hx hb hown (hts (.constant RX9 120 (-2000000001)) (List.mem_cons_of_mem _ (List.mem_append_left _ (List.mem_append_left _ (List.mem_of_getElem? (i := 2) rfl))))) (by decide) dX9_near_86 ?_
      exact ret_i hx hb hr hlocks hg (by decide) hm h dX9_near_88
    · have h := h.2 c36
      refine lv_aload_n hx hb dX9_near_76 rfl (lv_at hl 1 rfl) ?_
      refine lv_iload_n hx hb dX9_near_77 rfl (lv_at hl 2 rfl) ?_
      refine lv_iload hx hb dX9_near_78 (lv_at hl 0 rfl) ?_
      refine call_i (run_V (a := ea E 21) (As := [.int (iI (a1)), .int (iI (u0))]) (rest := []) ⟨hx, hb, hml, hown, hts⟩ (ctX9_keyAt l E a1 u0 s33 _ ha1 hR28 h) (cwV 2 hts gX9_near_X9_keyAt rfl rfl rfl ⟨rfl, hdX9_keyAt⟩ ⟨Nat.le_of_ble_eq_true rfl, Nat.le_of_ble_eq_true rfl⟩) hK hN hg (recv_x (ci := 9) (C := RX9) (T := TX9) (N := 27) hg hK (by decide) rfl (by decide) rfl) rfl hl.1 rfl (cat_sum _ (by simp)) dX9_near_80 ⟨Nat.le_refl 0, Nat.le_refl 0⟩) hg (fun r38 s37 H locs hz39 hm2 h hg => ?_)
      have hm := hm.tn hm2
      refine lv_goto (tgt := 88) hx hb dX9_near_83 (by decide) ?_
      exact ret_i hx hb hr hlocks hg hz39 hm h dX9_near_88
  have J31 : ∀ (sL : SS) (H : Heap) (locs : List Loc) (ls : Array Slot), GS E sL s H locs → Mo (sz σ) σ sL → lv_has ls 5 [(0, .ref (ea E 21)), (1, .int (iI (a1))), (2, .int (iI (a2))), (3, .int (iI (a3)))] → wX9_near_L31 a1 a2 a3 Q   sL → W p l e (headSpec wsX9_near ({ frames := 3, cells := 0, slots := 0, locals := 65 } : Room)).room s m (List.toArray [.ref (ea E 21), .int (iI (a1)), .int (iI (a2)), .int (iI (a3))]) below meth c H locs 0 0 (MQ below (Qi E (sz σ) σ Q) (List.toArray [.ref (ea E 21), .int (iI (a1)), .int (iI (a2)), .int (iI (a3))]) s 0 0 (Av E)) (F0 m 31 ls []) := by
    intro sL H locs ls hg hm hl h
    rw [wX9_near_L31] at h
    refine lv_iload_n hx hb dX9_near_31 rfl (lv_at hl 3 rfl) ?_
    refine lv_iconst (v := iI 1) hx hb dX9_near_32 (by decide) ?_
    refine j_ne (tgt := 45) hx hb dX9_near_33 (by decide) ha3 (by decide) (fun c20 => ?_) (fun c20 => ?_)
    · have h := h.1 c20
      refine lv_aload_n hx hb dX9_near_45 rfl (lv_at hl 0 rfl) ?_
      refine lv_iload_n hx hb dX9_near_46 rfl (lv_at hl 1 rfl) ?_
      refine lv_iload_n hx hb dX9_near_47 rfl (lv_at hl 2 rfl) ?_
      refine lv_iconst (v := iI 1) hx hb dX9_near_48 (by decide) ?_
      refine q_iadd hx hb dX9_near_49 ?_
      obtain ⟨hR21, h⟩ := h
      refine call_i (run_V (a := ea E 21) (As := [.int (iI (a1)), .int (iI ((a2 + 1)))]) (rest := []) ⟨hx, hb, hml, hown, hts⟩ (ctX9_below l E a1 (a2 + 1) sL _ ha1 hR21 h) (cwV 2 hts gX9_near_X9_below rfl rfl rfl ⟨rfl, hdX9_below⟩ ⟨Nat.le_of_ble_eq_true rfl, Nat.le_of_ble_eq_true rfl⟩) hK hN hg (recv_x (ci := 9) (C := RX9) (T := TX9) (N := 27) hg hK (by decide) rfl (by decide) rfl) rfl hl.1 rfl (cat_sum _ (by simp)) dX9_near_50 ⟨Nat.le_refl 0, Nat.le_refl 0⟩) hg (fun r23 s22 H locs hz24 hm2 h hg => ?_)
      have hm := hm.tn hm2
      refine lv_iconst (v := iI 1) hx hb dX9_near_53 (by decide) ?_
      refine q_isub hx hb dX9_near_54 ?_
      exact J55  ((r23 - 1)) (s22) _ _ _ hg hm (lv_sub hl [0, 1] rfl) h
    · have h := h.2 c20
      refine lv_aload_n hx hb dX9_near_36 rfl (lv_at hl 0 rfl) ?_
      refine lv_iload_n hx hb dX9_near_37 rfl (lv_at hl 1 rfl) ?_
      refine lv_iload_n hx hb dX9_near_38 rfl (lv_at hl 2 rfl) ?_
      refine call_i (run_V (a := ea E 21) (As := [.int (iI (a1)), .int (iI (a2))]) (rest := []) ⟨hx, hb, hml, hown, hts⟩ (ctX9_below l E a1 a2 sL _ ha1 ha2 h) (cwV 2 hts gX9_near_X9_below rfl rfl rfl ⟨rfl, hdX9_below⟩ ⟨Nat.le_of_ble_eq_true rfl, Nat.le_of_ble_eq_true rfl⟩) hK hN hg (recv_x (ci := 9) (C := RX9) (T := TX9) (N := 27) hg hK (by decide) rfl (by decide) rfl) rfl hl.1 rfl (cat_sum _ (by simp)) dX9_near_39 ⟨Nat.le_refl 0, Nat.le_refl 0⟩) hg (fun r26 s25 H locs hz27 hm2 h hg => ?_)
      have hm := hm.tn hm2
      refine lv_goto (tgt := 55) hx hb dX9_near_42 (by decide) ?_
      exact J55  (r26) (s25) _ _ _ hg hm (lv_sub hl [0, 1] rfl) h
  refine lv_iload_n hx hb dX9_near_0 rfl (lv_at hl 1 rfl) ?_
  refine call_z (run_S (As := [.int (iI (a1))]) (rest := []) ⟨hx, hb, hml, hown, hts⟩ (ctX9_isMap l E a1 σ _ ha1 h) (va_cwS 1 hts gX9_near_X9_isMap rfl rfl rfl hdX9_isMap ⟨Nat.le_of_ble_eq_true rfl, Nat.le_of_ble_eq_true rfl⟩) hK hN hg rfl hl.1 rfl (cat_sum _ (by simp)) dX9_near_1 ⟨Nat.le_refl 0, Nat.le_refl 0⟩) hg (fun r2 s1 H locs hz3 hm2 h hg => ?_)
  have hm := hm.tn hm2
  refine k_eq (tgt := 24) hx hb dX9_near_4 (by decide) (z_R hz3) (fun c4 => ?_) (fun c4 => ?_)
  · have h := h.1 c4
    refine lv_aload_n hx hb dX9_near_24 rfl (lv_at hl 0 rfl) ?_
    refine q_ldc (z := (-2000000002)) hx hb hown (hts (.constant RX9 61 (-2000000002)) (List.mem_cons_of_mem _ (List.mem_append_left _ (List.mem_append_left _ (List.mem_of_getElem? (i := 0) rfl))))) (by decide) dX9_near_25 ?_
    refine call_i (run_V (a := ea E 21) (As := [.int (iI ((-2000000002)))]) (rest := []) ⟨hx, hb, hml, hown, hts⟩ (ctX9_refuses l E (-2000000002) s1 _ (by decide) h) (cwV 1 hts gX9_near_X9_refuses rfl rfl rfl ⟨rfl, hdX9_refuses⟩ ⟨Nat.le_of_ble_eq_true rfl, Nat.le_of_ble_eq_true rfl⟩) hK hN hg (recv_x (ci := 9) (C := RX9) (T := TX9) (N := 27) hg hK (by decide) rfl (by decide) rfl) rfl hl.1 rfl (cat_sum _ (by simp)) dX9_near_27 ⟨Nat.le_refl 0, Nat.le_refl 0⟩) hg (fun r6 s5 H locs hz7 hm2 h hg => ?_)
    have hm := hm.tn hm2
    exact ret_i hx hb hr hlocks hg hz7 hm h dX9_near_30
  · have h := h.2 c4
    refine lv_iload_n hx hb dX9_near_7 rfl (lv_at hl 2 rfl) ?_
    refine call_z (run_S (As := [.int (iI (a2))]) (rest := []) ⟨hx, hb, hml, hown, hts⟩ (ctX9_isKey l E a2 s1 _ ha2 h) (va_cwS 1 hts gX9_near_X9_isKey rfl rfl rfl hdX9_isKey ⟨Nat.le_of_ble_eq_true rfl, Nat.le_of_ble_eq_true rfl⟩) hK hN hg rfl hl.1 rfl (cat_sum _ (by simp)) dX9_near_8 ⟨Nat.le_refl 0, Nat.le_refl 0⟩) hg (fun r9 s8 H locs hz10 hm2 h hg => ?_)
    have hm := hm.tn hm2
    refine k_eq (tgt := 24) hx hb dX9_near_11 (by decide) (z_R hz10) (fun c11 => ?_) (fun c11 => ?_)
    · have h := h.1 c11
      refine lv_aload_n hx hb dX9_near_24 rfl (lv_at hl 0 rfl) ?_
      refine q_ldc (z := (-2000000002)) hx hb hown (hts (.constant RX9 61 (-2000000002)) (List.mem_cons_of_mem _ (List.mem_append_left _ (List.mem_append_left _ (List.mem_of_getElem? (i := 0) rfl))))) (by decide) dX9_near_25 ?_
      refine call_i (run_V (a := ea E 21) (As := [.int (iI ((-2000000002)))]) (rest := []) ⟨hx, hb, hml, hown, hts⟩ (ctX9_refuses l E (-2000000002) s8 _ (by decide) h) (cwV 1 hts gX9_near_X9_refuses rfl rfl rfl ⟨rfl, hdX9_refuses⟩ ⟨Nat.le_of_ble_eq_true rfl, Nat.le_of_ble_eq_true rfl⟩) hK hN hg (recv_x (ci := 9) (C := RX9) (T := TX9) (N := 27) hg hK (by decide) rfl (by decide) rfl) rfl hl.1 rfl (cat_sum _ (by simp)) dX9_near_27 ⟨Nat.le_refl 0, Nat.le_refl 0⟩) hg (fun r13 s12 H locs hz14 hm2 h hg => ?_)
      have hm := hm.tn hm2
      exact ret_i hx hb hr hlocks hg hz14 hm h dX9_near_30
    · have h := h.2 c11
      refine lv_iload_n hx hb dX9_near_14 rfl (lv_at hl 3 rfl) ?_
      refine lv_iconst (v := iI (-1)) hx hb dX9_near_15 (by decide) ?_
      refine j_eq (tgt := 31) hx hb dX9_near_16 (by decide) ha3 (by decide) (fun c15 => ?_) (fun c15 => ?_)
      · have h := h.1 c15
        exact J31  (s8) _ _ _ hg hm (lv_sub hl [0, 1, 2, 3] rfl) h
      · have h := h.2 c15
        refine lv_iload_n hx hb dX9_near_19 rfl (lv_at hl 3 rfl) ?_
        refine lv_iconst (v := iI 1) hx hb dX9_near_20 (by decide) ?_
        refine j_eq (tgt := 31) hx hb dX9_near_21 (by decide) ha3 (by decide) (fun c16 => ?_) (fun c16 => ?_)
        · have h := h.1 c16
          exact J31  (s8) _ _ _ hg hm (lv_sub hl [0, 1, 2, 3] rfl) h
        · have h := h.2 c16
          refine lv_aload_n hx hb dX9_near_24 rfl (lv_at hl 0 rfl) ?_
          refine q_ldc (z := (-2000000002)) hx hb hown (hts (.constant RX9 61 (-2000000002)) (List.mem_cons_of_mem _ (List.mem_append_left _ (List.mem_append_left _ (List.mem_of_getElem? (i := 0) rfl))))) (by decide) dX9_near_25 ?_
          refine call_i (run_V (a := ea E 21) (As := [.int (iI ((-2000000002)))]) (rest := []) ⟨hx, hb, hml, hown, hts⟩ (ctX9_refuses l E (-2000000002) s8 _ (by decide) h) (cwV 1 hts gX9_near_X9_refuses rfl rfl rfl ⟨rfl, hdX9_refuses⟩ ⟨Nat.le_of_ble_eq_true rfl, Nat.le_of_ble_eq_true rfl⟩) hK hN hg (recv_x (ci := 9) (C := RX9) (T := TX9) (N := 27) hg hK (by decide) rfl (by decide) rfl) rfl hl.1 rfl (cat_sum _ (by simp)) dX9_near_27 ⟨Nat.le_refl 0, Nat.le_refl 0⟩) hg (fun r18 s17 H locs hz19 hm2 h hg => ?_)
          have hm := hm.tn hm2
          exact ret_i hx hb hr hlocks hg hz19 hm h dX9_near_30
theorem hdX9_within : yX9_within.cls ≠ "java/lang/invoke/MethodHandle" ∧ yX9_within.cls ≠ "java/lang/invoke/VarHandle" ∧ (parseMethodDescriptor yX9_within.desc).map (fun d => d.parameters.length) = some 3 := by decide +kernel
set_option maxRecDepth 100000 in
set_option maxHeartbeats 4000000 in
theorem ctX9_within (l : Launch) (E : Ev) (a1 : Int) (a2 : Int) (a3 : Int) (σ : SS) (Q : Int → SS → Prop) (ha1 : R32 a1) (ha2 : R32 a2) (ha3 : R32 a3) (h : wX9_within a1 a2 a3 σ Q) : Met l yX9_within wsX9_within ({ frames := 3, cells := 0, slots := 0, locals := 66 } : Room) (Pc E σ [.ref (ea E 21), .int (iI (a1)), .int (iI (a2)), .int (iI (a3))]) (Qi E (sz σ) σ Q) 0 0 (Av E) := by
  rw [wX9_within] at h
  refine Met.ofW (cc := cX9_within) (maxL := 4) (ret := (some .int)) (by decide) rfl ?_
  intro p e s m args below meth c s₁ B hml hv
  obtain ⟨rfl, hH, hK, hN⟩ := hv
  have hx := B.exec
  have hb := B.bytes
  have hr := B.returns
  have hts := atoms_spec (ws := wsX9_within) B.pre
  have hown : s.vm.findClass RX9 = some m.cls := findClass_of_methodNamed B.named
  have hlocks := B.notSynchronized
  have hg : GS E σ s s.heap [] := ⟨hH, va_S.rf⟩
  have hm : Mo (sz σ) σ σ := Mo.rf (Nat.le_refl _)
  have hl := ent (vs := [.ref (ea E 21), .int (iI (a1)), .int (iI (a2)), .int (iI (a3))]) (n := 4) (cats_x (cats_i (cats_i (cats_i cats_nil)))) (Nat.le_of_ble_eq_true rfl)
  rw [lg_entry_eq]
  generalize (lg_sl ([.ref (ea E 21), .int (iI (a1)), .int (iI (a2)), .int (iI (a3))]) ++ List.replicate (4 - (lg_sl ([.ref (ea E 21), .int (iI (a1)), .int (iI (a2)), .int (iI (a3))])).length) Slot.unset).toArray = ls at hl ⊢
  have hl : lv_has ls 4 [(0, .ref (ea E 21)), (1, .int (iI (a1))), (2, .int (iI (a2))), (3, .int (iI (a3)))] := hl
  refine lv_iload_n hx hb dX9_within_0 rfl (lv_at hl 1 rfl) ?_
  refine call_z (run_S (As := [.int (iI (a1))]) (rest := []) ⟨hx, hb, hml, hown, hts⟩ (ctX9_isMap l E a1 σ _ ha1 h) (va_cwS 1 hts gX9_within_X9_isMap rfl rfl rfl hdX9_isMap ⟨Nat.le_of_ble_eq_true rfl, Nat.le_of_ble_eq_true rfl⟩) hK hN hg rfl hl.1 rfl (cat_sum _ (by simp)) dX9_within_1 ⟨Nat.le_refl 0, Nat.le_refl 0⟩) hg (fun r2 s1 H locs hz3 hm2 h hg => ?_)
  have hm := hm.tn hm2
  refine k_eq (tgt := 33) hx hb dX9_within_4 (by decide) (z_R hz3) (fun c4 => ?_) (fun c4 => ?_)
  · have h := h.1 c4
    refine lv_aload_n hx hb dX9_within_33 rfl (lv_at hl 0 rfl) ?_
    refine q_ldc (z := (-2000000002)) hx hb hown (hts (.constant RX9 61 (-2000000002)) (List.mem_cons_of_mem _ (List.mem_append_left _ (List.mem_append_left _ (List.mem_of_getElem? (i := 0) rfl))))) (by decide) dX9_within_34 ?_
    refine call_i (run_V (a := ea E 21) (As := [.int (iI ((-2000000002)))]) (rest := []) ⟨hx, hb, hml, hown, hts⟩ (ctX9_refuses l E (-2000000002) s1 _ (by decide) h) (cwV 1 hts gX9_within_X9_refuses rfl rfl rfl ⟨rfl, hdX9_refuses⟩ ⟨Nat.le_of_ble_eq_true rfl, Nat.le_of_ble_eq_true rfl⟩) hK hN hg (recv_x (ci := 9) (C := RX9) (T := TX9) (N := 27) hg hK (by decide) rfl (by decide) rfl) rfl hl.1 rfl (cat_sum _ (by simp)) dX9_within_36 ⟨Nat.le_refl 0, Nat.le_refl 0⟩) hg (fun r6 s5 H locs hz7 hm2 h hg => ?_)
    have hm := hm.tn hm2
    exact ret_i hx hb hr hlocks hg hz7 hm h dX9_within_39
  · have h := h.2 c4
    refine lv_iload_n hx hb dX9_within_7 rfl (lv_at hl 2 rfl) ?_
    refine lv_iload_n hx hb dX9_within_8 rfl (lv_at hl 3 rfl) ?_
    refine call_z (run_S (As := [.int (iI (a2)), .int (iI (a3))]) (rest := []) ⟨hx, hb, hml, hown, hts⟩ (ctX9_isRange l E a2 a3 s1 _ ha2 ha3 h) (va_cwS 2 hts gX9_within_X9_isRange rfl rfl rfl hdX9_isRange ⟨Nat.le_of_ble_eq_true rfl, Nat.le_of_ble_eq_true rfl⟩) hK hN hg rfl hl.1 rfl (cat_sum _ (by simp)) dX9_within_9 ⟨Nat.le_refl 0, Nat.le_refl 0⟩) hg (fun r9 s8 H locs hz10 hm2 h hg => ?_)
    have hm := hm.tn hm2
    refine k_eq (tgt := 33) hx hb dX9_within_12 (by decide) (z_R hz10) (fun c11 => ?_) (fun c11 => ?_)
    · have h := h.1 c11
      refine lv_aload_n hx hb dX9_within_33 rfl (lv_at hl 0 rfl) ?_
      refine q_ldc (z := (-2000000002)) hx hb hown (hts (.constant RX9 61 (-2000000002)) (List.mem_cons_of_mem _ (List.mem_append_left _ (List.mem_append_left _ (List.mem_of_getElem? (i := 0) rfl))))) (by decide) dX9_within_34 ?_
      refine call_i (run_V (a := ea E 21) (As := [.int (iI ((-2000000002)))]) (rest := []) ⟨hx, hb, hml, hown, hts⟩ (ctX9_refuses l E (-2000000002) s8 _ (by decide) h) (cwV 1 hts gX9_within_X9_refuses rfl rfl rfl ⟨rfl, hdX9_refuses⟩ ⟨Nat.le_of_ble_eq_true rfl, Nat.le_of_ble_eq_true rfl⟩) hK hN hg (recv_x (ci := 9) (C := RX9) (T := TX9) (N := 27) hg hK (by decide) rfl (by decide) rfl) rfl hl.1 rfl (cat_sum _ (by simp)) dX9_within_36 ⟨Nat.le_refl 0, Nat.le_refl 0⟩) hg (fun r13 s12 H locs hz14 hm2 h hg => ?_)
      have hm := hm.tn hm2
      exact ret_i hx hb hr hlocks hg hz14 hm h dX9_within_39
    · have h := h.2 c11
      refine lv_aload_n hx hb dX9_within_15 rfl (lv_at hl 0 rfl) ?_
      refine lv_iload_n hx hb dX9_within_16 rfl (lv_at hl 1 rfl) ?_
      refine lv_iload_n hx hb dX9_within_17 rfl (lv_at hl 3 rfl) ?_
      refine lv_iconst (v := iI 1) hx hb dX9_within_18 (by decide) ?_
      refine q_iadd hx hb dX9_within_19 ?_
      obtain ⟨hR15, h⟩ := h
      refine call_i (run_V (a := ea E 21) (As := [.int (iI (a1)), .int (iI ((a3 + 1)))]) (rest := []) ⟨hx, hb, hml, hown, hts⟩ (ctX9_below l E a1 (a3 + 1) s8 _ ha1 hR15 h) (cwV 2 hts gX9_within_X9_below rfl rfl rfl ⟨rfl, hdX9_below⟩ ⟨Nat.le_of_ble_eq_true rfl, Nat.le_of_ble_eq_true rfl⟩) hK hN hg (recv_x (ci := 9) (C := RX9) (T := TX9) (N := 27) hg hK (by decide) rfl (by decide) rfl) rfl hl.1 rfl (cat_sum _ (by simp)) dX9_within_20 ⟨Nat.le_refl 0, Nat.le_refl 0⟩) hg (fun r17 s16 H locs hz18 hm2 h hg => ?_)
      have hm := hm.tn hm2
      refine lv_aload_n hx hb dX9_within_23 rfl (lv_at hl 0 rfl) ?_
      refine lv_iload_n hx hb dX9_within_24 rfl (lv_at hl 1 rfl) ?_
      refine lv_iload_n hx hb dX9_within_25 rfl (lv_at hl 2 rfl) ?_
      refine call_i (run_V (a := ea E 21) (As := [.int (iI (a1)), .int (iI (a2))]) (rest := [.int (iI (r17))]) ⟨hx, hb, hml, hown, hts⟩ (ctX9_below l E a1 a2 s16 _ ha1 ha2 h) (cwV 2 hts gX9_within_X9_below rfl rfl rfl ⟨rfl, hdX9_below⟩ ⟨Nat.le_of_ble_eq_true rfl, Nat.le_of_ble_eq_true rfl⟩) hK hN hg (recv_x (ci := 9) (C := RX9) (T := TX9) (N := 27) hg hK (by decide) rfl (by decide) rfl) rfl hl.1 rfl (cat_sum _ (by simp)) dX9_within_26 ⟨Nat.le_refl 0, Nat.le_refl 0⟩) hg (fun r20 s19 H locs hz21 hm2 h hg => ?_)
      have hm := hm.tn hm2
      refine q_isub hx hb dX9_within_29 ?_
      refine lv_goto (tgt := 39) hx hb dX9_within_30 (by decide) ?_
      obtain ⟨hR22, h⟩ := h
      exact ret_i hx hb hr hlocks hg hR22 hm h dX9_within_39
theorem hdX9_sum : yX9_sum.cls ≠ "java/lang/invoke/MethodHandle" ∧ yX9_sum.cls ≠ "java/lang/invoke/VarHandle" ∧ (parseMethodDescriptor yX9_sum.desc).map (fun d => d.parameters.length) = some 3 := by decide +kernel
set_option maxRecDepth 100000 in
set_option maxHeartbeats 4000000 in
theorem ctX9_sum (l : Launch) (E : Ev) (a1 : Int) (a2 : Int) (a3 : Int) (σ : SS) (Q : Int → SS → Prop) (ha1 : R32 a1) (ha2 : R32 a2) (ha3 : R32 a3) (h : wX9_sum a1 a2 a3 σ Q) : Met l yX9_sum wsX9_sum ({ frames := 3, cells := 0, slots := 0, locals := 66 } : Room) (Pc E σ [.ref (ea E 21), .int (iI (a1)), .int (iI (a2)), .int (iI (a3))]) (Ql E (sz σ) σ Q) 0 0 (Av E) := by
  rw [wX9_sum] at h
  refine Met.ofW (cc := cX9_sum) (maxL := 7) (ret := (some .long)) (by decide) rfl ?_
  intro p e s m args below meth c s₁ B hml hv
  obtain ⟨rfl, hH, hK, hN⟩ := hv
  have hx := B.exec
  have hb := B.bytes
  have hr := B.returns
  have hts := atoms_spec (ws := wsX9_sum) B.pre
  have hown : s.vm.findClass RX9 = some m.cls := findClass_of_methodNamed B.named
  have hlocks := B.notSynchronized
  have hg : GS E σ s s.heap [] := ⟨hH, va_S.rf⟩
  have hm : Mo (sz σ) σ σ := Mo.rf (Nat.le_refl _)
  have hl := ent (vs := [.ref (ea E 21), .int (iI (a1)), .int (iI (a2)), .int (iI (a3))]) (n := 7) (cats_x (cats_i (cats_i (cats_i cats_nil)))) (Nat.le_of_ble_eq_true rfl)
  rw [lg_entry_eq]
  generalize (lg_sl ([.ref (ea E 21), .int (iI (a1)), .int (iI (a2)), .int (iI (a3))]) ++ List.replicate (7 - (lg_sl ([.ref (ea E 21), .int (iI (a1)), .int (iI (a2)), .int (iI (a3))])).length) Slot.unset).toArray = ls at hl ⊢
  have hl : lv_has ls 7 [(0, .ref (ea E 21)), (1, .int (iI (a1))), (2, .int (iI (a2))), (3, .int (iI (a3)))] := hl
  have J34 : ∀ (k : Nat), ∀ (v4 : Int) (v6 : Int) (sL : SS) (H : Heap) (locs : List Loc) (ls : Array Slot), GS E sL s H locs → Mo (sz σ) σ sL → lv_has ls 7 [(0, .ref (ea E 21)), (1, .int (iI (a1))), (3, .int (iI (a3))), (4, .long (lI (v4))), (6, .int (iI (v6)))] → wX9_sum_L34 a1 a2 a3 Q  k v4 v6 sL → W p l e (headSpec wsX9_sum ({ frames := 3, cells := 0, slots := 0, locals := 66 } : Room)).room s m (List.toArray [.ref (ea E 21), .int (iI (a1)), .int (iI (a2)), .int (iI (a3))]) below meth c H locs 0 0 (MQ below (Ql E (sz σ) σ Q) (List.toArray [.ref (ea E 21), .int (iI (a1)), .int (iI (a2)), .int (iI (a3))]) s 0 0 (Av E)) (F0 m 34 ls []) := by
    intro k
    induction k with
    | zero => intro v4 v6 sL H locs ls hg hm hl h; exact False.elim h
    | succ k ih =>
      intro v4 v6 sL H locs ls hg hm hl h
      rw [wX9_sum_L34] at h
      refine lv_iload hx hb dX9_sum_34 (lv_at hl 4 rfl) ?_
      refine lv_aload_n hx hb dX9_sum_36 rfl (lv_at hl 0 rfl) ?_
      refine lv_iload_n hx hb dX9_sum_37 rfl (lv_at hl 1 rfl) ?_
      refine lv_iload_n hx hb dX9_sum_38 rfl (lv_at hl 2 rfl) ?_
      refine lv_iconst (v := iI 1) hx hb dX9_sum_39 (by decide) ?_
      refine q_iadd hx hb dX9_sum_40 ?_
      obtain ⟨hR18, h⟩ := h
      refine call_i (run_V (a := ea E 21) (As := [.int (iI (a1)), .int (iI ((a3 + 1)))]) (rest := [.int (iI (v6))]) ⟨hx, hb, hml, hown, hts⟩ (ctX9_below l E a1 (a3 + 1) sL _ ha1 hR18 h) (cwV 2 hts gX9_sum_X9_below rfl rfl rfl ⟨rfl, hdX9_below⟩ ⟨Nat.le_of_ble_eq_true rfl, Nat.le_of_ble_eq_true rfl⟩) hK hN hg (recv_x (ci := 9) (C := RX9) (T := TX9) (N := 27) hg hK (by decide) rfl (by decide) rfl) rfl hl.1 rfl (cat_sum _ (by simp)) dX9_sum_41 ⟨Nat.le_refl 0, Nat.le_refl 0⟩) hg (fun r20 s19 H locs hz21 hm2 h hg => ?_)
      have hm := hm.tn hm2
      obtain ⟨hR22, h⟩ := h
      refine j_ge (tgt := 66) hx hb dX9_sum_44 (by decide) hR22 hz21 (fun c23 => ?_) (fun c23 => ?_)
      · have h := h.1 c23
        refine lv_lload hx hb dX9_sum_66 (lv_at hl 3 rfl) ?_
        exact ret_l hx hb hr hlocks hg  hm h dX9_sum_68
      · have h := h.2 c23
        refine lv_lload hx hb dX9_sum_47 (lv_at hl 3 rfl) ?_
        refine lv_aload_n hx hb dX9_sum_49 rfl (lv_at hl 0 rfl) ?_
        refine lv_iload_n hx hb dX9_sum_50 rfl (lv_at hl 1 rfl) ?_
        refine lv_iload hx hb dX9_sum_51 (lv_at hl 4 rfl) ?_
        refine call_i (run_V (a := ea E 21) (As := [.int (iI (a1)), .int (iI (v6))]) (rest := [.long (lI (v4))]) ⟨hx, hb, hml, hown, hts⟩ (ctX9_valueAt l E a1 v6 s19 _ ha1 hR22 h) (cwV 2 hts gX9_sum_X9_valueAt rfl rfl rfl ⟨rfl, hdX9_valueAt⟩ ⟨Nat.le_of_ble_eq_true rfl, Nat.le_of_ble_eq_true rfl⟩) hK hN hg (recv_x (ci := 9) (C := RX9) (T := TX9) (N := 27) hg hK (by decide) rfl (by decide) rfl) rfl hl.1 rfl (cat_sum _ (by simp)) dX9_sum_53 ⟨Nat.le_refl 0, Nat.le_refl 0⟩) hg (fun r25 s24 H locs hz26 hm2 h hg => ?_)
        have hm := hm.tn hm2
        refine q_i2l hx hb hz26 dX9_sum_56 ?_
        refine q_ladd hx hb dX9_sum_57 ?_
        refine lv_lstore (i := 4) (lv' := [(4, .long (lI ((v4 + r25)))), (0, .ref (ea E 21)), (1, .int (iI (a1))), (3, .int (iI (a3))), (6, .int (iI (v6)))]) hx hb dX9_sum_58 hl (by decide) rfl (fun ls hl => ?_)
        refine lv_iinc (v := iI (v6 + 1)) (lv' := [(6, .int (iI (v6 + 1))), (4, .long (lI ((v4 + r25)))), (0, .ref (ea E 21)), (1, .int (iI (a1))), (3, .int (iI (a3)))]) hx hb dX9_sum_60 hl (k := 4) rfl (iI_add _ _) (by decide) rfl (fun ls hl => ?_)
        refine lv_goto (tgt := 34) hx hb dX9_sum_63 (by decide) ?_
        exact ih ((v4 + r25)) (v6 + 1) (s24) _ _ _ hg hm (lv_sub hl [2, 3, 4, 1, 0] rfl) h
  refine lv_iload_n hx hb dX9_sum_0 rfl (lv_at hl 1 rfl) ?_
  refine call_z (run_S (As := [.int (iI (a1))]) (rest := []) ⟨hx, hb, hml, hown, hts⟩ (ctX9_isMap l E a1 σ _ ha1 h) (va_cwS 1 hts gX9_sum_X9_isMap rfl rfl rfl hdX9_isMap ⟨Nat.le_of_ble_eq_true rfl, Nat.le_of_ble_eq_true rfl⟩) hK hN hg rfl hl.1 rfl (cat_sum _ (by simp)) dX9_sum_1 ⟨Nat.le_refl 0, Nat.le_refl 0⟩) hg (fun r2 s1 H locs hz3 hm2 h hg => ?_)
  have hm := hm.tn hm2
  refine k_eq (tgt := 15) hx hb dX9_sum_4 (by decide) (z_R hz3) (fun c4 => ?_) (fun c4 => ?_)
  · have h := h.1 c4
    refine lv_aload_n hx hb dX9_sum_15 rfl (lv_at hl 0 rfl) ?_
    refine q_ldc (z := (-2000000002)) hx hb hown (hts (.constant RX9 61 (-2000000002)) (List.mem_cons_of_mem _ (List.mem_append_left _ (List.mem_append_left _ (List.mem_of_getElem? (i := 0) rfl))))) (by decide) dX9_sum_16 ?_
    refine call_i (run_V (a := ea E 21) (As := [.int (iI ((-2000000002)))]) (rest := []) ⟨hx, hb, hml, hown, hts⟩ (ctX9_refuses l E (-2000000002) s1 _ (by decide) h) (cwV 1 hts gX9_sum_X9_refuses rfl rfl rfl ⟨rfl, hdX9_refuses⟩ ⟨Nat.le_of_ble_eq_true rfl, Nat.le_of_ble_eq_true rfl⟩) hK hN hg (recv_x (ci := 9) (C := RX9) (T := TX9) (N := 27) hg hK (by decide) rfl (by decide) rfl) rfl hl.1 rfl (cat_sum _ (by simp)) dX9_sum_18 ⟨Nat.le_refl 0, Nat.le_refl 0⟩) hg (fun r6 s5 H locs hz7 hm2 h hg => ?_)
    have hm := hm.tn hm2
    refine q_i2l hx hb hz7 dX9_sum_21 ?_
    exact ret_l hx hb hr hlocks hg  hm h dX9_sum_22
  · have h := h.2 c4
    refine lv_iload_n hx hb dX9_sum_7 rfl (lv_at hl 2 rfl) ?_
    refine lv_iload_n hx hb dX9_sum_8 rfl (lv_at hl 3 rfl) ?_
    refine call_z (run_S (As := [.int (iI (a2)), .int (iI (a3))]) (rest := []) ⟨hx, hb, hml, hown, hts⟩ (ctX9_isRange l E a2 a3 s1 _ ha2 ha3 h) (va_cwS 2 hts gX9_sum_X9_isRange rfl rfl rfl hdX9_isRange ⟨Nat.le_of_ble_eq_true rfl, Nat.le_of_ble_eq_true rfl⟩) hK hN hg rfl hl.1 rfl (cat_sum _ (by simp)) dX9_sum_9 ⟨Nat.le_refl 0, Nat.le_refl 0⟩) hg (fun r9 s8 H locs hz10 hm2 h hg => ?_)
    have hm := hm.tn hm2
    refine k_ne (tgt := 23) hx hb dX9_sum_12 (by decide) (z_R hz10) (fun c11 => ?_) (fun c11 => ?_)
    · have h := h.1 c11
      refine lv_lconst (v := lI 0) hx hb dX9_sum_23 (by decide) ?_
      refine lv_lstore (i := 4) (lv' := [(4, .long (lI (0))), (0, .ref (ea E 21)), (1, .int (iI (a1))), (2, .int (iI (a2))), (3, .int (iI (a3)))]) hx hb dX9_sum_24 hl (by decide) rfl (fun ls hl => ?_)
      refine lv_aload_n hx hb dX9_sum_26 rfl (lv_at hl 1 rfl) ?_
      refine lv_iload_n hx hb dX9_sum_27 rfl (lv_at hl 2 rfl) ?_
      refine lv_iload_n hx hb dX9_sum_28 rfl (lv_at hl 3 rfl) ?_
      refine call_i (run_V (a := ea E 21) (As := [.int (iI (a1)), .int (iI (a2))]) (rest := []) ⟨hx, hb, hml, hown, hts⟩ (ctX9_below l E a1 a2 s8 _ ha1 ha2 h) (cwV 2 hts gX9_sum_X9_below rfl rfl rfl ⟨rfl, hdX9_below⟩ ⟨Nat.le_of_ble_eq_true rfl, Nat.le_of_ble_eq_true rfl⟩) hK hN hg (recv_x (ci := 9) (C := RX9) (T := TX9) (N := 27) hg hK (by decide) rfl (by decide) rfl) rfl hl.1 rfl (cat_sum _ (by simp)) dX9_sum_29 ⟨Nat.le_refl 0, Nat.le_refl 0⟩) hg (fun r13 s12 H locs hz14 hm2 h hg => ?_)
      have hm := hm.tn hm2
      refine lv_istore (i := 6) (lv' := [(6, .int (iI (r13))), (4, .long (lI (0))), (0, .ref (ea E 21)), (1, .int (iI (a1))), (2, .int (iI (a2))), (3, .int (iI (a3)))]) hx hb dX9_sum_32 hl (by decide) rfl (fun ls hl => ?_)
      obtain ⟨kk, h⟩ := h
      exact J34  kk (0) (r13) (s12) _ _ _ hg hm (lv_sub hl [2, 3, 5, 1, 0] rfl) h
    · have h := h.2 c11
      refine lv_aload_n hx hb dX9_sum_15 rfl (lv_at hl 0 rfl) ?_
      refine q_ldc (z := (-2000000002)) hx hb hown (hts (.constant RX9 61 (-2000000002)) (List.mem_cons_of_mem _ (List.mem_append_left _ (List.mem_append_left _ (List.mem_of_getElem? (i := 0) rfl))))) (by decide) dX9_sum_16 ?_
      refine call_i (run_V (a := ea E 21) (As := [.int (iI ((-2000000002)))]) (rest := []) ⟨hx, hb, hml, hown, hts⟩ (ctX9_refuses l E (-2000000002) s8 _ (by decide) h) (cwV 1 hts gX9_sum_X9_refuses rfl rfl rfl ⟨rfl, hdX9_refuses⟩ ⟨Nat.le_of_ble_eq_true rfl, Nat.le_of_ble_eq_true rfl⟩) hK hN hg (recv_x (ci := 9) (C := RX9) (T := TX9) (N := 27) hg hK (by decide) rfl (by decide) rfl) rfl hl.1 rfl (cat_sum _ (by simp)) dX9_sum_18 ⟨Nat.le_refl 0, Nat.le_refl 0⟩) hg (fun r16 s15 H locs hz17 hm2 h hg => ?_)
      have hm := hm.tn hm2
      refine q_i2l hx hb hz17 dX9_sum_21 ?_
      exact ret_l hx hb hr hlocks hg  hm h dX9_sum_22
