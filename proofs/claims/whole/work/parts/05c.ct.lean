theorem hdX9_joins : yX9_joins.cls ≠ "java/lang/invoke/MethodHandle" ∧ yX9_joins.cls ≠ "java/lang/invoke/VarHandle" ∧ (parseMethodDescriptor yX9_joins.desc).map (fun d => d.parameters.length) = some 3 := by decide +kernel
set_option maxRecDepth 100000 in
set_option maxHeartbeats 4000000 in
theorem ctX9_joins (l : Launch) (E : Ev) (a1 : Int) (a2 : Int) (a3 : Int) (σ : SS) (Q : Int → SS → Prop) (ha1 : R32 a1) (ha2 : R32 a2) (ha3 : R32 a3) (h : wX9_joins a1 a2 a3 σ Q) : Met l yX9_joins wsX9_joins ({ frames := 2, cells := 0, slots := 0, locals := 43 } : Room) (Pc E σ [.ref (ea E 21), .int (iI (a1)), .int (iI (a2)), .int (iI (a3))]) (Qi E (sz σ) σ Q) 0 0 (Av E) := by
  rw [wX9_joins] at h
  refine Met.ofW (cc := cX9_joins) (maxL := 4) (ret := (some .int)) (by decide) rfl ?_
  intro p e s m args below meth c s₁ B hml hv
  obtain ⟨rfl, hH, hK, hN⟩ := hv
  have hx := B.exec
  have hb := B.bytes
  have hr := B.returns
  have hts := atoms_spec (ws := wsX9_joins) B.pre
  have hown : s.vm.findClass RX9 = some m.cls := findClass_of_methodNamed B.named
  have hlocks := B.notSynchronized
  have hg : GS E σ s s.heap [] := ⟨hH, va_S.rf⟩
  have hm : Mo (sz σ) σ σ := Mo.rf (Nat.le_refl _)
  have hl := ent (vs := [.ref (ea E 21), .int (iI (a1)), .int (iI (a2)), .int (iI (a3))]) (n := 4) (cats_x (cats_i (cats_i (cats_i cats_nil)))) (Nat.le_of_ble_eq_true rfl)
  rw [lg_entry_eq]
  generalize (lg_sl ([.ref (ea E 21), .int (iI (a1)), .int (iI (a2)), .int (iI (a3))]) ++ List.replicate (4 - (lg_sl ([.ref (ea E 21), .int (iI (a1)), .int (iI (a2)), .int (iI (a3))])).length) Slot.unset).toArray = ls at hl ⊢
  have hl : lv_has ls 4 [(0, .ref (ea E 21)), (1, .int (iI (a1))), (2, .int (iI (a2))), (3, .int (iI (a3)))] := hl
  have J29 : ∀ (sL : SS) (H : Heap) (locs : List Loc) (ls : Array Slot), GS E sL s H locs → Mo (sz σ) σ sL → lv_has ls 4 [(1, .int (iI (a1))), (2, .int (iI (a2))), (3, .int (iI (a3)))] → wX9_joins_L29 a1 a2 a3 Q   sL → W p l e (headSpec wsX9_joins ({ frames := 2, cells := 0, slots := 0, locals := 43 } : Room)).room s m (List.toArray [.ref (ea E 21), .int (iI (a1)), .int (iI (a2)), .int (iI (a3))]) below meth c H locs 0 0 (MQ below (Qi E (sz σ) σ Q) (List.toArray [.ref (ea E 21), .int (iI (a1)), .int (iI (a2)), .int (iI (a3))]) s 0 0 (Av E)) (F0 m 29 ls []) := by
    intro sL H locs ls hg hm hl h
    rw [wX9_joins_L29] at h
    refine lv_iload_n hx hb dX9_joins_29 rfl (lv_at hl 0 rfl) ?_
    refine lv_iconst (v := iI 1) hx hb dX9_joins_30 (by decide) ?_
    refine j_ne (tgt := 39) hx hb dX9_joins_31 (by decide) ha1 (by decide) (fun c7 => ?_) (fun c7 => ?_)
    · have h := h.1 c7
      refine lv_iload_n hx hb dX9_joins_39 rfl (lv_at hl 0 rfl) ?_
      refine lv_iconst (v := iI 2) hx hb dX9_joins_40 (by decide) ?_
      refine j_eq (tgt := 50) hx hb dX9_joins_41 (by decide) ha1 (by decide) (fun c8 => ?_) (fun c8 => ?_)
      · have h := h.1 c8
        refine lv_iload_n hx hb dX9_joins_50 rfl (lv_at hl 1 rfl) ?_
        refine lv_goto (tgt := 55) hx hb dX9_joins_51 (by decide) ?_
        exact ret_i hx hb hr hlocks hg ha2 hm h dX9_joins_55
      · have h := h.2 c8
        refine lv_iload_n hx hb dX9_joins_44 rfl (lv_at hl 1 rfl) ?_
        refine q_ldc (z := (-2000000001)) hx hb hown (hts (.constant RX9 120 (-2000000001)) (List.mem_cons_of_mem _ (List.mem_append_left _ (List.mem_of_getElem? (i := 0) rfl)))) (by decide) dX9_joins_45 ?_
        refine j_eq (tgt := 54) hx hb dX9_joins_47 (by decide) ha2 (by decide) (fun c9 => ?_) (fun c9 => ?_)
        · have h := h.1 c9
          refine lv_iload_n hx hb dX9_joins_54 rfl (lv_at hl 2 rfl) ?_
          exact ret_i hx hb hr hlocks hg ha3 hm h dX9_joins_55
        · have h := h.2 c9
          refine lv_iload_n hx hb dX9_joins_50 rfl (lv_at hl 1 rfl) ?_
          refine lv_goto (tgt := 55) hx hb dX9_joins_51 (by decide) ?_
          exact ret_i hx hb hr hlocks hg ha2 hm h dX9_joins_55
    · have h := h.2 c7
      refine q_ldc (z := (-2000000001)) hx hb hown (hts (.constant RX9 120 (-2000000001)) (List.mem_cons_of_mem _ (List.mem_append_left _ (List.mem_of_getElem? (i := 0) rfl)))) (by decide) dX9_joins_34 ?_
      refine lv_goto (tgt := 55) hx hb dX9_joins_36 (by decide) ?_
      exact ret_i hx hb hr hlocks hg (by decide) hm h dX9_joins_55
  refine lv_iload_n hx hb dX9_joins_0 rfl (lv_at hl 2 rfl) ?_
  refine q_ldc (z := (-2000000001)) hx hb hown (hts (.constant RX9 120 (-2000000001)) (List.mem_cons_of_mem _ (List.mem_append_left _ (List.mem_of_getElem? (i := 0) rfl)))) (by decide) dX9_joins_1 ?_
  refine j_eq (tgt := 29) hx hb dX9_joins_3 (by decide) ha2 (by decide) (fun c1 => ?_) (fun c1 => ?_)
  · have h := h.1 c1
    exact J29  (σ) _ _ _ hg hm (lv_sub hl [1, 2, 3] rfl) h
  · have h := h.2 c1
    refine lv_iload_n hx hb dX9_joins_6 rfl (lv_at hl 3 rfl) ?_
    refine q_ldc (z := (-2000000001)) hx hb hown (hts (.constant RX9 120 (-2000000001)) (List.mem_cons_of_mem _ (List.mem_append_left _ (List.mem_of_getElem? (i := 0) rfl)))) (by decide) dX9_joins_7 ?_
    refine j_eq (tgt := 29) hx hb dX9_joins_9 (by decide) ha3 (by decide) (fun c2 => ?_) (fun c2 => ?_)
    · have h := h.1 c2
      exact J29  (σ) _ _ _ hg hm (lv_sub hl [1, 2, 3] rfl) h
    · have h := h.2 c2
      refine lv_iload_n hx hb dX9_joins_12 rfl (lv_at hl 1 rfl) ?_
      refine lv_iconst (v := iI 2) hx hb dX9_joins_13 (by decide) ?_
      refine j_ge (tgt := 26) hx hb dX9_joins_14 (by decide) ha1 (by decide) (fun c3 => ?_) (fun c3 => ?_)
      · have h := h.1 c3
        refine q_ldc (z := (-2000000001)) hx hb hown (hts (.constant RX9 120 (-2000000001)) (List.mem_cons_of_mem _ (List.mem_append_left _ (List.mem_of_getElem? (i := 0) rfl)))) (by decide) dX9_joins_26 ?_
        exact ret_i hx hb hr hlocks hg (by decide) hm h dX9_joins_28
      · have h := h.2 c3
        refine lv_aload_n hx hb dX9_joins_17 rfl (lv_at hl 0 rfl) ?_
        refine lv_iload_n hx hb dX9_joins_18 rfl (lv_at hl 2 rfl) ?_
        refine lv_iload_n hx hb dX9_joins_19 rfl (lv_at hl 3 rfl) ?_
        refine call_i (run_V (a := ea E 21) (As := [.int (iI (a2)), .int (iI (a3))]) (rest := []) ⟨hx, hb, hml, hown, hts⟩ (ctX9_mixed l E a2 a3 σ _ ha2 ha3 h) (cwV 2 hts gX9_joins_X9_mixed rfl rfl rfl ⟨rfl, hdX9_mixed⟩ ⟨Nat.le_of_ble_eq_true rfl, Nat.le_of_ble_eq_true rfl⟩) hK hN hg (recv_x (ci := 9) (C := RX9) (T := TX9) (N := 27) hg hK (by decide) rfl (by decide) rfl) rfl hl.1 rfl (cat_sum _ (by simp)) dX9_joins_20 ⟨Nat.le_refl 0, Nat.le_refl 0⟩) hg (fun r5 s4 H locs hz6 hm2 h hg => ?_)
        have hm := hm.tn hm2
        refine lv_goto (tgt := 28) hx hb dX9_joins_23 (by decide) ?_
        exact ret_i hx hb hr hlocks hg hz6 hm h dX9_joins_28
theorem hdX9_becomes : yX9_becomes.cls ≠ "java/lang/invoke/MethodHandle" ∧ yX9_becomes.cls ≠ "java/lang/invoke/VarHandle" ∧ (parseMethodDescriptor yX9_becomes.desc).map (fun d => d.parameters.length) = some 2 := by decide +kernel
set_option maxRecDepth 100000 in
set_option maxHeartbeats 4000000 in
theorem ctX9_becomes (l : Launch) (E : Ev) (a1 : Int) (a2 : Int) (σ : SS) (Q : SS → Prop) (ha1 : R32 a1) (ha2 : R32 a2) (h : wX9_becomes a1 a2 σ Q) : Met l yX9_becomes wsX9_becomes ({ frames := 0, cells := 0, slots := 0, locals := 0 } : Room) (Pc E σ [.ref (ea E 21), .int (iI (a1)), .int (iI (a2))]) (Qv E (sz σ) σ Q) 0 0 (Av E) := by
  rw [wX9_becomes] at h
  refine Met.ofW (cc := cX9_becomes) (maxL := 4) (ret := none) (by decide) rfl ?_
  intro p e s m args below meth c s₁ B hml hv
  obtain ⟨rfl, hH, hK, hN⟩ := hv
  have hx := B.exec
  have hb := B.bytes
  have hr := B.returns
  have hts := atoms_spec (ws := wsX9_becomes) B.pre
  have hown : s.vm.findClass RX9 = some m.cls := findClass_of_methodNamed B.named
  have hlocks := B.notSynchronized
  have hg : GS E σ s s.heap [] := ⟨hH, va_S.rf⟩
  have hm : Mo (sz σ) σ σ := Mo.rf (Nat.le_refl _)
  have hl := ent (vs := [.ref (ea E 21), .int (iI (a1)), .int (iI (a2))]) (n := 4) (cats_x (cats_i (cats_i cats_nil))) (Nat.le_of_ble_eq_true rfl)
  rw [lg_entry_eq]
  generalize (lg_sl ([.ref (ea E 21), .int (iI (a1)), .int (iI (a2))]) ++ List.replicate (4 - (lg_sl ([.ref (ea E 21), .int (iI (a1)), .int (iI (a2))])).length) Slot.unset).toArray = ls at hl ⊢
  have hl : lv_has ls 4 [(0, .ref (ea E 21)), (1, .int (iI (a1))), (2, .int (iI (a2)))] := hl
  have J2 : ∀ (k : Nat), ∀ (v3 : Int) (sL : SS) (H : Heap) (locs : List Loc) (ls : Array Slot), GS E sL s H locs → Mo (sz σ) σ sL → lv_has ls 4 [(0, .ref (ea E 21)), (1, .int (iI (a1))), (2, .int (iI (a2))), (3, .int (iI (v3)))] → wX9_becomes_L2 a1 a2 Q  k v3 sL → W p l e (headSpec wsX9_becomes ({ frames := 0, cells := 0, slots := 0, locals := 0 } : Room)).room s m (List.toArray [.ref (ea E 21), .int (iI (a1)), .int (iI (a2))]) below meth c H locs 0 0 (MQ below (Qv E (sz σ) σ Q) (List.toArray [.ref (ea E 21), .int (iI (a1)), .int (iI (a2))]) s 0 0 (Av E)) (F0 m 2 ls []) := by
    intro k
    induction k with
    | zero => intro v3 sL H locs ls hg hm hl h; exact False.elim h
    | succ k ih =>
      intro v3 sL H locs ls hg hm hl h
      rw [wX9_becomes_L2] at h
      refine lv_iload_n hx hb dX9_becomes_2 rfl (lv_at hl 3 rfl) ?_
      refine lv_iload_n hx hb dX9_becomes_3 rfl (lv_at hl 2 rfl) ?_
      obtain ⟨hR1, h⟩ := h
      refine j_ge (tgt := 31) hx hb dX9_becomes_4 (by decide) hR1 ha2 (fun c2 => ?_) (fun c2 => ?_)
      · have h := h.1 c2
        refine lv_aload_n hx hb dX9_becomes_31 rfl (lv_at hl 0 rfl) ?_
        refine q_getx (ci := 9) (C := RX9) (T := TX9) (N := 27) (j := 23) hx hb hts (fun _ h9 => List.mem_cons_of_mem _ (List.mem_append_right _ h9)) hown hK hg 21 (by decide) rfl rfl (by decide) rfl 1 (by decide) (hts (.fieldLink RX9 13 "JoinMapsModel" "sizes" "[I") (List.mem_cons_of_mem _ (List.mem_append_left _ (List.mem_of_getElem? (i := 2) rfl)))) rfl rfl rfl dX9_becomes_32 ?_
        refine lv_iload_n hx hb dX9_becomes_35 rfl (lv_at hl 1 rfl) ?_
        refine lv_iload_n hx hb dX9_becomes_36 rfl (lv_at hl 2 rfl) ?_
        obtain ⟨hP3, hP4, h⟩ := h
        refine q_iast (N := 6) hx hb hK hg 23 (by decide) rfl rfl hP3 hP4 (by decide) ha2 dX9_becomes_37 (fun H locs hg => ?_)
        exact ret_v hx hb hr hlocks hg hm h dX9_becomes_38
      · have h := h.2 c2
        refine lv_aload_n hx hb dX9_becomes_7 rfl (lv_at hl 0 rfl) ?_
        refine q_getx (ci := 9) (C := RX9) (T := TX9) (N := 27) (j := 22) hx hb hts (fun _ h9 => List.mem_cons_of_mem _ (List.mem_append_right _ h9)) hown hK hg 21 (by decide) rfl rfl (by decide) rfl 0 (by decide) (hts (.fieldLink RX9 7 "JoinMapsModel" "rows" "[I") (List.mem_cons_of_mem _ (List.mem_append_left _ (List.mem_of_getElem? (i := 0) rfl)))) rfl rfl rfl dX9_becomes_8 ?_
        refine lv_sipush (v := iI 200) hx hb dX9_becomes_11 (by decide) ?_
        refine lv_iload_n hx hb dX9_becomes_14 rfl (lv_at hl 1 rfl) ?_
        refine q_imul hx hb dX9_becomes_15 ?_
        refine lv_iload_n hx hb dX9_becomes_16 rfl (lv_at hl 3 rfl) ?_
        refine q_iadd hx hb dX9_becomes_17 ?_
        refine lv_aload_n hx hb dX9_becomes_18 rfl (lv_at hl 0 rfl) ?_
        refine q_getx (ci := 9) (C := RX9) (T := TX9) (N := 27) (j := 28) hx hb hts (fun _ h9 => List.mem_cons_of_mem _ (List.mem_append_right _ h9)) hown hK hg 21 (by decide) rfl rfl (by decide) rfl 7 (by decide) (hts (.fieldLink RX9 28 "JoinMapsModel" "made" "[I") (List.mem_cons_of_mem _ (List.mem_append_left _ (List.mem_of_getElem? (i := 1) rfl)))) rfl rfl rfl dX9_becomes_19 ?_
        refine lv_iload_n hx hb dX9_becomes_22 rfl (lv_at hl 3 rfl) ?_
        obtain ⟨hP5, hP6, h⟩ := h
        refine q_iald (N := 201) hx hb hK hg 28 (by decide) rfl rfl hP5 hP6 (by decide) dX9_becomes_23 ?_
        have hR7 := GS_R hg 28 (v3 : Int).toNat
        obtain ⟨hP8, hP9, h⟩ := h
        refine q_iast (N := 1200) hx hb hK hg 22 (by decide) rfl rfl hP8 hP9 (by decide) hR7 dX9_becomes_24 (fun H locs hg => ?_)
        refine lv_iinc (v := iI (v3 + 1)) (lv' := [(3, .int (iI (v3 + 1))), (0, .ref (ea E 21)), (1, .int (iI (a1))), (2, .int (iI (a2)))]) hx hb dX9_becomes_25 hl (k := 3) rfl (iI_add _ _) (by decide) rfl (fun ls hl => ?_)
        refine lv_goto (tgt := 2) hx hb dX9_becomes_28 (by decide) ?_
        exact ih (v3 + 1) (un sL 22 (((200 * a1) + v3) : Int).toNat ((sn sL 28 (v3 : Int).toNat))) _ _ _ hg hm (lv_sub hl [1, 2, 3, 0] rfl) h
  refine lv_iconst (v := iI 0) hx hb dX9_becomes_0 (by decide) ?_
  refine lv_istore_n (i := 3) (lv' := [(3, .int (iI (0))), (0, .ref (ea E 21)), (1, .int (iI (a1))), (2, .int (iI (a2)))]) hx hb dX9_becomes_1 rfl hl (by decide) rfl (fun ls hl => ?_)
  obtain ⟨kk, h⟩ := h
  exact J2  kk (0) (σ) _ _ _ hg hm (lv_sub hl [1, 2, 3, 0] rfl) h
theorem hdX9_mix : yX9_mix.cls ≠ "java/lang/invoke/MethodHandle" ∧ yX9_mix.cls ≠ "java/lang/invoke/VarHandle" ∧ (parseMethodDescriptor yX9_mix.desc).map (fun d => d.parameters.length) = some 4 := by decide +kernel
set_option maxRecDepth 100000 in
set_option maxHeartbeats 4000000 in
theorem ctX9_mix (l : Launch) (E : Ev) (a1 : Int) (a2 : Int) (a3 : Int) (a4 : Int) (σ : SS) (Q : Int → SS → Prop) (ha1 : R32 a1) (ha2 : R32 a2) (ha3 : R32 a3) (ha4 : R32 a4) (h : wX9_mix a1 a2 a3 a4 σ Q) : Met l yX9_mix wsX9_mix ({ frames := 3, cells := 0, slots := 0, locals := 66 } : Room) (Pc E σ [.ref (ea E 21), .int (iI (a1)), .int (iI (a2)), .int (iI (a3)), .int (iI (a4))]) (Qi E (sz σ) σ Q) 0 0 (Av E) := by
  rw [wX9_mix] at h
  refine Met.ofW (cc := cX9_mix) (maxL := 12) (ret := (some .int)) (by decide) rfl ?_
  intro p e s m args below meth c s₁ B hml hv
  obtain ⟨rfl, hH, hK, hN⟩ := hv
  have hx := B.exec
  have hb := B.bytes
  have hr := B.returns
  have hts := atoms_spec (ws := wsX9_mix) B.pre
  have hown : s.vm.findClass RX9 = some m.cls := findClass_of_methodNamed B.named
  have hlocks := B.notSynchronized
  have hg : GS E σ s s.heap [] := ⟨hH, va_S.rf⟩
  have hm : Mo (sz σ) σ σ := Mo.rf (Nat.le_refl _)
  have hl := ent (vs := [.ref (ea E 21), .int (iI (a1)), .int (iI (a2)), .int (iI (a3)), .int (iI (a4))]) (n := 12) (cats_x (cats_i (cats_i (cats_i (cats_i cats_nil))))) (Nat.le_of_ble_eq_true rfl)
  rw [lg_entry_eq]
  generalize (lg_sl ([.ref (ea E 21), .int (iI (a1)), .int (iI (a2)), .int (iI (a3)), .int (iI (a4))]) ++ List.replicate (12 - (lg_sl ([.ref (ea E 21), .int (iI (a1)), .int (iI (a2)), .int (iI (a3)), .int (iI (a4))])).length) Slot.unset).toArray = ls at hl ⊢
  have hl : lv_has ls 12 [(0, .ref (ea E 21)), (1, .int (iI (a1))), (2, .int (iI (a2))), (3, .int (iI (a3))), (4, .int (iI (a4)))] := hl
  have J154 : ∀ (K55 : Int → Int → Int → Int → SS → Prop) (hK55 : ∀ (v5 : Int) (v6 : Int) (v7 : Int) (v8 : Int) (sL : SS) (H : Heap) (locs : List Loc) (ls : Array Slot), GS E sL s H locs → Mo (sz σ) σ sL → lv_has ls 12 [(0, .ref (ea E 21)), (1, .int (iI (a1))), (2, .int (iI (a2))), (3, .int (iI (a3))), (4, .int (iI (a4))), (5, .int (iI (v5))), (6, .int (iI (v6))), (7, .int (iI (v7))), (8, .int (iI (v8)))] → K55 v5 v6 v7 v8 sL → W p l e (headSpec wsX9_mix ({ frames := 3, cells := 0, slots := 0, locals := 66 } : Room)).room s m (List.toArray [.ref (ea E 21), .int (iI (a1)), .int (iI (a2)), .int (iI (a3)), .int (iI (a4))]) below meth c H locs 0 0 (MQ below (Qi E (sz σ) σ Q) (List.toArray [.ref (ea E 21), .int (iI (a1)), .int (iI (a2)), .int (iI (a3)), .int (iI (a4))]) s 0 0 (Av E)) (F0 m 55 ls [])), ∀ (v5 : Int) (v7 : Int) (v8 : Int) (v9 : Int) (v10 : Int) (u0 : Int) (u1 : Int) (sL : SS) (H : Heap) (locs : List Loc) (ls : Array Slot), GS E sL s H locs → Mo (sz σ) σ sL → lv_has ls 12 [(0, .ref (ea E 21)), (1, .int (iI (a1))), (2, .int (iI (a2))), (3, .int (iI (a3))), (4, .int (iI (a4))), (5, .int (iI (v5))), (7, .int (iI (v7))), (8, .int (iI (v8))), (9, .int (iI (v9))), (10, .int (iI (v10)))] → wX9_mix_L154 a1 a2 a3 a4 Q K55 v5 v7 v8 v9 v10 u0 u1 sL → W p l e (headSpec wsX9_mix ({ frames := 3, cells := 0, slots := 0, locals := 66 } : Room)).room s m (List.toArray [.ref (ea E 21), .int (iI (a1)), .int (iI (a2)), .int (iI (a3)), .int (iI (a4))]) below meth c H locs 0 0 (MQ below (Qi E (sz σ) σ Q) (List.toArray [.ref (ea E 21), .int (iI (a1)), .int (iI (a2)), .int (iI (a3)), .int (iI (a4))]) s 0 0 (Av E)) (F0 m 154 ls [.int (iI (u0)), .int (iI (u1))]) := by
    intro K55 hK55 v5 v7 v8 v9 v10 u0 u1 sL H locs ls hg hm hl h
    rw [wX9_mix_L154] at h
    refine q_iadd hx hb dX9_mix_154 ?_
    refine lv_istore (i := 6) (lv' := [(6, .int (iI ((u1 + u0)))), (0, .ref (ea E 21)), (1, .int (iI (a1))), (2, .int (iI (a2))), (3, .int (iI (a3))), (4, .int (iI (a4))), (5, .int (iI (v5))), (7, .int (iI (v7))), (8, .int (iI (v8))), (9, .int (iI (v9))), (10, .int (iI (v10)))]) hx hb dX9_mix_155 hl (by decide) rfl (fun ls hl => ?_)
    refine lv_aload_n hx hb dX9_mix_157 rfl (lv_at hl 1 rfl) ?_
    refine lv_iload_n hx hb dX9_mix_158 rfl (lv_at hl 2 rfl) ?_
    refine lv_iload hx hb dX9_mix_159 (lv_at hl 9 rfl) ?_
    refine lv_iload hx hb dX9_mix_161 (lv_at hl 10 rfl) ?_
    obtain ⟨hR65, hR66, h⟩ := h
    refine call_i (run_V (a := ea E 21) (As := [.int (iI (a1)), .int (iI (v9)), .int (iI (v10))]) (rest := []) ⟨hx, hb, hml, hown, hts⟩ (ctX9_joins l E a1 v9 v10 sL _ ha1 hR65 hR66 h) (cwV 3 hts gX9_mix_X9_joins rfl rfl rfl ⟨rfl, hdX9_joins⟩ ⟨Nat.le_of_ble_eq_true rfl, Nat.le_of_ble_eq_true rfl⟩) hK hN hg (recv_x (ci := 9) (C := RX9) (T := TX9) (N := 27) hg hK (by decide) rfl (by decide) rfl) rfl hl.1 rfl (cat_sum _ (by simp)) dX9_mix_163 ⟨Nat.le_refl 0, Nat.le_refl 0⟩) hg (fun r68 s67 H locs hz69 hm2 h hg => ?_)
    have hm := hm.tn hm2
    refine lv_istore (i := 11) (lv' := [(11, .int (iI (r68))), (6, .int (iI ((u1 + u0)))), (0, .ref (ea E 21)), (1, .int (iI (a1))), (2, .int (iI (a2))), (3, .int (iI (a3))), (4, .int (iI (a4))), (5, .int (iI (v5))), (7, .int (iI (v7))), (8, .int (iI (v8))), (9, .int (iI (v9))), (10, .int (iI (v10)))]) hx hb dX9_mix_166 hl (by decide) rfl (fun ls hl => ?_)
    refine lv_iload hx hb dX9_mix_168 (lv_at hl 0 rfl) ?_
    refine q_ldc (z := (-2000000001)) hx hb hown (hts (.constant RX9 120 (-2000000001)) (List.mem_cons_of_mem _ (List.mem_append_left _ (List.mem_append_left _ (List.mem_of_getElem? (i := 2) rfl))))) (by decide) dX9_mix_170 ?_
    refine j_eq (tgt := 192) hx hb dX9_mix_172 (by decide) hz69 (by decide) (fun c70 => ?_) (fun c70 => ?_)
    · have h := h.1 c70
      refine lv_iinc (v := iI (v8 + 1)) (lv' := [(8, .int (iI (v8 + 1))), (11, .int (iI (r68))), (6, .int (iI ((u1 + u0)))), (0, .ref (ea E 21)), (1, .int (iI (a1))), (2, .int (iI (a2))), (3, .int (iI (a3))), (4, .int (iI (a4))), (5, .int (iI (v5))), (7, .int (iI (v7))), (9, .int (iI (v9))), (10, .int (iI (v10)))]) hx hb dX9_mix_192 hl (k := 9) rfl (iI_add _ _) (by decide) rfl (fun ls hl => ?_)
      refine lv_goto (tgt := 55) hx hb dX9_mix_195 (by decide) ?_
      exact hK55 (v5) ((u1 + u0)) (v7) (v8 + 1) (s67) _ _ _ hg hm (lv_sub hl [3, 4, 5, 6, 7, 8, 2, 9, 0] rfl) h
    · have h := h.2 c70
      refine lv_aload_n hx hb dX9_mix_175 rfl (lv_at hl 2 rfl) ?_
      refine q_getx (ci := 9) (C := RX9) (T := TX9) (N := 27) (j := 28) hx hb hts (fun _ h9 => List.mem_cons_of_mem _ (List.mem_append_right _ h9)) hown hK hg 21 (by decide) rfl rfl (by decide) rfl 7 (by decide) (hts (.fieldLink RX9 28 "JoinMapsModel" "made" "[I") (List.mem_cons_of_mem _ (List.mem_append_left _ (List.mem_append_left _ (List.mem_of_getElem? (i := 3) rfl))))) rfl rfl rfl dX9_mix_176 ?_
      refine lv_iload hx hb dX9_mix_179 (lv_at hl 8 rfl) ?_
      refine lv_iload hx hb dX9_mix_181 (lv_at hl 9 rfl) ?_
      refine lv_iload hx hb dX9_mix_183 (lv_at hl 0 rfl) ?_
      obtain ⟨hR71, h⟩ := h
      refine call_i (run_S (As := [.int (iI (v8)), .int (iI (r68))]) (rest := [.int (iI (v7)), .ref (ea E 28)]) ⟨hx, hb, hml, hown, hts⟩ (ctX9_entry l E v8 r68 s67 _ hR71 hz69 h) (va_cwS 2 hts gX9_mix_X9_entry rfl rfl rfl hdX9_entry ⟨Nat.le_of_ble_eq_true rfl, Nat.le_of_ble_eq_true rfl⟩) hK hN hg rfl hl.1 rfl (cat_sum _ (by simp)) dX9_mix_185 ⟨Nat.le_refl 0, Nat.le_refl 0⟩) hg (fun r73 s72 H locs hz74 hm2 h hg => ?_)
      have hm := hm.tn hm2
      obtain ⟨hP75, hP76, h⟩ := h
      refine q_iast (N := 201) hx hb hK hg 28 (by decide) rfl rfl hP75 hP76 (by decide) hz74 dX9_mix_188 (fun H locs hg => ?_)
      refine lv_iinc (v := iI (v7 + 1)) (lv' := [(7, .int (iI (v7 + 1))), (11, .int (iI (r68))), (6, .int (iI ((u1 + u0)))), (0, .ref (ea E 21)), (1, .int (iI (a1))), (2, .int (iI (a2))), (3, .int (iI (a3))), (4, .int (iI (a4))), (5, .int (iI (v5))), (8, .int (iI (v8))), (9, .int (iI (v9))), (10, .int (iI (v10)))]) hx hb dX9_mix_189 hl (k := 8) rfl (iI_add _ _) (by decide) rfl (fun ls hl => ?_)
      refine lv_iinc (v := iI (v8 + 1)) (lv' := [(8, .int (iI (v8 + 1))), (7, .int (iI (v7 + 1))), (11, .int (iI (r68))), (6, .int (iI ((u1 + u0)))), (0, .ref (ea E 21)), (1, .int (iI (a1))), (2, .int (iI (a2))), (3, .int (iI (a3))), (4, .int (iI (a4))), (5, .int (iI (v5))), (9, .int (iI (v9))), (10, .int (iI (v10)))]) hx hb dX9_mix_192 hl (k := 9) rfl (iI_add _ _) (by decide) rfl (fun ls hl => ?_)
      refine lv_goto (tgt := 55) hx hb dX9_mix_195 (by decide) ?_
      exact hK55 (v5) ((u1 + u0)) (v7 + 1) (v8 + 1) (un s72 28 (v7 : Int).toNat (r73)) _ _ _ hg hm (lv_sub hl [4, 5, 6, 7, 8, 9, 3, 1, 0] rfl) h
  have J137 : ∀ (K55 : Int → Int → Int → Int → SS → Prop) (hK55 : ∀ (v5 : Int) (v6 : Int) (v7 : Int) (v8 : Int) (sL : SS) (H : Heap) (locs : List Loc) (ls : Array Slot), GS E sL s H locs → Mo (sz σ) σ sL → lv_has ls 12 [(0, .ref (ea E 21)), (1, .int (iI (a1))), (2, .int (iI (a2))), (3, .int (iI (a3))), (4, .int (iI (a4))), (5, .int (iI (v5))), (6, .int (iI (v6))), (7, .int (iI (v7))), (8, .int (iI (v8)))] → K55 v5 v6 v7 v8 sL → W p l e (headSpec wsX9_mix ({ frames := 3, cells := 0, slots := 0, locals := 66 } : Room)).room s m (List.toArray [.ref (ea E 21), .int (iI (a1)), .int (iI (a2)), .int (iI (a3)), .int (iI (a4))]) below meth c H locs 0 0 (MQ below (Qi E (sz σ) σ Q) (List.toArray [.ref (ea E 21), .int (iI (a1)), .int (iI (a2)), .int (iI (a3)), .int (iI (a4))]) s 0 0 (Av E)) (F0 m 55 ls [])), ∀ (v6 : Int) (v7 : Int) (v8 : Int) (v9 : Int) (v10 : Int) (u0 : Int) (u1 : Int) (sL : SS) (H : Heap) (locs : List Loc) (ls : Array Slot), GS E sL s H locs → Mo (sz σ) σ sL → lv_has ls 12 [(0, .ref (ea E 21)), (1, .int (iI (a1))), (2, .int (iI (a2))), (3, .int (iI (a3))), (4, .int (iI (a4))), (6, .int (iI (v6))), (7, .int (iI (v7))), (8, .int (iI (v8))), (9, .int (iI (v9))), (10, .int (iI (v10)))] → wX9_mix_L137 a1 a2 a3 a4 Q K55 v6 v7 v8 v9 v10 u0 u1 sL → W p l e (headSpec wsX9_mix ({ frames := 3, cells := 0, slots := 0, locals := 66 } : Room)).room s m (List.toArray [.ref (ea E 21), .int (iI (a1)), .int (iI (a2)), .int (iI (a3)), .int (iI (a4))]) below meth c H locs 0 0 (MQ below (Qi E (sz σ) σ Q) (List.toArray [.ref (ea E 21), .int (iI (a1)), .int (iI (a2)), .int (iI (a3)), .int (iI (a4))]) s 0 0 (Av E)) (F0 m 137 ls [.int (iI (u0)), .int (iI (u1))]) := by
    intro K55 hK55 v6 v7 v8 v9 v10 u0 u1 sL H locs ls hg hm hl h
    rw [wX9_mix_L137] at h
    refine q_iadd hx hb dX9_mix_137 ?_
    refine lv_istore (i := 5) (lv' := [(5, .int (iI ((u1 + u0)))), (0, .ref (ea E 21)), (1, .int (iI (a1))), (2, .int (iI (a2))), (3, .int (iI (a3))), (4, .int (iI (a4))), (6, .int (iI (v6))), (7, .int (iI (v7))), (8, .int (iI (v8))), (9, .int (iI (v9))), (10, .int (iI (v10)))]) hx hb dX9_mix_138 hl (by decide) rfl (fun ls hl => ?_)
    refine lv_iload hx hb dX9_mix_140 (lv_at hl 6 rfl) ?_
    refine lv_iload hx hb dX9_mix_142 (lv_at hl 10 rfl) ?_
    refine q_ldc (z := (-2000000001)) hx hb hown (hts (.constant RX9 120 (-2000000001)) (List.mem_cons_of_mem _ (List.mem_append_left _ (List.mem_append_left _ (List.mem_of_getElem? (i := 2) rfl))))) (by decide) dX9_mix_144 ?_
    obtain ⟨hR63, h⟩ := h
    refine j_ne (tgt := 153) hx hb dX9_mix_146 (by decide) hR63 (by decide) (fun c64 => ?_) (fun c64 => ?_)
    · have h := h.1 c64
      refine lv_iconst (v := iI 1) hx hb dX9_mix_153 (by decide) ?_
      exact J154 _ hK55 ((u1 + u0)) (v7) (v8) (v9) (v10) (1) (v6) (sL) _ _ _ hg hm (lv_sub hl [1, 2, 3, 4, 5, 0, 7, 8, 9, 10] rfl) h
    · have h := h.2 c64
      refine lv_iconst (v := iI 0) hx hb dX9_mix_149 (by decide) ?_
      refine lv_goto (tgt := 154) hx hb dX9_mix_150 (by decide) ?_
      exact J154 _ hK55 ((u1 + u0)) (v7) (v8) (v9) (v10) (0) (v6) (sL) _ _ _ hg hm (lv_sub hl [1, 2, 3, 4, 5, 0, 7, 8, 9, 10] rfl) h
  have J121 : ∀ (K55 : Int → Int → Int → Int → SS → Prop) (hK55 : ∀ (v5 : Int) (v6 : Int) (v7 : Int) (v8 : Int) (sL : SS) (H : Heap) (locs : List Loc) (ls : Array Slot), GS E sL s H locs → Mo (sz σ) σ sL → lv_has ls 12 [(0, .ref (ea E 21)), (1, .int (iI (a1))), (2, .int (iI (a2))), (3, .int (iI (a3))), (4, .int (iI (a4))), (5, .int (iI (v5))), (6, .int (iI (v6))), (7, .int (iI (v7))), (8, .int (iI (v8)))] → K55 v5 v6 v7 v8 sL → W p l e (headSpec wsX9_mix ({ frames := 3, cells := 0, slots := 0, locals := 66 } : Room)).room s m (List.toArray [.ref (ea E 21), .int (iI (a1)), .int (iI (a2)), .int (iI (a3)), .int (iI (a4))]) below meth c H locs 0 0 (MQ below (Qi E (sz σ) σ Q) (List.toArray [.ref (ea E 21), .int (iI (a1)), .int (iI (a2)), .int (iI (a3)), .int (iI (a4))]) s 0 0 (Av E)) (F0 m 55 ls [])), ∀ (v5 : Int) (v6 : Int) (v7 : Int) (v8 : Int) (v9 : Int) (u0 : Int) (sL : SS) (H : Heap) (locs : List Loc) (ls : Array Slot), GS E sL s H locs → Mo (sz σ) σ sL → lv_has ls 12 [(0, .ref (ea E 21)), (1, .int (iI (a1))), (2, .int (iI (a2))), (3, .int (iI (a3))), (4, .int (iI (a4))), (5, .int (iI (v5))), (6, .int (iI (v6))), (7, .int (iI (v7))), (8, .int (iI (v8))), (9, .int (iI (v9)))] → wX9_mix_L121 a1 a2 a3 a4 Q K55 v5 v6 v7 v8 v9 u0 sL → W p l e (headSpec wsX9_mix ({ frames := 3, cells := 0, slots := 0, locals := 66 } : Room)).room s m (List.toArray [.ref (ea E 21), .int (iI (a1)), .int (iI (a2)), .int (iI (a3)), .int (iI (a4))]) below meth c H locs 0 0 (MQ below (Qi E (sz σ) σ Q) (List.toArray [.ref (ea E 21), .int (iI (a1)), .int (iI (a2)), .int (iI (a3)), .int (iI (a4))]) s 0 0 (Av E)) (F0 m 121 ls [.int (iI (u0))]) := by
    intro K55 hK55 v5 v6 v7 v8 v9 u0 sL H locs ls hg hm hl h
    rw [wX9_mix_L121] at h
    refine lv_istore (i := 10) (lv' := [(10, .int (iI (u0))), (0, .ref (ea E 21)), (1, .int (iI (a1))), (2, .int (iI (a2))), (3, .int (iI (a3))), (4, .int (iI (a4))), (5, .int (iI (v5))), (6, .int (iI (v6))), (7, .int (iI (v7))), (8, .int (iI (v8))), (9, .int (iI (v9)))]) hx hb dX9_mix_121 hl (by decide) rfl (fun ls hl => ?_)
    refine lv_iload hx hb dX9_mix_123 (lv_at hl 6 rfl) ?_
    refine lv_iload hx hb dX9_mix_125 (lv_at hl 10 rfl) ?_
    refine q_ldc (z := (-2000000001)) hx hb hown (hts (.constant RX9 120 (-2000000001)) (List.mem_cons_of_mem _ (List.mem_append_left _ (List.mem_append_left _ (List.mem_of_getElem? (i := 2) rfl))))) (by decide) dX9_mix_127 ?_
    obtain ⟨hR61, h⟩ := h
    refine j_ne (tgt := 136) hx hb dX9_mix_129 (by decide) hR61 (by decide) (fun c62 => ?_) (fun c62 => ?_)
    · have h := h.1 c62
      refine lv_iconst (v := iI 1) hx hb dX9_mix_136 (by decide) ?_
      exact J137 _ hK55 (v6) (v7) (v8) (v9) (u0) (1) (v5) (sL) _ _ _ hg hm (lv_sub hl [1, 2, 3, 4, 5, 7, 8, 9, 10, 0] rfl) h
    · have h := h.2 c62
      refine lv_iconst (v := iI 0) hx hb dX9_mix_132 (by decide) ?_
      refine lv_goto (tgt := 137) hx hb dX9_mix_133 (by decide) ?_
      exact J137 _ hK55 (v6) (v7) (v8) (v9) (u0) (0) (v5) (sL) _ _ _ hg hm (lv_sub hl [1, 2, 3, 4, 5, 7, 8, 9, 10, 0] rfl) h
  have J198 : ∀ (v7 : Int) (sL : SS) (H : Heap) (locs : List Loc) (ls : Array Slot), GS E sL s H locs → Mo (sz σ) σ sL → lv_has ls 12 [(0, .ref (ea E 21)), (4, .int (iI (a4))), (7, .int (iI (v7)))] → wX9_mix_L198 a1 a2 a3 a4 Q  v7 sL → W p l e (headSpec wsX9_mix ({ frames := 3, cells := 0, slots := 0, locals := 66 } : Room)).room s m (List.toArray [.ref (ea E 21), .int (iI (a1)), .int (iI (a2)), .int (iI (a3)), .int (iI (a4))]) below meth c H locs 0 0 (MQ below (Qi E (sz σ) σ Q) (List.toArray [.ref (ea E 21), .int (iI (a1)), .int (iI (a2)), .int (iI (a3)), .int (iI (a4))]) s 0 0 (Av E)) (F0 m 198 ls []) := by
    intro v7 sL H locs ls hg hm hl h
    rw [wX9_mix_L198] at h
    refine lv_iload hx hb dX9_mix_198 (lv_at hl 2 rfl) ?_
    refine lv_sipush (v := iI 200) hx hb dX9_mix_200 (by decide) ?_
    obtain ⟨hR41, h⟩ := h
    refine j_le (tgt := 213) hx hb dX9_mix_203 (by decide) hR41 (by decide) (fun c42 => ?_) (fun c42 => ?_)
    · have h := h.1 c42
      refine lv_aload_n hx hb dX9_mix_213 rfl (lv_at hl 0 rfl) ?_
      refine call_v (run_V (a := ea E 21) (As := []) (rest := []) ⟨hx, hb, hml, hown, hts⟩ (ctX9_keeps l E  sL _  h) (cwV 0 hts gX9_mix_X9_keeps rfl rfl rfl ⟨rfl, hdX9_keeps⟩ ⟨Nat.le_of_ble_eq_true rfl, Nat.le_of_ble_eq_true rfl⟩) hK hN hg (recv_x (ci := 9) (C := RX9) (T := TX9) (N := 27) hg hK (by decide) rfl (by decide) rfl) rfl hl.1 rfl (cat_sum _ (by simp)) dX9_mix_214 ⟨Nat.le_refl 0, Nat.le_refl 0⟩) hg (fun s43 H locs hm2 h hg => ?_)
      have hm := hm.tn hm2
      refine lv_aload_n hx hb dX9_mix_217 rfl (lv_at hl 0 rfl) ?_
      refine lv_iload hx hb dX9_mix_218 (lv_at hl 1 rfl) ?_
      refine lv_iload hx hb dX9_mix_220 (lv_at hl 2 rfl) ?_
      refine call_v (run_V (a := ea E 21) (As := [.int (iI (a4)), .int (iI (v7))]) (rest := []) ⟨hx, hb, hml, hown, hts⟩ (ctX9_becomes l E a4 v7 s43 _ ha4 hR41 h) (cwV 2 hts gX9_mix_X9_becomes rfl rfl rfl ⟨rfl, hdX9_becomes⟩ ⟨Nat.le_of_ble_eq_true rfl, Nat.le_of_ble_eq_true rfl⟩) hK hN hg (recv_x (ci := 9) (C := RX9) (T := TX9) (N := 27) hg hK (by decide) rfl (by decide) rfl) rfl hl.1 rfl (cat_sum _ (by simp)) dX9_mix_222 ⟨Nat.le_refl 0, Nat.le_refl 0⟩) hg (fun s46 H locs hm2 h hg => ?_)
      have hm := hm.tn hm2
      refine lv_iload hx hb dX9_mix_225 (lv_at hl 2 rfl) ?_
      exact ret_i hx hb hr hlocks hg hR41 hm h dX9_mix_227
    · have h := h.2 c42
      refine lv_aload_n hx hb dX9_mix_206 rfl (lv_at hl 0 rfl) ?_
      refine q_ldc (z := (-2000000004)) hx hb hown (hts (.constant RX9 113 (-2000000004)) (List.mem_cons_of_mem _ (List.mem_append_left _ (List.mem_append_left _ (List.mem_of_getElem? (i := 4) rfl))))) (by decide) dX9_mix_207 ?_
      refine call_i (run_V (a := ea E 21) (As := [.int (iI ((-2000000004)))]) (rest := []) ⟨hx, hb, hml, hown, hts⟩ (ctX9_refuses l E (-2000000004) sL _ (by decide) h) (cwV 1 hts gX9_mix_X9_refuses rfl rfl rfl ⟨rfl, hdX9_refuses⟩ ⟨Nat.le_of_ble_eq_true rfl, Nat.le_of_ble_eq_true rfl⟩) hK hN hg (recv_x (ci := 9) (C := RX9) (T := TX9) (N := 27) hg hK (by decide) rfl (by decide) rfl) rfl hl.1 rfl (cat_sum _ (by simp)) dX9_mix_209 ⟨Nat.le_refl 0, Nat.le_refl 0⟩) hg (fun r50 s49 H locs hz51 hm2 h hg => ?_)
      have hm := hm.tn hm2
      exact ret_i hx hb hr hlocks hg hz51 hm h dX9_mix_212
  have J95 : ∀ (K55 : Int → Int → Int → Int → SS → Prop) (hK55 : ∀ (v5 : Int) (v6 : Int) (v7 : Int) (v8 : Int) (sL : SS) (H : Heap) (locs : List Loc) (ls : Array Slot), GS E sL s H locs → Mo (sz σ) σ sL → lv_has ls 12 [(0, .ref (ea E 21)), (1, .int (iI (a1))), (2, .int (iI (a2))), (3, .int (iI (a3))), (4, .int (iI (a4))), (5, .int (iI (v5))), (6, .int (iI (v6))), (7, .int (iI (v7))), (8, .int (iI (v8)))] → K55 v5 v6 v7 v8 sL → W p l e (headSpec wsX9_mix ({ frames := 3, cells := 0, slots := 0, locals := 66 } : Room)).room s m (List.toArray [.ref (ea E 21), .int (iI (a1)), .int (iI (a2)), .int (iI (a3)), .int (iI (a4))]) below meth c H locs 0 0 (MQ below (Qi E (sz σ) σ Q) (List.toArray [.ref (ea E 21), .int (iI (a1)), .int (iI (a2)), .int (iI (a3)), .int (iI (a4))]) s 0 0 (Av E)) (F0 m 55 ls [])), ∀ (v5 : Int) (v6 : Int) (v7 : Int) (v8 : Int) (u0 : Int) (sL : SS) (H : Heap) (locs : List Loc) (ls : Array Slot), GS E sL s H locs → Mo (sz σ) σ sL → lv_has ls 12 [(0, .ref (ea E 21)), (1, .int (iI (a1))), (2, .int (iI (a2))), (3, .int (iI (a3))), (4, .int (iI (a4))), (5, .int (iI (v5))), (6, .int (iI (v6))), (7, .int (iI (v7))), (8, .int (iI (v8)))] → wX9_mix_L95 a1 a2 a3 a4 Q K55 v5 v6 v7 v8 u0 sL → W p l e (headSpec wsX9_mix ({ frames := 3, cells := 0, slots := 0, locals := 66 } : Room)).room s m (List.toArray [.ref (ea E 21), .int (iI (a1)), .int (iI (a2)), .int (iI (a3)), .int (iI (a4))]) below meth c H locs 0 0 (MQ below (Qi E (sz σ) σ Q) (List.toArray [.ref (ea E 21), .int (iI (a1)), .int (iI (a2)), .int (iI (a3)), .int (iI (a4))]) s 0 0 (Av E)) (F0 m 95 ls [.int (iI (u0))]) := by
    intro K55 hK55 v5 v6 v7 v8 u0 sL H locs ls hg hm hl h
    rw [wX9_mix_L95] at h
    refine lv_istore (i := 9) (lv' := [(9, .int (iI (u0))), (0, .ref (ea E 21)), (1, .int (iI (a1))), (2, .int (iI (a2))), (3, .int (iI (a3))), (4, .int (iI (a4))), (5, .int (iI (v5))), (6, .int (iI (v6))), (7, .int (iI (v7))), (8, .int (iI (v8)))]) hx hb dX9_mix_95 hl (by decide) rfl (fun ls hl => ?_)
    refine lv_aload_n hx hb dX9_mix_97 rfl (lv_at hl 1 rfl) ?_
    refine lv_iload_n hx hb dX9_mix_98 rfl (lv_at hl 4 rfl) ?_
    refine lv_iload hx hb dX9_mix_99 (lv_at hl 7 rfl) ?_
    refine lv_iload hx hb dX9_mix_101 (lv_at hl 9 rfl) ?_
    obtain ⟨hR52, hR53, h⟩ := h
    refine call_z (run_V (a := ea E 21) (As := [.int (iI (a3)), .int (iI (v6)), .int (iI (v8))]) (rest := []) ⟨hx, hb, hml, hown, hts⟩ (ctX9_isThere l E a3 v6 v8 sL _ ha3 hR52 hR53 h) (cwV 3 hts gX9_mix_X9_isThere rfl rfl rfl ⟨rfl, hdX9_isThere⟩ ⟨Nat.le_of_ble_eq_true rfl, Nat.le_of_ble_eq_true rfl⟩) hK hN hg (recv_x (ci := 9) (C := RX9) (T := TX9) (N := 27) hg hK (by decide) rfl (by decide) rfl) rfl hl.1 rfl (cat_sum _ (by simp)) dX9_mix_103 ⟨Nat.le_refl 0, Nat.le_refl 0⟩) hg (fun r55 s54 H locs hz56 hm2 h hg => ?_)
    have hm := hm.tn hm2
    refine k_eq (tgt := 119) hx hb dX9_mix_106 (by decide) (z_R hz56) (fun c57 => ?_) (fun c57 => ?_)
    · have h := h.1 c57
      refine q_ldc (z := (-2000000001)) hx hb hown (hts (.constant RX9 120 (-2000000001)) (List.mem_cons_of_mem _ (List.mem_append_left _ (List.mem_append_left _ (List.mem_of_getElem? (i := 2) rfl))))) (by decide) dX9_mix_119 ?_
      exact J121 _ hK55 (v5) (v6) (v7) (v8) (u0) ((-2000000001)) (s54) _ _ _ hg hm (lv_sub hl [1, 2, 3, 4, 5, 6, 7, 8, 9, 0] rfl) h
    · have h := h.2 c57
      refine lv_aload_n hx hb dX9_mix_109 rfl (lv_at hl 1 rfl) ?_
      refine lv_iload_n hx hb dX9_mix_110 rfl (lv_at hl 4 rfl) ?_
      refine lv_iload hx hb dX9_mix_111 (lv_at hl 7 rfl) ?_
      refine call_i (run_V (a := ea E 21) (As := [.int (iI (a3)), .int (iI (v6))]) (rest := []) ⟨hx, hb, hml, hown, hts⟩ (ctX9_valueAt l E a3 v6 s54 _ ha3 hR52 h) (cwV 2 hts gX9_mix_X9_valueAt rfl rfl rfl ⟨rfl, hdX9_valueAt⟩ ⟨Nat.le_of_ble_eq_true rfl, Nat.le_of_ble_eq_true rfl⟩) hK hN hg (recv_x (ci := 9) (C := RX9) (T := TX9) (N := 27) hg hK (by decide) rfl (by decide) rfl) rfl hl.1 rfl (cat_sum _ (by simp)) dX9_mix_113 ⟨Nat.le_refl 0, Nat.le_refl 0⟩) hg (fun r59 s58 H locs hz60 hm2 h hg => ?_)
      have hm := hm.tn hm2
      refine lv_goto (tgt := 121) hx hb dX9_mix_116 (by decide) ?_
      exact J121 _ hK55 (v5) (v6) (v7) (v8) (u0) (r59) (s58) _ _ _ hg hm (lv_sub hl [1, 2, 3, 4, 5, 6, 7, 8, 9, 0] rfl) h
  have J55 : ∀ (k : Nat), ∀ (v5 : Int) (v6 : Int) (v7 : Int) (v8 : Int) (sL : SS) (H : Heap) (locs : List Loc) (ls : Array Slot), GS E sL s H locs → Mo (sz σ) σ sL → lv_has ls 12 [(0, .ref (ea E 21)), (1, .int (iI (a1))), (2, .int (iI (a2))), (3, .int (iI (a3))), (4, .int (iI (a4))), (5, .int (iI (v5))), (6, .int (iI (v6))), (7, .int (iI (v7))), (8, .int (iI (v8)))] → wX9_mix_L55 a1 a2 a3 a4 Q  k v5 v6 v7 v8 sL → W p l e (headSpec wsX9_mix ({ frames := 3, cells := 0, slots := 0, locals := 66 } : Room)).room s m (List.toArray [.ref (ea E 21), .int (iI (a1)), .int (iI (a2)), .int (iI (a3)), .int (iI (a4))]) below meth c H locs 0 0 (MQ below (Qi E (sz σ) σ Q) (List.toArray [.ref (ea E 21), .int (iI (a1)), .int (iI (a2)), .int (iI (a3)), .int (iI (a4))]) s 0 0 (Av E)) (F0 m 55 ls []) := by
    intro k
    induction k with
    | zero => intro v5 v6 v7 v8 sL H locs ls hg hm hl h; exact False.elim h
    | succ k ih =>
      intro v5 v6 v7 v8 sL H locs ls hg hm hl h
      rw [wX9_mix_L55] at h
      refine lv_iload hx hb dX9_mix_55 (lv_at hl 8 rfl) ?_
      refine lv_sipush (v := iI 500) hx hb dX9_mix_57 (by decide) ?_
      obtain ⟨hR29, h⟩ := h
      refine j_gt (tgt := 198) hx hb dX9_mix_60 (by decide) hR29 (by decide) (fun c30 => ?_) (fun c30 => ?_)
      · have h := h.1 c30
        exact J198  (v7) (sL) _ _ _ hg hm (lv_sub hl [0, 4, 7] rfl) h
      · have h := h.2 c30
        refine lv_iload hx hb dX9_mix_63 (lv_at hl 7 rfl) ?_
        refine lv_sipush (v := iI 200) hx hb dX9_mix_65 (by decide) ?_
        obtain ⟨hR31, h⟩ := h
        refine j_gt (tgt := 198) hx hb dX9_mix_68 (by decide) hR31 (by decide) (fun c32 => ?_) (fun c32 => ?_)
        · have h := h.1 c32
          exact J198  (v7) (sL) _ _ _ hg hm (lv_sub hl [0, 4, 7] rfl) h
        · have h := h.2 c32
          refine lv_aload_n hx hb dX9_mix_71 rfl (lv_at hl 0 rfl) ?_
          refine lv_iload_n hx hb dX9_mix_72 rfl (lv_at hl 2 rfl) ?_
          refine lv_iload hx hb dX9_mix_73 (lv_at hl 5 rfl) ?_
          refine lv_iload hx hb dX9_mix_75 (lv_at hl 8 rfl) ?_
          obtain ⟨hR33, h⟩ := h
          refine call_z (run_V (a := ea E 21) (As := [.int (iI (a2)), .int (iI (v5)), .int (iI (v8))]) (rest := []) ⟨hx, hb, hml, hown, hts⟩ (ctX9_isThere l E a2 v5 v8 sL _ ha2 hR33 hR29 h) (cwV 3 hts gX9_mix_X9_isThere rfl rfl rfl ⟨rfl, hdX9_isThere⟩ ⟨Nat.le_of_ble_eq_true rfl, Nat.le_of_ble_eq_true rfl⟩) hK hN hg (recv_x (ci := 9) (C := RX9) (T := TX9) (N := 27) hg hK (by decide) rfl (by decide) rfl) rfl hl.1 rfl (cat_sum _ (by simp)) dX9_mix_77 ⟨Nat.le_refl 0, Nat.le_refl 0⟩) hg (fun r35 s34 H locs hz36 hm2 h hg => ?_)
          have hm := hm.tn hm2
          refine k_eq (tgt := 93) hx hb dX9_mix_80 (by decide) (z_R hz36) (fun c37 => ?_) (fun c37 => ?_)
          · have h := h.1 c37
            refine q_ldc (z := (-2000000001)) hx hb hown (hts (.constant RX9 120 (-2000000001)) (List.mem_cons_of_mem _ (List.mem_append_left _ (List.mem_append_left _ (List.mem_of_getElem? (i := 2) rfl))))) (by decide) dX9_mix_93 ?_
            exact J95 _ ih (v5) (v6) (v7) (v8) ((-2000000001)) (s34) _ _ _ hg hm (lv_sub hl [0, 1, 2, 3, 4, 5, 6, 7, 8] rfl) h
          · have h := h.2 c37
            refine lv_aload_n hx hb dX9_mix_83 rfl (lv_at hl 0 rfl) ?_
            refine lv_iload_n hx hb dX9_mix_84 rfl (lv_at hl 2 rfl) ?_
            refine lv_iload hx hb dX9_mix_85 (lv_at hl 5 rfl) ?_
            refine call_i (run_V (a := ea E 21) (As := [.int (iI (a2)), .int (iI (v5))]) (rest := []) ⟨hx, hb, hml, hown, hts⟩ (ctX9_valueAt l E a2 v5 s34 _ ha2 hR33 h) (cwV 2 hts gX9_mix_X9_valueAt rfl rfl rfl ⟨rfl, hdX9_valueAt⟩ ⟨Nat.le_of_ble_eq_true rfl, Nat.le_of_ble_eq_true rfl⟩) hK hN hg (recv_x (ci := 9) (C := RX9) (T := TX9) (N := 27) hg hK (by decide) rfl (by decide) rfl) rfl hl.1 rfl (cat_sum _ (by simp)) dX9_mix_87 ⟨Nat.le_refl 0, Nat.le_refl 0⟩) hg (fun r39 s38 H locs hz40 hm2 h hg => ?_)
            have hm := hm.tn hm2
            refine lv_goto (tgt := 95) hx hb dX9_mix_90 (by decide) ?_
            exact J95 _ ih (v5) (v6) (v7) (v8) (r39) (s38) _ _ _ hg hm (lv_sub hl [0, 1, 2, 3, 4, 5, 6, 7, 8] rfl) h
  refine lv_iload_n hx hb dX9_mix_0 rfl (lv_at hl 1 rfl) ?_
  refine q_i2l hx hb ha1 dX9_mix_1 ?_
  refine lv_lconst (v := lI 0) hx hb dX9_mix_2 (by decide) ?_
  refine q_ldc2 (z := 3) hx hb hown (hts (.constantLong RX9 153 (3)) (List.mem_cons_of_mem _ (List.mem_append_left _ (List.mem_append_left _ (List.mem_of_getElem? (i := 0) rfl))))) (by decide) dX9_mix_3 ?_
  refine call_z (run_S (As := [.long (lI (a1)), .long (lI (0)), .long (lI (3))]) (rest := []) ⟨hx, hb, hml, hown, hts⟩ (ctX9_in l E a1 0 3 σ _ (R64_of ha1) (by decide) (by decide) h) (va_cwS 3 hts gX9_mix_X9_in rfl rfl rfl hdX9_in ⟨Nat.le_of_ble_eq_true rfl, Nat.le_of_ble_eq_true rfl⟩) hK hN hg rfl hl.1 rfl (cat_sum _ (by simp)) dX9_mix_6 ⟨Nat.le_refl 0, Nat.le_refl 0⟩) hg (fun r2 s1 H locs hz3 hm2 h hg => ?_)
  have hm := hm.tn hm2
  refine k_eq (tgt := 34) hx hb dX9_mix_9 (by decide) (z_R hz3) (fun c4 => ?_) (fun c4 => ?_)
  · have h := h.1 c4
    refine lv_aload_n hx hb dX9_mix_34 rfl (lv_at hl 0 rfl) ?_
    refine q_ldc (z := (-2000000002)) hx hb hown (hts (.constant RX9 61 (-2000000002)) (List.mem_cons_of_mem _ (List.mem_append_left _ (List.mem_append_left _ (List.mem_of_getElem? (i := 1) rfl))))) (by decide) dX9_mix_35 ?_
    refine call_i (run_V (a := ea E 21) (As := [.int (iI ((-2000000002)))]) (rest := []) ⟨hx, hb, hml, hown, hts⟩ (ctX9_refuses l E (-2000000002) s1 _ (by decide) h) (cwV 1 hts gX9_mix_X9_refuses rfl rfl rfl ⟨rfl, hdX9_refuses⟩ ⟨Nat.le_of_ble_eq_true rfl, Nat.le_of_ble_eq_true rfl⟩) hK hN hg (recv_x (ci := 9) (C := RX9) (T := TX9) (N := 27) hg hK (by decide) rfl (by decide) rfl) rfl hl.1 rfl (cat_sum _ (by simp)) dX9_mix_37 ⟨Nat.le_refl 0, Nat.le_refl 0⟩) hg (fun r6 s5 H locs hz7 hm2 h hg => ?_)
    have hm := hm.tn hm2
    exact ret_i hx hb hr hlocks hg hz7 hm h dX9_mix_40
  · have h := h.2 c4
    refine lv_iload_n hx hb dX9_mix_12 rfl (lv_at hl 2 rfl) ?_
    refine call_z (run_S (As := [.int (iI (a2))]) (rest := []) ⟨hx, hb, hml, hown, hts⟩ (ctX9_isMap l E a2 s1 _ ha2 h) (va_cwS 1 hts gX9_mix_X9_isMap rfl rfl rfl hdX9_isMap ⟨Nat.le_of_ble_eq_true rfl, Nat.le_of_ble_eq_true rfl⟩) hK hN hg rfl hl.1 rfl (cat_sum _ (by simp)) dX9_mix_13 ⟨Nat.le_refl 0, Nat.le_refl 0⟩) hg (fun r9 s8 H locs hz10 hm2 h hg => ?_)
    have hm := hm.tn hm2
    refine k_eq (tgt := 34) hx hb dX9_mix_16 (by decide) (z_R hz10) (fun c11 => ?_) (fun c11 => ?_)
    · have h := h.1 c11
      refine lv_aload_n hx hb dX9_mix_34 rfl (lv_at hl 0 rfl) ?_
      refine q_ldc (z := (-2000000002)) hx hb hown (hts (.constant RX9 61 (-2000000002)) (List.mem_cons_of_mem _ (List.mem_append_left _ (List.mem_append_left _ (List.mem_of_getElem? (i := 1) rfl))))) (by decide) dX9_mix_35 ?_
      refine call_i (run_V (a := ea E 21) (As := [.int (iI ((-2000000002)))]) (rest := []) ⟨hx, hb, hml, hown, hts⟩ (ctX9_refuses l E (-2000000002) s8 _ (by decide) h) (cwV 1 hts gX9_mix_X9_refuses rfl rfl rfl ⟨rfl, hdX9_refuses⟩ ⟨Nat.le_of_ble_eq_true rfl, Nat.le_of_ble_eq_true rfl⟩) hK hN hg (recv_x (ci := 9) (C := RX9) (T := TX9) (N := 27) hg hK (by decide) rfl (by decide) rfl) rfl hl.1 rfl (cat_sum _ (by simp)) dX9_mix_37 ⟨Nat.le_refl 0, Nat.le_refl 0⟩) hg (fun r13 s12 H locs hz14 hm2 h hg => ?_)
      have hm := hm.tn hm2
      exact ret_i hx hb hr hlocks hg hz14 hm h dX9_mix_40
    · have h := h.2 c11
      refine lv_iload_n hx hb dX9_mix_19 rfl (lv_at hl 3 rfl) ?_
      refine call_z (run_S (As := [.int (iI (a3))]) (rest := []) ⟨hx, hb, hml, hown, hts⟩ (ctX9_isMap l E a3 s8 _ ha3 h) (va_cwS 1 hts gX9_mix_X9_isMap rfl rfl rfl hdX9_isMap ⟨Nat.le_of_ble_eq_true rfl, Nat.le_of_ble_eq_true rfl⟩) hK hN hg rfl hl.1 rfl (cat_sum _ (by simp)) dX9_mix_20 ⟨Nat.le_refl 0, Nat.le_refl 0⟩) hg (fun r16 s15 H locs hz17 hm2 h hg => ?_)
      have hm := hm.tn hm2
      refine k_eq (tgt := 34) hx hb dX9_mix_23 (by decide) (z_R hz17) (fun c18 => ?_) (fun c18 => ?_)
      · have h := h.1 c18
        refine lv_aload_n hx hb dX9_mix_34 rfl (lv_at hl 0 rfl) ?_
        refine q_ldc (z := (-2000000002)) hx hb hown (hts (.constant RX9 61 (-2000000002)) (List.mem_cons_of_mem _ (List.mem_append_left _ (List.mem_append_left _ (List.mem_of_getElem? (i := 1) rfl))))) (by decide) dX9_mix_35 ?_
        refine call_i (run_V (a := ea E 21) (As := [.int (iI ((-2000000002)))]) (rest := []) ⟨hx, hb, hml, hown, hts⟩ (ctX9_refuses l E (-2000000002) s15 _ (by decide) h) (cwV 1 hts gX9_mix_X9_refuses rfl rfl rfl ⟨rfl, hdX9_refuses⟩ ⟨Nat.le_of_ble_eq_true rfl, Nat.le_of_ble_eq_true rfl⟩) hK hN hg (recv_x (ci := 9) (C := RX9) (T := TX9) (N := 27) hg hK (by decide) rfl (by decide) rfl) rfl hl.1 rfl (cat_sum _ (by simp)) dX9_mix_37 ⟨Nat.le_refl 0, Nat.le_refl 0⟩) hg (fun r20 s19 H locs hz21 hm2 h hg => ?_)
        have hm := hm.tn hm2
        exact ret_i hx hb hr hlocks hg hz21 hm h dX9_mix_40
      · have h := h.2 c18
        refine lv_iload hx hb dX9_mix_26 (lv_at hl 4 rfl) ?_
        refine call_z (run_S (As := [.int (iI (a4))]) (rest := []) ⟨hx, hb, hml, hown, hts⟩ (ctX9_isMap l E a4 s15 _ ha4 h) (va_cwS 1 hts gX9_mix_X9_isMap rfl rfl rfl hdX9_isMap ⟨Nat.le_of_ble_eq_true rfl, Nat.le_of_ble_eq_true rfl⟩) hK hN hg rfl hl.1 rfl (cat_sum _ (by simp)) dX9_mix_28 ⟨Nat.le_refl 0, Nat.le_refl 0⟩) hg (fun r23 s22 H locs hz24 hm2 h hg => ?_)
        have hm := hm.tn hm2
        refine k_ne (tgt := 41) hx hb dX9_mix_31 (by decide) (z_R hz24) (fun c25 => ?_) (fun c25 => ?_)
        · have h := h.1 c25
          refine lv_iconst (v := iI 0) hx hb dX9_mix_41 (by decide) ?_
          refine lv_istore (i := 5) (lv' := [(5, .int (iI (0))), (0, .ref (ea E 21)), (1, .int (iI (a1))), (2, .int (iI (a2))), (3, .int (iI (a3))), (4, .int (iI (a4)))]) hx hb dX9_mix_42 hl (by decide) rfl (fun ls hl => ?_)
          refine lv_iconst (v := iI 0) hx hb dX9_mix_44 (by decide) ?_
          refine lv_istore (i := 6) (lv' := [(6, .int (iI (0))), (5, .int (iI (0))), (0, .ref (ea E 21)), (1, .int (iI (a1))), (2, .int (iI (a2))), (3, .int (iI (a3))), (4, .int (iI (a4)))]) hx hb dX9_mix_45 hl (by decide) rfl (fun ls hl => ?_)
          refine lv_iconst (v := iI 0) hx hb dX9_mix_47 (by decide) ?_
          refine lv_istore (i := 7) (lv' := [(7, .int (iI (0))), (6, .int (iI (0))), (5, .int (iI (0))), (0, .ref (ea E 21)), (1, .int (iI (a1))), (2, .int (iI (a2))), (3, .int (iI (a3))), (4, .int (iI (a4)))]) hx hb dX9_mix_48 hl (by decide) rfl (fun ls hl => ?_)
          refine lv_sipush (v := iI (-500)) hx hb dX9_mix_50 (by decide) ?_
          refine lv_istore (i := 8) (lv' := [(8, .int (iI ((-500)))), (7, .int (iI (0))), (6, .int (iI (0))), (5, .int (iI (0))), (0, .ref (ea E 21)), (1, .int (iI (a1))), (2, .int (iI (a2))), (3, .int (iI (a3))), (4, .int (iI (a4)))]) hx hb dX9_mix_53 hl (by decide) rfl (fun ls hl => ?_)
          obtain ⟨kk, h⟩ := h
          exact J55  kk (0) (0) (0) ((-500)) (s22) _ _ _ hg hm (lv_sub hl [4, 5, 6, 7, 8, 3, 2, 1, 0] rfl) h
        · have h := h.2 c25
          refine lv_aload_n hx hb dX9_mix_34 rfl (lv_at hl 0 rfl) ?_
          refine q_ldc (z := (-2000000002)) hx hb hown (hts (.constant RX9 61 (-2000000002)) (List.mem_cons_of_mem _ (List.mem_append_left _ (List.mem_append_left _ (List.mem_of_getElem? (i := 1) rfl))))) (by decide) dX9_mix_35 ?_
          refine call_i (run_V (a := ea E 21) (As := [.int (iI ((-2000000002)))]) (rest := []) ⟨hx, hb, hml, hown, hts⟩ (ctX9_refuses l E (-2000000002) s22 _ (by decide) h) (cwV 1 hts gX9_mix_X9_refuses rfl rfl rfl ⟨rfl, hdX9_refuses⟩ ⟨Nat.le_of_ble_eq_true rfl, Nat.le_of_ble_eq_true rfl⟩) hK hN hg (recv_x (ci := 9) (C := RX9) (T := TX9) (N := 27) hg hK (by decide) rfl (by decide) rfl) rfl hl.1 rfl (cat_sum _ (by simp)) dX9_mix_37 ⟨Nat.le_refl 0, Nat.le_refl 0⟩) hg (fun r27 s26 H locs hz28 hm2 h hg => ?_)
          have hm := hm.tn hm2
          exact ret_i hx hb hr hlocks hg hz28 hm h dX9_mix_40
theorem hdX9_fill : yX9_fill.cls ≠ "java/lang/invoke/MethodHandle" ∧ yX9_fill.cls ≠ "java/lang/invoke/VarHandle" ∧ (parseMethodDescriptor yX9_fill.desc).map (fun d => d.parameters.length) = some 4 := by decide +kernel
set_option maxRecDepth 100000 in
set_option maxHeartbeats 4000000 in
theorem ctX9_fill (l : Launch) (E : Ev) (a1 : Int) (a2 : Int) (a3 : Int) (a4 : Int) (σ : SS) (Q : Int → SS → Prop) (ha1 : R32 a1) (ha2 : R32 a2) (ha3 : R32 a3) (ha4 : R32 a4) (h : wX9_fill a1 a2 a3 a4 σ Q) : Met l yX9_fill wsX9_fill ({ frames := 2, cells := 0, slots := 0, locals := 45 } : Room) (Pc E σ [.ref (ea E 21), .int (iI (a1)), .int (iI (a2)), .int (iI (a3)), .int (iI (a4))]) (Qi E (sz σ) σ Q) 0 0 (Av E) := by
  rw [wX9_fill] at h
  refine Met.ofW (cc := cX9_fill) (maxL := 7) (ret := (some .int)) (by decide) rfl ?_
  intro p e s m args below meth c s₁ B hml hv
  obtain ⟨rfl, hH, hK, hN⟩ := hv
  have hx := B.exec
  have hb := B.bytes
  have hr := B.returns
  have hts := atoms_spec (ws := wsX9_fill) B.pre
  have hown : s.vm.findClass RX9 = some m.cls := findClass_of_methodNamed B.named
  have hlocks := B.notSynchronized
  have hg : GS E σ s s.heap [] := ⟨hH, va_S.rf⟩
  have hm : Mo (sz σ) σ σ := Mo.rf (Nat.le_refl _)
  have hl := ent (vs := [.ref (ea E 21), .int (iI (a1)), .int (iI (a2)), .int (iI (a3)), .int (iI (a4))]) (n := 7) (cats_x (cats_i (cats_i (cats_i (cats_i cats_nil))))) (Nat.le_of_ble_eq_true rfl)
  rw [lg_entry_eq]
  generalize (lg_sl ([.ref (ea E 21), .int (iI (a1)), .int (iI (a2)), .int (iI (a3)), .int (iI (a4))]) ++ List.replicate (7 - (lg_sl ([.ref (ea E 21), .int (iI (a1)), .int (iI (a2)), .int (iI (a3)), .int (iI (a4))])).length) Slot.unset).toArray = ls at hl ⊢
  have hl : lv_has ls 7 [(0, .ref (ea E 21)), (1, .int (iI (a1))), (2, .int (iI (a2))), (3, .int (iI (a3))), (4, .int (iI (a4)))] := hl
  have J78 : ∀ (k : Nat), ∀ (v5 : Int) (sL : SS) (H : Heap) (locs : List Loc) (ls : Array Slot), GS E sL s H locs → Mo (sz σ) σ sL → lv_has ls 7 [(0, .ref (ea E 21)), (1, .int (iI (a1))), (2, .int (iI (a2))), (3, .int (iI (a3))), (4, .int (iI (a4))), (5, .int (iI (v5)))] → wX9_fill_L78 a1 a2 a3 a4 Q  k v5 sL → W p l e (headSpec wsX9_fill ({ frames := 2, cells := 0, slots := 0, locals := 45 } : Room)).room s m (List.toArray [.ref (ea E 21), .int (iI (a1)), .int (iI (a2)), .int (iI (a3)), .int (iI (a4))]) below meth c H locs 0 0 (MQ below (Qi E (sz σ) σ Q) (List.toArray [.ref (ea E 21), .int (iI (a1)), .int (iI (a2)), .int (iI (a3)), .int (iI (a4))]) s 0 0 (Av E)) (F0 m 78 ls []) := by
    intro k
    induction k with
    | zero => intro v5 sL H locs ls hg hm hl h; exact False.elim h
    | succ k ih =>
      intro v5 sL H locs ls hg hm hl h
      rw [wX9_fill_L78] at h
      refine lv_iload hx hb dX9_fill_78 (lv_at hl 5 rfl) ?_
      refine lv_iload_n hx hb dX9_fill_80 rfl (lv_at hl 3 rfl) ?_
      obtain ⟨hR41, h⟩ := h
      refine j_ge (tgt := 126) hx hb dX9_fill_81 (by decide) hR41 ha3 (fun c42 => ?_) (fun c42 => ?_)
      · have h := h.1 c42
        refine lv_aload_n hx hb dX9_fill_126 rfl (lv_at hl 0 rfl) ?_
        refine q_getx (ci := 9) (C := RX9) (T := TX9) (N := 27) (j := 23) hx hb hts (fun _ h9 => List.mem_cons_of_mem _ (List.mem_append_right _ h9)) hown hK hg 21 (by decide) rfl rfl (by decide) rfl 1 (by decide) (hts (.fieldLink RX9 13 "JoinMapsModel" "sizes" "[I") (List.mem_cons_of_mem _ (List.mem_append_left _ (List.mem_append_left _ (List.mem_of_getElem? (i := 5) rfl))))) rfl rfl rfl dX9_fill_127 ?_
        refine lv_iload_n hx hb dX9_fill_130 rfl (lv_at hl 1 rfl) ?_
        refine lv_iload_n hx hb dX9_fill_131 rfl (lv_at hl 3 rfl) ?_
        obtain ⟨hP43, hP44, h⟩ := h
        refine q_iast (N := 6) hx hb hK hg 23 (by decide) rfl rfl hP43 hP44 (by decide) ha3 dX9_fill_132 (fun H locs hg => ?_)
        refine lv_iload_n hx hb dX9_fill_133 rfl (lv_at hl 3 rfl) ?_
        exact ret_i hx hb hr hlocks hg ha3 hm h dX9_fill_134
      · have h := h.2 c42
        refine lv_iload_n hx hb dX9_fill_84 rfl (lv_at hl 2 rfl) ?_
        refine lv_iload hx hb dX9_fill_85 (lv_at hl 5 rfl) ?_
        refine lv_iload hx hb dX9_fill_87 (lv_at hl 4 rfl) ?_
        refine q_imul hx hb dX9_fill_89 ?_
        refine q_iadd hx hb dX9_fill_90 ?_
        refine lv_istore (i := 6) (lv' := [(6, .int (iI ((a2 + (v5 * a4))))), (0, .ref (ea E 21)), (1, .int (iI (a1))), (2, .int (iI (a2))), (3, .int (iI (a3))), (4, .int (iI (a4))), (5, .int (iI (v5)))]) hx hb dX9_fill_91 hl (by decide) rfl (fun ls hl => ?_)
        refine lv_aload_n hx hb dX9_fill_93 rfl (lv_at hl 1 rfl) ?_
        refine q_getx (ci := 9) (C := RX9) (T := TX9) (N := 27) (j := 22) hx hb hts (fun _ h9 => List.mem_cons_of_mem _ (List.mem_append_right _ h9)) hown hK hg 21 (by decide) rfl rfl (by decide) rfl 0 (by decide) (hts (.fieldLink RX9 7 "JoinMapsModel" "rows" "[I") (List.mem_cons_of_mem _ (List.mem_append_left _ (List.mem_append_left _ (List.mem_of_getElem? (i := 4) rfl))))) rfl rfl rfl dX9_fill_94 ?_
        refine lv_sipush (v := iI 200) hx hb dX9_fill_97 (by decide) ?_
        refine lv_iload_n hx hb dX9_fill_100 rfl (lv_at hl 2 rfl) ?_
        refine q_imul hx hb dX9_fill_101 ?_
        refine lv_iload hx hb dX9_fill_102 (lv_at hl 6 rfl) ?_
        refine q_iadd hx hb dX9_fill_104 ?_
        refine lv_iload hx hb dX9_fill_105 (lv_at hl 0 rfl) ?_
        refine lv_iload hx hb dX9_fill_107 (lv_at hl 0 rfl) ?_
        obtain ⟨hR45, h⟩ := h
        refine q_i2l hx hb hR45 dX9_fill_109 ?_
        refine lv_iload_n hx hb dX9_fill_110 rfl (lv_at hl 3 rfl) ?_
        refine q_i2l hx hb ha2 dX9_fill_111 ?_
        refine q_lmul hx hb dX9_fill_112 ?_
        obtain ⟨hR46, h⟩ := h
        refine call_i (run_S (As := [.long (lI (((a2 + (v5 * a4)) * a2)))]) (rest := [.int (iI ((a2 + (v5 * a4)))), .int (iI (((200 * a1) + v5))), .ref (ea E 22)]) ⟨hx, hb, hml, hown, hts⟩ (ctX9_held l E ((a2 + (v5 * a4)) * a2) sL _ hR46 h) (va_cwS 1 hts gX9_fill_X9_held rfl rfl rfl hdX9_held ⟨Nat.le_of_ble_eq_true rfl, Nat.le_of_ble_eq_true rfl⟩) hK hN hg rfl hl.1 rfl (cat_sum _ (by simp)) dX9_fill_113 ⟨Nat.le_refl 0, Nat.le_refl 0⟩) hg (fun r48 s47 H locs hz49 hm2 h hg => ?_)
        have hm := hm.tn hm2
        refine call_i (run_S (As := [.int (iI ((a2 + (v5 * a4)))), .int (iI (r48))]) (rest := [.int (iI (((200 * a1) + v5))), .ref (ea E 22)]) ⟨hx, hb, hml, hown, hts⟩ (ctX9_entry l E (a2 + (v5 * a4)) r48 s47 _ hR45 hz49 h) (va_cwS 2 hts gX9_fill_X9_entry rfl rfl rfl hdX9_entry ⟨Nat.le_of_ble_eq_true rfl, Nat.le_of_ble_eq_true rfl⟩) hK hN hg rfl hl.1 rfl (cat_sum _ (by simp)) dX9_fill_116 ⟨Nat.le_refl 0, Nat.le_refl 0⟩) hg (fun r51 s50 H locs hz52 hm2 h hg => ?_)
        have hm := hm.tn hm2
        obtain ⟨hP53, hP54, h⟩ := h
        refine q_iast (N := 1200) hx hb hK hg 22 (by decide) rfl rfl hP53 hP54 (by decide) hz52 dX9_fill_119 (fun H locs hg => ?_)
        refine lv_iinc (v := iI (v5 + 1)) (lv' := [(5, .int (iI (v5 + 1))), (6, .int (iI ((a2 + (v5 * a4))))), (0, .ref (ea E 21)), (1, .int (iI (a1))), (2, .int (iI (a2))), (3, .int (iI (a3))), (4, .int (iI (a4)))]) hx hb dX9_fill_120 hl (k := 6) rfl (iI_add _ _) (by decide) rfl (fun ls hl => ?_)
        refine lv_goto (tgt := 78) hx hb dX9_fill_123 (by decide) ?_
        exact ih (v5 + 1) (un s50 22 (((200 * a1) + v5) : Int).toNat (r51)) _ _ _ hg hm (lv_sub hl [2, 3, 4, 5, 6, 0] rfl) h
  refine lv_iload_n hx hb dX9_fill_0 rfl (lv_at hl 1 rfl) ?_
  refine call_z (run_S (As := [.int (iI (a1))]) (rest := []) ⟨hx, hb, hml, hown, hts⟩ (ctX9_isMap l E a1 σ _ ha1 h) (va_cwS 1 hts gX9_fill_X9_isMap rfl rfl rfl hdX9_isMap ⟨Nat.le_of_ble_eq_true rfl, Nat.le_of_ble_eq_true rfl⟩) hK hN hg rfl hl.1 rfl (cat_sum _ (by simp)) dX9_fill_1 ⟨Nat.le_refl 0, Nat.le_refl 0⟩) hg (fun r2 s1 H locs hz3 hm2 h hg => ?_)
  have hm := hm.tn hm2
  refine k_eq (tgt := 39) hx hb dX9_fill_4 (by decide) (z_R hz3) (fun c4 => ?_) (fun c4 => ?_)
  · have h := h.1 c4
    refine lv_aload_n hx hb dX9_fill_39 rfl (lv_at hl 0 rfl) ?_
    refine q_ldc (z := (-2000000002)) hx hb hown (hts (.constant RX9 61 (-2000000002)) (List.mem_cons_of_mem _ (List.mem_append_left _ (List.mem_append_left _ (List.mem_of_getElem? (i := 2) rfl))))) (by decide) dX9_fill_40 ?_
    refine call_i (run_V (a := ea E 21) (As := [.int (iI ((-2000000002)))]) (rest := []) ⟨hx, hb, hml, hown, hts⟩ (ctX9_refuses l E (-2000000002) s1 _ (by decide) h) (cwV 1 hts gX9_fill_X9_refuses rfl rfl rfl ⟨rfl, hdX9_refuses⟩ ⟨Nat.le_of_ble_eq_true rfl, Nat.le_of_ble_eq_true rfl⟩) hK hN hg (recv_x (ci := 9) (C := RX9) (T := TX9) (N := 27) hg hK (by decide) rfl (by decide) rfl) rfl hl.1 rfl (cat_sum _ (by simp)) dX9_fill_42 ⟨Nat.le_refl 0, Nat.le_refl 0⟩) hg (fun r6 s5 H locs hz7 hm2 h hg => ?_)
    have hm := hm.tn hm2
    exact ret_i hx hb hr hlocks hg hz7 hm h dX9_fill_45
  · have h := h.2 c4
    refine lv_iload_n hx hb dX9_fill_7 rfl (lv_at hl 2 rfl) ?_
    refine call_z (run_S (As := [.int (iI (a2))]) (rest := []) ⟨hx, hb, hml, hown, hts⟩ (ctX9_isKey l E a2 s1 _ ha2 h) (va_cwS 1 hts gX9_fill_X9_isKey rfl rfl rfl hdX9_isKey ⟨Nat.le_of_ble_eq_true rfl, Nat.le_of_ble_eq_true rfl⟩) hK hN hg rfl hl.1 rfl (cat_sum _ (by simp)) dX9_fill_8 ⟨Nat.le_refl 0, Nat.le_refl 0⟩) hg (fun r9 s8 H locs hz10 hm2 h hg => ?_)
    have hm := hm.tn hm2
    refine k_eq (tgt := 39) hx hb dX9_fill_11 (by decide) (z_R hz10) (fun c11 => ?_) (fun c11 => ?_)
    · have h := h.1 c11
      refine lv_aload_n hx hb dX9_fill_39 rfl (lv_at hl 0 rfl) ?_
      refine q_ldc (z := (-2000000002)) hx hb hown (hts (.constant RX9 61 (-2000000002)) (List.mem_cons_of_mem _ (List.mem_append_left _ (List.mem_append_left _ (List.mem_of_getElem? (i := 2) rfl))))) (by decide) dX9_fill_40 ?_
      refine call_i (run_V (a := ea E 21) (As := [.int (iI ((-2000000002)))]) (rest := []) ⟨hx, hb, hml, hown, hts⟩ (ctX9_refuses l E (-2000000002) s8 _ (by decide) h) (cwV 1 hts gX9_fill_X9_refuses rfl rfl rfl ⟨rfl, hdX9_refuses⟩ ⟨Nat.le_of_ble_eq_true rfl, Nat.le_of_ble_eq_true rfl⟩) hK hN hg (recv_x (ci := 9) (C := RX9) (T := TX9) (N := 27) hg hK (by decide) rfl (by decide) rfl) rfl hl.1 rfl (cat_sum _ (by simp)) dX9_fill_42 ⟨Nat.le_refl 0, Nat.le_refl 0⟩) hg (fun r13 s12 H locs hz14 hm2 h hg => ?_)
      have hm := hm.tn hm2
      exact ret_i hx hb hr hlocks hg hz14 hm h dX9_fill_45
    · have h := h.2 c11
      refine lv_iload_n hx hb dX9_fill_14 rfl (lv_at hl 3 rfl) ?_
      refine q_i2l hx hb ha3 dX9_fill_15 ?_
      refine lv_lconst (v := lI 0) hx hb dX9_fill_16 (by decide) ?_
      refine q_ldc2 (z := 200) hx hb hown (hts (.constantLong RX9 163 (200)) (List.mem_cons_of_mem _ (List.mem_append_left _ (List.mem_append_left _ (List.mem_of_getElem? (i := 0) rfl))))) (by decide) dX9_fill_17 ?_
      refine call_z (run_S (As := [.long (lI (a3)), .long (lI (0)), .long (lI (200))]) (rest := []) ⟨hx, hb, hml, hown, hts⟩ (ctX9_in l E a3 0 200 s8 _ (R64_of ha3) (by decide) (by decide) h) (va_cwS 3 hts gX9_fill_X9_in rfl rfl rfl hdX9_in ⟨Nat.le_of_ble_eq_true rfl, Nat.le_of_ble_eq_true rfl⟩) hK hN hg rfl hl.1 rfl (cat_sum _ (by simp)) dX9_fill_20 ⟨Nat.le_refl 0, Nat.le_refl 0⟩) hg (fun r16 s15 H locs hz17 hm2 h hg => ?_)
      have hm := hm.tn hm2
      refine k_eq (tgt := 39) hx hb dX9_fill_23 (by decide) (z_R hz17) (fun c18 => ?_) (fun c18 => ?_)
      · have h := h.1 c18
        refine lv_aload_n hx hb dX9_fill_39 rfl (lv_at hl 0 rfl) ?_
        refine q_ldc (z := (-2000000002)) hx hb hown (hts (.constant RX9 61 (-2000000002)) (List.mem_cons_of_mem _ (List.mem_append_left _ (List.mem_append_left _ (List.mem_of_getElem? (i := 2) rfl))))) (by decide) dX9_fill_40 ?_
        refine call_i (run_V (a := ea E 21) (As := [.int (iI ((-2000000002)))]) (rest := []) ⟨hx, hb, hml, hown, hts⟩ (ctX9_refuses l E (-2000000002) s15 _ (by decide) h) (cwV 1 hts gX9_fill_X9_refuses rfl rfl rfl ⟨rfl, hdX9_refuses⟩ ⟨Nat.le_of_ble_eq_true rfl, Nat.le_of_ble_eq_true rfl⟩) hK hN hg (recv_x (ci := 9) (C := RX9) (T := TX9) (N := 27) hg hK (by decide) rfl (by decide) rfl) rfl hl.1 rfl (cat_sum _ (by simp)) dX9_fill_42 ⟨Nat.le_refl 0, Nat.le_refl 0⟩) hg (fun r20 s19 H locs hz21 hm2 h hg => ?_)
        have hm := hm.tn hm2
        exact ret_i hx hb hr hlocks hg hz21 hm h dX9_fill_45
      · have h := h.2 c18
        refine lv_iload hx hb dX9_fill_26 (lv_at hl 4 rfl) ?_
        refine q_i2l hx hb ha4 dX9_fill_28 ?_
        refine lv_lconst (v := lI 1) hx hb dX9_fill_29 (by decide) ?_
        refine q_ldc2 (z := 50) hx hb hown (hts (.constantLong RX9 165 (50)) (List.mem_cons_of_mem _ (List.mem_append_left _ (List.mem_append_left _ (List.mem_of_getElem? (i := 1) rfl))))) (by decide) dX9_fill_30 ?_
        refine call_z (run_S (As := [.long (lI (a4)), .long (lI (1)), .long (lI (50))]) (rest := []) ⟨hx, hb, hml, hown, hts⟩ (ctX9_in l E a4 1 50 s15 _ (R64_of ha4) (by decide) (by decide) h) (va_cwS 3 hts gX9_fill_X9_in rfl rfl rfl hdX9_in ⟨Nat.le_of_ble_eq_true rfl, Nat.le_of_ble_eq_true rfl⟩) hK hN hg rfl hl.1 rfl (cat_sum _ (by simp)) dX9_fill_33 ⟨Nat.le_refl 0, Nat.le_refl 0⟩) hg (fun r23 s22 H locs hz24 hm2 h hg => ?_)
        have hm := hm.tn hm2
        refine k_ne (tgt := 46) hx hb dX9_fill_36 (by decide) (z_R hz24) (fun c25 => ?_) (fun c25 => ?_)
        · have h := h.1 c25
          refine lv_iload_n hx hb dX9_fill_46 rfl (lv_at hl 3 rfl) ?_
          refine k_le (tgt := 71) hx hb dX9_fill_47 (by decide) ha3 (fun c26 => ?_) (fun c26 => ?_)
          · have h := h.1 c26
            refine lv_aload_n hx hb dX9_fill_71 rfl (lv_at hl 0 rfl) ?_
            refine call_v (run_V (a := ea E 21) (As := []) (rest := []) ⟨hx, hb, hml, hown, hts⟩ (ctX9_keeps l E  s22 _  h) (cwV 0 hts gX9_fill_X9_keeps rfl rfl rfl ⟨rfl, hdX9_keeps⟩ ⟨Nat.le_of_ble_eq_true rfl, Nat.le_of_ble_eq_true rfl⟩) hK hN hg (recv_x (ci := 9) (C := RX9) (T := TX9) (N := 27) hg hK (by decide) rfl (by decide) rfl) rfl hl.1 rfl (cat_sum _ (by simp)) dX9_fill_72 ⟨Nat.le_refl 0, Nat.le_refl 0⟩) hg (fun s27 H locs hm2 h hg => ?_)
            have hm := hm.tn hm2
            refine lv_iconst (v := iI 0) hx hb dX9_fill_75 (by decide) ?_
            refine lv_istore (i := 5) (lv' := [(5, .int (iI (0))), (0, .ref (ea E 21)), (1, .int (iI (a1))), (2, .int (iI (a2))), (3, .int (iI (a3))), (4, .int (iI (a4)))]) hx hb dX9_fill_76 hl (by decide) rfl (fun ls hl => ?_)
            obtain ⟨kk, h⟩ := h
            exact J78  kk (0) (s27) _ _ _ hg hm (lv_sub hl [1, 2, 3, 4, 5, 0] rfl) h
          · have h := h.2 c26
            refine lv_iload_n hx hb dX9_fill_50 rfl (lv_at hl 2 rfl) ?_
            refine lv_iload_n hx hb dX9_fill_51 rfl (lv_at hl 3 rfl) ?_
            refine lv_iconst (v := iI 1) hx hb dX9_fill_52 (by decide) ?_
            refine q_isub hx hb dX9_fill_53 ?_
            refine lv_iload hx hb dX9_fill_54 (lv_at hl 4 rfl) ?_
            refine q_imul hx hb dX9_fill_56 ?_
            refine q_iadd hx hb dX9_fill_57 ?_
            refine lv_sipush (v := iI 500) hx hb dX9_fill_58 (by decide) ?_
            obtain ⟨hR30, h⟩ := h
            refine j_le (tgt := 71) hx hb dX9_fill_61 (by decide) hR30 (by decide) (fun c31 => ?_) (fun c31 => ?_)
            · have h := h.1 c31
              refine lv_aload_n hx hb dX9_fill_71 rfl (lv_at hl 0 rfl) ?_
              refine call_v (run_V (a := ea E 21) (As := []) (rest := []) ⟨hx, hb, hml, hown, hts⟩ (ctX9_keeps l E  s22 _  h) (cwV 0 hts gX9_fill_X9_keeps rfl rfl rfl ⟨rfl, hdX9_keeps⟩ ⟨Nat.le_of_ble_eq_true rfl, Nat.le_of_ble_eq_true rfl⟩) hK hN hg (recv_x (ci := 9) (C := RX9) (T := TX9) (N := 27) hg hK (by decide) rfl (by decide) rfl) rfl hl.1 rfl (cat_sum _ (by simp)) dX9_fill_72 ⟨Nat.le_refl 0, Nat.le_refl 0⟩) hg (fun s32 H locs hm2 h hg => ?_)
              have hm := hm.tn hm2
              refine lv_iconst (v := iI 0) hx hb dX9_fill_75 (by decide) ?_
              refine lv_istore (i := 5) (lv' := [(5, .int (iI (0))), (0, .ref (ea E 21)), (1, .int (iI (a1))), (2, .int (iI (a2))), (3, .int (iI (a3))), (4, .int (iI (a4)))]) hx hb dX9_fill_76 hl (by decide) rfl (fun ls hl => ?_)
              obtain ⟨kk, h⟩ := h
              exact J78  kk (0) (s32) _ _ _ hg hm (lv_sub hl [1, 2, 3, 4, 5, 0] rfl) h
            · have h := h.2 c31
              refine lv_aload_n hx hb dX9_fill_64 rfl (lv_at hl 0 rfl) ?_
              refine q_ldc (z := (-2000000003)) hx hb hown (hts (.constant RX9 125 (-2000000003)) (List.mem_cons_of_mem _ (List.mem_append_left _ (List.mem_append_left _ (List.mem_of_getElem? (i := 3) rfl))))) (by decide) dX9_fill_65 ?_
              refine call_i (run_V (a := ea E 21) (As := [.int (iI ((-2000000003)))]) (rest := []) ⟨hx, hb, hml, hown, hts⟩ (ctX9_refuses l E (-2000000003) s22 _ (by decide) h) (cwV 1 hts gX9_fill_X9_refuses rfl rfl rfl ⟨rfl, hdX9_refuses⟩ ⟨Nat.le_of_ble_eq_true rfl, Nat.le_of_ble_eq_true rfl⟩) hK hN hg (recv_x (ci := 9) (C := RX9) (T := TX9) (N := 27) hg hK (by decide) rfl (by decide) rfl) rfl hl.1 rfl (cat_sum _ (by simp)) dX9_fill_67 ⟨Nat.le_refl 0, Nat.le_refl 0⟩) hg (fun r36 s35 H locs hz37 hm2 h hg => ?_)
              have hm := hm.tn hm2
              exact ret_i hx hb hr hlocks hg hz37 hm h dX9_fill_70
        · have h := h.2 c25
          refine lv_aload_n hx hb dX9_fill_39 rfl (lv_at hl 0 rfl) ?_
          refine q_ldc (z := (-2000000002)) hx hb hown (hts (.constant RX9 61 (-2000000002)) (List.mem_cons_of_mem _ (List.mem_append_left _ (List.mem_append_left _ (List.mem_of_getElem? (i := 2) rfl))))) (by decide) dX9_fill_40 ?_
          refine call_i (run_V (a := ea E 21) (As := [.int (iI ((-2000000002)))]) (rest := []) ⟨hx, hb, hml, hown, hts⟩ (ctX9_refuses l E (-2000000002) s22 _ (by decide) h) (cwV 1 hts gX9_fill_X9_refuses rfl rfl rfl ⟨rfl, hdX9_refuses⟩ ⟨Nat.le_of_ble_eq_true rfl, Nat.le_of_ble_eq_true rfl⟩) hK hN hg (recv_x (ci := 9) (C := RX9) (T := TX9) (N := 27) hg hK (by decide) rfl (by decide) rfl) rfl hl.1 rfl (cat_sum _ (by simp)) dX9_fill_42 ⟨Nat.le_refl 0, Nat.le_refl 0⟩) hg (fun r39 s38 H locs hz40 hm2 h hg => ?_)
          have hm := hm.tn hm2
          exact ret_i hx hb hr hlocks hg hz40 hm h dX9_fill_45
theorem hdX9_passes : yX9_passes.cls ≠ "java/lang/invoke/MethodHandle" ∧ yX9_passes.cls ≠ "java/lang/invoke/VarHandle" ∧ (parseMethodDescriptor yX9_passes.desc).map (fun d => d.parameters.length) = some 4 := by decide +kernel
set_option maxRecDepth 100000 in
set_option maxHeartbeats 4000000 in
theorem ctX9_passes (l : Launch) (E : Ev) (a0 : Int) (a1 : Int) (a2 : Int) (a3 : Int) (σ : SS) (Q : Int → SS → Prop) (ha0 : R32 a0) (ha1 : R32 a1) (ha2 : R32 a2) (ha3 : R32 a3) (h : wX9_passes a0 a1 a2 a3 σ Q) : Met l yX9_passes wsX9_passes ({ frames := 0, cells := 0, slots := 0, locals := 0 } : Room) (Pc E σ [.int (iI (a0)), .int (iI (a1)), .int (iI (a2)), .int (iI (a3))]) (Qz E (sz σ) σ Q) 0 0 (Av E) := by
  rw [wX9_passes] at h
  refine Met.ofW (cc := cX9_passes) (maxL := 5) (ret := (some .boolean)) (by decide) rfl ?_
  intro p e s m args below meth c s₁ B hml hv
  obtain ⟨rfl, hH, hK, hN⟩ := hv
  have hx := B.exec
  have hb := B.bytes
  have hr := B.returns
  have hts := atoms_spec (ws := wsX9_passes) B.pre
  have hown : s.vm.findClass RX9 = some m.cls := findClass_of_methodNamed B.named
  have hlocks := B.notSynchronized
  have hg : GS E σ s s.heap [] := ⟨hH, va_S.rf⟩
  have hm : Mo (sz σ) σ σ := Mo.rf (Nat.le_refl _)
  have hl := ent (vs := [.int (iI (a0)), .int (iI (a1)), .int (iI (a2)), .int (iI (a3))]) (n := 5) (cats_i (cats_i (cats_i (cats_i cats_nil)))) (Nat.le_of_ble_eq_true rfl)
  rw [lg_entry_eq]
  generalize (lg_sl ([.int (iI (a0)), .int (iI (a1)), .int (iI (a2)), .int (iI (a3))]) ++ List.replicate (5 - (lg_sl ([.int (iI (a0)), .int (iI (a1)), .int (iI (a2)), .int (iI (a3))])).length) Slot.unset).toArray = ls at hl ⊢
  have hl : lv_has ls 5 [(0, .int (iI (a0))), (1, .int (iI (a1))), (2, .int (iI (a2))), (3, .int (iI (a3)))] := hl
  have J31 : ∀ (v4 : Int) (sL : SS) (H : Heap) (locs : List Loc) (ls : Array Slot), GS E sL s H locs → Mo (sz σ) σ sL → lv_has ls 5 [(0, .int (iI (a0))), (1, .int (iI (a1))), (3, .int (iI (a3))), (4, .int (iI (v4)))] → wX9_passes_L31 a0 a1 a2 a3 Q  v4 sL → W p l e (headSpec wsX9_passes ({ frames := 0, cells := 0, slots := 0, locals := 0 } : Room)).room s m (List.toArray [.int (iI (a0)), .int (iI (a1)), .int (iI (a2)), .int (iI (a3))]) below meth c H locs 0 0 (MQ below (Qz E (sz σ) σ Q) (List.toArray [.int (iI (a0)), .int (iI (a1)), .int (iI (a2)), .int (iI (a3))]) s 0 0 (Av E)) (F0 m 31 ls []) := by
    intro v4 sL H locs ls hg hm hl h
    rw [wX9_passes_L31] at h
    refine lv_iload_n hx hb dX9_passes_31 rfl (lv_at hl 0 rfl) ?_
    refine lv_iconst (v := iI 2) hx hb dX9_passes_32 (by decide) ?_
    refine j_ne (tgt := 41) hx hb dX9_passes_33 (by decide) ha0 (by decide) (fun c7 => ?_) (fun c7 => ?_)
    · have h := h.1 c7
      refine lv_iload_n hx hb dX9_passes_41 rfl (lv_at hl 0 rfl) ?_
      refine lv_iconst (v := iI 3) hx hb dX9_passes_42 (by decide) ?_
      refine j_ne (tgt := 51) hx hb dX9_passes_43 (by decide) ha0 (by decide) (fun c8 => ?_) (fun c8 => ?_)
      · have h := h.1 c8
        refine lv_iload_n hx hb dX9_passes_51 rfl (lv_at hl 0 rfl) ?_
        refine lv_iconst (v := iI 4) hx hb dX9_passes_52 (by decide) ?_
        refine j_ne (tgt := 65) hx hb dX9_passes_53 (by decide) ha0 (by decide) (fun c9 => ?_) (fun c9 => ?_)
        · have h := h.1 c9
          refine lv_iconst (v := iI 0) hx hb dX9_passes_65 (by decide) ?_
          exact ret_z hx hb hr hlocks hg (by decide) hm h dX9_passes_66
        · have h := h.2 c9
          refine lv_iload hx hb dX9_passes_56 (lv_at hl 3 rfl) ?_
          obtain ⟨hR10, h⟩ := h
          refine k_ne (tgt := 65) hx hb dX9_passes_58 (by decide) hR10 (fun c11 => ?_) (fun c11 => ?_)
          · have h := h.1 c11
            refine lv_iconst (v := iI 0) hx hb dX9_passes_65 (by decide) ?_
            exact ret_z hx hb hr hlocks hg (by decide) hm h dX9_passes_66
          · have h := h.2 c11
            refine lv_iconst (v := iI 1) hx hb dX9_passes_61 (by decide) ?_
            refine lv_goto (tgt := 66) hx hb dX9_passes_62 (by decide) ?_
            exact ret_z hx hb hr hlocks hg (by decide) hm h dX9_passes_66
      · have h := h.2 c8
        refine lv_iload hx hb dX9_passes_46 (lv_at hl 3 rfl) ?_
        obtain ⟨hR12, h⟩ := h
        refine k_ne (tgt := 61) hx hb dX9_passes_48 (by decide) hR12 (fun c13 => ?_) (fun c13 => ?_)
        · have h := h.1 c13
          refine lv_iconst (v := iI 1) hx hb dX9_passes_61 (by decide) ?_
          refine lv_goto (tgt := 66) hx hb dX9_passes_62 (by decide) ?_
          exact ret_z hx hb hr hlocks hg (by decide) hm h dX9_passes_66
        · have h := h.2 c13
          refine lv_iload_n hx hb dX9_passes_51 rfl (lv_at hl 0 rfl) ?_
          refine lv_iconst (v := iI 4) hx hb dX9_passes_52 (by decide) ?_
          refine j_ne (tgt := 65) hx hb dX9_passes_53 (by decide) ha0 (by decide) (fun c14 => ?_) (fun c14 => ?_)
          · have h := h.1 c14
            refine lv_iconst (v := iI 0) hx hb dX9_passes_65 (by decide) ?_
            exact ret_z hx hb hr hlocks hg (by decide) hm h dX9_passes_66
          · have h := h.2 c14
            refine lv_iload hx hb dX9_passes_56 (lv_at hl 3 rfl) ?_
            refine k_ne (tgt := 65) hx hb dX9_passes_58 (by decide) hR12 (fun c15 => ?_) (fun c15 => ?_)
            · have h := h.1 c15
              refine lv_iconst (v := iI 0) hx hb dX9_passes_65 (by decide) ?_
              exact ret_z hx hb hr hlocks hg (by decide) hm h dX9_passes_66
            · have h := h.2 c15
              refine lv_iconst (v := iI 1) hx hb dX9_passes_61 (by decide) ?_
              refine lv_goto (tgt := 66) hx hb dX9_passes_62 (by decide) ?_
              exact ret_z hx hb hr hlocks hg (by decide) hm h dX9_passes_66
    · have h := h.2 c7
      refine lv_iload_n hx hb dX9_passes_36 rfl (lv_at hl 2 rfl) ?_
      refine lv_iload_n hx hb dX9_passes_37 rfl (lv_at hl 1 rfl) ?_
      refine j_gt (tgt := 61) hx hb dX9_passes_38 (by decide) ha3 ha1 (fun c16 => ?_) (fun c16 => ?_)
      · have h := h.1 c16
        refine lv_iconst (v := iI 1) hx hb dX9_passes_61 (by decide) ?_
        refine lv_goto (tgt := 66) hx hb dX9_passes_62 (by decide) ?_
        exact ret_z hx hb hr hlocks hg (by decide) hm h dX9_passes_66
      · have h := h.2 c16
        refine lv_iload_n hx hb dX9_passes_41 rfl (lv_at hl 0 rfl) ?_
        refine lv_iconst (v := iI 3) hx hb dX9_passes_42 (by decide) ?_
        refine j_ne (tgt := 51) hx hb dX9_passes_43 (by decide) ha0 (by decide) (fun c17 => ?_) (fun c17 => ?_)
        · have h := h.1 c17
          refine lv_iload_n hx hb dX9_passes_51 rfl (lv_at hl 0 rfl) ?_
          refine lv_iconst (v := iI 4) hx hb dX9_passes_52 (by decide) ?_
          refine j_ne (tgt := 65) hx hb dX9_passes_53 (by decide) ha0 (by decide) (fun c18 => ?_) (fun c18 => ?_)
          · have h := h.1 c18
            refine lv_iconst (v := iI 0) hx hb dX9_passes_65 (by decide) ?_
            exact ret_z hx hb hr hlocks hg (by decide) hm h dX9_passes_66
          · have h := h.2 c18
            refine lv_iload hx hb dX9_passes_56 (lv_at hl 3 rfl) ?_
            obtain ⟨hR19, h⟩ := h
            refine k_ne (tgt := 65) hx hb dX9_passes_58 (by decide) hR19 (fun c20 => ?_) (fun c20 => ?_)
            · have h := h.1 c20
              refine lv_iconst (v := iI 0) hx hb dX9_passes_65 (by decide) ?_
              exact ret_z hx hb hr hlocks hg (by decide) hm h dX9_passes_66
            · have h := h.2 c20
              refine lv_iconst (v := iI 1) hx hb dX9_passes_61 (by decide) ?_
              refine lv_goto (tgt := 66) hx hb dX9_passes_62 (by decide) ?_
              exact ret_z hx hb hr hlocks hg (by decide) hm h dX9_passes_66
        · have h := h.2 c17
          refine lv_iload hx hb dX9_passes_46 (lv_at hl 3 rfl) ?_
          obtain ⟨hR21, h⟩ := h
          refine k_ne (tgt := 61) hx hb dX9_passes_48 (by decide) hR21 (fun c22 => ?_) (fun c22 => ?_)
          · have h := h.1 c22
            refine lv_iconst (v := iI 1) hx hb dX9_passes_61 (by decide) ?_
            refine lv_goto (tgt := 66) hx hb dX9_passes_62 (by decide) ?_
            exact ret_z hx hb hr hlocks hg (by decide) hm h dX9_passes_66
          · have h := h.2 c22
            refine lv_iload_n hx hb dX9_passes_51 rfl (lv_at hl 0 rfl) ?_
            refine lv_iconst (v := iI 4) hx hb dX9_passes_52 (by decide) ?_
            refine j_ne (tgt := 65) hx hb dX9_passes_53 (by decide) ha0 (by decide) (fun c23 => ?_) (fun c23 => ?_)
            · have h := h.1 c23
              refine lv_iconst (v := iI 0) hx hb dX9_passes_65 (by decide) ?_
              exact ret_z hx hb hr hlocks hg (by decide) hm h dX9_passes_66
            · have h := h.2 c23
              refine lv_iload hx hb dX9_passes_56 (lv_at hl 3 rfl) ?_
              refine k_ne (tgt := 65) hx hb dX9_passes_58 (by decide) hR21 (fun c24 => ?_) (fun c24 => ?_)
              · have h := h.1 c24
                refine lv_iconst (v := iI 0) hx hb dX9_passes_65 (by decide) ?_
                exact ret_z hx hb hr hlocks hg (by decide) hm h dX9_passes_66
              · have h := h.2 c24
                refine lv_iconst (v := iI 1) hx hb dX9_passes_61 (by decide) ?_
                refine lv_goto (tgt := 66) hx hb dX9_passes_62 (by decide) ?_
                exact ret_z hx hb hr hlocks hg (by decide) hm h dX9_passes_66
  have J14 : ∀ (u0 : Int) (sL : SS) (H : Heap) (locs : List Loc) (ls : Array Slot), GS E sL s H locs → Mo (sz σ) σ sL → lv_has ls 5 [(0, .int (iI (a0))), (1, .int (iI (a1))), (2, .int (iI (a2))), (3, .int (iI (a3)))] → wX9_passes_L14 a0 a1 a2 a3 Q  u0 sL → W p l e (headSpec wsX9_passes ({ frames := 0, cells := 0, slots := 0, locals := 0 } : Room)).room s m (List.toArray [.int (iI (a0)), .int (iI (a1)), .int (iI (a2)), .int (iI (a3))]) below meth c H locs 0 0 (MQ below (Qz E (sz σ) σ Q) (List.toArray [.int (iI (a0)), .int (iI (a1)), .int (iI (a2)), .int (iI (a3))]) s 0 0 (Av E)) (F0 m 14 ls [.int (iI (u0))]) := by
    intro u0 sL H locs ls hg hm hl h
    rw [wX9_passes_L14] at h
    refine lv_istore (i := 4) (lv' := [(4, .int (iI (u0))), (0, .int (iI (a0))), (1, .int (iI (a1))), (2, .int (iI (a2))), (3, .int (iI (a3)))]) hx hb dX9_passes_14 hl (by decide) rfl (fun ls hl => ?_)
    refine lv_iload_n hx hb dX9_passes_16 rfl (lv_at hl 1 rfl) ?_
    refine k_eq (tgt := 61) hx hb dX9_passes_17 (by decide) ha0 (fun c3 => ?_) (fun c3 => ?_)
    · have h := h.1 c3
      refine lv_iconst (v := iI 1) hx hb dX9_passes_61 (by decide) ?_
      refine lv_goto (tgt := 66) hx hb dX9_passes_62 (by decide) ?_
      exact ret_z hx hb hr hlocks hg (by decide) hm h dX9_passes_66
    · have h := h.2 c3
      refine lv_iload_n hx hb dX9_passes_20 rfl (lv_at hl 1 rfl) ?_
      refine lv_iconst (v := iI 1) hx hb dX9_passes_21 (by decide) ?_
      refine j_ne (tgt := 31) hx hb dX9_passes_22 (by decide) ha0 (by decide) (fun c4 => ?_) (fun c4 => ?_)
      · have h := h.1 c4
        exact J31  (u0) (sL) _ _ _ hg hm (lv_sub hl [1, 2, 4, 0] rfl) h
      · have h := h.2 c4
        refine lv_iload_n hx hb dX9_passes_25 rfl (lv_at hl 3 rfl) ?_
        refine lv_iconst (v := iI 2) hx hb dX9_passes_26 (by decide) ?_
        refine q_irem hx hb ha2 (by decide) (by decide) dX9_passes_27 ?_
        obtain ⟨hR5, h⟩ := h
        refine k_eq (tgt := 61) hx hb dX9_passes_28 (by decide) hR5 (fun c6 => ?_) (fun c6 => ?_)
        · have h := h.1 c6
          refine lv_iconst (v := iI 1) hx hb dX9_passes_61 (by decide) ?_
          refine lv_goto (tgt := 66) hx hb dX9_passes_62 (by decide) ?_
          exact ret_z hx hb hr hlocks hg (by decide) hm h dX9_passes_66
        · have h := h.2 c6
          exact J31  (u0) (sL) _ _ _ hg hm (lv_sub hl [1, 2, 4, 0] rfl) h
  have J13 : ∀ (K14 : Int → SS → Prop) (hK14 : ∀ (u0 : Int) (sL : SS) (H : Heap) (locs : List Loc) (ls : Array Slot), GS E sL s H locs → Mo (sz σ) σ sL → lv_has ls 5 [(0, .int (iI (a0))), (1, .int (iI (a1))), (2, .int (iI (a2))), (3, .int (iI (a3)))] → K14 u0 sL → W p l e (headSpec wsX9_passes ({ frames := 0, cells := 0, slots := 0, locals := 0 } : Room)).room s m (List.toArray [.int (iI (a0)), .int (iI (a1)), .int (iI (a2)), .int (iI (a3))]) below meth c H locs 0 0 (MQ below (Qz E (sz σ) σ Q) (List.toArray [.int (iI (a0)), .int (iI (a1)), .int (iI (a2)), .int (iI (a3))]) s 0 0 (Av E)) (F0 m 14 ls [.int (iI (u0))])), ∀ (sL : SS) (H : Heap) (locs : List Loc) (ls : Array Slot), GS E sL s H locs → Mo (sz σ) σ sL → lv_has ls 5 [(0, .int (iI (a0))), (1, .int (iI (a1))), (2, .int (iI (a2))), (3, .int (iI (a3)))] → wX9_passes_L13 a0 a1 a2 a3 Q K14  sL → W p l e (headSpec wsX9_passes ({ frames := 0, cells := 0, slots := 0, locals := 0 } : Room)).room s m (List.toArray [.int (iI (a0)), .int (iI (a1)), .int (iI (a2)), .int (iI (a3))]) below meth c H locs 0 0 (MQ below (Qz E (sz σ) σ Q) (List.toArray [.int (iI (a0)), .int (iI (a1)), .int (iI (a2)), .int (iI (a3))]) s 0 0 (Av E)) (F0 m 13 ls []) := by
    intro K14 hK14 sL H locs ls hg hm hl h
    rw [wX9_passes_L13] at h
    refine lv_iconst (v := iI 0) hx hb dX9_passes_13 (by decide) ?_
    exact hK14 (0) (sL) _ _ _ hg hm (lv_sub hl [0, 1, 2, 3] rfl) h
  refine lv_iload_n hx hb dX9_passes_0 rfl (lv_at hl 3 rfl) ?_
  refine lv_iload_n hx hb dX9_passes_1 rfl (lv_at hl 1 rfl) ?_
  refine j_le (tgt := 13) hx hb dX9_passes_2 (by decide) ha3 ha1 (fun c1 => ?_) (fun c1 => ?_)
  · have h := h.1 c1
    exact J13 _ (fun u0 sL H locs ls hg hm hl h => J14  u0 sL H locs ls hg hm hl h) (σ) _ _ _ hg hm (lv_sub hl [0, 1, 2, 3] rfl) h
  · have h := h.2 c1
    refine lv_iload_n hx hb dX9_passes_5 rfl (lv_at hl 2 rfl) ?_
    refine k_le (tgt := 13) hx hb dX9_passes_6 (by decide) ha2 (fun c2 => ?_) (fun c2 => ?_)
    · have h := h.1 c2
      exact J13 _ (fun u0 sL H locs ls hg hm hl h => J14  u0 sL H locs ls hg hm hl h) (σ) _ _ _ hg hm (lv_sub hl [0, 1, 2, 3] rfl) h
    · have h := h.2 c2
      refine lv_iconst (v := iI 1) hx hb dX9_passes_9 (by decide) ?_
      refine lv_goto (tgt := 14) hx hb dX9_passes_10 (by decide) ?_
      exact J14  (1) (σ) _ _ _ hg hm (lv_sub hl [0, 1, 2, 3] rfl) h
theorem hdX9_sieve : yX9_sieve.cls ≠ "java/lang/invoke/MethodHandle" ∧ yX9_sieve.cls ≠ "java/lang/invoke/VarHandle" ∧ (parseMethodDescriptor yX9_sieve.desc).map (fun d => d.parameters.length) = some 4 := by decide +kernel
set_option maxRecDepth 100000 in
set_option maxHeartbeats 4000000 in
theorem ctX9_sieve (l : Launch) (E : Ev) (a1 : Int) (a2 : Int) (a3 : Int) (a4 : Int) (σ : SS) (Q : Int → SS → Prop) (ha1 : R32 a1) (ha2 : R32 a2) (ha3 : R32 a3) (ha4 : R32 a4) (h : wX9_sieve a1 a2 a3 a4 σ Q) : Met l yX9_sieve wsX9_sieve ({ frames := 2, cells := 0, slots := 0, locals := 45 } : Room) (Pc E σ [.ref (ea E 21), .int (iI (a1)), .int (iI (a2)), .int (iI (a3)), .int (iI (a4))]) (Qi E (sz σ) σ Q) 0 0 (Av E) := by
  rw [wX9_sieve] at h
  refine Met.ofW (cc := cX9_sieve) (maxL := 7) (ret := (some .int)) (by decide) rfl ?_
  intro p e s m args below meth c s₁ B hml hv
  obtain ⟨rfl, hH, hK, hN⟩ := hv
  have hx := B.exec
  have hb := B.bytes
  have hr := B.returns
  have hts := atoms_spec (ws := wsX9_sieve) B.pre
  have hown : s.vm.findClass RX9 = some m.cls := findClass_of_methodNamed B.named
  have hlocks := B.notSynchronized
  have hg : GS E σ s s.heap [] := ⟨hH, va_S.rf⟩
  have hm : Mo (sz σ) σ σ := Mo.rf (Nat.le_refl _)
  have hl := ent (vs := [.ref (ea E 21), .int (iI (a1)), .int (iI (a2)), .int (iI (a3)), .int (iI (a4))]) (n := 7) (cats_x (cats_i (cats_i (cats_i (cats_i cats_nil))))) (Nat.le_of_ble_eq_true rfl)
  rw [lg_entry_eq]
  generalize (lg_sl ([.ref (ea E 21), .int (iI (a1)), .int (iI (a2)), .int (iI (a3)), .int (iI (a4))]) ++ List.replicate (7 - (lg_sl ([.ref (ea E 21), .int (iI (a1)), .int (iI (a2)), .int (iI (a3)), .int (iI (a4))])).length) Slot.unset).toArray = ls at hl ⊢
  have hl : lv_has ls 7 [(0, .ref (ea E 21)), (1, .int (iI (a1))), (2, .int (iI (a2))), (3, .int (iI (a3))), (4, .int (iI (a4)))] := hl
  have J58 : ∀ (k : Nat), ∀ (v5 : Int) (v6 : Int) (sL : SS) (H : Heap) (locs : List Loc) (ls : Array Slot), GS E sL s H locs → Mo (sz σ) σ sL → lv_has ls 7 [(0, .ref (ea E 21)), (1, .int (iI (a1))), (2, .int (iI (a2))), (3, .int (iI (a3))), (4, .int (iI (a4))), (5, .int (iI (v5))), (6, .int (iI (v6)))] → wX9_sieve_L58 a1 a2 a3 a4 Q  k v5 v6 sL → W p l e (headSpec wsX9_sieve ({ frames := 2, cells := 0, slots := 0, locals := 45 } : Room)).room s m (List.toArray [.ref (ea E 21), .int (iI (a1)), .int (iI (a2)), .int (iI (a3)), .int (iI (a4))]) below meth c H locs 0 0 (MQ below (Qi E (sz σ) σ Q) (List.toArray [.ref (ea E 21), .int (iI (a1)), .int (iI (a2)), .int (iI (a3)), .int (iI (a4))]) s 0 0 (Av E)) (F0 m 58 ls []) := by
    intro k
    induction k with
    | zero => intro v5 v6 sL H locs ls hg hm hl h; exact False.elim h
    | succ k ih =>
      intro v5 v6 sL H locs ls hg hm hl h
      rw [wX9_sieve_L58] at h
      refine lv_iload hx hb dX9_sieve_58 (lv_at hl 6 rfl) ?_
      refine lv_aload_n hx hb dX9_sieve_60 rfl (lv_at hl 0 rfl) ?_
      refine q_getx (ci := 9) (C := RX9) (T := TX9) (N := 27) (j := 23) hx hb hts (fun _ h9 => List.mem_cons_of_mem _ (List.mem_append_right _ h9)) hown hK hg 21 (by decide) rfl rfl (by decide) rfl 1 (by decide) (hts (.fieldLink RX9 13 "JoinMapsModel" "sizes" "[I") (List.mem_cons_of_mem _ (List.mem_append_left _ (List.mem_append_left _ (List.mem_of_getElem? (i := 4) rfl))))) rfl rfl rfl dX9_sieve_61 ?_
      refine lv_iload_n hx hb dX9_sieve_64 rfl (lv_at hl 1 rfl) ?_
      obtain ⟨hP32, hP33, h⟩ := h
      refine q_iald (N := 6) hx hb hK hg 23 (by decide) rfl rfl hP32 hP33 (by decide) dX9_sieve_65 ?_
      have hR34 := GS_R hg 23 (a1 : Int).toNat
      obtain ⟨hR35, h⟩ := h
      refine j_ge (tgt := 120) hx hb dX9_sieve_66 (by decide) hR35 hR34 (fun c36 => ?_) (fun c36 => ?_)
      · have h := h.1 c36
        refine lv_aload_n hx hb dX9_sieve_120 rfl (lv_at hl 0 rfl) ?_
        refine lv_iload hx hb dX9_sieve_121 (lv_at hl 4 rfl) ?_
        refine lv_iload hx hb dX9_sieve_123 (lv_at hl 5 rfl) ?_
        obtain ⟨hR37, h⟩ := h
        refine call_v (run_V (a := ea E 21) (As := [.int (iI (a4)), .int (iI (v5))]) (rest := []) ⟨hx, hb, hml, hown, hts⟩ (ctX9_becomes l E a4 v5 sL _ ha4 hR37 h) (cwV 2 hts gX9_sieve_X9_becomes rfl rfl rfl ⟨rfl, hdX9_becomes⟩ ⟨Nat.le_of_ble_eq_true rfl, Nat.le_of_ble_eq_true rfl⟩) hK hN hg (recv_x (ci := 9) (C := RX9) (T := TX9) (N := 27) hg hK (by decide) rfl (by decide) rfl) rfl hl.1 rfl (cat_sum _ (by simp)) dX9_sieve_125 ⟨Nat.le_refl 0, Nat.le_refl 0⟩) hg (fun s38 H locs hm2 h hg => ?_)
        have hm := hm.tn hm2
        refine lv_iload hx hb dX9_sieve_128 (lv_at hl 5 rfl) ?_
        exact ret_i hx hb hr hlocks hg hR37 hm h dX9_sieve_130
      · have h := h.2 c36
        refine lv_iload_n hx hb dX9_sieve_69 rfl (lv_at hl 2 rfl) ?_
        refine lv_iload_n hx hb dX9_sieve_70 rfl (lv_at hl 3 rfl) ?_
        refine lv_aload_n hx hb dX9_sieve_71 rfl (lv_at hl 0 rfl) ?_
        refine lv_iload_n hx hb dX9_sieve_72 rfl (lv_at hl 1 rfl) ?_
        refine lv_iload hx hb dX9_sieve_73 (lv_at hl 6 rfl) ?_
        refine call_i (run_V (a := ea E 21) (As := [.int (iI (a1)), .int (iI (v6))]) (rest := [.int (iI (a3)), .int (iI (a2))]) ⟨hx, hb, hml, hown, hts⟩ (ctX9_keyAt l E a1 v6 sL _ ha1 hR35 h) (cwV 2 hts gX9_sieve_X9_keyAt rfl rfl rfl ⟨rfl, hdX9_keyAt⟩ ⟨Nat.le_of_ble_eq_true rfl, Nat.le_of_ble_eq_true rfl⟩) hK hN hg (recv_x (ci := 9) (C := RX9) (T := TX9) (N := 27) hg hK (by decide) rfl (by decide) rfl) rfl hl.1 rfl (cat_sum _ (by simp)) dX9_sieve_75 ⟨Nat.le_refl 0, Nat.le_refl 0⟩) hg (fun r42 s41 H locs hz43 hm2 h hg => ?_)
        have hm := hm.tn hm2
        refine lv_aload_n hx hb dX9_sieve_78 rfl (lv_at hl 0 rfl) ?_
        refine lv_iload_n hx hb dX9_sieve_79 rfl (lv_at hl 1 rfl) ?_
        refine lv_iload hx hb dX9_sieve_80 (lv_at hl 6 rfl) ?_
        refine call_i (run_V (a := ea E 21) (As := [.int (iI (a1)), .int (iI (v6))]) (rest := [.int (iI (r42)), .int (iI (a3)), .int (iI (a2))]) ⟨hx, hb, hml, hown, hts⟩ (ctX9_valueAt l E a1 v6 s41 _ ha1 hR35 h) (cwV 2 hts gX9_sieve_X9_valueAt rfl rfl rfl ⟨rfl, hdX9_valueAt⟩ ⟨Nat.le_of_ble_eq_true rfl, Nat.le_of_ble_eq_true rfl⟩) hK hN hg (recv_x (ci := 9) (C := RX9) (T := TX9) (N := 27) hg hK (by decide) rfl (by decide) rfl) rfl hl.1 rfl (cat_sum _ (by simp)) dX9_sieve_82 ⟨Nat.le_refl 0, Nat.le_refl 0⟩) hg (fun r45 s44 H locs hz46 hm2 h hg => ?_)
        have hm := hm.tn hm2
        refine call_z (run_S (As := [.int (iI (a2)), .int (iI (a3)), .int (iI (r42)), .int (iI (r45))]) (rest := []) ⟨hx, hb, hml, hown, hts⟩ (ctX9_passes l E a2 a3 r42 r45 s44 _ ha2 ha3 hz43 hz46 h) (va_cwS 4 hts gX9_sieve_X9_passes rfl rfl rfl hdX9_passes ⟨Nat.le_of_ble_eq_true rfl, Nat.le_of_ble_eq_true rfl⟩) hK hN hg rfl hl.1 rfl (cat_sum _ (by simp)) dX9_sieve_85 ⟨Nat.le_refl 0, Nat.le_refl 0⟩) hg (fun r48 s47 H locs hz49 hm2 h hg => ?_)
        have hm := hm.tn hm2
        refine k_eq (tgt := 114) hx hb dX9_sieve_88 (by decide) (z_R hz49) (fun c50 => ?_) (fun c50 => ?_)
        · have h := h.1 c50
          refine lv_iinc (v := iI (v6 + 1)) (lv' := [(6, .int (iI (v6 + 1))), (0, .ref (ea E 21)), (1, .int (iI (a1))), (2, .int (iI (a2))), (3, .int (iI (a3))), (4, .int (iI (a4))), (5, .int (iI (v5)))]) hx hb dX9_sieve_114 hl (k := 6) rfl (iI_add _ _) (by decide) rfl (fun ls hl => ?_)
          refine lv_goto (tgt := 58) hx hb dX9_sieve_117 (by decide) ?_
          exact ih (v5) (v6 + 1) (s47) _ _ _ hg hm (lv_sub hl [1, 2, 3, 4, 5, 6, 0] rfl) h
        · have h := h.2 c50
          refine lv_aload_n hx hb dX9_sieve_91 rfl (lv_at hl 0 rfl) ?_
          refine q_getx (ci := 9) (C := RX9) (T := TX9) (N := 27) (j := 28) hx hb hts (fun _ h9 => List.mem_cons_of_mem _ (List.mem_append_right _ h9)) hown hK hg 21 (by decide) rfl rfl (by decide) rfl 7 (by decide) (hts (.fieldLink RX9 28 "JoinMapsModel" "made" "[I") (List.mem_cons_of_mem _ (List.mem_append_left _ (List.mem_append_left _ (List.mem_of_getElem? (i := 5) rfl))))) rfl rfl rfl dX9_sieve_92 ?_
          refine lv_iload hx hb dX9_sieve_95 (lv_at hl 5 rfl) ?_
          refine lv_aload_n hx hb dX9_sieve_97 rfl (lv_at hl 0 rfl) ?_
          refine q_getx (ci := 9) (C := RX9) (T := TX9) (N := 27) (j := 22) hx hb hts (fun _ h9 => List.mem_cons_of_mem _ (List.mem_append_right _ h9)) hown hK hg 21 (by decide) rfl rfl (by decide) rfl 0 (by decide) (hts (.fieldLink RX9 7 "JoinMapsModel" "rows" "[I") (List.mem_cons_of_mem _ (List.mem_append_left _ (List.mem_append_left _ (List.mem_of_getElem? (i := 6) rfl))))) rfl rfl rfl dX9_sieve_98 ?_
          refine lv_sipush (v := iI 200) hx hb dX9_sieve_101 (by decide) ?_
          refine lv_iload_n hx hb dX9_sieve_104 rfl (lv_at hl 1 rfl) ?_
          refine q_imul hx hb dX9_sieve_105 ?_
          refine lv_iload hx hb dX9_sieve_106 (lv_at hl 6 rfl) ?_
          refine q_iadd hx hb dX9_sieve_108 ?_
          obtain ⟨hP51, hP52, h⟩ := h
          refine q_iald (N := 1200) hx hb hK hg 22 (by decide) rfl rfl hP51 hP52 (by decide) dX9_sieve_109 ?_
          have hR53 := GS_R hg 22 (((200 * a1) + v6) : Int).toNat
          obtain ⟨hP54, hP55, h⟩ := h
          refine q_iast (N := 201) hx hb hK hg 28 (by decide) rfl rfl hP54 hP55 (by decide) hR53 dX9_sieve_110 (fun H locs hg => ?_)
          refine lv_iinc (v := iI (v5 + 1)) (lv' := [(5, .int (iI (v5 + 1))), (0, .ref (ea E 21)), (1, .int (iI (a1))), (2, .int (iI (a2))), (3, .int (iI (a3))), (4, .int (iI (a4))), (6, .int (iI (v6)))]) hx hb dX9_sieve_111 hl (k := 5) rfl (iI_add _ _) (by decide) rfl (fun ls hl => ?_)
          refine lv_iinc (v := iI (v6 + 1)) (lv' := [(6, .int (iI (v6 + 1))), (5, .int (iI (v5 + 1))), (0, .ref (ea E 21)), (1, .int (iI (a1))), (2, .int (iI (a2))), (3, .int (iI (a3))), (4, .int (iI (a4)))]) hx hb dX9_sieve_114 hl (k := 6) rfl (iI_add _ _) (by decide) rfl (fun ls hl => ?_)
          refine lv_goto (tgt := 58) hx hb dX9_sieve_117 (by decide) ?_
          exact ih (v5 + 1) (v6 + 1) (un s47 28 (v5 : Int).toNat ((sn s47 22 (((200 * a1) + v6) : Int).toNat))) _ _ _ hg hm (lv_sub hl [2, 3, 4, 5, 6, 1, 0] rfl) h
  refine lv_iload_n hx hb dX9_sieve_0 rfl (lv_at hl 1 rfl) ?_
  refine call_z (run_S (As := [.int (iI (a1))]) (rest := []) ⟨hx, hb, hml, hown, hts⟩ (ctX9_isMap l E a1 σ _ ha1 h) (va_cwS 1 hts gX9_sieve_X9_isMap rfl rfl rfl hdX9_isMap ⟨Nat.le_of_ble_eq_true rfl, Nat.le_of_ble_eq_true rfl⟩) hK hN hg rfl hl.1 rfl (cat_sum _ (by simp)) dX9_sieve_1 ⟨Nat.le_refl 0, Nat.le_refl 0⟩) hg (fun r2 s1 H locs hz3 hm2 h hg => ?_)
  have hm := hm.tn hm2
  refine k_eq (tgt := 41) hx hb dX9_sieve_4 (by decide) (z_R hz3) (fun c4 => ?_) (fun c4 => ?_)
  · have h := h.1 c4
    refine lv_aload_n hx hb dX9_sieve_41 rfl (lv_at hl 0 rfl) ?_
    refine q_ldc (z := (-2000000002)) hx hb hown (hts (.constant RX9 61 (-2000000002)) (List.mem_cons_of_mem _ (List.mem_append_left _ (List.mem_append_left _ (List.mem_of_getElem? (i := 3) rfl))))) (by decide) dX9_sieve_42 ?_
    refine call_i (run_V (a := ea E 21) (As := [.int (iI ((-2000000002)))]) (rest := []) ⟨hx, hb, hml, hown, hts⟩ (ctX9_refuses l E (-2000000002) s1 _ (by decide) h) (cwV 1 hts gX9_sieve_X9_refuses rfl rfl rfl ⟨rfl, hdX9_refuses⟩ ⟨Nat.le_of_ble_eq_true rfl, Nat.le_of_ble_eq_true rfl⟩) hK hN hg (recv_x (ci := 9) (C := RX9) (T := TX9) (N := 27) hg hK (by decide) rfl (by decide) rfl) rfl hl.1 rfl (cat_sum _ (by simp)) dX9_sieve_44 ⟨Nat.le_refl 0, Nat.le_refl 0⟩) hg (fun r6 s5 H locs hz7 hm2 h hg => ?_)
    have hm := hm.tn hm2
    exact ret_i hx hb hr hlocks hg hz7 hm h dX9_sieve_47
  · have h := h.2 c4
    refine lv_iload_n hx hb dX9_sieve_7 rfl (lv_at hl 2 rfl) ?_
    refine q_i2l hx hb ha2 dX9_sieve_8 ?_
    refine lv_lconst (v := lI 0) hx hb dX9_sieve_9 (by decide) ?_
    refine q_ldc2 (z := 4) hx hb hown (hts (.constantLong RX9 167 (4)) (List.mem_cons_of_mem _ (List.mem_append_left _ (List.mem_append_left _ (List.mem_of_getElem? (i := 0) rfl))))) (by decide) dX9_sieve_10 ?_
    refine call_z (run_S (As := [.long (lI (a2)), .long (lI (0)), .long (lI (4))]) (rest := []) ⟨hx, hb, hml, hown, hts⟩ (ctX9_in l E a2 0 4 s1 _ (R64_of ha2) (by decide) (by decide) h) (va_cwS 3 hts gX9_sieve_X9_in rfl rfl rfl hdX9_in ⟨Nat.le_of_ble_eq_true rfl, Nat.le_of_ble_eq_true rfl⟩) hK hN hg rfl hl.1 rfl (cat_sum _ (by simp)) dX9_sieve_13 ⟨Nat.le_refl 0, Nat.le_refl 0⟩) hg (fun r9 s8 H locs hz10 hm2 h hg => ?_)
    have hm := hm.tn hm2
    refine k_eq (tgt := 41) hx hb dX9_sieve_16 (by decide) (z_R hz10) (fun c11 => ?_) (fun c11 => ?_)
    · have h := h.1 c11
      refine lv_aload_n hx hb dX9_sieve_41 rfl (lv_at hl 0 rfl) ?_
      refine q_ldc (z := (-2000000002)) hx hb hown (hts (.constant RX9 61 (-2000000002)) (List.mem_cons_of_mem _ (List.mem_append_left _ (List.mem_append_left _ (List.mem_of_getElem? (i := 3) rfl))))) (by decide) dX9_sieve_42 ?_
      refine call_i (run_V (a := ea E 21) (As := [.int (iI ((-2000000002)))]) (rest := []) ⟨hx, hb, hml, hown, hts⟩ (ctX9_refuses l E (-2000000002) s8 _ (by decide) h) (cwV 1 hts gX9_sieve_X9_refuses rfl rfl rfl ⟨rfl, hdX9_refuses⟩ ⟨Nat.le_of_ble_eq_true rfl, Nat.le_of_ble_eq_true rfl⟩) hK hN hg (recv_x (ci := 9) (C := RX9) (T := TX9) (N := 27) hg hK (by decide) rfl (by decide) rfl) rfl hl.1 rfl (cat_sum _ (by simp)) dX9_sieve_44 ⟨Nat.le_refl 0, Nat.le_refl 0⟩) hg (fun r13 s12 H locs hz14 hm2 h hg => ?_)
      have hm := hm.tn hm2
      exact ret_i hx hb hr hlocks hg hz14 hm h dX9_sieve_47
    · have h := h.2 c11
      refine lv_iload_n hx hb dX9_sieve_19 rfl (lv_at hl 3 rfl) ?_
      refine q_i2l hx hb ha3 dX9_sieve_20 ?_
      refine q_ldc2 (z := (-1000000)) hx hb hown (hts (.constantLong RX9 62 (-1000000)) (List.mem_cons_of_mem _ (List.mem_append_left _ (List.mem_append_left _ (List.mem_of_getElem? (i := 1) rfl))))) (by decide) dX9_sieve_21 ?_
      refine q_ldc2 (z := 1000000) hx hb hown (hts (.constantLong RX9 64 (1000000)) (List.mem_cons_of_mem _ (List.mem_append_left _ (List.mem_append_left _ (List.mem_of_getElem? (i := 2) rfl))))) (by decide) dX9_sieve_24 ?_
      refine call_z (run_S (As := [.long (lI (a3)), .long (lI ((-1000000))), .long (lI (1000000))]) (rest := []) ⟨hx, hb, hml, hown, hts⟩ (ctX9_in l E a3 (-1000000) 1000000 s8 _ (R64_of ha3) (by decide) (by decide) h) (va_cwS 3 hts gX9_sieve_X9_in rfl rfl rfl hdX9_in ⟨Nat.le_of_ble_eq_true rfl, Nat.le_of_ble_eq_true rfl⟩) hK hN hg rfl hl.1 rfl (cat_sum _ (by simp)) dX9_sieve_27 ⟨Nat.le_refl 0, Nat.le_refl 0⟩) hg (fun r16 s15 H locs hz17 hm2 h hg => ?_)
      have hm := hm.tn hm2
      refine k_eq (tgt := 41) hx hb dX9_sieve_30 (by decide) (z_R hz17) (fun c18 => ?_) (fun c18 => ?_)
      · have h := h.1 c18
        refine lv_aload_n hx hb dX9_sieve_41 rfl (lv_at hl 0 rfl) ?_
        refine q_ldc (z := (-2000000002)) hx hb hown (hts (.constant RX9 61 (-2000000002)) (List.mem_cons_of_mem _ (List.mem_append_left _ (List.mem_append_left _ (List.mem_of_getElem? (i := 3) rfl))))) (by decide) dX9_sieve_42 ?_
        refine call_i (run_V (a := ea E 21) (As := [.int (iI ((-2000000002)))]) (rest := []) ⟨hx, hb, hml, hown, hts⟩ (ctX9_refuses l E (-2000000002) s15 _ (by decide) h) (cwV 1 hts gX9_sieve_X9_refuses rfl rfl rfl ⟨rfl, hdX9_refuses⟩ ⟨Nat.le_of_ble_eq_true rfl, Nat.le_of_ble_eq_true rfl⟩) hK hN hg (recv_x (ci := 9) (C := RX9) (T := TX9) (N := 27) hg hK (by decide) rfl (by decide) rfl) rfl hl.1 rfl (cat_sum _ (by simp)) dX9_sieve_44 ⟨Nat.le_refl 0, Nat.le_refl 0⟩) hg (fun r20 s19 H locs hz21 hm2 h hg => ?_)
        have hm := hm.tn hm2
        exact ret_i hx hb hr hlocks hg hz21 hm h dX9_sieve_47
      · have h := h.2 c18
        refine lv_iload hx hb dX9_sieve_33 (lv_at hl 4 rfl) ?_
        refine call_z (run_S (As := [.int (iI (a4))]) (rest := []) ⟨hx, hb, hml, hown, hts⟩ (ctX9_isMap l E a4 s15 _ ha4 h) (va_cwS 1 hts gX9_sieve_X9_isMap rfl rfl rfl hdX9_isMap ⟨Nat.le_of_ble_eq_true rfl, Nat.le_of_ble_eq_true rfl⟩) hK hN hg rfl hl.1 rfl (cat_sum _ (by simp)) dX9_sieve_35 ⟨Nat.le_refl 0, Nat.le_refl 0⟩) hg (fun r23 s22 H locs hz24 hm2 h hg => ?_)
        have hm := hm.tn hm2
        refine k_ne (tgt := 48) hx hb dX9_sieve_38 (by decide) (z_R hz24) (fun c25 => ?_) (fun c25 => ?_)
        · have h := h.1 c25
          refine lv_aload_n hx hb dX9_sieve_48 rfl (lv_at hl 0 rfl) ?_
          refine call_v (run_V (a := ea E 21) (As := []) (rest := []) ⟨hx, hb, hml, hown, hts⟩ (ctX9_keeps l E  s22 _  h) (cwV 0 hts gX9_sieve_X9_keeps rfl rfl rfl ⟨rfl, hdX9_keeps⟩ ⟨Nat.le_of_ble_eq_true rfl, Nat.le_of_ble_eq_true rfl⟩) hK hN hg (recv_x (ci := 9) (C := RX9) (T := TX9) (N := 27) hg hK (by decide) rfl (by decide) rfl) rfl hl.1 rfl (cat_sum _ (by simp)) dX9_sieve_49 ⟨Nat.le_refl 0, Nat.le_refl 0⟩) hg (fun s26 H locs hm2 h hg => ?_)
          have hm := hm.tn hm2
          refine lv_iconst (v := iI 0) hx hb dX9_sieve_52 (by decide) ?_
          refine lv_istore (i := 5) (lv' := [(5, .int (iI (0))), (0, .ref (ea E 21)), (1, .int (iI (a1))), (2, .int (iI (a2))), (3, .int (iI (a3))), (4, .int (iI (a4)))]) hx hb dX9_sieve_53 hl (by decide) rfl (fun ls hl => ?_)
          refine lv_iconst (v := iI 0) hx hb dX9_sieve_55 (by decide) ?_
          refine lv_istore (i := 6) (lv' := [(6, .int (iI (0))), (5, .int (iI (0))), (0, .ref (ea E 21)), (1, .int (iI (a1))), (2, .int (iI (a2))), (3, .int (iI (a3))), (4, .int (iI (a4)))]) hx hb dX9_sieve_56 hl (by decide) rfl (fun ls hl => ?_)
          obtain ⟨kk, h⟩ := h
          exact J58  kk (0) (0) (s26) _ _ _ hg hm (lv_sub hl [2, 3, 4, 5, 6, 1, 0] rfl) h
        · have h := h.2 c25
          refine lv_aload_n hx hb dX9_sieve_41 rfl (lv_at hl 0 rfl) ?_
          refine q_ldc (z := (-2000000002)) hx hb hown (hts (.constant RX9 61 (-2000000002)) (List.mem_cons_of_mem _ (List.mem_append_left _ (List.mem_append_left _ (List.mem_of_getElem? (i := 3) rfl))))) (by decide) dX9_sieve_42 ?_
          refine call_i (run_V (a := ea E 21) (As := [.int (iI ((-2000000002)))]) (rest := []) ⟨hx, hb, hml, hown, hts⟩ (ctX9_refuses l E (-2000000002) s22 _ (by decide) h) (cwV 1 hts gX9_sieve_X9_refuses rfl rfl rfl ⟨rfl, hdX9_refuses⟩ ⟨Nat.le_of_ble_eq_true rfl, Nat.le_of_ble_eq_true rfl⟩) hK hN hg (recv_x (ci := 9) (C := RX9) (T := TX9) (N := 27) hg hK (by decide) rfl (by decide) rfl) rfl hl.1 rfl (cat_sum _ (by simp)) dX9_sieve_44 ⟨Nat.le_refl 0, Nat.le_refl 0⟩) hg (fun r30 s29 H locs hz31 hm2 h hg => ?_)
          have hm := hm.tn hm2
          exact ret_i hx hb hr hlocks hg hz31 hm h dX9_sieve_47
theorem hdX9_raise : yX9_raise.cls ≠ "java/lang/invoke/MethodHandle" ∧ yX9_raise.cls ≠ "java/lang/invoke/VarHandle" ∧ (parseMethodDescriptor yX9_raise.desc).map (fun d => d.parameters.length) = some 4 := by decide +kernel
set_option maxRecDepth 100000 in
set_option maxHeartbeats 4000000 in
theorem ctX9_raise (l : Launch) (E : Ev) (a1 : Int) (a2 : Int) (a3 : Int) (a4 : Int) (σ : SS) (Q : Int → SS → Prop) (ha1 : R32 a1) (ha2 : R32 a2) (ha3 : R32 a3) (ha4 : R32 a4) (h : wX9_raise a1 a2 a3 a4 σ Q) : Met l yX9_raise wsX9_raise ({ frames := 3, cells := 0, slots := 0, locals := 66 } : Room) (Pc E σ [.ref (ea E 21), .int (iI (a1)), .int (iI (a2)), .int (iI (a3)), .int (iI (a4))]) (Qi E (sz σ) σ Q) 0 0 (Av E) := by
  rw [wX9_raise] at h
  refine Met.ofW (cc := cX9_raise) (maxL := 8) (ret := (some .int)) (by decide) rfl ?_
  intro p e s m args below meth c s₁ B hml hv
  obtain ⟨rfl, hH, hK, hN⟩ := hv
  have hx := B.exec
  have hb := B.bytes
  have hr := B.returns
  have hts := atoms_spec (ws := wsX9_raise) B.pre
  have hown : s.vm.findClass RX9 = some m.cls := findClass_of_methodNamed B.named
  have hlocks := B.notSynchronized
  have hg : GS E σ s s.heap [] := ⟨hH, va_S.rf⟩
  have hm : Mo (sz σ) σ σ := Mo.rf (Nat.le_refl _)
  have hl := ent (vs := [.ref (ea E 21), .int (iI (a1)), .int (iI (a2)), .int (iI (a3)), .int (iI (a4))]) (n := 8) (cats_x (cats_i (cats_i (cats_i (cats_i cats_nil))))) (Nat.le_of_ble_eq_true rfl)
  rw [lg_entry_eq]
  generalize (lg_sl ([.ref (ea E 21), .int (iI (a1)), .int (iI (a2)), .int (iI (a3)), .int (iI (a4))]) ++ List.replicate (8 - (lg_sl ([.ref (ea E 21), .int (iI (a1)), .int (iI (a2)), .int (iI (a3)), .int (iI (a4))])).length) Slot.unset).toArray = ls at hl ⊢
  have hl : lv_has ls 8 [(0, .ref (ea E 21)), (1, .int (iI (a1))), (2, .int (iI (a2))), (3, .int (iI (a3))), (4, .int (iI (a4)))] := hl
  have J63 : ∀ (k : Nat), ∀ (v5 : Int) (v6 : Int) (v7 : Int) (sL : SS) (H : Heap) (locs : List Loc) (ls : Array Slot), GS E sL s H locs → Mo (sz σ) σ sL → lv_has ls 8 [(0, .ref (ea E 21)), (1, .int (iI (a1))), (4, .int (iI (a4))), (5, .int (iI (v5))), (6, .int (iI (v6))), (7, .int (iI (v7)))] → wX9_raise_L63 a1 a2 a3 a4 Q  k v5 v6 v7 sL → W p l e (headSpec wsX9_raise ({ frames := 3, cells := 0, slots := 0, locals := 66 } : Room)).room s m (List.toArray [.ref (ea E 21), .int (iI (a1)), .int (iI (a2)), .int (iI (a3)), .int (iI (a4))]) below meth c H locs 0 0 (MQ below (Qi E (sz σ) σ Q) (List.toArray [.ref (ea E 21), .int (iI (a1)), .int (iI (a2)), .int (iI (a3)), .int (iI (a4))]) s 0 0 (Av E)) (F0 m 63 ls []) := by
    intro k
    induction k with
    | zero => intro v5 v6 v7 sL H locs ls hg hm hl h; exact False.elim h
    | succ k ih =>
      intro v5 v6 v7 sL H locs ls hg hm hl h
      rw [wX9_raise_L63] at h
      refine lv_iload hx hb dX9_raise_63 (lv_at hl 5 rfl) ?_
      refine lv_iload hx hb dX9_raise_65 (lv_at hl 4 rfl) ?_
      obtain ⟨hR32, hR33, h⟩ := h
      refine j_ge (tgt := 114) hx hb dX9_raise_67 (by decide) hR32 hR33 (fun c34 => ?_) (fun c34 => ?_)
      · have h := h.1 c34
        refine lv_iload hx hb dX9_raise_114 (lv_at hl 4 rfl) ?_
        refine lv_iload hx hb dX9_raise_116 (lv_at hl 3 rfl) ?_
        refine q_isub hx hb dX9_raise_118 ?_
        obtain ⟨hR35, h⟩ := h
        exact ret_i hx hb hr hlocks hg hR35 hm h dX9_raise_119
      · have h := h.2 c34
        refine lv_aload_n hx hb dX9_raise_70 rfl (lv_at hl 0 rfl) ?_
        refine q_getx (ci := 9) (C := RX9) (T := TX9) (N := 27) (j := 22) hx hb hts (fun _ h9 => List.mem_cons_of_mem _ (List.mem_append_right _ h9)) hown hK hg 21 (by decide) rfl rfl (by decide) rfl 0 (by decide) (hts (.fieldLink RX9 7 "JoinMapsModel" "rows" "[I") (List.mem_cons_of_mem _ (List.mem_append_left _ (List.mem_append_left _ (List.mem_of_getElem? (i := 3) rfl))))) rfl rfl rfl dX9_raise_71 ?_
        refine lv_sipush (v := iI 200) hx hb dX9_raise_74 (by decide) ?_
        refine lv_iload_n hx hb dX9_raise_77 rfl (lv_at hl 1 rfl) ?_
        refine q_imul hx hb dX9_raise_78 ?_
        refine lv_iload hx hb dX9_raise_79 (lv_at hl 5 rfl) ?_
        refine q_iadd hx hb dX9_raise_81 ?_
        refine lv_aload_n hx hb dX9_raise_82 rfl (lv_at hl 0 rfl) ?_
        refine lv_iload_n hx hb dX9_raise_83 rfl (lv_at hl 1 rfl) ?_
        refine lv_iload hx hb dX9_raise_84 (lv_at hl 5 rfl) ?_
        refine call_i (run_V (a := ea E 21) (As := [.int (iI (a1)), .int (iI (v7))]) (rest := [.int (iI (((200 * a1) + v7))), .ref (ea E 22)]) ⟨hx, hb, hml, hown, hts⟩ (ctX9_keyAt l E a1 v7 sL _ ha1 hR32 h) (cwV 2 hts gX9_raise_X9_keyAt rfl rfl rfl ⟨rfl, hdX9_keyAt⟩ ⟨Nat.le_of_ble_eq_true rfl, Nat.le_of_ble_eq_true rfl⟩) hK hN hg (recv_x (ci := 9) (C := RX9) (T := TX9) (N := 27) hg hK (by decide) rfl (by decide) rfl) rfl hl.1 rfl (cat_sum _ (by simp)) dX9_raise_86 ⟨Nat.le_refl 0, Nat.le_refl 0⟩) hg (fun r37 s36 H locs hz38 hm2 h hg => ?_)
        have hm := hm.tn hm2
        refine lv_aload_n hx hb dX9_raise_89 rfl (lv_at hl 0 rfl) ?_
        refine lv_iload_n hx hb dX9_raise_90 rfl (lv_at hl 1 rfl) ?_
        refine lv_iload hx hb dX9_raise_91 (lv_at hl 5 rfl) ?_
        refine call_i (run_V (a := ea E 21) (As := [.int (iI (a1)), .int (iI (v7))]) (rest := [.int (iI (r37)), .int (iI (((200 * a1) + v7))), .ref (ea E 22)]) ⟨hx, hb, hml, hown, hts⟩ (ctX9_valueAt l E a1 v7 s36 _ ha1 hR32 h) (cwV 2 hts gX9_raise_X9_valueAt rfl rfl rfl ⟨rfl, hdX9_valueAt⟩ ⟨Nat.le_of_ble_eq_true rfl, Nat.le_of_ble_eq_true rfl⟩) hK hN hg (recv_x (ci := 9) (C := RX9) (T := TX9) (N := 27) hg hK (by decide) rfl (by decide) rfl) rfl hl.1 rfl (cat_sum _ (by simp)) dX9_raise_93 ⟨Nat.le_refl 0, Nat.le_refl 0⟩) hg (fun r40 s39 H locs hz41 hm2 h hg => ?_)
        have hm := hm.tn hm2
        refine q_i2l hx hb hz41 dX9_raise_96 ?_
        refine lv_iload hx hb dX9_raise_97 (lv_at hl 2 rfl) ?_
        refine q_i2l hx hb ha4 dX9_raise_99 ?_
        refine q_ladd hx hb dX9_raise_100 ?_
        obtain ⟨hR42, h⟩ := h
        refine call_i (run_S (As := [.long (lI ((r40 + a4)))]) (rest := [.int (iI (r37)), .int (iI (((200 * a1) + v7))), .ref (ea E 22)]) ⟨hx, hb, hml, hown, hts⟩ (ctX9_held l E (r40 + a4) s39 _ hR42 h) (va_cwS 1 hts gX9_raise_X9_held rfl rfl rfl hdX9_held ⟨Nat.le_of_ble_eq_true rfl, Nat.le_of_ble_eq_true rfl⟩) hK hN hg rfl hl.1 rfl (cat_sum _ (by simp)) dX9_raise_101 ⟨Nat.le_refl 0, Nat.le_refl 0⟩) hg (fun r44 s43 H locs hz45 hm2 h hg => ?_)
        have hm := hm.tn hm2
        refine call_i (run_S (As := [.int (iI (r37)), .int (iI (r44))]) (rest := [.int (iI (((200 * a1) + v7))), .ref (ea E 22)]) ⟨hx, hb, hml, hown, hts⟩ (ctX9_entry l E r37 r44 s43 _ hz38 hz45 h) (va_cwS 2 hts gX9_raise_X9_entry rfl rfl rfl hdX9_entry ⟨Nat.le_of_ble_eq_true rfl, Nat.le_of_ble_eq_true rfl⟩) hK hN hg rfl hl.1 rfl (cat_sum _ (by simp)) dX9_raise_104 ⟨Nat.le_refl 0, Nat.le_refl 0⟩) hg (fun r47 s46 H locs hz48 hm2 h hg => ?_)
        have hm := hm.tn hm2
        obtain ⟨hP49, hP50, h⟩ := h
        refine q_iast (N := 1200) hx hb hK hg 22 (by decide) rfl rfl hP49 hP50 (by decide) hz48 dX9_raise_107 (fun H locs hg => ?_)
        refine lv_iinc (v := iI (v7 + 1)) (lv' := [(7, .int (iI (v7 + 1))), (0, .ref (ea E 21)), (1, .int (iI (a1))), (4, .int (iI (a4))), (5, .int (iI (v5))), (6, .int (iI (v6)))]) hx hb dX9_raise_108 hl (k := 5) rfl (iI_add _ _) (by decide) rfl (fun ls hl => ?_)
        refine lv_goto (tgt := 63) hx hb dX9_raise_111 (by decide) ?_
        exact ih (v5) (v6) (v7 + 1) (un s46 22 (((200 * a1) + v7) : Int).toNat (r47)) _ _ _ hg hm (lv_sub hl [1, 2, 3, 4, 5, 0] rfl) h
  refine lv_iload_n hx hb dX9_raise_0 rfl (lv_at hl 1 rfl) ?_
  refine call_z (run_S (As := [.int (iI (a1))]) (rest := []) ⟨hx, hb, hml, hown, hts⟩ (ctX9_isMap l E a1 σ _ ha1 h) (va_cwS 1 hts gX9_raise_X9_isMap rfl rfl rfl hdX9_isMap ⟨Nat.le_of_ble_eq_true rfl, Nat.le_of_ble_eq_true rfl⟩) hK hN hg rfl hl.1 rfl (cat_sum _ (by simp)) dX9_raise_1 ⟨Nat.le_refl 0, Nat.le_refl 0⟩) hg (fun r2 s1 H locs hz3 hm2 h hg => ?_)
  have hm := hm.tn hm2
  refine k_eq (tgt := 30) hx hb dX9_raise_4 (by decide) (z_R hz3) (fun c4 => ?_) (fun c4 => ?_)
  · have h := h.1 c4
    refine lv_aload_n hx hb dX9_raise_30 rfl (lv_at hl 0 rfl) ?_
    refine q_ldc (z := (-2000000002)) hx hb hown (hts (.constant RX9 61 (-2000000002)) (List.mem_cons_of_mem _ (List.mem_append_left _ (List.mem_append_left _ (List.mem_of_getElem? (i := 2) rfl))))) (by decide) dX9_raise_31 ?_
    refine call_i (run_V (a := ea E 21) (As := [.int (iI ((-2000000002)))]) (rest := []) ⟨hx, hb, hml, hown, hts⟩ (ctX9_refuses l E (-2000000002) s1 _ (by decide) h) (cwV 1 hts gX9_raise_X9_refuses rfl rfl rfl ⟨rfl, hdX9_refuses⟩ ⟨Nat.le_of_ble_eq_true rfl, Nat.le_of_ble_eq_true rfl⟩) hK hN hg (recv_x (ci := 9) (C := RX9) (T := TX9) (N := 27) hg hK (by decide) rfl (by decide) rfl) rfl hl.1 rfl (cat_sum _ (by simp)) dX9_raise_33 ⟨Nat.le_refl 0, Nat.le_refl 0⟩) hg (fun r6 s5 H locs hz7 hm2 h hg => ?_)
    have hm := hm.tn hm2
    exact ret_i hx hb hr hlocks hg hz7 hm h dX9_raise_36
  · have h := h.2 c4
    refine lv_iload_n hx hb dX9_raise_7 rfl (lv_at hl 2 rfl) ?_
    refine lv_iload_n hx hb dX9_raise_8 rfl (lv_at hl 3 rfl) ?_
    refine call_z (run_S (As := [.int (iI (a2)), .int (iI (a3))]) (rest := []) ⟨hx, hb, hml, hown, hts⟩ (ctX9_isRange l E a2 a3 s1 _ ha2 ha3 h) (va_cwS 2 hts gX9_raise_X9_isRange rfl rfl rfl hdX9_isRange ⟨Nat.le_of_ble_eq_true rfl, Nat.le_of_ble_eq_true rfl⟩) hK hN hg rfl hl.1 rfl (cat_sum _ (by simp)) dX9_raise_9 ⟨Nat.le_refl 0, Nat.le_refl 0⟩) hg (fun r9 s8 H locs hz10 hm2 h hg => ?_)
    have hm := hm.tn hm2
    refine k_eq (tgt := 30) hx hb dX9_raise_12 (by decide) (z_R hz10) (fun c11 => ?_) (fun c11 => ?_)
    · have h := h.1 c11
      refine lv_aload_n hx hb dX9_raise_30 rfl (lv_at hl 0 rfl) ?_
      refine q_ldc (z := (-2000000002)) hx hb hown (hts (.constant RX9 61 (-2000000002)) (List.mem_cons_of_mem _ (List.mem_append_left _ (List.mem_append_left _ (List.mem_of_getElem? (i := 2) rfl))))) (by decide) dX9_raise_31 ?_
      refine call_i (run_V (a := ea E 21) (As := [.int (iI ((-2000000002)))]) (rest := []) ⟨hx, hb, hml, hown, hts⟩ (ctX9_refuses l E (-2000000002) s8 _ (by decide) h) (cwV 1 hts gX9_raise_X9_refuses rfl rfl rfl ⟨rfl, hdX9_refuses⟩ ⟨Nat.le_of_ble_eq_true rfl, Nat.le_of_ble_eq_true rfl⟩) hK hN hg (recv_x (ci := 9) (C := RX9) (T := TX9) (N := 27) hg hK (by decide) rfl (by decide) rfl) rfl hl.1 rfl (cat_sum _ (by simp)) dX9_raise_33 ⟨Nat.le_refl 0, Nat.le_refl 0⟩) hg (fun r13 s12 H locs hz14 hm2 h hg => ?_)
      have hm := hm.tn hm2
      exact ret_i hx hb hr hlocks hg hz14 hm h dX9_raise_36
    · have h := h.2 c11
      refine lv_iload hx hb dX9_raise_15 (lv_at hl 4 rfl) ?_
      refine q_i2l hx hb ha4 dX9_raise_17 ?_
      refine q_ldc2 (z := (-1000)) hx hb hown (hts (.constantLong RX9 173 (-1000)) (List.mem_cons_of_mem _ (List.mem_append_left _ (List.mem_append_left _ (List.mem_of_getElem? (i := 0) rfl))))) (by decide) dX9_raise_18 ?_
      refine q_ldc2 (z := 1000) hx hb hown (hts (.constantLong RX9 175 (1000)) (List.mem_cons_of_mem _ (List.mem_append_left _ (List.mem_append_left _ (List.mem_of_getElem? (i := 1) rfl))))) (by decide) dX9_raise_21 ?_
      refine call_z (run_S (As := [.long (lI (a4)), .long (lI ((-1000))), .long (lI (1000))]) (rest := []) ⟨hx, hb, hml, hown, hts⟩ (ctX9_in l E a4 (-1000) 1000 s8 _ (R64_of ha4) (by decide) (by decide) h) (va_cwS 3 hts gX9_raise_X9_in rfl rfl rfl hdX9_in ⟨Nat.le_of_ble_eq_true rfl, Nat.le_of_ble_eq_true rfl⟩) hK hN hg rfl hl.1 rfl (cat_sum _ (by simp)) dX9_raise_24 ⟨Nat.le_refl 0, Nat.le_refl 0⟩) hg (fun r16 s15 H locs hz17 hm2 h hg => ?_)
      have hm := hm.tn hm2
      refine k_ne (tgt := 37) hx hb dX9_raise_27 (by decide) (z_R hz17) (fun c18 => ?_) (fun c18 => ?_)
      · have h := h.1 c18
        refine lv_aload_n hx hb dX9_raise_37 rfl (lv_at hl 0 rfl) ?_
        refine call_v (run_V (a := ea E 21) (As := []) (rest := []) ⟨hx, hb, hml, hown, hts⟩ (ctX9_keeps l E  s15 _  h) (cwV 0 hts gX9_raise_X9_keeps rfl rfl rfl ⟨rfl, hdX9_keeps⟩ ⟨Nat.le_of_ble_eq_true rfl, Nat.le_of_ble_eq_true rfl⟩) hK hN hg (recv_x (ci := 9) (C := RX9) (T := TX9) (N := 27) hg hK (by decide) rfl (by decide) rfl) rfl hl.1 rfl (cat_sum _ (by simp)) dX9_raise_38 ⟨Nat.le_refl 0, Nat.le_refl 0⟩) hg (fun s19 H locs hm2 h hg => ?_)
        have hm := hm.tn hm2
        refine lv_aload_n hx hb dX9_raise_41 rfl (lv_at hl 0 rfl) ?_
        refine lv_iload_n hx hb dX9_raise_42 rfl (lv_at hl 1 rfl) ?_
        refine lv_iload_n hx hb dX9_raise_43 rfl (lv_at hl 2 rfl) ?_
        refine call_i (run_V (a := ea E 21) (As := [.int (iI (a1)), .int (iI (a2))]) (rest := []) ⟨hx, hb, hml, hown, hts⟩ (ctX9_below l E a1 a2 s19 _ ha1 ha2 h) (cwV 2 hts gX9_raise_X9_below rfl rfl rfl ⟨rfl, hdX9_below⟩ ⟨Nat.le_of_ble_eq_true rfl, Nat.le_of_ble_eq_true rfl⟩) hK hN hg (recv_x (ci := 9) (C := RX9) (T := TX9) (N := 27) hg hK (by decide) rfl (by decide) rfl) rfl hl.1 rfl (cat_sum _ (by simp)) dX9_raise_44 ⟨Nat.le_refl 0, Nat.le_refl 0⟩) hg (fun r23 s22 H locs hz24 hm2 h hg => ?_)
        have hm := hm.tn hm2
        refine lv_istore (i := 5) (lv' := [(5, .int (iI (r23))), (0, .ref (ea E 21)), (1, .int (iI (a1))), (2, .int (iI (a2))), (3, .int (iI (a3))), (4, .int (iI (a4)))]) hx hb dX9_raise_47 hl (by decide) rfl (fun ls hl => ?_)
        refine lv_aload_n hx hb dX9_raise_49 rfl (lv_at hl 1 rfl) ?_
        refine lv_iload_n hx hb dX9_raise_50 rfl (lv_at hl 2 rfl) ?_
        refine lv_iload_n hx hb dX9_raise_51 rfl (lv_at hl 4 rfl) ?_
        refine lv_iconst (v := iI 1) hx hb dX9_raise_52 (by decide) ?_
        refine q_iadd hx hb dX9_raise_53 ?_
        obtain ⟨hR25, h⟩ := h
        refine call_i (run_V (a := ea E 21) (As := [.int (iI (a1)), .int (iI ((a3 + 1)))]) (rest := []) ⟨hx, hb, hml, hown, hts⟩ (ctX9_below l E a1 (a3 + 1) s22 _ ha1 hR25 h) (cwV 2 hts gX9_raise_X9_below rfl rfl rfl ⟨rfl, hdX9_below⟩ ⟨Nat.le_of_ble_eq_true rfl, Nat.le_of_ble_eq_true rfl⟩) hK hN hg (recv_x (ci := 9) (C := RX9) (T := TX9) (N := 27) hg hK (by decide) rfl (by decide) rfl) rfl hl.1 rfl (cat_sum _ (by simp)) dX9_raise_54 ⟨Nat.le_refl 0, Nat.le_refl 0⟩) hg (fun r27 s26 H locs hz28 hm2 h hg => ?_)
        have hm := hm.tn hm2
        refine lv_istore (i := 6) (lv' := [(6, .int (iI (r27))), (5, .int (iI (r23))), (0, .ref (ea E 21)), (1, .int (iI (a1))), (2, .int (iI (a2))), (3, .int (iI (a3))), (4, .int (iI (a4)))]) hx hb dX9_raise_57 hl (by decide) rfl (fun ls hl => ?_)
        refine lv_iload hx hb dX9_raise_59 (lv_at hl 1 rfl) ?_
        refine lv_istore (i := 7) (lv' := [(7, .int (iI (r23))), (6, .int (iI (r27))), (5, .int (iI (r23))), (0, .ref (ea E 21)), (1, .int (iI (a1))), (2, .int (iI (a2))), (3, .int (iI (a3))), (4, .int (iI (a4)))]) hx hb dX9_raise_61 hl (by decide) rfl (fun ls hl => ?_)
        obtain ⟨kk, h⟩ := h
        exact J63  kk (r23) (r27) (r23) (s26) _ _ _ hg hm (lv_sub hl [3, 4, 7, 2, 1, 0] rfl) h
      · have h := h.2 c18
        refine lv_aload_n hx hb dX9_raise_30 rfl (lv_at hl 0 rfl) ?_
        refine q_ldc (z := (-2000000002)) hx hb hown (hts (.constant RX9 61 (-2000000002)) (List.mem_cons_of_mem _ (List.mem_append_left _ (List.mem_append_left _ (List.mem_of_getElem? (i := 2) rfl))))) (by decide) dX9_raise_31 ?_
        refine call_i (run_V (a := ea E 21) (As := [.int (iI ((-2000000002)))]) (rest := []) ⟨hx, hb, hml, hown, hts⟩ (ctX9_refuses l E (-2000000002) s15 _ (by decide) h) (cwV 1 hts gX9_raise_X9_refuses rfl rfl rfl ⟨rfl, hdX9_refuses⟩ ⟨Nat.le_of_ble_eq_true rfl, Nat.le_of_ble_eq_true rfl⟩) hK hN hg (recv_x (ci := 9) (C := RX9) (T := TX9) (N := 27) hg hK (by decide) rfl (by decide) rfl) rfl hl.1 rfl (cat_sum _ (by simp)) dX9_raise_33 ⟨Nat.le_refl 0, Nat.le_refl 0⟩) hg (fun r30 s29 H locs hz31 hm2 h hg => ?_)
        have hm := hm.tn hm2
        exact ret_i hx hb hr hlocks hg hz31 hm h dX9_raise_36
theorem hdX9_slide : yX9_slide.cls ≠ "java/lang/invoke/MethodHandle" ∧ yX9_slide.cls ≠ "java/lang/invoke/VarHandle" ∧ (parseMethodDescriptor yX9_slide.desc).map (fun d => d.parameters.length) = some 2 := by decide +kernel
set_option maxRecDepth 100000 in
set_option maxHeartbeats 4000000 in
theorem ctX9_slide (l : Launch) (E : Ev) (a1 : Int) (a2 : Int) (σ : SS) (Q : Int → SS → Prop) (ha1 : R32 a1) (ha2 : R32 a2) (h : wX9_slide a1 a2 σ Q) : Met l yX9_slide wsX9_slide ({ frames := 2, cells := 0, slots := 0, locals := 45 } : Room) (Pc E σ [.ref (ea E 21), .int (iI (a1)), .int (iI (a2))]) (Qi E (sz σ) σ Q) 0 0 (Av E) := by
  rw [wX9_slide] at h
  refine Met.ofW (cc := cX9_slide) (maxL := 5) (ret := (some .int)) (by decide) rfl ?_
  intro p e s m args below meth c s₁ B hml hv
  obtain ⟨rfl, hH, hK, hN⟩ := hv
  have hx := B.exec
  have hb := B.bytes
  have hr := B.returns
  have hts := atoms_spec (ws := wsX9_slide) B.pre
  have hown : s.vm.findClass RX9 = some m.cls := findClass_of_methodNamed B.named
  have hlocks := B.notSynchronized
  have hg : GS E σ s s.heap [] := ⟨hH, va_S.rf⟩
  have hm : Mo (sz σ) σ σ := Mo.rf (Nat.le_refl _)
  have hl := ent (vs := [.ref (ea E 21), .int (iI (a1)), .int (iI (a2))]) (n := 5) (cats_x (cats_i (cats_i cats_nil))) (Nat.le_of_ble_eq_true rfl)
  rw [lg_entry_eq]
  generalize (lg_sl ([.ref (ea E 21), .int (iI (a1)), .int (iI (a2))]) ++ List.replicate (5 - (lg_sl ([.ref (ea E 21), .int (iI (a1)), .int (iI (a2))])).length) Slot.unset).toArray = ls at hl ⊢
  have hl : lv_has ls 5 [(0, .ref (ea E 21)), (1, .int (iI (a1))), (2, .int (iI (a2)))] := hl
  have J83 : ∀ (k : Nat), ∀ (v3 : Int) (v4 : Int) (sL : SS) (H : Heap) (locs : List Loc) (ls : Array Slot), GS E sL s H locs → Mo (sz σ) σ sL → lv_has ls 5 [(0, .ref (ea E 21)), (1, .int (iI (a1))), (2, .int (iI (a2))), (3, .int (iI (v3))), (4, .int (iI (v4)))] → wX9_slide_L83 a1 a2 Q  k v3 v4 sL → W p l e (headSpec wsX9_slide ({ frames := 2, cells := 0, slots := 0, locals := 45 } : Room)).room s m (List.toArray [.ref (ea E 21), .int (iI (a1)), .int (iI (a2))]) below meth c H locs 0 0 (MQ below (Qi E (sz σ) σ Q) (List.toArray [.ref (ea E 21), .int (iI (a1)), .int (iI (a2))]) s 0 0 (Av E)) (F0 m 83 ls []) := by
    intro k
    induction k with
    | zero => intro v3 v4 sL H locs ls hg hm hl h; exact False.elim h
    | succ k ih =>
      intro v3 v4 sL H locs ls hg hm hl h
      rw [wX9_slide_L83] at h
      refine lv_iload hx hb dX9_slide_83 (lv_at hl 4 rfl) ?_
      refine lv_iload_n hx hb dX9_slide_85 rfl (lv_at hl 3 rfl) ?_
      obtain ⟨hR48, hR49, h⟩ := h
      refine j_ge (tgt := 127) hx hb dX9_slide_86 (by decide) hR48 hR49 (fun c50 => ?_) (fun c50 => ?_)
      · have h := h.1 c50
        refine lv_iload_n hx hb dX9_slide_127 rfl (lv_at hl 3 rfl) ?_
        exact ret_i hx hb hr hlocks hg hR49 hm h dX9_slide_128
      · have h := h.2 c50
        refine lv_aload_n hx hb dX9_slide_89 rfl (lv_at hl 0 rfl) ?_
        refine q_getx (ci := 9) (C := RX9) (T := TX9) (N := 27) (j := 22) hx hb hts (fun _ h9 => List.mem_cons_of_mem _ (List.mem_append_right _ h9)) hown hK hg 21 (by decide) rfl rfl (by decide) rfl 0 (by decide) (hts (.fieldLink RX9 7 "JoinMapsModel" "rows" "[I") (List.mem_cons_of_mem _ (List.mem_append_left _ (List.mem_append_left _ (List.mem_of_getElem? (i := 5) rfl))))) rfl rfl rfl dX9_slide_90 ?_
        refine lv_sipush (v := iI 200) hx hb dX9_slide_93 (by decide) ?_
        refine lv_iload_n hx hb dX9_slide_96 rfl (lv_at hl 1 rfl) ?_
        refine q_imul hx hb dX9_slide_97 ?_
        refine lv_iload hx hb dX9_slide_98 (lv_at hl 4 rfl) ?_
        refine q_iadd hx hb dX9_slide_100 ?_
        refine lv_aload_n hx hb dX9_slide_101 rfl (lv_at hl 0 rfl) ?_
        refine lv_iload_n hx hb dX9_slide_102 rfl (lv_at hl 1 rfl) ?_
        refine lv_iload hx hb dX9_slide_103 (lv_at hl 4 rfl) ?_
        refine call_i (run_V (a := ea E 21) (As := [.int (iI (a1)), .int (iI (v4))]) (rest := [.int (iI (((200 * a1) + v4))), .ref (ea E 22)]) ⟨hx, hb, hml, hown, hts⟩ (ctX9_keyAt l E a1 v4 sL _ ha1 hR48 h) (cwV 2 hts gX9_slide_X9_keyAt rfl rfl rfl ⟨rfl, hdX9_keyAt⟩ ⟨Nat.le_of_ble_eq_true rfl, Nat.le_of_ble_eq_true rfl⟩) hK hN hg (recv_x (ci := 9) (C := RX9) (T := TX9) (N := 27) hg hK (by decide) rfl (by decide) rfl) rfl hl.1 rfl (cat_sum _ (by simp)) dX9_slide_105 ⟨Nat.le_refl 0, Nat.le_refl 0⟩) hg (fun r52 s51 H locs hz53 hm2 h hg => ?_)
        have hm := hm.tn hm2
        refine lv_iload_n hx hb dX9_slide_108 rfl (lv_at hl 2 rfl) ?_
        refine q_iadd hx hb dX9_slide_109 ?_
        refine lv_aload_n hx hb dX9_slide_110 rfl (lv_at hl 0 rfl) ?_
        refine lv_iload_n hx hb dX9_slide_111 rfl (lv_at hl 1 rfl) ?_
        refine lv_iload hx hb dX9_slide_112 (lv_at hl 4 rfl) ?_
        refine call_i (run_V (a := ea E 21) (As := [.int (iI (a1)), .int (iI (v4))]) (rest := [.int (iI ((r52 + a2))), .int (iI (((200 * a1) + v4))), .ref (ea E 22)]) ⟨hx, hb, hml, hown, hts⟩ (ctX9_valueAt l E a1 v4 s51 _ ha1 hR48 h) (cwV 2 hts gX9_slide_X9_valueAt rfl rfl rfl ⟨rfl, hdX9_valueAt⟩ ⟨Nat.le_of_ble_eq_true rfl, Nat.le_of_ble_eq_true rfl⟩) hK hN hg (recv_x (ci := 9) (C := RX9) (T := TX9) (N := 27) hg hK (by decide) rfl (by decide) rfl) rfl hl.1 rfl (cat_sum _ (by simp)) dX9_slide_114 ⟨Nat.le_refl 0, Nat.le_refl 0⟩) hg (fun r55 s54 H locs hz56 hm2 h hg => ?_)
        have hm := hm.tn hm2
        obtain ⟨hR57, h⟩ := h
        refine call_i (run_S (As := [.int (iI ((r52 + a2))), .int (iI (r55))]) (rest := [.int (iI (((200 * a1) + v4))), .ref (ea E 22)]) ⟨hx, hb, hml, hown, hts⟩ (ctX9_entry l E (r52 + a2) r55 s54 _ hR57 hz56 h) (va_cwS 2 hts gX9_slide_X9_entry rfl rfl rfl hdX9_entry ⟨Nat.le_of_ble_eq_true rfl, Nat.le_of_ble_eq_true rfl⟩) hK hN hg rfl hl.1 rfl (cat_sum _ (by simp)) dX9_slide_117 ⟨Nat.le_refl 0, Nat.le_refl 0⟩) hg (fun r59 s58 H locs hz60 hm2 h hg => ?_)
        have hm := hm.tn hm2
        obtain ⟨hP61, hP62, h⟩ := h
        refine q_iast (N := 1200) hx hb hK hg 22 (by decide) rfl rfl hP61 hP62 (by decide) hz60 dX9_slide_120 (fun H locs hg => ?_)
        refine lv_iinc (v := iI (v4 + 1)) (lv' := [(4, .int (iI (v4 + 1))), (0, .ref (ea E 21)), (1, .int (iI (a1))), (2, .int (iI (a2))), (3, .int (iI (v3)))]) hx hb dX9_slide_121 hl (k := 4) rfl (iI_add _ _) (by decide) rfl (fun ls hl => ?_)
        refine lv_goto (tgt := 83) hx hb dX9_slide_124 (by decide) ?_
        exact ih (v3) (v4 + 1) (un s58 22 (((200 * a1) + v4) : Int).toNat (r59)) _ _ _ hg hm (lv_sub hl [1, 2, 3, 4, 0] rfl) h
  refine lv_iload_n hx hb dX9_slide_0 rfl (lv_at hl 1 rfl) ?_
  refine call_z (run_S (As := [.int (iI (a1))]) (rest := []) ⟨hx, hb, hml, hown, hts⟩ (ctX9_isMap l E a1 σ _ ha1 h) (va_cwS 1 hts gX9_slide_X9_isMap rfl rfl rfl hdX9_isMap ⟨Nat.le_of_ble_eq_true rfl, Nat.le_of_ble_eq_true rfl⟩) hK hN hg rfl hl.1 rfl (cat_sum _ (by simp)) dX9_slide_1 ⟨Nat.le_refl 0, Nat.le_refl 0⟩) hg (fun r2 s1 H locs hz3 hm2 h hg => ?_)
  have hm := hm.tn hm2
  refine k_eq (tgt := 21) hx hb dX9_slide_4 (by decide) (z_R hz3) (fun c4 => ?_) (fun c4 => ?_)
  · have h := h.1 c4
    refine lv_aload_n hx hb dX9_slide_21 rfl (lv_at hl 0 rfl) ?_
    refine q_ldc (z := (-2000000002)) hx hb hown (hts (.constant RX9 61 (-2000000002)) (List.mem_cons_of_mem _ (List.mem_append_left _ (List.mem_append_left _ (List.mem_of_getElem? (i := 2) rfl))))) (by decide) dX9_slide_22 ?_
    refine call_i (run_V (a := ea E 21) (As := [.int (iI ((-2000000002)))]) (rest := []) ⟨hx, hb, hml, hown, hts⟩ (ctX9_refuses l E (-2000000002) s1 _ (by decide) h) (cwV 1 hts gX9_slide_X9_refuses rfl rfl rfl ⟨rfl, hdX9_refuses⟩ ⟨Nat.le_of_ble_eq_true rfl, Nat.le_of_ble_eq_true rfl⟩) hK hN hg (recv_x (ci := 9) (C := RX9) (T := TX9) (N := 27) hg hK (by decide) rfl (by decide) rfl) rfl hl.1 rfl (cat_sum _ (by simp)) dX9_slide_24 ⟨Nat.le_refl 0, Nat.le_refl 0⟩) hg (fun r6 s5 H locs hz7 hm2 h hg => ?_)
    have hm := hm.tn hm2
    exact ret_i hx hb hr hlocks hg hz7 hm h dX9_slide_27
  · have h := h.2 c4
    refine lv_iload_n hx hb dX9_slide_7 rfl (lv_at hl 2 rfl) ?_
    refine q_i2l hx hb ha2 dX9_slide_8 ?_
    refine q_ldc2 (z := (-1000)) hx hb hown (hts (.constantLong RX9 173 (-1000)) (List.mem_cons_of_mem _ (List.mem_append_left _ (List.mem_append_left _ (List.mem_of_getElem? (i := 0) rfl))))) (by decide) dX9_slide_9 ?_
    refine q_ldc2 (z := 1000) hx hb hown (hts (.constantLong RX9 175 (1000)) (List.mem_cons_of_mem _ (List.mem_append_left _ (List.mem_append_left _ (List.mem_of_getElem? (i := 1) rfl))))) (by decide) dX9_slide_12 ?_
    refine call_z (run_S (As := [.long (lI (a2)), .long (lI ((-1000))), .long (lI (1000))]) (rest := []) ⟨hx, hb, hml, hown, hts⟩ (ctX9_in l E a2 (-1000) 1000 s1 _ (R64_of ha2) (by decide) (by decide) h) (va_cwS 3 hts gX9_slide_X9_in rfl rfl rfl hdX9_in ⟨Nat.le_of_ble_eq_true rfl, Nat.le_of_ble_eq_true rfl⟩) hK hN hg rfl hl.1 rfl (cat_sum _ (by simp)) dX9_slide_15 ⟨Nat.le_refl 0, Nat.le_refl 0⟩) hg (fun r9 s8 H locs hz10 hm2 h hg => ?_)
    have hm := hm.tn hm2
    refine k_ne (tgt := 28) hx hb dX9_slide_18 (by decide) (z_R hz10) (fun c11 => ?_) (fun c11 => ?_)
    · have h := h.1 c11
      refine lv_aload_n hx hb dX9_slide_28 rfl (lv_at hl 0 rfl) ?_
      refine q_getx (ci := 9) (C := RX9) (T := TX9) (N := 27) (j := 23) hx hb hts (fun _ h9 => List.mem_cons_of_mem _ (List.mem_append_right _ h9)) hown hK hg 21 (by decide) rfl rfl (by decide) rfl 1 (by decide) (hts (.fieldLink RX9 13 "JoinMapsModel" "sizes" "[I") (List.mem_cons_of_mem _ (List.mem_append_left _ (List.mem_append_left _ (List.mem_of_getElem? (i := 3) rfl))))) rfl rfl rfl dX9_slide_29 ?_
      refine lv_iload_n hx hb dX9_slide_32 rfl (lv_at hl 1 rfl) ?_
      obtain ⟨hP12, hP13, h⟩ := h
      refine q_iald (N := 6) hx hb hK hg 23 (by decide) rfl rfl hP12 hP13 (by decide) dX9_slide_33 ?_
      have hR14 := GS_R hg 23 (a1 : Int).toNat
      refine lv_istore_n (i := 3) (lv' := [(3, .int (iI ((sn s8 23 (a1 : Int).toNat)))), (0, .ref (ea E 21)), (1, .int (iI (a1))), (2, .int (iI (a2)))]) hx hb dX9_slide_34 rfl hl (by decide) rfl (fun ls hl => ?_)
      refine lv_iload_n hx hb dX9_slide_35 rfl (lv_at hl 0 rfl) ?_
      refine k_le (tgt := 76) hx hb dX9_slide_36 (by decide) hR14 (fun c15 => ?_) (fun c15 => ?_)
      · have h := h.1 c15
        refine lv_aload_n hx hb dX9_slide_76 rfl (lv_at hl 1 rfl) ?_
        refine call_v (run_V (a := ea E 21) (As := []) (rest := []) ⟨hx, hb, hml, hown, hts⟩ (ctX9_keeps l E  s8 _  h) (cwV 0 hts gX9_slide_X9_keeps rfl rfl rfl ⟨rfl, hdX9_keeps⟩ ⟨Nat.le_of_ble_eq_true rfl, Nat.le_of_ble_eq_true rfl⟩) hK hN hg (recv_x (ci := 9) (C := RX9) (T := TX9) (N := 27) hg hK (by decide) rfl (by decide) rfl) rfl hl.1 rfl (cat_sum _ (by simp)) dX9_slide_77 ⟨Nat.le_refl 0, Nat.le_refl 0⟩) hg (fun s16 H locs hm2 h hg => ?_)
        have hm := hm.tn hm2
        refine lv_iconst (v := iI 0) hx hb dX9_slide_80 (by decide) ?_
        refine lv_istore (i := 4) (lv' := [(4, .int (iI (0))), (3, .int (iI ((sn s8 23 (a1 : Int).toNat)))), (0, .ref (ea E 21)), (1, .int (iI (a1))), (2, .int (iI (a2)))]) hx hb dX9_slide_81 hl (by decide) rfl (fun ls hl => ?_)
        obtain ⟨kk, h⟩ := h
        exact J83  kk ((sn s8 23 (a1 : Int).toNat)) (0) (s16) _ _ _ hg hm (lv_sub hl [2, 3, 4, 1, 0] rfl) h
      · have h := h.2 c15
        refine lv_aload_n hx hb dX9_slide_39 rfl (lv_at hl 1 rfl) ?_
        refine lv_iload_n hx hb dX9_slide_40 rfl (lv_at hl 2 rfl) ?_
        refine lv_iconst (v := iI 0) hx hb dX9_slide_41 (by decide) ?_
        refine call_i (run_V (a := ea E 21) (As := [.int (iI (a1)), .int (iI (0))]) (rest := []) ⟨hx, hb, hml, hown, hts⟩ (ctX9_keyAt l E a1 0 s8 _ ha1 (by decide) h) (cwV 2 hts gX9_slide_X9_keyAt rfl rfl rfl ⟨rfl, hdX9_keyAt⟩ ⟨Nat.le_of_ble_eq_true rfl, Nat.le_of_ble_eq_true rfl⟩) hK hN hg (recv_x (ci := 9) (C := RX9) (T := TX9) (N := 27) hg hK (by decide) rfl (by decide) rfl) rfl hl.1 rfl (cat_sum _ (by simp)) dX9_slide_42 ⟨Nat.le_refl 0, Nat.le_refl 0⟩) hg (fun r20 s19 H locs hz21 hm2 h hg => ?_)
        have hm := hm.tn hm2
        refine lv_iload_n hx hb dX9_slide_45 rfl (lv_at hl 3 rfl) ?_
        refine q_iadd hx hb dX9_slide_46 ?_
        obtain ⟨hR22, h⟩ := h
        refine call_z (run_S (As := [.int (iI ((r20 + a2)))]) (rest := []) ⟨hx, hb, hml, hown, hts⟩ (ctX9_isKey l E (r20 + a2) s19 _ hR22 h) (va_cwS 1 hts gX9_slide_X9_isKey rfl rfl rfl hdX9_isKey ⟨Nat.le_of_ble_eq_true rfl, Nat.le_of_ble_eq_true rfl⟩) hK hN hg rfl hl.1 rfl (cat_sum _ (by simp)) dX9_slide_47 ⟨Nat.le_refl 0, Nat.le_refl 0⟩) hg (fun r24 s23 H locs hz25 hm2 h hg => ?_)
        have hm := hm.tn hm2
        refine k_eq (tgt := 69) hx hb dX9_slide_50 (by decide) (z_R hz25) (fun c26 => ?_) (fun c26 => ?_)
        · have h := h.1 c26
          refine lv_aload_n hx hb dX9_slide_69 rfl (lv_at hl 1 rfl) ?_
          refine q_ldc (z := (-2000000003)) hx hb hown (hts (.constant RX9 125 (-2000000003)) (List.mem_cons_of_mem _ (List.mem_append_left _ (List.mem_append_left _ (List.mem_of_getElem? (i := 4) rfl))))) (by decide) dX9_slide_70 ?_
          refine call_i (run_V (a := ea E 21) (As := [.int (iI ((-2000000003)))]) (rest := []) ⟨hx, hb, hml, hown, hts⟩ (ctX9_refuses l E (-2000000003) s23 _ (by decide) h) (cwV 1 hts gX9_slide_X9_refuses rfl rfl rfl ⟨rfl, hdX9_refuses⟩ ⟨Nat.le_of_ble_eq_true rfl, Nat.le_of_ble_eq_true rfl⟩) hK hN hg (recv_x (ci := 9) (C := RX9) (T := TX9) (N := 27) hg hK (by decide) rfl (by decide) rfl) rfl hl.1 rfl (cat_sum _ (by simp)) dX9_slide_72 ⟨Nat.le_refl 0, Nat.le_refl 0⟩) hg (fun r28 s27 H locs hz29 hm2 h hg => ?_)
          have hm := hm.tn hm2
          exact ret_i hx hb hr hlocks hg hz29 hm h dX9_slide_75
        · have h := h.2 c26
          refine lv_aload_n hx hb dX9_slide_53 rfl (lv_at hl 1 rfl) ?_
          refine lv_iload_n hx hb dX9_slide_54 rfl (lv_at hl 2 rfl) ?_
          refine lv_iload_n hx hb dX9_slide_55 rfl (lv_at hl 0 rfl) ?_
          refine lv_iconst (v := iI 1) hx hb dX9_slide_56 (by decide) ?_
          refine q_isub hx hb dX9_slide_57 ?_
          obtain ⟨hR30, h⟩ := h
          refine call_i (run_V (a := ea E 21) (As := [.int (iI (a1)), .int (iI (((sn s8 23 (a1 : Int).toNat) - 1)))]) (rest := []) ⟨hx, hb, hml, hown, hts⟩ (ctX9_keyAt l E a1 ((sn s8 23 (a1 : Int).toNat) - 1) s23 _ ha1 hR30 h) (cwV 2 hts gX9_slide_X9_keyAt rfl rfl rfl ⟨rfl, hdX9_keyAt⟩ ⟨Nat.le_of_ble_eq_true rfl, Nat.le_of_ble_eq_true rfl⟩) hK hN hg (recv_x (ci := 9) (C := RX9) (T := TX9) (N := 27) hg hK (by decide) rfl (by decide) rfl) rfl hl.1 rfl (cat_sum _ (by simp)) dX9_slide_58 ⟨Nat.le_refl 0, Nat.le_refl 0⟩) hg (fun r32 s31 H locs hz33 hm2 h hg => ?_)
          have hm := hm.tn hm2
          refine lv_iload_n hx hb dX9_slide_61 rfl (lv_at hl 3 rfl) ?_
          refine q_iadd hx hb dX9_slide_62 ?_
          obtain ⟨hR34, h⟩ := h
          refine call_z (run_S (As := [.int (iI ((r32 + a2)))]) (rest := []) ⟨hx, hb, hml, hown, hts⟩ (ctX9_isKey l E (r32 + a2) s31 _ hR34 h) (va_cwS 1 hts gX9_slide_X9_isKey rfl rfl rfl hdX9_isKey ⟨Nat.le_of_ble_eq_true rfl, Nat.le_of_ble_eq_true rfl⟩) hK hN hg rfl hl.1 rfl (cat_sum _ (by simp)) dX9_slide_63 ⟨Nat.le_refl 0, Nat.le_refl 0⟩) hg (fun r36 s35 H locs hz37 hm2 h hg => ?_)
          have hm := hm.tn hm2
          refine k_ne (tgt := 76) hx hb dX9_slide_66 (by decide) (z_R hz37) (fun c38 => ?_) (fun c38 => ?_)
          · have h := h.1 c38
            refine lv_aload_n hx hb dX9_slide_76 rfl (lv_at hl 1 rfl) ?_
            refine call_v (run_V (a := ea E 21) (As := []) (rest := []) ⟨hx, hb, hml, hown, hts⟩ (ctX9_keeps l E  s35 _  h) (cwV 0 hts gX9_slide_X9_keeps rfl rfl rfl ⟨rfl, hdX9_keeps⟩ ⟨Nat.le_of_ble_eq_true rfl, Nat.le_of_ble_eq_true rfl⟩) hK hN hg (recv_x (ci := 9) (C := RX9) (T := TX9) (N := 27) hg hK (by decide) rfl (by decide) rfl) rfl hl.1 rfl (cat_sum _ (by simp)) dX9_slide_77 ⟨Nat.le_refl 0, Nat.le_refl 0⟩) hg (fun s39 H locs hm2 h hg => ?_)
            have hm := hm.tn hm2
            refine lv_iconst (v := iI 0) hx hb dX9_slide_80 (by decide) ?_
            refine lv_istore (i := 4) (lv' := [(4, .int (iI (0))), (3, .int (iI ((sn s8 23 (a1 : Int).toNat)))), (0, .ref (ea E 21)), (1, .int (iI (a1))), (2, .int (iI (a2)))]) hx hb dX9_slide_81 hl (by decide) rfl (fun ls hl => ?_)
            obtain ⟨kk, h⟩ := h
            exact J83  kk ((sn s8 23 (a1 : Int).toNat)) (0) (s39) _ _ _ hg hm (lv_sub hl [2, 3, 4, 1, 0] rfl) h
          · have h := h.2 c38
            refine lv_aload_n hx hb dX9_slide_69 rfl (lv_at hl 1 rfl) ?_
            refine q_ldc (z := (-2000000003)) hx hb hown (hts (.constant RX9 125 (-2000000003)) (List.mem_cons_of_mem _ (List.mem_append_left _ (List.mem_append_left _ (List.mem_of_getElem? (i := 4) rfl))))) (by decide) dX9_slide_70 ?_
            refine call_i (run_V (a := ea E 21) (As := [.int (iI ((-2000000003)))]) (rest := []) ⟨hx, hb, hml, hown, hts⟩ (ctX9_refuses l E (-2000000003) s35 _ (by decide) h) (cwV 1 hts gX9_slide_X9_refuses rfl rfl rfl ⟨rfl, hdX9_refuses⟩ ⟨Nat.le_of_ble_eq_true rfl, Nat.le_of_ble_eq_true rfl⟩) hK hN hg (recv_x (ci := 9) (C := RX9) (T := TX9) (N := 27) hg hK (by decide) rfl (by decide) rfl) rfl hl.1 rfl (cat_sum _ (by simp)) dX9_slide_72 ⟨Nat.le_refl 0, Nat.le_refl 0⟩) hg (fun r43 s42 H locs hz44 hm2 h hg => ?_)
            have hm := hm.tn hm2
            exact ret_i hx hb hr hlocks hg hz44 hm h dX9_slide_75
    · have h := h.2 c11
      refine lv_aload_n hx hb dX9_slide_21 rfl (lv_at hl 0 rfl) ?_
      refine q_ldc (z := (-2000000002)) hx hb hown (hts (.constant RX9 61 (-2000000002)) (List.mem_cons_of_mem _ (List.mem_append_left _ (List.mem_append_left _ (List.mem_of_getElem? (i := 2) rfl))))) (by decide) dX9_slide_22 ?_
      refine call_i (run_V (a := ea E 21) (As := [.int (iI ((-2000000002)))]) (rest := []) ⟨hx, hb, hml, hown, hts⟩ (ctX9_refuses l E (-2000000002) s8 _ (by decide) h) (cwV 1 hts gX9_slide_X9_refuses rfl rfl rfl ⟨rfl, hdX9_refuses⟩ ⟨Nat.le_of_ble_eq_true rfl, Nat.le_of_ble_eq_true rfl⟩) hK hN hg (recv_x (ci := 9) (C := RX9) (T := TX9) (N := 27) hg hK (by decide) rfl (by decide) rfl) rfl hl.1 rfl (cat_sum _ (by simp)) dX9_slide_24 ⟨Nat.le_refl 0, Nat.le_refl 0⟩) hg (fun r46 s45 H locs hz47 hm2 h hg => ?_)
      have hm := hm.tn hm2
      exact ret_i hx hb hr hlocks hg hz47 hm h dX9_slide_27
theorem hdX9_zip : yX9_zip.cls ≠ "java/lang/invoke/MethodHandle" ∧ yX9_zip.cls ≠ "java/lang/invoke/VarHandle" ∧ (parseMethodDescriptor yX9_zip.desc).map (fun d => d.parameters.length) = some 3 := by decide +kernel
set_option maxRecDepth 100000 in
set_option maxHeartbeats 4000000 in
theorem ctX9_zip (l : Launch) (E : Ev) (a1 : Int) (a2 : Int) (a3 : Int) (σ : SS) (Q : Int → SS → Prop) (ha1 : R32 a1) (ha2 : R32 a2) (ha3 : R32 a3) (h : wX9_zip a1 a2 a3 σ Q) : Met l yX9_zip wsX9_zip ({ frames := 2, cells := 0, slots := 0, locals := 45 } : Room) (Pc E σ [.ref (ea E 21), .int (iI (a1)), .int (iI (a2)), .int (iI (a3))]) (Qi E (sz σ) σ Q) 0 0 (Av E) := by
  rw [wX9_zip] at h
  refine Met.ofW (cc := cX9_zip) (maxL := 6) (ret := (some .int)) (by decide) rfl ?_
  intro p e s m args below meth c s₁ B hml hv
  obtain ⟨rfl, hH, hK, hN⟩ := hv
  have hx := B.exec
  have hb := B.bytes
  have hr := B.returns
  have hts := atoms_spec (ws := wsX9_zip) B.pre
  have hown : s.vm.findClass RX9 = some m.cls := findClass_of_methodNamed B.named
  have hlocks := B.notSynchronized
  have hg : GS E σ s s.heap [] := ⟨hH, va_S.rf⟩
  have hm : Mo (sz σ) σ σ := Mo.rf (Nat.le_refl _)
  have hl := ent (vs := [.ref (ea E 21), .int (iI (a1)), .int (iI (a2)), .int (iI (a3))]) (n := 6) (cats_x (cats_i (cats_i (cats_i cats_nil)))) (Nat.le_of_ble_eq_true rfl)
  rw [lg_entry_eq]
  generalize (lg_sl ([.ref (ea E 21), .int (iI (a1)), .int (iI (a2)), .int (iI (a3))]) ++ List.replicate (6 - (lg_sl ([.ref (ea E 21), .int (iI (a1)), .int (iI (a2)), .int (iI (a3))])).length) Slot.unset).toArray = ls at hl ⊢
  have hl : lv_has ls 6 [(0, .ref (ea E 21)), (1, .int (iI (a1))), (2, .int (iI (a2))), (3, .int (iI (a3)))] := hl
  have J67 : ∀ (k : Nat), ∀ (v4 : Int) (v5 : Int) (sL : SS) (H : Heap) (locs : List Loc) (ls : Array Slot), GS E sL s H locs → Mo (sz σ) σ sL → lv_has ls 6 [(0, .ref (ea E 21)), (1, .int (iI (a1))), (2, .int (iI (a2))), (3, .int (iI (a3))), (4, .int (iI (v4))), (5, .int (iI (v5)))] → wX9_zip_L67 a1 a2 a3 Q  k v4 v5 sL → W p l e (headSpec wsX9_zip ({ frames := 2, cells := 0, slots := 0, locals := 45 } : Room)).room s m (List.toArray [.ref (ea E 21), .int (iI (a1)), .int (iI (a2)), .int (iI (a3))]) below meth c H locs 0 0 (MQ below (Qi E (sz σ) σ Q) (List.toArray [.ref (ea E 21), .int (iI (a1)), .int (iI (a2)), .int (iI (a3))]) s 0 0 (Av E)) (F0 m 67 ls []) := by
    intro k
    induction k with
    | zero => intro v4 v5 sL H locs ls hg hm hl h; exact False.elim h
    | succ k ih =>
      intro v4 v5 sL H locs ls hg hm hl h
      rw [wX9_zip_L67] at h
      refine lv_iload hx hb dX9_zip_67 (lv_at hl 5 rfl) ?_
      refine lv_iload hx hb dX9_zip_69 (lv_at hl 4 rfl) ?_
      obtain ⟨hR38, hR39, h⟩ := h
      refine j_ge (tgt := 104) hx hb dX9_zip_71 (by decide) hR38 hR39 (fun c40 => ?_) (fun c40 => ?_)
      · have h := h.1 c40
        refine lv_aload_n hx hb dX9_zip_104 rfl (lv_at hl 0 rfl) ?_
        refine lv_iload_n hx hb dX9_zip_105 rfl (lv_at hl 3 rfl) ?_
        refine lv_iload hx hb dX9_zip_106 (lv_at hl 4 rfl) ?_
        refine call_v (run_V (a := ea E 21) (As := [.int (iI (a3)), .int (iI (v4))]) (rest := []) ⟨hx, hb, hml, hown, hts⟩ (ctX9_becomes l E a3 v4 sL _ ha3 hR39 h) (cwV 2 hts gX9_zip_X9_becomes rfl rfl rfl ⟨rfl, hdX9_becomes⟩ ⟨Nat.le_of_ble_eq_true rfl, Nat.le_of_ble_eq_true rfl⟩) hK hN hg (recv_x (ci := 9) (C := RX9) (T := TX9) (N := 27) hg hK (by decide) rfl (by decide) rfl) rfl hl.1 rfl (cat_sum _ (by simp)) dX9_zip_108 ⟨Nat.le_refl 0, Nat.le_refl 0⟩) hg (fun s41 H locs hm2 h hg => ?_)
        have hm := hm.tn hm2
        refine lv_iload hx hb dX9_zip_111 (lv_at hl 4 rfl) ?_
        exact ret_i hx hb hr hlocks hg hR39 hm h dX9_zip_113
      · have h := h.2 c40
        refine lv_aload_n hx hb dX9_zip_74 rfl (lv_at hl 0 rfl) ?_
        refine q_getx (ci := 9) (C := RX9) (T := TX9) (N := 27) (j := 28) hx hb hts (fun _ h9 => List.mem_cons_of_mem _ (List.mem_append_right _ h9)) hown hK hg 21 (by decide) rfl rfl (by decide) rfl 7 (by decide) (hts (.fieldLink RX9 28 "JoinMapsModel" "made" "[I") (List.mem_cons_of_mem _ (List.mem_append_left _ (List.mem_append_left _ (List.mem_of_getElem? (i := 2) rfl))))) rfl rfl rfl dX9_zip_75 ?_
        refine lv_iload hx hb dX9_zip_78 (lv_at hl 5 rfl) ?_
        refine lv_aload_n hx hb dX9_zip_80 rfl (lv_at hl 0 rfl) ?_
        refine lv_iload_n hx hb dX9_zip_81 rfl (lv_at hl 1 rfl) ?_
        refine lv_iload hx hb dX9_zip_82 (lv_at hl 5 rfl) ?_
        refine call_i (run_V (a := ea E 21) (As := [.int (iI (a1)), .int (iI (v5))]) (rest := [.int (iI (v5)), .ref (ea E 28)]) ⟨hx, hb, hml, hown, hts⟩ (ctX9_keyAt l E a1 v5 sL _ ha1 hR38 h) (cwV 2 hts gX9_zip_X9_keyAt rfl rfl rfl ⟨rfl, hdX9_keyAt⟩ ⟨Nat.le_of_ble_eq_true rfl, Nat.le_of_ble_eq_true rfl⟩) hK hN hg (recv_x (ci := 9) (C := RX9) (T := TX9) (N := 27) hg hK (by decide) rfl (by decide) rfl) rfl hl.1 rfl (cat_sum _ (by simp)) dX9_zip_84 ⟨Nat.le_refl 0, Nat.le_refl 0⟩) hg (fun r45 s44 H locs hz46 hm2 h hg => ?_)
        have hm := hm.tn hm2
        refine lv_aload_n hx hb dX9_zip_87 rfl (lv_at hl 0 rfl) ?_
        refine lv_iload_n hx hb dX9_zip_88 rfl (lv_at hl 2 rfl) ?_
        refine lv_iload hx hb dX9_zip_89 (lv_at hl 5 rfl) ?_
        refine call_i (run_V (a := ea E 21) (As := [.int (iI (a2)), .int (iI (v5))]) (rest := [.int (iI (r45)), .int (iI (v5)), .ref (ea E 28)]) ⟨hx, hb, hml, hown, hts⟩ (ctX9_keyAt l E a2 v5 s44 _ ha2 hR38 h) (cwV 2 hts gX9_zip_X9_keyAt rfl rfl rfl ⟨rfl, hdX9_keyAt⟩ ⟨Nat.le_of_ble_eq_true rfl, Nat.le_of_ble_eq_true rfl⟩) hK hN hg (recv_x (ci := 9) (C := RX9) (T := TX9) (N := 27) hg hK (by decide) rfl (by decide) rfl) rfl hl.1 rfl (cat_sum _ (by simp)) dX9_zip_91 ⟨Nat.le_refl 0, Nat.le_refl 0⟩) hg (fun r48 s47 H locs hz49 hm2 h hg => ?_)
        have hm := hm.tn hm2
        refine call_i (run_S (As := [.int (iI (r45)), .int (iI (r48))]) (rest := [.int (iI (v5)), .ref (ea E 28)]) ⟨hx, hb, hml, hown, hts⟩ (ctX9_entry l E r45 r48 s47 _ hz46 hz49 h) (va_cwS 2 hts gX9_zip_X9_entry rfl rfl rfl hdX9_entry ⟨Nat.le_of_ble_eq_true rfl, Nat.le_of_ble_eq_true rfl⟩) hK hN hg rfl hl.1 rfl (cat_sum _ (by simp)) dX9_zip_94 ⟨Nat.le_refl 0, Nat.le_refl 0⟩) hg (fun r51 s50 H locs hz52 hm2 h hg => ?_)
        have hm := hm.tn hm2
        obtain ⟨hP53, hP54, h⟩ := h
        refine q_iast (N := 201) hx hb hK hg 28 (by decide) rfl rfl hP53 hP54 (by decide) hz52 dX9_zip_97 (fun H locs hg => ?_)
        refine lv_iinc (v := iI (v5 + 1)) (lv' := [(5, .int (iI (v5 + 1))), (0, .ref (ea E 21)), (1, .int (iI (a1))), (2, .int (iI (a2))), (3, .int (iI (a3))), (4, .int (iI (v4)))]) hx hb dX9_zip_98 hl (k := 5) rfl (iI_add _ _) (by decide) rfl (fun ls hl => ?_)
        refine lv_goto (tgt := 67) hx hb dX9_zip_101 (by decide) ?_
        exact ih (v4) (v5 + 1) (un s50 28 (v5 : Int).toNat (r51)) _ _ _ hg hm (lv_sub hl [1, 2, 3, 4, 5, 0] rfl) h
  refine lv_iload_n hx hb dX9_zip_0 rfl (lv_at hl 1 rfl) ?_
  refine call_z (run_S (As := [.int (iI (a1))]) (rest := []) ⟨hx, hb, hml, hown, hts⟩ (ctX9_isMap l E a1 σ _ ha1 h) (va_cwS 1 hts gX9_zip_X9_isMap rfl rfl rfl hdX9_isMap ⟨Nat.le_of_ble_eq_true rfl, Nat.le_of_ble_eq_true rfl⟩) hK hN hg rfl hl.1 rfl (cat_sum _ (by simp)) dX9_zip_1 ⟨Nat.le_refl 0, Nat.le_refl 0⟩) hg (fun r2 s1 H locs hz3 hm2 h hg => ?_)
  have hm := hm.tn hm2
  refine k_eq (tgt := 21) hx hb dX9_zip_4 (by decide) (z_R hz3) (fun c4 => ?_) (fun c4 => ?_)
  · have h := h.1 c4
    refine lv_aload_n hx hb dX9_zip_21 rfl (lv_at hl 0 rfl) ?_
    refine q_ldc (z := (-2000000002)) hx hb hown (hts (.constant RX9 61 (-2000000002)) (List.mem_cons_of_mem _ (List.mem_append_left _ (List.mem_append_left _ (List.mem_of_getElem? (i := 0) rfl))))) (by decide) dX9_zip_22 ?_
    refine call_i (run_V (a := ea E 21) (As := [.int (iI ((-2000000002)))]) (rest := []) ⟨hx, hb, hml, hown, hts⟩ (ctX9_refuses l E (-2000000002) s1 _ (by decide) h) (cwV 1 hts gX9_zip_X9_refuses rfl rfl rfl ⟨rfl, hdX9_refuses⟩ ⟨Nat.le_of_ble_eq_true rfl, Nat.le_of_ble_eq_true rfl⟩) hK hN hg (recv_x (ci := 9) (C := RX9) (T := TX9) (N := 27) hg hK (by decide) rfl (by decide) rfl) rfl hl.1 rfl (cat_sum _ (by simp)) dX9_zip_24 ⟨Nat.le_refl 0, Nat.le_refl 0⟩) hg (fun r6 s5 H locs hz7 hm2 h hg => ?_)
    have hm := hm.tn hm2
    exact ret_i hx hb hr hlocks hg hz7 hm h dX9_zip_27
  · have h := h.2 c4
    refine lv_iload_n hx hb dX9_zip_7 rfl (lv_at hl 2 rfl) ?_
    refine call_z (run_S (As := [.int (iI (a2))]) (rest := []) ⟨hx, hb, hml, hown, hts⟩ (ctX9_isMap l E a2 s1 _ ha2 h) (va_cwS 1 hts gX9_zip_X9_isMap rfl rfl rfl hdX9_isMap ⟨Nat.le_of_ble_eq_true rfl, Nat.le_of_ble_eq_true rfl⟩) hK hN hg rfl hl.1 rfl (cat_sum _ (by simp)) dX9_zip_8 ⟨Nat.le_refl 0, Nat.le_refl 0⟩) hg (fun r9 s8 H locs hz10 hm2 h hg => ?_)
    have hm := hm.tn hm2
    refine k_eq (tgt := 21) hx hb dX9_zip_11 (by decide) (z_R hz10) (fun c11 => ?_) (fun c11 => ?_)
    · have h := h.1 c11
      refine lv_aload_n hx hb dX9_zip_21 rfl (lv_at hl 0 rfl) ?_
      refine q_ldc (z := (-2000000002)) hx hb hown (hts (.constant RX9 61 (-2000000002)) (List.mem_cons_of_mem _ (List.mem_append_left _ (List.mem_append_left _ (List.mem_of_getElem? (i := 0) rfl))))) (by decide) dX9_zip_22 ?_
      refine call_i (run_V (a := ea E 21) (As := [.int (iI ((-2000000002)))]) (rest := []) ⟨hx, hb, hml, hown, hts⟩ (ctX9_refuses l E (-2000000002) s8 _ (by decide) h) (cwV 1 hts gX9_zip_X9_refuses rfl rfl rfl ⟨rfl, hdX9_refuses⟩ ⟨Nat.le_of_ble_eq_true rfl, Nat.le_of_ble_eq_true rfl⟩) hK hN hg (recv_x (ci := 9) (C := RX9) (T := TX9) (N := 27) hg hK (by decide) rfl (by decide) rfl) rfl hl.1 rfl (cat_sum _ (by simp)) dX9_zip_24 ⟨Nat.le_refl 0, Nat.le_refl 0⟩) hg (fun r13 s12 H locs hz14 hm2 h hg => ?_)
      have hm := hm.tn hm2
      exact ret_i hx hb hr hlocks hg hz14 hm h dX9_zip_27
    · have h := h.2 c11
      refine lv_iload_n hx hb dX9_zip_14 rfl (lv_at hl 3 rfl) ?_
      refine call_z (run_S (As := [.int (iI (a3))]) (rest := []) ⟨hx, hb, hml, hown, hts⟩ (ctX9_isMap l E a3 s8 _ ha3 h) (va_cwS 1 hts gX9_zip_X9_isMap rfl rfl rfl hdX9_isMap ⟨Nat.le_of_ble_eq_true rfl, Nat.le_of_ble_eq_true rfl⟩) hK hN hg rfl hl.1 rfl (cat_sum _ (by simp)) dX9_zip_15 ⟨Nat.le_refl 0, Nat.le_refl 0⟩) hg (fun r16 s15 H locs hz17 hm2 h hg => ?_)
      have hm := hm.tn hm2
      refine k_ne (tgt := 28) hx hb dX9_zip_18 (by decide) (z_R hz17) (fun c18 => ?_) (fun c18 => ?_)
      · have h := h.1 c18
        refine lv_aload_n hx hb dX9_zip_28 rfl (lv_at hl 0 rfl) ?_
        refine call_v (run_V (a := ea E 21) (As := []) (rest := []) ⟨hx, hb, hml, hown, hts⟩ (ctX9_keeps l E  s15 _  h) (cwV 0 hts gX9_zip_X9_keeps rfl rfl rfl ⟨rfl, hdX9_keeps⟩ ⟨Nat.le_of_ble_eq_true rfl, Nat.le_of_ble_eq_true rfl⟩) hK hN hg (recv_x (ci := 9) (C := RX9) (T := TX9) (N := 27) hg hK (by decide) rfl (by decide) rfl) rfl hl.1 rfl (cat_sum _ (by simp)) dX9_zip_29 ⟨Nat.le_refl 0, Nat.le_refl 0⟩) hg (fun s19 H locs hm2 h hg => ?_)
        have hm := hm.tn hm2
        refine lv_aload_n hx hb dX9_zip_32 rfl (lv_at hl 0 rfl) ?_
        refine q_getx (ci := 9) (C := RX9) (T := TX9) (N := 27) (j := 23) hx hb hts (fun _ h9 => List.mem_cons_of_mem _ (List.mem_append_right _ h9)) hown hK hg 21 (by decide) rfl rfl (by decide) rfl 1 (by decide) (hts (.fieldLink RX9 13 "JoinMapsModel" "sizes" "[I") (List.mem_cons_of_mem _ (List.mem_append_left _ (List.mem_append_left _ (List.mem_of_getElem? (i := 1) rfl))))) rfl rfl rfl dX9_zip_33 ?_
        refine lv_iload_n hx hb dX9_zip_36 rfl (lv_at hl 1 rfl) ?_
        obtain ⟨hP22, hP23, h⟩ := h
        refine q_iald (N := 6) hx hb hK hg 23 (by decide) rfl rfl hP22 hP23 (by decide) dX9_zip_37 ?_
        have hR24 := GS_R hg 23 (a1 : Int).toNat
        refine lv_aload_n hx hb dX9_zip_38 rfl (lv_at hl 0 rfl) ?_
        refine q_getx (ci := 9) (C := RX9) (T := TX9) (N := 27) (j := 23) hx hb hts (fun _ h9 => List.mem_cons_of_mem _ (List.mem_append_right _ h9)) hown hK hg 21 (by decide) rfl rfl (by decide) rfl 1 (by decide) (hts (.fieldLink RX9 13 "JoinMapsModel" "sizes" "[I") (List.mem_cons_of_mem _ (List.mem_append_left _ (List.mem_append_left _ (List.mem_of_getElem? (i := 1) rfl))))) rfl rfl rfl dX9_zip_39 ?_
        refine lv_iload_n hx hb dX9_zip_42 rfl (lv_at hl 2 rfl) ?_
        obtain ⟨hP25, hP26, h⟩ := h
        refine q_iald (N := 6) hx hb hK hg 23 (by decide) rfl rfl hP25 hP26 (by decide) dX9_zip_43 ?_
        have hR27 := GS_R hg 23 (a2 : Int).toNat
        refine j_ge (tgt := 56) hx hb dX9_zip_44 (by decide) hR24 hR27 (fun c28 => ?_) (fun c28 => ?_)
        · have h := h.1 c28
          refine lv_aload_n hx hb dX9_zip_56 rfl (lv_at hl 0 rfl) ?_
          refine q_getx (ci := 9) (C := RX9) (T := TX9) (N := 27) (j := 23) hx hb hts (fun _ h9 => List.mem_cons_of_mem _ (List.mem_append_right _ h9)) hown hK hg 21 (by decide) rfl rfl (by decide) rfl 1 (by decide) (hts (.fieldLink RX9 13 "JoinMapsModel" "sizes" "[I") (List.mem_cons_of_mem _ (List.mem_append_left _ (List.mem_append_left _ (List.mem_of_getElem? (i := 1) rfl))))) rfl rfl rfl dX9_zip_57 ?_
          refine lv_iload_n hx hb dX9_zip_60 rfl (lv_at hl 2 rfl) ?_
          obtain ⟨hP29, hP30, h⟩ := h
          refine q_iald (N := 6) hx hb hK hg 23 (by decide) rfl rfl hP29 hP30 (by decide) dX9_zip_61 ?_
          have hR31 := GS_R hg 23 (a2 : Int).toNat
          refine lv_istore (i := 4) (lv' := [(4, .int (iI ((sn s19 23 (a2 : Int).toNat)))), (0, .ref (ea E 21)), (1, .int (iI (a1))), (2, .int (iI (a2))), (3, .int (iI (a3)))]) hx hb dX9_zip_62 hl (by decide) rfl (fun ls hl => ?_)
          refine lv_iconst (v := iI 0) hx hb dX9_zip_64 (by decide) ?_
          refine lv_istore (i := 5) (lv' := [(5, .int (iI (0))), (4, .int (iI ((sn s19 23 (a2 : Int).toNat)))), (0, .ref (ea E 21)), (1, .int (iI (a1))), (2, .int (iI (a2))), (3, .int (iI (a3)))]) hx hb dX9_zip_65 hl (by decide) rfl (fun ls hl => ?_)
          obtain ⟨kk, h⟩ := h
          exact J67  kk ((sn s19 23 (a2 : Int).toNat)) (0) (s19) _ _ _ hg hm (lv_sub hl [2, 3, 4, 5, 1, 0] rfl) h
        · have h := h.2 c28
          refine lv_aload_n hx hb dX9_zip_47 rfl (lv_at hl 0 rfl) ?_
          refine q_getx (ci := 9) (C := RX9) (T := TX9) (N := 27) (j := 23) hx hb hts (fun _ h9 => List.mem_cons_of_mem _ (List.mem_append_right _ h9)) hown hK hg 21 (by decide) rfl rfl (by decide) rfl 1 (by decide) (hts (.fieldLink RX9 13 "JoinMapsModel" "sizes" "[I") (List.mem_cons_of_mem _ (List.mem_append_left _ (List.mem_append_left _ (List.mem_of_getElem? (i := 1) rfl))))) rfl rfl rfl dX9_zip_48 ?_
          refine lv_iload_n hx hb dX9_zip_51 rfl (lv_at hl 1 rfl) ?_
          obtain ⟨hP32, hP33, h⟩ := h
          refine q_iald (N := 6) hx hb hK hg 23 (by decide) rfl rfl hP32 hP33 (by decide) dX9_zip_52 ?_
          have hR34 := GS_R hg 23 (a1 : Int).toNat
          refine lv_goto (tgt := 62) hx hb dX9_zip_53 (by decide) ?_
          refine lv_istore (i := 4) (lv' := [(4, .int (iI ((sn s19 23 (a1 : Int).toNat)))), (0, .ref (ea E 21)), (1, .int (iI (a1))), (2, .int (iI (a2))), (3, .int (iI (a3)))]) hx hb dX9_zip_62 hl (by decide) rfl (fun ls hl => ?_)
          refine lv_iconst (v := iI 0) hx hb dX9_zip_64 (by decide) ?_
          refine lv_istore (i := 5) (lv' := [(5, .int (iI (0))), (4, .int (iI ((sn s19 23 (a1 : Int).toNat)))), (0, .ref (ea E 21)), (1, .int (iI (a1))), (2, .int (iI (a2))), (3, .int (iI (a3)))]) hx hb dX9_zip_65 hl (by decide) rfl (fun ls hl => ?_)
          obtain ⟨kk, h⟩ := h
          exact J67  kk ((sn s19 23 (a1 : Int).toNat)) (0) (s19) _ _ _ hg hm (lv_sub hl [2, 3, 4, 5, 1, 0] rfl) h
      · have h := h.2 c18
        refine lv_aload_n hx hb dX9_zip_21 rfl (lv_at hl 0 rfl) ?_
        refine q_ldc (z := (-2000000002)) hx hb hown (hts (.constant RX9 61 (-2000000002)) (List.mem_cons_of_mem _ (List.mem_append_left _ (List.mem_append_left _ (List.mem_of_getElem? (i := 0) rfl))))) (by decide) dX9_zip_22 ?_
        refine call_i (run_V (a := ea E 21) (As := [.int (iI ((-2000000002)))]) (rest := []) ⟨hx, hb, hml, hown, hts⟩ (ctX9_refuses l E (-2000000002) s15 _ (by decide) h) (cwV 1 hts gX9_zip_X9_refuses rfl rfl rfl ⟨rfl, hdX9_refuses⟩ ⟨Nat.le_of_ble_eq_true rfl, Nat.le_of_ble_eq_true rfl⟩) hK hN hg (recv_x (ci := 9) (C := RX9) (T := TX9) (N := 27) hg hK (by decide) rfl (by decide) rfl) rfl hl.1 rfl (cat_sum _ (by simp)) dX9_zip_24 ⟨Nat.le_refl 0, Nat.le_refl 0⟩) hg (fun r36 s35 H locs hz37 hm2 h hg => ?_)
        have hm := hm.tn hm2
        exact ret_i hx hb hr hlocks hg hz37 hm h dX9_zip_27
theorem hdX9_clears : yX9_clears.cls ≠ "java/lang/invoke/MethodHandle" ∧ yX9_clears.cls ≠ "java/lang/invoke/VarHandle" ∧ (parseMethodDescriptor yX9_clears.desc).map (fun d => d.parameters.length) = some 3 := by decide +kernel
set_option maxRecDepth 100000 in
set_option maxHeartbeats 4000000 in
theorem ctX9_clears (l : Launch) (E : Ev) (a1 : Int) (a2 : Int) (a3 : Int) (σ : SS) (Q : Int → SS → Prop) (ha1 : R32 a1) (ha2 : R32 a2) (ha3 : R32 a3) (h : wX9_clears a1 a2 a3 σ Q) : Met l yX9_clears wsX9_clears ({ frames := 3, cells := 0, slots := 0, locals := 66 } : Room) (Pc E σ [.ref (ea E 21), .int (iI (a1)), .int (iI (a2)), .int (iI (a3))]) (Qi E (sz σ) σ Q) 0 0 (Av E) := by
  rw [wX9_clears] at h
  refine Met.ofW (cc := cX9_clears) (maxL := 6) (ret := (some .int)) (by decide) rfl ?_
  intro p e s m args below meth c s₁ B hml hv
  obtain ⟨rfl, hH, hK, hN⟩ := hv
  have hx := B.exec
  have hb := B.bytes
  have hr := B.returns
  have hts := atoms_spec (ws := wsX9_clears) B.pre
  have hown : s.vm.findClass RX9 = some m.cls := findClass_of_methodNamed B.named
  have hlocks := B.notSynchronized
  have hg : GS E σ s s.heap [] := ⟨hH, va_S.rf⟩
  have hm : Mo (sz σ) σ σ := Mo.rf (Nat.le_refl _)
  have hl := ent (vs := [.ref (ea E 21), .int (iI (a1)), .int (iI (a2)), .int (iI (a3))]) (n := 6) (cats_x (cats_i (cats_i (cats_i cats_nil)))) (Nat.le_of_ble_eq_true rfl)
  rw [lg_entry_eq]
  generalize (lg_sl ([.ref (ea E 21), .int (iI (a1)), .int (iI (a2)), .int (iI (a3))]) ++ List.replicate (6 - (lg_sl ([.ref (ea E 21), .int (iI (a1)), .int (iI (a2)), .int (iI (a3))])).length) Slot.unset).toArray = ls at hl ⊢
  have hl : lv_has ls 6 [(0, .ref (ea E 21)), (1, .int (iI (a1))), (2, .int (iI (a2))), (3, .int (iI (a3)))] := hl
  refine lv_iload_n hx hb dX9_clears_0 rfl (lv_at hl 1 rfl) ?_
  refine call_z (run_S (As := [.int (iI (a1))]) (rest := []) ⟨hx, hb, hml, hown, hts⟩ (ctX9_isMap l E a1 σ _ ha1 h) (va_cwS 1 hts gX9_clears_X9_isMap rfl rfl rfl hdX9_isMap ⟨Nat.le_of_ble_eq_true rfl, Nat.le_of_ble_eq_true rfl⟩) hK hN hg rfl hl.1 rfl (cat_sum _ (by simp)) dX9_clears_1 ⟨Nat.le_refl 0, Nat.le_refl 0⟩) hg (fun r2 s1 H locs hz3 hm2 h hg => ?_)
  have hm := hm.tn hm2
  refine k_eq (tgt := 15) hx hb dX9_clears_4 (by decide) (z_R hz3) (fun c4 => ?_) (fun c4 => ?_)
  · have h := h.1 c4
    refine lv_aload_n hx hb dX9_clears_15 rfl (lv_at hl 0 rfl) ?_
    refine q_ldc (z := (-2000000002)) hx hb hown (hts (.constant RX9 61 (-2000000002)) (List.mem_cons_of_mem _ (List.mem_append_left _ (List.mem_append_left _ (List.mem_of_getElem? (i := 0) rfl))))) (by decide) dX9_clears_16 ?_
    refine call_i (run_V (a := ea E 21) (As := [.int (iI ((-2000000002)))]) (rest := []) ⟨hx, hb, hml, hown, hts⟩ (ctX9_refuses l E (-2000000002) s1 _ (by decide) h) (cwV 1 hts gX9_clears_X9_refuses rfl rfl rfl ⟨rfl, hdX9_refuses⟩ ⟨Nat.le_of_ble_eq_true rfl, Nat.le_of_ble_eq_true rfl⟩) hK hN hg (recv_x (ci := 9) (C := RX9) (T := TX9) (N := 27) hg hK (by decide) rfl (by decide) rfl) rfl hl.1 rfl (cat_sum _ (by simp)) dX9_clears_18 ⟨Nat.le_refl 0, Nat.le_refl 0⟩) hg (fun r6 s5 H locs hz7 hm2 h hg => ?_)
    have hm := hm.tn hm2
    exact ret_i hx hb hr hlocks hg hz7 hm h dX9_clears_21
  · have h := h.2 c4
    refine lv_iload_n hx hb dX9_clears_7 rfl (lv_at hl 2 rfl) ?_
    refine lv_iload_n hx hb dX9_clears_8 rfl (lv_at hl 3 rfl) ?_
    refine call_z (run_S (As := [.int (iI (a2)), .int (iI (a3))]) (rest := []) ⟨hx, hb, hml, hown, hts⟩ (ctX9_isRange l E a2 a3 s1 _ ha2 ha3 h) (va_cwS 2 hts gX9_clears_X9_isRange rfl rfl rfl hdX9_isRange ⟨Nat.le_of_ble_eq_true rfl, Nat.le_of_ble_eq_true rfl⟩) hK hN hg rfl hl.1 rfl (cat_sum _ (by simp)) dX9_clears_9 ⟨Nat.le_refl 0, Nat.le_refl 0⟩) hg (fun r9 s8 H locs hz10 hm2 h hg => ?_)
    have hm := hm.tn hm2
    refine k_ne (tgt := 22) hx hb dX9_clears_12 (by decide) (z_R hz10) (fun c11 => ?_) (fun c11 => ?_)
    · have h := h.1 c11
      refine lv_aload_n hx hb dX9_clears_22 rfl (lv_at hl 0 rfl) ?_
      refine call_v (run_V (a := ea E 21) (As := []) (rest := []) ⟨hx, hb, hml, hown, hts⟩ (ctX9_keeps l E  s8 _  h) (cwV 0 hts gX9_clears_X9_keeps rfl rfl rfl ⟨rfl, hdX9_keeps⟩ ⟨Nat.le_of_ble_eq_true rfl, Nat.le_of_ble_eq_true rfl⟩) hK hN hg (recv_x (ci := 9) (C := RX9) (T := TX9) (N := 27) hg hK (by decide) rfl (by decide) rfl) rfl hl.1 rfl (cat_sum _ (by simp)) dX9_clears_23 ⟨Nat.le_refl 0, Nat.le_refl 0⟩) hg (fun s12 H locs hm2 h hg => ?_)
      have hm := hm.tn hm2
      refine lv_aload_n hx hb dX9_clears_26 rfl (lv_at hl 0 rfl) ?_
      refine lv_iload_n hx hb dX9_clears_27 rfl (lv_at hl 1 rfl) ?_
      refine lv_iload_n hx hb dX9_clears_28 rfl (lv_at hl 2 rfl) ?_
      refine call_i (run_V (a := ea E 21) (As := [.int (iI (a1)), .int (iI (a2))]) (rest := []) ⟨hx, hb, hml, hown, hts⟩ (ctX9_below l E a1 a2 s12 _ ha1 ha2 h) (cwV 2 hts gX9_clears_X9_below rfl rfl rfl ⟨rfl, hdX9_below⟩ ⟨Nat.le_of_ble_eq_true rfl, Nat.le_of_ble_eq_true rfl⟩) hK hN hg (recv_x (ci := 9) (C := RX9) (T := TX9) (N := 27) hg hK (by decide) rfl (by decide) rfl) rfl hl.1 rfl (cat_sum _ (by simp)) dX9_clears_29 ⟨Nat.le_refl 0, Nat.le_refl 0⟩) hg (fun r16 s15 H locs hz17 hm2 h hg => ?_)
      have hm := hm.tn hm2
      refine lv_istore (i := 4) (lv' := [(4, .int (iI (r16))), (0, .ref (ea E 21)), (1, .int (iI (a1))), (2, .int (iI (a2))), (3, .int (iI (a3)))]) hx hb dX9_clears_32 hl (by decide) rfl (fun ls hl => ?_)
      refine lv_aload_n hx hb dX9_clears_34 rfl (lv_at hl 1 rfl) ?_
      refine lv_iload_n hx hb dX9_clears_35 rfl (lv_at hl 2 rfl) ?_
      refine lv_iload_n hx hb dX9_clears_36 rfl (lv_at hl 4 rfl) ?_
      refine lv_iconst (v := iI 1) hx hb dX9_clears_37 (by decide) ?_
      refine q_iadd hx hb dX9_clears_38 ?_
      obtain ⟨hR18, h⟩ := h
      refine call_i (run_V (a := ea E 21) (As := [.int (iI (a1)), .int (iI ((a3 + 1)))]) (rest := []) ⟨hx, hb, hml, hown, hts⟩ (ctX9_below l E a1 (a3 + 1) s15 _ ha1 hR18 h) (cwV 2 hts gX9_clears_X9_below rfl rfl rfl ⟨rfl, hdX9_below⟩ ⟨Nat.le_of_ble_eq_true rfl, Nat.le_of_ble_eq_true rfl⟩) hK hN hg (recv_x (ci := 9) (C := RX9) (T := TX9) (N := 27) hg hK (by decide) rfl (by decide) rfl) rfl hl.1 rfl (cat_sum _ (by simp)) dX9_clears_39 ⟨Nat.le_refl 0, Nat.le_refl 0⟩) hg (fun r20 s19 H locs hz21 hm2 h hg => ?_)
      have hm := hm.tn hm2
      refine lv_istore (i := 5) (lv' := [(5, .int (iI (r20))), (4, .int (iI (r16))), (0, .ref (ea E 21)), (1, .int (iI (a1))), (2, .int (iI (a2))), (3, .int (iI (a3)))]) hx hb dX9_clears_42 hl (by decide) rfl (fun ls hl => ?_)
      refine lv_aload_n hx hb dX9_clears_44 rfl (lv_at hl 2 rfl) ?_
      refine lv_iload_n hx hb dX9_clears_45 rfl (lv_at hl 3 rfl) ?_
      refine lv_iload hx hb dX9_clears_46 (lv_at hl 1 rfl) ?_
      refine lv_iload hx hb dX9_clears_48 (lv_at hl 0 rfl) ?_
      refine call_v (run_V (a := ea E 21) (As := [.int (iI (a1)), .int (iI (r16)), .int (iI (r20))]) (rest := []) ⟨hx, hb, hml, hown, hts⟩ (ctX9_goes l E a1 r16 r20 s19 _ ha1 hz17 hz21 h) (cwV 3 hts gX9_clears_X9_goes rfl rfl rfl ⟨rfl, hdX9_goes⟩ ⟨Nat.le_of_ble_eq_true rfl, Nat.le_of_ble_eq_true rfl⟩) hK hN hg (recv_x (ci := 9) (C := RX9) (T := TX9) (N := 27) hg hK (by decide) rfl (by decide) rfl) rfl hl.1 rfl (cat_sum _ (by simp)) dX9_clears_50 ⟨Nat.le_refl 0, Nat.le_refl 0⟩) hg (fun s22 H locs hm2 h hg => ?_)
      have hm := hm.tn hm2
      refine lv_iload hx hb dX9_clears_53 (lv_at hl 0 rfl) ?_
      refine lv_iload hx hb dX9_clears_55 (lv_at hl 1 rfl) ?_
      refine q_isub hx hb dX9_clears_57 ?_
      obtain ⟨hR25, h⟩ := h
      exact ret_i hx hb hr hlocks hg hR25 hm h dX9_clears_58
    · have h := h.2 c11
      refine lv_aload_n hx hb dX9_clears_15 rfl (lv_at hl 0 rfl) ?_
      refine q_ldc (z := (-2000000002)) hx hb hown (hts (.constant RX9 61 (-2000000002)) (List.mem_cons_of_mem _ (List.mem_append_left _ (List.mem_append_left _ (List.mem_of_getElem? (i := 0) rfl))))) (by decide) dX9_clears_16 ?_
      refine call_i (run_V (a := ea E 21) (As := [.int (iI ((-2000000002)))]) (rest := []) ⟨hx, hb, hml, hown, hts⟩ (ctX9_refuses l E (-2000000002) s8 _ (by decide) h) (cwV 1 hts gX9_clears_X9_refuses rfl rfl rfl ⟨rfl, hdX9_refuses⟩ ⟨Nat.le_of_ble_eq_true rfl, Nat.le_of_ble_eq_true rfl⟩) hK hN hg (recv_x (ci := 9) (C := RX9) (T := TX9) (N := 27) hg hK (by decide) rfl (by decide) rfl) rfl hl.1 rfl (cat_sum _ (by simp)) dX9_clears_18 ⟨Nat.le_refl 0, Nat.le_refl 0⟩) hg (fun r27 s26 H locs hz28 hm2 h hg => ?_)
      have hm := hm.tn hm2
      exact ret_i hx hb hr hlocks hg hz28 hm h dX9_clears_21
