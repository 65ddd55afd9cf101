theorem hdX2_isBalanced : yX2_isBalanced.cls ≠ "java/lang/invoke/MethodHandle" ∧ yX2_isBalanced.cls ≠ "java/lang/invoke/VarHandle" ∧ (parseMethodDescriptor yX2_isBalanced.desc).map (fun d => d.parameters.length) = some 2 := by decide +kernel
set_option maxRecDepth 100000 in
set_option maxHeartbeats 4000000 in
theorem ctX2_isBalanced (l : Launch) (E : Ev) (a0 : Int) (a1 : Int) (σ : SS) (Q : Int → SS → Prop) (ha0 : R32 a0) (ha1 : R32 a1) (h : wX2_isBalanced a0 a1 σ Q) : Met l yX2_isBalanced wsX2_isBalanced ({ frames := 0, cells := 0, slots := 0, locals := 0 } : Room) (Pc E σ [.int (iI (a0)), .int (iI (a1))]) (Qz E (sz σ) σ Q) 0 0 (Av E) := by
  rw [wX2_isBalanced] at h
  refine Met.ofW (cc := cX2_isBalanced) (maxL := 2) (ret := (some .boolean)) (by decide) rfl ?_
  intro p e s m args below meth c s₁ B hml hv
  obtain ⟨rfl, hH, hK, hN⟩ := hv
  have hx := B.exec
  have hb := B.bytes
  have hr := B.returns
  have hts := atoms_spec (ws := wsX2_isBalanced) B.pre
  have hown : s.vm.findClass RX2 = some m.cls := findClass_of_methodNamed B.named
  have hlocks := B.notSynchronized
  have hg : GS E σ s s.heap [] := ⟨hH, va_S.rf⟩
  have hm : Mo (sz σ) σ σ := Mo.rf (Nat.le_refl _)
  have hl := ent (vs := [.int (iI (a0)), .int (iI (a1))]) (n := 2) (cats_i (cats_i cats_nil)) (Nat.le_of_ble_eq_true rfl)
  rw [lg_entry_eq]
  generalize (lg_sl ([.int (iI (a0)), .int (iI (a1))]) ++ List.replicate (2 - (lg_sl ([.int (iI (a0)), .int (iI (a1))])).length) Slot.unset).toArray = ls at hl ⊢
  have hl : lv_has ls 2 [(0, .int (iI (a0))), (1, .int (iI (a1)))] := hl
  refine lv_iload_n hx hb dX2_isBalanced_0 rfl (lv_at hl 0 rfl) ?_
  refine lv_iconst (v := iI 3) hx hb dX2_isBalanced_1 (by decide) ?_
  refine lv_iload_n hx hb dX2_isBalanced_2 rfl (lv_at hl 1 rfl) ?_
  refine q_imul hx hb dX2_isBalanced_3 ?_
  obtain ⟨hR1, h⟩ := h
  refine j_gt (tgt := 18) hx hb dX2_isBalanced_4 (by decide) ha0 hR1 (fun c2 => ?_) (fun c2 => ?_)
  · have h := h.1 c2
    refine lv_iconst (v := iI 0) hx hb dX2_isBalanced_18 (by decide) ?_
    exact ret_z hx hb hr hlocks hg (by decide) hm h dX2_isBalanced_19
  · have h := h.2 c2
    refine lv_iload_n hx hb dX2_isBalanced_7 rfl (lv_at hl 1 rfl) ?_
    refine lv_iconst (v := iI 3) hx hb dX2_isBalanced_8 (by decide) ?_
    refine lv_iload_n hx hb dX2_isBalanced_9 rfl (lv_at hl 0 rfl) ?_
    refine q_imul hx hb dX2_isBalanced_10 ?_
    obtain ⟨hR3, h⟩ := h
    refine j_gt (tgt := 18) hx hb dX2_isBalanced_11 (by decide) ha1 hR3 (fun c4 => ?_) (fun c4 => ?_)
    · have h := h.1 c4
      refine lv_iconst (v := iI 0) hx hb dX2_isBalanced_18 (by decide) ?_
      exact ret_z hx hb hr hlocks hg (by decide) hm h dX2_isBalanced_19
    · have h := h.2 c4
      refine lv_iconst (v := iI 1) hx hb dX2_isBalanced_14 (by decide) ?_
      refine lv_goto (tgt := 19) hx hb dX2_isBalanced_15 (by decide) ?_
      exact ret_z hx hb hr hlocks hg (by decide) hm h dX2_isBalanced_19
theorem hdX3_find : yX3_find.cls ≠ "java/lang/invoke/MethodHandle" ∧ yX3_find.cls ≠ "java/lang/invoke/VarHandle" ∧ (parseMethodDescriptor yX3_find.desc).map (fun d => d.parameters.length) = some 2 := by decide +kernel
set_option maxRecDepth 100000 in
set_option maxHeartbeats 4000000 in
theorem ctX3_find (l : Launch) (E : Ev) (a0 : Option Nat) (a1 : Int) (σ : SS) (Q : Option Nat → SS → Prop) (ha0 : ∀ b, a0 = some b → sS σ b) (ha1 : R32 a1) (h : wX3_find a0 a1 σ Q) : Met l yX3_find wsX3_find ({ frames := 0, cells := 0, slots := 0, locals := 0 } : Room) (Pc E σ [va_rf (a0), .int (iI (a1))]) (Qr E (sz σ) σ Q) 0 0 (Av E) := by
  rw [wX3_find] at h
  refine Met.ofW (cc := cX3_find) (maxL := 3) (ret := (some (.object "JoinMaps$Node"))) (by decide) rfl ?_
  intro p e s m args below meth c s₁ B hml hv
  obtain ⟨rfl, hH, hK, hN⟩ := hv
  have hx := B.exec
  have hb := B.bytes
  have hr := B.returns
  have hts := atoms_spec (ws := wsX3_find) B.pre
  have hown : s.vm.findClass RX3 = some m.cls := findClass_of_methodNamed B.named
  have hlocks := B.notSynchronized
  have hg : GS E σ s s.heap [] := ⟨hH, va_S.rf⟩
  have hm : Mo (sz σ) σ σ := Mo.rf (Nat.le_refl _)
  have hl := ent (vs := [va_rf (a0), .int (iI (a1))]) (n := 3) (cats_r (cats_i cats_nil)) (Nat.le_of_ble_eq_true rfl)
  rw [lg_entry_eq]
  generalize (lg_sl ([va_rf (a0), .int (iI (a1))]) ++ List.replicate (3 - (lg_sl ([va_rf (a0), .int (iI (a1))])).length) Slot.unset).toArray = ls at hl ⊢
  have hl : lv_has ls 3 [(0, va_rf (a0)), (1, .int (iI (a1)))] := hl
  have J2 : ∀ (k : Nat), ∀ (v2 : Option Nat) (sL : SS) (H : Heap) (locs : List Loc) (ls : Array Slot), (∀ b, v2 = some b → sS sL b) → GS E sL s H locs → Mo (sz σ) σ sL → lv_has ls 3 [(1, .int (iI (a1))), (2, va_rf (v2))] → wX3_find_L2 a0 a1 Q  k v2 sL → W p l e (headSpec wsX3_find ({ frames := 0, cells := 0, slots := 0, locals := 0 } : Room)).room s m (List.toArray [va_rf (a0), .int (iI (a1))]) below meth c H locs 0 0 (MQ below (Qr E (sz σ) σ Q) (List.toArray [va_rf (a0), .int (iI (a1))]) s 0 0 (Av E)) (F0 m 2 ls []) := by
    intro k
    induction k with
    | zero => intro v2 sL H locs ls mv2 hg hm hl h; exact False.elim h
    | succ k ih =>
      intro v2 sL H locs ls mv2 hg hm hl h
      rw [wX3_find_L2] at h
      refine q_aload_n hx hb dX3_find_2 rfl (lv_at hl 1 rfl) ?_
      refine j_null (tgt := 37) hx hb dX3_find_3 (by decide) (fun c1 => ?_) (fun b2 c1 => ?_)
      · have h := h.1 c1
        refine q_aload_n hx hb dX3_find_37 rfl (lv_at hl 1 rfl) ?_
        exact ret_r hx hb hr hlocks hg mv2 hm h dX3_find_38
      · have h := h.2 b2 c1
        refine q_aload_n hx hb dX3_find_6 rfl (lv_at hl 1 rfl) ?_
        refine q_ngeti_o c1 hx hb hts (fun _ h9 => List.mem_cons_of_mem _ (List.mem_append_right _ h9)) hown hK hg (mv2 b2 c1) 0 (by decide) (hts (.fieldLink RX3 23 "JoinMaps$Node" "key" "I") (List.mem_cons_of_mem _ (List.mem_append_left _ (List.mem_of_getElem? (i := 0) rfl)))) rfl rfl dX3_find_7 ?_
        have hR3 := GS_R hg (b2 + 64) 0
        refine lv_iload_n hx hb dX3_find_10 rfl (lv_at hl 0 rfl) ?_
        refine j_eq (tgt := 37) hx hb dX3_find_11 (by decide) hR3 ha1 (fun c4 => ?_) (fun c4 => ?_)
        · have h := h.1 c4
          refine q_aload_n hx hb dX3_find_37 rfl (lv_at hl 1 rfl) ?_
          exact ret_r hx hb hr hlocks hg mv2 hm h dX3_find_38
        · have h := h.2 c4
          refine lv_iload_n hx hb dX3_find_14 rfl (lv_at hl 0 rfl) ?_
          refine q_aload_n hx hb dX3_find_15 rfl (lv_at hl 1 rfl) ?_
          refine q_ngeti_o c1 hx hb hts (fun _ h9 => List.mem_cons_of_mem _ (List.mem_append_right _ h9)) hown hK hg (mv2 b2 c1) 0 (by decide) (hts (.fieldLink RX3 23 "JoinMaps$Node" "key" "I") (List.mem_cons_of_mem _ (List.mem_append_left _ (List.mem_of_getElem? (i := 0) rfl)))) rfl rfl dX3_find_16 ?_
          have hR5 := GS_R hg (b2 + 64) 0
          refine j_ge (tgt := 29) hx hb dX3_find_19 (by decide) ha1 hR5 (fun c6 => ?_) (fun c6 => ?_)
          · have h := h.1 c6
            refine q_aload_n hx hb dX3_find_29 rfl (lv_at hl 1 rfl) ?_
            refine q_ngetr_o c1 hx hb hts (fun _ h9 => List.mem_cons_of_mem _ (List.mem_append_right _ h9)) hown hK hg (mv2 b2 c1) 5 (by decide) (hts (.fieldLink RX3 30 "JoinMaps$Node" "right" "LJoinMaps$Node;") (List.mem_cons_of_mem _ (List.mem_append_left _ (List.mem_of_getElem? (i := 2) rfl)))) rfl rfl dX3_find_30 ?_
            have hS7 : ∀ b, (sf sL (b2 + 64) 5) = some b → sS sL b := fun b h0 => GS_F hg h0
            refine q_astore_n (lv' := [(2, va_rf ((sf sL (b2 + 64) 5))), (1, .int (iI (a1)))]) hx hb dX3_find_33 rfl hl (by decide) (by simp [List.filter_cons, rf_cat, Value.category]) (fun ls hl => ?_)
            refine lv_goto (tgt := 2) hx hb dX3_find_34 (by decide) ?_
            exact ih ((sf sL (b2 + 64) 5)) (sL) _ _ _ hS7 hg hm (lv_sub hl [1, 0] rfl) h
          · have h := h.2 c6
            refine q_aload_n hx hb dX3_find_22 rfl (lv_at hl 1 rfl) ?_
            refine q_ngetr_o c1 hx hb hts (fun _ h9 => List.mem_cons_of_mem _ (List.mem_append_right _ h9)) hown hK hg (mv2 b2 c1) 4 (by decide) (hts (.fieldLink RX3 26 "JoinMaps$Node" "left" "LJoinMaps$Node;") (List.mem_cons_of_mem _ (List.mem_append_left _ (List.mem_of_getElem? (i := 1) rfl)))) rfl rfl dX3_find_23 ?_
            have hS8 : ∀ b, (sf sL (b2 + 64) 4) = some b → sS sL b := fun b h0 => GS_F hg h0
            refine lv_goto (tgt := 33) hx hb dX3_find_26 (by decide) ?_
            refine q_astore_n (lv' := [(2, va_rf ((sf sL (b2 + 64) 4))), (1, .int (iI (a1)))]) hx hb dX3_find_33 rfl hl (by decide) (by simp [List.filter_cons, rf_cat, Value.category]) (fun ls hl => ?_)
            refine lv_goto (tgt := 2) hx hb dX3_find_34 (by decide) ?_
            exact ih ((sf sL (b2 + 64) 4)) (sL) _ _ _ hS8 hg hm (lv_sub hl [1, 0] rfl) h
  refine q_aload_n hx hb dX3_find_0 rfl (lv_at hl 0 rfl) ?_
  refine q_astore_n (lv' := [(2, va_rf (a0)), (0, va_rf (a0)), (1, .int (iI (a1)))]) hx hb dX3_find_1 rfl hl (by decide) (by simp [List.filter_cons, rf_cat, Value.category]) (fun ls hl => ?_)
  obtain ⟨kk, h⟩ := h
  exact J2  kk (a0) (σ) _ _ _ ha0 hg hm (lv_sub hl [2, 0] rfl) h
theorem hdX3_countOf : yX3_countOf.cls ≠ "java/lang/invoke/MethodHandle" ∧ yX3_countOf.cls ≠ "java/lang/invoke/VarHandle" ∧ (parseMethodDescriptor yX3_countOf.desc).map (fun d => d.parameters.length) = some 1 := by decide +kernel
set_option maxRecDepth 100000 in
set_option maxHeartbeats 4000000 in
theorem ctX3_countOf (l : Launch) (E : Ev) (a0 : Option Nat) (σ : SS) (Q : Int → SS → Prop) (ha0 : ∀ b, a0 = some b → sS σ b) (h : wX3_countOf a0 σ Q) : Met l yX3_countOf wsX3_countOf ({ frames := 0, cells := 0, slots := 0, locals := 0 } : Room) (Pc E σ [va_rf (a0)]) (Qi E (sz σ) σ Q) 0 0 (Av E) := by
  rw [wX3_countOf] at h
  refine Met.ofW (cc := cX3_countOf) (maxL := 1) (ret := (some .int)) (by decide) rfl ?_
  intro p e s m args below meth c s₁ B hml hv
  obtain ⟨rfl, hH, hK, hN⟩ := hv
  have hx := B.exec
  have hb := B.bytes
  have hr := B.returns
  have hts := atoms_spec (ws := wsX3_countOf) B.pre
  have hown : s.vm.findClass RX3 = some m.cls := findClass_of_methodNamed B.named
  have hlocks := B.notSynchronized
  have hg : GS E σ s s.heap [] := ⟨hH, va_S.rf⟩
  have hm : Mo (sz σ) σ σ := Mo.rf (Nat.le_refl _)
  have hl := ent (vs := [va_rf (a0)]) (n := 1) (cats_r cats_nil) (Nat.le_of_ble_eq_true rfl)
  rw [lg_entry_eq]
  generalize (lg_sl ([va_rf (a0)]) ++ List.replicate (1 - (lg_sl ([va_rf (a0)])).length) Slot.unset).toArray = ls at hl ⊢
  have hl : lv_has ls 1 [(0, va_rf (a0))] := hl
  refine q_aload_n hx hb dX3_countOf_0 rfl (lv_at hl 0 rfl) ?_
  refine j_nonnull (tgt := 8) hx hb dX3_countOf_1 (by decide) (fun b2 c1 => ?_) (fun c1 => ?_)
  · have h := h.2 b2 c1
    refine q_aload_n hx hb dX3_countOf_8 rfl (lv_at hl 0 rfl) ?_
    refine q_ngeti_o c1 hx hb hts (fun _ h9 => List.mem_cons_of_mem _ (List.mem_append_right _ h9)) hown hK hg (ha0 b2 c1) 2 (by decide) (hts (.fieldLink RX3 9 "JoinMaps$Node" "count" "I") (List.mem_cons_of_mem _ (List.mem_append_left _ (List.mem_of_getElem? (i := 0) rfl)))) rfl rfl dX3_countOf_9 ?_
    have hR3 := GS_R hg (b2 + 64) 2
    exact ret_i hx hb hr hlocks hg hR3 hm h dX3_countOf_12
  · have h := h.1 c1
    refine lv_iconst (v := iI 0) hx hb dX3_countOf_4 (by decide) ?_
    refine lv_goto (tgt := 12) hx hb dX3_countOf_5 (by decide) ?_
    exact ret_i hx hb hr hlocks hg (by decide) hm h dX3_countOf_12
theorem hdX3_weightOf : yX3_weightOf.cls ≠ "java/lang/invoke/MethodHandle" ∧ yX3_weightOf.cls ≠ "java/lang/invoke/VarHandle" ∧ (parseMethodDescriptor yX3_weightOf.desc).map (fun d => d.parameters.length) = some 1 := by decide +kernel
set_option maxRecDepth 100000 in
set_option maxHeartbeats 4000000 in
theorem ctX3_weightOf (l : Launch) (E : Ev) (a0 : Option Nat) (σ : SS) (Q : Int → SS → Prop) (ha0 : ∀ b, a0 = some b → sS σ b) (h : wX3_weightOf a0 σ Q) : Met l yX3_weightOf wsX3_weightOf ({ frames := 1, cells := 0, slots := 0, locals := 20 } : Room) (Pc E σ [va_rf (a0)]) (Qi E (sz σ) σ Q) 0 0 (Av E) := by
  rw [wX3_weightOf] at h
  refine Met.ofW (cc := cX3_weightOf) (maxL := 1) (ret := (some .int)) (by decide) rfl ?_
  intro p e s m args below meth c s₁ B hml hv
  obtain ⟨rfl, hH, hK, hN⟩ := hv
  have hx := B.exec
  have hb := B.bytes
  have hr := B.returns
  have hts := atoms_spec (ws := wsX3_weightOf) B.pre
  have hown : s.vm.findClass RX3 = some m.cls := findClass_of_methodNamed B.named
  have hlocks := B.notSynchronized
  have hg : GS E σ s s.heap [] := ⟨hH, va_S.rf⟩
  have hm : Mo (sz σ) σ σ := Mo.rf (Nat.le_refl _)
  have hl := ent (vs := [va_rf (a0)]) (n := 1) (cats_r cats_nil) (Nat.le_of_ble_eq_true rfl)
  rw [lg_entry_eq]
  generalize (lg_sl ([va_rf (a0)]) ++ List.replicate (1 - (lg_sl ([va_rf (a0)])).length) Slot.unset).toArray = ls at hl ⊢
  have hl : lv_has ls 1 [(0, va_rf (a0))] := hl
  refine q_aload_n hx hb dX3_weightOf_0 rfl (lv_at hl 0 rfl) ?_
  refine call_i (run_S (As := [va_rf (a0)]) (rest := []) ⟨hx, hb, hml, hown, hts⟩ (ctX3_countOf l E a0 σ _ ha0 h) (va_cwS 1 hts gX3_weightOf_X3_countOf rfl rfl rfl hdX3_countOf ⟨Nat.le_of_ble_eq_true rfl, Nat.le_of_ble_eq_true rfl⟩) hK hN hg rfl hl.1 rfl (cat_sum _ (by simp)) dX3_weightOf_1 ⟨Nat.le_refl 0, Nat.le_refl 0⟩) hg (fun r2 s1 H locs hz3 hm2 h hg => ?_)
  have hS4 := (fun b h0 => hm2.1 b (ha0 b h0))
  have hm := hm.tn hm2
  refine lv_iconst (v := iI 1) hx hb dX3_weightOf_4 (by decide) ?_
  refine q_iadd hx hb dX3_weightOf_5 ?_
  obtain ⟨hR5, h⟩ := h
  exact ret_i hx hb hr hlocks hg hR5 hm h dX3_weightOf_6
