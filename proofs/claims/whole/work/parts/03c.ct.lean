theorem hdX3_countBelow : yX3_countBelow.cls ≠ "java/lang/invoke/MethodHandle" ∧ yX3_countBelow.cls ≠ "java/lang/invoke/VarHandle" ∧ (parseMethodDescriptor yX3_countBelow.desc).map (fun d => d.parameters.length) = some 2 := by decide +kernel
set_option maxRecDepth 100000 in
set_option maxHeartbeats 4000000 in
theorem ctX3_countBelow (l : Launch) (E : Ev) (a0 : Option Nat) (a1 : Int) (σ : SS) (Q : Int → SS → Prop) (ha0 : ∀ b, a0 = some b → sS σ b) (ha1 : R32 a1) (h : wX3_countBelow a0 a1 σ Q) : Met l yX3_countBelow wsX3_countBelow ({ frames := 1, cells := 0, slots := 0, locals := 20 } : Room) (Pc E σ [va_rf (a0), .int (iI (a1))]) (Qi E (sz σ) σ Q) 0 0 (Av E) := by
  rw [wX3_countBelow] at h
  refine Met.ofW (cc := cX3_countBelow) (maxL := 4) (ret := (some .int)) (by decide) rfl ?_
  intro p e s m args below meth c s₁ B hml hv
  obtain ⟨rfl, hH, hK, hN⟩ := hv
  have hx := B.exec
  have hb := B.bytes
  have hr := B.returns
  have hts := atoms_spec (ws := wsX3_countBelow) B.pre
  have hown : s.vm.findClass RX3 = some m.cls := findClass_of_methodNamed B.named
  have hlocks := B.notSynchronized
  have hg : GS E σ s s.heap [] := ⟨hH, va_S.rf⟩
  have hm : Mo (sz σ) σ σ := Mo.rf (Nat.le_refl _)
  have hl := ent (vs := [va_rf (a0), .int (iI (a1))]) (n := 4) (cats_r (cats_i cats_nil)) (Nat.le_of_ble_eq_true rfl)
  rw [lg_entry_eq]
  generalize (lg_sl ([va_rf (a0), .int (iI (a1))]) ++ List.replicate (4 - (lg_sl ([va_rf (a0), .int (iI (a1))])).length) Slot.unset).toArray = ls at hl ⊢
  have hl : lv_has ls 4 [(0, va_rf (a0)), (1, .int (iI (a1)))] := hl
  have J4 : ∀ (k : Nat), ∀ (v2 : Int) (v3 : Option Nat) (sL : SS) (H : Heap) (locs : List Loc) (ls : Array Slot), (∀ b, v3 = some b → sS sL b) → GS E sL s H locs → Mo (sz σ) σ sL → lv_has ls 4 [(1, .int (iI (a1))), (2, .int (iI (v2))), (3, va_rf (v3))] → wX3_countBelow_L4 a0 a1 Q  k v2 v3 sL → W p l e (headSpec wsX3_countBelow ({ frames := 1, cells := 0, slots := 0, locals := 20 } : Room)).room s m (List.toArray [va_rf (a0), .int (iI (a1))]) below meth c H locs 0 0 (MQ below (Qi E (sz σ) σ Q) (List.toArray [va_rf (a0), .int (iI (a1))]) s 0 0 (Av E)) (F0 m 4 ls []) := by
    intro k
    induction k with
    | zero => intro v2 v3 sL H locs ls mv3 hg hm hl h; exact False.elim h
    | succ k ih =>
      intro v2 v3 sL H locs ls mv3 hg hm hl h
      rw [wX3_countBelow_L4] at h
      refine q_aload_n hx hb dX3_countBelow_4 rfl (lv_at hl 2 rfl) ?_
      refine j_null (tgt := 44) hx hb dX3_countBelow_5 (by decide) (fun c1 => ?_) (fun b2 c1 => ?_)
      · have h := h.1 c1
        refine lv_iload_n hx hb dX3_countBelow_44 rfl (lv_at hl 1 rfl) ?_
        obtain ⟨hR3, h⟩ := h
        exact ret_i hx hb hr hlocks hg hR3 hm h dX3_countBelow_45
      · have h := h.2 b2 c1
        refine q_aload_n hx hb dX3_countBelow_8 rfl (lv_at hl 2 rfl) ?_
        refine q_ngeti_o c1 hx hb hts (fun _ h9 => List.mem_cons_of_mem _ (List.mem_append_right _ h9)) hown hK hg (mv3 b2 c1) 0 (by decide) (hts (.fieldLink RX3 23 "JoinMaps$Node" "key" "I") (List.mem_cons_of_mem _ (List.mem_append_left _ (List.mem_of_getElem? (i := 0) rfl)))) rfl rfl dX3_countBelow_9 ?_
        have hR4 := GS_R hg (b2 + 64) 0
        refine lv_iload_n hx hb dX3_countBelow_12 rfl (lv_at hl 0 rfl) ?_
        refine j_ge (tgt := 36) hx hb dX3_countBelow_13 (by decide) hR4 ha1 (fun c5 => ?_) (fun c5 => ?_)
        · have h := h.1 c5
          refine q_aload_n hx hb dX3_countBelow_36 rfl (lv_at hl 2 rfl) ?_
          refine q_ngetr_o c1 hx hb hts (fun _ h9 => List.mem_cons_of_mem _ (List.mem_append_right _ h9)) hown hK hg (mv3 b2 c1) 4 (by decide) (hts (.fieldLink RX3 26 "JoinMaps$Node" "left" "LJoinMaps$Node;") (List.mem_cons_of_mem _ (List.mem_append_left _ (List.mem_of_getElem? (i := 1) rfl)))) rfl rfl dX3_countBelow_37 ?_
          have hS6 : ∀ b, (sf sL (b2 + 64) 4) = some b → sS sL b := fun b h0 => GS_F hg h0
          refine q_astore_n (i := 3) (lv' := [(3, va_rf ((sf sL (b2 + 64) 4))), (1, .int (iI (a1))), (2, .int (iI (v2)))]) hx hb dX3_countBelow_40 rfl hl (by decide) (by simp [List.filter_cons, rf_cat, ct_i, ct_l, ct_x]) (fun ls hl => ?_)
          refine lv_goto (tgt := 4) hx hb dX3_countBelow_41 (by decide) ?_
          exact ih (v2) ((sf sL (b2 + 64) 4)) (sL) _ _ _ hS6 hg hm (lv_sub hl [1, 2, 0] rfl) h
        · have h := h.2 c5
          refine lv_iload_n hx hb dX3_countBelow_16 rfl (lv_at hl 1 rfl) ?_
          refine q_aload_n hx hb dX3_countBelow_17 rfl (lv_at hl 2 rfl) ?_
          refine q_ngetr_o c1 hx hb hts (fun _ h9 => List.mem_cons_of_mem _ (List.mem_append_right _ h9)) hown hK hg (mv3 b2 c1) 4 (by decide) (hts (.fieldLink RX3 26 "JoinMaps$Node" "left" "LJoinMaps$Node;") (List.mem_cons_of_mem _ (List.mem_append_left _ (List.mem_of_getElem? (i := 1) rfl)))) rfl rfl dX3_countBelow_18 ?_
          have hS7 : ∀ b, (sf sL (b2 + 64) 4) = some b → sS sL b := fun b h0 => GS_F hg h0
          refine call_i (run_S (As := [va_rf ((sf sL (b2 + 64) 4))]) (rest := [.int (iI (v2))]) ⟨hx, hb, hml, hown, hts⟩ (ctX3_countOf l E (sf sL (b2 + 64) 4) sL _ hS7 h) (va_cwS 1 hts gX3_countBelow_X3_countOf rfl rfl rfl hdX3_countOf ⟨Nat.le_of_ble_eq_true rfl, Nat.le_of_ble_eq_true rfl⟩) hK hN hg rfl hl.1 rfl (cat_sum _ (by simp)) dX3_countBelow_21 ⟨Nat.le_refl 0, Nat.le_refl 0⟩) hg (fun r9 s8 H locs hz10 hm2 h hg => ?_)
          have hS11 : ∀ b, v3 = some b → sS s8 b := (fun b h0 => hm2.1 b (mv3 b h0))
          have hm := hm.tn hm2
          refine lv_iconst (v := iI 1) hx hb dX3_countBelow_24 (by decide) ?_
          refine q_iadd hx hb dX3_countBelow_25 ?_
          refine q_iadd hx hb dX3_countBelow_26 ?_
          refine lv_istore_n (i := 2) (lv' := [(2, .int (iI ((v2 + (r9 + 1))))), (1, .int (iI (a1))), (3, va_rf (v3))]) hx hb dX3_countBelow_27 rfl hl (by decide) (by simp [List.filter_cons, rf_cat, ct_i, ct_l, ct_x]) (fun ls hl => ?_)
          refine q_aload_n hx hb dX3_countBelow_28 rfl (lv_at hl 2 rfl) ?_
          refine q_ngetr_o c1 hx hb hts (fun _ h9 => List.mem_cons_of_mem _ (List.mem_append_right _ h9)) hown hK hg (hS11 b2 c1) 5 (by decide) (hts (.fieldLink RX3 30 "JoinMaps$Node" "right" "LJoinMaps$Node;") (List.mem_cons_of_mem _ (List.mem_append_left _ (List.mem_of_getElem? (i := 2) rfl)))) rfl rfl dX3_countBelow_29 ?_
          have hS12 : ∀ b, (sf s8 (b2 + 64) 5) = some b → sS s8 b := fun b h0 => GS_F hg h0
          refine q_astore_n (i := 3) (lv' := [(3, va_rf ((sf s8 (b2 + 64) 5))), (2, .int (iI ((v2 + (r9 + 1))))), (1, .int (iI (a1)))]) hx hb dX3_countBelow_32 rfl hl (by decide) (by simp [List.filter_cons, rf_cat, ct_i, ct_l, ct_x]) (fun ls hl => ?_)
          refine lv_goto (tgt := 4) hx hb dX3_countBelow_33 (by decide) ?_
          exact ih ((v2 + (r9 + 1))) ((sf s8 (b2 + 64) 5)) (s8) _ _ _ hS12 hg hm (lv_sub hl [2, 1, 0] rfl) h
  refine lv_iconst (v := iI 0) hx hb dX3_countBelow_0 (by decide) ?_
  refine lv_istore_n (i := 2) (lv' := [(2, .int (iI (0))), (0, va_rf (a0)), (1, .int (iI (a1)))]) hx hb dX3_countBelow_1 rfl hl (by decide) (by simp [List.filter_cons, rf_cat, ct_i, ct_l, ct_x]) (fun ls hl => ?_)
  refine q_aload_n hx hb dX3_countBelow_2 rfl (lv_at hl 1 rfl) ?_
  refine q_astore_n (i := 3) (lv' := [(3, va_rf (a0)), (2, .int (iI (0))), (0, va_rf (a0)), (1, .int (iI (a1)))]) hx hb dX3_countBelow_3 rfl hl (by decide) (by simp [List.filter_cons, rf_cat, ct_i, ct_l, ct_x]) (fun ls hl => ?_)
  obtain ⟨kk, h⟩ := h
  exact J4  kk (0) (a0) (σ) _ _ _ ha0 hg hm (lv_sub hl [3, 1, 0] rfl) h
theorem hdX3_countWithin : yX3_countWithin.cls ≠ "java/lang/invoke/MethodHandle" ∧ yX3_countWithin.cls ≠ "java/lang/invoke/VarHandle" ∧ (parseMethodDescriptor yX3_countWithin.desc).map (fun d => d.parameters.length) = some 3 := by decide +kernel
set_option maxRecDepth 100000 in
set_option maxHeartbeats 4000000 in
theorem ctX3_countWithin (l : Launch) (E : Ev) (a0 : Option Nat) (a1 : Int) (a2 : Int) (σ : SS) (Q : Int → SS → Prop) (ha0 : ∀ b, a0 = some b → sS σ b) (ha1 : R32 a1) (ha2 : R32 a2) (h : wX3_countWithin a0 a1 a2 σ Q) : Met l yX3_countWithin wsX3_countWithin ({ frames := 2, cells := 0, slots := 0, locals := 43 } : Room) (Pc E σ [va_rf (a0), .int (iI (a1)), .int (iI (a2))]) (Qi E (sz σ) σ Q) 0 0 (Av E) := by
  rw [wX3_countWithin] at h
  refine Met.ofW (cc := cX3_countWithin) (maxL := 3) (ret := (some .int)) (by decide) rfl ?_
  intro p e s m args below meth c s₁ B hml hv
  obtain ⟨rfl, hH, hK, hN⟩ := hv
  have hx := B.exec
  have hb := B.bytes
  have hr := B.returns
  have hts := atoms_spec (ws := wsX3_countWithin) B.pre
  have hown : s.vm.findClass RX3 = some m.cls := findClass_of_methodNamed B.named
  have hlocks := B.notSynchronized
  have hg : GS E σ s s.heap [] := ⟨hH, va_S.rf⟩
  have hm : Mo (sz σ) σ σ := Mo.rf (Nat.le_refl _)
  have hl := ent (vs := [va_rf (a0), .int (iI (a1)), .int (iI (a2))]) (n := 3) (cats_r (cats_i (cats_i cats_nil))) (Nat.le_of_ble_eq_true rfl)
  rw [lg_entry_eq]
  generalize (lg_sl ([va_rf (a0), .int (iI (a1)), .int (iI (a2))]) ++ List.replicate (3 - (lg_sl ([va_rf (a0), .int (iI (a1)), .int (iI (a2))])).length) Slot.unset).toArray = ls at hl ⊢
  have hl : lv_has ls 3 [(0, va_rf (a0)), (1, .int (iI (a1))), (2, .int (iI (a2)))] := hl
  refine q_aload_n hx hb dX3_countWithin_0 rfl (lv_at hl 0 rfl) ?_
  refine lv_iload_n hx hb dX3_countWithin_1 rfl (lv_at hl 2 rfl) ?_
  refine lv_iconst (v := iI 1) hx hb dX3_countWithin_2 (by decide) ?_
  refine q_iadd hx hb dX3_countWithin_3 ?_
  obtain ⟨hR1, h⟩ := h
  refine call_i (run_S (As := [va_rf (a0), .int (iI ((a2 + 1)))]) (rest := []) ⟨hx, hb, hml, hown, hts⟩ (ctX3_countBelow l E a0 (a2 + 1) σ _ ha0 hR1 h) (va_cwS 2 hts gX3_countWithin_X3_countBelow rfl rfl rfl hdX3_countBelow ⟨Nat.le_of_ble_eq_true rfl, Nat.le_of_ble_eq_true rfl⟩) hK hN hg rfl hl.1 rfl (cat_sum _ (by simp)) dX3_countWithin_4 ⟨Nat.le_refl 0, Nat.le_refl 0⟩) hg (fun r3 s2 H locs hz4 hm2 h hg => ?_)
  have hS5 : ∀ b, a0 = some b → sS s2 b := (fun b h0 => hm2.1 b (ha0 b h0))
  have hm := hm.tn hm2
  refine q_aload_n hx hb dX3_countWithin_7 rfl (lv_at hl 0 rfl) ?_
  refine lv_iload_n hx hb dX3_countWithin_8 rfl (lv_at hl 1 rfl) ?_
  refine call_i (run_S (As := [va_rf (a0), .int (iI (a1))]) (rest := [.int (iI (r3))]) ⟨hx, hb, hml, hown, hts⟩ (ctX3_countBelow l E a0 a1 s2 _ hS5 ha1 h) (va_cwS 2 hts gX3_countWithin_X3_countBelow rfl rfl rfl hdX3_countBelow ⟨Nat.le_of_ble_eq_true rfl, Nat.le_of_ble_eq_true rfl⟩) hK hN hg rfl hl.1 rfl (cat_sum _ (by simp)) dX3_countWithin_9 ⟨Nat.le_refl 0, Nat.le_refl 0⟩) hg (fun r7 s6 H locs hz8 hm2 h hg => ?_)
  have hS9 : ∀ b, a0 = some b → sS s6 b := (fun b h0 => hm2.1 b (hS5 b h0))
  have hm := hm.tn hm2
  refine q_isub hx hb dX3_countWithin_12 ?_
  obtain ⟨hR10, h⟩ := h
  exact ret_i hx hb hr hlocks hg hR10 hm h dX3_countWithin_13
theorem hdX3_sumBelow : yX3_sumBelow.cls ≠ "java/lang/invoke/MethodHandle" ∧ yX3_sumBelow.cls ≠ "java/lang/invoke/VarHandle" ∧ (parseMethodDescriptor yX3_sumBelow.desc).map (fun d => d.parameters.length) = some 2 := by decide +kernel
set_option maxRecDepth 100000 in
set_option maxHeartbeats 4000000 in
theorem ctX3_sumBelow (l : Launch) (E : Ev) (a0 : Option Nat) (a1 : Int) (σ : SS) (Q : Int → SS → Prop) (ha0 : ∀ b, a0 = some b → sS σ b) (ha1 : R32 a1) (h : wX3_sumBelow a0 a1 σ Q) : Met l yX3_sumBelow wsX3_sumBelow ({ frames := 1, cells := 0, slots := 0, locals := 20 } : Room) (Pc E σ [va_rf (a0), .int (iI (a1))]) (Ql E (sz σ) σ Q) 0 0 (Av E) := by
  rw [wX3_sumBelow] at h
  refine Met.ofW (cc := cX3_sumBelow) (maxL := 5) (ret := (some .long)) (by decide) rfl ?_
  intro p e s m args below meth c s₁ B hml hv
  obtain ⟨rfl, hH, hK, hN⟩ := hv
  have hx := B.exec
  have hb := B.bytes
  have hr := B.returns
  have hts := atoms_spec (ws := wsX3_sumBelow) B.pre
  have hown : s.vm.findClass RX3 = some m.cls := findClass_of_methodNamed B.named
  have hlocks := B.notSynchronized
  have hg : GS E σ s s.heap [] := ⟨hH, va_S.rf⟩
  have hm : Mo (sz σ) σ σ := Mo.rf (Nat.le_refl _)
  have hl := ent (vs := [va_rf (a0), .int (iI (a1))]) (n := 5) (cats_r (cats_i cats_nil)) (Nat.le_of_ble_eq_true rfl)
  rw [lg_entry_eq]
  generalize (lg_sl ([va_rf (a0), .int (iI (a1))]) ++ List.replicate (5 - (lg_sl ([va_rf (a0), .int (iI (a1))])).length) Slot.unset).toArray = ls at hl ⊢
  have hl : lv_has ls 5 [(0, va_rf (a0)), (1, .int (iI (a1)))] := hl
  have J5 : ∀ (k : Nat), ∀ (v2 : Int) (v4 : Option Nat) (sL : SS) (H : Heap) (locs : List Loc) (ls : Array Slot), (∀ b, v4 = some b → sS sL b) → GS E sL s H locs → Mo (sz σ) σ sL → lv_has ls 5 [(1, .int (iI (a1))), (2, .long (lI (v2))), (4, va_rf (v4))] → wX3_sumBelow_L5 a0 a1 Q  k v2 v4 sL → W p l e (headSpec wsX3_sumBelow ({ frames := 1, cells := 0, slots := 0, locals := 20 } : Room)).room s m (List.toArray [va_rf (a0), .int (iI (a1))]) below meth c H locs 0 0 (MQ below (Ql E (sz σ) σ Q) (List.toArray [va_rf (a0), .int (iI (a1))]) s 0 0 (Av E)) (F0 m 5 ls []) := by
    intro k
    induction k with
    | zero => intro v2 v4 sL H locs ls mv4 hg hm hl h; exact False.elim h
    | succ k ih =>
      intro v2 v4 sL H locs ls mv4 hg hm hl h
      rw [wX3_sumBelow_L5] at h
      refine q_aload hx hb dX3_sumBelow_5 (lv_at hl 2 rfl) ?_
      refine j_null (tgt := 57) hx hb dX3_sumBelow_7 (by decide) (fun c1 => ?_) (fun b2 c1 => ?_)
      · have h := h.1 c1
        refine lv_lload_n hx hb dX3_sumBelow_57 rfl (lv_at hl 1 rfl) ?_
        exact ret_l hx hb hr hlocks hg  hm h dX3_sumBelow_58
      · have h := h.2 b2 c1
        refine q_aload hx hb dX3_sumBelow_10 (lv_at hl 2 rfl) ?_
        refine q_ngeti_o c1 hx hb hts (fun _ h9 => List.mem_cons_of_mem _ (List.mem_append_right _ h9)) hown hK hg (mv4 b2 c1) 0 (by decide) (hts (.fieldLink RX3 23 "JoinMaps$Node" "key" "I") (List.mem_cons_of_mem _ (List.mem_append_left _ (List.mem_of_getElem? (i := 0) rfl)))) rfl rfl dX3_sumBelow_12 ?_
        have hR3 := GS_R hg (b2 + 64) 0
        refine lv_iload_n hx hb dX3_sumBelow_15 rfl (lv_at hl 0 rfl) ?_
        refine j_ge (tgt := 47) hx hb dX3_sumBelow_16 (by decide) hR3 ha1 (fun c4 => ?_) (fun c4 => ?_)
        · have h := h.1 c4
          refine q_aload hx hb dX3_sumBelow_47 (lv_at hl 2 rfl) ?_
          refine q_ngetr_o c1 hx hb hts (fun _ h9 => List.mem_cons_of_mem _ (List.mem_append_right _ h9)) hown hK hg (mv4 b2 c1) 4 (by decide) (hts (.fieldLink RX3 26 "JoinMaps$Node" "left" "LJoinMaps$Node;") (List.mem_cons_of_mem _ (List.mem_append_left _ (List.mem_of_getElem? (i := 1) rfl)))) rfl rfl dX3_sumBelow_49 ?_
          have hS5 : ∀ b, (sf sL (b2 + 64) 4) = some b → sS sL b := fun b h0 => GS_F hg h0
          refine q_astore (i := 4) (lv' := [(4, va_rf ((sf sL (b2 + 64) 4))), (1, .int (iI (a1))), (2, .long (lI (v2)))]) hx hb dX3_sumBelow_52 hl (by decide) (by simp [List.filter_cons, rf_cat, ct_i, ct_l, ct_x]) (fun ls hl => ?_)
          refine lv_goto (tgt := 5) hx hb dX3_sumBelow_54 (by decide) ?_
          exact ih (v2) ((sf sL (b2 + 64) 4)) (sL) _ _ _ hS5 hg hm (lv_sub hl [1, 2, 0] rfl) h
        · have h := h.2 c4
          refine lv_lload_n hx hb dX3_sumBelow_19 rfl (lv_at hl 1 rfl) ?_
          refine q_aload hx hb dX3_sumBelow_20 (lv_at hl 2 rfl) ?_
          refine q_ngetr_o c1 hx hb hts (fun _ h9 => List.mem_cons_of_mem _ (List.mem_append_right _ h9)) hown hK hg (mv4 b2 c1) 4 (by decide) (hts (.fieldLink RX3 26 "JoinMaps$Node" "left" "LJoinMaps$Node;") (List.mem_cons_of_mem _ (List.mem_append_left _ (List.mem_of_getElem? (i := 1) rfl)))) rfl rfl dX3_sumBelow_22 ?_
          have hS6 : ∀ b, (sf sL (b2 + 64) 4) = some b → sS sL b := fun b h0 => GS_F hg h0
          refine call_l (run_S (As := [va_rf ((sf sL (b2 + 64) 4))]) (rest := [.long (lI (v2))]) ⟨hx, hb, hml, hown, hts⟩ (ctX3_sumOf l E (sf sL (b2 + 64) 4) sL _ hS6 h) (va_cwS 1 hts gX3_sumBelow_X3_sumOf rfl rfl rfl hdX3_sumOf ⟨Nat.le_of_ble_eq_true rfl, Nat.le_of_ble_eq_true rfl⟩) hK hN hg rfl hl.1 rfl (cat_sum _ (by simp)) dX3_sumBelow_25 ⟨Nat.le_refl 0, Nat.le_refl 0⟩) hg (fun r8 s7 H locs hm2 h hg => ?_)
          have hS10 : ∀ b, v4 = some b → sS s7 b := (fun b h0 => hm2.1 b (mv4 b h0))
          have hm := hm.tn hm2
          refine q_aload hx hb dX3_sumBelow_28 (lv_at hl 2 rfl) ?_
          refine q_ngeti_o c1 hx hb hts (fun _ h9 => List.mem_cons_of_mem _ (List.mem_append_right _ h9)) hown hK hg (hS10 b2 c1) 1 (by decide) (hts (.fieldLink RX3 41 "JoinMaps$Node" "value" "I") (List.mem_cons_of_mem _ (List.mem_append_left _ (List.mem_of_getElem? (i := 2) rfl)))) rfl rfl dX3_sumBelow_30 ?_
          have hR11 := GS_R hg (b2 + 64) 1
          refine q_i2l hx hb hR11 dX3_sumBelow_33 ?_
          refine q_ladd hx hb dX3_sumBelow_34 ?_
          refine q_ladd hx hb dX3_sumBelow_35 ?_
          refine lv_lstore_n (i := 2) (lv' := [(2, .long (lI ((v2 + (r8 + (sn s7 (b2 + 64) 1)))))), (1, .int (iI (a1))), (4, va_rf (v4))]) hx hb dX3_sumBelow_36 rfl hl (by decide) (by simp [List.filter_cons, rf_cat, ct_i, ct_l, ct_x]) (fun ls hl => ?_)
          refine q_aload hx hb dX3_sumBelow_37 (lv_at hl 2 rfl) ?_
          refine q_ngetr_o c1 hx hb hts (fun _ h9 => List.mem_cons_of_mem _ (List.mem_append_right _ h9)) hown hK hg (hS10 b2 c1) 5 (by decide) (hts (.fieldLink RX3 30 "JoinMaps$Node" "right" "LJoinMaps$Node;") (List.mem_cons_of_mem _ (List.mem_append_left _ (List.mem_of_getElem? (i := 3) rfl)))) rfl rfl dX3_sumBelow_39 ?_
          have hS12 : ∀ b, (sf s7 (b2 + 64) 5) = some b → sS s7 b := fun b h0 => GS_F hg h0
          refine q_astore (i := 4) (lv' := [(4, va_rf ((sf s7 (b2 + 64) 5))), (2, .long (lI ((v2 + (r8 + (sn s7 (b2 + 64) 1)))))), (1, .int (iI (a1)))]) hx hb dX3_sumBelow_42 hl (by decide) (by simp [List.filter_cons, rf_cat, ct_i, ct_l, ct_x]) (fun ls hl => ?_)
          refine lv_goto (tgt := 5) hx hb dX3_sumBelow_44 (by decide) ?_
          exact ih ((v2 + (r8 + (sn s7 (b2 + 64) 1)))) ((sf s7 (b2 + 64) 5)) (s7) _ _ _ hS12 hg hm (lv_sub hl [2, 1, 0] rfl) h
  refine lv_lconst (v := lI 0) hx hb dX3_sumBelow_0 (by decide) ?_
  refine lv_lstore_n (i := 2) (lv' := [(2, .long (lI (0))), (0, va_rf (a0)), (1, .int (iI (a1)))]) hx hb dX3_sumBelow_1 rfl hl (by decide) (by simp [List.filter_cons, rf_cat, ct_i, ct_l, ct_x]) (fun ls hl => ?_)
  refine q_aload_n hx hb dX3_sumBelow_2 rfl (lv_at hl 1 rfl) ?_
  refine q_astore (i := 4) (lv' := [(4, va_rf (a0)), (2, .long (lI (0))), (0, va_rf (a0)), (1, .int (iI (a1)))]) hx hb dX3_sumBelow_3 hl (by decide) (by simp [List.filter_cons, rf_cat, ct_i, ct_l, ct_x]) (fun ls hl => ?_)
  obtain ⟨kk, h⟩ := h
  exact J5  kk (0) (a0) (σ) _ _ _ ha0 hg hm (lv_sub hl [3, 1, 0] rfl) h
theorem hdX3_keyAt : yX3_keyAt.cls ≠ "java/lang/invoke/MethodHandle" ∧ yX3_keyAt.cls ≠ "java/lang/invoke/VarHandle" ∧ (parseMethodDescriptor yX3_keyAt.desc).map (fun d => d.parameters.length) = some 2 := by decide +kernel
set_option maxRecDepth 100000 in
set_option maxHeartbeats 4000000 in
theorem ctX3_keyAt (l : Launch) (E : Ev) (a0 : Option Nat) (a1 : Int) (σ : SS) (Q : Int → SS → Prop) (ha0 : ∀ b, a0 = some b → sS σ b) (ha1 : R32 a1) (h : wX3_keyAt a0 a1 σ Q) : Met l yX3_keyAt wsX3_keyAt ({ frames := 1, cells := 0, slots := 0, locals := 20 } : Room) (Pc E σ [va_rf (a0), .int (iI (a1))]) (Qi E (sz σ) σ Q) 0 0 (Av E) := by
  rw [wX3_keyAt] at h
  refine Met.ofW (cc := cX3_keyAt) (maxL := 5) (ret := (some .int)) (by decide) rfl ?_
  intro p e s m args below meth c s₁ B hml hv
  obtain ⟨rfl, hH, hK, hN⟩ := hv
  have hx := B.exec
  have hb := B.bytes
  have hr := B.returns
  have hts := atoms_spec (ws := wsX3_keyAt) B.pre
  have hown : s.vm.findClass RX3 = some m.cls := findClass_of_methodNamed B.named
  have hlocks := B.notSynchronized
  have hg : GS E σ s s.heap [] := ⟨hH, va_S.rf⟩
  have hm : Mo (sz σ) σ σ := Mo.rf (Nat.le_refl _)
  have hl := ent (vs := [va_rf (a0), .int (iI (a1))]) (n := 5) (cats_r (cats_i cats_nil)) (Nat.le_of_ble_eq_true rfl)
  rw [lg_entry_eq]
  generalize (lg_sl ([va_rf (a0), .int (iI (a1))]) ++ List.replicate (5 - (lg_sl ([va_rf (a0), .int (iI (a1))])).length) Slot.unset).toArray = ls at hl ⊢
  have hl : lv_has ls 5 [(0, va_rf (a0)), (1, .int (iI (a1)))] := hl
  have J4 : ∀ (k : Nat), ∀ (v2 : Int) (v3 : Option Nat) (sL : SS) (H : Heap) (locs : List Loc) (ls : Array Slot), (∀ b, v3 = some b → sS sL b) → GS E sL s H locs → Mo (sz σ) σ sL → lv_has ls 5 [(2, .int (iI (v2))), (3, va_rf (v3))] → wX3_keyAt_L4 a0 a1 Q  k v2 v3 sL → W p l e (headSpec wsX3_keyAt ({ frames := 1, cells := 0, slots := 0, locals := 20 } : Room)).room s m (List.toArray [va_rf (a0), .int (iI (a1))]) below meth c H locs 0 0 (MQ below (Qi E (sz σ) σ Q) (List.toArray [va_rf (a0), .int (iI (a1))]) s 0 0 (Av E)) (F0 m 4 ls []) := by
    intro k
    induction k with
    | zero => intro v2 v3 sL H locs ls mv3 hg hm hl h; exact False.elim h
    | succ k ih =>
      intro v2 v3 sL H locs ls mv3 hg hm hl h
      rw [wX3_keyAt_L4] at h
      refine q_aload_n hx hb dX3_keyAt_4 rfl (lv_at hl 1 rfl) ?_
      refine j_null (tgt := 57) hx hb dX3_keyAt_5 (by decide) (fun c1 => ?_) (fun b2 c1 => ?_)
      · have h := h.1 c1
        refine q_ldc (z := (-2000000001)) hx hb hown (hts (.constant RX3 44 (-2000000001)) (List.mem_cons_of_mem _ (List.mem_append_left _ (List.mem_of_getElem? (i := 3) rfl)))) (by decide) dX3_keyAt_57 ?_
        exact ret_i hx hb hr hlocks hg (by decide) hm h dX3_keyAt_59
      · have h := h.2 b2 c1
        refine q_aload_n hx hb dX3_keyAt_8 rfl (lv_at hl 1 rfl) ?_
        refine q_ngetr_o c1 hx hb hts (fun _ h9 => List.mem_cons_of_mem _ (List.mem_append_right _ h9)) hown hK hg (mv3 b2 c1) 4 (by decide) (hts (.fieldLink RX3 26 "JoinMaps$Node" "left" "LJoinMaps$Node;") (List.mem_cons_of_mem _ (List.mem_append_left _ (List.mem_of_getElem? (i := 0) rfl)))) rfl rfl dX3_keyAt_9 ?_
        have hS3 : ∀ b, (sf sL (b2 + 64) 4) = some b → sS sL b := fun b h0 => GS_F hg h0
        refine call_i (run_S (As := [va_rf ((sf sL (b2 + 64) 4))]) (rest := []) ⟨hx, hb, hml, hown, hts⟩ (ctX3_countOf l E (sf sL (b2 + 64) 4) sL _ hS3 h) (va_cwS 1 hts gX3_keyAt_X3_countOf rfl rfl rfl hdX3_countOf ⟨Nat.le_of_ble_eq_true rfl, Nat.le_of_ble_eq_true rfl⟩) hK hN hg rfl hl.1 rfl (cat_sum _ (by simp)) dX3_keyAt_12 ⟨Nat.le_refl 0, Nat.le_refl 0⟩) hg (fun r5 s4 H locs hz6 hm2 h hg => ?_)
        have hS7 : ∀ b, v3 = some b → sS s4 b := (fun b h0 => hm2.1 b (mv3 b h0))
        have hm := hm.tn hm2
        refine lv_istore (i := 4) (lv' := [(4, .int (iI (r5))), (2, .int (iI (v2))), (3, va_rf (v3))]) hx hb dX3_keyAt_15 hl (by decide) (by simp [List.filter_cons, rf_cat, ct_i, ct_l, ct_x]) (fun ls hl => ?_)
        refine lv_iload_n hx hb dX3_keyAt_17 rfl (lv_at hl 1 rfl) ?_
        refine lv_iload hx hb dX3_keyAt_18 (lv_at hl 0 rfl) ?_
        obtain ⟨hR8, h⟩ := h
        refine j_ne (tgt := 28) hx hb dX3_keyAt_20 (by decide) hR8 hz6 (fun c9 => ?_) (fun c9 => ?_)
        · have h := h.1 c9
          refine lv_iload_n hx hb dX3_keyAt_28 rfl (lv_at hl 1 rfl) ?_
          refine lv_iload hx hb dX3_keyAt_29 (lv_at hl 0 rfl) ?_
          refine j_ge (tgt := 42) hx hb dX3_keyAt_31 (by decide) hR8 hz6 (fun c10 => ?_) (fun c10 => ?_)
          · have h := h.1 c10
            refine lv_iload_n hx hb dX3_keyAt_42 rfl (lv_at hl 1 rfl) ?_
            refine lv_iload hx hb dX3_keyAt_43 (lv_at hl 0 rfl) ?_
            refine lv_iconst (v := iI 1) hx hb dX3_keyAt_45 (by decide) ?_
            refine q_iadd hx hb dX3_keyAt_46 ?_
            refine q_isub hx hb dX3_keyAt_47 ?_
            refine lv_istore_n (i := 2) (lv' := [(2, .int (iI ((v2 - (r5 + 1))))), (4, .int (iI (r5))), (3, va_rf (v3))]) hx hb dX3_keyAt_48 rfl hl (by decide) (by simp [List.filter_cons, rf_cat, ct_i, ct_l, ct_x]) (fun ls hl => ?_)
            refine q_aload_n hx hb dX3_keyAt_49 rfl (lv_at hl 2 rfl) ?_
            refine q_ngetr_o c1 hx hb hts (fun _ h9 => List.mem_cons_of_mem _ (List.mem_append_right _ h9)) hown hK hg (hS7 b2 c1) 5 (by decide) (hts (.fieldLink RX3 30 "JoinMaps$Node" "right" "LJoinMaps$Node;") (List.mem_cons_of_mem _ (List.mem_append_left _ (List.mem_of_getElem? (i := 2) rfl)))) rfl rfl dX3_keyAt_50 ?_
            have hS11 : ∀ b, (sf s4 (b2 + 64) 5) = some b → sS s4 b := fun b h0 => GS_F hg h0
            refine q_astore_n (i := 3) (lv' := [(3, va_rf ((sf s4 (b2 + 64) 5))), (2, .int (iI ((v2 - (r5 + 1))))), (4, .int (iI (r5)))]) hx hb dX3_keyAt_53 rfl hl (by decide) (by simp [List.filter_cons, rf_cat, ct_i, ct_l, ct_x]) (fun ls hl => ?_)
            refine lv_goto (tgt := 4) hx hb dX3_keyAt_54 (by decide) ?_
            exact ih ((v2 - (r5 + 1))) ((sf s4 (b2 + 64) 5)) (s4) _ _ _ hS11 hg hm (lv_sub hl [1, 0] rfl) h
          · have h := h.2 c10
            refine q_aload_n hx hb dX3_keyAt_34 rfl (lv_at hl 2 rfl) ?_
            refine q_ngetr_o c1 hx hb hts (fun _ h9 => List.mem_cons_of_mem _ (List.mem_append_right _ h9)) hown hK hg (hS7 b2 c1) 4 (by decide) (hts (.fieldLink RX3 26 "JoinMaps$Node" "left" "LJoinMaps$Node;") (List.mem_cons_of_mem _ (List.mem_append_left _ (List.mem_of_getElem? (i := 0) rfl)))) rfl rfl dX3_keyAt_35 ?_
            have hS12 : ∀ b, (sf s4 (b2 + 64) 4) = some b → sS s4 b := fun b h0 => GS_F hg h0
            refine q_astore_n (i := 3) (lv' := [(3, va_rf ((sf s4 (b2 + 64) 4))), (4, .int (iI (r5))), (2, .int (iI (v2)))]) hx hb dX3_keyAt_38 rfl hl (by decide) (by simp [List.filter_cons, rf_cat, ct_i, ct_l, ct_x]) (fun ls hl => ?_)
            refine lv_goto (tgt := 54) hx hb dX3_keyAt_39 (by decide) ?_
            refine lv_goto (tgt := 4) hx hb dX3_keyAt_54 (by decide) ?_
            exact ih (v2) ((sf s4 (b2 + 64) 4)) (s4) _ _ _ hS12 hg hm (lv_sub hl [2, 0] rfl) h
        · have h := h.2 c9
          refine q_aload_n hx hb dX3_keyAt_23 rfl (lv_at hl 2 rfl) ?_
          refine q_ngeti_o c1 hx hb hts (fun _ h9 => List.mem_cons_of_mem _ (List.mem_append_right _ h9)) hown hK hg (hS7 b2 c1) 0 (by decide) (hts (.fieldLink RX3 23 "JoinMaps$Node" "key" "I") (List.mem_cons_of_mem _ (List.mem_append_left _ (List.mem_of_getElem? (i := 1) rfl)))) rfl rfl dX3_keyAt_24 ?_
          have hR13 := GS_R hg (b2 + 64) 0
          exact ret_i hx hb hr hlocks hg hR13 hm h dX3_keyAt_27
  refine lv_iload_n hx hb dX3_keyAt_0 rfl (lv_at hl 1 rfl) ?_
  refine lv_istore_n (i := 2) (lv' := [(2, .int (iI (a1))), (0, va_rf (a0)), (1, .int (iI (a1)))]) hx hb dX3_keyAt_1 rfl hl (by decide) (by simp [List.filter_cons, rf_cat, ct_i, ct_l, ct_x]) (fun ls hl => ?_)
  refine q_aload_n hx hb dX3_keyAt_2 rfl (lv_at hl 1 rfl) ?_
  refine q_astore_n (i := 3) (lv' := [(3, va_rf (a0)), (2, .int (iI (a1))), (0, va_rf (a0)), (1, .int (iI (a1)))]) hx hb dX3_keyAt_3 rfl hl (by decide) (by simp [List.filter_cons, rf_cat, ct_i, ct_l, ct_x]) (fun ls hl => ?_)
  obtain ⟨kk, h⟩ := h
  exact J4  kk (a1) (a0) (σ) _ _ _ ha0 hg hm (lv_sub hl [1, 0] rfl) h
theorem hdX4_add : yX4_add.cls ≠ "java/lang/invoke/MethodHandle" ∧ yX4_add.cls ≠ "java/lang/invoke/VarHandle" ∧ (parseMethodDescriptor yX4_add.desc).map (fun d => d.parameters.length) = some 2 := by decide +kernel
set_option maxRecDepth 100000 in
set_option maxHeartbeats 4000000 in
theorem ctX4_add (l : Launch) (E : Ev) (a1 : Int) (a2 : Int) (σ : SS) (Q : SS → Prop) (ha1 : R32 a1) (ha2 : R32 a2) (h : wX4_add a1 a2 σ Q) : Met l yX4_add wsX4_add ({ frames := 0, cells := 0, slots := 0, locals := 0 } : Room) (Pc E σ [.ref (ea E 7), .int (iI (a1)), .int (iI (a2))]) (Qv E (sz σ) σ Q) 0 0 (Av E) := by
  rw [wX4_add] at h
  refine Met.ofW (cc := cX4_add) (maxL := 3) (ret := none) (by decide) rfl ?_
  intro p e s m args below meth c s₁ B hml hv
  obtain ⟨rfl, hH, hK, hN⟩ := hv
  have hx := B.exec
  have hb := B.bytes
  have hr := B.returns
  have hts := atoms_spec (ws := wsX4_add) B.pre
  have hown : s.vm.findClass RX4 = some m.cls := findClass_of_methodNamed B.named
  have hlocks := B.notSynchronized
  have hg : GS E σ s s.heap [] := ⟨hH, va_S.rf⟩
  have hm : Mo (sz σ) σ σ := Mo.rf (Nat.le_refl _)
  have hl := ent (vs := [.ref (ea E 7), .int (iI (a1)), .int (iI (a2))]) (n := 3) (cats_x (cats_i (cats_i cats_nil))) (Nat.le_of_ble_eq_true rfl)
  rw [lg_entry_eq]
  generalize (lg_sl ([.ref (ea E 7), .int (iI (a1)), .int (iI (a2))]) ++ List.replicate (3 - (lg_sl ([.ref (ea E 7), .int (iI (a1)), .int (iI (a2))])).length) Slot.unset).toArray = ls at hl ⊢
  have hl : lv_has ls 3 [(0, .ref (ea E 7)), (1, .int (iI (a1))), (2, .int (iI (a2)))] := hl
  refine lv_aload_n hx hb dX4_add_0 rfl (lv_at hl 0 rfl) ?_
  refine q_geti (ci := 4) (C := RX4) (T := TX4) (N := 3) hx hb hts (fun _ h9 => List.mem_cons_of_mem _ (List.mem_append_right _ h9)) hown hK hg 7 (by decide) rfl rfl (by decide) rfl 2 (by decide) (hts (.fieldLink RX4 18 "JoinMaps$Plan" "length" "I") (List.mem_cons_of_mem _ (List.mem_append_left _ (List.mem_of_getElem? (i := 0) rfl)))) rfl rfl dX4_add_1 ?_
  have hR1 := GS_R hg 7 2
  refine lv_bipush (v := iI 120) hx hb dX4_add_4 (by decide) ?_
  refine j_ge (tgt := 39) hx hb dX4_add_6 (by decide) hR1 (by decide) (fun c2 => ?_) (fun c2 => ?_)
  · have h := h.1 c2
    exact ret_v hx hb hr hlocks hg hm h dX4_add_39
  · have h := h.2 c2
    refine lv_aload_n hx hb dX4_add_9 rfl (lv_at hl 0 rfl) ?_
    refine q_getx (ci := 4) (C := RX4) (T := TX4) (N := 3) (j := 8) hx hb hts (fun _ h9 => List.mem_cons_of_mem _ (List.mem_append_right _ h9)) hown hK hg 7 (by decide) rfl rfl (by decide) rfl 0 (by decide) (hts (.fieldLink RX4 9 "JoinMaps$Plan" "deeds" "[I") (List.mem_cons_of_mem _ (List.mem_append_left _ (List.mem_of_getElem? (i := 1) rfl)))) rfl rfl rfl dX4_add_10 ?_
    refine lv_aload_n hx hb dX4_add_13 rfl (lv_at hl 0 rfl) ?_
    refine q_geti (ci := 4) (C := RX4) (T := TX4) (N := 3) hx hb hts (fun _ h9 => List.mem_cons_of_mem _ (List.mem_append_right _ h9)) hown hK hg 7 (by decide) rfl rfl (by decide) rfl 2 (by decide) (hts (.fieldLink RX4 18 "JoinMaps$Plan" "length" "I") (List.mem_cons_of_mem _ (List.mem_append_left _ (List.mem_of_getElem? (i := 0) rfl)))) rfl rfl dX4_add_14 ?_
    have hR3 := GS_R hg 7 2
    refine lv_iload_n hx hb dX4_add_17 rfl (lv_at hl 1 rfl) ?_
    obtain ⟨hP4, hP5, h⟩ := h
    refine q_iast (N := 120) hx hb hK hg 8 (by decide) rfl rfl hP4 hP5 (by decide) ha1 dX4_add_18 (fun H locs hg => ?_)
    refine lv_aload_n hx hb dX4_add_19 rfl (lv_at hl 0 rfl) ?_
    refine q_getx (ci := 4) (C := RX4) (T := TX4) (N := 3) (j := 9) hx hb hts (fun _ h9 => List.mem_cons_of_mem _ (List.mem_append_right _ h9)) hown hK hg 7 (by decide) rfl rfl (by decide) rfl 1 (by decide) (hts (.fieldLink RX4 15 "JoinMaps$Plan" "numbers" "[I") (List.mem_cons_of_mem _ (List.mem_append_left _ (List.mem_of_getElem? (i := 2) rfl)))) rfl rfl rfl dX4_add_20 ?_
    refine lv_aload_n hx hb dX4_add_23 rfl (lv_at hl 0 rfl) ?_
    refine q_geti (ci := 4) (C := RX4) (T := TX4) (N := 3) hx hb hts (fun _ h9 => List.mem_cons_of_mem _ (List.mem_append_right _ h9)) hown hK hg 7 (by decide) rfl rfl (by decide) rfl 2 (by decide) (hts (.fieldLink RX4 18 "JoinMaps$Plan" "length" "I") (List.mem_cons_of_mem _ (List.mem_append_left _ (List.mem_of_getElem? (i := 0) rfl)))) rfl rfl dX4_add_24 ?_
    have hR6 := GS_R hg 7 2
    refine lv_iload_n hx hb dX4_add_27 rfl (lv_at hl 2 rfl) ?_
    obtain ⟨hP7, hP8, h⟩ := h
    refine q_iast (N := 120) hx hb hK hg 9 (by decide) rfl rfl hP7 hP8 (by decide) ha2 dX4_add_28 (fun H locs hg => ?_)
    refine lv_aload_n hx hb dX4_add_29 rfl (lv_at hl 0 rfl) ?_
    refine lv_dup hx hb dX4_add_30 rfl ?_
    refine q_geti (ci := 4) (C := RX4) (T := TX4) (N := 3) hx hb hts (fun _ h9 => List.mem_cons_of_mem _ (List.mem_append_right _ h9)) hown hK hg 7 (by decide) rfl rfl (by decide) rfl 2 (by decide) (hts (.fieldLink RX4 18 "JoinMaps$Plan" "length" "I") (List.mem_cons_of_mem _ (List.mem_append_left _ (List.mem_of_getElem? (i := 0) rfl)))) rfl rfl dX4_add_31 ?_
    have hR9 := GS_R hg 7 2
    refine lv_iconst (v := iI 1) hx hb dX4_add_34 (by decide) ?_
    refine q_iadd hx hb dX4_add_35 ?_
    obtain ⟨hR10, h⟩ := h
    refine q_puti (ci := 4) (C := RX4) (T := TX4) (N := 3) hx hb hts (fun _ h9 => List.mem_cons_of_mem _ (List.mem_append_right _ h9)) tyX4 tyX4_ok nmX4 hown hK hg 7 (by decide) rfl rfl (by decide) rfl 2 (by decide) (hts (.fieldLink RX4 18 "JoinMaps$Plan" "length" "I") (List.mem_cons_of_mem _ (List.mem_append_left _ (List.mem_of_getElem? (i := 0) rfl)))) rfl rfl (by decide +kernel) rfl hR10 dX4_add_36 (fun H locs hg => ?_)
    exact ret_v hx hb hr hlocks hg hm h dX4_add_39
theorem hdX4_deedAt : yX4_deedAt.cls ≠ "java/lang/invoke/MethodHandle" ∧ yX4_deedAt.cls ≠ "java/lang/invoke/VarHandle" ∧ (parseMethodDescriptor yX4_deedAt.desc).map (fun d => d.parameters.length) = some 1 := by decide +kernel
set_option maxRecDepth 100000 in
set_option maxHeartbeats 4000000 in
theorem ctX4_deedAt (l : Launch) (E : Ev) (a1 : Int) (σ : SS) (Q : Int → SS → Prop) (ha1 : R32 a1) (h : wX4_deedAt a1 σ Q) : Met l yX4_deedAt wsX4_deedAt ({ frames := 1, cells := 0, slots := 0, locals := 22 } : Room) (Pc E σ [.ref (ea E 7), .int (iI (a1))]) (Qi E (sz σ) σ Q) 0 0 (Av E) := by
  rw [wX4_deedAt] at h
  refine Met.ofW (cc := cX4_deedAt) (maxL := 2) (ret := (some .int)) (by decide) rfl ?_
  intro p e s m args below meth c s₁ B hml hv
  obtain ⟨rfl, hH, hK, hN⟩ := hv
  have hx := B.exec
  have hb := B.bytes
  have hr := B.returns
  have hts := atoms_spec (ws := wsX4_deedAt) B.pre
  have hown : s.vm.findClass RX4 = some m.cls := findClass_of_methodNamed B.named
  have hlocks := B.notSynchronized
  have hg : GS E σ s s.heap [] := ⟨hH, va_S.rf⟩
  have hm : Mo (sz σ) σ σ := Mo.rf (Nat.le_refl _)
  have hl := ent (vs := [.ref (ea E 7), .int (iI (a1))]) (n := 2) (cats_x (cats_i cats_nil)) (Nat.le_of_ble_eq_true rfl)
  rw [lg_entry_eq]
  generalize (lg_sl ([.ref (ea E 7), .int (iI (a1))]) ++ List.replicate (2 - (lg_sl ([.ref (ea E 7), .int (iI (a1))])).length) Slot.unset).toArray = ls at hl ⊢
  have hl : lv_has ls 2 [(0, .ref (ea E 7)), (1, .int (iI (a1)))] := hl
  refine lv_iload_n hx hb dX4_deedAt_0 rfl (lv_at hl 1 rfl) ?_
  refine lv_iconst (v := iI 0) hx hb dX4_deedAt_1 (by decide) ?_
  refine lv_aload_n hx hb dX4_deedAt_2 rfl (lv_at hl 0 rfl) ?_
  refine q_geti (ci := 4) (C := RX4) (T := TX4) (N := 3) hx hb hts (fun _ h9 => List.mem_cons_of_mem _ (List.mem_append_right _ h9)) hown hK hg 7 (by decide) rfl rfl (by decide) rfl 2 (by decide) (hts (.fieldLink RX4 18 "JoinMaps$Plan" "length" "I") (List.mem_cons_of_mem _ (List.mem_append_left _ (List.mem_of_getElem? (i := 0) rfl)))) rfl rfl dX4_deedAt_3 ?_
  have hR1 := GS_R hg 7 2
  refine lv_iconst (v := iI 1) hx hb dX4_deedAt_6 (by decide) ?_
  refine q_isub hx hb dX4_deedAt_7 ?_
  obtain ⟨hR2, h⟩ := h
  refine call_z (run_SN (As := [.int (iI (a1)), .int (iI (0)), .int (iI (((sn σ 7 2) - 1)))]) (rest := []) ⟨hx, hb, hml, hown, hts⟩ (ctX8_isIn l E a1 0 ((sn σ 7 2) - 1) σ _ ha1 (by decide) hR2 h) ⟨va_cnB 3 hts gX4_deedAt_X8_isIn_n22 rfl rfl rfl (hN 3 _ rfl) (hts (.initialized RX8) (List.mem_cons_of_mem _ (List.mem_append_left _ (List.mem_of_getElem? (i := 3) rfl)))) hdX8_isIn ⟨Nat.le_of_ble_eq_true rfl, Nat.le_of_ble_eq_true rfl⟩, (hts (.static yX8_isIn) (List.mem_cons_of_mem _ (List.mem_append_left _ (List.mem_of_getElem? (i := 2) rfl)))), trivial⟩ hK hN hg rfl hl.1 rfl (cat_sum _ (by simp)) dX4_deedAt_8 ⟨Nat.le_refl 0, Nat.le_refl 0⟩) hg (fun r4 s3 H locs hz5 hm2 h hg => ?_)
  have hm := hm.tn hm2
  refine k_eq (tgt := 23) hx hb dX4_deedAt_11 (by decide) (z_R hz5) (fun c6 => ?_) (fun c6 => ?_)
  · have h := h.1 c6
    refine lv_iconst (v := iI 5) hx hb dX4_deedAt_23 (by decide) ?_
    exact ret_i hx hb hr hlocks hg (by decide) hm h dX4_deedAt_24
  · have h := h.2 c6
    refine lv_aload_n hx hb dX4_deedAt_14 rfl (lv_at hl 0 rfl) ?_
    refine q_getx (ci := 4) (C := RX4) (T := TX4) (N := 3) (j := 8) hx hb hts (fun _ h9 => List.mem_cons_of_mem _ (List.mem_append_right _ h9)) hown hK hg 7 (by decide) rfl rfl (by decide) rfl 0 (by decide) (hts (.fieldLink RX4 9 "JoinMaps$Plan" "deeds" "[I") (List.mem_cons_of_mem _ (List.mem_append_left _ (List.mem_of_getElem? (i := 1) rfl)))) rfl rfl rfl dX4_deedAt_15 ?_
    refine lv_iload_n hx hb dX4_deedAt_18 rfl (lv_at hl 1 rfl) ?_
    obtain ⟨hP7, hP8, h⟩ := h
    refine q_iald (N := 120) hx hb hK hg 8 (by decide) rfl rfl hP7 hP8 (by decide) dX4_deedAt_19 ?_
    have hR9 := GS_R hg 8 (a1 : Int).toNat
    refine lv_goto (tgt := 24) hx hb dX4_deedAt_20 (by decide) ?_
    exact ret_i hx hb hr hlocks hg hR9 hm h dX4_deedAt_24
theorem hdX4_numberAt : yX4_numberAt.cls ≠ "java/lang/invoke/MethodHandle" ∧ yX4_numberAt.cls ≠ "java/lang/invoke/VarHandle" ∧ (parseMethodDescriptor yX4_numberAt.desc).map (fun d => d.parameters.length) = some 1 := by decide +kernel
set_option maxRecDepth 100000 in
set_option maxHeartbeats 4000000 in
theorem ctX4_numberAt (l : Launch) (E : Ev) (a1 : Int) (σ : SS) (Q : Int → SS → Prop) (ha1 : R32 a1) (h : wX4_numberAt a1 σ Q) : Met l yX4_numberAt wsX4_numberAt ({ frames := 1, cells := 0, slots := 0, locals := 22 } : Room) (Pc E σ [.ref (ea E 7), .int (iI (a1))]) (Qi E (sz σ) σ Q) 0 0 (Av E) := by
  rw [wX4_numberAt] at h
  refine Met.ofW (cc := cX4_numberAt) (maxL := 2) (ret := (some .int)) (by decide) rfl ?_
  intro p e s m args below meth c s₁ B hml hv
  obtain ⟨rfl, hH, hK, hN⟩ := hv
  have hx := B.exec
  have hb := B.bytes
  have hr := B.returns
  have hts := atoms_spec (ws := wsX4_numberAt) B.pre
  have hown : s.vm.findClass RX4 = some m.cls := findClass_of_methodNamed B.named
  have hlocks := B.notSynchronized
  have hg : GS E σ s s.heap [] := ⟨hH, va_S.rf⟩
  have hm : Mo (sz σ) σ σ := Mo.rf (Nat.le_refl _)
  have hl := ent (vs := [.ref (ea E 7), .int (iI (a1))]) (n := 2) (cats_x (cats_i cats_nil)) (Nat.le_of_ble_eq_true rfl)
  rw [lg_entry_eq]
  generalize (lg_sl ([.ref (ea E 7), .int (iI (a1))]) ++ List.replicate (2 - (lg_sl ([.ref (ea E 7), .int (iI (a1))])).length) Slot.unset).toArray = ls at hl ⊢
  have hl : lv_has ls 2 [(0, .ref (ea E 7)), (1, .int (iI (a1)))] := hl
  refine lv_iload_n hx hb dX4_numberAt_0 rfl (lv_at hl 1 rfl) ?_
  refine lv_iconst (v := iI 0) hx hb dX4_numberAt_1 (by decide) ?_
  refine lv_aload_n hx hb dX4_numberAt_2 rfl (lv_at hl 0 rfl) ?_
  refine q_geti (ci := 4) (C := RX4) (T := TX4) (N := 3) hx hb hts (fun _ h9 => List.mem_cons_of_mem _ (List.mem_append_right _ h9)) hown hK hg 7 (by decide) rfl rfl (by decide) rfl 2 (by decide) (hts (.fieldLink RX4 18 "JoinMaps$Plan" "length" "I") (List.mem_cons_of_mem _ (List.mem_append_left _ (List.mem_of_getElem? (i := 0) rfl)))) rfl rfl dX4_numberAt_3 ?_
  have hR1 := GS_R hg 7 2
  refine lv_iconst (v := iI 1) hx hb dX4_numberAt_6 (by decide) ?_
  refine q_isub hx hb dX4_numberAt_7 ?_
  obtain ⟨hR2, h⟩ := h
  refine call_z (run_SN (As := [.int (iI (a1)), .int (iI (0)), .int (iI (((sn σ 7 2) - 1)))]) (rest := []) ⟨hx, hb, hml, hown, hts⟩ (ctX8_isIn l E a1 0 ((sn σ 7 2) - 1) σ _ ha1 (by decide) hR2 h) ⟨va_cnB 3 hts gX4_numberAt_X8_isIn_n22 rfl rfl rfl (hN 3 _ rfl) (hts (.initialized RX8) (List.mem_cons_of_mem _ (List.mem_append_left _ (List.mem_of_getElem? (i := 3) rfl)))) hdX8_isIn ⟨Nat.le_of_ble_eq_true rfl, Nat.le_of_ble_eq_true rfl⟩, (hts (.static yX8_isIn) (List.mem_cons_of_mem _ (List.mem_append_left _ (List.mem_of_getElem? (i := 2) rfl)))), trivial⟩ hK hN hg rfl hl.1 rfl (cat_sum _ (by simp)) dX4_numberAt_8 ⟨Nat.le_refl 0, Nat.le_refl 0⟩) hg (fun r4 s3 H locs hz5 hm2 h hg => ?_)
  have hm := hm.tn hm2
  refine k_eq (tgt := 23) hx hb dX4_numberAt_11 (by decide) (z_R hz5) (fun c6 => ?_) (fun c6 => ?_)
  · have h := h.1 c6
    refine lv_iconst (v := iI 0) hx hb dX4_numberAt_23 (by decide) ?_
    exact ret_i hx hb hr hlocks hg (by decide) hm h dX4_numberAt_24
  · have h := h.2 c6
    refine lv_aload_n hx hb dX4_numberAt_14 rfl (lv_at hl 0 rfl) ?_
    refine q_getx (ci := 4) (C := RX4) (T := TX4) (N := 3) (j := 9) hx hb hts (fun _ h9 => List.mem_cons_of_mem _ (List.mem_append_right _ h9)) hown hK hg 7 (by decide) rfl rfl (by decide) rfl 1 (by decide) (hts (.fieldLink RX4 15 "JoinMaps$Plan" "numbers" "[I") (List.mem_cons_of_mem _ (List.mem_append_left _ (List.mem_of_getElem? (i := 1) rfl)))) rfl rfl rfl dX4_numberAt_15 ?_
    refine lv_iload_n hx hb dX4_numberAt_18 rfl (lv_at hl 1 rfl) ?_
    obtain ⟨hP7, hP8, h⟩ := h
    refine q_iald (N := 120) hx hb hK hg 9 (by decide) rfl rfl hP7 hP8 (by decide) dX4_numberAt_19 ?_
    have hR9 := GS_R hg 9 (a1 : Int).toNat
    refine lv_goto (tgt := 24) hx hb dX4_numberAt_20 (by decide) ?_
    exact ret_i hx hb hr hlocks hg hR9 hm h dX4_numberAt_24
theorem hdX5_goOn : yX5_goOn.cls ≠ "java/lang/invoke/MethodHandle" ∧ yX5_goOn.cls ≠ "java/lang/invoke/VarHandle" ∧ (parseMethodDescriptor yX5_goOn.desc).map (fun d => d.parameters.length) = some 1 := by decide +kernel
set_option maxRecDepth 100000 in
set_option maxHeartbeats 4000000 in
theorem ctX5_goOn (l : Launch) (E : Ev) (a1 : Int) (σ : SS) (Q : Int → SS → Prop) (ha1 : R32 a1) (h : wX5_goOn a1 σ Q) : Met l yX5_goOn wsX5_goOn ({ frames := 0, cells := 0, slots := 0, locals := 0 } : Room) (Pc E σ [.ref (ea E 10), .int (iI (a1))]) (Qz E (sz σ) σ Q) 0 0 (Av E) := by
  rw [wX5_goOn] at h
  refine Met.ofW (cc := cX5_goOn) (maxL := 2) (ret := (some .boolean)) (by decide) rfl ?_
  intro p e s m args below meth c s₁ B hml hv
  obtain ⟨rfl, hH, hK, hN⟩ := hv
  have hx := B.exec
  have hb := B.bytes
  have hr := B.returns
  have hts := atoms_spec (ws := wsX5_goOn) B.pre
  have hown : s.vm.findClass RX5 = some m.cls := findClass_of_methodNamed B.named
  have hlocks := B.notSynchronized
  have hg : GS E σ s s.heap [] := ⟨hH, va_S.rf⟩
  have hm : Mo (sz σ) σ σ := Mo.rf (Nat.le_refl _)
  have hl := ent (vs := [.ref (ea E 10), .int (iI (a1))]) (n := 2) (cats_x (cats_i cats_nil)) (Nat.le_of_ble_eq_true rfl)
  rw [lg_entry_eq]
  generalize (lg_sl ([.ref (ea E 10), .int (iI (a1))]) ++ List.replicate (2 - (lg_sl ([.ref (ea E 10), .int (iI (a1))])).length) Slot.unset).toArray = ls at hl ⊢
  have hl : lv_has ls 2 [(0, .ref (ea E 10)), (1, .int (iI (a1)))] := hl
  refine lv_aload_n hx hb dX5_goOn_0 rfl (lv_at hl 0 rfl) ?_
  refine lv_dup hx hb dX5_goOn_1 rfl ?_
  refine q_geti (ci := 5) (C := RX5) (T := TX5) (N := 11) hx hb hts (fun _ h9 => List.mem_cons_of_mem _ (List.mem_append_right _ h9)) hown hK hg 10 (by decide) rfl rfl (by decide) rfl 5 (by decide) (hts (.fieldLink RX5 33 "JoinMaps$Reader" "at" "I") (List.mem_cons_of_mem _ (List.mem_append_left _ (List.mem_of_getElem? (i := 0) rfl)))) rfl rfl dX5_goOn_2 ?_
  have hR1 := GS_R hg 10 5
  refine lv_iconst (v := iI 1) hx hb dX5_goOn_5 (by decide) ?_
  refine q_iadd hx hb dX5_goOn_6 ?_
  obtain ⟨hR2, h⟩ := h
  refine q_puti (ci := 5) (C := RX5) (T := TX5) (N := 11) hx hb hts (fun _ h9 => List.mem_cons_of_mem _ (List.mem_append_right _ h9)) tyX5 tyX5_ok nmX5 hown hK hg 10 (by decide) rfl rfl (by decide) rfl 5 (by decide) (hts (.fieldLink RX5 33 "JoinMaps$Reader" "at" "I") (List.mem_cons_of_mem _ (List.mem_append_left _ (List.mem_of_getElem? (i := 0) rfl)))) rfl rfl (by decide +kernel) rfl hR2 dX5_goOn_7 (fun H locs hg => ?_)
  refine lv_aload_n hx hb dX5_goOn_10 rfl (lv_at hl 0 rfl) ?_
  refine lv_iload_n hx hb dX5_goOn_11 rfl (lv_at hl 1 rfl) ?_
  refine q_puti (ci := 5) (C := RX5) (T := TX5) (N := 11) hx hb hts (fun _ h9 => List.mem_cons_of_mem _ (List.mem_append_right _ h9)) tyX5 tyX5_ok nmX5 hown hK hg 10 (by decide) rfl rfl (by decide) rfl 6 (by decide) (hts (.fieldLink RX5 36 "JoinMaps$Reader" "wanted" "I") (List.mem_cons_of_mem _ (List.mem_append_left _ (List.mem_of_getElem? (i := 1) rfl)))) rfl rfl (by decide +kernel) rfl ha1 dX5_goOn_12 (fun H locs hg => ?_)
  refine lv_iconst (v := iI 1) hx hb dX5_goOn_15 (by decide) ?_
  exact ret_z hx hb hr hlocks hg (by decide) hm h dX5_goOn_16
theorem hdX5_isLetter : yX5_isLetter.cls ≠ "java/lang/invoke/MethodHandle" ∧ yX5_isLetter.cls ≠ "java/lang/invoke/VarHandle" ∧ (parseMethodDescriptor yX5_isLetter.desc).map (fun d => d.parameters.length) = some 1 := by decide +kernel
set_option maxRecDepth 100000 in
set_option maxHeartbeats 4000000 in
theorem ctX5_isLetter (l : Launch) (E : Ev) (a0 : Int) (σ : SS) (Q : Int → SS → Prop) (ha0 : R32 a0) (h : wX5_isLetter a0 σ Q) : Met l yX5_isLetter wsX5_isLetter ({ frames := 1, cells := 0, slots := 0, locals := 22 } : Room) (Pc E σ [.int (iI (a0))]) (Qz E (sz σ) σ Q) 0 0 (Av E) := by
  rw [wX5_isLetter] at h
  refine Met.ofW (cc := cX5_isLetter) (maxL := 1) (ret := (some .boolean)) (by decide) rfl ?_
  intro p e s m args below meth c s₁ B hml hv
  obtain ⟨rfl, hH, hK, hN⟩ := hv
  have hx := B.exec
  have hb := B.bytes
  have hr := B.returns
  have hts := atoms_spec (ws := wsX5_isLetter) B.pre
  have hown : s.vm.findClass RX5 = some m.cls := findClass_of_methodNamed B.named
  have hlocks := B.notSynchronized
  have hg : GS E σ s s.heap [] := ⟨hH, va_S.rf⟩
  have hm : Mo (sz σ) σ σ := Mo.rf (Nat.le_refl _)
  have hl := ent (vs := [.int (iI (a0))]) (n := 1) (cats_i cats_nil) (Nat.le_of_ble_eq_true rfl)
  rw [lg_entry_eq]
  generalize (lg_sl ([.int (iI (a0))]) ++ List.replicate (1 - (lg_sl ([.int (iI (a0))])).length) Slot.unset).toArray = ls at hl ⊢
  have hl : lv_has ls 1 [(0, .int (iI (a0)))] := hl
  refine lv_iload_n hx hb dX5_isLetter_0 rfl (lv_at hl 0 rfl) ?_
  refine lv_bipush (v := iI 97) hx hb dX5_isLetter_1 (by decide) ?_
  refine lv_bipush (v := iI 102) hx hb dX5_isLetter_3 (by decide) ?_
  refine call_z (run_SN (As := [.int (iI (a0)), .int (iI (97)), .int (iI (102))]) (rest := []) ⟨hx, hb, hml, hown, hts⟩ (ctX8_isIn l E a0 97 102 σ _ ha0 (by decide) (by decide) h) ⟨va_cnB 3 hts gX5_isLetter_X8_isIn_n73 rfl rfl rfl (hN 4 _ rfl) (hts (.initialized RX8) (List.mem_cons_of_mem _ (List.mem_of_getElem? (i := 1) rfl))) hdX8_isIn ⟨Nat.le_of_ble_eq_true rfl, Nat.le_of_ble_eq_true rfl⟩, (hts (.static yX8_isIn) (List.mem_cons_of_mem _ (List.mem_of_getElem? (i := 0) rfl))), trivial⟩ hK hN hg rfl hl.1 rfl (cat_sum _ (by simp)) dX5_isLetter_5 ⟨Nat.le_refl 0, Nat.le_refl 0⟩) hg (fun r2 s1 H locs hz3 hm2 h hg => ?_)
  have hm := hm.tn hm2
  exact ret_z hx hb hr hlocks hg hz3 hm h dX5_isLetter_8
theorem hdX5_letWait : yX5_letWait.cls ≠ "java/lang/invoke/MethodHandle" ∧ yX5_letWait.cls ≠ "java/lang/invoke/VarHandle" ∧ (parseMethodDescriptor yX5_letWait.desc).map (fun d => d.parameters.length) = some 1 := by decide +kernel
set_option maxRecDepth 100000 in
set_option maxHeartbeats 4000000 in
theorem ctX5_letWait (l : Launch) (E : Ev) (a1 : Int) (σ : SS) (Q : SS → Prop) (ha1 : R32 a1) (h : wX5_letWait a1 σ Q) : Met l yX5_letWait wsX5_letWait ({ frames := 0, cells := 0, slots := 0, locals := 0 } : Room) (Pc E σ [.ref (ea E 10), .int (iI (a1))]) (Qv E (sz σ) σ Q) 0 0 (Av E) := by
  rw [wX5_letWait] at h
  refine Met.ofW (cc := cX5_letWait) (maxL := 2) (ret := none) (by decide) rfl ?_
  intro p e s m args below meth c s₁ B hml hv
  obtain ⟨rfl, hH, hK, hN⟩ := hv
  have hx := B.exec
  have hb := B.bytes
  have hr := B.returns
  have hts := atoms_spec (ws := wsX5_letWait) B.pre
  have hown : s.vm.findClass RX5 = some m.cls := findClass_of_methodNamed B.named
  have hlocks := B.notSynchronized
  have hg : GS E σ s s.heap [] := ⟨hH, va_S.rf⟩
  have hm : Mo (sz σ) σ σ := Mo.rf (Nat.le_refl _)
  have hl := ent (vs := [.ref (ea E 10), .int (iI (a1))]) (n := 2) (cats_x (cats_i cats_nil)) (Nat.le_of_ble_eq_true rfl)
  rw [lg_entry_eq]
  generalize (lg_sl ([.ref (ea E 10), .int (iI (a1))]) ++ List.replicate (2 - (lg_sl ([.ref (ea E 10), .int (iI (a1))])).length) Slot.unset).toArray = ls at hl ⊢
  have hl : lv_has ls 2 [(0, .ref (ea E 10)), (1, .int (iI (a1)))] := hl
  refine lv_aload_n hx hb dX5_letWait_0 rfl (lv_at hl 0 rfl) ?_
  refine q_geti (ci := 5) (C := RX5) (T := TX5) (N := 11) hx hb hts (fun _ h9 => List.mem_cons_of_mem _ (List.mem_append_right _ h9)) hown hK hg 10 (by decide) rfl rfl (by decide) rfl 3 (by decide) (hts (.fieldLink RX5 39 "JoinMaps$Reader" "waits" "I") (List.mem_cons_of_mem _ (List.mem_append_left _ (List.mem_of_getElem? (i := 0) rfl)))) rfl rfl dX5_letWait_1 ?_
  have hR1 := GS_R hg 10 3
  refine lv_bipush (v := iI 120) hx hb dX5_letWait_4 (by decide) ?_
  refine j_ge (tgt := 29) hx hb dX5_letWait_6 (by decide) hR1 (by decide) (fun c2 => ?_) (fun c2 => ?_)
  · have h := h.1 c2
    exact ret_v hx hb hr hlocks hg hm h dX5_letWait_29
  · have h := h.2 c2
    refine lv_aload_n hx hb dX5_letWait_9 rfl (lv_at hl 0 rfl) ?_
    refine q_getx (ci := 5) (C := RX5) (T := TX5) (N := 11) (j := 11) hx hb hts (fun _ h9 => List.mem_cons_of_mem _ (List.mem_append_right _ h9)) hown hK hg 10 (by decide) rfl rfl (by decide) rfl 2 (by decide) (hts (.fieldLink RX5 9 "JoinMaps$Reader" "waiting" "[I") (List.mem_cons_of_mem _ (List.mem_append_left _ (List.mem_of_getElem? (i := 1) rfl)))) rfl rfl rfl dX5_letWait_10 ?_
    refine lv_aload_n hx hb dX5_letWait_13 rfl (lv_at hl 0 rfl) ?_
    refine q_geti (ci := 5) (C := RX5) (T := TX5) (N := 11) hx hb hts (fun _ h9 => List.mem_cons_of_mem _ (List.mem_append_right _ h9)) hown hK hg 10 (by decide) rfl rfl (by decide) rfl 3 (by decide) (hts (.fieldLink RX5 39 "JoinMaps$Reader" "waits" "I") (List.mem_cons_of_mem _ (List.mem_append_left _ (List.mem_of_getElem? (i := 0) rfl)))) rfl rfl dX5_letWait_14 ?_
    have hR3 := GS_R hg 10 3
    refine lv_iload_n hx hb dX5_letWait_17 rfl (lv_at hl 1 rfl) ?_
    obtain ⟨hP4, hP5, h⟩ := h
    refine q_iast (N := 120) hx hb hK hg 11 (by decide) rfl rfl hP4 hP5 (by decide) ha1 dX5_letWait_18 (fun H locs hg => ?_)
    refine lv_aload_n hx hb dX5_letWait_19 rfl (lv_at hl 0 rfl) ?_
    refine lv_dup hx hb dX5_letWait_20 rfl ?_
    refine q_geti (ci := 5) (C := RX5) (T := TX5) (N := 11) hx hb hts (fun _ h9 => List.mem_cons_of_mem _ (List.mem_append_right _ h9)) hown hK hg 10 (by decide) rfl rfl (by decide) rfl 3 (by decide) (hts (.fieldLink RX5 39 "JoinMaps$Reader" "waits" "I") (List.mem_cons_of_mem _ (List.mem_append_left _ (List.mem_of_getElem? (i := 0) rfl)))) rfl rfl dX5_letWait_21 ?_
    have hR6 := GS_R hg 10 3
    refine lv_iconst (v := iI 1) hx hb dX5_letWait_24 (by decide) ?_
    refine q_iadd hx hb dX5_letWait_25 ?_
    obtain ⟨hR7, h⟩ := h
    refine q_puti (ci := 5) (C := RX5) (T := TX5) (N := 11) hx hb hts (fun _ h9 => List.mem_cons_of_mem _ (List.mem_append_right _ h9)) tyX5 tyX5_ok nmX5 hown hK hg 10 (by decide) rfl rfl (by decide) rfl 3 (by decide) (hts (.fieldLink RX5 39 "JoinMaps$Reader" "waits" "I") (List.mem_cons_of_mem _ (List.mem_append_left _ (List.mem_of_getElem? (i := 0) rfl)))) rfl rfl (by decide +kernel) rfl hR7 dX5_letWait_26 (fun H locs hg => ?_)
    exact ret_v hx hb hr hlocks hg hm h dX5_letWait_29
theorem hdX5_acceptsAtom : yX5_acceptsAtom.cls ≠ "java/lang/invoke/MethodHandle" ∧ yX5_acceptsAtom.cls ≠ "java/lang/invoke/VarHandle" ∧ (parseMethodDescriptor yX5_acceptsAtom.desc).map (fun d => d.parameters.length) = some 1 := by decide +kernel
set_option maxRecDepth 100000 in
set_option maxHeartbeats 4000000 in
theorem ctX5_acceptsAtom (l : Launch) (E : Ev) (a1 : Int) (σ : SS) (Q : Int → SS → Prop) (ha1 : R32 a1) (h : wX5_acceptsAtom a1 σ Q) : Met l yX5_acceptsAtom wsX5_acceptsAtom ({ frames := 2, cells := 0, slots := 0, locals := 42 } : Room) (Pc E σ [.ref (ea E 10), .int (iI (a1))]) (Qz E (sz σ) σ Q) 0 0 (Av E) := by
  rw [wX5_acceptsAtom] at h
  refine Met.ofW (cc := cX5_acceptsAtom) (maxL := 2) (ret := (some .boolean)) (by decide) rfl ?_
  intro p e s m args below meth c s₁ B hml hv
  obtain ⟨rfl, hH, hK, hN⟩ := hv
  have hx := B.exec
  have hb := B.bytes
  have hr := B.returns
  have hts := atoms_spec (ws := wsX5_acceptsAtom) B.pre
  have hown : s.vm.findClass RX5 = some m.cls := findClass_of_methodNamed B.named
  have hlocks := B.notSynchronized
  have hg : GS E σ s s.heap [] := ⟨hH, va_S.rf⟩
  have hm : Mo (sz σ) σ σ := Mo.rf (Nat.le_refl _)
  have hl := ent (vs := [.ref (ea E 10), .int (iI (a1))]) (n := 2) (cats_x (cats_i cats_nil)) (Nat.le_of_ble_eq_true rfl)
  rw [lg_entry_eq]
  generalize (lg_sl ([.ref (ea E 10), .int (iI (a1))]) ++ List.replicate (2 - (lg_sl ([.ref (ea E 10), .int (iI (a1))])).length) Slot.unset).toArray = ls at hl ⊢
  have hl : lv_has ls 2 [(0, .ref (ea E 10)), (1, .int (iI (a1)))] := hl
  refine lv_iload_n hx hb dX5_acceptsAtom_0 rfl (lv_at hl 1 rfl) ?_
  refine call_z (run_S (As := [.int (iI (a1))]) (rest := []) ⟨hx, hb, hml, hown, hts⟩ (ctX5_isLetter l E a1 σ _ ha1 h) (va_cwS 1 hts gX5_acceptsAtom_X5_isLetter rfl rfl rfl hdX5_isLetter ⟨Nat.le_of_ble_eq_true rfl, Nat.le_of_ble_eq_true rfl⟩) hK hN hg rfl hl.1 rfl (cat_sum _ (by simp)) dX5_acceptsAtom_1 ⟨Nat.le_refl 0, Nat.le_refl 0⟩) hg (fun r2 s1 H locs hz3 hm2 h hg => ?_)
  have hm := hm.tn hm2
  refine k_eq (tgt := 25) hx hb dX5_acceptsAtom_4 (by decide) (z_R hz3) (fun c4 => ?_) (fun c4 => ?_)
  · have h := h.1 c4
    refine lv_iload_n hx hb dX5_acceptsAtom_25 rfl (lv_at hl 1 rfl) ?_
    refine lv_bipush (v := iI 40) hx hb dX5_acceptsAtom_26 (by decide) ?_
    refine j_ne (tgt := 52) hx hb dX5_acceptsAtom_28 (by decide) ha1 (by decide) (fun c5 => ?_) (fun c5 => ?_)
    · have h := h.1 c5
      refine lv_iload_n hx hb dX5_acceptsAtom_52 rfl (lv_at hl 1 rfl) ?_
      refine lv_bipush (v := iI 123) hx hb dX5_acceptsAtom_53 (by decide) ?_
      refine j_ne (tgt := 78) hx hb dX5_acceptsAtom_55 (by decide) ha1 (by decide) (fun c6 => ?_) (fun c6 => ?_)
      · have h := h.1 c6
        refine lv_iconst (v := iI 0) hx hb dX5_acceptsAtom_78 (by decide) ?_
        exact ret_z hx hb hr hlocks hg (by decide) hm h dX5_acceptsAtom_79
      · have h := h.2 c6
        refine lv_aload_n hx hb dX5_acceptsAtom_58 rfl (lv_at hl 0 rfl) ?_
        refine q_getx (ci := 5) (C := RX5) (T := TX5) (N := 11) (j := 7) hx hb hts (fun _ h9 => List.mem_cons_of_mem _ (List.mem_append_left _ (List.mem_append_right _ h9))) hown hK hg 10 (by decide) rfl rfl (by decide) rfl 1 (by decide) (hts (.fieldLink RX5 19 "JoinMaps$Reader" "plan" "LJoinMaps$Plan;") (List.mem_cons_of_mem _ (List.mem_append_left _ (List.mem_append_left _ (List.mem_append_left _ (List.mem_of_getElem? (i := 0) rfl)))))) rfl rfl rfl dX5_acceptsAtom_59 ?_
        refine lv_iconst (v := iI 5) hx hb dX5_acceptsAtom_62 (by decide) ?_
        refine lv_iconst (v := iI 0) hx hb dX5_acceptsAtom_63 (by decide) ?_
        refine call_v (run_V (a := ea E 7) (As := [.int (iI (5)), .int (iI (0))]) (rest := []) ⟨hx, hb, hml, hown, hts⟩ (ctX4_add l E 5 0 s1 _ (by decide) (by decide) h) (cwV 2 hts gX5_acceptsAtom_X4_add rfl rfl rfl ⟨rfl, hdX4_add⟩ ⟨Nat.le_of_ble_eq_true rfl, Nat.le_of_ble_eq_true rfl⟩) hK hN hg (recv_x (ci := 4) (C := RX4) (T := TX4) (N := 3) hg hK (by decide) rfl (by decide) rfl) rfl hl.1 rfl (cat_sum _ (by simp)) dX5_acceptsAtom_64 ⟨Nat.le_refl 0, Nat.le_refl 0⟩) hg (fun s7 H locs hm2 h hg => ?_)
        have hm := hm.tn hm2
        refine lv_aload_n hx hb dX5_acceptsAtom_67 rfl (lv_at hl 0 rfl) ?_
        refine lv_iconst (v := iI 0) hx hb dX5_acceptsAtom_68 (by decide) ?_
        refine q_puti (ci := 5) (C := RX5) (T := TX5) (N := 11) hx hb hts (fun _ h9 => List.mem_cons_of_mem _ (List.mem_append_left _ (List.mem_append_right _ h9))) tyX5 tyX5_ok nmX5 hown hK hg 10 (by decide) rfl rfl (by decide) rfl 9 (by decide) (hts (.fieldLink RX5 91 "JoinMaps$Reader" "numbers" "I") (List.mem_cons_of_mem _ (List.mem_append_left _ (List.mem_append_left _ (List.mem_append_left _ (List.mem_of_getElem? (i := 2) rfl)))))) rfl rfl (by decide +kernel) rfl (by decide) dX5_acceptsAtom_69 (fun H locs hg => ?_)
        refine lv_aload_n hx hb dX5_acceptsAtom_72 rfl (lv_at hl 0 rfl) ?_
        refine lv_iconst (v := iI 4) hx hb dX5_acceptsAtom_73 (by decide) ?_
        refine call_z (run_V (a := ea E 10) (As := [.int (iI (4))]) (rest := []) ⟨hx, hb, hml, hown, hts⟩ (ctX5_goOn l E 4 (un s7 10 9 (0)) _ (by decide) h) (cwV 1 hts gX5_acceptsAtom_X5_goOn rfl rfl rfl ⟨rfl, hdX5_goOn⟩ ⟨Nat.le_of_ble_eq_true rfl, Nat.le_of_ble_eq_true rfl⟩) hK hN hg (recv_x (ci := 5) (C := RX5) (T := TX5) (N := 11) hg hK (by decide) rfl (by decide) rfl) rfl hl.1 rfl (cat_sum _ (by simp)) dX5_acceptsAtom_74 ⟨Nat.le_refl 0, Nat.le_refl 0⟩) hg (fun r11 s10 H locs hz12 hm2 h hg => ?_)
        have hm := hm.tn hm2
        exact ret_z hx hb hr hlocks hg hz12 hm h dX5_acceptsAtom_77
    · have h := h.2 c5
      refine lv_aload_n hx hb dX5_acceptsAtom_31 rfl (lv_at hl 0 rfl) ?_
      refine lv_iconst (v := iI (-1)) hx hb dX5_acceptsAtom_32 (by decide) ?_
      refine call_v (run_V (a := ea E 10) (As := [.int (iI ((-1)))]) (rest := []) ⟨hx, hb, hml, hown, hts⟩ (ctX5_letWait l E (-1) s1 _ (by decide) h) (cwV 1 hts gX5_acceptsAtom_X5_letWait rfl rfl rfl ⟨rfl, hdX5_letWait⟩ ⟨Nat.le_of_ble_eq_true rfl, Nat.le_of_ble_eq_true rfl⟩) hK hN hg (recv_x (ci := 5) (C := RX5) (T := TX5) (N := 11) hg hK (by decide) rfl (by decide) rfl) rfl hl.1 rfl (cat_sum _ (by simp)) dX5_acceptsAtom_33 ⟨Nat.le_refl 0, Nat.le_refl 0⟩) hg (fun s13 H locs hm2 h hg => ?_)
      have hm := hm.tn hm2
      refine lv_aload_n hx hb dX5_acceptsAtom_36 rfl (lv_at hl 0 rfl) ?_
      refine lv_dup hx hb dX5_acceptsAtom_37 rfl ?_
      refine q_geti (ci := 5) (C := RX5) (T := TX5) (N := 11) hx hb hts (fun _ h9 => List.mem_cons_of_mem _ (List.mem_append_left _ (List.mem_append_right _ h9))) hown hK hg 10 (by decide) rfl rfl (by decide) rfl 8 (by decide) (hts (.fieldLink RX5 42 "JoinMaps$Reader" "open" "I") (List.mem_cons_of_mem _ (List.mem_append_left _ (List.mem_append_left _ (List.mem_append_left _ (List.mem_of_getElem? (i := 1) rfl)))))) rfl rfl dX5_acceptsAtom_38 ?_
      have hR16 := GS_R hg 10 8
      refine lv_iconst (v := iI 1) hx hb dX5_acceptsAtom_41 (by decide) ?_
      refine q_iadd hx hb dX5_acceptsAtom_42 ?_
      obtain ⟨hR17, h⟩ := h
      refine q_puti (ci := 5) (C := RX5) (T := TX5) (N := 11) hx hb hts (fun _ h9 => List.mem_cons_of_mem _ (List.mem_append_left _ (List.mem_append_right _ h9))) tyX5 tyX5_ok nmX5 hown hK hg 10 (by decide) rfl rfl (by decide) rfl 8 (by decide) (hts (.fieldLink RX5 42 "JoinMaps$Reader" "open" "I") (List.mem_cons_of_mem _ (List.mem_append_left _ (List.mem_append_left _ (List.mem_append_left _ (List.mem_of_getElem? (i := 1) rfl)))))) rfl rfl (by decide +kernel) rfl hR17 dX5_acceptsAtom_43 (fun H locs hg => ?_)
      refine lv_aload_n hx hb dX5_acceptsAtom_46 rfl (lv_at hl 0 rfl) ?_
      refine lv_iconst (v := iI 2) hx hb dX5_acceptsAtom_47 (by decide) ?_
      refine call_z (run_V (a := ea E 10) (As := [.int (iI (2))]) (rest := []) ⟨hx, hb, hml, hown, hts⟩ (ctX5_goOn l E 2 (un s13 10 8 (((sn s13 10 8) + 1))) _ (by decide) h) (cwV 1 hts gX5_acceptsAtom_X5_goOn rfl rfl rfl ⟨rfl, hdX5_goOn⟩ ⟨Nat.le_of_ble_eq_true rfl, Nat.le_of_ble_eq_true rfl⟩) hK hN hg (recv_x (ci := 5) (C := RX5) (T := TX5) (N := 11) hg hK (by decide) rfl (by decide) rfl) rfl hl.1 rfl (cat_sum _ (by simp)) dX5_acceptsAtom_48 ⟨Nat.le_refl 0, Nat.le_refl 0⟩) hg (fun r19 s18 H locs hz20 hm2 h hg => ?_)
      have hm := hm.tn hm2
      exact ret_z hx hb hr hlocks hg hz20 hm h dX5_acceptsAtom_51
  · have h := h.2 c4
    refine lv_aload_n hx hb dX5_acceptsAtom_7 rfl (lv_at hl 0 rfl) ?_
    refine q_getx (ci := 5) (C := RX5) (T := TX5) (N := 11) (j := 7) hx hb hts (fun _ h9 => List.mem_cons_of_mem _ (List.mem_append_left _ (List.mem_append_right _ h9))) hown hK hg 10 (by decide) rfl rfl (by decide) rfl 1 (by decide) (hts (.fieldLink RX5 19 "JoinMaps$Reader" "plan" "LJoinMaps$Plan;") (List.mem_cons_of_mem _ (List.mem_append_left _ (List.mem_append_left _ (List.mem_append_left _ (List.mem_of_getElem? (i := 0) rfl)))))) rfl rfl rfl dX5_acceptsAtom_8 ?_
    refine lv_iconst (v := iI 4) hx hb dX5_acceptsAtom_11 (by decide) ?_
    refine lv_iload_n hx hb dX5_acceptsAtom_12 rfl (lv_at hl 1 rfl) ?_
    refine lv_bipush (v := iI 97) hx hb dX5_acceptsAtom_13 (by decide) ?_
    refine q_isub hx hb dX5_acceptsAtom_15 ?_
    obtain ⟨hR21, h⟩ := h
    refine call_v (run_V (a := ea E 7) (As := [.int (iI (4)), .int (iI ((a1 - 97)))]) (rest := []) ⟨hx, hb, hml, hown, hts⟩ (ctX4_add l E 4 (a1 - 97) s1 _ (by decide) hR21 h) (cwV 2 hts gX5_acceptsAtom_X4_add rfl rfl rfl ⟨rfl, hdX4_add⟩ ⟨Nat.le_of_ble_eq_true rfl, Nat.le_of_ble_eq_true rfl⟩) hK hN hg (recv_x (ci := 4) (C := RX4) (T := TX4) (N := 3) hg hK (by decide) rfl (by decide) rfl) rfl hl.1 rfl (cat_sum _ (by simp)) dX5_acceptsAtom_16 ⟨Nat.le_refl 0, Nat.le_refl 0⟩) hg (fun s22 H locs hm2 h hg => ?_)
    have hm := hm.tn hm2
    refine lv_aload_n hx hb dX5_acceptsAtom_19 rfl (lv_at hl 0 rfl) ?_
    refine lv_iconst (v := iI 3) hx hb dX5_acceptsAtom_20 (by decide) ?_
    refine call_z (run_V (a := ea E 10) (As := [.int (iI (3))]) (rest := []) ⟨hx, hb, hml, hown, hts⟩ (ctX5_goOn l E 3 s22 _ (by decide) h) (cwV 1 hts gX5_acceptsAtom_X5_goOn rfl rfl rfl ⟨rfl, hdX5_goOn⟩ ⟨Nat.le_of_ble_eq_true rfl, Nat.le_of_ble_eq_true rfl⟩) hK hN hg (recv_x (ci := 5) (C := RX5) (T := TX5) (N := 11) hg hK (by decide) rfl (by decide) rfl) rfl hl.1 rfl (cat_sum _ (by simp)) dX5_acceptsAtom_21 ⟨Nat.le_refl 0, Nat.le_refl 0⟩) hg (fun r26 s25 H locs hz27 hm2 h hg => ?_)
    have hm := hm.tn hm2
    exact ret_z hx hb hr hlocks hg hz27 hm h dX5_acceptsAtom_24
theorem hdX5_acceptsComma : yX5_acceptsComma.cls ≠ "java/lang/invoke/MethodHandle" ∧ yX5_acceptsComma.cls ≠ "java/lang/invoke/VarHandle" ∧ (parseMethodDescriptor yX5_acceptsComma.desc).map (fun d => d.parameters.length) = some 1 := by decide +kernel
set_option maxRecDepth 100000 in
set_option maxHeartbeats 4000000 in
theorem ctX5_acceptsComma (l : Launch) (E : Ev) (a1 : Int) (σ : SS) (Q : Int → SS → Prop) (ha1 : R32 a1) (h : wX5_acceptsComma a1 σ Q) : Met l yX5_acceptsComma wsX5_acceptsComma ({ frames := 1, cells := 0, slots := 0, locals := 21 } : Room) (Pc E σ [.ref (ea E 10), .int (iI (a1))]) (Qz E (sz σ) σ Q) 0 0 (Av E) := by
  rw [wX5_acceptsComma] at h
  refine Met.ofW (cc := cX5_acceptsComma) (maxL := 2) (ret := (some .boolean)) (by decide) rfl ?_
  intro p e s m args below meth c s₁ B hml hv
  obtain ⟨rfl, hH, hK, hN⟩ := hv
  have hx := B.exec
  have hb := B.bytes
  have hr := B.returns
  have hts := atoms_spec (ws := wsX5_acceptsComma) B.pre
  have hown : s.vm.findClass RX5 = some m.cls := findClass_of_methodNamed B.named
  have hlocks := B.notSynchronized
  have hg : GS E σ s s.heap [] := ⟨hH, va_S.rf⟩
  have hm : Mo (sz σ) σ σ := Mo.rf (Nat.le_refl _)
  have hl := ent (vs := [.ref (ea E 10), .int (iI (a1))]) (n := 2) (cats_x (cats_i cats_nil)) (Nat.le_of_ble_eq_true rfl)
  rw [lg_entry_eq]
  generalize (lg_sl ([.ref (ea E 10), .int (iI (a1))]) ++ List.replicate (2 - (lg_sl ([.ref (ea E 10), .int (iI (a1))])).length) Slot.unset).toArray = ls at hl ⊢
  have hl : lv_has ls 2 [(0, .ref (ea E 10)), (1, .int (iI (a1)))] := hl
  refine lv_iload_n hx hb dX5_acceptsComma_0 rfl (lv_at hl 1 rfl) ?_
  refine lv_bipush (v := iI 125) hx hb dX5_acceptsComma_1 (by decide) ?_
  refine j_ne (tgt := 12) hx hb dX5_acceptsComma_3 (by decide) ha1 (by decide) (fun c1 => ?_) (fun c1 => ?_)
  · have h := h.1 c1
    refine lv_iload_n hx hb dX5_acceptsComma_12 rfl (lv_at hl 1 rfl) ?_
    refine lv_bipush (v := iI 44) hx hb dX5_acceptsComma_13 (by decide) ?_
    refine j_ne (tgt := 39) hx hb dX5_acceptsComma_15 (by decide) ha1 (by decide) (fun c2 => ?_) (fun c2 => ?_)
    · have h := h.1 c2
      refine lv_iconst (v := iI 0) hx hb dX5_acceptsComma_39 (by decide) ?_
      exact ret_z hx hb hr hlocks hg (by decide) hm h dX5_acceptsComma_40
    · have h := h.2 c2
      refine lv_aload_n hx hb dX5_acceptsComma_18 rfl (lv_at hl 0 rfl) ?_
      refine q_geti (ci := 5) (C := RX5) (T := TX5) (N := 11) hx hb hts (fun _ h9 => List.mem_cons_of_mem _ (List.mem_append_right _ h9)) hown hK hg 10 (by decide) rfl rfl (by decide) rfl 9 (by decide) (hts (.fieldLink RX5 91 "JoinMaps$Reader" "numbers" "I") (List.mem_cons_of_mem _ (List.mem_append_left _ (List.mem_of_getElem? (i := 0) rfl)))) rfl rfl dX5_acceptsComma_19 ?_
      have hR3 := GS_R hg 10 9
      refine lv_bipush (v := iI 8) hx hb dX5_acceptsComma_22 (by decide) ?_
      refine j_ge (tgt := 39) hx hb dX5_acceptsComma_24 (by decide) hR3 (by decide) (fun c4 => ?_) (fun c4 => ?_)
      · have h := h.1 c4
        refine lv_iconst (v := iI 0) hx hb dX5_acceptsComma_39 (by decide) ?_
        exact ret_z hx hb hr hlocks hg (by decide) hm h dX5_acceptsComma_40
      · have h := h.2 c4
        refine lv_aload_n hx hb dX5_acceptsComma_27 rfl (lv_at hl 0 rfl) ?_
        refine lv_iconst (v := iI 5) hx hb dX5_acceptsComma_28 (by decide) ?_
        refine call_z (run_V (a := ea E 10) (As := [.int (iI (5))]) (rest := []) ⟨hx, hb, hml, hown, hts⟩ (ctX5_goOn l E 5 σ _ (by decide) h) (cwV 1 hts gX5_acceptsComma_X5_goOn rfl rfl rfl ⟨rfl, hdX5_goOn⟩ ⟨Nat.le_of_ble_eq_true rfl, Nat.le_of_ble_eq_true rfl⟩) hK hN hg (recv_x (ci := 5) (C := RX5) (T := TX5) (N := 11) hg hK (by decide) rfl (by decide) rfl) rfl hl.1 rfl (cat_sum _ (by simp)) dX5_acceptsComma_29 ⟨Nat.le_refl 0, Nat.le_refl 0⟩) hg (fun r6 s5 H locs hz7 hm2 h hg => ?_)
        have hm := hm.tn hm2
        refine k_eq (tgt := 39) hx hb dX5_acceptsComma_32 (by decide) (z_R hz7) (fun c8 => ?_) (fun c8 => ?_)
        · have h := h.1 c8
          refine lv_iconst (v := iI 0) hx hb dX5_acceptsComma_39 (by decide) ?_
          exact ret_z hx hb hr hlocks hg (by decide) hm h dX5_acceptsComma_40
        · have h := h.2 c8
          refine lv_iconst (v := iI 1) hx hb dX5_acceptsComma_35 (by decide) ?_
          refine lv_goto (tgt := 40) hx hb dX5_acceptsComma_36 (by decide) ?_
          exact ret_z hx hb hr hlocks hg (by decide) hm h dX5_acceptsComma_40
  · have h := h.2 c1
    refine lv_aload_n hx hb dX5_acceptsComma_6 rfl (lv_at hl 0 rfl) ?_
    refine lv_iconst (v := iI 3) hx hb dX5_acceptsComma_7 (by decide) ?_
    refine call_z (run_V (a := ea E 10) (As := [.int (iI (3))]) (rest := []) ⟨hx, hb, hml, hown, hts⟩ (ctX5_goOn l E 3 σ _ (by decide) h) (cwV 1 hts gX5_acceptsComma_X5_goOn rfl rfl rfl ⟨rfl, hdX5_goOn⟩ ⟨Nat.le_of_ble_eq_true rfl, Nat.le_of_ble_eq_true rfl⟩) hK hN hg (recv_x (ci := 5) (C := RX5) (T := TX5) (N := 11) hg hK (by decide) rfl (by decide) rfl) rfl hl.1 rfl (cat_sum _ (by simp)) dX5_acceptsComma_8 ⟨Nat.le_refl 0, Nat.le_refl 0⟩) hg (fun r10 s9 H locs hz11 hm2 h hg => ?_)
    have hm := hm.tn hm2
    exact ret_z hx hb hr hlocks hg hz11 hm h dX5_acceptsComma_11
theorem hdX5_acceptsNumber : yX5_acceptsNumber.cls ≠ "java/lang/invoke/MethodHandle" ∧ yX5_acceptsNumber.cls ≠ "java/lang/invoke/VarHandle" ∧ (parseMethodDescriptor yX5_acceptsNumber.desc).map (fun d => d.parameters.length) = some 1 := by decide +kernel
set_option maxRecDepth 100000 in
set_option maxHeartbeats 4000000 in
theorem ctX5_acceptsNumber (l : Launch) (E : Ev) (a1 : Int) (σ : SS) (Q : Int → SS → Prop) (ha1 : R32 a1) (h : wX5_acceptsNumber a1 σ Q) : Met l yX5_acceptsNumber wsX5_acceptsNumber ({ frames := 1, cells := 0, slots := 0, locals := 22 } : Room) (Pc E σ [.ref (ea E 10), .int (iI (a1))]) (Qz E (sz σ) σ Q) 0 0 (Av E) := by
  rw [wX5_acceptsNumber] at h
  refine Met.ofW (cc := cX5_acceptsNumber) (maxL := 5) (ret := (some .boolean)) (by decide) rfl ?_
  intro p e s m args below meth c s₁ B hml hv
  obtain ⟨rfl, hH, hK, hN⟩ := hv
  have hx := B.exec
  have hb := B.bytes
  have hr := B.returns
  have hts := atoms_spec (ws := wsX5_acceptsNumber) B.pre
  have hown : s.vm.findClass RX5 = some m.cls := findClass_of_methodNamed B.named
  have hlocks := B.notSynchronized
  have hg : GS E σ s s.heap [] := ⟨hH, va_S.rf⟩
  have hm : Mo (sz σ) σ σ := Mo.rf (Nat.le_refl _)
  have hl := ent (vs := [.ref (ea E 10), .int (iI (a1))]) (n := 5) (cats_x (cats_i cats_nil)) (Nat.le_of_ble_eq_true rfl)
  rw [lg_entry_eq]
  generalize (lg_sl ([.ref (ea E 10), .int (iI (a1))]) ++ List.replicate (5 - (lg_sl ([.ref (ea E 10), .int (iI (a1))])).length) Slot.unset).toArray = ls at hl ⊢
  have hl : lv_has ls 5 [(0, .ref (ea E 10)), (1, .int (iI (a1)))] := hl
  have J125 : ∀ (v3 : Int) (u0 : Int) (u1 : Int) (sL : SS) (H : Heap) (locs : List Loc) (ls : Array Slot), GS E sL s H locs → Mo (sz σ) σ sL → lv_has ls 5 [(0, .ref (ea E 10)), (3, .int (iI (v3)))] → wX5_acceptsNumber_L125 a1 Q  v3 u0 u1 sL → W p l e (headSpec wsX5_acceptsNumber ({ frames := 1, cells := 0, slots := 0, locals := 22 } : Room)).room s m (List.toArray [.ref (ea E 10), .int (iI (a1))]) below meth c H locs 0 0 (MQ below (Qz E (sz σ) σ Q) (List.toArray [.ref (ea E 10), .int (iI (a1))]) s 0 0 (Av E)) (F0 m 125 ls [.int (iI (u0)), .int (iI (u1)), .ref (ea E 7)]) := by
    intro v3 u0 u1 sL H locs ls hg hm hl h
    rw [wX5_acceptsNumber_L125] at h
    obtain ⟨hR27, hR28, h⟩ := h
    refine call_v (run_V (a := ea E 7) (As := [.int (iI (u1)), .int (iI (u0))]) (rest := []) ⟨hx, hb, hml, hown, hts⟩ (ctX4_add l E u1 u0 sL _ hR27 hR28 h) (cwV 2 hts gX5_acceptsNumber_X4_add rfl rfl rfl ⟨rfl, hdX4_add⟩ ⟨Nat.le_of_ble_eq_true rfl, Nat.le_of_ble_eq_true rfl⟩) hK hN hg (recv_x (ci := 4) (C := RX4) (T := TX4) (N := 3) hg hK (by decide) rfl (by decide) rfl) rfl hl.1 rfl (cat_sum _ (by simp)) dX5_acceptsNumber_125 ⟨Nat.le_refl 0, Nat.le_refl 0⟩) hg (fun s29 H locs hm2 h hg => ?_)
    have hm := hm.tn hm2
    refine lv_aload_n hx hb dX5_acceptsNumber_128 rfl (lv_at hl 0 rfl) ?_
    refine lv_dup hx hb dX5_acceptsNumber_129 rfl ?_
    refine q_geti (ci := 5) (C := RX5) (T := TX5) (N := 11) hx hb hts (fun _ h9 => List.mem_cons_of_mem _ (List.mem_append_left _ (List.mem_append_right _ h9))) hown hK hg 10 (by decide) rfl rfl (by decide) rfl 9 (by decide) (hts (.fieldLink RX5 91 "JoinMaps$Reader" "numbers" "I") (List.mem_cons_of_mem _ (List.mem_append_left _ (List.mem_append_left _ (List.mem_of_getElem? (i := 4) rfl))))) rfl rfl dX5_acceptsNumber_130 ?_
    have hR32 := GS_R hg 10 9
    refine lv_iconst (v := iI 1) hx hb dX5_acceptsNumber_133 (by decide) ?_
    refine q_iadd hx hb dX5_acceptsNumber_134 ?_
    obtain ⟨hR33, h⟩ := h
    refine q_puti (ci := 5) (C := RX5) (T := TX5) (N := 11) hx hb hts (fun _ h9 => List.mem_cons_of_mem _ (List.mem_append_left _ (List.mem_append_right _ h9))) tyX5 tyX5_ok nmX5 hown hK hg 10 (by decide) rfl rfl (by decide) rfl 9 (by decide) (hts (.fieldLink RX5 91 "JoinMaps$Reader" "numbers" "I") (List.mem_cons_of_mem _ (List.mem_append_left _ (List.mem_append_left _ (List.mem_of_getElem? (i := 4) rfl))))) rfl rfl (by decide +kernel) rfl hR33 dX5_acceptsNumber_135 (fun H locs hg => ?_)
    refine lv_aload_n hx hb dX5_acceptsNumber_138 rfl (lv_at hl 0 rfl) ?_
    refine lv_iload_n hx hb dX5_acceptsNumber_139 rfl (lv_at hl 1 rfl) ?_
    obtain ⟨hR34, h⟩ := h
    refine q_puti (ci := 5) (C := RX5) (T := TX5) (N := 11) hx hb hts (fun _ h9 => List.mem_cons_of_mem _ (List.mem_append_left _ (List.mem_append_right _ h9))) tyX5 tyX5_ok nmX5 hown hK hg 10 (by decide) rfl rfl (by decide) rfl 5 (by decide) (hts (.fieldLink RX5 33 "JoinMaps$Reader" "at" "I") (List.mem_cons_of_mem _ (List.mem_append_left _ (List.mem_append_left _ (List.mem_of_getElem? (i := 0) rfl))))) rfl rfl (by decide +kernel) rfl hR34 dX5_acceptsNumber_140 (fun H locs hg => ?_)
    refine lv_aload_n hx hb dX5_acceptsNumber_143 rfl (lv_at hl 0 rfl) ?_
    refine lv_bipush (v := iI 6) hx hb dX5_acceptsNumber_144 (by decide) ?_
    refine q_puti (ci := 5) (C := RX5) (T := TX5) (N := 11) hx hb hts (fun _ h9 => List.mem_cons_of_mem _ (List.mem_append_left _ (List.mem_append_right _ h9))) tyX5 tyX5_ok nmX5 hown hK hg 10 (by decide) rfl rfl (by decide) rfl 6 (by decide) (hts (.fieldLink RX5 36 "JoinMaps$Reader" "wanted" "I") (List.mem_cons_of_mem _ (List.mem_append_left _ (List.mem_append_left _ (List.mem_of_getElem? (i := 5) rfl))))) rfl rfl (by decide +kernel) rfl (by decide) dX5_acceptsNumber_146 (fun H locs hg => ?_)
    refine lv_iconst (v := iI 1) hx hb dX5_acceptsNumber_149 (by decide) ?_
    exact ret_z hx hb hr hlocks hg (by decide) hm h dX5_acceptsNumber_150
  have J84 : ∀ (v2 : Int) (v3 : Int) (v4 : Int) (sL : SS) (H : Heap) (locs : List Loc) (ls : Array Slot), GS E sL s H locs → Mo (sz σ) σ sL → lv_has ls 5 [(0, .ref (ea E 10)), (1, .int (iI (a1))), (2, .int (iI (v2))), (3, .int (iI (v3))), (4, .int (iI (v4)))] → wX5_acceptsNumber_L84 a1 Q  v2 v3 v4 sL → W p l e (headSpec wsX5_acceptsNumber ({ frames := 1, cells := 0, slots := 0, locals := 22 } : Room)).room s m (List.toArray [.ref (ea E 10), .int (iI (a1))]) below meth c H locs 0 0 (MQ below (Qz E (sz σ) σ Q) (List.toArray [.ref (ea E 10), .int (iI (a1))]) s 0 0 (Av E)) (F0 m 84 ls []) := by
    intro v2 v3 v4 sL H locs ls hg hm hl h
    rw [wX5_acceptsNumber_L84] at h
    refine lv_iload_n hx hb dX5_acceptsNumber_84 rfl (lv_at hl 3 rfl) ?_
    refine lv_iload_n hx hb dX5_acceptsNumber_85 rfl (lv_at hl 2 rfl) ?_
    refine q_isub hx hb dX5_acceptsNumber_86 ?_
    refine lv_iconst (v := iI 1) hx hb dX5_acceptsNumber_87 (by decide) ?_
    refine lv_iconst (v := iI 3) hx hb dX5_acceptsNumber_88 (by decide) ?_
    obtain ⟨hR19, h⟩ := h
    refine call_z (run_SN (As := [.int (iI ((v3 - v2))), .int (iI (1)), .int (iI (3))]) (rest := []) ⟨hx, hb, hml, hown, hts⟩ (ctX8_isIn l E (v3 - v2) 1 3 sL _ hR19 (by decide) (by decide) h) ⟨va_cnB 3 hts gX5_acceptsNumber_X8_isIn_n73 rfl rfl rfl (hN 4 _ rfl) (hts (.initialized RX8) (List.mem_cons_of_mem _ (List.mem_append_left _ (List.mem_append_left _ (List.mem_of_getElem? (i := 7) rfl))))) hdX8_isIn ⟨Nat.le_of_ble_eq_true rfl, Nat.le_of_ble_eq_true rfl⟩, (hts (.static yX8_isIn) (List.mem_cons_of_mem _ (List.mem_append_left _ (List.mem_append_left _ (List.mem_of_getElem? (i := 6) rfl))))), trivial⟩ hK hN hg rfl hl.1 rfl (cat_sum _ (by simp)) dX5_acceptsNumber_89 ⟨Nat.le_refl 0, Nat.le_refl 0⟩) hg (fun r21 s20 H locs hz22 hm2 h hg => ?_)
    have hm := hm.tn hm2
    refine k_eq (tgt := 103) hx hb dX5_acceptsNumber_92 (by decide) (z_R hz22) (fun c23 => ?_) (fun c23 => ?_)
    · have h := h.1 c23
      refine lv_iconst (v := iI 0) hx hb dX5_acceptsNumber_103 (by decide) ?_
      exact ret_z hx hb hr hlocks hg (by decide) hm h dX5_acceptsNumber_104
    · have h := h.2 c23
      refine lv_iload hx hb dX5_acceptsNumber_95 (lv_at hl 4 rfl) ?_
      refine lv_sipush (v := iI 500) hx hb dX5_acceptsNumber_97 (by decide) ?_
      obtain ⟨hR24, h⟩ := h
      refine j_le (tgt := 105) hx hb dX5_acceptsNumber_100 (by decide) hR24 (by decide) (fun c25 => ?_) (fun c25 => ?_)
      · have h := h.1 c25
        refine lv_aload_n hx hb dX5_acceptsNumber_105 rfl (lv_at hl 0 rfl) ?_
        refine q_getx (ci := 5) (C := RX5) (T := TX5) (N := 11) (j := 7) hx hb hts (fun _ h9 => List.mem_cons_of_mem _ (List.mem_append_left _ (List.mem_append_right _ h9))) hown hK hg 10 (by decide) rfl rfl (by decide) rfl 1 (by decide) (hts (.fieldLink RX5 19 "JoinMaps$Reader" "plan" "LJoinMaps$Plan;") (List.mem_cons_of_mem _ (List.mem_append_left _ (List.mem_append_left _ (List.mem_of_getElem? (i := 3) rfl))))) rfl rfl rfl dX5_acceptsNumber_106 ?_
        refine lv_bipush (v := iI 6) hx hb dX5_acceptsNumber_109 (by decide) ?_
        refine lv_iload_n hx hb dX5_acceptsNumber_111 rfl (lv_at hl 1 rfl) ?_
        refine lv_bipush (v := iI 45) hx hb dX5_acceptsNumber_112 (by decide) ?_
        refine j_ne (tgt := 123) hx hb dX5_acceptsNumber_114 (by decide) ha1 (by decide) (fun c26 => ?_) (fun c26 => ?_)
        · have h := h.1 c26
          refine lv_iload hx hb dX5_acceptsNumber_123 (lv_at hl 4 rfl) ?_
          exact J125  (v3) (v4) (6) (s20) _ _ _ hg hm (lv_sub hl [0, 3] rfl) h
        · have h := h.2 c26
          refine lv_iload hx hb dX5_acceptsNumber_117 (lv_at hl 4 rfl) ?_
          refine q_ineg hx hb dX5_acceptsNumber_119 ?_
          refine lv_goto (tgt := 125) hx hb dX5_acceptsNumber_120 (by decide) ?_
          exact J125  (v3) ((-v4)) (6) (s20) _ _ _ hg hm (lv_sub hl [0, 3] rfl) h
      · have h := h.2 c25
        refine lv_iconst (v := iI 0) hx hb dX5_acceptsNumber_103 (by decide) ?_
        exact ret_z hx hb hr hlocks hg (by decide) hm h dX5_acceptsNumber_104
  have J25 : ∀ (k : Nat), ∀ (v2 : Int) (v3 : Int) (v4 : Int) (sL : SS) (H : Heap) (locs : List Loc) (ls : Array Slot), GS E sL s H locs → Mo (sz σ) σ sL → lv_has ls 5 [(0, .ref (ea E 10)), (1, .int (iI (a1))), (2, .int (iI (v2))), (3, .int (iI (v3))), (4, .int (iI (v4)))] → wX5_acceptsNumber_L25 a1 Q  k v2 v3 v4 sL → W p l e (headSpec wsX5_acceptsNumber ({ frames := 1, cells := 0, slots := 0, locals := 22 } : Room)).room s m (List.toArray [.ref (ea E 10), .int (iI (a1))]) below meth c H locs 0 0 (MQ below (Qz E (sz σ) σ Q) (List.toArray [.ref (ea E 10), .int (iI (a1))]) s 0 0 (Av E)) (F0 m 25 ls []) := by
    intro k
    induction k with
    | zero => intro v2 v3 v4 sL H locs ls hg hm hl h; exact False.elim h
    | succ k ih =>
      intro v2 v3 v4 sL H locs ls hg hm hl h
      rw [wX5_acceptsNumber_L25] at h
      refine lv_iload_n hx hb dX5_acceptsNumber_25 rfl (lv_at hl 3 rfl) ?_
      refine lv_aload_n hx hb dX5_acceptsNumber_26 rfl (lv_at hl 0 rfl) ?_
      refine q_geti (ci := 5) (C := RX5) (T := TX5) (N := 11) hx hb hts (fun _ h9 => List.mem_cons_of_mem _ (List.mem_append_left _ (List.mem_append_right _ h9))) hown hK hg 10 (by decide) rfl rfl (by decide) rfl 4 (by decide) (hts (.fieldLink RX5 29 "JoinMaps$Reader" "length" "I") (List.mem_cons_of_mem _ (List.mem_append_left _ (List.mem_append_left _ (List.mem_of_getElem? (i := 1) rfl))))) rfl rfl dX5_acceptsNumber_27 ?_
      have hR4 := GS_R hg 10 4
      obtain ⟨hR5, h⟩ := h
      refine j_ge (tgt := 84) hx hb dX5_acceptsNumber_30 (by decide) hR5 hR4 (fun c6 => ?_) (fun c6 => ?_)
      · have h := h.1 c6
        exact J84  (v2) (v3) (v4) (sL) _ _ _ hg hm (lv_sub hl [0, 1, 2, 3, 4] rfl) h
      · have h := h.2 c6
        refine lv_aload_n hx hb dX5_acceptsNumber_33 rfl (lv_at hl 0 rfl) ?_
        refine q_getx (ci := 5) (C := RX5) (T := TX5) (N := 11) (j := 6) hx hb hts (fun _ h9 => List.mem_cons_of_mem _ (List.mem_append_left _ (List.mem_append_right _ h9))) hown hK hg 10 (by decide) rfl rfl (by decide) rfl 0 (by decide) (hts (.fieldLink RX5 15 "JoinMaps$Reader" "bytes" "[B") (List.mem_cons_of_mem _ (List.mem_append_left _ (List.mem_append_left _ (List.mem_of_getElem? (i := 2) rfl))))) rfl rfl rfl dX5_acceptsNumber_34 ?_
        refine lv_iload_n hx hb dX5_acceptsNumber_37 rfl (lv_at hl 3 rfl) ?_
        obtain ⟨hP7, hP8, h⟩ := h
        refine q_bald (N := 120) hx hb hK hg 6 (by decide) rfl rfl hP7 hP8 (by decide) dX5_acceptsNumber_38 ?_
        have hR9 := GS_R hg 6 (v3 : Int).toNat
        refine lv_bipush (v := iI 48) hx hb dX5_acceptsNumber_39 (by decide) ?_
        refine lv_bipush (v := iI 57) hx hb dX5_acceptsNumber_41 (by decide) ?_
        refine call_z (run_SN (As := [.int (iI ((sn sL 6 (v3 : Int).toNat))), .int (iI (48)), .int (iI (57))]) (rest := []) ⟨hx, hb, hml, hown, hts⟩ (ctX8_isIn l E (sn sL 6 (v3 : Int).toNat) 48 57 sL _ hR9 (by decide) (by decide) h) ⟨va_cnB 3 hts gX5_acceptsNumber_X8_isIn_n73 rfl rfl rfl (hN 4 _ rfl) (hts (.initialized RX8) (List.mem_cons_of_mem _ (List.mem_append_left _ (List.mem_append_left _ (List.mem_of_getElem? (i := 7) rfl))))) hdX8_isIn ⟨Nat.le_of_ble_eq_true rfl, Nat.le_of_ble_eq_true rfl⟩, (hts (.static yX8_isIn) (List.mem_cons_of_mem _ (List.mem_append_left _ (List.mem_append_left _ (List.mem_of_getElem? (i := 6) rfl))))), trivial⟩ hK hN hg rfl hl.1 rfl (cat_sum _ (by simp)) dX5_acceptsNumber_43 ⟨Nat.le_refl 0, Nat.le_refl 0⟩) hg (fun r11 s10 H locs hz12 hm2 h hg => ?_)
        have hm := hm.tn hm2
        refine k_eq (tgt := 84) hx hb dX5_acceptsNumber_46 (by decide) (z_R hz12) (fun c13 => ?_) (fun c13 => ?_)
        · have h := h.1 c13
          exact J84  (v2) (v3) (v4) (s10) _ _ _ hg hm (lv_sub hl [0, 1, 2, 3, 4] rfl) h
        · have h := h.2 c13
          refine lv_iload_n hx hb dX5_acceptsNumber_49 rfl (lv_at hl 3 rfl) ?_
          refine lv_iload_n hx hb dX5_acceptsNumber_50 rfl (lv_at hl 2 rfl) ?_
          refine q_isub hx hb dX5_acceptsNumber_51 ?_
          refine lv_iconst (v := iI 3) hx hb dX5_acceptsNumber_52 (by decide) ?_
          obtain ⟨hR14, h⟩ := h
          refine j_ge (tgt := 74) hx hb dX5_acceptsNumber_53 (by decide) hR14 (by decide) (fun c15 => ?_) (fun c15 => ?_)
          · have h := h.1 c15
            refine lv_iload hx hb dX5_acceptsNumber_74 (lv_at hl 4 rfl) ?_
            refine lv_istore (i := 4) (lv' := [(4, .int (iI (v4))), (0, .ref (ea E 10)), (1, .int (iI (a1))), (2, .int (iI (v2))), (3, .int (iI (v3)))]) hx hb dX5_acceptsNumber_76 hl (by decide) rfl (fun ls hl => ?_)
            refine lv_iinc (v := iI (v3 + 1)) (lv' := [(3, .int (iI (v3 + 1))), (4, .int (iI (v4))), (0, .ref (ea E 10)), (1, .int (iI (a1))), (2, .int (iI (v2)))]) hx hb dX5_acceptsNumber_78 hl (k := 4) rfl (iI_add _ _) (by decide) rfl (fun ls hl => ?_)
            refine lv_goto (tgt := 25) hx hb dX5_acceptsNumber_81 (by decide) ?_
            exact ih (v2) (v3 + 1) (v4) (s10) _ _ _ hg hm (lv_sub hl [2, 3, 4, 0, 1] rfl) h
          · have h := h.2 c15
            refine lv_iload hx hb dX5_acceptsNumber_56 (lv_at hl 4 rfl) ?_
            refine lv_bipush (v := iI 10) hx hb dX5_acceptsNumber_58 (by decide) ?_
            refine q_imul hx hb dX5_acceptsNumber_60 ?_
            refine lv_aload_n hx hb dX5_acceptsNumber_61 rfl (lv_at hl 0 rfl) ?_
            refine q_getx (ci := 5) (C := RX5) (T := TX5) (N := 11) (j := 6) hx hb hts (fun _ h9 => List.mem_cons_of_mem _ (List.mem_append_left _ (List.mem_append_right _ h9))) hown hK hg 10 (by decide) rfl rfl (by decide) rfl 0 (by decide) (hts (.fieldLink RX5 15 "JoinMaps$Reader" "bytes" "[B") (List.mem_cons_of_mem _ (List.mem_append_left _ (List.mem_append_left _ (List.mem_of_getElem? (i := 2) rfl))))) rfl rfl rfl dX5_acceptsNumber_62 ?_
            refine lv_iload_n hx hb dX5_acceptsNumber_65 rfl (lv_at hl 3 rfl) ?_
            obtain ⟨hP16, hP17, h⟩ := h
            refine q_bald (N := 120) hx hb hK hg 6 (by decide) rfl rfl hP16 hP17 (by decide) dX5_acceptsNumber_66 ?_
            have hR18 := GS_R hg 6 (v3 : Int).toNat
            refine q_iadd hx hb dX5_acceptsNumber_67 ?_
            refine lv_bipush (v := iI 48) hx hb dX5_acceptsNumber_68 (by decide) ?_
            refine q_isub hx hb dX5_acceptsNumber_70 ?_
            refine lv_goto (tgt := 76) hx hb dX5_acceptsNumber_71 (by decide) ?_
            refine lv_istore (i := 4) (lv' := [(4, .int (iI ((((v4 * 10) + (sn s10 6 (v3 : Int).toNat)) - 48)))), (0, .ref (ea E 10)), (1, .int (iI (a1))), (2, .int (iI (v2))), (3, .int (iI (v3)))]) hx hb dX5_acceptsNumber_76 hl (by decide) rfl (fun ls hl => ?_)
            refine lv_iinc (v := iI (v3 + 1)) (lv' := [(3, .int (iI (v3 + 1))), (4, .int (iI ((((v4 * 10) + (sn s10 6 (v3 : Int).toNat)) - 48)))), (0, .ref (ea E 10)), (1, .int (iI (a1))), (2, .int (iI (v2)))]) hx hb dX5_acceptsNumber_78 hl (k := 4) rfl (iI_add _ _) (by decide) rfl (fun ls hl => ?_)
            refine lv_goto (tgt := 25) hx hb dX5_acceptsNumber_81 (by decide) ?_
            exact ih (v2) (v3 + 1) ((((v4 * 10) + (sn s10 6 (v3 : Int).toNat)) - 48)) (s10) _ _ _ hg hm (lv_sub hl [2, 3, 4, 0, 1] rfl) h
  refine lv_iload_n hx hb dX5_acceptsNumber_0 rfl (lv_at hl 1 rfl) ?_
  refine lv_bipush (v := iI 45) hx hb dX5_acceptsNumber_1 (by decide) ?_
  refine j_ne (tgt := 15) hx hb dX5_acceptsNumber_3 (by decide) ha1 (by decide) (fun c1 => ?_) (fun c1 => ?_)
  · have h := h.1 c1
    refine lv_aload_n hx hb dX5_acceptsNumber_15 rfl (lv_at hl 0 rfl) ?_
    refine q_geti (ci := 5) (C := RX5) (T := TX5) (N := 11) hx hb hts (fun _ h9 => List.mem_cons_of_mem _ (List.mem_append_left _ (List.mem_append_right _ h9))) hown hK hg 10 (by decide) rfl rfl (by decide) rfl 5 (by decide) (hts (.fieldLink RX5 33 "JoinMaps$Reader" "at" "I") (List.mem_cons_of_mem _ (List.mem_append_left _ (List.mem_append_left _ (List.mem_of_getElem? (i := 0) rfl))))) rfl rfl dX5_acceptsNumber_16 ?_
    have hR2 := GS_R hg 10 5
    refine lv_istore_n (i := 2) (lv' := [(2, .int (iI ((sn σ 10 5)))), (0, .ref (ea E 10)), (1, .int (iI (a1)))]) hx hb dX5_acceptsNumber_19 rfl hl (by decide) rfl (fun ls hl => ?_)
    refine lv_iload_n hx hb dX5_acceptsNumber_20 rfl (lv_at hl 0 rfl) ?_
    refine lv_istore_n (i := 3) (lv' := [(3, .int (iI ((sn σ 10 5)))), (2, .int (iI ((sn σ 10 5)))), (0, .ref (ea E 10)), (1, .int (iI (a1)))]) hx hb dX5_acceptsNumber_21 rfl hl (by decide) rfl (fun ls hl => ?_)
    refine lv_iconst (v := iI 0) hx hb dX5_acceptsNumber_22 (by decide) ?_
    refine lv_istore (i := 4) (lv' := [(4, .int (iI (0))), (3, .int (iI ((sn σ 10 5)))), (2, .int (iI ((sn σ 10 5)))), (0, .ref (ea E 10)), (1, .int (iI (a1)))]) hx hb dX5_acceptsNumber_23 hl (by decide) rfl (fun ls hl => ?_)
    obtain ⟨kk, h⟩ := h
    exact J25  kk ((sn σ 10 5)) ((sn σ 10 5)) (0) (σ) _ _ _ hg hm (lv_sub hl [3, 4, 2, 1, 0] rfl) h
  · have h := h.2 c1
    refine lv_aload_n hx hb dX5_acceptsNumber_6 rfl (lv_at hl 0 rfl) ?_
    refine q_geti (ci := 5) (C := RX5) (T := TX5) (N := 11) hx hb hts (fun _ h9 => List.mem_cons_of_mem _ (List.mem_append_left _ (List.mem_append_right _ h9))) hown hK hg 10 (by decide) rfl rfl (by decide) rfl 5 (by decide) (hts (.fieldLink RX5 33 "JoinMaps$Reader" "at" "I") (List.mem_cons_of_mem _ (List.mem_append_left _ (List.mem_append_left _ (List.mem_of_getElem? (i := 0) rfl))))) rfl rfl dX5_acceptsNumber_7 ?_
    have hR3 := GS_R hg 10 5
    refine lv_iconst (v := iI 1) hx hb dX5_acceptsNumber_10 (by decide) ?_
    refine q_iadd hx hb dX5_acceptsNumber_11 ?_
    refine lv_goto (tgt := 19) hx hb dX5_acceptsNumber_12 (by decide) ?_
    refine lv_istore_n (i := 2) (lv' := [(2, .int (iI (((sn σ 10 5) + 1)))), (0, .ref (ea E 10)), (1, .int (iI (a1)))]) hx hb dX5_acceptsNumber_19 rfl hl (by decide) rfl (fun ls hl => ?_)
    refine lv_iload_n hx hb dX5_acceptsNumber_20 rfl (lv_at hl 0 rfl) ?_
    refine lv_istore_n (i := 3) (lv' := [(3, .int (iI (((sn σ 10 5) + 1)))), (2, .int (iI (((sn σ 10 5) + 1)))), (0, .ref (ea E 10)), (1, .int (iI (a1)))]) hx hb dX5_acceptsNumber_21 rfl hl (by decide) rfl (fun ls hl => ?_)
    refine lv_iconst (v := iI 0) hx hb dX5_acceptsNumber_22 (by decide) ?_
    refine lv_istore (i := 4) (lv' := [(4, .int (iI (0))), (3, .int (iI (((sn σ 10 5) + 1)))), (2, .int (iI (((sn σ 10 5) + 1)))), (0, .ref (ea E 10)), (1, .int (iI (a1)))]) hx hb dX5_acceptsNumber_23 hl (by decide) rfl (fun ls hl => ?_)
    obtain ⟨kk, h⟩ := h
    exact J25  kk (((sn σ 10 5) + 1)) (((sn σ 10 5) + 1)) (0) (σ) _ _ _ hg hm (lv_sub hl [3, 4, 2, 1, 0] rfl) h
theorem hdX5_strength : yX5_strength.cls ≠ "java/lang/invoke/MethodHandle" ∧ yX5_strength.cls ≠ "java/lang/invoke/VarHandle" ∧ (parseMethodDescriptor yX5_strength.desc).map (fun d => d.parameters.length) = some 1 := by decide +kernel
set_option maxRecDepth 100000 in
set_option maxHeartbeats 4000000 in
theorem ctX5_strength (l : Launch) (E : Ev) (a0 : Int) (σ : SS) (Q : Int → SS → Prop) (ha0 : R32 a0) (h : wX5_strength a0 σ Q) : Met l yX5_strength wsX5_strength ({ frames := 0, cells := 0, slots := 0, locals := 0 } : Room) (Pc E σ [.int (iI (a0))]) (Qi E (sz σ) σ Q) 0 0 (Av E) := by
  rw [wX5_strength] at h
  refine Met.ofW (cc := cX5_strength) (maxL := 1) (ret := (some .int)) (by decide) rfl ?_
  intro p e s m args below meth c s₁ B hml hv
  obtain ⟨rfl, hH, hK, hN⟩ := hv
  have hx := B.exec
  have hb := B.bytes
  have hr := B.returns
  have hts := atoms_spec (ws := wsX5_strength) B.pre
  have hown : s.vm.findClass RX5 = some m.cls := findClass_of_methodNamed B.named
  have hlocks := B.notSynchronized
  have hg : GS E σ s s.heap [] := ⟨hH, va_S.rf⟩
  have hm : Mo (sz σ) σ σ := Mo.rf (Nat.le_refl _)
  have hl := ent (vs := [.int (iI (a0))]) (n := 1) (cats_i cats_nil) (Nat.le_of_ble_eq_true rfl)
  rw [lg_entry_eq]
  generalize (lg_sl ([.int (iI (a0))]) ++ List.replicate (1 - (lg_sl ([.int (iI (a0))])).length) Slot.unset).toArray = ls at hl ⊢
  have hl : lv_has ls 1 [(0, .int (iI (a0)))] := hl
  refine lv_iload_n hx hb dX5_strength_0 rfl (lv_at hl 0 rfl) ?_
  refine lv_iconst (v := iI (-1)) hx hb dX5_strength_1 (by decide) ?_
  refine j_ne (tgt := 9) hx hb dX5_strength_2 (by decide) ha0 (by decide) (fun c1 => ?_) (fun c1 => ?_)
  · have h := h.1 c1
    refine lv_iload_n hx hb dX5_strength_9 rfl (lv_at hl 0 rfl) ?_
    refine lv_iconst (v := iI 1) hx hb dX5_strength_10 (by decide) ?_
    refine j_ne (tgt := 18) hx hb dX5_strength_11 (by decide) ha0 (by decide) (fun c2 => ?_) (fun c2 => ?_)
    · have h := h.1 c2
      refine lv_iconst (v := iI 1) hx hb dX5_strength_18 (by decide) ?_
      exact ret_i hx hb hr hlocks hg (by decide) hm h dX5_strength_19
    · have h := h.2 c2
      refine lv_iconst (v := iI 2) hx hb dX5_strength_14 (by decide) ?_
      refine lv_goto (tgt := 19) hx hb dX5_strength_15 (by decide) ?_
      exact ret_i hx hb hr hlocks hg (by decide) hm h dX5_strength_19
  · have h := h.2 c1
    refine lv_iconst (v := iI 0) hx hb dX5_strength_5 (by decide) ?_
    refine lv_goto (tgt := 19) hx hb dX5_strength_6 (by decide) ?_
    exact ret_i hx hb hr hlocks hg (by decide) hm h dX5_strength_19
theorem hdX5_writeWaiting : yX5_writeWaiting.cls ≠ "java/lang/invoke/MethodHandle" ∧ yX5_writeWaiting.cls ≠ "java/lang/invoke/VarHandle" ∧ (parseMethodDescriptor yX5_writeWaiting.desc).map (fun d => d.parameters.length) = some 1 := by decide +kernel
set_option maxRecDepth 100000 in
set_option maxHeartbeats 4000000 in
theorem ctX5_writeWaiting (l : Launch) (E : Ev) (a1 : Int) (σ : SS) (Q : SS → Prop) (ha1 : R32 a1) (h : wX5_writeWaiting a1 σ Q) : Met l yX5_writeWaiting wsX5_writeWaiting ({ frames := 1, cells := 0, slots := 0, locals := 22 } : Room) (Pc E σ [.ref (ea E 10), .int (iI (a1))]) (Qv E (sz σ) σ Q) 0 0 (Av E) := by
  rw [wX5_writeWaiting] at h
  refine Met.ofW (cc := cX5_writeWaiting) (maxL := 2) (ret := none) (by decide) rfl ?_
  intro p e s m args below meth c s₁ B hml hv
  obtain ⟨rfl, hH, hK, hN⟩ := hv
  have hx := B.exec
  have hb := B.bytes
  have hr := B.returns
  have hts := atoms_spec (ws := wsX5_writeWaiting) B.pre
  have hown : s.vm.findClass RX5 = some m.cls := findClass_of_methodNamed B.named
  have hlocks := B.notSynchronized
  have hg : GS E σ s s.heap [] := ⟨hH, va_S.rf⟩
  have hm : Mo (sz σ) σ σ := Mo.rf (Nat.le_refl _)
  have hl := ent (vs := [.ref (ea E 10), .int (iI (a1))]) (n := 2) (cats_x (cats_i cats_nil)) (Nat.le_of_ble_eq_true rfl)
  rw [lg_entry_eq]
  generalize (lg_sl ([.ref (ea E 10), .int (iI (a1))]) ++ List.replicate (2 - (lg_sl ([.ref (ea E 10), .int (iI (a1))])).length) Slot.unset).toArray = ls at hl ⊢
  have hl : lv_has ls 2 [(0, .ref (ea E 10)), (1, .int (iI (a1)))] := hl
  have J0 : ∀ (k : Nat), ∀ (sL : SS) (H : Heap) (locs : List Loc) (ls : Array Slot), GS E sL s H locs → Mo (sz σ) σ sL → lv_has ls 2 [(0, .ref (ea E 10)), (1, .int (iI (a1)))] → wX5_writeWaiting_L0 a1 Q  k  sL → W p l e (headSpec wsX5_writeWaiting ({ frames := 1, cells := 0, slots := 0, locals := 22 } : Room)).room s m (List.toArray [.ref (ea E 10), .int (iI (a1))]) below meth c H locs 0 0 (MQ below (Qv E (sz σ) σ Q) (List.toArray [.ref (ea E 10), .int (iI (a1))]) s 0 0 (Av E)) (F0 m 0 ls []) := by
    intro k
    induction k with
    | zero => intro sL H locs ls hg hm hl h; exact False.elim h
    | succ k ih =>
      intro sL H locs ls hg hm hl h
      rw [wX5_writeWaiting_L0] at h
      refine lv_aload_n hx hb dX5_writeWaiting_0 rfl (lv_at hl 0 rfl) ?_
      refine q_geti (ci := 5) (C := RX5) (T := TX5) (N := 11) hx hb hts (fun _ h9 => List.mem_cons_of_mem _ (List.mem_append_left _ (List.mem_append_right _ h9))) hown hK hg 10 (by decide) rfl rfl (by decide) rfl 3 (by decide) (hts (.fieldLink RX5 39 "JoinMaps$Reader" "waits" "I") (List.mem_cons_of_mem _ (List.mem_append_left _ (List.mem_append_left _ (List.mem_of_getElem? (i := 0) rfl))))) rfl rfl dX5_writeWaiting_1 ?_
      have hR1 := GS_R hg 10 3
      refine k_le (tgt := 55) hx hb dX5_writeWaiting_4 (by decide) hR1 (fun c2 => ?_) (fun c2 => ?_)
      · have h := h.1 c2
        exact ret_v hx hb hr hlocks hg hm h dX5_writeWaiting_55
      · have h := h.2 c2
        refine lv_aload_n hx hb dX5_writeWaiting_7 rfl (lv_at hl 0 rfl) ?_
        refine q_getx (ci := 5) (C := RX5) (T := TX5) (N := 11) (j := 11) hx hb hts (fun _ h9 => List.mem_cons_of_mem _ (List.mem_append_left _ (List.mem_append_right _ h9))) hown hK hg 10 (by decide) rfl rfl (by decide) rfl 2 (by decide) (hts (.fieldLink RX5 9 "JoinMaps$Reader" "waiting" "[I") (List.mem_cons_of_mem _ (List.mem_append_left _ (List.mem_append_left _ (List.mem_of_getElem? (i := 1) rfl))))) rfl rfl rfl dX5_writeWaiting_8 ?_
        refine lv_aload_n hx hb dX5_writeWaiting_11 rfl (lv_at hl 0 rfl) ?_
        refine q_geti (ci := 5) (C := RX5) (T := TX5) (N := 11) hx hb hts (fun _ h9 => List.mem_cons_of_mem _ (List.mem_append_left _ (List.mem_append_right _ h9))) hown hK hg 10 (by decide) rfl rfl (by decide) rfl 3 (by decide) (hts (.fieldLink RX5 39 "JoinMaps$Reader" "waits" "I") (List.mem_cons_of_mem _ (List.mem_append_left _ (List.mem_append_left _ (List.mem_of_getElem? (i := 0) rfl))))) rfl rfl dX5_writeWaiting_12 ?_
        have hR3 := GS_R hg 10 3
        refine lv_iconst (v := iI 1) hx hb dX5_writeWaiting_15 (by decide) ?_
        refine q_isub hx hb dX5_writeWaiting_16 ?_
        obtain ⟨hP4, hP5, h⟩ := h
        refine q_iald (N := 120) hx hb hK hg 11 (by decide) rfl rfl hP4 hP5 (by decide) dX5_writeWaiting_17 ?_
        have hR6 := GS_R hg 11 (((sn sL 10 3) - 1) : Int).toNat
        refine call_i (run_S (As := [.int (iI ((sn sL 11 (((sn sL 10 3) - 1) : Int).toNat)))]) (rest := []) ⟨hx, hb, hml, hown, hts⟩ (ctX5_strength l E (sn sL 11 (((sn sL 10 3) - 1) : Int).toNat) sL _ hR6 h) (va_cwS 1 hts gX5_writeWaiting_X5_strength rfl rfl rfl hdX5_strength ⟨Nat.le_of_ble_eq_true rfl, Nat.le_of_ble_eq_true rfl⟩) hK hN hg rfl hl.1 rfl (cat_sum _ (by simp)) dX5_writeWaiting_18 ⟨Nat.le_refl 0, Nat.le_refl 0⟩) hg (fun r8 s7 H locs hz9 hm2 h hg => ?_)
        have hm := hm.tn hm2
        refine lv_iload_n hx hb dX5_writeWaiting_21 rfl (lv_at hl 1 rfl) ?_
        refine j_lt (tgt := 55) hx hb dX5_writeWaiting_22 (by decide) hz9 ha1 (fun c10 => ?_) (fun c10 => ?_)
        · have h := h.1 c10
          exact ret_v hx hb hr hlocks hg hm h dX5_writeWaiting_55
        · have h := h.2 c10
          refine lv_aload_n hx hb dX5_writeWaiting_25 rfl (lv_at hl 0 rfl) ?_
          refine lv_dup hx hb dX5_writeWaiting_26 rfl ?_
          refine q_geti (ci := 5) (C := RX5) (T := TX5) (N := 11) hx hb hts (fun _ h9 => List.mem_cons_of_mem _ (List.mem_append_left _ (List.mem_append_right _ h9))) hown hK hg 10 (by decide) rfl rfl (by decide) rfl 3 (by decide) (hts (.fieldLink RX5 39 "JoinMaps$Reader" "waits" "I") (List.mem_cons_of_mem _ (List.mem_append_left _ (List.mem_append_left _ (List.mem_of_getElem? (i := 0) rfl))))) rfl rfl dX5_writeWaiting_27 ?_
          have hR11 := GS_R hg 10 3
          refine lv_iconst (v := iI 1) hx hb dX5_writeWaiting_30 (by decide) ?_
          refine q_isub hx hb dX5_writeWaiting_31 ?_
          obtain ⟨hR12, h⟩ := h
          refine q_puti (ci := 5) (C := RX5) (T := TX5) (N := 11) hx hb hts (fun _ h9 => List.mem_cons_of_mem _ (List.mem_append_left _ (List.mem_append_right _ h9))) tyX5 tyX5_ok nmX5 hown hK hg 10 (by decide) rfl rfl (by decide) rfl 3 (by decide) (hts (.fieldLink RX5 39 "JoinMaps$Reader" "waits" "I") (List.mem_cons_of_mem _ (List.mem_append_left _ (List.mem_append_left _ (List.mem_of_getElem? (i := 0) rfl))))) rfl rfl (by decide +kernel) rfl hR12 dX5_writeWaiting_32 (fun H locs hg => ?_)
          refine lv_aload_n hx hb dX5_writeWaiting_35 rfl (lv_at hl 0 rfl) ?_
          refine q_getx (ci := 5) (C := RX5) (T := TX5) (N := 11) (j := 7) hx hb hts (fun _ h9 => List.mem_cons_of_mem _ (List.mem_append_left _ (List.mem_append_right _ h9))) hown hK hg 10 (by decide) rfl rfl (by decide) rfl 1 (by decide) (hts (.fieldLink RX5 19 "JoinMaps$Reader" "plan" "LJoinMaps$Plan;") (List.mem_cons_of_mem _ (List.mem_append_left _ (List.mem_append_left _ (List.mem_of_getElem? (i := 2) rfl))))) rfl rfl rfl dX5_writeWaiting_36 ?_
          refine lv_aload_n hx hb dX5_writeWaiting_39 rfl (lv_at hl 0 rfl) ?_
          refine q_getx (ci := 5) (C := RX5) (T := TX5) (N := 11) (j := 11) hx hb hts (fun _ h9 => List.mem_cons_of_mem _ (List.mem_append_left _ (List.mem_append_right _ h9))) hown hK hg 10 (by decide) rfl rfl (by decide) rfl 2 (by decide) (hts (.fieldLink RX5 9 "JoinMaps$Reader" "waiting" "[I") (List.mem_cons_of_mem _ (List.mem_append_left _ (List.mem_append_left _ (List.mem_of_getElem? (i := 1) rfl))))) rfl rfl rfl dX5_writeWaiting_40 ?_
          refine lv_aload_n hx hb dX5_writeWaiting_43 rfl (lv_at hl 0 rfl) ?_
          refine q_geti (ci := 5) (C := RX5) (T := TX5) (N := 11) hx hb hts (fun _ h9 => List.mem_cons_of_mem _ (List.mem_append_left _ (List.mem_append_right _ h9))) hown hK hg 10 (by decide) rfl rfl (by decide) rfl 3 (by decide) (hts (.fieldLink RX5 39 "JoinMaps$Reader" "waits" "I") (List.mem_cons_of_mem _ (List.mem_append_left _ (List.mem_append_left _ (List.mem_of_getElem? (i := 0) rfl))))) rfl rfl dX5_writeWaiting_44 ?_
          have hR13 := GS_R hg 10 3
          obtain ⟨hP14, hP15, h⟩ := h
          refine q_iald (N := 120) hx hb hK hg 11 (by decide) rfl rfl hP14 hP15 (by decide) dX5_writeWaiting_47 ?_
          have hR16 := GS_R hg 11 ((sn (un s7 10 3 (((sn s7 10 3) - 1))) 10 3) : Int).toNat
          refine lv_iconst (v := iI 0) hx hb dX5_writeWaiting_48 (by decide) ?_
          refine call_v (run_V (a := ea E 7) (As := [.int (iI ((sn (un s7 10 3 (((sn s7 10 3) - 1))) 11 ((sn (un s7 10 3 (((sn s7 10 3) - 1))) 10 3) : Int).toNat))), .int (iI (0))]) (rest := []) ⟨hx, hb, hml, hown, hts⟩ (ctX4_add l E (sn (un s7 10 3 (((sn s7 10 3) - 1))) 11 ((sn (un s7 10 3 (((sn s7 10 3) - 1))) 10 3) : Int).toNat) 0 (un s7 10 3 (((sn s7 10 3) - 1))) _ hR16 (by decide) h) (cwV 2 hts gX5_writeWaiting_X4_add rfl rfl rfl ⟨rfl, hdX4_add⟩ ⟨Nat.le_of_ble_eq_true rfl, Nat.le_of_ble_eq_true rfl⟩) hK hN hg (recv_x (ci := 4) (C := RX4) (T := TX4) (N := 3) hg hK (by decide) rfl (by decide) rfl) rfl hl.1 rfl (cat_sum _ (by simp)) dX5_writeWaiting_49 ⟨Nat.le_refl 0, Nat.le_refl 0⟩) hg (fun s17 H locs hm2 h hg => ?_)
          have hm := hm.tn hm2
          refine lv_goto (tgt := 0) hx hb dX5_writeWaiting_52 (by decide) ?_
          exact ih (s17) _ _ _ hg hm (lv_sub hl [0, 1] rfl) h
  obtain ⟨kk, h⟩ := h
  exact J0  kk (σ) _ _ _ hg hm (lv_sub hl [0, 1] rfl) h
theorem hdX5_closesBracket : yX5_closesBracket.cls ≠ "java/lang/invoke/MethodHandle" ∧ yX5_closesBracket.cls ≠ "java/lang/invoke/VarHandle" ∧ (parseMethodDescriptor yX5_closesBracket.desc).map (fun d => d.parameters.length) = some 0 := by decide +kernel
set_option maxRecDepth 100000 in
set_option maxHeartbeats 4000000 in
theorem ctX5_closesBracket (l : Launch) (E : Ev)  (σ : SS) (Q : Int → SS → Prop)  (h : wX5_closesBracket  σ Q) : Met l yX5_closesBracket wsX5_closesBracket ({ frames := 2, cells := 0, slots := 0, locals := 43 } : Room) (Pc E σ [.ref (ea E 10)]) (Qz E (sz σ) σ Q) 0 0 (Av E) := by
  rw [wX5_closesBracket] at h
  refine Met.ofW (cc := cX5_closesBracket) (maxL := 1) (ret := (some .boolean)) (by decide) rfl ?_
  intro p e s m args below meth c s₁ B hml hv
  obtain ⟨rfl, hH, hK, hN⟩ := hv
  have hx := B.exec
  have hb := B.bytes
  have hr := B.returns
  have hts := atoms_spec (ws := wsX5_closesBracket) B.pre
  have hown : s.vm.findClass RX5 = some m.cls := findClass_of_methodNamed B.named
  have hlocks := B.notSynchronized
  have hg : GS E σ s s.heap [] := ⟨hH, va_S.rf⟩
  have hm : Mo (sz σ) σ σ := Mo.rf (Nat.le_refl _)
  have hl := ent (vs := [.ref (ea E 10)]) (n := 1) (cats_x cats_nil) (Nat.le_of_ble_eq_true rfl)
  rw [lg_entry_eq]
  generalize (lg_sl ([.ref (ea E 10)]) ++ List.replicate (1 - (lg_sl ([.ref (ea E 10)])).length) Slot.unset).toArray = ls at hl ⊢
  have hl : lv_has ls 1 [(0, .ref (ea E 10))] := hl
  refine lv_aload_n hx hb dX5_closesBracket_0 rfl (lv_at hl 0 rfl) ?_
  refine q_geti (ci := 5) (C := RX5) (T := TX5) (N := 11) hx hb hts (fun _ h9 => List.mem_cons_of_mem _ (List.mem_append_left _ (List.mem_append_right _ h9))) hown hK hg 10 (by decide) rfl rfl (by decide) rfl 8 (by decide) (hts (.fieldLink RX5 42 "JoinMaps$Reader" "open" "I") (List.mem_cons_of_mem _ (List.mem_append_left _ (List.mem_append_left _ (List.mem_append_left _ (List.mem_of_getElem? (i := 0) rfl)))))) rfl rfl dX5_closesBracket_1 ?_
  have hR1 := GS_R hg 10 8
  refine k_ne (tgt := 9) hx hb dX5_closesBracket_4 (by decide) hR1 (fun c2 => ?_) (fun c2 => ?_)
  · have h := h.1 c2
    refine lv_aload_n hx hb dX5_closesBracket_9 rfl (lv_at hl 0 rfl) ?_
    refine lv_iconst (v := iI 0) hx hb dX5_closesBracket_10 (by decide) ?_
    refine call_i (run_S (As := [.int (iI (0))]) (rest := [.ref (ea E 10)]) ⟨hx, hb, hml, hown, hts⟩ (ctX5_strength l E 0 σ _ (by decide) h) (va_cwS 1 hts gX5_closesBracket_X5_strength rfl rfl rfl hdX5_strength ⟨Nat.le_of_ble_eq_true rfl, Nat.le_of_ble_eq_true rfl⟩) hK hN hg rfl hl.1 rfl (cat_sum _ (by simp)) dX5_closesBracket_11 ⟨Nat.le_refl 0, Nat.le_refl 0⟩) hg (fun r4 s3 H locs hz5 hm2 h hg => ?_)
    have hm := hm.tn hm2
    refine call_v (run_V (a := ea E 10) (As := [.int (iI (r4))]) (rest := []) ⟨hx, hb, hml, hown, hts⟩ (ctX5_writeWaiting l E r4 s3 _ hz5 h) (cwV 1 hts gX5_closesBracket_X5_writeWaiting rfl rfl rfl ⟨rfl, hdX5_writeWaiting⟩ ⟨Nat.le_of_ble_eq_true rfl, Nat.le_of_ble_eq_true rfl⟩) hK hN hg (recv_x (ci := 5) (C := RX5) (T := TX5) (N := 11) hg hK (by decide) rfl (by decide) rfl) rfl hl.1 rfl (cat_sum _ (by simp)) dX5_closesBracket_14 ⟨Nat.le_refl 0, Nat.le_refl 0⟩) hg (fun s6 H locs hm2 h hg => ?_)
    have hm := hm.tn hm2
    refine lv_aload_n hx hb dX5_closesBracket_17 rfl (lv_at hl 0 rfl) ?_
    refine lv_aload_n hx hb dX5_closesBracket_18 rfl (lv_at hl 0 rfl) ?_
    refine q_geti (ci := 5) (C := RX5) (T := TX5) (N := 11) hx hb hts (fun _ h9 => List.mem_cons_of_mem _ (List.mem_append_left _ (List.mem_append_right _ h9))) hown hK hg 10 (by decide) rfl rfl (by decide) rfl 3 (by decide) (hts (.fieldLink RX5 39 "JoinMaps$Reader" "waits" "I") (List.mem_cons_of_mem _ (List.mem_append_left _ (List.mem_append_left _ (List.mem_append_left _ (List.mem_of_getElem? (i := 1) rfl)))))) rfl rfl dX5_closesBracket_19 ?_
    have hR9 := GS_R hg 10 3
    refine lv_iconst (v := iI 1) hx hb dX5_closesBracket_22 (by decide) ?_
    refine q_isub hx hb dX5_closesBracket_23 ?_
    refine lv_iconst (v := iI 0) hx hb dX5_closesBracket_24 (by decide) ?_
    obtain ⟨hR10, h⟩ := h
    refine q_max hx hb (by rw [hml]; exact hl.1.symm) hown (hts (.methodLink RX5 111 Lib.Math.max.name) (List.mem_cons_of_mem _ (List.mem_append_left _ (List.mem_append_left _ (List.mem_append_left _ (List.mem_of_getElem? (i := 2) rfl)))))) (hts (.static Lib.Math.max.name) (List.mem_cons_of_mem _ (List.mem_append_left _ (List.mem_append_left _ (List.mem_append_left _ (List.mem_of_getElem? (i := 3) rfl)))))) (hts (.initialized "java/lang/Math") (List.mem_cons_of_mem _ (List.mem_append_left _ (List.mem_append_left _ (List.mem_append_left _ (List.mem_of_getElem? (i := 4) rfl)))))) (hts (.code Lib.Math.max.name Lib.Math.max.code 2 (some .int)) (List.mem_cons_of_mem _ (List.mem_append_left _ (List.mem_append_left _ (List.mem_append_left _ (List.mem_of_getElem? (i := 5) rfl)))))) (Nat.le_of_ble_eq_true rfl) (by simp) (Nat.le_of_ble_eq_true rfl) (Nat.le_refl 0) (Nat.le_refl 0) hR10 (by decide) dX5_closesBracket_25 ?_
    have hR11 : R32 (max ((sn s6 10 3) - 1) 0) := by have q1 : R32 ((sn s6 10 3) - 1) := hR10; have q2 : R32 0 := (by decide); omega
    refine q_puti (ci := 5) (C := RX5) (T := TX5) (N := 11) hx hb hts (fun _ h9 => List.mem_cons_of_mem _ (List.mem_append_left _ (List.mem_append_right _ h9))) tyX5 tyX5_ok nmX5 hown hK hg 10 (by decide) rfl rfl (by decide) rfl 3 (by decide) (hts (.fieldLink RX5 39 "JoinMaps$Reader" "waits" "I") (List.mem_cons_of_mem _ (List.mem_append_left _ (List.mem_append_left _ (List.mem_append_left _ (List.mem_of_getElem? (i := 1) rfl)))))) rfl rfl (by decide +kernel) rfl hR11 dX5_closesBracket_28 (fun H locs hg => ?_)
    refine lv_aload_n hx hb dX5_closesBracket_31 rfl (lv_at hl 0 rfl) ?_
    refine lv_dup hx hb dX5_closesBracket_32 rfl ?_
    refine q_geti (ci := 5) (C := RX5) (T := TX5) (N := 11) hx hb hts (fun _ h9 => List.mem_cons_of_mem _ (List.mem_append_left _ (List.mem_append_right _ h9))) hown hK hg 10 (by decide) rfl rfl (by decide) rfl 8 (by decide) (hts (.fieldLink RX5 42 "JoinMaps$Reader" "open" "I") (List.mem_cons_of_mem _ (List.mem_append_left _ (List.mem_append_left _ (List.mem_append_left _ (List.mem_of_getElem? (i := 0) rfl)))))) rfl rfl dX5_closesBracket_33 ?_
    have hR12 := GS_R hg 10 8
    refine lv_iconst (v := iI 1) hx hb dX5_closesBracket_36 (by decide) ?_
    refine q_isub hx hb dX5_closesBracket_37 ?_
    obtain ⟨hR13, h⟩ := h
    refine q_puti (ci := 5) (C := RX5) (T := TX5) (N := 11) hx hb hts (fun _ h9 => List.mem_cons_of_mem _ (List.mem_append_left _ (List.mem_append_right _ h9))) tyX5 tyX5_ok nmX5 hown hK hg 10 (by decide) rfl rfl (by decide) rfl 8 (by decide) (hts (.fieldLink RX5 42 "JoinMaps$Reader" "open" "I") (List.mem_cons_of_mem _ (List.mem_append_left _ (List.mem_append_left _ (List.mem_append_left _ (List.mem_of_getElem? (i := 0) rfl)))))) rfl rfl (by decide +kernel) rfl hR13 dX5_closesBracket_38 (fun H locs hg => ?_)
    refine lv_aload_n hx hb dX5_closesBracket_41 rfl (lv_at hl 0 rfl) ?_
    refine lv_iconst (v := iI 3) hx hb dX5_closesBracket_42 (by decide) ?_
    refine call_z (run_V (a := ea E 10) (As := [.int (iI (3))]) (rest := []) ⟨hx, hb, hml, hown, hts⟩ (ctX5_goOn l E 3 (un (un s6 10 3 ((max ((sn s6 10 3) - 1) 0))) 10 8 (((sn (un s6 10 3 ((max ((sn s6 10 3) - 1) 0))) 10 8) - 1))) _ (by decide) h) (cwV 1 hts gX5_closesBracket_X5_goOn rfl rfl rfl ⟨rfl, hdX5_goOn⟩ ⟨Nat.le_of_ble_eq_true rfl, Nat.le_of_ble_eq_true rfl⟩) hK hN hg (recv_x (ci := 5) (C := RX5) (T := TX5) (N := 11) hg hK (by decide) rfl (by decide) rfl) rfl hl.1 rfl (cat_sum _ (by simp)) dX5_closesBracket_43 ⟨Nat.le_refl 0, Nat.le_refl 0⟩) hg (fun r15 s14 H locs hz16 hm2 h hg => ?_)
    have hm := hm.tn hm2
    exact ret_z hx hb hr hlocks hg hz16 hm h dX5_closesBracket_46
  · have h := h.2 c2
    refine lv_iconst (v := iI 0) hx hb dX5_closesBracket_7 (by decide) ?_
    exact ret_z hx hb hr hlocks hg (by decide) hm h dX5_closesBracket_8
theorem hdX5_endsSum : yX5_endsSum.cls ≠ "java/lang/invoke/MethodHandle" ∧ yX5_endsSum.cls ≠ "java/lang/invoke/VarHandle" ∧ (parseMethodDescriptor yX5_endsSum.desc).map (fun d => d.parameters.length) = some 0 := by decide +kernel
set_option maxRecDepth 100000 in
set_option maxHeartbeats 4000000 in
theorem ctX5_endsSum (l : Launch) (E : Ev)  (σ : SS) (Q : Int → SS → Prop)  (h : wX5_endsSum  σ Q) : Met l yX5_endsSum wsX5_endsSum ({ frames := 2, cells := 0, slots := 0, locals := 43 } : Room) (Pc E σ [.ref (ea E 10)]) (Qz E (sz σ) σ Q) 0 0 (Av E) := by
  rw [wX5_endsSum] at h
  refine Met.ofW (cc := cX5_endsSum) (maxL := 1) (ret := (some .boolean)) (by decide) rfl ?_
  intro p e s m args below meth c s₁ B hml hv
  obtain ⟨rfl, hH, hK, hN⟩ := hv
  have hx := B.exec
  have hb := B.bytes
  have hr := B.returns
  have hts := atoms_spec (ws := wsX5_endsSum) B.pre
  have hown : s.vm.findClass RX5 = some m.cls := findClass_of_methodNamed B.named
  have hlocks := B.notSynchronized
  have hg : GS E σ s s.heap [] := ⟨hH, va_S.rf⟩
  have hm : Mo (sz σ) σ σ := Mo.rf (Nat.le_refl _)
  have hl := ent (vs := [.ref (ea E 10)]) (n := 1) (cats_x cats_nil) (Nat.le_of_ble_eq_true rfl)
  rw [lg_entry_eq]
  generalize (lg_sl ([.ref (ea E 10)]) ++ List.replicate (1 - (lg_sl ([.ref (ea E 10)])).length) Slot.unset).toArray = ls at hl ⊢
  have hl : lv_has ls 1 [(0, .ref (ea E 10))] := hl
  refine lv_aload_n hx hb dX5_endsSum_0 rfl (lv_at hl 0 rfl) ?_
  refine q_geti (ci := 5) (C := RX5) (T := TX5) (N := 11) hx hb hts (fun _ h9 => List.mem_cons_of_mem _ (List.mem_append_left _ (List.mem_append_right _ h9))) hown hK hg 10 (by decide) rfl rfl (by decide) rfl 8 (by decide) (hts (.fieldLink RX5 42 "JoinMaps$Reader" "open" "I") (List.mem_cons_of_mem _ (List.mem_append_left _ (List.mem_append_left _ (List.mem_append_left _ (List.mem_of_getElem? (i := 0) rfl)))))) rfl rfl dX5_endsSum_1 ?_
  have hR1 := GS_R hg 10 8
  refine k_le (tgt := 9) hx hb dX5_endsSum_4 (by decide) hR1 (fun c2 => ?_) (fun c2 => ?_)
  · have h := h.1 c2
    refine lv_aload_n hx hb dX5_endsSum_9 rfl (lv_at hl 0 rfl) ?_
    refine lv_iconst (v := iI 0) hx hb dX5_endsSum_10 (by decide) ?_
    refine call_i (run_S (As := [.int (iI (0))]) (rest := [.ref (ea E 10)]) ⟨hx, hb, hml, hown, hts⟩ (ctX5_strength l E 0 σ _ (by decide) h) (va_cwS 1 hts gX5_endsSum_X5_strength rfl rfl rfl hdX5_strength ⟨Nat.le_of_ble_eq_true rfl, Nat.le_of_ble_eq_true rfl⟩) hK hN hg rfl hl.1 rfl (cat_sum _ (by simp)) dX5_endsSum_11 ⟨Nat.le_refl 0, Nat.le_refl 0⟩) hg (fun r4 s3 H locs hz5 hm2 h hg => ?_)
    have hm := hm.tn hm2
    refine call_v (run_V (a := ea E 10) (As := [.int (iI (r4))]) (rest := []) ⟨hx, hb, hml, hown, hts⟩ (ctX5_writeWaiting l E r4 s3 _ hz5 h) (cwV 1 hts gX5_endsSum_X5_writeWaiting rfl rfl rfl ⟨rfl, hdX5_writeWaiting⟩ ⟨Nat.le_of_ble_eq_true rfl, Nat.le_of_ble_eq_true rfl⟩) hK hN hg (recv_x (ci := 5) (C := RX5) (T := TX5) (N := 11) hg hK (by decide) rfl (by decide) rfl) rfl hl.1 rfl (cat_sum _ (by simp)) dX5_endsSum_14 ⟨Nat.le_refl 0, Nat.le_refl 0⟩) hg (fun s6 H locs hm2 h hg => ?_)
    have hm := hm.tn hm2
    refine lv_aload_n hx hb dX5_endsSum_17 rfl (lv_at hl 0 rfl) ?_
    refine q_getx (ci := 5) (C := RX5) (T := TX5) (N := 11) (j := 7) hx hb hts (fun _ h9 => List.mem_cons_of_mem _ (List.mem_append_left _ (List.mem_append_right _ h9))) hown hK hg 10 (by decide) rfl rfl (by decide) rfl 1 (by decide) (hts (.fieldLink RX5 19 "JoinMaps$Reader" "plan" "LJoinMaps$Plan;") (List.mem_cons_of_mem _ (List.mem_append_left _ (List.mem_append_left _ (List.mem_append_left _ (List.mem_of_getElem? (i := 1) rfl)))))) rfl rfl rfl dX5_endsSum_18 ?_
    refine lv_bipush (v := iI 7) hx hb dX5_endsSum_21 (by decide) ?_
    refine lv_aload_n hx hb dX5_endsSum_23 rfl (lv_at hl 0 rfl) ?_
    refine q_geti (ci := 5) (C := RX5) (T := TX5) (N := 11) hx hb hts (fun _ h9 => List.mem_cons_of_mem _ (List.mem_append_left _ (List.mem_append_right _ h9))) hown hK hg 10 (by decide) rfl rfl (by decide) rfl 7 (by decide) (hts (.fieldLink RX5 80 "JoinMaps$Reader" "target" "I") (List.mem_cons_of_mem _ (List.mem_append_left _ (List.mem_append_left _ (List.mem_append_left _ (List.mem_of_getElem? (i := 2) rfl)))))) rfl rfl dX5_endsSum_24 ?_
    have hR9 := GS_R hg 10 7
    refine call_v (run_V (a := ea E 7) (As := [.int (iI (7)), .int (iI ((sn s6 10 7)))]) (rest := []) ⟨hx, hb, hml, hown, hts⟩ (ctX4_add l E 7 (sn s6 10 7) s6 _ (by decide) hR9 h) (cwV 2 hts gX5_endsSum_X4_add rfl rfl rfl ⟨rfl, hdX4_add⟩ ⟨Nat.le_of_ble_eq_true rfl, Nat.le_of_ble_eq_true rfl⟩) hK hN hg (recv_x (ci := 4) (C := RX4) (T := TX4) (N := 3) hg hK (by decide) rfl (by decide) rfl) rfl hl.1 rfl (cat_sum _ (by simp)) dX5_endsSum_27 ⟨Nat.le_refl 0, Nat.le_refl 0⟩) hg (fun s10 H locs hm2 h hg => ?_)
    have hm := hm.tn hm2
    refine lv_aload_n hx hb dX5_endsSum_30 rfl (lv_at hl 0 rfl) ?_
    refine lv_dup hx hb dX5_endsSum_31 rfl ?_
    refine q_geti (ci := 5) (C := RX5) (T := TX5) (N := 11) hx hb hts (fun _ h9 => List.mem_cons_of_mem _ (List.mem_append_left _ (List.mem_append_right _ h9))) hown hK hg 10 (by decide) rfl rfl (by decide) rfl 10 (by decide) (hts (.fieldLink RX5 45 "JoinMaps$Reader" "sumCount" "I") (List.mem_cons_of_mem _ (List.mem_append_left _ (List.mem_append_left _ (List.mem_append_left _ (List.mem_of_getElem? (i := 3) rfl)))))) rfl rfl dX5_endsSum_32 ?_
    have hR13 := GS_R hg 10 10
    refine lv_iconst (v := iI 1) hx hb dX5_endsSum_35 (by decide) ?_
    refine q_iadd hx hb dX5_endsSum_36 ?_
    obtain ⟨hR14, h⟩ := h
    refine q_puti (ci := 5) (C := RX5) (T := TX5) (N := 11) hx hb hts (fun _ h9 => List.mem_cons_of_mem _ (List.mem_append_left _ (List.mem_append_right _ h9))) tyX5 tyX5_ok nmX5 hown hK hg 10 (by decide) rfl rfl (by decide) rfl 10 (by decide) (hts (.fieldLink RX5 45 "JoinMaps$Reader" "sumCount" "I") (List.mem_cons_of_mem _ (List.mem_append_left _ (List.mem_append_left _ (List.mem_append_left _ (List.mem_of_getElem? (i := 3) rfl)))))) rfl rfl (by decide +kernel) rfl hR14 dX5_endsSum_37 (fun H locs hg => ?_)
    refine lv_aload_n hx hb dX5_endsSum_40 rfl (lv_at hl 0 rfl) ?_
    refine lv_iconst (v := iI 0) hx hb dX5_endsSum_41 (by decide) ?_
    refine call_z (run_V (a := ea E 10) (As := [.int (iI (0))]) (rest := []) ⟨hx, hb, hml, hown, hts⟩ (ctX5_goOn l E 0 (un s10 10 10 (((sn s10 10 10) + 1))) _ (by decide) h) (cwV 1 hts gX5_endsSum_X5_goOn rfl rfl rfl ⟨rfl, hdX5_goOn⟩ ⟨Nat.le_of_ble_eq_true rfl, Nat.le_of_ble_eq_true rfl⟩) hK hN hg (recv_x (ci := 5) (C := RX5) (T := TX5) (N := 11) hg hK (by decide) rfl (by decide) rfl) rfl hl.1 rfl (cat_sum _ (by simp)) dX5_endsSum_42 ⟨Nat.le_refl 0, Nat.le_refl 0⟩) hg (fun r16 s15 H locs hz17 hm2 h hg => ?_)
    have hm := hm.tn hm2
    exact ret_z hx hb hr hlocks hg hz17 hm h dX5_endsSum_45
  · have h := h.2 c2
    refine lv_iconst (v := iI 0) hx hb dX5_endsSum_7 (by decide) ?_
    exact ret_z hx hb hr hlocks hg (by decide) hm h dX5_endsSum_8
theorem hdX5_takesSign : yX5_takesSign.cls ≠ "java/lang/invoke/MethodHandle" ∧ yX5_takesSign.cls ≠ "java/lang/invoke/VarHandle" ∧ (parseMethodDescriptor yX5_takesSign.desc).map (fun d => d.parameters.length) = some 1 := by decide +kernel
set_option maxRecDepth 100000 in
set_option maxHeartbeats 4000000 in
theorem ctX5_takesSign (l : Launch) (E : Ev) (a1 : Int) (σ : SS) (Q : Int → SS → Prop) (ha1 : R32 a1) (h : wX5_takesSign a1 σ Q) : Met l yX5_takesSign wsX5_takesSign ({ frames := 2, cells := 0, slots := 0, locals := 43 } : Room) (Pc E σ [.ref (ea E 10), .int (iI (a1))]) (Qz E (sz σ) σ Q) 0 0 (Av E) := by
  rw [wX5_takesSign] at h
  refine Met.ofW (cc := cX5_takesSign) (maxL := 2) (ret := (some .boolean)) (by decide) rfl ?_
  intro p e s m args below meth c s₁ B hml hv
  obtain ⟨rfl, hH, hK, hN⟩ := hv
  have hx := B.exec
  have hb := B.bytes
  have hr := B.returns
  have hts := atoms_spec (ws := wsX5_takesSign) B.pre
  have hown : s.vm.findClass RX5 = some m.cls := findClass_of_methodNamed B.named
  have hlocks := B.notSynchronized
  have hg : GS E σ s s.heap [] := ⟨hH, va_S.rf⟩
  have hm : Mo (sz σ) σ σ := Mo.rf (Nat.le_refl _)
  have hl := ent (vs := [.ref (ea E 10), .int (iI (a1))]) (n := 2) (cats_x (cats_i cats_nil)) (Nat.le_of_ble_eq_true rfl)
  rw [lg_entry_eq]
  generalize (lg_sl ([.ref (ea E 10), .int (iI (a1))]) ++ List.replicate (2 - (lg_sl ([.ref (ea E 10), .int (iI (a1))])).length) Slot.unset).toArray = ls at hl ⊢
  have hl : lv_has ls 2 [(0, .ref (ea E 10)), (1, .int (iI (a1)))] := hl
  refine lv_aload_n hx hb dX5_takesSign_0 rfl (lv_at hl 0 rfl) ?_
  refine lv_iload_n hx hb dX5_takesSign_1 rfl (lv_at hl 1 rfl) ?_
  refine call_i (run_S (As := [.int (iI (a1))]) (rest := [.ref (ea E 10)]) ⟨hx, hb, hml, hown, hts⟩ (ctX5_strength l E a1 σ _ ha1 h) (va_cwS 1 hts gX5_takesSign_X5_strength rfl rfl rfl hdX5_strength ⟨Nat.le_of_ble_eq_true rfl, Nat.le_of_ble_eq_true rfl⟩) hK hN hg rfl hl.1 rfl (cat_sum _ (by simp)) dX5_takesSign_2 ⟨Nat.le_refl 0, Nat.le_refl 0⟩) hg (fun r2 s1 H locs hz3 hm2 h hg => ?_)
  have hm := hm.tn hm2
  refine call_v (run_V (a := ea E 10) (As := [.int (iI (r2))]) (rest := []) ⟨hx, hb, hml, hown, hts⟩ (ctX5_writeWaiting l E r2 s1 _ hz3 h) (cwV 1 hts gX5_takesSign_X5_writeWaiting rfl rfl rfl ⟨rfl, hdX5_writeWaiting⟩ ⟨Nat.le_of_ble_eq_true rfl, Nat.le_of_ble_eq_true rfl⟩) hK hN hg (recv_x (ci := 5) (C := RX5) (T := TX5) (N := 11) hg hK (by decide) rfl (by decide) rfl) rfl hl.1 rfl (cat_sum _ (by simp)) dX5_takesSign_5 ⟨Nat.le_refl 0, Nat.le_refl 0⟩) hg (fun s4 H locs hm2 h hg => ?_)
  have hm := hm.tn hm2
  refine lv_aload_n hx hb dX5_takesSign_8 rfl (lv_at hl 0 rfl) ?_
  refine lv_iload_n hx hb dX5_takesSign_9 rfl (lv_at hl 1 rfl) ?_
  refine call_v (run_V (a := ea E 10) (As := [.int (iI (a1))]) (rest := []) ⟨hx, hb, hml, hown, hts⟩ (ctX5_letWait l E a1 s4 _ ha1 h) (cwV 1 hts gX5_takesSign_X5_letWait rfl rfl rfl ⟨rfl, hdX5_letWait⟩ ⟨Nat.le_of_ble_eq_true rfl, Nat.le_of_ble_eq_true rfl⟩) hK hN hg (recv_x (ci := 5) (C := RX5) (T := TX5) (N := 11) hg hK (by decide) rfl (by decide) rfl) rfl hl.1 rfl (cat_sum _ (by simp)) dX5_takesSign_10 ⟨Nat.le_refl 0, Nat.le_refl 0⟩) hg (fun s7 H locs hm2 h hg => ?_)
  have hm := hm.tn hm2
  refine lv_aload_n hx hb dX5_takesSign_13 rfl (lv_at hl 0 rfl) ?_
  refine lv_iconst (v := iI 2) hx hb dX5_takesSign_14 (by decide) ?_
  refine call_z (run_V (a := ea E 10) (As := [.int (iI (2))]) (rest := []) ⟨hx, hb, hml, hown, hts⟩ (ctX5_goOn l E 2 s7 _ (by decide) h) (cwV 1 hts gX5_takesSign_X5_goOn rfl rfl rfl ⟨rfl, hdX5_goOn⟩ ⟨Nat.le_of_ble_eq_true rfl, Nat.le_of_ble_eq_true rfl⟩) hK hN hg (recv_x (ci := 5) (C := RX5) (T := TX5) (N := 11) hg hK (by decide) rfl (by decide) rfl) rfl hl.1 rfl (cat_sum _ (by simp)) dX5_takesSign_15 ⟨Nat.le_refl 0, Nat.le_refl 0⟩) hg (fun r11 s10 H locs hz12 hm2 h hg => ?_)
  have hm := hm.tn hm2
  exact ret_z hx hb hr hlocks hg hz12 hm h dX5_takesSign_18
theorem hdX5_acceptsSign : yX5_acceptsSign.cls ≠ "java/lang/invoke/MethodHandle" ∧ yX5_acceptsSign.cls ≠ "java/lang/invoke/VarHandle" ∧ (parseMethodDescriptor yX5_acceptsSign.desc).map (fun d => d.parameters.length) = some 1 := by decide +kernel
set_option maxRecDepth 100000 in
set_option maxHeartbeats 4000000 in
theorem ctX5_acceptsSign (l : Launch) (E : Ev) (a1 : Int) (σ : SS) (Q : Int → SS → Prop) (ha1 : R32 a1) (h : wX5_acceptsSign a1 σ Q) : Met l yX5_acceptsSign wsX5_acceptsSign ({ frames := 3, cells := 0, slots := 0, locals := 64 } : Room) (Pc E σ [.ref (ea E 10), .int (iI (a1))]) (Qz E (sz σ) σ Q) 0 0 (Av E) := by
  rw [wX5_acceptsSign] at h
  refine Met.ofW (cc := cX5_acceptsSign) (maxL := 2) (ret := (some .boolean)) (by decide) rfl ?_
  intro p e s m args below meth c s₁ B hml hv
  obtain ⟨rfl, hH, hK, hN⟩ := hv
  have hx := B.exec
  have hb := B.bytes
  have hr := B.returns
  have hts := atoms_spec (ws := wsX5_acceptsSign) B.pre
  have hown : s.vm.findClass RX5 = some m.cls := findClass_of_methodNamed B.named
  have hlocks := B.notSynchronized
  have hg : GS E σ s s.heap [] := ⟨hH, va_S.rf⟩
  have hm : Mo (sz σ) σ σ := Mo.rf (Nat.le_refl _)
  have hl := ent (vs := [.ref (ea E 10), .int (iI (a1))]) (n := 2) (cats_x (cats_i cats_nil)) (Nat.le_of_ble_eq_true rfl)
  rw [lg_entry_eq]
  generalize (lg_sl ([.ref (ea E 10), .int (iI (a1))]) ++ List.replicate (2 - (lg_sl ([.ref (ea E 10), .int (iI (a1))])).length) Slot.unset).toArray = ls at hl ⊢
  have hl : lv_has ls 2 [(0, .ref (ea E 10)), (1, .int (iI (a1)))] := hl
  refine lv_iload_n hx hb dX5_acceptsSign_0 rfl (lv_at hl 1 rfl) ?_
  rcases (show (¬ a1 = 38 ∧ ¬ a1 = 41 ∧ ¬ a1 = 43 ∧ ¬ a1 = 45 ∧ ¬ a1 = 59 ∧ ¬ a1 = 94) ∨ a1 = 38 ∨ a1 = 41 ∨ a1 = 43 ∨ a1 = 45 ∨ a1 = 59 ∨ a1 = 94 by omega) with c0 | c0 | c0 | c0 | c0 | c0 | c0
  · have h := h.1 c0
    refine lv_lookup (off := 93) (tgt := 94) hx hb dX5_acceptsSign_1 (by decide) (by rw [iI_int ha1]; exact lk_out (by intro q hq; simp at hq; rcases hq with rfl | rfl | rfl | rfl | rfl | rfl <;> (simp; omega))) (by decide) ?_
    refine lv_iconst (v := iI 0) hx hb dX5_acceptsSign_94 (by decide) ?_
    exact ret_z hx hb hr hlocks hg (by decide) hm h dX5_acceptsSign_95
  · have h := h.2.1 c0
    refine lv_lookup (off := 65) (tgt := 66) hx hb dX5_acceptsSign_1 (by decide) (by rw [iI_int ha1, c0]; decide) (by decide) ?_
    refine lv_aload_n hx hb dX5_acceptsSign_66 rfl (lv_at hl 0 rfl) ?_
    refine lv_iconst (v := iI 1) hx hb dX5_acceptsSign_67 (by decide) ?_
    refine call_z (run_V (a := ea E 10) (As := [.int (iI (1))]) (rest := []) ⟨hx, hb, hml, hown, hts⟩ (ctX5_takesSign l E 1 σ _ (by decide) h) (cwV 1 hts gX5_acceptsSign_X5_takesSign rfl rfl rfl ⟨rfl, hdX5_takesSign⟩ ⟨Nat.le_of_ble_eq_true rfl, Nat.le_of_ble_eq_true rfl⟩) hK hN hg (recv_x (ci := 5) (C := RX5) (T := TX5) (N := 11) hg hK (by decide) rfl (by decide) rfl) rfl hl.1 rfl (cat_sum _ (by simp)) dX5_acceptsSign_68 ⟨Nat.le_refl 0, Nat.le_refl 0⟩) hg (fun r2 s1 H locs hz3 hm2 h hg => ?_)
    have hm := hm.tn hm2
    exact ret_z hx hb hr hlocks hg hz3 hm h dX5_acceptsSign_71
  · have h := h.2.2.1 c0
    refine lv_lookup (off := 83) (tgt := 84) hx hb dX5_acceptsSign_1 (by decide) (by rw [iI_int ha1, c0]; decide) (by decide) ?_
    refine lv_aload_n hx hb dX5_acceptsSign_84 rfl (lv_at hl 0 rfl) ?_
    refine call_z (run_V (a := ea E 10) (As := []) (rest := []) ⟨hx, hb, hml, hown, hts⟩ (ctX5_closesBracket l E  σ _  h) (cwV 0 hts gX5_acceptsSign_X5_closesBracket rfl rfl rfl ⟨rfl, hdX5_closesBracket⟩ ⟨Nat.le_of_ble_eq_true rfl, Nat.le_of_ble_eq_true rfl⟩) hK hN hg (recv_x (ci := 5) (C := RX5) (T := TX5) (N := 11) hg hK (by decide) rfl (by decide) rfl) rfl hl.1 rfl (cat_sum _ (by simp)) dX5_acceptsSign_85 ⟨Nat.le_refl 0, Nat.le_refl 0⟩) hg (fun r5 s4 H locs hz6 hm2 h hg => ?_)
    have hm := hm.tn hm2
    exact ret_z hx hb hr hlocks hg hz6 hm h dX5_acceptsSign_88
  · have h := h.2.2.2.1 c0
    refine lv_lookup (off := 59) (tgt := 60) hx hb dX5_acceptsSign_1 (by decide) (by rw [iI_int ha1, c0]; decide) (by decide) ?_
    refine lv_aload_n hx hb dX5_acceptsSign_60 rfl (lv_at hl 0 rfl) ?_
    refine lv_iconst (v := iI 0) hx hb dX5_acceptsSign_61 (by decide) ?_
    refine call_z (run_V (a := ea E 10) (As := [.int (iI (0))]) (rest := []) ⟨hx, hb, hml, hown, hts⟩ (ctX5_takesSign l E 0 σ _ (by decide) h) (cwV 1 hts gX5_acceptsSign_X5_takesSign rfl rfl rfl ⟨rfl, hdX5_takesSign⟩ ⟨Nat.le_of_ble_eq_true rfl, Nat.le_of_ble_eq_true rfl⟩) hK hN hg (recv_x (ci := 5) (C := RX5) (T := TX5) (N := 11) hg hK (by decide) rfl (by decide) rfl) rfl hl.1 rfl (cat_sum _ (by simp)) dX5_acceptsSign_62 ⟨Nat.le_refl 0, Nat.le_refl 0⟩) hg (fun r8 s7 H locs hz9 hm2 h hg => ?_)
    have hm := hm.tn hm2
    exact ret_z hx hb hr hlocks hg hz9 hm h dX5_acceptsSign_65
  · have h := h.2.2.2.2.1 c0
    refine lv_lookup (off := 71) (tgt := 72) hx hb dX5_acceptsSign_1 (by decide) (by rw [iI_int ha1, c0]; decide) (by decide) ?_
    refine lv_aload_n hx hb dX5_acceptsSign_72 rfl (lv_at hl 0 rfl) ?_
    refine lv_iconst (v := iI 2) hx hb dX5_acceptsSign_73 (by decide) ?_
    refine call_z (run_V (a := ea E 10) (As := [.int (iI (2))]) (rest := []) ⟨hx, hb, hml, hown, hts⟩ (ctX5_takesSign l E 2 σ _ (by decide) h) (cwV 1 hts gX5_acceptsSign_X5_takesSign rfl rfl rfl ⟨rfl, hdX5_takesSign⟩ ⟨Nat.le_of_ble_eq_true rfl, Nat.le_of_ble_eq_true rfl⟩) hK hN hg (recv_x (ci := 5) (C := RX5) (T := TX5) (N := 11) hg hK (by decide) rfl (by decide) rfl) rfl hl.1 rfl (cat_sum _ (by simp)) dX5_acceptsSign_74 ⟨Nat.le_refl 0, Nat.le_refl 0⟩) hg (fun r11 s10 H locs hz12 hm2 h hg => ?_)
    have hm := hm.tn hm2
    exact ret_z hx hb hr hlocks hg hz12 hm h dX5_acceptsSign_77
  · have h := h.2.2.2.2.2.1 c0
    refine lv_lookup (off := 88) (tgt := 89) hx hb dX5_acceptsSign_1 (by decide) (by rw [iI_int ha1, c0]; decide) (by decide) ?_
    refine lv_aload_n hx hb dX5_acceptsSign_89 rfl (lv_at hl 0 rfl) ?_
    refine call_z (run_V (a := ea E 10) (As := []) (rest := []) ⟨hx, hb, hml, hown, hts⟩ (ctX5_endsSum l E  σ _  h) (cwV 0 hts gX5_acceptsSign_X5_endsSum rfl rfl rfl ⟨rfl, hdX5_endsSum⟩ ⟨Nat.le_of_ble_eq_true rfl, Nat.le_of_ble_eq_true rfl⟩) hK hN hg (recv_x (ci := 5) (C := RX5) (T := TX5) (N := 11) hg hK (by decide) rfl (by decide) rfl) rfl hl.1 rfl (cat_sum _ (by simp)) dX5_acceptsSign_90 ⟨Nat.le_refl 0, Nat.le_refl 0⟩) hg (fun r14 s13 H locs hz15 hm2 h hg => ?_)
    have hm := hm.tn hm2
    exact ret_z hx hb hr hlocks hg hz15 hm h dX5_acceptsSign_93
  · have h := h.2.2.2.2.2.2 c0
    refine lv_lookup (off := 77) (tgt := 78) hx hb dX5_acceptsSign_1 (by decide) (by rw [iI_int ha1, c0]; decide) (by decide) ?_
    refine lv_aload_n hx hb dX5_acceptsSign_78 rfl (lv_at hl 0 rfl) ?_
    refine lv_iconst (v := iI 3) hx hb dX5_acceptsSign_79 (by decide) ?_
    refine call_z (run_V (a := ea E 10) (As := [.int (iI (3))]) (rest := []) ⟨hx, hb, hml, hown, hts⟩ (ctX5_takesSign l E 3 σ _ (by decide) h) (cwV 1 hts gX5_acceptsSign_X5_takesSign rfl rfl rfl ⟨rfl, hdX5_takesSign⟩ ⟨Nat.le_of_ble_eq_true rfl, Nat.le_of_ble_eq_true rfl⟩) hK hN hg (recv_x (ci := 5) (C := RX5) (T := TX5) (N := 11) hg hK (by decide) rfl (by decide) rfl) rfl hl.1 rfl (cat_sum _ (by simp)) dX5_acceptsSign_80 ⟨Nat.le_refl 0, Nat.le_refl 0⟩) hg (fun r17 s16 H locs hz18 hm2 h hg => ?_)
    have hm := hm.tn hm2
    exact ret_z hx hb hr hlocks hg hz18 hm h dX5_acceptsSign_83
theorem hdX5_acceptsTarget : yX5_acceptsTarget.cls ≠ "java/lang/invoke/MethodHandle" ∧ yX5_acceptsTarget.cls ≠ "java/lang/invoke/VarHandle" ∧ (parseMethodDescriptor yX5_acceptsTarget.desc).map (fun d => d.parameters.length) = some 1 := by decide +kernel
set_option maxRecDepth 100000 in
set_option maxHeartbeats 4000000 in
theorem ctX5_acceptsTarget (l : Launch) (E : Ev) (a1 : Int) (σ : SS) (Q : Int → SS → Prop) (ha1 : R32 a1) (h : wX5_acceptsTarget a1 σ Q) : Met l yX5_acceptsTarget wsX5_acceptsTarget ({ frames := 2, cells := 0, slots := 0, locals := 42 } : Room) (Pc E σ [.ref (ea E 10), .int (iI (a1))]) (Qz E (sz σ) σ Q) 0 0 (Av E) := by
  rw [wX5_acceptsTarget] at h
  refine Met.ofW (cc := cX5_acceptsTarget) (maxL := 2) (ret := (some .boolean)) (by decide) rfl ?_
  intro p e s m args below meth c s₁ B hml hv
  obtain ⟨rfl, hH, hK, hN⟩ := hv
  have hx := B.exec
  have hb := B.bytes
  have hr := B.returns
  have hts := atoms_spec (ws := wsX5_acceptsTarget) B.pre
  have hown : s.vm.findClass RX5 = some m.cls := findClass_of_methodNamed B.named
  have hlocks := B.notSynchronized
  have hg : GS E σ s s.heap [] := ⟨hH, va_S.rf⟩
  have hm : Mo (sz σ) σ σ := Mo.rf (Nat.le_refl _)
  have hl := ent (vs := [.ref (ea E 10), .int (iI (a1))]) (n := 2) (cats_x (cats_i cats_nil)) (Nat.le_of_ble_eq_true rfl)
  rw [lg_entry_eq]
  generalize (lg_sl ([.ref (ea E 10), .int (iI (a1))]) ++ List.replicate (2 - (lg_sl ([.ref (ea E 10), .int (iI (a1))])).length) Slot.unset).toArray = ls at hl ⊢
  have hl : lv_has ls 2 [(0, .ref (ea E 10)), (1, .int (iI (a1)))] := hl
  refine lv_iload_n hx hb dX5_acceptsTarget_0 rfl (lv_at hl 1 rfl) ?_
  refine call_z (run_S (As := [.int (iI (a1))]) (rest := []) ⟨hx, hb, hml, hown, hts⟩ (ctX5_isLetter l E a1 σ _ ha1 h) (va_cwS 1 hts gX5_acceptsTarget_X5_isLetter rfl rfl rfl hdX5_isLetter ⟨Nat.le_of_ble_eq_true rfl, Nat.le_of_ble_eq_true rfl⟩) hK hN hg rfl hl.1 rfl (cat_sum _ (by simp)) dX5_acceptsTarget_1 ⟨Nat.le_refl 0, Nat.le_refl 0⟩) hg (fun r2 s1 H locs hz3 hm2 h hg => ?_)
  have hm := hm.tn hm2
  refine k_ne (tgt := 9) hx hb dX5_acceptsTarget_4 (by decide) (z_R hz3) (fun c4 => ?_) (fun c4 => ?_)
  · have h := h.1 c4
    refine lv_aload_n hx hb dX5_acceptsTarget_9 rfl (lv_at hl 0 rfl) ?_
    refine lv_iload_n hx hb dX5_acceptsTarget_10 rfl (lv_at hl 1 rfl) ?_
    refine lv_bipush (v := iI 97) hx hb dX5_acceptsTarget_11 (by decide) ?_
    refine q_isub hx hb dX5_acceptsTarget_13 ?_
    obtain ⟨hR5, h⟩ := h
    refine q_puti (ci := 5) (C := RX5) (T := TX5) (N := 11) hx hb hts (fun _ h9 => List.mem_cons_of_mem _ (List.mem_append_right _ h9)) tyX5 tyX5_ok nmX5 hown hK hg 10 (by decide) rfl rfl (by decide) rfl 7 (by decide) (hts (.fieldLink RX5 80 "JoinMaps$Reader" "target" "I") (List.mem_cons_of_mem _ (List.mem_append_left _ (List.mem_of_getElem? (i := 0) rfl)))) rfl rfl (by decide +kernel) rfl hR5 dX5_acceptsTarget_14 (fun H locs hg => ?_)
    refine lv_aload_n hx hb dX5_acceptsTarget_17 rfl (lv_at hl 0 rfl) ?_
    refine lv_iconst (v := iI 1) hx hb dX5_acceptsTarget_18 (by decide) ?_
    refine call_z (run_V (a := ea E 10) (As := [.int (iI (1))]) (rest := []) ⟨hx, hb, hml, hown, hts⟩ (ctX5_goOn l E 1 (un s1 10 7 ((a1 - 97))) _ (by decide) h) (cwV 1 hts gX5_acceptsTarget_X5_goOn rfl rfl rfl ⟨rfl, hdX5_goOn⟩ ⟨Nat.le_of_ble_eq_true rfl, Nat.le_of_ble_eq_true rfl⟩) hK hN hg (recv_x (ci := 5) (C := RX5) (T := TX5) (N := 11) hg hK (by decide) rfl (by decide) rfl) rfl hl.1 rfl (cat_sum _ (by simp)) dX5_acceptsTarget_19 ⟨Nat.le_refl 0, Nat.le_refl 0⟩) hg (fun r7 s6 H locs hz8 hm2 h hg => ?_)
    have hm := hm.tn hm2
    exact ret_z hx hb hr hlocks hg hz8 hm h dX5_acceptsTarget_22
  · have h := h.2 c4
    refine lv_iconst (v := iI 0) hx hb dX5_acceptsTarget_7 (by decide) ?_
    exact ret_z hx hb hr hlocks hg (by decide) hm h dX5_acceptsTarget_8
theorem hdX5_accepts : yX5_accepts.cls ≠ "java/lang/invoke/MethodHandle" ∧ yX5_accepts.cls ≠ "java/lang/invoke/VarHandle" ∧ (parseMethodDescriptor yX5_accepts.desc).map (fun d => d.parameters.length) = some 1 := by decide +kernel
set_option maxRecDepth 100000 in
set_option maxHeartbeats 4000000 in
theorem ctX5_accepts (l : Launch) (E : Ev) (a1 : Int) (σ : SS) (Q : Int → SS → Prop) (ha1 : R32 a1) (h : wX5_accepts a1 σ Q) : Met l yX5_accepts wsX5_accepts ({ frames := 4, cells := 0, slots := 0, locals := 85 } : Room) (Pc E σ [.ref (ea E 10), .int (iI (a1))]) (Qz E (sz σ) σ Q) 0 0 (Av E) := by
  rw [wX5_accepts] at h
  refine Met.ofW (cc := cX5_accepts) (maxL := 2) (ret := (some .boolean)) (by decide) rfl ?_
  intro p e s m args below meth c s₁ B hml hv
  obtain ⟨rfl, hH, hK, hN⟩ := hv
  have hx := B.exec
  have hb := B.bytes
  have hr := B.returns
  have hts := atoms_spec (ws := wsX5_accepts) B.pre
  have hown : s.vm.findClass RX5 = some m.cls := findClass_of_methodNamed B.named
  have hlocks := B.notSynchronized
  have hg : GS E σ s s.heap [] := ⟨hH, va_S.rf⟩
  have hm : Mo (sz σ) σ σ := Mo.rf (Nat.le_refl _)
  have hl := ent (vs := [.ref (ea E 10), .int (iI (a1))]) (n := 2) (cats_x (cats_i cats_nil)) (Nat.le_of_ble_eq_true rfl)
  rw [lg_entry_eq]
  generalize (lg_sl ([.ref (ea E 10), .int (iI (a1))]) ++ List.replicate (2 - (lg_sl ([.ref (ea E 10), .int (iI (a1))])).length) Slot.unset).toArray = ls at hl ⊢
  have hl : lv_has ls 2 [(0, .ref (ea E 10)), (1, .int (iI (a1)))] := hl
  refine lv_aload_n hx hb dX5_accepts_0 rfl (lv_at hl 0 rfl) ?_
  refine q_geti (ci := 5) (C := RX5) (T := TX5) (N := 11) hx hb hts (fun _ h9 => List.mem_cons_of_mem _ (List.mem_append_left _ (List.mem_append_right _ h9))) hown hK hg 10 (by decide) rfl rfl (by decide) rfl 6 (by decide) (hts (.fieldLink RX5 36 "JoinMaps$Reader" "wanted" "I") (List.mem_cons_of_mem _ (List.mem_append_left _ (List.mem_append_left _ (List.mem_append_left _ (List.mem_of_getElem? (i := 0) rfl)))))) rfl rfl dX5_accepts_1 ?_
  have hR1 := GS_R hg 10 6
  rcases (show ((sn σ 10 6) < 0 ∨ 5 < (sn σ 10 6)) ∨ (sn σ 10 6) = 0 ∨ (sn σ 10 6) = 1 ∨ (sn σ 10 6) = 2 ∨ (sn σ 10 6) = 3 ∨ (sn σ 10 6) = 4 ∨ (sn σ 10 6) = 5 by omega) with c0 | c0 | c0 | c0 | c0 | c0 | c0
  · have h := h.1 c0
    refine lv_tableOut (tgt := 108) hx hb dX5_accepts_4 (by rw [iI_int hR1]; omega) (by decide) ?_
    refine lv_aload_n hx hb dX5_accepts_108 rfl (lv_at hl 0 rfl) ?_
    refine lv_iload_n hx hb dX5_accepts_109 rfl (lv_at hl 1 rfl) ?_
    refine call_z (run_V (a := ea E 10) (As := [.int (iI (a1))]) (rest := []) ⟨hx, hb, hml, hown, hts⟩ (ctX5_acceptsComma l E a1 σ _ ha1 h) (cwV 1 hts gX5_accepts_X5_acceptsComma rfl rfl rfl ⟨rfl, hdX5_acceptsComma⟩ ⟨Nat.le_of_ble_eq_true rfl, Nat.le_of_ble_eq_true rfl⟩) hK hN hg (recv_x (ci := 5) (C := RX5) (T := TX5) (N := 11) hg hK (by decide) rfl (by decide) rfl) rfl hl.1 rfl (cat_sum _ (by simp)) dX5_accepts_110 ⟨Nat.le_refl 0, Nat.le_refl 0⟩) hg (fun r3 s2 H locs hz4 hm2 h hg => ?_)
    have hm := hm.tn hm2
    exact ret_z hx hb hr hlocks hg hz4 hm h dX5_accepts_113
  · have h := h.2.1 c0
    refine lv_tableIn (off := 40) (tgt := 44) hx hb dX5_accepts_4 (by rw [iI_int hR1, c0]; decide) (by rw [iI_int hR1, c0]; decide) (by rw [iI_int hR1, c0]; rfl) (by decide) ?_
    refine lv_aload_n hx hb dX5_accepts_44 rfl (lv_at hl 0 rfl) ?_
    refine lv_iload_n hx hb dX5_accepts_45 rfl (lv_at hl 1 rfl) ?_
    refine call_z (run_V (a := ea E 10) (As := [.int (iI (a1))]) (rest := []) ⟨hx, hb, hml, hown, hts⟩ (ctX5_acceptsTarget l E a1 σ _ ha1 h) (cwV 1 hts gX5_accepts_X5_acceptsTarget rfl rfl rfl ⟨rfl, hdX5_acceptsTarget⟩ ⟨Nat.le_of_ble_eq_true rfl, Nat.le_of_ble_eq_true rfl⟩) hK hN hg (recv_x (ci := 5) (C := RX5) (T := TX5) (N := 11) hg hK (by decide) rfl (by decide) rfl) rfl hl.1 rfl (cat_sum _ (by simp)) dX5_accepts_46 ⟨Nat.le_refl 0, Nat.le_refl 0⟩) hg (fun r6 s5 H locs hz7 hm2 h hg => ?_)
    have hm := hm.tn hm2
    exact ret_z hx hb hr hlocks hg hz7 hm h dX5_accepts_49
  · have h := h.2.2.1 c0
    refine lv_tableIn (off := 46) (tgt := 50) hx hb dX5_accepts_4 (by rw [iI_int hR1, c0]; decide) (by rw [iI_int hR1, c0]; decide) (by rw [iI_int hR1, c0]; rfl) (by decide) ?_
    refine lv_iload_n hx hb dX5_accepts_50 rfl (lv_at hl 1 rfl) ?_
    refine lv_bipush (v := iI 61) hx hb dX5_accepts_51 (by decide) ?_
    refine j_ne (tgt := 68) hx hb dX5_accepts_53 (by decide) ha1 (by decide) (fun c8 => ?_) (fun c8 => ?_)
    · have h := h.1 c8
      refine lv_iconst (v := iI 0) hx hb dX5_accepts_68 (by decide) ?_
      exact ret_z hx hb hr hlocks hg (by decide) hm h dX5_accepts_69
    · have h := h.2 c8
      refine lv_aload_n hx hb dX5_accepts_56 rfl (lv_at hl 0 rfl) ?_
      refine lv_iconst (v := iI 2) hx hb dX5_accepts_57 (by decide) ?_
      refine call_z (run_V (a := ea E 10) (As := [.int (iI (2))]) (rest := []) ⟨hx, hb, hml, hown, hts⟩ (ctX5_goOn l E 2 σ _ (by decide) h) (cwV 1 hts gX5_accepts_X5_goOn rfl rfl rfl ⟨rfl, hdX5_goOn⟩ ⟨Nat.le_of_ble_eq_true rfl, Nat.le_of_ble_eq_true rfl⟩) hK hN hg (recv_x (ci := 5) (C := RX5) (T := TX5) (N := 11) hg hK (by decide) rfl (by decide) rfl) rfl hl.1 rfl (cat_sum _ (by simp)) dX5_accepts_58 ⟨Nat.le_refl 0, Nat.le_refl 0⟩) hg (fun r10 s9 H locs hz11 hm2 h hg => ?_)
      have hm := hm.tn hm2
      refine k_eq (tgt := 68) hx hb dX5_accepts_61 (by decide) (z_R hz11) (fun c12 => ?_) (fun c12 => ?_)
      · have h := h.1 c12
        refine lv_iconst (v := iI 0) hx hb dX5_accepts_68 (by decide) ?_
        exact ret_z hx hb hr hlocks hg (by decide) hm h dX5_accepts_69
      · have h := h.2 c12
        refine lv_iconst (v := iI 1) hx hb dX5_accepts_64 (by decide) ?_
        refine lv_goto (tgt := 69) hx hb dX5_accepts_65 (by decide) ?_
        exact ret_z hx hb hr hlocks hg (by decide) hm h dX5_accepts_69
  · have h := h.2.2.2.1 c0
    refine lv_tableIn (off := 66) (tgt := 70) hx hb dX5_accepts_4 (by rw [iI_int hR1, c0]; decide) (by rw [iI_int hR1, c0]; decide) (by rw [iI_int hR1, c0]; rfl) (by decide) ?_
    refine lv_aload_n hx hb dX5_accepts_70 rfl (lv_at hl 0 rfl) ?_
    refine lv_iload_n hx hb dX5_accepts_71 rfl (lv_at hl 1 rfl) ?_
    refine call_z (run_V (a := ea E 10) (As := [.int (iI (a1))]) (rest := []) ⟨hx, hb, hml, hown, hts⟩ (ctX5_acceptsAtom l E a1 σ _ ha1 h) (cwV 1 hts gX5_accepts_X5_acceptsAtom rfl rfl rfl ⟨rfl, hdX5_acceptsAtom⟩ ⟨Nat.le_of_ble_eq_true rfl, Nat.le_of_ble_eq_true rfl⟩) hK hN hg (recv_x (ci := 5) (C := RX5) (T := TX5) (N := 11) hg hK (by decide) rfl (by decide) rfl) rfl hl.1 rfl (cat_sum _ (by simp)) dX5_accepts_72 ⟨Nat.le_refl 0, Nat.le_refl 0⟩) hg (fun r14 s13 H locs hz15 hm2 h hg => ?_)
    have hm := hm.tn hm2
    exact ret_z hx hb hr hlocks hg hz15 hm h dX5_accepts_75
  · have h := h.2.2.2.2.1 c0
    refine lv_tableIn (off := 72) (tgt := 76) hx hb dX5_accepts_4 (by rw [iI_int hR1, c0]; decide) (by rw [iI_int hR1, c0]; decide) (by rw [iI_int hR1, c0]; rfl) (by decide) ?_
    refine lv_aload_n hx hb dX5_accepts_76 rfl (lv_at hl 0 rfl) ?_
    refine lv_iload_n hx hb dX5_accepts_77 rfl (lv_at hl 1 rfl) ?_
    refine call_z (run_V (a := ea E 10) (As := [.int (iI (a1))]) (rest := []) ⟨hx, hb, hml, hown, hts⟩ (ctX5_acceptsSign l E a1 σ _ ha1 h) (cwV 1 hts gX5_accepts_X5_acceptsSign rfl rfl rfl ⟨rfl, hdX5_acceptsSign⟩ ⟨Nat.le_of_ble_eq_true rfl, Nat.le_of_ble_eq_true rfl⟩) hK hN hg (recv_x (ci := 5) (C := RX5) (T := TX5) (N := 11) hg hK (by decide) rfl (by decide) rfl) rfl hl.1 rfl (cat_sum _ (by simp)) dX5_accepts_78 ⟨Nat.le_refl 0, Nat.le_refl 0⟩) hg (fun r17 s16 H locs hz18 hm2 h hg => ?_)
    have hm := hm.tn hm2
    exact ret_z hx hb hr hlocks hg hz18 hm h dX5_accepts_81
  · have h := h.2.2.2.2.2.1 c0
    refine lv_tableIn (off := 78) (tgt := 82) hx hb dX5_accepts_4 (by rw [iI_int hR1, c0]; decide) (by rw [iI_int hR1, c0]; decide) (by rw [iI_int hR1, c0]; rfl) (by decide) ?_
    refine lv_iload_n hx hb dX5_accepts_82 rfl (lv_at hl 1 rfl) ?_
    refine lv_bipush (v := iI 125) hx hb dX5_accepts_83 (by decide) ?_
    refine j_ne (tgt := 96) hx hb dX5_accepts_85 (by decide) ha1 (by decide) (fun c19 => ?_) (fun c19 => ?_)
    · have h := h.1 c19
      refine lv_aload_n hx hb dX5_accepts_96 rfl (lv_at hl 0 rfl) ?_
      refine lv_iload_n hx hb dX5_accepts_97 rfl (lv_at hl 1 rfl) ?_
      refine call_z (run_V (a := ea E 10) (As := [.int (iI (a1))]) (rest := []) ⟨hx, hb, hml, hown, hts⟩ (ctX5_acceptsNumber l E a1 σ _ ha1 h) (cwV 1 hts gX5_accepts_X5_acceptsNumber rfl rfl rfl ⟨rfl, hdX5_acceptsNumber⟩ ⟨Nat.le_of_ble_eq_true rfl, Nat.le_of_ble_eq_true rfl⟩) hK hN hg (recv_x (ci := 5) (C := RX5) (T := TX5) (N := 11) hg hK (by decide) rfl (by decide) rfl) rfl hl.1 rfl (cat_sum _ (by simp)) dX5_accepts_98 ⟨Nat.le_refl 0, Nat.le_refl 0⟩) hg (fun r21 s20 H locs hz22 hm2 h hg => ?_)
      have hm := hm.tn hm2
      exact ret_z hx hb hr hlocks hg hz22 hm h dX5_accepts_101
    · have h := h.2 c19
      refine lv_aload_n hx hb dX5_accepts_88 rfl (lv_at hl 0 rfl) ?_
      refine lv_iconst (v := iI 3) hx hb dX5_accepts_89 (by decide) ?_
      refine call_z (run_V (a := ea E 10) (As := [.int (iI (3))]) (rest := []) ⟨hx, hb, hml, hown, hts⟩ (ctX5_goOn l E 3 σ _ (by decide) h) (cwV 1 hts gX5_accepts_X5_goOn rfl rfl rfl ⟨rfl, hdX5_goOn⟩ ⟨Nat.le_of_ble_eq_true rfl, Nat.le_of_ble_eq_true rfl⟩) hK hN hg (recv_x (ci := 5) (C := RX5) (T := TX5) (N := 11) hg hK (by decide) rfl (by decide) rfl) rfl hl.1 rfl (cat_sum _ (by simp)) dX5_accepts_90 ⟨Nat.le_refl 0, Nat.le_refl 0⟩) hg (fun r24 s23 H locs hz25 hm2 h hg => ?_)
      have hm := hm.tn hm2
      refine lv_goto (tgt := 101) hx hb dX5_accepts_93 (by decide) ?_
      exact ret_z hx hb hr hlocks hg hz25 hm h dX5_accepts_101
  · have h := h.2.2.2.2.2.2 c0
    refine lv_tableIn (off := 98) (tgt := 102) hx hb dX5_accepts_4 (by rw [iI_int hR1, c0]; decide) (by rw [iI_int hR1, c0]; decide) (by rw [iI_int hR1, c0]; rfl) (by decide) ?_
    refine lv_aload_n hx hb dX5_accepts_102 rfl (lv_at hl 0 rfl) ?_
    refine lv_iload_n hx hb dX5_accepts_103 rfl (lv_at hl 1 rfl) ?_
    refine call_z (run_V (a := ea E 10) (As := [.int (iI (a1))]) (rest := []) ⟨hx, hb, hml, hown, hts⟩ (ctX5_acceptsNumber l E a1 σ _ ha1 h) (cwV 1 hts gX5_accepts_X5_acceptsNumber rfl rfl rfl ⟨rfl, hdX5_acceptsNumber⟩ ⟨Nat.le_of_ble_eq_true rfl, Nat.le_of_ble_eq_true rfl⟩) hK hN hg (recv_x (ci := 5) (C := RX5) (T := TX5) (N := 11) hg hK (by decide) rfl (by decide) rfl) rfl hl.1 rfl (cat_sum _ (by simp)) dX5_accepts_104 ⟨Nat.le_refl 0, Nat.le_refl 0⟩) hg (fun r27 s26 H locs hz28 hm2 h hg => ?_)
    have hm := hm.tn hm2
    exact ret_z hx hb hr hlocks hg hz28 hm h dX5_accepts_107
theorem hdX5_read : yX5_read.cls ≠ "java/lang/invoke/MethodHandle" ∧ yX5_read.cls ≠ "java/lang/invoke/VarHandle" ∧ (parseMethodDescriptor yX5_read.desc).map (fun d => d.parameters.length) = some 1 := by decide +kernel
set_option maxRecDepth 100000 in
set_option maxHeartbeats 4000000 in
theorem ctX5_read (l : Launch) (E : Ev) (a1 : Int) (σ : SS) (Q : Int → SS → Prop) (ha1 : R32 a1) (h : wX5_read a1 σ Q) : Met l yX5_read wsX5_read ({ frames := 5, cells := 0, slots := 0, locals := 106 } : Room) (Pc E σ [.ref (ea E 10), .int (iI (a1))]) (Qi E (sz σ) σ Q) 0 0 (Av E) := by
  rw [wX5_read] at h
  refine Met.ofW (cc := cX5_read) (maxL := 4) (ret := (some .int)) (by decide) rfl ?_
  intro p e s m args below meth c s₁ B hml hv
  obtain ⟨rfl, hH, hK, hN⟩ := hv
  have hx := B.exec
  have hb := B.bytes
  have hr := B.returns
  have hts := atoms_spec (ws := wsX5_read) B.pre
  have hown : s.vm.findClass RX5 = some m.cls := findClass_of_methodNamed B.named
  have hlocks := B.notSynchronized
  have hg : GS E σ s s.heap [] := ⟨hH, va_S.rf⟩
  have hm : Mo (sz σ) σ σ := Mo.rf (Nat.le_refl _)
  have hl := ent (vs := [.ref (ea E 10), .int (iI (a1))]) (n := 4) (cats_x (cats_i cats_nil)) (Nat.le_of_ble_eq_true rfl)
  rw [lg_entry_eq]
  generalize (lg_sl ([.ref (ea E 10), .int (iI (a1))]) ++ List.replicate (4 - (lg_sl ([.ref (ea E 10), .int (iI (a1))])).length) Slot.unset).toArray = ls at hl ⊢
  have hl : lv_has ls 4 [(0, .ref (ea E 10)), (1, .int (iI (a1)))] := hl
  have J48 : ∀ (k : Nat), ∀ (v2 : Int) (sL : SS) (H : Heap) (locs : List Loc) (ls : Array Slot), GS E sL s H locs → Mo (sz σ) σ sL → lv_has ls 4 [(0, .ref (ea E 10)), (2, .int (iI (v2)))] → wX5_read_L48 a1 Q  k v2 sL → W p l e (headSpec wsX5_read ({ frames := 5, cells := 0, slots := 0, locals := 106 } : Room)).room s m (List.toArray [.ref (ea E 10), .int (iI (a1))]) below meth c H locs 0 0 (MQ below (Qi E (sz σ) σ Q) (List.toArray [.ref (ea E 10), .int (iI (a1))]) s 0 0 (Av E)) (F0 m 48 ls []) := by
    intro k
    induction k with
    | zero => intro v2 sL H locs ls hg hm hl h; exact False.elim h
    | succ k ih =>
      intro v2 sL H locs ls hg hm hl h
      rw [wX5_read_L48] at h
      refine lv_iload_n hx hb dX5_read_48 rfl (lv_at hl 1 rfl) ?_
      refine lv_bipush (v := iI 120) hx hb dX5_read_49 (by decide) ?_
      obtain ⟨hR2, h⟩ := h
      refine j_ge (tgt := 113) hx hb dX5_read_51 (by decide) hR2 (by decide) (fun c3 => ?_) (fun c3 => ?_)
      · have h := h.1 c3
        refine lv_aload_n hx hb dX5_read_113 rfl (lv_at hl 0 rfl) ?_
        refine q_geti (ci := 5) (C := RX5) (T := TX5) (N := 11) hx hb hts (fun _ h9 => List.mem_cons_of_mem _ (List.mem_append_left _ (List.mem_append_right _ h9))) hown hK hg 10 (by decide) rfl rfl (by decide) rfl 6 (by decide) (hts (.fieldLink RX5 36 "JoinMaps$Reader" "wanted" "I") (List.mem_cons_of_mem _ (List.mem_append_left _ (List.mem_append_left _ (List.mem_append_left _ (List.mem_of_getElem? (i := 7) rfl)))))) rfl rfl dX5_read_114 ?_
        have hR4 := GS_R hg 10 6
        refine k_ne (tgt := 131) hx hb dX5_read_117 (by decide) hR4 (fun c5 => ?_) (fun c5 => ?_)
        · have h := h.1 c5
          refine lv_aload_n hx hb dX5_read_131 rfl (lv_at hl 0 rfl) ?_
          refine q_geti (ci := 5) (C := RX5) (T := TX5) (N := 11) hx hb hts (fun _ h9 => List.mem_cons_of_mem _ (List.mem_append_left _ (List.mem_append_right _ h9))) hown hK hg 10 (by decide) rfl rfl (by decide) rfl 4 (by decide) (hts (.fieldLink RX5 29 "JoinMaps$Reader" "length" "I") (List.mem_cons_of_mem _ (List.mem_append_left _ (List.mem_append_left _ (List.mem_append_left _ (List.mem_of_getElem? (i := 5) rfl)))))) rfl rfl dX5_read_132 ?_
          have hR6 := GS_R hg 10 4
          exact ret_i hx hb hr hlocks hg hR6 hm h dX5_read_135
        · have h := h.2 c5
          refine lv_aload_n hx hb dX5_read_120 rfl (lv_at hl 0 rfl) ?_
          refine q_geti (ci := 5) (C := RX5) (T := TX5) (N := 11) hx hb hts (fun _ h9 => List.mem_cons_of_mem _ (List.mem_append_left _ (List.mem_append_right _ h9))) hown hK hg 10 (by decide) rfl rfl (by decide) rfl 10 (by decide) (hts (.fieldLink RX5 45 "JoinMaps$Reader" "sumCount" "I") (List.mem_cons_of_mem _ (List.mem_append_left _ (List.mem_append_left _ (List.mem_append_left _ (List.mem_of_getElem? (i := 10) rfl)))))) rfl rfl dX5_read_121 ?_
          have hR7 := GS_R hg 10 10
          refine k_le (tgt := 131) hx hb dX5_read_124 (by decide) hR7 (fun c8 => ?_) (fun c8 => ?_)
          · have h := h.1 c8
            refine lv_aload_n hx hb dX5_read_131 rfl (lv_at hl 0 rfl) ?_
            refine q_geti (ci := 5) (C := RX5) (T := TX5) (N := 11) hx hb hts (fun _ h9 => List.mem_cons_of_mem _ (List.mem_append_left _ (List.mem_append_right _ h9))) hown hK hg 10 (by decide) rfl rfl (by decide) rfl 4 (by decide) (hts (.fieldLink RX5 29 "JoinMaps$Reader" "length" "I") (List.mem_cons_of_mem _ (List.mem_append_left _ (List.mem_append_left _ (List.mem_append_left _ (List.mem_of_getElem? (i := 5) rfl)))))) rfl rfl dX5_read_132 ?_
            have hR9 := GS_R hg 10 4
            exact ret_i hx hb hr hlocks hg hR9 hm h dX5_read_135
          · have h := h.2 c8
            refine lv_iconst (v := iI (-1)) hx hb dX5_read_127 (by decide) ?_
            refine lv_goto (tgt := 135) hx hb dX5_read_128 (by decide) ?_
            exact ret_i hx hb hr hlocks hg (by decide) hm h dX5_read_135
      · have h := h.2 c3
        refine lv_aload_n hx hb dX5_read_54 rfl (lv_at hl 0 rfl) ?_
        refine q_geti (ci := 5) (C := RX5) (T := TX5) (N := 11) hx hb hts (fun _ h9 => List.mem_cons_of_mem _ (List.mem_append_left _ (List.mem_append_right _ h9))) hown hK hg 10 (by decide) rfl rfl (by decide) rfl 5 (by decide) (hts (.fieldLink RX5 33 "JoinMaps$Reader" "at" "I") (List.mem_cons_of_mem _ (List.mem_append_left _ (List.mem_append_left _ (List.mem_append_left _ (List.mem_of_getElem? (i := 6) rfl)))))) rfl rfl dX5_read_55 ?_
        have hR10 := GS_R hg 10 5
        refine lv_aload_n hx hb dX5_read_58 rfl (lv_at hl 0 rfl) ?_
        refine q_geti (ci := 5) (C := RX5) (T := TX5) (N := 11) hx hb hts (fun _ h9 => List.mem_cons_of_mem _ (List.mem_append_left _ (List.mem_append_right _ h9))) hown hK hg 10 (by decide) rfl rfl (by decide) rfl 4 (by decide) (hts (.fieldLink RX5 29 "JoinMaps$Reader" "length" "I") (List.mem_cons_of_mem _ (List.mem_append_left _ (List.mem_append_left _ (List.mem_append_left _ (List.mem_of_getElem? (i := 5) rfl)))))) rfl rfl dX5_read_59 ?_
        have hR11 := GS_R hg 10 4
        refine j_ge (tgt := 113) hx hb dX5_read_62 (by decide) hR10 hR11 (fun c12 => ?_) (fun c12 => ?_)
        · have h := h.1 c12
          refine lv_aload_n hx hb dX5_read_113 rfl (lv_at hl 0 rfl) ?_
          refine q_geti (ci := 5) (C := RX5) (T := TX5) (N := 11) hx hb hts (fun _ h9 => List.mem_cons_of_mem _ (List.mem_append_left _ (List.mem_append_right _ h9))) hown hK hg 10 (by decide) rfl rfl (by decide) rfl 6 (by decide) (hts (.fieldLink RX5 36 "JoinMaps$Reader" "wanted" "I") (List.mem_cons_of_mem _ (List.mem_append_left _ (List.mem_append_left _ (List.mem_append_left _ (List.mem_of_getElem? (i := 7) rfl)))))) rfl rfl dX5_read_114 ?_
          have hR13 := GS_R hg 10 6
          refine k_ne (tgt := 131) hx hb dX5_read_117 (by decide) hR13 (fun c14 => ?_) (fun c14 => ?_)
          · have h := h.1 c14
            refine lv_aload_n hx hb dX5_read_131 rfl (lv_at hl 0 rfl) ?_
            refine q_geti (ci := 5) (C := RX5) (T := TX5) (N := 11) hx hb hts (fun _ h9 => List.mem_cons_of_mem _ (List.mem_append_left _ (List.mem_append_right _ h9))) hown hK hg 10 (by decide) rfl rfl (by decide) rfl 4 (by decide) (hts (.fieldLink RX5 29 "JoinMaps$Reader" "length" "I") (List.mem_cons_of_mem _ (List.mem_append_left _ (List.mem_append_left _ (List.mem_append_left _ (List.mem_of_getElem? (i := 5) rfl)))))) rfl rfl dX5_read_132 ?_
            have hR15 := GS_R hg 10 4
            exact ret_i hx hb hr hlocks hg hR15 hm h dX5_read_135
          · have h := h.2 c14
            refine lv_aload_n hx hb dX5_read_120 rfl (lv_at hl 0 rfl) ?_
            refine q_geti (ci := 5) (C := RX5) (T := TX5) (N := 11) hx hb hts (fun _ h9 => List.mem_cons_of_mem _ (List.mem_append_left _ (List.mem_append_right _ h9))) hown hK hg 10 (by decide) rfl rfl (by decide) rfl 10 (by decide) (hts (.fieldLink RX5 45 "JoinMaps$Reader" "sumCount" "I") (List.mem_cons_of_mem _ (List.mem_append_left _ (List.mem_append_left _ (List.mem_append_left _ (List.mem_of_getElem? (i := 10) rfl)))))) rfl rfl dX5_read_121 ?_
            have hR16 := GS_R hg 10 10
            refine k_le (tgt := 131) hx hb dX5_read_124 (by decide) hR16 (fun c17 => ?_) (fun c17 => ?_)
            · have h := h.1 c17
              refine lv_aload_n hx hb dX5_read_131 rfl (lv_at hl 0 rfl) ?_
              refine q_geti (ci := 5) (C := RX5) (T := TX5) (N := 11) hx hb hts (fun _ h9 => List.mem_cons_of_mem _ (List.mem_append_left _ (List.mem_append_right _ h9))) hown hK hg 10 (by decide) rfl rfl (by decide) rfl 4 (by decide) (hts (.fieldLink RX5 29 "JoinMaps$Reader" "length" "I") (List.mem_cons_of_mem _ (List.mem_append_left _ (List.mem_append_left _ (List.mem_append_left _ (List.mem_of_getElem? (i := 5) rfl)))))) rfl rfl dX5_read_132 ?_
              have hR18 := GS_R hg 10 4
              exact ret_i hx hb hr hlocks hg hR18 hm h dX5_read_135
            · have h := h.2 c17
              refine lv_iconst (v := iI (-1)) hx hb dX5_read_127 (by decide) ?_
              refine lv_goto (tgt := 135) hx hb dX5_read_128 (by decide) ?_
              exact ret_i hx hb hr hlocks hg (by decide) hm h dX5_read_135
        · have h := h.2 c12
          refine lv_aload_n hx hb dX5_read_65 rfl (lv_at hl 0 rfl) ?_
          refine q_getx (ci := 5) (C := RX5) (T := TX5) (N := 11) (j := 6) hx hb hts (fun _ h9 => List.mem_cons_of_mem _ (List.mem_append_left _ (List.mem_append_right _ h9))) hown hK hg 10 (by decide) rfl rfl (by decide) rfl 0 (by decide) (hts (.fieldLink RX5 15 "JoinMaps$Reader" "bytes" "[B") (List.mem_cons_of_mem _ (List.mem_append_left _ (List.mem_append_left _ (List.mem_append_left _ (List.mem_of_getElem? (i := 0) rfl)))))) rfl rfl rfl dX5_read_66 ?_
          refine lv_aload_n hx hb dX5_read_69 rfl (lv_at hl 0 rfl) ?_
          refine q_geti (ci := 5) (C := RX5) (T := TX5) (N := 11) hx hb hts (fun _ h9 => List.mem_cons_of_mem _ (List.mem_append_left _ (List.mem_append_right _ h9))) hown hK hg 10 (by decide) rfl rfl (by decide) rfl 5 (by decide) (hts (.fieldLink RX5 33 "JoinMaps$Reader" "at" "I") (List.mem_cons_of_mem _ (List.mem_append_left _ (List.mem_append_left _ (List.mem_append_left _ (List.mem_of_getElem? (i := 6) rfl)))))) rfl rfl dX5_read_70 ?_
          have hR19 := GS_R hg 10 5
          obtain ⟨hP20, hP21, h⟩ := h
          refine q_bald (N := 120) hx hb hK hg 6 (by decide) rfl rfl hP20 hP21 (by decide) dX5_read_73 ?_
          have hR22 := GS_R hg 6 ((sn sL 10 5) : Int).toNat
          refine lv_istore_n (i := 3) (lv' := [(3, .int (iI ((sn sL 6 ((sn sL 10 5) : Int).toNat)))), (0, .ref (ea E 10)), (2, .int (iI (v2)))]) hx hb dX5_read_74 rfl hl (by decide) rfl (fun ls hl => ?_)
          refine lv_iload_n hx hb dX5_read_75 rfl (lv_at hl 0 rfl) ?_
          refine lv_bipush (v := iI 32) hx hb dX5_read_76 (by decide) ?_
          refine j_ne (tgt := 94) hx hb dX5_read_78 (by decide) hR22 (by decide) (fun c23 => ?_) (fun c23 => ?_)
          · have h := h.1 c23
            refine lv_aload_n hx hb dX5_read_94 rfl (lv_at hl 1 rfl) ?_
            refine lv_iload_n hx hb dX5_read_95 rfl (lv_at hl 0 rfl) ?_
            refine call_z (run_V (a := ea E 10) (As := [.int (iI ((sn sL 6 ((sn sL 10 5) : Int).toNat)))]) (rest := []) ⟨hx, hb, hml, hown, hts⟩ (ctX5_accepts l E (sn sL 6 ((sn sL 10 5) : Int).toNat) sL _ hR22 h) (cwV 1 hts gX5_read_X5_accepts rfl rfl rfl ⟨rfl, hdX5_accepts⟩ ⟨Nat.le_of_ble_eq_true rfl, Nat.le_of_ble_eq_true rfl⟩) hK hN hg (recv_x (ci := 5) (C := RX5) (T := TX5) (N := 11) hg hK (by decide) rfl (by decide) rfl) rfl hl.1 rfl (cat_sum _ (by simp)) dX5_read_96 ⟨Nat.le_refl 0, Nat.le_refl 0⟩) hg (fun r25 s24 H locs hz26 hm2 h hg => ?_)
            have hm := hm.tn hm2
            refine k_ne (tgt := 107) hx hb dX5_read_99 (by decide) (z_R hz26) (fun c27 => ?_) (fun c27 => ?_)
            · have h := h.1 c27
              refine lv_iinc (v := iI (v2 + 1)) (lv' := [(2, .int (iI (v2 + 1))), (3, .int (iI ((sn sL 6 ((sn sL 10 5) : Int).toNat)))), (0, .ref (ea E 10))]) hx hb dX5_read_107 hl (k := 2) rfl (iI_add _ _) (by decide) rfl (fun ls hl => ?_)
              refine lv_goto (tgt := 48) hx hb dX5_read_110 (by decide) ?_
              exact ih (v2 + 1) (s24) _ _ _ hg hm (lv_sub hl [2, 0] rfl) h
            · have h := h.2 c27
              refine lv_aload_n hx hb dX5_read_102 rfl (lv_at hl 1 rfl) ?_
              refine q_geti (ci := 5) (C := RX5) (T := TX5) (N := 11) hx hb hts (fun _ h9 => List.mem_cons_of_mem _ (List.mem_append_left _ (List.mem_append_right _ h9))) hown hK hg 10 (by decide) rfl rfl (by decide) rfl 5 (by decide) (hts (.fieldLink RX5 33 "JoinMaps$Reader" "at" "I") (List.mem_cons_of_mem _ (List.mem_append_left _ (List.mem_append_left _ (List.mem_append_left _ (List.mem_of_getElem? (i := 6) rfl)))))) rfl rfl dX5_read_103 ?_
              have hR28 := GS_R hg 10 5
              exact ret_i hx hb hr hlocks hg hR28 hm h dX5_read_106
          · have h := h.2 c23
            refine lv_aload_n hx hb dX5_read_81 rfl (lv_at hl 1 rfl) ?_
            refine lv_dup hx hb dX5_read_82 rfl ?_
            refine q_geti (ci := 5) (C := RX5) (T := TX5) (N := 11) hx hb hts (fun _ h9 => List.mem_cons_of_mem _ (List.mem_append_left _ (List.mem_append_right _ h9))) hown hK hg 10 (by decide) rfl rfl (by decide) rfl 5 (by decide) (hts (.fieldLink RX5 33 "JoinMaps$Reader" "at" "I") (List.mem_cons_of_mem _ (List.mem_append_left _ (List.mem_append_left _ (List.mem_append_left _ (List.mem_of_getElem? (i := 6) rfl)))))) rfl rfl dX5_read_83 ?_
            have hR29 := GS_R hg 10 5
            refine lv_iconst (v := iI 1) hx hb dX5_read_86 (by decide) ?_
            refine q_iadd hx hb dX5_read_87 ?_
            obtain ⟨hR30, h⟩ := h
            refine q_puti (ci := 5) (C := RX5) (T := TX5) (N := 11) hx hb hts (fun _ h9 => List.mem_cons_of_mem _ (List.mem_append_left _ (List.mem_append_right _ h9))) tyX5 tyX5_ok nmX5 hown hK hg 10 (by decide) rfl rfl (by decide) rfl 5 (by decide) (hts (.fieldLink RX5 33 "JoinMaps$Reader" "at" "I") (List.mem_cons_of_mem _ (List.mem_append_left _ (List.mem_append_left _ (List.mem_append_left _ (List.mem_of_getElem? (i := 6) rfl)))))) rfl rfl (by decide +kernel) rfl hR30 dX5_read_88 (fun H locs hg => ?_)
            refine lv_goto (tgt := 107) hx hb dX5_read_91 (by decide) ?_
            refine lv_iinc (v := iI (v2 + 1)) (lv' := [(2, .int (iI (v2 + 1))), (3, .int (iI ((sn sL 6 ((sn sL 10 5) : Int).toNat)))), (0, .ref (ea E 10))]) hx hb dX5_read_107 hl (k := 2) rfl (iI_add _ _) (by decide) rfl (fun ls hl => ?_)
            refine lv_goto (tgt := 48) hx hb dX5_read_110 (by decide) ?_
            exact ih (v2 + 1) (un sL 10 5 (((sn sL 10 5) + 1))) _ _ _ hg hm (lv_sub hl [2, 0] rfl) h
  refine lv_aload_n hx hb dX5_read_0 rfl (lv_at hl 0 rfl) ?_
  refine lv_iload_n hx hb dX5_read_1 rfl (lv_at hl 1 rfl) ?_
  refine lv_aload_n hx hb dX5_read_2 rfl (lv_at hl 0 rfl) ?_
  refine q_getx (ci := 5) (C := RX5) (T := TX5) (N := 11) (j := 6) hx hb hts (fun _ h9 => List.mem_cons_of_mem _ (List.mem_append_left _ (List.mem_append_right _ h9))) hown hK hg 10 (by decide) rfl rfl (by decide) rfl 0 (by decide) (hts (.fieldLink RX5 15 "JoinMaps$Reader" "bytes" "[B") (List.mem_cons_of_mem _ (List.mem_append_left _ (List.mem_append_left _ (List.mem_append_left _ (List.mem_of_getElem? (i := 0) rfl)))))) rfl rfl rfl dX5_read_3 ?_
  refine q_alen (N := 120) hx hb hK hg 6 (by decide) (Or.inr (Or.inl rfl)) rfl dX5_read_6 ?_
  refine q_min hx hb (by rw [hml]; exact hl.1.symm) hown (hts (.methodLink RX5 23 Lib.Math.min.name) (List.mem_cons_of_mem _ (List.mem_append_left _ (List.mem_append_left _ (List.mem_append_left _ (List.mem_of_getElem? (i := 1) rfl)))))) (hts (.static Lib.Math.min.name) (List.mem_cons_of_mem _ (List.mem_append_left _ (List.mem_append_left _ (List.mem_append_left _ (List.mem_of_getElem? (i := 2) rfl)))))) (hts (.initialized "java/lang/Math") (List.mem_cons_of_mem _ (List.mem_append_left _ (List.mem_append_left _ (List.mem_append_left _ (List.mem_of_getElem? (i := 3) rfl)))))) (hts (.code Lib.Math.min.name Lib.Math.min.code 2 (some .int)) (List.mem_cons_of_mem _ (List.mem_append_left _ (List.mem_append_left _ (List.mem_append_left _ (List.mem_of_getElem? (i := 4) rfl)))))) (Nat.le_of_ble_eq_true rfl) (by simp) (Nat.le_of_ble_eq_true rfl) (Nat.le_refl 0) (Nat.le_refl 0) ha1 (by decide) dX5_read_7 ?_
  have hR1 : R32 (min a1 120) := by have q1 : R32 a1 := ha1; have q2 : R32 120 := (by decide); omega
  refine q_puti (ci := 5) (C := RX5) (T := TX5) (N := 11) hx hb hts (fun _ h9 => List.mem_cons_of_mem _ (List.mem_append_left _ (List.mem_append_right _ h9))) tyX5 tyX5_ok nmX5 hown hK hg 10 (by decide) rfl rfl (by decide) rfl 4 (by decide) (hts (.fieldLink RX5 29 "JoinMaps$Reader" "length" "I") (List.mem_cons_of_mem _ (List.mem_append_left _ (List.mem_append_left _ (List.mem_append_left _ (List.mem_of_getElem? (i := 5) rfl)))))) rfl rfl (by decide +kernel) rfl hR1 dX5_read_10 (fun H locs hg => ?_)
  refine lv_aload_n hx hb dX5_read_13 rfl (lv_at hl 0 rfl) ?_
  refine lv_iconst (v := iI 0) hx hb dX5_read_14 (by decide) ?_
  refine q_puti (ci := 5) (C := RX5) (T := TX5) (N := 11) hx hb hts (fun _ h9 => List.mem_cons_of_mem _ (List.mem_append_left _ (List.mem_append_right _ h9))) tyX5 tyX5_ok nmX5 hown hK hg 10 (by decide) rfl rfl (by decide) rfl 5 (by decide) (hts (.fieldLink RX5 33 "JoinMaps$Reader" "at" "I") (List.mem_cons_of_mem _ (List.mem_append_left _ (List.mem_append_left _ (List.mem_append_left _ (List.mem_of_getElem? (i := 6) rfl)))))) rfl rfl (by decide +kernel) rfl (by decide) dX5_read_15 (fun H locs hg => ?_)
  refine lv_aload_n hx hb dX5_read_18 rfl (lv_at hl 0 rfl) ?_
  refine lv_iconst (v := iI 0) hx hb dX5_read_19 (by decide) ?_
  refine q_puti (ci := 5) (C := RX5) (T := TX5) (N := 11) hx hb hts (fun _ h9 => List.mem_cons_of_mem _ (List.mem_append_left _ (List.mem_append_right _ h9))) tyX5 tyX5_ok nmX5 hown hK hg 10 (by decide) rfl rfl (by decide) rfl 6 (by decide) (hts (.fieldLink RX5 36 "JoinMaps$Reader" "wanted" "I") (List.mem_cons_of_mem _ (List.mem_append_left _ (List.mem_append_left _ (List.mem_append_left _ (List.mem_of_getElem? (i := 7) rfl)))))) rfl rfl (by decide +kernel) rfl (by decide) dX5_read_20 (fun H locs hg => ?_)
  refine lv_aload_n hx hb dX5_read_23 rfl (lv_at hl 0 rfl) ?_
  refine lv_iconst (v := iI 0) hx hb dX5_read_24 (by decide) ?_
  refine q_puti (ci := 5) (C := RX5) (T := TX5) (N := 11) hx hb hts (fun _ h9 => List.mem_cons_of_mem _ (List.mem_append_left _ (List.mem_append_right _ h9))) tyX5 tyX5_ok nmX5 hown hK hg 10 (by decide) rfl rfl (by decide) rfl 3 (by decide) (hts (.fieldLink RX5 39 "JoinMaps$Reader" "waits" "I") (List.mem_cons_of_mem _ (List.mem_append_left _ (List.mem_append_left _ (List.mem_append_left _ (List.mem_of_getElem? (i := 8) rfl)))))) rfl rfl (by decide +kernel) rfl (by decide) dX5_read_25 (fun H locs hg => ?_)
  refine lv_aload_n hx hb dX5_read_28 rfl (lv_at hl 0 rfl) ?_
  refine lv_iconst (v := iI 0) hx hb dX5_read_29 (by decide) ?_
  refine q_puti (ci := 5) (C := RX5) (T := TX5) (N := 11) hx hb hts (fun _ h9 => List.mem_cons_of_mem _ (List.mem_append_left _ (List.mem_append_right _ h9))) tyX5 tyX5_ok nmX5 hown hK hg 10 (by decide) rfl rfl (by decide) rfl 8 (by decide) (hts (.fieldLink RX5 42 "JoinMaps$Reader" "open" "I") (List.mem_cons_of_mem _ (List.mem_append_left _ (List.mem_append_left _ (List.mem_append_left _ (List.mem_of_getElem? (i := 9) rfl)))))) rfl rfl (by decide +kernel) rfl (by decide) dX5_read_30 (fun H locs hg => ?_)
  refine lv_aload_n hx hb dX5_read_33 rfl (lv_at hl 0 rfl) ?_
  refine lv_iconst (v := iI 0) hx hb dX5_read_34 (by decide) ?_
  refine q_puti (ci := 5) (C := RX5) (T := TX5) (N := 11) hx hb hts (fun _ h9 => List.mem_cons_of_mem _ (List.mem_append_left _ (List.mem_append_right _ h9))) tyX5 tyX5_ok nmX5 hown hK hg 10 (by decide) rfl rfl (by decide) rfl 10 (by decide) (hts (.fieldLink RX5 45 "JoinMaps$Reader" "sumCount" "I") (List.mem_cons_of_mem _ (List.mem_append_left _ (List.mem_append_left _ (List.mem_append_left _ (List.mem_of_getElem? (i := 10) rfl)))))) rfl rfl (by decide +kernel) rfl (by decide) dX5_read_35 (fun H locs hg => ?_)
  refine lv_aload_n hx hb dX5_read_38 rfl (lv_at hl 0 rfl) ?_
  refine q_getx (ci := 5) (C := RX5) (T := TX5) (N := 11) (j := 7) hx hb hts (fun _ h9 => List.mem_cons_of_mem _ (List.mem_append_left _ (List.mem_append_right _ h9))) hown hK hg 10 (by decide) rfl rfl (by decide) rfl 1 (by decide) (hts (.fieldLink RX5 19 "JoinMaps$Reader" "plan" "LJoinMaps$Plan;") (List.mem_cons_of_mem _ (List.mem_append_left _ (List.mem_append_left _ (List.mem_append_left _ (List.mem_of_getElem? (i := 11) rfl)))))) rfl rfl rfl dX5_read_39 ?_
  refine lv_iconst (v := iI 0) hx hb dX5_read_42 (by decide) ?_
  refine q_puti (ci := 4) (C := RX4) (T := TX4) (N := 3) hx hb hts (fun _ h9 => List.mem_cons_of_mem _ (List.mem_append_right _ h9)) tyX4 tyX4_ok nmX4 hown hK hg 7 (by decide) rfl rfl (by decide) rfl 2 (by decide) (hts (.fieldLink RX5 48 "JoinMaps$Plan" "length" "I") (List.mem_cons_of_mem _ (List.mem_append_left _ (List.mem_append_left _ (List.mem_append_left _ (List.mem_of_getElem? (i := 12) rfl)))))) rfl rfl (by decide +kernel) rfl (by decide) dX5_read_43 (fun H locs hg => ?_)
  refine lv_iconst (v := iI 0) hx hb dX5_read_46 (by decide) ?_
  refine lv_istore_n (i := 2) (lv' := [(2, .int (iI (0))), (0, .ref (ea E 10)), (1, .int (iI (a1)))]) hx hb dX5_read_47 rfl hl (by decide) rfl (fun ls hl => ?_)
  obtain ⟨kk, h⟩ := h
  exact J48  kk (0) (un (un (un (un (un (un (un σ 10 4 ((min a1 120))) 10 5 (0)) 10 6 (0)) 10 3 (0)) 10 8 (0)) 10 10 (0)) 7 2 (0)) _ _ _ hg hm (lv_sub hl [1, 0] rfl) h
