theorem hdX6_empty : yX6_empty.cls ≠ "java/lang/invoke/MethodHandle" ∧ yX6_empty.cls ≠ "java/lang/invoke/VarHandle" ∧ (parseMethodDescriptor yX6_empty.desc).map (fun d => d.parameters.length) = some 0 := by decide +kernel
set_option maxRecDepth 100000 in
set_option maxHeartbeats 4000000 in
theorem ctX6_empty (l : Launch) (E : Ev) (x0 : Nat) (σ : SS) (Q : SS → Prop) (hx0 : x0 = 15 ∨ x0 = 18) (h : wX6_empty x0 σ Q) : Met l yX6_empty wsX6_empty ({ frames := 0, cells := 0, slots := 0, locals := 0 } : Room) (Pc E σ [.ref (ea E x0)]) (Qv E (sz σ) σ Q) 0 0 (Av E) := by
  rw [wX6_empty] at h
  refine Met.ofW (cc := cX6_empty) (maxL := 1) (ret := none) (by decide) rfl ?_
  intro p e s m args below meth c s₁ B hml hv
  obtain ⟨rfl, hH, hK, hN⟩ := hv
  have hx := B.exec
  have hb := B.bytes
  have hr := B.returns
  have hts := atoms_spec (ws := wsX6_empty) B.pre
  have hown : s.vm.findClass RX6 = some m.cls := findClass_of_methodNamed B.named
  have hlocks := B.notSynchronized
  have hg : GS E σ s s.heap [] := ⟨hH, va_S.rf⟩
  have hm : Mo (sz σ) σ σ := Mo.rf (Nat.le_refl _)
  obtain ⟨hx0_0, hx0_1, hx0_2, hx0_3, hx0_4, hx0_5, hx0_6, hx0_7, hx0_8, hx0_9, hx0_10⟩ := rowF hx0
  have hl := ent (vs := [.ref (ea E x0)]) (n := 1) (cats_x cats_nil) (Nat.le_of_ble_eq_true rfl)
  rw [lg_entry_eq]
  generalize (lg_sl ([.ref (ea E x0)]) ++ List.replicate (1 - (lg_sl ([.ref (ea E x0)])).length) Slot.unset).toArray = ls at hl ⊢
  have hl : lv_has ls 1 [(0, .ref (ea E x0))] := hl
  refine lv_aload_n hx hb dX6_empty_0 rfl (lv_at hl 0 rfl) ?_
  refine lv_iconst (v := iI 0) hx hb dX6_empty_1 (by decide) ?_
  refine q_puti (ci := 6) (C := RX6) (T := TX6) (N := 3) hx hb hts (fun _ h9 => List.mem_cons_of_mem _ (List.mem_append_right _ h9)) tyX6 tyX6_ok nmX6 hown hK hg x0 hx0_0 hx0_1 hx0_2 (by decide) rfl 2 (by decide) (hts (.fieldLink RX6 18 "JoinMaps$Row" "length" "I") (List.mem_cons_of_mem _ (List.mem_append_left _ (List.mem_of_getElem? (i := 0) rfl)))) rfl rfl (by decide +kernel) rfl (by decide) dX6_empty_2 (fun H locs hg => ?_)
  exact ret_v hx hb hr hlocks hg hm h dX6_empty_5
theorem hdX6_add : yX6_add.cls ≠ "java/lang/invoke/MethodHandle" ∧ yX6_add.cls ≠ "java/lang/invoke/VarHandle" ∧ (parseMethodDescriptor yX6_add.desc).map (fun d => d.parameters.length) = some 2 := by decide +kernel
set_option maxRecDepth 100000 in
set_option maxHeartbeats 4000000 in
theorem ctX6_add (l : Launch) (E : Ev) (x0 : Nat) (a1 : Int) (a2 : Int) (σ : SS) (Q : SS → Prop) (hx0 : x0 = 15 ∨ x0 = 18) (ha1 : R32 a1) (ha2 : R32 a2) (h : wX6_add x0 a1 a2 σ Q) : Met l yX6_add wsX6_add ({ frames := 0, cells := 0, slots := 0, locals := 0 } : Room) (Pc E σ [.ref (ea E x0), .int (iI (a1)), .int (iI (a2))]) (Qv E (sz σ) σ Q) 0 0 (Av E) := by
  rw [wX6_add] at h
  refine Met.ofW (cc := cX6_add) (maxL := 3) (ret := none) (by decide) rfl ?_
  intro p e s m args below meth c s₁ B hml hv
  obtain ⟨rfl, hH, hK, hN⟩ := hv
  have hx := B.exec
  have hb := B.bytes
  have hr := B.returns
  have hts := atoms_spec (ws := wsX6_add) B.pre
  have hown : s.vm.findClass RX6 = some m.cls := findClass_of_methodNamed B.named
  have hlocks := B.notSynchronized
  have hg : GS E σ s s.heap [] := ⟨hH, va_S.rf⟩
  have hm : Mo (sz σ) σ σ := Mo.rf (Nat.le_refl _)
  obtain ⟨hx0_0, hx0_1, hx0_2, hx0_3, hx0_4, hx0_5, hx0_6, hx0_7, hx0_8, hx0_9, hx0_10⟩ := rowF hx0
  have hl := ent (vs := [.ref (ea E x0), .int (iI (a1)), .int (iI (a2))]) (n := 3) (cats_x (cats_i (cats_i cats_nil))) (Nat.le_of_ble_eq_true rfl)
  rw [lg_entry_eq]
  generalize (lg_sl ([.ref (ea E x0), .int (iI (a1)), .int (iI (a2))]) ++ List.replicate (3 - (lg_sl ([.ref (ea E x0), .int (iI (a1)), .int (iI (a2))])).length) Slot.unset).toArray = ls at hl ⊢
  have hl : lv_has ls 3 [(0, .ref (ea E x0)), (1, .int (iI (a1))), (2, .int (iI (a2)))] := hl
  refine lv_aload_n hx hb dX6_add_0 rfl (lv_at hl 0 rfl) ?_
  refine q_geti (ci := 6) (C := RX6) (T := TX6) (N := 3) hx hb hts (fun _ h9 => List.mem_cons_of_mem _ (List.mem_append_right _ h9)) hown hK hg x0 hx0_0 hx0_1 hx0_2 (by decide) rfl 2 (by decide) (hts (.fieldLink RX6 18 "JoinMaps$Row" "length" "I") (List.mem_cons_of_mem _ (List.mem_append_left _ (List.mem_of_getElem? (i := 0) rfl)))) rfl rfl dX6_add_1 ?_
  have hR1 := GS_R hg x0 2
  refine lv_sipush (v := iI 200) hx hb dX6_add_4 (by decide) ?_
  refine j_ge (tgt := 40) hx hb dX6_add_7 (by decide) hR1 (by decide) (fun c2 => ?_) (fun c2 => ?_)
  · have h := h.1 c2
    exact ret_v hx hb hr hlocks hg hm h dX6_add_40
  · have h := h.2 c2
    refine lv_aload_n hx hb dX6_add_10 rfl (lv_at hl 0 rfl) ?_
    refine q_getx (ci := 6) (C := RX6) (T := TX6) (N := 3) (j := (x0 + 1)) hx hb hts (fun _ h9 => List.mem_cons_of_mem _ (List.mem_append_right _ h9)) hown hK hg x0 hx0_0 hx0_1 hx0_2 (by decide) rfl 0 (by decide) (hts (.fieldLink RX6 9 "JoinMaps$Row" "keys" "[I") (List.mem_cons_of_mem _ (List.mem_append_left _ (List.mem_of_getElem? (i := 1) rfl)))) rfl rfl hx0_9 dX6_add_11 ?_
    refine lv_aload_n hx hb dX6_add_14 rfl (lv_at hl 0 rfl) ?_
    refine q_geti (ci := 6) (C := RX6) (T := TX6) (N := 3) hx hb hts (fun _ h9 => List.mem_cons_of_mem _ (List.mem_append_right _ h9)) hown hK hg x0 hx0_0 hx0_1 hx0_2 (by decide) rfl 2 (by decide) (hts (.fieldLink RX6 18 "JoinMaps$Row" "length" "I") (List.mem_cons_of_mem _ (List.mem_append_left _ (List.mem_of_getElem? (i := 0) rfl)))) rfl rfl dX6_add_15 ?_
    have hR3 := GS_R hg x0 2
    refine lv_iload_n hx hb dX6_add_18 rfl (lv_at hl 1 rfl) ?_
    obtain ⟨hP4, hP5, h⟩ := h
    refine q_iast (N := 200) hx hb hK hg (x0 + 1) hx0_3 hx0_4 hx0_5 hP4 hP5 (by decide) ha1 dX6_add_19 (fun H locs hg => ?_)
    refine lv_aload_n hx hb dX6_add_20 rfl (lv_at hl 0 rfl) ?_
    refine q_getx (ci := 6) (C := RX6) (T := TX6) (N := 3) (j := (x0 + 2)) hx hb hts (fun _ h9 => List.mem_cons_of_mem _ (List.mem_append_right _ h9)) hown hK hg x0 hx0_0 hx0_1 hx0_2 (by decide) rfl 1 (by decide) (hts (.fieldLink RX6 15 "JoinMaps$Row" "values" "[I") (List.mem_cons_of_mem _ (List.mem_append_left _ (List.mem_of_getElem? (i := 2) rfl)))) rfl rfl hx0_10 dX6_add_21 ?_
    refine lv_aload_n hx hb dX6_add_24 rfl (lv_at hl 0 rfl) ?_
    refine q_geti (ci := 6) (C := RX6) (T := TX6) (N := 3) hx hb hts (fun _ h9 => List.mem_cons_of_mem _ (List.mem_append_right _ h9)) hown hK hg x0 hx0_0 hx0_1 hx0_2 (by decide) rfl 2 (by decide) (hts (.fieldLink RX6 18 "JoinMaps$Row" "length" "I") (List.mem_cons_of_mem _ (List.mem_append_left _ (List.mem_of_getElem? (i := 0) rfl)))) rfl rfl dX6_add_25 ?_
    have hR6 := GS_R hg x0 2
    refine lv_iload_n hx hb dX6_add_28 rfl (lv_at hl 2 rfl) ?_
    obtain ⟨hP7, hP8, h⟩ := h
    refine q_iast (N := 200) hx hb hK hg (x0 + 2) hx0_6 hx0_7 hx0_8 hP7 hP8 (by decide) ha2 dX6_add_29 (fun H locs hg => ?_)
    refine lv_aload_n hx hb dX6_add_30 rfl (lv_at hl 0 rfl) ?_
    refine lv_dup hx hb dX6_add_31 rfl ?_
    refine q_geti (ci := 6) (C := RX6) (T := TX6) (N := 3) hx hb hts (fun _ h9 => List.mem_cons_of_mem _ (List.mem_append_right _ h9)) hown hK hg x0 hx0_0 hx0_1 hx0_2 (by decide) rfl 2 (by decide) (hts (.fieldLink RX6 18 "JoinMaps$Row" "length" "I") (List.mem_cons_of_mem _ (List.mem_append_left _ (List.mem_of_getElem? (i := 0) rfl)))) rfl rfl dX6_add_32 ?_
    have hR9 := GS_R hg x0 2
    refine lv_iconst (v := iI 1) hx hb dX6_add_35 (by decide) ?_
    refine q_iadd hx hb dX6_add_36 ?_
    obtain ⟨hR10, h⟩ := h
    refine q_puti (ci := 6) (C := RX6) (T := TX6) (N := 3) hx hb hts (fun _ h9 => List.mem_cons_of_mem _ (List.mem_append_right _ h9)) tyX6 tyX6_ok nmX6 hown hK hg x0 hx0_0 hx0_1 hx0_2 (by decide) rfl 2 (by decide) (hts (.fieldLink RX6 18 "JoinMaps$Row" "length" "I") (List.mem_cons_of_mem _ (List.mem_append_left _ (List.mem_of_getElem? (i := 0) rfl)))) rfl rfl (by decide +kernel) rfl hR10 dX6_add_37 (fun H locs hg => ?_)
    exact ret_v hx hb hr hlocks hg hm h dX6_add_40
theorem hdX6_walk : yX6_walk.cls ≠ "java/lang/invoke/MethodHandle" ∧ yX6_walk.cls ≠ "java/lang/invoke/VarHandle" ∧ (parseMethodDescriptor yX6_walk.desc).map (fun d => d.parameters.length) = some 2 := by decide +kernel
set_option maxRecDepth 100000 in
set_option maxHeartbeats 4000000 in
theorem ctX6_walk (l : Launch) (E : Ev) : ∀ (d : Nat) (x0 : Nat) (a1 : Option Nat) (a2 : Int) (σ : SS) (Q : SS → Prop) (hx0 : x0 = 15 ∨ x0 = 18) (ha1 : ∀ b, a1 = some b → sS σ b) (ha2 : R32 a2) (h : wX6_walk d x0 a1 a2 σ Q), Met l yX6_walk wsX6_walk ({ frames := 1 + d, cells := 0, slots := 0, locals := 22 + d * 22 } : Room) (Pc E σ [.ref (ea E x0), va_rf (a1), .int (iI (a2))]) (Qv E (sz σ) σ Q) 0 0 (Av E) := by
  intro d
  induction d with
  | zero => intro x0 a1 a2 σ Q hx0 ha1 ha2 h; exact False.elim h
  | succ d ih =>
  intro x0 a1 a2 σ Q hx0 ha1 ha2 h
  rw [wX6_walk] at h
  refine Met.ofW (cc := cX6_walk) (maxL := 3) (ret := none) (by decide) rfl ?_
  intro p e s m args below meth c s₁ B hml hv
  obtain ⟨rfl, hH, hK, hN⟩ := hv
  have hx := B.exec
  have hb := B.bytes
  have hr := B.returns
  have hts := atoms_spec (ws := wsX6_walk) B.pre
  have hown : s.vm.findClass RX6 = some m.cls := findClass_of_methodNamed B.named
  have hlocks := B.notSynchronized
  have hg : GS E σ s s.heap [] := ⟨hH, va_S.rf⟩
  have hm : Mo (sz σ) σ σ := Mo.rf (Nat.le_refl _)
  obtain ⟨hx0_0, hx0_1, hx0_2, hx0_3, hx0_4, hx0_5, hx0_6, hx0_7, hx0_8, hx0_9, hx0_10⟩ := rowF hx0
  have hl := ent (vs := [.ref (ea E x0), va_rf (a1), .int (iI (a2))]) (n := 3) (cats_x (cats_r (cats_i cats_nil))) (Nat.le_of_ble_eq_true rfl)
  rw [lg_entry_eq]
  generalize (lg_sl ([.ref (ea E x0), va_rf (a1), .int (iI (a2))]) ++ List.replicate (3 - (lg_sl ([.ref (ea E x0), va_rf (a1), .int (iI (a2))])).length) Slot.unset).toArray = ls at hl ⊢
  have hl : lv_has ls 3 [(0, .ref (ea E x0)), (1, va_rf (a1)), (2, .int (iI (a2)))] := hl
  refine q_aload_n hx hb dX6_walk_0 rfl (lv_at hl 1 rfl) ?_
  refine j_null (tgt := 10) hx hb dX6_walk_1 (by decide) (fun c1 => ?_) (fun b2 c1 => ?_)
  · have h := h.1 c1
    exact ret_v hx hb hr hlocks hg hm h dX6_walk_10
  · have h := h.2 b2 c1
    refine lv_iload_n hx hb dX6_walk_4 rfl (lv_at hl 2 rfl) ?_
    refine lv_bipush (v := iI 40) hx hb dX6_walk_5 (by decide) ?_
    refine j_le (tgt := 11) hx hb dX6_walk_7 (by decide) ha2 (by decide) (fun c3 => ?_) (fun c3 => ?_)
    · have h := h.1 c3
      refine lv_aload_n hx hb dX6_walk_11 rfl (lv_at hl 0 rfl) ?_
      refine q_aload_n hx hb dX6_walk_12 rfl (lv_at hl 1 rfl) ?_
      refine q_ngetr_o c1 hx hb hts (fun _ h9 => List.mem_cons_of_mem _ (List.mem_append_left _ (List.mem_append_right _ h9))) hown hK hg (ha1 b2 c1) 4 (by decide) (hts (.fieldLink RX6 26 "JoinMaps$Node" "left" "LJoinMaps$Node;") (List.mem_cons_of_mem _ (List.mem_append_left _ (List.mem_append_left _ (List.mem_of_getElem? (i := 0) rfl))))) rfl rfl dX6_walk_13 ?_
      have hS4 : ∀ b, (sf σ (b2 + 64) 4) = some b → sS σ b := fun b h0 => GS_F hg h0
      refine lv_iload_n hx hb dX6_walk_16 rfl (lv_at hl 2 rfl) ?_
      refine lv_iconst (v := iI 1) hx hb dX6_walk_17 (by decide) ?_
      refine q_iadd hx hb dX6_walk_18 ?_
      obtain ⟨hR5, h⟩ := h
      refine call_v (run_V (a := ea E x0) (As := [va_rf ((sf σ (b2 + 64) 4)), .int (iI ((a2 + 1)))]) (rest := []) ⟨hx, hb, hml, hown, hts⟩ (ih x0 (sf σ (b2 + 64) 4) (a2 + 1) σ _ hx0 hS4 hR5 h) (cwV 2 hts gX6_walk_X6_walk rfl rfl rfl ⟨rfl, hdX6_walk⟩ ⟨by show 1 + d + 1 ≤ 1 + (d + 1); omega, by show 8 + (3 + 11) + (22 + d * 22) ≤ 22 + (d + 1) * 22; omega⟩) hK hN hg (recv_x (ci := 6) (C := RX6) (T := TX6) (N := 3) hg hK hx0_0 hx0_1 (by decide) rfl) rfl hl.1 rfl (cat_sum _ (by simp)) dX6_walk_19 ⟨Nat.le_refl 0, Nat.le_refl 0⟩) hg (fun s6 H locs hm2 h hg => ?_)
      have hS9 : ∀ b, a1 = some b → sS s6 b := (fun b h0 => hm2.1 b (ha1 b h0))
      have hm := hm.tn hm2
      refine lv_aload_n hx hb dX6_walk_22 rfl (lv_at hl 0 rfl) ?_
      refine q_aload_n hx hb dX6_walk_23 rfl (lv_at hl 1 rfl) ?_
      refine q_ngeti_o c1 hx hb hts (fun _ h9 => List.mem_cons_of_mem _ (List.mem_append_left _ (List.mem_append_right _ h9))) hown hK hg (hS9 b2 c1) 0 (by decide) (hts (.fieldLink RX6 32 "JoinMaps$Node" "key" "I") (List.mem_cons_of_mem _ (List.mem_append_left _ (List.mem_append_left _ (List.mem_of_getElem? (i := 1) rfl))))) rfl rfl dX6_walk_24 ?_
      have hR10 := GS_R hg (b2 + 64) 0
      refine q_aload_n hx hb dX6_walk_27 rfl (lv_at hl 1 rfl) ?_
      refine q_ngeti_o c1 hx hb hts (fun _ h9 => List.mem_cons_of_mem _ (List.mem_append_left _ (List.mem_append_right _ h9))) hown hK hg (hS9 b2 c1) 1 (by decide) (hts (.fieldLink RX6 35 "JoinMaps$Node" "value" "I") (List.mem_cons_of_mem _ (List.mem_append_left _ (List.mem_append_left _ (List.mem_of_getElem? (i := 2) rfl))))) rfl rfl dX6_walk_28 ?_
      have hR11 := GS_R hg (b2 + 64) 1
      refine call_v (run_V (a := ea E x0) (As := [.int (iI ((sn s6 (b2 + 64) 0))), .int (iI ((sn s6 (b2 + 64) 1)))]) (rest := []) ⟨hx, hb, hml, hown, hts⟩ (ctX6_add l E x0 (sn s6 (b2 + 64) 0) (sn s6 (b2 + 64) 1) s6 _ hx0 hR10 hR11 h) (cwV 2 hts gX6_walk_X6_add rfl rfl rfl ⟨rfl, hdX6_add⟩ ⟨by show 0 + 1 ≤ 1 + (d + 1); omega, by show 8 + (3 + 11) + 0 ≤ 22 + (d + 1) * 22; omega⟩) hK hN hg (recv_x (ci := 6) (C := RX6) (T := TX6) (N := 3) hg hK hx0_0 hx0_1 (by decide) rfl) rfl hl.1 rfl (cat_sum _ (by simp)) dX6_walk_31 ⟨Nat.le_refl 0, Nat.le_refl 0⟩) hg (fun s12 H locs hm2 h hg => ?_)
      have hS15 : ∀ b, a1 = some b → sS s12 b := (fun b h0 => hm2.1 b (hS9 b h0))
      have hm := hm.tn hm2
      refine lv_aload_n hx hb dX6_walk_34 rfl (lv_at hl 0 rfl) ?_
      refine q_aload_n hx hb dX6_walk_35 rfl (lv_at hl 1 rfl) ?_
      refine q_ngetr_o c1 hx hb hts (fun _ h9 => List.mem_cons_of_mem _ (List.mem_append_left _ (List.mem_append_right _ h9))) hown hK hg (hS15 b2 c1) 5 (by decide) (hts (.fieldLink RX6 42 "JoinMaps$Node" "right" "LJoinMaps$Node;") (List.mem_cons_of_mem _ (List.mem_append_left _ (List.mem_append_left _ (List.mem_of_getElem? (i := 3) rfl))))) rfl rfl dX6_walk_36 ?_
      have hS16 : ∀ b, (sf s12 (b2 + 64) 5) = some b → sS s12 b := fun b h0 => GS_F hg h0
      refine lv_iload_n hx hb dX6_walk_39 rfl (lv_at hl 2 rfl) ?_
      refine lv_iconst (v := iI 1) hx hb dX6_walk_40 (by decide) ?_
      refine q_iadd hx hb dX6_walk_41 ?_
      refine call_v (run_V (a := ea E x0) (As := [va_rf ((sf s12 (b2 + 64) 5)), .int (iI ((a2 + 1)))]) (rest := []) ⟨hx, hb, hml, hown, hts⟩ (ih x0 (sf s12 (b2 + 64) 5) (a2 + 1) s12 _ hx0 hS16 hR5 h) (cwV 2 hts gX6_walk_X6_walk rfl rfl rfl ⟨rfl, hdX6_walk⟩ ⟨by show 1 + d + 1 ≤ 1 + (d + 1); omega, by show 8 + (3 + 11) + (22 + d * 22) ≤ 22 + (d + 1) * 22; omega⟩) hK hN hg (recv_x (ci := 6) (C := RX6) (T := TX6) (N := 3) hg hK hx0_0 hx0_1 (by decide) rfl) rfl hl.1 rfl (cat_sum _ (by simp)) dX6_walk_42 ⟨Nat.le_refl 0, Nat.le_refl 0⟩) hg (fun s17 H locs hm2 h hg => ?_)
      have hS20 : ∀ b, a1 = some b → sS s17 b := (fun b h0 => hm2.1 b (hS15 b h0))
      have hm := hm.tn hm2
      exact ret_v hx hb hr hlocks hg hm h dX6_walk_45
    · have h := h.2 c3
      exact ret_v hx hb hr hlocks hg hm h dX6_walk_10
theorem hdX6_take : yX6_take.cls ≠ "java/lang/invoke/MethodHandle" ∧ yX6_take.cls ≠ "java/lang/invoke/VarHandle" ∧ (parseMethodDescriptor yX6_take.desc).map (fun d => d.parameters.length) = some 1 := by decide +kernel
set_option maxRecDepth 100000 in
set_option maxHeartbeats 4000000 in
theorem ctX6_take (l : Launch) (E : Ev) (x0 : Nat) (a1 : Option Nat) (σ : SS) (Q : SS → Prop) (hx0 : x0 = 15 ∨ x0 = 18) (ha1 : ∀ b, a1 = some b → sS σ b) (h : wX6_take x0 a1 σ Q) : Met l yX6_take wsX6_take ({ frames := 46, cells := 0, slots := 0, locals := 1012 } : Room) (Pc E σ [.ref (ea E x0), va_rf (a1)]) (Qv E (sz σ) σ Q) 0 0 (Av E) := by
  rw [wX6_take] at h
  refine Met.ofW (cc := cX6_take) (maxL := 2) (ret := none) (by decide) rfl ?_
  intro p e s m args below meth c s₁ B hml hv
  obtain ⟨rfl, hH, hK, hN⟩ := hv
  have hx := B.exec
  have hb := B.bytes
  have hr := B.returns
  have hts := atoms_spec (ws := wsX6_take) B.pre
  have hown : s.vm.findClass RX6 = some m.cls := findClass_of_methodNamed B.named
  have hlocks := B.notSynchronized
  have hg : GS E σ s s.heap [] := ⟨hH, va_S.rf⟩
  have hm : Mo (sz σ) σ σ := Mo.rf (Nat.le_refl _)
  obtain ⟨hx0_0, hx0_1, hx0_2, hx0_3, hx0_4, hx0_5, hx0_6, hx0_7, hx0_8, hx0_9, hx0_10⟩ := rowF hx0
  have hl := ent (vs := [.ref (ea E x0), va_rf (a1)]) (n := 2) (cats_x (cats_r cats_nil)) (Nat.le_of_ble_eq_true rfl)
  rw [lg_entry_eq]
  generalize (lg_sl ([.ref (ea E x0), va_rf (a1)]) ++ List.replicate (2 - (lg_sl ([.ref (ea E x0), va_rf (a1)])).length) Slot.unset).toArray = ls at hl ⊢
  have hl : lv_has ls 2 [(0, .ref (ea E x0)), (1, va_rf (a1))] := hl
  refine lv_aload_n hx hb dX6_take_0 rfl (lv_at hl 0 rfl) ?_
  refine lv_iconst (v := iI 0) hx hb dX6_take_1 (by decide) ?_
  refine q_puti (ci := 6) (C := RX6) (T := TX6) (N := 3) hx hb hts (fun _ h9 => List.mem_cons_of_mem _ (List.mem_append_left _ (List.mem_append_right _ h9))) tyX6 tyX6_ok nmX6 hown hK hg x0 hx0_0 hx0_1 hx0_2 (by decide) rfl 2 (by decide) (hts (.fieldLink RX6 18 "JoinMaps$Row" "length" "I") (List.mem_cons_of_mem _ (List.mem_append_left _ (List.mem_append_left _ (List.mem_of_getElem? (i := 0) rfl))))) rfl rfl (by decide +kernel) rfl (by decide) dX6_take_2 (fun H locs hg => ?_)
  refine lv_aload_n hx hb dX6_take_5 rfl (lv_at hl 0 rfl) ?_
  refine q_aload_n hx hb dX6_take_6 rfl (lv_at hl 1 rfl) ?_
  refine lv_iconst (v := iI 0) hx hb dX6_take_7 (by decide) ?_
  refine call_v (run_V (a := ea E x0) (As := [va_rf (a1), .int (iI (0))]) (rest := []) ⟨hx, hb, hml, hown, hts⟩ (ctX6_walk l E 44 x0 a1 0 (un σ x0 2 (0)) _ hx0 ha1 (by decide) h) (cwV 2 hts gX6_take_X6_walk rfl rfl rfl ⟨rfl, hdX6_walk⟩ ⟨Nat.le_of_ble_eq_true rfl, Nat.le_of_ble_eq_true rfl⟩) hK hN hg (recv_x (ci := 6) (C := RX6) (T := TX6) (N := 3) hg hK hx0_0 hx0_1 (by decide) rfl) rfl hl.1 rfl (cat_sum _ (by simp)) dX6_take_8 ⟨Nat.le_refl 0, Nat.le_refl 0⟩) hg (fun s1 H locs hm2 h hg => ?_)
  have hS4 : ∀ b, a1 = some b → sS s1 b := (fun b h0 => hm2.1 b (ha1 b h0))
  have hm := hm.tn hm2
  exact ret_v hx hb hr hlocks hg hm h dX6_take_11
theorem hdX6_standing : yX6_standing.cls ≠ "java/lang/invoke/MethodHandle" ∧ yX6_standing.cls ≠ "java/lang/invoke/VarHandle" ∧ (parseMethodDescriptor yX6_standing.desc).map (fun d => d.parameters.length) = some 1 := by decide +kernel
set_option maxRecDepth 100000 in
set_option maxHeartbeats 4000000 in
theorem ctX6_standing (l : Launch) (E : Ev) (x0 : Nat) (a1 : Int) (σ : SS) (Q : Int → SS → Prop) (hx0 : x0 = 15 ∨ x0 = 18) (ha1 : R32 a1) (h : wX6_standing x0 a1 σ Q) : Met l yX6_standing wsX6_standing ({ frames := 2, cells := 0, slots := 0, locals := 43 } : Room) (Pc E σ [.ref (ea E x0), .int (iI (a1))]) (Qi E (sz σ) σ Q) 0 0 (Av E) := by
  rw [wX6_standing] at h
  refine Met.ofW (cc := cX6_standing) (maxL := 2) (ret := (some .int)) (by decide) rfl ?_
  intro p e s m args below meth c s₁ B hml hv
  obtain ⟨rfl, hH, hK, hN⟩ := hv
  have hx := B.exec
  have hb := B.bytes
  have hr := B.returns
  have hts := atoms_spec (ws := wsX6_standing) B.pre
  have hown : s.vm.findClass RX6 = some m.cls := findClass_of_methodNamed B.named
  have hlocks := B.notSynchronized
  have hg : GS E σ s s.heap [] := ⟨hH, va_S.rf⟩
  have hm : Mo (sz σ) σ σ := Mo.rf (Nat.le_refl _)
  obtain ⟨hx0_0, hx0_1, hx0_2, hx0_3, hx0_4, hx0_5, hx0_6, hx0_7, hx0_8, hx0_9, hx0_10⟩ := rowF hx0
  have hl := ent (vs := [.ref (ea E x0), .int (iI (a1))]) (n := 2) (cats_x (cats_i cats_nil)) (Nat.le_of_ble_eq_true rfl)
  rw [lg_entry_eq]
  generalize (lg_sl ([.ref (ea E x0), .int (iI (a1))]) ++ List.replicate (2 - (lg_sl ([.ref (ea E x0), .int (iI (a1))])).length) Slot.unset).toArray = ls at hl ⊢
  have hl : lv_has ls 2 [(0, .ref (ea E x0)), (1, .int (iI (a1)))] := hl
  refine q_ldc (z := 1000000) hx hb hown (hts (.constant RX6 57 (1000000)) (List.mem_cons_of_mem _ (List.mem_append_left _ (List.mem_of_getElem? (i := 0) rfl)))) (by decide) dX6_standing_0 ?_
  refine lv_aload_n hx hb dX6_standing_2 rfl (lv_at hl 0 rfl) ?_
  refine lv_iload_n hx hb dX6_standing_3 rfl (lv_at hl 1 rfl) ?_
  refine call_i (run_V (a := ea E x0) (As := [.int (iI (a1))]) (rest := [.int (iI (1000000))]) ⟨hx, hb, hml, hown, hts⟩ (ctX6_valueAt l E x0 a1 σ _ hx0 ha1 h) (cwV 1 hts gX6_standing_X6_valueAt rfl rfl rfl ⟨rfl, hdX6_valueAt⟩ ⟨Nat.le_of_ble_eq_true rfl, Nat.le_of_ble_eq_true rfl⟩) hK hN hg (recv_x (ci := 6) (C := RX6) (T := TX6) (N := 3) hg hK hx0_0 hx0_1 (by decide) rfl) rfl hl.1 rfl (cat_sum _ (by simp)) dX6_standing_4 ⟨Nat.le_refl 0, Nat.le_refl 0⟩) hg (fun r2 s1 H locs hz3 hm2 h hg => ?_)
  have hm := hm.tn hm2
  refine q_isub hx hb dX6_standing_7 ?_
  refine lv_sipush (v := iI 1001) hx hb dX6_standing_8 (by decide) ?_
  refine q_imul hx hb dX6_standing_11 ?_
  refine lv_aload_n hx hb dX6_standing_12 rfl (lv_at hl 0 rfl) ?_
  refine lv_iload_n hx hb dX6_standing_13 rfl (lv_at hl 1 rfl) ?_
  refine call_i (run_V (a := ea E x0) (As := [.int (iI (a1))]) (rest := [.int (iI (((1000000 - r2) * 1001)))]) ⟨hx, hb, hml, hown, hts⟩ (ctX6_keyAt l E x0 a1 s1 _ hx0 ha1 h) (cwV 1 hts gX6_standing_X6_keyAt rfl rfl rfl ⟨rfl, hdX6_keyAt⟩ ⟨Nat.le_of_ble_eq_true rfl, Nat.le_of_ble_eq_true rfl⟩) hK hN hg (recv_x (ci := 6) (C := RX6) (T := TX6) (N := 3) hg hK hx0_0 hx0_1 (by decide) rfl) rfl hl.1 rfl (cat_sum _ (by simp)) dX6_standing_14 ⟨Nat.le_refl 0, Nat.le_refl 0⟩) hg (fun r5 s4 H locs hz6 hm2 h hg => ?_)
  have hm := hm.tn hm2
  refine q_iadd hx hb dX6_standing_17 ?_
  refine lv_sipush (v := iI 500) hx hb dX6_standing_18 (by decide) ?_
  refine q_iadd hx hb dX6_standing_21 ?_
  obtain ⟨hR7, h⟩ := h
  exact ret_i hx hb hr hlocks hg hR7 hm h dX6_standing_22
theorem hdX6_countStandingsBelow : yX6_countStandingsBelow.cls ≠ "java/lang/invoke/MethodHandle" ∧ yX6_countStandingsBelow.cls ≠ "java/lang/invoke/VarHandle" ∧ (parseMethodDescriptor yX6_countStandingsBelow.desc).map (fun d => d.parameters.length) = some 1 := by decide +kernel
set_option maxRecDepth 100000 in
set_option maxHeartbeats 4000000 in
theorem ctX6_countStandingsBelow (l : Launch) (E : Ev) (x0 : Nat) (a1 : Int) (σ : SS) (Q : Int → SS → Prop) (hx0 : x0 = 15 ∨ x0 = 18) (ha1 : R32 a1) (h : wX6_countStandingsBelow x0 a1 σ Q) : Met l yX6_countStandingsBelow wsX6_countStandingsBelow ({ frames := 3, cells := 0, slots := 0, locals := 64 } : Room) (Pc E σ [.ref (ea E x0), .int (iI (a1))]) (Qi E (sz σ) σ Q) 0 0 (Av E) := by
  rw [wX6_countStandingsBelow] at h
  refine Met.ofW (cc := cX6_countStandingsBelow) (maxL := 4) (ret := (some .int)) (by decide) rfl ?_
  intro p e s m args below meth c s₁ B hml hv
  obtain ⟨rfl, hH, hK, hN⟩ := hv
  have hx := B.exec
  have hb := B.bytes
  have hr := B.returns
  have hts := atoms_spec (ws := wsX6_countStandingsBelow) B.pre
  have hown : s.vm.findClass RX6 = some m.cls := findClass_of_methodNamed B.named
  have hlocks := B.notSynchronized
  have hg : GS E σ s s.heap [] := ⟨hH, va_S.rf⟩
  have hm : Mo (sz σ) σ σ := Mo.rf (Nat.le_refl _)
  obtain ⟨hx0_0, hx0_1, hx0_2, hx0_3, hx0_4, hx0_5, hx0_6, hx0_7, hx0_8, hx0_9, hx0_10⟩ := rowF hx0
  have hl := ent (vs := [.ref (ea E x0), .int (iI (a1))]) (n := 4) (cats_x (cats_i cats_nil)) (Nat.le_of_ble_eq_true rfl)
  rw [lg_entry_eq]
  generalize (lg_sl ([.ref (ea E x0), .int (iI (a1))]) ++ List.replicate (4 - (lg_sl ([.ref (ea E x0), .int (iI (a1))])).length) Slot.unset).toArray = ls at hl ⊢
  have hl : lv_has ls 4 [(0, .ref (ea E x0)), (1, .int (iI (a1)))] := hl
  have J4 : ∀ (k : Nat), ∀ (v2 : Int) (v3 : Int) (sL : SS) (H : Heap) (locs : List Loc) (ls : Array Slot), GS E sL s H locs → Mo (sz σ) σ sL → lv_has ls 4 [(0, .ref (ea E x0)), (1, .int (iI (a1))), (2, .int (iI (v2))), (3, .int (iI (v3)))] → wX6_countStandingsBelow_L4 x0 a1 Q  k v2 v3 sL → W p l e (headSpec wsX6_countStandingsBelow ({ frames := 3, cells := 0, slots := 0, locals := 64 } : Room)).room s m (List.toArray [.ref (ea E x0), .int (iI (a1))]) below meth c H locs 0 0 (MQ below (Qi E (sz σ) σ Q) (List.toArray [.ref (ea E x0), .int (iI (a1))]) s 0 0 (Av E)) (F0 m 4 ls []) := by
    intro k
    induction k with
    | zero => intro v2 v3 sL H locs ls hg hm hl h; exact False.elim h
    | succ k ih =>
      intro v2 v3 sL H locs ls hg hm hl h
      rw [wX6_countStandingsBelow_L4] at h
      refine lv_iload_n hx hb dX6_countStandingsBelow_4 rfl (lv_at hl 3 rfl) ?_
      refine lv_aload_n hx hb dX6_countStandingsBelow_5 rfl (lv_at hl 0 rfl) ?_
      refine q_geti (ci := 6) (C := RX6) (T := TX6) (N := 3) hx hb hts (fun _ h9 => List.mem_cons_of_mem _ (List.mem_append_right _ h9)) hown hK hg x0 hx0_0 hx0_1 hx0_2 (by decide) rfl 2 (by decide) (hts (.fieldLink RX6 18 "JoinMaps$Row" "length" "I") (List.mem_cons_of_mem _ (List.mem_append_left _ (List.mem_of_getElem? (i := 0) rfl)))) rfl rfl dX6_countStandingsBelow_6 ?_
      have hR1 := GS_R hg x0 2
      obtain ⟨hR2, h⟩ := h
      refine j_ge (tgt := 30) hx hb dX6_countStandingsBelow_9 (by decide) hR2 hR1 (fun c3 => ?_) (fun c3 => ?_)
      · have h := h.1 c3
        refine lv_iload_n hx hb dX6_countStandingsBelow_30 rfl (lv_at hl 2 rfl) ?_
        obtain ⟨hR4, h⟩ := h
        exact ret_i hx hb hr hlocks hg hR4 hm h dX6_countStandingsBelow_31
      · have h := h.2 c3
        refine lv_aload_n hx hb dX6_countStandingsBelow_12 rfl (lv_at hl 0 rfl) ?_
        refine lv_iload_n hx hb dX6_countStandingsBelow_13 rfl (lv_at hl 3 rfl) ?_
        refine call_i (run_V (a := ea E x0) (As := [.int (iI (v3))]) (rest := []) ⟨hx, hb, hml, hown, hts⟩ (ctX6_standing l E x0 v3 sL _ hx0 hR2 h) (cwV 1 hts gX6_countStandingsBelow_X6_standing rfl rfl rfl ⟨rfl, hdX6_standing⟩ ⟨Nat.le_of_ble_eq_true rfl, Nat.le_of_ble_eq_true rfl⟩) hK hN hg (recv_x (ci := 6) (C := RX6) (T := TX6) (N := 3) hg hK hx0_0 hx0_1 (by decide) rfl) rfl hl.1 rfl (cat_sum _ (by simp)) dX6_countStandingsBelow_14 ⟨Nat.le_refl 0, Nat.le_refl 0⟩) hg (fun r6 s5 H locs hz7 hm2 h hg => ?_)
        have hm := hm.tn hm2
        refine lv_iload_n hx hb dX6_countStandingsBelow_17 rfl (lv_at hl 1 rfl) ?_
        refine j_ge (tgt := 24) hx hb dX6_countStandingsBelow_18 (by decide) hz7 ha1 (fun c8 => ?_) (fun c8 => ?_)
        · have h := h.1 c8
          refine lv_iinc (v := iI (v3 + 1)) (lv' := [(3, .int (iI (v3 + 1))), (0, .ref (ea E x0)), (1, .int (iI (a1))), (2, .int (iI (v2)))]) hx hb dX6_countStandingsBelow_24 hl (k := 3) rfl (iI_add _ _) (by decide) rfl (fun ls hl => ?_)
          refine lv_goto (tgt := 4) hx hb dX6_countStandingsBelow_27 (by decide) ?_
          exact ih (v2) (v3 + 1) (s5) _ _ _ hg hm (lv_sub hl [1, 2, 3, 0] rfl) h
        · have h := h.2 c8
          refine lv_iinc (v := iI (v2 + 1)) (lv' := [(2, .int (iI (v2 + 1))), (0, .ref (ea E x0)), (1, .int (iI (a1))), (3, .int (iI (v3)))]) hx hb dX6_countStandingsBelow_21 hl (k := 2) rfl (iI_add _ _) (by decide) rfl (fun ls hl => ?_)
          refine lv_iinc (v := iI (v3 + 1)) (lv' := [(3, .int (iI (v3 + 1))), (2, .int (iI (v2 + 1))), (0, .ref (ea E x0)), (1, .int (iI (a1)))]) hx hb dX6_countStandingsBelow_24 hl (k := 3) rfl (iI_add _ _) (by decide) rfl (fun ls hl => ?_)
          refine lv_goto (tgt := 4) hx hb dX6_countStandingsBelow_27 (by decide) ?_
          exact ih (v2 + 1) (v3 + 1) (s5) _ _ _ hg hm (lv_sub hl [2, 3, 1, 0] rfl) h
  refine lv_iconst (v := iI 0) hx hb dX6_countStandingsBelow_0 (by decide) ?_
  refine lv_istore_n (i := 2) (lv' := [(2, .int (iI (0))), (0, .ref (ea E x0)), (1, .int (iI (a1)))]) hx hb dX6_countStandingsBelow_1 rfl hl (by decide) rfl (fun ls hl => ?_)
  refine lv_iconst (v := iI 0) hx hb dX6_countStandingsBelow_2 (by decide) ?_
  refine lv_istore_n (i := 3) (lv' := [(3, .int (iI (0))), (2, .int (iI (0))), (0, .ref (ea E x0)), (1, .int (iI (a1)))]) hx hb dX6_countStandingsBelow_3 rfl hl (by decide) rfl (fun ls hl => ?_)
  obtain ⟨kk, h⟩ := h
  exact J4  kk (0) (0) (σ) _ _ _ hg hm (lv_sub hl [2, 3, 1, 0] rfl) h
theorem hdX6_keyOfGreatest : yX6_keyOfGreatest.cls ≠ "java/lang/invoke/MethodHandle" ∧ yX6_keyOfGreatest.cls ≠ "java/lang/invoke/VarHandle" ∧ (parseMethodDescriptor yX6_keyOfGreatest.desc).map (fun d => d.parameters.length) = some 1 := by decide +kernel
set_option maxRecDepth 100000 in
set_option maxHeartbeats 4000000 in
theorem ctX6_keyOfGreatest (l : Launch) (E : Ev) (x0 : Nat) (a1 : Int) (σ : SS) (Q : Int → SS → Prop) (hx0 : x0 = 15 ∨ x0 = 18) (ha1 : R32 a1) (h : wX6_keyOfGreatest x0 a1 σ Q) : Met l yX6_keyOfGreatest wsX6_keyOfGreatest ({ frames := 4, cells := 0, slots := 0, locals := 87 } : Room) (Pc E σ [.ref (ea E x0), .int (iI (a1))]) (Qi E (sz σ) σ Q) 0 0 (Av E) := by
  rw [wX6_keyOfGreatest] at h
  refine Met.ofW (cc := cX6_keyOfGreatest) (maxL := 5) (ret := (some .int)) (by decide) rfl ?_
  intro p e s m args below meth c s₁ B hml hv
  obtain ⟨rfl, hH, hK, hN⟩ := hv
  have hx := B.exec
  have hb := B.bytes
  have hr := B.returns
  have hts := atoms_spec (ws := wsX6_keyOfGreatest) B.pre
  have hown : s.vm.findClass RX6 = some m.cls := findClass_of_methodNamed B.named
  have hlocks := B.notSynchronized
  have hg : GS E σ s s.heap [] := ⟨hH, va_S.rf⟩
  have hm : Mo (sz σ) σ σ := Mo.rf (Nat.le_refl _)
  obtain ⟨hx0_0, hx0_1, hx0_2, hx0_3, hx0_4, hx0_5, hx0_6, hx0_7, hx0_8, hx0_9, hx0_10⟩ := rowF hx0
  have hl := ent (vs := [.ref (ea E x0), .int (iI (a1))]) (n := 5) (cats_x (cats_i cats_nil)) (Nat.le_of_ble_eq_true rfl)
  rw [lg_entry_eq]
  generalize (lg_sl ([.ref (ea E x0), .int (iI (a1))]) ++ List.replicate (5 - (lg_sl ([.ref (ea E x0), .int (iI (a1))])).length) Slot.unset).toArray = ls at hl ⊢
  have hl : lv_has ls 5 [(0, .ref (ea E x0)), (1, .int (iI (a1)))] := hl
  have J5 : ∀ (k : Nat), ∀ (v2 : Int) (v3 : Int) (sL : SS) (H : Heap) (locs : List Loc) (ls : Array Slot), GS E sL s H locs → Mo (sz σ) σ sL → lv_has ls 5 [(0, .ref (ea E x0)), (1, .int (iI (a1))), (2, .int (iI (v2))), (3, .int (iI (v3)))] → wX6_keyOfGreatest_L5 x0 a1 Q  k v2 v3 sL → W p l e (headSpec wsX6_keyOfGreatest ({ frames := 4, cells := 0, slots := 0, locals := 87 } : Room)).room s m (List.toArray [.ref (ea E x0), .int (iI (a1))]) below meth c H locs 0 0 (MQ below (Qi E (sz σ) σ Q) (List.toArray [.ref (ea E x0), .int (iI (a1))]) s 0 0 (Av E)) (F0 m 5 ls []) := by
    intro k
    induction k with
    | zero => intro v2 v3 sL H locs ls hg hm hl h; exact False.elim h
    | succ k ih =>
      intro v2 v3 sL H locs ls hg hm hl h
      rw [wX6_keyOfGreatest_L5] at h
      refine lv_iload_n hx hb dX6_keyOfGreatest_5 rfl (lv_at hl 3 rfl) ?_
      obtain ⟨hR1, h⟩ := h
      refine k_lt (tgt := 35) hx hb dX6_keyOfGreatest_6 (by decide) hR1 (fun c2 => ?_) (fun c2 => ?_)
      · have h := h.1 c2
        refine lv_iload_n hx hb dX6_keyOfGreatest_35 rfl (lv_at hl 2 rfl) ?_
        refine lv_sipush (v := iI 1001) hx hb dX6_keyOfGreatest_36 (by decide) ?_
        obtain ⟨hR3, h⟩ := h
        refine q_irem hx hb hR3 (by decide) (by decide) dX6_keyOfGreatest_39 ?_
        refine lv_sipush (v := iI 500) hx hb dX6_keyOfGreatest_40 (by decide) ?_
        refine q_isub hx hb dX6_keyOfGreatest_43 ?_
        obtain ⟨hR4, h⟩ := h
        exact ret_i hx hb hr hlocks hg hR4 hm h dX6_keyOfGreatest_44
      · have h := h.2 c2
        refine lv_iload_n hx hb dX6_keyOfGreatest_9 rfl (lv_at hl 2 rfl) ?_
        refine lv_iconst (v := iI 1) hx hb dX6_keyOfGreatest_10 (by decide) ?_
        refine lv_iload_n hx hb dX6_keyOfGreatest_11 rfl (lv_at hl 3 rfl) ?_
        obtain ⟨hP5, hP6, hP7, h⟩ := h
        refine q_ishl hx hb hP5 hP6 hP7 dX6_keyOfGreatest_12 ?_
        obtain ⟨hP8, hP9, h⟩ := h
        refine q_ior hx hb hP8 hP9 dX6_keyOfGreatest_13 ?_
        refine lv_istore (i := 4) (lv' := [(4, .int (iI ((((v2 : Int).toNat ||| (((1 : Int) * 2 ^ (v3 : Int).toNat) : Int).toNat : Nat) : Int)))), (0, .ref (ea E x0)), (1, .int (iI (a1))), (2, .int (iI (v2))), (3, .int (iI (v3)))]) hx hb dX6_keyOfGreatest_14 hl (by decide) rfl (fun ls hl => ?_)
        refine lv_aload_n hx hb dX6_keyOfGreatest_16 rfl (lv_at hl 1 rfl) ?_
        refine lv_iload hx hb dX6_keyOfGreatest_17 (lv_at hl 0 rfl) ?_
        obtain ⟨hR10, h⟩ := h
        refine call_i (run_V (a := ea E x0) (As := [.int (iI ((((v2 : Int).toNat ||| (((1 : Int) * 2 ^ (v3 : Int).toNat) : Int).toNat : Nat) : Int)))]) (rest := []) ⟨hx, hb, hml, hown, hts⟩ (ctX6_countStandingsBelow l E x0 (((v2 : Int).toNat ||| (((1 : Int) * 2 ^ (v3 : Int).toNat) : Int).toNat : Nat) : Int) sL _ hx0 hR10 h) (cwV 1 hts gX6_keyOfGreatest_X6_countStandingsBelow rfl rfl rfl ⟨rfl, hdX6_countStandingsBelow⟩ ⟨Nat.le_of_ble_eq_true rfl, Nat.le_of_ble_eq_true rfl⟩) hK hN hg (recv_x (ci := 6) (C := RX6) (T := TX6) (N := 3) hg hK hx0_0 hx0_1 (by decide) rfl) rfl hl.1 rfl (cat_sum _ (by simp)) dX6_keyOfGreatest_19 ⟨Nat.le_refl 0, Nat.le_refl 0⟩) hg (fun r12 s11 H locs hz13 hm2 h hg => ?_)
        have hm := hm.tn hm2
        refine lv_iload_n hx hb dX6_keyOfGreatest_22 rfl (lv_at hl 2 rfl) ?_
        refine j_gt (tgt := 29) hx hb dX6_keyOfGreatest_23 (by decide) hz13 ha1 (fun c14 => ?_) (fun c14 => ?_)
        · have h := h.1 c14
          refine lv_iinc (v := iI (v3 + (-1))) (lv' := [(3, .int (iI (v3 + (-1)))), (4, .int (iI ((((v2 : Int).toNat ||| (((1 : Int) * 2 ^ (v3 : Int).toNat) : Int).toNat : Nat) : Int)))), (0, .ref (ea E x0)), (1, .int (iI (a1))), (2, .int (iI (v2)))]) hx hb dX6_keyOfGreatest_29 hl (k := 4) rfl (iI_add _ _) (by decide) rfl (fun ls hl => ?_)
          refine lv_goto (tgt := 5) hx hb dX6_keyOfGreatest_32 (by decide) ?_
          exact ih (v2) (v3 + (-1)) (s11) _ _ _ hg hm (lv_sub hl [2, 3, 4, 0] rfl) h
        · have h := h.2 c14
          refine lv_iload hx hb dX6_keyOfGreatest_26 (lv_at hl 0 rfl) ?_
          refine lv_istore_n (i := 2) (lv' := [(2, .int (iI ((((v2 : Int).toNat ||| (((1 : Int) * 2 ^ (v3 : Int).toNat) : Int).toNat : Nat) : Int)))), (4, .int (iI ((((v2 : Int).toNat ||| (((1 : Int) * 2 ^ (v3 : Int).toNat) : Int).toNat : Nat) : Int)))), (0, .ref (ea E x0)), (1, .int (iI (a1))), (3, .int (iI (v3)))]) hx hb dX6_keyOfGreatest_28 rfl hl (by decide) rfl (fun ls hl => ?_)
          refine lv_iinc (v := iI (v3 + (-1))) (lv' := [(3, .int (iI (v3 + (-1)))), (2, .int (iI ((((v2 : Int).toNat ||| (((1 : Int) * 2 ^ (v3 : Int).toNat) : Int).toNat : Nat) : Int)))), (4, .int (iI ((((v2 : Int).toNat ||| (((1 : Int) * 2 ^ (v3 : Int).toNat) : Int).toNat : Nat) : Int)))), (0, .ref (ea E x0)), (1, .int (iI (a1)))]) hx hb dX6_keyOfGreatest_29 hl (k := 4) rfl (iI_add _ _) (by decide) rfl (fun ls hl => ?_)
          refine lv_goto (tgt := 5) hx hb dX6_keyOfGreatest_32 (by decide) ?_
          exact ih ((((v2 : Int).toNat ||| (((1 : Int) * 2 ^ (v3 : Int).toNat) : Int).toNat : Nat) : Int)) (v3 + (-1)) (s11) _ _ _ hg hm (lv_sub hl [3, 4, 1, 0] rfl) h
  refine lv_iconst (v := iI 0) hx hb dX6_keyOfGreatest_0 (by decide) ?_
  refine lv_istore_n (i := 2) (lv' := [(2, .int (iI (0))), (0, .ref (ea E x0)), (1, .int (iI (a1)))]) hx hb dX6_keyOfGreatest_1 rfl hl (by decide) rfl (fun ls hl => ?_)
  refine lv_bipush (v := iI 30) hx hb dX6_keyOfGreatest_2 (by decide) ?_
  refine lv_istore_n (i := 3) (lv' := [(3, .int (iI (30))), (2, .int (iI (0))), (0, .ref (ea E x0)), (1, .int (iI (a1)))]) hx hb dX6_keyOfGreatest_4 rfl hl (by decide) rfl (fun ls hl => ?_)
  obtain ⟨kk, h⟩ := h
  exact J5  kk (0) (30) (σ) _ _ _ hg hm (lv_sub hl [2, 3, 1, 0] rfl) h
theorem hdX7_leave : yX7_leave.cls ≠ "java/lang/invoke/MethodHandle" ∧ yX7_leave.cls ≠ "java/lang/invoke/VarHandle" ∧ (parseMethodDescriptor yX7_leave.desc).map (fun d => d.parameters.length) = some 1 := by decide +kernel
set_option maxRecDepth 100000 in
set_option maxHeartbeats 4000000 in
theorem ctX7_leave (l : Launch) (E : Ev)  (σ : SS) (Q : SS → Prop)  (h : wX7_leave  σ Q) : Met l yX7_leave wsX7_leave ({ frames := 1, cells := 0, slots := 0, locals := 21 } : Room) (Pc E σ [.ref (ea E 4), .ref (ea E 3)]) (Qv E (sz σ) σ Q) 0 0 (Av E) := by
  rw [wX7_leave] at h
  refine Met.ofW (cc := cX7_leave) (maxL := 3) (ret := none) (by decide) rfl ?_
  intro p e s m args below meth c s₁ B hml hv
  obtain ⟨rfl, hH, hK, hN⟩ := hv
  have hx := B.exec
  have hb := B.bytes
  have hr := B.returns
  have hts := atoms_spec (ws := wsX7_leave) B.pre
  have hown : s.vm.findClass RX7 = some m.cls := findClass_of_methodNamed B.named
  have hlocks := B.notSynchronized
  have hg : GS E σ s s.heap [] := ⟨hH, va_S.rf⟩
  have hm : Mo (sz σ) σ σ := Mo.rf (Nat.le_refl _)
  have hl := ent (vs := [.ref (ea E 4), .ref (ea E 3)]) (n := 3) (cats_x (cats_x cats_nil)) (Nat.le_of_ble_eq_true rfl)
  rw [lg_entry_eq]
  generalize (lg_sl ([.ref (ea E 4), .ref (ea E 3)]) ++ List.replicate (3 - (lg_sl ([.ref (ea E 4), .ref (ea E 3)])).length) Slot.unset).toArray = ls at hl ⊢
  have hl : lv_has ls 3 [(0, .ref (ea E 4)), (1, .ref (ea E 3))] := hl
  have J2 : ∀ (k : Nat), ∀ (v2 : Int) (sL : SS) (H : Heap) (locs : List Loc) (ls : Array Slot), GS E sL s H locs → Mo (sz σ) σ sL → lv_has ls 3 [(0, .ref (ea E 4)), (1, .ref (ea E 3)), (2, .int (iI (v2)))] → wX7_leave_L2  Q  k v2 sL → W p l e (headSpec wsX7_leave ({ frames := 1, cells := 0, slots := 0, locals := 21 } : Room)).room s m (List.toArray [.ref (ea E 4), .ref (ea E 3)]) below meth c H locs 0 0 (MQ below (Qv E (sz σ) σ Q) (List.toArray [.ref (ea E 4), .ref (ea E 3)]) s 0 0 (Av E)) (F0 m 2 ls []) := by
    intro k
    induction k with
    | zero => intro v2 sL H locs ls hg hm hl h; exact False.elim h
    | succ k ih =>
      intro v2 sL H locs ls hg hm hl h
      rw [wX7_leave_L2] at h
      refine lv_iload_n hx hb dX7_leave_2 rfl (lv_at hl 2 rfl) ?_
      refine lv_bipush (v := iI 6) hx hb dX7_leave_3 (by decide) ?_
      obtain ⟨hR1, h⟩ := h
      refine j_ge (tgt := 31) hx hb dX7_leave_5 (by decide) hR1 (by decide) (fun c2 => ?_) (fun c2 => ?_)
      · have h := h.1 c2
        refine lv_aload_n hx hb dX7_leave_31 rfl (lv_at hl 0 rfl) ?_
        refine lv_aload_n hx hb dX7_leave_32 rfl (lv_at hl 0 rfl) ?_
        refine q_geti (ci := 7) (C := RX7) (T := TX7) (N := 3) hx hb hts (fun _ h9 => List.mem_cons_of_mem _ (List.mem_append_right _ h9)) hown hK hg 4 (by decide) rfl rfl (by decide) rfl 2 (by decide) (hts (.fieldLink RX7 17 "JoinMaps$Versions" "next" "I") (List.mem_cons_of_mem _ (List.mem_append_left _ (List.mem_of_getElem? (i := 1) rfl)))) rfl rfl dX7_leave_33 ?_
        have hR3 := GS_R hg 4 2
        refine lv_iconst (v := iI 1) hx hb dX7_leave_36 (by decide) ?_
        refine q_iadd hx hb dX7_leave_37 ?_
        refine lv_bipush (v := iI 12) hx hb dX7_leave_38 (by decide) ?_
        obtain ⟨hR4, h⟩ := h
        refine q_irem hx hb hR4 (by decide) (by decide) dX7_leave_40 ?_
        obtain ⟨hR5, h⟩ := h
        refine q_puti (ci := 7) (C := RX7) (T := TX7) (N := 3) hx hb hts (fun _ h9 => List.mem_cons_of_mem _ (List.mem_append_right _ h9)) tyX7 tyX7_ok nmX7 hown hK hg 4 (by decide) rfl rfl (by decide) rfl 2 (by decide) (hts (.fieldLink RX7 17 "JoinMaps$Versions" "next" "I") (List.mem_cons_of_mem _ (List.mem_append_left _ (List.mem_of_getElem? (i := 1) rfl)))) rfl rfl (by decide +kernel) rfl hR5 dX7_leave_41 (fun H locs hg => ?_)
        refine lv_aload_n hx hb dX7_leave_44 rfl (lv_at hl 0 rfl) ?_
        refine lv_aload_n hx hb dX7_leave_45 rfl (lv_at hl 0 rfl) ?_
        refine q_geti (ci := 7) (C := RX7) (T := TX7) (N := 3) hx hb hts (fun _ h9 => List.mem_cons_of_mem _ (List.mem_append_right _ h9)) hown hK hg 4 (by decide) rfl rfl (by decide) rfl 1 (by decide) (hts (.fieldLink RX7 21 "JoinMaps$Versions" "count" "I") (List.mem_cons_of_mem _ (List.mem_append_left _ (List.mem_of_getElem? (i := 2) rfl)))) rfl rfl dX7_leave_46 ?_
        have hR6 := GS_R hg 4 1
        refine lv_iconst (v := iI 1) hx hb dX7_leave_49 (by decide) ?_
        refine q_iadd hx hb dX7_leave_50 ?_
        refine lv_bipush (v := iI 12) hx hb dX7_leave_51 (by decide) ?_
        obtain ⟨hR7, h⟩ := h
        refine q_min hx hb (by rw [hml]; exact hl.1.symm) hown (hts (.methodLink RX7 24 Lib.Math.min.name) (List.mem_cons_of_mem _ (List.mem_append_left _ (List.mem_of_getElem? (i := 3) rfl)))) (hts (.static Lib.Math.min.name) (List.mem_cons_of_mem _ (List.mem_append_left _ (List.mem_of_getElem? (i := 4) rfl)))) (hts (.initialized "java/lang/Math") (List.mem_cons_of_mem _ (List.mem_append_left _ (List.mem_of_getElem? (i := 5) rfl)))) (hts (.code Lib.Math.min.name Lib.Math.min.code 2 (some .int)) (List.mem_cons_of_mem _ (List.mem_append_left _ (List.mem_of_getElem? (i := 6) rfl)))) (Nat.le_of_ble_eq_true rfl) (by simp) (Nat.le_of_ble_eq_true rfl) (Nat.le_refl 0) (Nat.le_refl 0) hR7 (by decide) dX7_leave_53 ?_
        have hR8 : R32 (min ((sn (un sL 4 2 ((Int.tmod (((sn sL 4 2) + 1)) 12))) 4 1) + 1) 12) := by have q1 : R32 ((sn (un sL 4 2 ((Int.tmod (((sn sL 4 2) + 1)) 12))) 4 1) + 1) := hR7; have q2 : R32 12 := (by decide); omega
        refine q_puti (ci := 7) (C := RX7) (T := TX7) (N := 3) hx hb hts (fun _ h9 => List.mem_cons_of_mem _ (List.mem_append_right _ h9)) tyX7 tyX7_ok nmX7 hown hK hg 4 (by decide) rfl rfl (by decide) rfl 1 (by decide) (hts (.fieldLink RX7 21 "JoinMaps$Versions" "count" "I") (List.mem_cons_of_mem _ (List.mem_append_left _ (List.mem_of_getElem? (i := 2) rfl)))) rfl rfl (by decide +kernel) rfl hR8 dX7_leave_56 (fun H locs hg => ?_)
        exact ret_v hx hb hr hlocks hg hm h dX7_leave_59
      · have h := h.2 c2
        refine lv_aload_n hx hb dX7_leave_8 rfl (lv_at hl 0 rfl) ?_
        refine q_getx (ci := 7) (C := RX7) (T := TX7) (N := 3) (j := 5) hx hb hts (fun _ h9 => List.mem_cons_of_mem _ (List.mem_append_right _ h9)) hown hK hg 4 (by decide) rfl rfl (by decide) rfl 0 (by decide) (hts (.fieldLink RX7 11 "JoinMaps$Versions" "roots" "[LJoinMaps$Node;") (List.mem_cons_of_mem _ (List.mem_append_left _ (List.mem_of_getElem? (i := 0) rfl)))) rfl rfl rfl dX7_leave_9 ?_
        refine lv_aload_n hx hb dX7_leave_12 rfl (lv_at hl 0 rfl) ?_
        refine q_geti (ci := 7) (C := RX7) (T := TX7) (N := 3) hx hb hts (fun _ h9 => List.mem_cons_of_mem _ (List.mem_append_right _ h9)) hown hK hg 4 (by decide) rfl rfl (by decide) rfl 2 (by decide) (hts (.fieldLink RX7 17 "JoinMaps$Versions" "next" "I") (List.mem_cons_of_mem _ (List.mem_append_left _ (List.mem_of_getElem? (i := 1) rfl)))) rfl rfl dX7_leave_13 ?_
        have hR9 := GS_R hg 4 2
        refine lv_bipush (v := iI 6) hx hb dX7_leave_16 (by decide) ?_
        refine q_imul hx hb dX7_leave_18 ?_
        refine lv_iload_n hx hb dX7_leave_19 rfl (lv_at hl 2 rfl) ?_
        refine q_iadd hx hb dX7_leave_20 ?_
        refine lv_aload_n hx hb dX7_leave_21 rfl (lv_at hl 1 rfl) ?_
        refine lv_iload_n hx hb dX7_leave_22 rfl (lv_at hl 2 rfl) ?_
        obtain ⟨hP10, hP11, h⟩ := h
        refine q_aald (N := 6) hx hb hK hg 3 (by decide) rfl rfl hP10 hP11 (by decide) dX7_leave_23 ?_
        have hS12 : ∀ b, (sf sL 3 (v2 : Int).toNat) = some b → sS sL b := fun b h0 => GS_F hg h0
        obtain ⟨hP13, hP14, h⟩ := h
        refine q_aast (N := 72) hx hb hK hg 5 (by decide) rfl rfl hP13 hP14 (by decide) hS12 dX7_leave_24 (fun H locs hg => ?_)
        refine lv_iinc (v := iI (v2 + 1)) (lv' := [(2, .int (iI (v2 + 1))), (0, .ref (ea E 4)), (1, .ref (ea E 3))]) hx hb dX7_leave_25 hl (k := 2) rfl (iI_add _ _) (by decide) rfl (fun ls hl => ?_)
        refine lv_goto (tgt := 2) hx hb dX7_leave_28 (by decide) ?_
        exact ih (v2 + 1) (uf sL 5 ((((sn sL 4 2) * 6) + v2) : Int).toNat ((sf sL 3 (v2 : Int).toNat))) _ _ _ hg hm (lv_sub hl [1, 2, 0] rfl) h
  refine lv_iconst (v := iI 0) hx hb dX7_leave_0 (by decide) ?_
  refine lv_istore_n (i := 2) (lv' := [(2, .int (iI (0))), (0, .ref (ea E 4)), (1, .ref (ea E 3))]) hx hb dX7_leave_1 rfl hl (by decide) rfl (fun ls hl => ?_)
  obtain ⟨kk, h⟩ := h
  exact J2  kk (0) (σ) _ _ _ hg hm (lv_sub hl [1, 2, 0] rfl) h
theorem hdX7_bringLast : yX7_bringLast.cls ≠ "java/lang/invoke/MethodHandle" ∧ yX7_bringLast.cls ≠ "java/lang/invoke/VarHandle" ∧ (parseMethodDescriptor yX7_bringLast.desc).map (fun d => d.parameters.length) = some 1 := by decide +kernel
set_option maxRecDepth 100000 in
set_option maxHeartbeats 4000000 in
theorem ctX7_bringLast (l : Launch) (E : Ev)  (σ : SS) (Q : SS → Prop)  (h : wX7_bringLast  σ Q) : Met l yX7_bringLast wsX7_bringLast ({ frames := 1, cells := 0, slots := 0, locals := 21 } : Room) (Pc E σ [.ref (ea E 4), .ref (ea E 3)]) (Qv E (sz σ) σ Q) 0 0 (Av E) := by
  rw [wX7_bringLast] at h
  refine Met.ofW (cc := cX7_bringLast) (maxL := 3) (ret := none) (by decide) rfl ?_
  intro p e s m args below meth c s₁ B hml hv
  obtain ⟨rfl, hH, hK, hN⟩ := hv
  have hx := B.exec
  have hb := B.bytes
  have hr := B.returns
  have hts := atoms_spec (ws := wsX7_bringLast) B.pre
  have hown : s.vm.findClass RX7 = some m.cls := findClass_of_methodNamed B.named
  have hlocks := B.notSynchronized
  have hg : GS E σ s s.heap [] := ⟨hH, va_S.rf⟩
  have hm : Mo (sz σ) σ σ := Mo.rf (Nat.le_refl _)
  have hl := ent (vs := [.ref (ea E 4), .ref (ea E 3)]) (n := 3) (cats_x (cats_x cats_nil)) (Nat.le_of_ble_eq_true rfl)
  rw [lg_entry_eq]
  generalize (lg_sl ([.ref (ea E 4), .ref (ea E 3)]) ++ List.replicate (3 - (lg_sl ([.ref (ea E 4), .ref (ea E 3)])).length) Slot.unset).toArray = ls at hl ⊢
  have hl : lv_has ls 3 [(0, .ref (ea E 4)), (1, .ref (ea E 3))] := hl
  have J32 : ∀ (k : Nat), ∀ (v2 : Int) (sL : SS) (H : Heap) (locs : List Loc) (ls : Array Slot), GS E sL s H locs → Mo (sz σ) σ sL → lv_has ls 3 [(0, .ref (ea E 4)), (1, .ref (ea E 3)), (2, .int (iI (v2)))] → wX7_bringLast_L32  Q  k v2 sL → W p l e (headSpec wsX7_bringLast ({ frames := 1, cells := 0, slots := 0, locals := 21 } : Room)).room s m (List.toArray [.ref (ea E 4), .ref (ea E 3)]) below meth c H locs 0 0 (MQ below (Qv E (sz σ) σ Q) (List.toArray [.ref (ea E 4), .ref (ea E 3)]) s 0 0 (Av E)) (F0 m 32 ls []) := by
    intro k
    induction k with
    | zero => intro v2 sL H locs ls hg hm hl h; exact False.elim h
    | succ k ih =>
      intro v2 sL H locs ls hg hm hl h
      rw [wX7_bringLast_L32] at h
      refine lv_iload_n hx hb dX7_bringLast_32 rfl (lv_at hl 2 rfl) ?_
      refine lv_bipush (v := iI 6) hx hb dX7_bringLast_33 (by decide) ?_
      obtain ⟨hR7, h⟩ := h
      refine j_ge (tgt := 76) hx hb dX7_bringLast_35 (by decide) hR7 (by decide) (fun c8 => ?_) (fun c8 => ?_)
      · have h := h.1 c8
        exact ret_v hx hb hr hlocks hg hm h dX7_bringLast_76
      · have h := h.2 c8
        refine lv_aload_n hx hb dX7_bringLast_38 rfl (lv_at hl 1 rfl) ?_
        refine lv_iload_n hx hb dX7_bringLast_39 rfl (lv_at hl 2 rfl) ?_
        refine lv_aload_n hx hb dX7_bringLast_40 rfl (lv_at hl 0 rfl) ?_
        refine q_getx (ci := 7) (C := RX7) (T := TX7) (N := 3) (j := 5) hx hb hts (fun _ h9 => List.mem_cons_of_mem _ (List.mem_append_right _ h9)) hown hK hg 4 (by decide) rfl rfl (by decide) rfl 0 (by decide) (hts (.fieldLink RX7 11 "JoinMaps$Versions" "roots" "[LJoinMaps$Node;") (List.mem_cons_of_mem _ (List.mem_append_left _ (List.mem_of_getElem? (i := 6) rfl)))) rfl rfl rfl dX7_bringLast_41 ?_
        refine lv_aload_n hx hb dX7_bringLast_44 rfl (lv_at hl 0 rfl) ?_
        refine q_geti (ci := 7) (C := RX7) (T := TX7) (N := 3) hx hb hts (fun _ h9 => List.mem_cons_of_mem _ (List.mem_append_right _ h9)) hown hK hg 4 (by decide) rfl rfl (by decide) rfl 2 (by decide) (hts (.fieldLink RX7 17 "JoinMaps$Versions" "next" "I") (List.mem_cons_of_mem _ (List.mem_append_left _ (List.mem_of_getElem? (i := 0) rfl)))) rfl rfl dX7_bringLast_45 ?_
        have hR9 := GS_R hg 4 2
        refine lv_bipush (v := iI 6) hx hb dX7_bringLast_48 (by decide) ?_
        refine q_imul hx hb dX7_bringLast_50 ?_
        refine lv_iload_n hx hb dX7_bringLast_51 rfl (lv_at hl 2 rfl) ?_
        refine q_iadd hx hb dX7_bringLast_52 ?_
        obtain ⟨hP10, hP11, h⟩ := h
        refine q_aald (N := 72) hx hb hK hg 5 (by decide) rfl rfl hP10 hP11 (by decide) dX7_bringLast_53 ?_
        have hS12 : ∀ b, (sf sL 5 ((((sn sL 4 2) * 6) + v2) : Int).toNat) = some b → sS sL b := fun b h0 => GS_F hg h0
        obtain ⟨hP13, hP14, h⟩ := h
        refine q_aast (N := 6) hx hb hK hg 3 (by decide) rfl rfl hP13 hP14 (by decide) hS12 dX7_bringLast_54 (fun H locs hg => ?_)
        refine lv_aload_n hx hb dX7_bringLast_55 rfl (lv_at hl 0 rfl) ?_
        refine q_getx (ci := 7) (C := RX7) (T := TX7) (N := 3) (j := 5) hx hb hts (fun _ h9 => List.mem_cons_of_mem _ (List.mem_append_right _ h9)) hown hK hg 4 (by decide) rfl rfl (by decide) rfl 0 (by decide) (hts (.fieldLink RX7 11 "JoinMaps$Versions" "roots" "[LJoinMaps$Node;") (List.mem_cons_of_mem _ (List.mem_append_left _ (List.mem_of_getElem? (i := 6) rfl)))) rfl rfl rfl dX7_bringLast_56 ?_
        refine lv_aload_n hx hb dX7_bringLast_59 rfl (lv_at hl 0 rfl) ?_
        refine q_geti (ci := 7) (C := RX7) (T := TX7) (N := 3) hx hb hts (fun _ h9 => List.mem_cons_of_mem _ (List.mem_append_right _ h9)) hown hK hg 4 (by decide) rfl rfl (by decide) rfl 2 (by decide) (hts (.fieldLink RX7 17 "JoinMaps$Versions" "next" "I") (List.mem_cons_of_mem _ (List.mem_append_left _ (List.mem_of_getElem? (i := 0) rfl)))) rfl rfl dX7_bringLast_60 ?_
        have hR15 := GS_R hg 4 2
        refine lv_bipush (v := iI 6) hx hb dX7_bringLast_63 (by decide) ?_
        refine q_imul hx hb dX7_bringLast_65 ?_
        refine lv_iload_n hx hb dX7_bringLast_66 rfl (lv_at hl 2 rfl) ?_
        refine q_iadd hx hb dX7_bringLast_67 ?_
        refine q_null hx hb dX7_bringLast_68 ?_
        obtain ⟨hP16, hP17, h⟩ := h
        refine q_aast (N := 72) hx hb hK hg 5 (by decide) rfl rfl hP16 hP17 (by decide) (fun b h0 => by cases h0) dX7_bringLast_69 (fun H locs hg => ?_)
        refine lv_iinc (v := iI (v2 + 1)) (lv' := [(2, .int (iI (v2 + 1))), (0, .ref (ea E 4)), (1, .ref (ea E 3))]) hx hb dX7_bringLast_70 hl (k := 2) rfl (iI_add _ _) (by decide) rfl (fun ls hl => ?_)
        refine lv_goto (tgt := 32) hx hb dX7_bringLast_73 (by decide) ?_
        exact ih (v2 + 1) (uf (uf sL 3 (v2 : Int).toNat ((sf sL 5 ((((sn sL 4 2) * 6) + v2) : Int).toNat))) 5 ((((sn (uf sL 3 (v2 : Int).toNat ((sf sL 5 ((((sn sL 4 2) * 6) + v2) : Int).toNat))) 4 2) * 6) + v2) : Int).toNat (none)) _ _ _ hg hm (lv_sub hl [1, 2, 0] rfl) h
  refine lv_aload_n hx hb dX7_bringLast_0 rfl (lv_at hl 0 rfl) ?_
  refine lv_aload_n hx hb dX7_bringLast_1 rfl (lv_at hl 0 rfl) ?_
  refine q_geti (ci := 7) (C := RX7) (T := TX7) (N := 3) hx hb hts (fun _ h9 => List.mem_cons_of_mem _ (List.mem_append_right _ h9)) hown hK hg 4 (by decide) rfl rfl (by decide) rfl 2 (by decide) (hts (.fieldLink RX7 17 "JoinMaps$Versions" "next" "I") (List.mem_cons_of_mem _ (List.mem_append_left _ (List.mem_of_getElem? (i := 0) rfl)))) rfl rfl dX7_bringLast_2 ?_
  have hR1 := GS_R hg 4 2
  refine lv_bipush (v := iI 12) hx hb dX7_bringLast_5 (by decide) ?_
  refine q_iadd hx hb dX7_bringLast_7 ?_
  refine lv_iconst (v := iI 1) hx hb dX7_bringLast_8 (by decide) ?_
  refine q_isub hx hb dX7_bringLast_9 ?_
  refine lv_bipush (v := iI 12) hx hb dX7_bringLast_10 (by decide) ?_
  obtain ⟨hR2, h⟩ := h
  refine q_irem hx hb hR2 (by decide) (by decide) dX7_bringLast_12 ?_
  obtain ⟨hR3, h⟩ := h
  refine q_puti (ci := 7) (C := RX7) (T := TX7) (N := 3) hx hb hts (fun _ h9 => List.mem_cons_of_mem _ (List.mem_append_right _ h9)) tyX7 tyX7_ok nmX7 hown hK hg 4 (by decide) rfl rfl (by decide) rfl 2 (by decide) (hts (.fieldLink RX7 17 "JoinMaps$Versions" "next" "I") (List.mem_cons_of_mem _ (List.mem_append_left _ (List.mem_of_getElem? (i := 0) rfl)))) rfl rfl (by decide +kernel) rfl hR3 dX7_bringLast_13 (fun H locs hg => ?_)
  refine lv_aload_n hx hb dX7_bringLast_16 rfl (lv_at hl 0 rfl) ?_
  refine lv_aload_n hx hb dX7_bringLast_17 rfl (lv_at hl 0 rfl) ?_
  refine q_geti (ci := 7) (C := RX7) (T := TX7) (N := 3) hx hb hts (fun _ h9 => List.mem_cons_of_mem _ (List.mem_append_right _ h9)) hown hK hg 4 (by decide) rfl rfl (by decide) rfl 1 (by decide) (hts (.fieldLink RX7 21 "JoinMaps$Versions" "count" "I") (List.mem_cons_of_mem _ (List.mem_append_left _ (List.mem_of_getElem? (i := 1) rfl)))) rfl rfl dX7_bringLast_18 ?_
  have hR4 := GS_R hg 4 1
  refine lv_iconst (v := iI 1) hx hb dX7_bringLast_21 (by decide) ?_
  refine q_isub hx hb dX7_bringLast_22 ?_
  refine lv_iconst (v := iI 0) hx hb dX7_bringLast_23 (by decide) ?_
  obtain ⟨hR5, h⟩ := h
  refine q_max hx hb (by rw [hml]; exact hl.1.symm) hown (hts (.methodLink RX7 30 Lib.Math.max.name) (List.mem_cons_of_mem _ (List.mem_append_left _ (List.mem_of_getElem? (i := 2) rfl)))) (hts (.static Lib.Math.max.name) (List.mem_cons_of_mem _ (List.mem_append_left _ (List.mem_of_getElem? (i := 3) rfl)))) (hts (.initialized "java/lang/Math") (List.mem_cons_of_mem _ (List.mem_append_left _ (List.mem_of_getElem? (i := 4) rfl)))) (hts (.code Lib.Math.max.name Lib.Math.max.code 2 (some .int)) (List.mem_cons_of_mem _ (List.mem_append_left _ (List.mem_of_getElem? (i := 5) rfl)))) (Nat.le_of_ble_eq_true rfl) (by simp) (Nat.le_of_ble_eq_true rfl) (Nat.le_refl 0) (Nat.le_refl 0) hR5 (by decide) dX7_bringLast_24 ?_
  have hR6 : R32 (max ((sn (un σ 4 2 ((Int.tmod ((((sn σ 4 2) + 12) - 1)) 12))) 4 1) - 1) 0) := by have q1 : R32 ((sn (un σ 4 2 ((Int.tmod ((((sn σ 4 2) + 12) - 1)) 12))) 4 1) - 1) := hR5; have q2 : R32 0 := (by decide); omega
  refine q_puti (ci := 7) (C := RX7) (T := TX7) (N := 3) hx hb hts (fun _ h9 => List.mem_cons_of_mem _ (List.mem_append_right _ h9)) tyX7 tyX7_ok nmX7 hown hK hg 4 (by decide) rfl rfl (by decide) rfl 1 (by decide) (hts (.fieldLink RX7 21 "JoinMaps$Versions" "count" "I") (List.mem_cons_of_mem _ (List.mem_append_left _ (List.mem_of_getElem? (i := 1) rfl)))) rfl rfl (by decide +kernel) rfl hR6 dX7_bringLast_27 (fun H locs hg => ?_)
  refine lv_iconst (v := iI 0) hx hb dX7_bringLast_30 (by decide) ?_
  refine lv_istore_n (i := 2) (lv' := [(2, .int (iI (0))), (0, .ref (ea E 4)), (1, .ref (ea E 3))]) hx hb dX7_bringLast_31 rfl hl (by decide) rfl (fun ls hl => ?_)
  obtain ⟨kk, h⟩ := h
  exact J32  kk (0) (un (un σ 4 2 ((Int.tmod ((((sn σ 4 2) + 12) - 1)) 12))) 4 1 ((max ((sn (un σ 4 2 ((Int.tmod ((((sn σ 4 2) + 12) - 1)) 12))) 4 1) - 1) 0))) _ _ _ hg hm (lv_sub hl [1, 2, 0] rfl) h
theorem hdX8_bad : yX8_bad.cls ≠ "java/lang/invoke/MethodHandle" ∧ yX8_bad.cls ≠ "java/lang/invoke/VarHandle" ∧ (parseMethodDescriptor yX8_bad.desc).map (fun d => d.parameters.length) = some 0 := by decide +kernel
set_option maxRecDepth 100000 in
set_option maxHeartbeats 4000000 in
theorem ctX8_bad (l : Launch) (E : Ev)  (σ : SS) (Q : Int → SS → Prop)  (h : wX8_bad  σ Q) : Met l yX8_bad wsX8_bad ({ frames := 0, cells := 0, slots := 0, locals := 0 } : Room) (Pc E σ [.ref (ea E 0)]) (Qi E (sz σ) σ Q) 0 0 (Av E) := by
  rw [wX8_bad] at h
  refine Met.ofW (cc := cX8_bad) (maxL := 1) (ret := (some .int)) (by decide) rfl ?_
  intro p e s m args below meth c s₁ B hml hv
  obtain ⟨rfl, hH, hK, hN⟩ := hv
  have hx := B.exec
  have hb := B.bytes
  have hr := B.returns
  have hts := atoms_spec (ws := wsX8_bad) B.pre
  have hown : s.vm.findClass RX8 = some m.cls := findClass_of_methodNamed B.named
  have hlocks := B.notSynchronized
  have hg : GS E σ s s.heap [] := ⟨hH, va_S.rf⟩
  have hm : Mo (sz σ) σ σ := Mo.rf (Nat.le_refl _)
  have hl := ent (vs := [.ref (ea E 0)]) (n := 1) (cats_x cats_nil) (Nat.le_of_ble_eq_true rfl)
  rw [lg_entry_eq]
  generalize (lg_sl ([.ref (ea E 0)]) ++ List.replicate (1 - (lg_sl ([.ref (ea E 0)])).length) Slot.unset).toArray = ls at hl ⊢
  have hl : lv_has ls 1 [(0, .ref (ea E 0))] := hl
  refine lv_aload_n hx hb dX8_bad_0 rfl (lv_at hl 0 rfl) ?_
  refine lv_dup hx hb dX8_bad_1 rfl ?_
  refine q_geti (ci := 8) (C := RX8) (T := TX8) (N := 14) hx hb hts (fun _ h9 => List.mem_cons_of_mem _ (List.mem_append_right _ h9)) hown hK hg 0 (by decide) rfl rfl (by decide) rfl 11 (by decide) (hts (.fieldLink RX8 273 "JoinMaps" "bads" "I") (List.mem_cons_of_mem _ (List.mem_append_left _ (List.mem_of_getElem? (i := 0) rfl)))) rfl rfl dX8_bad_2 ?_
  have hR1 := GS_R hg 0 11
  refine lv_iconst (v := iI 1) hx hb dX8_bad_5 (by decide) ?_
  refine q_iadd hx hb dX8_bad_6 ?_
  obtain ⟨hR2, h⟩ := h
  refine q_puti (ci := 8) (C := RX8) (T := TX8) (N := 14) hx hb hts (fun _ h9 => List.mem_cons_of_mem _ (List.mem_append_right _ h9)) tyX8 tyX8_ok nmX8 hown hK hg 0 (by decide) rfl rfl (by decide) rfl 11 (by decide) (hts (.fieldLink RX8 273 "JoinMaps" "bads" "I") (List.mem_cons_of_mem _ (List.mem_append_left _ (List.mem_of_getElem? (i := 0) rfl)))) rfl rfl (by decide +kernel) rfl hR2 dX8_bad_7 (fun H locs hg => ?_)
  refine q_ldcw (z := (-2000000002)) hx hb hown (hts (.constant RX8 292 (-2000000002)) (List.mem_cons_of_mem _ (List.mem_append_left _ (List.mem_of_getElem? (i := 1) rfl)))) (by decide) dX8_bad_10 ?_
  exact ret_i hx hb hr hlocks hg (by decide) hm h dX8_bad_13
theorem hdX8_full : yX8_full.cls ≠ "java/lang/invoke/MethodHandle" ∧ yX8_full.cls ≠ "java/lang/invoke/VarHandle" ∧ (parseMethodDescriptor yX8_full.desc).map (fun d => d.parameters.length) = some 0 := by decide +kernel
set_option maxRecDepth 100000 in
set_option maxHeartbeats 4000000 in
theorem ctX8_full (l : Launch) (E : Ev)  (σ : SS) (Q : Int → SS → Prop)  (h : wX8_full  σ Q) : Met l yX8_full wsX8_full ({ frames := 0, cells := 0, slots := 0, locals := 0 } : Room) (Pc E σ [.ref (ea E 0)]) (Qi E (sz σ) σ Q) 0 0 (Av E) := by
  rw [wX8_full] at h
  refine Met.ofW (cc := cX8_full) (maxL := 1) (ret := (some .int)) (by decide) rfl ?_
  intro p e s m args below meth c s₁ B hml hv
  obtain ⟨rfl, hH, hK, hN⟩ := hv
  have hx := B.exec
  have hb := B.bytes
  have hr := B.returns
  have hts := atoms_spec (ws := wsX8_full) B.pre
  have hown : s.vm.findClass RX8 = some m.cls := findClass_of_methodNamed B.named
  have hlocks := B.notSynchronized
  have hg : GS E σ s s.heap [] := ⟨hH, va_S.rf⟩
  have hm : Mo (sz σ) σ σ := Mo.rf (Nat.le_refl _)
  have hl := ent (vs := [.ref (ea E 0)]) (n := 1) (cats_x cats_nil) (Nat.le_of_ble_eq_true rfl)
  rw [lg_entry_eq]
  generalize (lg_sl ([.ref (ea E 0)]) ++ List.replicate (1 - (lg_sl ([.ref (ea E 0)])).length) Slot.unset).toArray = ls at hl ⊢
  have hl : lv_has ls 1 [(0, .ref (ea E 0))] := hl
  refine lv_aload_n hx hb dX8_full_0 rfl (lv_at hl 0 rfl) ?_
  refine lv_dup hx hb dX8_full_1 rfl ?_
  refine q_geti (ci := 8) (C := RX8) (T := TX8) (N := 14) hx hb hts (fun _ h9 => List.mem_cons_of_mem _ (List.mem_append_right _ h9)) hown hK hg 0 (by decide) rfl rfl (by decide) rfl 13 (by decide) (hts (.fieldLink RX8 279 "JoinMaps" "fulls" "I") (List.mem_cons_of_mem _ (List.mem_append_left _ (List.mem_of_getElem? (i := 0) rfl)))) rfl rfl dX8_full_2 ?_
  have hR1 := GS_R hg 0 13
  refine lv_iconst (v := iI 1) hx hb dX8_full_5 (by decide) ?_
  refine q_iadd hx hb dX8_full_6 ?_
  obtain ⟨hR2, h⟩ := h
  refine q_puti (ci := 8) (C := RX8) (T := TX8) (N := 14) hx hb hts (fun _ h9 => List.mem_cons_of_mem _ (List.mem_append_right _ h9)) tyX8 tyX8_ok nmX8 hown hK hg 0 (by decide) rfl rfl (by decide) rfl 13 (by decide) (hts (.fieldLink RX8 279 "JoinMaps" "fulls" "I") (List.mem_cons_of_mem _ (List.mem_append_left _ (List.mem_of_getElem? (i := 0) rfl)))) rfl rfl (by decide +kernel) rfl hR2 dX8_full_7 (fun H locs hg => ?_)
  refine q_ldcw (z := (-2000000004)) hx hb hown (hts (.constant RX8 294 (-2000000004)) (List.mem_cons_of_mem _ (List.mem_append_left _ (List.mem_of_getElem? (i := 1) rfl)))) (by decide) dX8_full_10 ?_
  exact ret_i hx hb hr hlocks hg (by decide) hm h dX8_full_13
theorem hdX8_isKey : yX8_isKey.cls ≠ "java/lang/invoke/MethodHandle" ∧ yX8_isKey.cls ≠ "java/lang/invoke/VarHandle" ∧ (parseMethodDescriptor yX8_isKey.desc).map (fun d => d.parameters.length) = some 1 := by decide +kernel
set_option maxRecDepth 100000 in
set_option maxHeartbeats 4000000 in
theorem ctX8_isKey (l : Launch) (E : Ev) (a0 : Int) (σ : SS) (Q : Int → SS → Prop) (ha0 : R32 a0) (h : wX8_isKey a0 σ Q) : Met l yX8_isKey wsX8_isKey ({ frames := 1, cells := 0, slots := 0, locals := 22 } : Room) (Pc E σ [.int (iI (a0))]) (Qz E (sz σ) σ Q) 0 0 (Av E) := by
  rw [wX8_isKey] at h
  refine Met.ofW (cc := cX8_isKey) (maxL := 1) (ret := (some .boolean)) (by decide) rfl ?_
  intro p e s m args below meth c s₁ B hml hv
  obtain ⟨rfl, hH, hK, hN⟩ := hv
  have hx := B.exec
  have hb := B.bytes
  have hr := B.returns
  have hts := atoms_spec (ws := wsX8_isKey) B.pre
  have hown : s.vm.findClass RX8 = some m.cls := findClass_of_methodNamed B.named
  have hlocks := B.notSynchronized
  have hg : GS E σ s s.heap [] := ⟨hH, va_S.rf⟩
  have hm : Mo (sz σ) σ σ := Mo.rf (Nat.le_refl _)
  have hl := ent (vs := [.int (iI (a0))]) (n := 1) (cats_i cats_nil) (Nat.le_of_ble_eq_true rfl)
  rw [lg_entry_eq]
  generalize (lg_sl ([.int (iI (a0))]) ++ List.replicate (1 - (lg_sl ([.int (iI (a0))])).length) Slot.unset).toArray = ls at hl ⊢
  have hl : lv_has ls 1 [(0, .int (iI (a0)))] := hl
  refine lv_iload_n hx hb dX8_isKey_0 rfl (lv_at hl 0 rfl) ?_
  refine lv_sipush (v := iI (-500)) hx hb dX8_isKey_1 (by decide) ?_
  refine lv_sipush (v := iI 500) hx hb dX8_isKey_4 (by decide) ?_
  refine call_z (run_S (As := [.int (iI (a0)), .int (iI ((-500))), .int (iI (500))]) (rest := []) ⟨hx, hb, hml, hown, hts⟩ (ctX8_isIn l E a0 (-500) 500 σ _ ha0 (by decide) (by decide) h) (va_cwS 3 hts gX8_isKey_X8_isIn rfl rfl rfl hdX8_isIn ⟨Nat.le_of_ble_eq_true rfl, Nat.le_of_ble_eq_true rfl⟩) hK hN hg rfl hl.1 rfl (cat_sum _ (by simp)) dX8_isKey_7 ⟨Nat.le_refl 0, Nat.le_refl 0⟩) hg (fun r2 s1 H locs hz3 hm2 h hg => ?_)
  have hm := hm.tn hm2
  exact ret_z hx hb hr hlocks hg hz3 hm h dX8_isKey_10
theorem hdX8_isValue : yX8_isValue.cls ≠ "java/lang/invoke/MethodHandle" ∧ yX8_isValue.cls ≠ "java/lang/invoke/VarHandle" ∧ (parseMethodDescriptor yX8_isValue.desc).map (fun d => d.parameters.length) = some 1 := by decide +kernel
set_option maxRecDepth 100000 in
set_option maxHeartbeats 4000000 in
theorem ctX8_isValue (l : Launch) (E : Ev) (a0 : Int) (σ : SS) (Q : Int → SS → Prop) (ha0 : R32 a0) (h : wX8_isValue a0 σ Q) : Met l yX8_isValue wsX8_isValue ({ frames := 1, cells := 0, slots := 0, locals := 22 } : Room) (Pc E σ [.int (iI (a0))]) (Qz E (sz σ) σ Q) 0 0 (Av E) := by
  rw [wX8_isValue] at h
  refine Met.ofW (cc := cX8_isValue) (maxL := 1) (ret := (some .boolean)) (by decide) rfl ?_
  intro p e s m args below meth c s₁ B hml hv
  obtain ⟨rfl, hH, hK, hN⟩ := hv
  have hx := B.exec
  have hb := B.bytes
  have hr := B.returns
  have hts := atoms_spec (ws := wsX8_isValue) B.pre
  have hown : s.vm.findClass RX8 = some m.cls := findClass_of_methodNamed B.named
  have hlocks := B.notSynchronized
  have hg : GS E σ s s.heap [] := ⟨hH, va_S.rf⟩
  have hm : Mo (sz σ) σ σ := Mo.rf (Nat.le_refl _)
  have hl := ent (vs := [.int (iI (a0))]) (n := 1) (cats_i cats_nil) (Nat.le_of_ble_eq_true rfl)
  rw [lg_entry_eq]
  generalize (lg_sl ([.int (iI (a0))]) ++ List.replicate (1 - (lg_sl ([.int (iI (a0))])).length) Slot.unset).toArray = ls at hl ⊢
  have hl : lv_has ls 1 [(0, .int (iI (a0)))] := hl
  refine lv_iload_n hx hb dX8_isValue_0 rfl (lv_at hl 0 rfl) ?_
  refine q_ldcw (z := (-1000000)) hx hb hown (hts (.constant RX8 295 (-1000000)) (List.mem_cons_of_mem _ (List.mem_of_getElem? (i := 0) rfl))) (by decide) dX8_isValue_1 ?_
  refine q_ldcw (z := 1000000) hx hb hown (hts (.constant RX8 296 (1000000)) (List.mem_cons_of_mem _ (List.mem_of_getElem? (i := 1) rfl))) (by decide) dX8_isValue_4 ?_
  refine call_z (run_S (As := [.int (iI (a0)), .int (iI ((-1000000))), .int (iI (1000000))]) (rest := []) ⟨hx, hb, hml, hown, hts⟩ (ctX8_isIn l E a0 (-1000000) 1000000 σ _ ha0 (by decide) (by decide) h) (va_cwS 3 hts gX8_isValue_X8_isIn rfl rfl rfl hdX8_isIn ⟨Nat.le_of_ble_eq_true rfl, Nat.le_of_ble_eq_true rfl⟩) hK hN hg rfl hl.1 rfl (cat_sum _ (by simp)) dX8_isValue_7 ⟨Nat.le_refl 0, Nat.le_refl 0⟩) hg (fun r2 s1 H locs hz3 hm2 h hg => ?_)
  have hm := hm.tn hm2
  exact ret_z hx hb hr hlocks hg hz3 hm h dX8_isValue_10
theorem hdX8_settle : yX8_settle.cls ≠ "java/lang/invoke/MethodHandle" ∧ yX8_settle.cls ≠ "java/lang/invoke/VarHandle" ∧ (parseMethodDescriptor yX8_settle.desc).map (fun d => d.parameters.length) = some 2 := by decide +kernel
set_option maxRecDepth 100000 in
set_option maxHeartbeats 4000000 in
theorem ctX8_settle (l : Launch) (E : Ev) (a1 : Int) (a2 : Option Nat) (σ : SS) (Q : Int → SS → Prop) (ha1 : R32 a1) (ha2 : ∀ b, a2 = some b → sS σ b) (h : wX8_settle a1 a2 σ Q) : Met l yX8_settle wsX8_settle ({ frames := 2, cells := 0, slots := 0, locals := 43 } : Room) (Pc E σ [.ref (ea E 0), .int (iI (a1)), va_rf (a2)]) (Qi E (sz σ) σ Q) 0 0 (Av E) := by
  rw [wX8_settle] at h
  refine Met.ofW (cc := cX8_settle) (maxL := 3) (ret := (some .int)) (by decide) rfl ?_
  intro p e s m args below meth c s₁ B hml hv
  obtain ⟨rfl, hH, hK, hN⟩ := hv
  have hx := B.exec
  have hb := B.bytes
  have hr := B.returns
  have hts := atoms_spec (ws := wsX8_settle) B.pre
  have hown : s.vm.findClass RX8 = some m.cls := findClass_of_methodNamed B.named
  have hlocks := B.notSynchronized
  have hg : GS E σ s s.heap [] := ⟨hH, va_S.rf⟩
  have hm : Mo (sz σ) σ σ := Mo.rf (Nat.le_refl _)
  have hl := ent (vs := [.ref (ea E 0), .int (iI (a1)), va_rf (a2)]) (n := 3) (cats_x (cats_i (cats_r cats_nil))) (Nat.le_of_ble_eq_true rfl)
  rw [lg_entry_eq]
  generalize (lg_sl ([.ref (ea E 0), .int (iI (a1)), va_rf (a2)]) ++ List.replicate (3 - (lg_sl ([.ref (ea E 0), .int (iI (a1)), va_rf (a2)])).length) Slot.unset).toArray = ls at hl ⊢
  have hl : lv_has ls 3 [(0, .ref (ea E 0)), (1, .int (iI (a1))), (2, va_rf (a2))] := hl
  refine lv_aload_n hx hb dX8_settle_0 rfl (lv_at hl 0 rfl) ?_
  refine q_getx (ci := 8) (C := RX8) (T := TX8) (N := 14) (j := 4) hx hb hts (fun _ h9 => List.mem_cons_of_mem _ (List.mem_append_left _ (List.mem_append_left _ (List.mem_append_right _ h9)))) hown hK hg 0 (by decide) rfl rfl (by decide) rfl 3 (by decide) (hts (.fieldLink RX8 34 "JoinMaps" "versions" "LJoinMaps$Versions;") (List.mem_cons_of_mem _ (List.mem_append_left _ (List.mem_append_left _ (List.mem_append_left _ (List.mem_of_getElem? (i := 0) rfl)))))) rfl rfl rfl dX8_settle_1 ?_
  refine lv_aload_n hx hb dX8_settle_4 rfl (lv_at hl 0 rfl) ?_
  refine q_getx (ci := 8) (C := RX8) (T := TX8) (N := 14) (j := 3) hx hb hts (fun _ h9 => List.mem_cons_of_mem _ (List.mem_append_left _ (List.mem_append_left _ (List.mem_append_right _ h9)))) hown hK hg 0 (by decide) rfl rfl (by decide) rfl 2 (by decide) (hts (.fieldLink RX8 27 "JoinMaps" "maps" "[LJoinMaps$Node;") (List.mem_cons_of_mem _ (List.mem_append_left _ (List.mem_append_left _ (List.mem_append_left _ (List.mem_of_getElem? (i := 1) rfl)))))) rfl rfl rfl dX8_settle_5 ?_
  refine call_v (run_V (a := ea E 4) (As := [.ref (ea E 3)]) (rest := []) ⟨hx, hb, hml, hown, hts⟩ (ctX7_leave l E  σ _  h) (cwV 1 hts gX8_settle_X7_leave rfl rfl rfl ⟨rfl, hdX7_leave⟩ ⟨Nat.le_of_ble_eq_true rfl, Nat.le_of_ble_eq_true rfl⟩) hK hN hg (recv_x (ci := 7) (C := RX7) (T := TX7) (N := 3) hg hK (by decide) rfl (by decide) rfl) rfl hl.1 rfl (cat_sum _ (by simp)) dX8_settle_8 ⟨Nat.le_refl 0, Nat.le_refl 0⟩) hg (fun s1 H locs hm2 h hg => ?_)
  have hS4 : ∀ b, a2 = some b → sS s1 b := (fun b h0 => hm2.1 b (ha2 b h0))
  have hm := hm.tn hm2
  refine lv_aload_n hx hb dX8_settle_11 rfl (lv_at hl 0 rfl) ?_
  refine q_getx (ci := 8) (C := RX8) (T := TX8) (N := 14) (j := 3) hx hb hts (fun _ h9 => List.mem_cons_of_mem _ (List.mem_append_left _ (List.mem_append_left _ (List.mem_append_right _ h9)))) hown hK hg 0 (by decide) rfl rfl (by decide) rfl 2 (by decide) (hts (.fieldLink RX8 27 "JoinMaps" "maps" "[LJoinMaps$Node;") (List.mem_cons_of_mem _ (List.mem_append_left _ (List.mem_append_left _ (List.mem_append_left _ (List.mem_of_getElem? (i := 1) rfl)))))) rfl rfl rfl dX8_settle_12 ?_
  refine lv_iload_n hx hb dX8_settle_15 rfl (lv_at hl 1 rfl) ?_
  refine q_aload_n hx hb dX8_settle_16 rfl (lv_at hl 2 rfl) ?_
  obtain ⟨hP5, hP6, h⟩ := h
  refine q_aast (N := 6) hx hb hK hg 3 (by decide) rfl rfl hP5 hP6 (by decide) hS4 dX8_settle_17 (fun H locs hg => ?_)
  refine q_aload_n hx hb dX8_settle_18 rfl (lv_at hl 2 rfl) ?_
  refine call_i (run_S (As := [va_rf (a2)]) (rest := []) ⟨hx, hb, hml, hown, hts⟩ (ctX3_countOf l E a2 (uf s1 3 (a1 : Int).toNat (a2)) _ hS4 h) (va_cwS 1 hts gX8_settle_X3_countOf rfl rfl rfl hdX3_countOf ⟨Nat.le_of_ble_eq_true rfl, Nat.le_of_ble_eq_true rfl⟩) hK hN hg rfl hl.1 rfl (cat_sum _ (by simp)) dX8_settle_19 ⟨Nat.le_refl 0, Nat.le_refl 0⟩) hg (fun r8 s7 H locs hz9 hm2 h hg => ?_)
  have hS10 : ∀ b, a2 = some b → sS s7 b := (fun b h0 => hm2.1 b (hS4 b h0))
  have hm := hm.tn hm2
  exact ret_i hx hb hr hlocks hg hz9 hm h dX8_settle_22
theorem hdX8_startChange : yX8_startChange.cls ≠ "java/lang/invoke/MethodHandle" ∧ yX8_startChange.cls ≠ "java/lang/invoke/VarHandle" ∧ (parseMethodDescriptor yX8_startChange.desc).map (fun d => d.parameters.length) = some 0 := by decide +kernel
set_option maxRecDepth 100000 in
set_option maxHeartbeats 4000000 in
theorem ctX8_startChange (l : Launch) (E : Ev)  (σ : SS) (Q : SS → Prop)  (h : wX8_startChange  σ Q) : Met l yX8_startChange wsX8_startChange ({ frames := 46, cells := 0, slots := 0, locals := 1012 } : Room) (Pc E σ [.ref (ea E 0)]) (Qv E (sz σ) σ Q) 0 0 (Av E) := by
  rw [wX8_startChange] at h
  refine Met.ofW (cc := cX8_startChange) (maxL := 1) (ret := none) (by decide) rfl ?_
  intro p e s m args below meth c s₁ B hml hv
  obtain ⟨rfl, hH, hK, hN⟩ := hv
  have hx := B.exec
  have hb := B.bytes
  have hr := B.returns
  have hts := atoms_spec (ws := wsX8_startChange) B.pre
  have hown : s.vm.findClass RX8 = some m.cls := findClass_of_methodNamed B.named
  have hlocks := B.notSynchronized
  have hg : GS E σ s s.heap [] := ⟨hH, va_S.rf⟩
  have hm : Mo (sz σ) σ σ := Mo.rf (Nat.le_refl _)
  have hl := ent (vs := [.ref (ea E 0)]) (n := 1) (cats_x cats_nil) (Nat.le_of_ble_eq_true rfl)
  rw [lg_entry_eq]
  generalize (lg_sl ([.ref (ea E 0)]) ++ List.replicate (1 - (lg_sl ([.ref (ea E 0)])).length) Slot.unset).toArray = ls at hl ⊢
  have hl : lv_has ls 1 [(0, .ref (ea E 0))] := hl
  refine lv_aload_n hx hb dX8_startChange_0 rfl (lv_at hl 0 rfl) ?_
  refine q_getx (ci := 8) (C := RX8) (T := TX8) (N := 14) (j := 1) hx hb hts (fun _ h9 => List.mem_cons_of_mem _ (List.mem_append_left _ (List.mem_append_left _ (List.mem_append_left _ (List.mem_append_left _ (List.mem_append_right _ h9)))))) hown hK hg 0 (by decide) rfl rfl (by decide) rfl 0 (by decide) (hts (.fieldLink RX8 10 "JoinMaps" "grove" "LJoinMaps$Grove;") (List.mem_cons_of_mem _ (List.mem_append_left _ (List.mem_append_left _ (List.mem_append_left _ (List.mem_append_left _ (List.mem_append_left _ (List.mem_append_left _ (List.mem_of_getElem? (i := 0) rfl))))))))) rfl rfl rfl dX8_startChange_1 ?_
  refine call_z (run_V (a := ea E 1) (As := []) (rest := []) ⟨hx, hb, hml, hown, hts⟩ (ctX2_isCrowded l E  σ _  h) (cwV 0 hts gX8_startChange_X2_isCrowded rfl rfl rfl ⟨rfl, hdX2_isCrowded⟩ ⟨Nat.le_of_ble_eq_true rfl, Nat.le_of_ble_eq_true rfl⟩) hK hN hg (recv_x (ci := 2) (C := RX2) (T := TX2) (N := 4) hg hK (by decide) rfl (by decide) rfl) rfl hl.1 rfl (cat_sum _ (by simp)) dX8_startChange_4 ⟨Nat.le_refl 0, Nat.le_refl 0⟩) hg (fun r2 s1 H locs hz3 hm2 h hg => ?_)
  have hm := hm.tn hm2
  refine k_eq (tgt := 77) hx hb dX8_startChange_7 (by decide) (z_R hz3) (fun c4 => ?_) (fun c4 => ?_)
  · have h := h.1 c4
    exact ret_v hx hb hr hlocks hg hm h dX8_startChange_77
  · have h := h.2 c4
    refine lv_aload_n hx hb dX8_startChange_10 rfl (lv_at hl 0 rfl) ?_
    refine q_getx (ci := 8) (C := RX8) (T := TX8) (N := 14) (j := 1) hx hb hts (fun _ h9 => List.mem_cons_of_mem _ (List.mem_append_left _ (List.mem_append_left _ (List.mem_append_left _ (List.mem_append_left _ (List.mem_append_right _ h9)))))) hown hK hg 0 (by decide) rfl rfl (by decide) rfl 0 (by decide) (hts (.fieldLink RX8 10 "JoinMaps" "grove" "LJoinMaps$Grove;") (List.mem_cons_of_mem _ (List.mem_append_left _ (List.mem_append_left _ (List.mem_append_left _ (List.mem_append_left _ (List.mem_append_left _ (List.mem_append_left _ (List.mem_of_getElem? (i := 0) rfl))))))))) rfl rfl rfl dX8_startChange_11 ?_
    refine call_v (run_V (a := ea E 1) (As := []) (rest := []) ⟨hx, hb, hml, hown, hts⟩ (ctX2_startKeeping l E  s1 _  h) (cwV 0 hts gX8_startChange_X2_startKeeping rfl rfl rfl ⟨rfl, hdX2_startKeeping⟩ ⟨Nat.le_of_ble_eq_true rfl, Nat.le_of_ble_eq_true rfl⟩) hK hN hg (recv_x (ci := 2) (C := RX2) (T := TX2) (N := 4) hg hK (by decide) rfl (by decide) rfl) rfl hl.1 rfl (cat_sum _ (by simp)) dX8_startChange_14 ⟨Nat.le_refl 0, Nat.le_refl 0⟩) hg (fun s5 H locs hm2 h hg => ?_)
    have hm := hm.tn hm2
    refine lv_aload_n hx hb dX8_startChange_17 rfl (lv_at hl 0 rfl) ?_
    refine q_getx (ci := 8) (C := RX8) (T := TX8) (N := 14) (j := 1) hx hb hts (fun _ h9 => List.mem_cons_of_mem _ (List.mem_append_left _ (List.mem_append_left _ (List.mem_append_left _ (List.mem_append_left _ (List.mem_append_right _ h9)))))) hown hK hg 0 (by decide) rfl rfl (by decide) rfl 0 (by decide) (hts (.fieldLink RX8 10 "JoinMaps" "grove" "LJoinMaps$Grove;") (List.mem_cons_of_mem _ (List.mem_append_left _ (List.mem_append_left _ (List.mem_append_left _ (List.mem_append_left _ (List.mem_append_left _ (List.mem_append_left _ (List.mem_of_getElem? (i := 0) rfl))))))))) rfl rfl rfl dX8_startChange_18 ?_
    refine lv_aload_n hx hb dX8_startChange_21 rfl (lv_at hl 0 rfl) ?_
    refine q_getx (ci := 8) (C := RX8) (T := TX8) (N := 14) (j := 3) hx hb hts (fun _ h9 => List.mem_cons_of_mem _ (List.mem_append_left _ (List.mem_append_left _ (List.mem_append_left _ (List.mem_append_left _ (List.mem_append_right _ h9)))))) hown hK hg 0 (by decide) rfl rfl (by decide) rfl 2 (by decide) (hts (.fieldLink RX8 27 "JoinMaps" "maps" "[LJoinMaps$Node;") (List.mem_cons_of_mem _ (List.mem_append_left _ (List.mem_append_left _ (List.mem_append_left _ (List.mem_append_left _ (List.mem_append_left _ (List.mem_append_left _ (List.mem_of_getElem? (i := 1) rfl))))))))) rfl rfl rfl dX8_startChange_22 ?_
    refine call_v (run_V (a := ea E 1) (As := [.ref (ea E 3)]) (rest := []) ⟨hx, hb, hml, hown, hts⟩ (ctX2_keepAll l E 3 s5 _ (by decide) h) (cwV 1 hts gX8_startChange_X2_keepAll rfl rfl rfl ⟨rfl, hdX2_keepAll⟩ ⟨Nat.le_of_ble_eq_true rfl, Nat.le_of_ble_eq_true rfl⟩) hK hN hg (recv_x (ci := 2) (C := RX2) (T := TX2) (N := 4) hg hK (by decide) rfl (by decide) rfl) rfl hl.1 rfl (cat_sum _ (by simp)) dX8_startChange_25 ⟨Nat.le_refl 0, Nat.le_refl 0⟩) hg (fun s8 H locs hm2 h hg => ?_)
    have hm := hm.tn hm2
    refine lv_aload_n hx hb dX8_startChange_28 rfl (lv_at hl 0 rfl) ?_
    refine q_getx (ci := 8) (C := RX8) (T := TX8) (N := 14) (j := 1) hx hb hts (fun _ h9 => List.mem_cons_of_mem _ (List.mem_append_left _ (List.mem_append_left _ (List.mem_append_left _ (List.mem_append_left _ (List.mem_append_right _ h9)))))) hown hK hg 0 (by decide) rfl rfl (by decide) rfl 0 (by decide) (hts (.fieldLink RX8 10 "JoinMaps" "grove" "LJoinMaps$Grove;") (List.mem_cons_of_mem _ (List.mem_append_left _ (List.mem_append_left _ (List.mem_append_left _ (List.mem_append_left _ (List.mem_append_left _ (List.mem_append_left _ (List.mem_of_getElem? (i := 0) rfl))))))))) rfl rfl rfl dX8_startChange_29 ?_
    refine lv_aload_n hx hb dX8_startChange_32 rfl (lv_at hl 0 rfl) ?_
    refine q_getx (ci := 8) (C := RX8) (T := TX8) (N := 14) (j := 4) hx hb hts (fun _ h9 => List.mem_cons_of_mem _ (List.mem_append_left _ (List.mem_append_left _ (List.mem_append_left _ (List.mem_append_left _ (List.mem_append_right _ h9)))))) hown hK hg 0 (by decide) rfl rfl (by decide) rfl 3 (by decide) (hts (.fieldLink RX8 34 "JoinMaps" "versions" "LJoinMaps$Versions;") (List.mem_cons_of_mem _ (List.mem_append_left _ (List.mem_append_left _ (List.mem_append_left _ (List.mem_append_left _ (List.mem_append_left _ (List.mem_append_left _ (List.mem_of_getElem? (i := 2) rfl))))))))) rfl rfl rfl dX8_startChange_33 ?_
    refine q_getx (ci := 7) (C := RX7) (T := TX7) (N := 3) (j := 5) hx hb hts (fun _ h9 => List.mem_cons_of_mem _ (List.mem_append_left _ (List.mem_append_left _ (List.mem_append_left _ (List.mem_append_right _ h9))))) hown hK hg 4 (by decide) rfl rfl (by decide) rfl 0 (by decide) (hts (.fieldLink RX8 307 "JoinMaps$Versions" "roots" "[LJoinMaps$Node;") (List.mem_cons_of_mem _ (List.mem_append_left _ (List.mem_append_left _ (List.mem_append_left _ (List.mem_append_left _ (List.mem_append_left _ (List.mem_append_left _ (List.mem_of_getElem? (i := 3) rfl))))))))) rfl rfl rfl dX8_startChange_36 ?_
    refine call_v (run_V (a := ea E 1) (As := [.ref (ea E 5)]) (rest := []) ⟨hx, hb, hml, hown, hts⟩ (ctX2_keepAll l E 5 s8 _ (by decide) h) (cwV 1 hts gX8_startChange_X2_keepAll rfl rfl rfl ⟨rfl, hdX2_keepAll⟩ ⟨Nat.le_of_ble_eq_true rfl, Nat.le_of_ble_eq_true rfl⟩) hK hN hg (recv_x (ci := 2) (C := RX2) (T := TX2) (N := 4) hg hK (by decide) rfl (by decide) rfl) rfl hl.1 rfl (cat_sum _ (by simp)) dX8_startChange_39 ⟨Nat.le_refl 0, Nat.le_refl 0⟩) hg (fun s11 H locs hm2 h hg => ?_)
    have hm := hm.tn hm2
    refine lv_aload_n hx hb dX8_startChange_42 rfl (lv_at hl 0 rfl) ?_
    refine q_getx (ci := 8) (C := RX8) (T := TX8) (N := 14) (j := 1) hx hb hts (fun _ h9 => List.mem_cons_of_mem _ (List.mem_append_left _ (List.mem_append_left _ (List.mem_append_left _ (List.mem_append_left _ (List.mem_append_right _ h9)))))) hown hK hg 0 (by decide) rfl rfl (by decide) rfl 0 (by decide) (hts (.fieldLink RX8 10 "JoinMaps" "grove" "LJoinMaps$Grove;") (List.mem_cons_of_mem _ (List.mem_append_left _ (List.mem_append_left _ (List.mem_append_left _ (List.mem_append_left _ (List.mem_append_left _ (List.mem_append_left _ (List.mem_of_getElem? (i := 0) rfl))))))))) rfl rfl rfl dX8_startChange_43 ?_
    refine lv_aload_n hx hb dX8_startChange_46 rfl (lv_at hl 0 rfl) ?_
    refine q_getx (ci := 8) (C := RX8) (T := TX8) (N := 14) (j := 12) hx hb hts (fun _ h9 => List.mem_cons_of_mem _ (List.mem_append_left _ (List.mem_append_left _ (List.mem_append_left _ (List.mem_append_left _ (List.mem_append_right _ h9)))))) hown hK hg 0 (by decide) rfl rfl (by decide) rfl 7 (by decide) (hts (.fieldLink RX8 61 "JoinMaps" "bench" "LJoinMaps$Bench;") (List.mem_cons_of_mem _ (List.mem_append_left _ (List.mem_append_left _ (List.mem_append_left _ (List.mem_append_left _ (List.mem_append_left _ (List.mem_append_left _ (List.mem_of_getElem? (i := 4) rfl))))))))) rfl rfl rfl dX8_startChange_47 ?_
    refine q_getx (ci := 0) (C := RX0) (T := TX0) (N := 4) (j := 13) hx hb hts (fun _ h9 => List.mem_cons_of_mem _ (List.mem_append_left _ (List.mem_append_left _ (List.mem_append_right _ h9)))) hown hK hg 12 (by decide) rfl rfl (by decide) rfl 0 (by decide) (hts (.fieldLink RX8 310 "JoinMaps$Bench" "maps" "[LJoinMaps$Node;") (List.mem_cons_of_mem _ (List.mem_append_left _ (List.mem_append_left _ (List.mem_append_left _ (List.mem_append_left _ (List.mem_append_left _ (List.mem_append_left _ (List.mem_of_getElem? (i := 5) rfl))))))))) rfl rfl rfl dX8_startChange_50 ?_
    refine call_v (run_V (a := ea E 1) (As := [.ref (ea E 13)]) (rest := []) ⟨hx, hb, hml, hown, hts⟩ (ctX2_keepAll l E 13 s11 _ (by decide) h) (cwV 1 hts gX8_startChange_X2_keepAll rfl rfl rfl ⟨rfl, hdX2_keepAll⟩ ⟨Nat.le_of_ble_eq_true rfl, Nat.le_of_ble_eq_true rfl⟩) hK hN hg (recv_x (ci := 2) (C := RX2) (T := TX2) (N := 4) hg hK (by decide) rfl (by decide) rfl) rfl hl.1 rfl (cat_sum _ (by simp)) dX8_startChange_53 ⟨Nat.le_refl 0, Nat.le_refl 0⟩) hg (fun s14 H locs hm2 h hg => ?_)
    have hm := hm.tn hm2
    refine lv_aload_n hx hb dX8_startChange_56 rfl (lv_at hl 0 rfl) ?_
    refine q_getx (ci := 8) (C := RX8) (T := TX8) (N := 14) (j := 1) hx hb hts (fun _ h9 => List.mem_cons_of_mem _ (List.mem_append_left _ (List.mem_append_left _ (List.mem_append_left _ (List.mem_append_left _ (List.mem_append_right _ h9)))))) hown hK hg 0 (by decide) rfl rfl (by decide) rfl 0 (by decide) (hts (.fieldLink RX8 10 "JoinMaps" "grove" "LJoinMaps$Grove;") (List.mem_cons_of_mem _ (List.mem_append_left _ (List.mem_append_left _ (List.mem_append_left _ (List.mem_append_left _ (List.mem_append_left _ (List.mem_append_left _ (List.mem_of_getElem? (i := 0) rfl))))))))) rfl rfl rfl dX8_startChange_57 ?_
    refine lv_aload_n hx hb dX8_startChange_60 rfl (lv_at hl 0 rfl) ?_
    refine q_getx (ci := 8) (C := RX8) (T := TX8) (N := 14) (j := 12) hx hb hts (fun _ h9 => List.mem_cons_of_mem _ (List.mem_append_left _ (List.mem_append_left _ (List.mem_append_left _ (List.mem_append_left _ (List.mem_append_right _ h9)))))) hown hK hg 0 (by decide) rfl rfl (by decide) rfl 7 (by decide) (hts (.fieldLink RX8 61 "JoinMaps" "bench" "LJoinMaps$Bench;") (List.mem_cons_of_mem _ (List.mem_append_left _ (List.mem_append_left _ (List.mem_append_left _ (List.mem_append_left _ (List.mem_append_left _ (List.mem_append_left _ (List.mem_of_getElem? (i := 4) rfl))))))))) rfl rfl rfl dX8_startChange_61 ?_
    refine q_getx (ci := 0) (C := RX0) (T := TX0) (N := 4) (j := 14) hx hb hts (fun _ h9 => List.mem_cons_of_mem _ (List.mem_append_left _ (List.mem_append_left _ (List.mem_append_right _ h9)))) hown hK hg 12 (by decide) rfl rfl (by decide) rfl 1 (by decide) (hts (.fieldLink RX8 311 "JoinMaps$Bench" "stack" "[LJoinMaps$Node;") (List.mem_cons_of_mem _ (List.mem_append_left _ (List.mem_append_left _ (List.mem_append_left _ (List.mem_append_left _ (List.mem_append_left _ (List.mem_append_left _ (List.mem_of_getElem? (i := 6) rfl))))))))) rfl rfl rfl dX8_startChange_64 ?_
    refine call_v (run_V (a := ea E 1) (As := [.ref (ea E 14)]) (rest := []) ⟨hx, hb, hml, hown, hts⟩ (ctX2_keepAll l E 14 s14 _ (by decide) h) (cwV 1 hts gX8_startChange_X2_keepAll rfl rfl rfl ⟨rfl, hdX2_keepAll⟩ ⟨Nat.le_of_ble_eq_true rfl, Nat.le_of_ble_eq_true rfl⟩) hK hN hg (recv_x (ci := 2) (C := RX2) (T := TX2) (N := 4) hg hK (by decide) rfl (by decide) rfl) rfl hl.1 rfl (cat_sum _ (by simp)) dX8_startChange_67 ⟨Nat.le_refl 0, Nat.le_refl 0⟩) hg (fun s17 H locs hm2 h hg => ?_)
    have hm := hm.tn hm2
    refine lv_aload_n hx hb dX8_startChange_70 rfl (lv_at hl 0 rfl) ?_
    refine q_getx (ci := 8) (C := RX8) (T := TX8) (N := 14) (j := 1) hx hb hts (fun _ h9 => List.mem_cons_of_mem _ (List.mem_append_left _ (List.mem_append_left _ (List.mem_append_left _ (List.mem_append_left _ (List.mem_append_right _ h9)))))) hown hK hg 0 (by decide) rfl rfl (by decide) rfl 0 (by decide) (hts (.fieldLink RX8 10 "JoinMaps" "grove" "LJoinMaps$Grove;") (List.mem_cons_of_mem _ (List.mem_append_left _ (List.mem_append_left _ (List.mem_append_left _ (List.mem_append_left _ (List.mem_append_left _ (List.mem_append_left _ (List.mem_of_getElem? (i := 0) rfl))))))))) rfl rfl rfl dX8_startChange_71 ?_
    refine call_v (run_V (a := ea E 1) (As := []) (rest := []) ⟨hx, hb, hml, hown, hts⟩ (ctX2_spareTheRest l E  s17 _  h) (cwV 0 hts gX8_startChange_X2_spareTheRest rfl rfl rfl ⟨rfl, hdX2_spareTheRest⟩ ⟨Nat.le_of_ble_eq_true rfl, Nat.le_of_ble_eq_true rfl⟩) hK hN hg (recv_x (ci := 2) (C := RX2) (T := TX2) (N := 4) hg hK (by decide) rfl (by decide) rfl) rfl hl.1 rfl (cat_sum _ (by simp)) dX8_startChange_74 ⟨Nat.le_refl 0, Nat.le_refl 0⟩) hg (fun s20 H locs hm2 h hg => ?_)
    have hm := hm.tn hm2
    exact ret_v hx hb hr hlocks hg hm h dX8_startChange_77
theorem hdX8_put : yX8_put.cls ≠ "java/lang/invoke/MethodHandle" ∧ yX8_put.cls ≠ "java/lang/invoke/VarHandle" ∧ (parseMethodDescriptor yX8_put.desc).map (fun d => d.parameters.length) = some 3 := by decide +kernel
set_option maxRecDepth 100000 in
set_option maxHeartbeats 4000000 in
theorem ctX8_put (l : Launch) (E : Ev) (tp : Nat) (a1 : Int) (a2 : Int) (a3 : Int) (σ : SS) (Q : Int → SS → Prop) (ha1 : R32 a1) (ha2 : R32 a2) (ha3 : R32 a3) (ht : sz σ ≤ tp) (h : wX8_put tp a1 a2 a3 σ Q) : Met l yX8_put wsX8_put ({ frames := 95, cells := tp - sz σ, slots := 9 * (tp - sz σ), locals := 2431 } : Room) (Pc E σ [.ref (ea E 0), .int (iI (a1)), .int (iI (a2)), .int (iI (a3))]) (Qi E tp σ Q) (tp - sz σ) (9 * (tp - sz σ)) (Av E) := by
  rw [wX8_put] at h
  refine Met.ofW (cc := cX8_put) (maxL := 6) (ret := (some .int)) (by decide) rfl ?_
  intro p e s m args below meth c s₁ B hml hv
  obtain ⟨rfl, hH, hK, hN⟩ := hv
  have hx := B.exec
  have hb := B.bytes
  have hr := B.returns
  have hts := atoms_spec (ws := wsX8_put) B.pre
  have hown : s.vm.findClass RX8 = some m.cls := findClass_of_methodNamed B.named
  have hlocks := B.notSynchronized
  have hg : GS E σ s s.heap [] := ⟨hH, va_S.rf⟩
  have hm : Mo tp σ σ := Mo.rf ht
  have hl := ent (vs := [.ref (ea E 0), .int (iI (a1)), .int (iI (a2)), .int (iI (a3))]) (n := 6) (cats_x (cats_i (cats_i (cats_i cats_nil)))) (Nat.le_of_ble_eq_true rfl)
  rw [lg_entry_eq]
  generalize (lg_sl ([.ref (ea E 0), .int (iI (a1)), .int (iI (a2)), .int (iI (a3))]) ++ List.replicate (6 - (lg_sl ([.ref (ea E 0), .int (iI (a1)), .int (iI (a2)), .int (iI (a3))])).length) Slot.unset).toArray = ls at hl ⊢
  have hl : lv_has ls 6 [(0, .ref (ea E 0)), (1, .int (iI (a1))), (2, .int (iI (a2))), (3, .int (iI (a3)))] := hl
  refine W_narrow hg hH (show sz σ ≤ sz σ + (sz σ - sz σ) by omega) (show 9 * (sz σ - sz σ) ≤ 9 * (sz σ - sz σ) from Nat.le_refl _) ?_
  have J78 : ∀ (u0 : Int) (sL : SS) (H : Heap) (locs : List Loc) (ls : Array Slot), GS E sL s H locs → Mo tp σ sL → lv_has ls 6 [(0, .ref (ea E 0)), (1, .int (iI (a1))), (2, .int (iI (a2))), (3, .int (iI (a3)))] → wX8_put_L78 tp a1 a2 a3 Q  u0 sL → W p l e (headSpec wsX8_put ({ frames := 95, cells := tp - sz σ, slots := 9 * (tp - sz σ), locals := 2431 } : Room)).room s m (List.toArray [.ref (ea E 0), .int (iI (a1)), .int (iI (a2)), .int (iI (a3))]) below meth c H locs (sz sL - sz σ) (9 * (sz sL - sz σ)) (MQ below (Qi E tp σ Q) (List.toArray [.ref (ea E 0), .int (iI (a1)), .int (iI (a2)), .int (iI (a3))]) s (tp - sz σ) (9 * (tp - sz σ)) (Av E)) (F0 m 78 ls [.int (iI (u0))]) := by
    intro u0 sL H locs ls hg hm hl h
    rw [wX8_put_L78] at h
    refine lv_istore (i := 5) (lv' := [(5, .int (iI (u0))), (0, .ref (ea E 0)), (1, .int (iI (a1))), (2, .int (iI (a2))), (3, .int (iI (a3)))]) hx hb dX8_put_78 hl (by decide) rfl (fun ls hl => ?_)
    refine lv_aload_n hx hb dX8_put_80 rfl (lv_at hl 1 rfl) ?_
    refine call_v (run_V (a := ea E 0) (As := []) (rest := []) ⟨hx, hb, hml, hown, hts⟩ (ctX8_startChange l E  sL _  h) (cwV 0 hts gX8_put_X8_startChange rfl rfl rfl ⟨rfl, hdX8_startChange⟩ ⟨Nat.le_of_ble_eq_true rfl, Nat.le_of_ble_eq_true rfl⟩) hK hN hg (recv_x (ci := 8) (C := RX8) (T := TX8) (N := 14) hg hK (by decide) rfl (by decide) rfl) rfl hl.1 rfl (cat_sum _ (by simp)) dX8_put_81 (show (sz sL - sz σ) + 0 ≤ tp - sz σ ∧ 9 * (sz sL - sz σ) + 0 ≤ 9 * (tp - sz σ) by have q1 := hm.2.1; have q2 := hm.2.2; omega)) hg (fun s45 H locs hm2 h hg => ?_)
    have hm := hm.tn hm2
    refine W_narrow hg hH (show sz s45 ≤ sz σ + (sz s45 - sz σ) by have q1 := hm.2.1; omega) (Nat.le_refl _) ?_
    refine lv_aload_n hx hb dX8_put_84 rfl (lv_at hl 1 rfl) ?_
    refine lv_iload_n hx hb dX8_put_85 rfl (lv_at hl 2 rfl) ?_
    refine lv_aload_n hx hb dX8_put_86 rfl (lv_at hl 1 rfl) ?_
    refine q_getx (ci := 8) (C := RX8) (T := TX8) (N := 14) (j := 1) hx hb hts (fun _ h9 => List.mem_cons_of_mem _ (List.mem_append_left _ (List.mem_append_left _ (List.mem_append_left _ (List.mem_append_left _ (List.mem_append_right _ h9)))))) hown hK hg 0 (by decide) rfl rfl (by decide) rfl 0 (by decide) (hts (.fieldLink RX8 10 "JoinMaps" "grove" "LJoinMaps$Grove;") (List.mem_cons_of_mem _ (List.mem_append_left _ (List.mem_append_left _ (List.mem_append_left _ (List.mem_append_left _ (List.mem_append_left _ (List.mem_append_left _ (List.mem_of_getElem? (i := 3) rfl))))))))) rfl rfl rfl dX8_put_87 ?_
    refine lv_aload_n hx hb dX8_put_90 rfl (lv_at hl 1 rfl) ?_
    refine q_getx (ci := 8) (C := RX8) (T := TX8) (N := 14) (j := 3) hx hb hts (fun _ h9 => List.mem_cons_of_mem _ (List.mem_append_left _ (List.mem_append_left _ (List.mem_append_left _ (List.mem_append_left _ (List.mem_append_right _ h9)))))) hown hK hg 0 (by decide) rfl rfl (by decide) rfl 2 (by decide) (hts (.fieldLink RX8 27 "JoinMaps" "maps" "[LJoinMaps$Node;") (List.mem_cons_of_mem _ (List.mem_append_left _ (List.mem_append_left _ (List.mem_append_left _ (List.mem_append_left _ (List.mem_append_left _ (List.mem_append_left _ (List.mem_of_getElem? (i := 0) rfl))))))))) rfl rfl rfl dX8_put_91 ?_
    refine lv_iload_n hx hb dX8_put_94 rfl (lv_at hl 2 rfl) ?_
    obtain ⟨hP48, hP49, h⟩ := h
    refine q_aald (N := 6) hx hb hK hg 3 (by decide) rfl rfl hP48 hP49 (by decide) dX8_put_95 ?_
    have hS50 : ∀ b, (sf s45 3 (a1 : Int).toNat) = some b → sS s45 b := fun b h0 => GS_F hg h0
    refine lv_iload_n hx hb dX8_put_96 rfl (lv_at hl 3 rfl) ?_
    refine lv_iload_n hx hb dX8_put_97 rfl (lv_at hl 4 rfl) ?_
    refine call_r (run_V (a := ea E 1) (As := [va_rf ((sf s45 3 (a1 : Int).toNat)), .int (iI (a2)), .int (iI (a3))]) (rest := [.int (iI (a1)), .ref (ea E 0)]) ⟨hx, hb, hml, hown, hts⟩ (ctX2_with l E tp (sf s45 3 (a1 : Int).toNat) a2 a3 s45 _ hS50 ha2 ha3 hm.2.2 h) (cwV 3 hts gX8_put_X2_with rfl rfl rfl ⟨rfl, hdX2_with⟩ ⟨Nat.le_of_ble_eq_true rfl, Nat.le_of_ble_eq_true rfl⟩) hK hN hg (recv_x (ci := 2) (C := RX2) (T := TX2) (N := 4) hg hK (by decide) rfl (by decide) rfl) rfl hl.1 rfl (cat_sum _ (by simp)) dX8_put_98 (show (sz s45 - sz σ) + (tp - sz s45) ≤ tp - sz σ ∧ 9 * (sz s45 - sz σ) + 9 * (tp - sz s45) ≤ 9 * (tp - sz σ) by have q1 := hm.2.1; have q2 := hm.2.2; omega)) hg (fun r52 s51 H locs hz53 hm2 h hg => ?_)
    have hm := hm.ta hm2
    refine W_narrow hg hH (show sz s51 ≤ sz σ + (sz s51 - sz σ) by have q1 := hm.2.1; omega) (Nat.le_refl _) ?_
    refine call_i (run_V (a := ea E 0) (As := [.int (iI (a1)), va_rf (r52)]) (rest := []) ⟨hx, hb, hml, hown, hts⟩ (ctX8_settle l E a1 r52 s51 _ ha1 hz53 h) (cwV 2 hts gX8_put_X8_settle rfl rfl rfl ⟨rfl, hdX8_settle⟩ ⟨Nat.le_of_ble_eq_true rfl, Nat.le_of_ble_eq_true rfl⟩) hK hN hg (recv_x (ci := 8) (C := RX8) (T := TX8) (N := 14) hg hK (by decide) rfl (by decide) rfl) rfl hl.1 rfl (cat_sum _ (by simp)) dX8_put_101 (show (sz s51 - sz σ) + 0 ≤ tp - sz σ ∧ 9 * (sz s51 - sz σ) + 0 ≤ 9 * (tp - sz σ) by have q1 := hm.2.1; have q2 := hm.2.2; omega)) hg (fun r55 s54 H locs hz56 hm2 h hg => ?_)
    have hm := hm.tn hm2
    refine W_narrow hg hH (show sz s54 ≤ sz σ + (sz s54 - sz σ) by have q1 := hm.2.1; omega) (Nat.le_refl _) ?_
    refine lv_pop hx hb dX8_put_104 rfl ?_
    refine lv_iload hx hb dX8_put_105 (lv_at hl 0 rfl) ?_
    refine W.widen (k := tp - sz σ) (n := 9 * (tp - sz σ)) (show sz s54 - sz σ ≤ _ by have q1 := hm.2.2; omega) (show 9 * (sz s54 - sz σ) ≤ _ by have q1 := hm.2.2; omega) ?_
    obtain ⟨hR57, h⟩ := h
    exact ret_i hx hb hr hlocks hg hR57 hm h dX8_put_107
  have J63 : ∀ (v4 : Option Nat) (sL : SS) (H : Heap) (locs : List Loc) (ls : Array Slot), (∀ b, v4 = some b → sS sL b) → GS E sL s H locs → Mo tp σ sL → lv_has ls 6 [(0, .ref (ea E 0)), (1, .int (iI (a1))), (2, .int (iI (a2))), (3, .int (iI (a3))), (4, va_rf (v4))] → wX8_put_L63 tp a1 a2 a3 Q  v4 sL → W p l e (headSpec wsX8_put ({ frames := 95, cells := tp - sz σ, slots := 9 * (tp - sz σ), locals := 2431 } : Room)).room s m (List.toArray [.ref (ea E 0), .int (iI (a1)), .int (iI (a2)), .int (iI (a3))]) below meth c H locs (sz sL - sz σ) (9 * (sz sL - sz σ)) (MQ below (Qi E tp σ Q) (List.toArray [.ref (ea E 0), .int (iI (a1)), .int (iI (a2)), .int (iI (a3))]) s (tp - sz σ) (9 * (tp - sz σ)) (Av E)) (F0 m 63 ls []) := by
    intro v4 sL H locs ls mv4 hg hm hl h
    rw [wX8_put_L63] at h
    refine q_aload hx hb dX8_put_63 (lv_at hl 4 rfl) ?_
    refine j_nonnull (tgt := 73) hx hb dX8_put_65 (by decide) (fun b43 c42 => ?_) (fun c42 => ?_)
    · have h := h.2 b43 c42
      refine q_aload hx hb dX8_put_73 (lv_at hl 4 rfl) ?_
      refine q_ngeti_o c42 hx hb hts (fun _ h9 => List.mem_cons_of_mem _ (List.mem_append_left _ (List.mem_append_left _ (List.mem_append_left _ (List.mem_append_right _ h9))))) hown hK hg (mv4 b43 c42) 1 (by decide) (hts (.fieldLink RX8 101 "JoinMaps$Node" "value" "I") (List.mem_cons_of_mem _ (List.mem_append_left _ (List.mem_append_left _ (List.mem_append_left _ (List.mem_append_left _ (List.mem_append_left _ (List.mem_append_left _ (List.mem_of_getElem? (i := 2) rfl))))))))) rfl rfl dX8_put_75 ?_
      have hR44 := GS_R hg (b43 + 64) 1
      exact J78  ((sn sL (b43 + 64) 1)) (sL) _ _ _ hg hm (lv_sub hl [0, 1, 2, 3] rfl) h
    · have h := h.1 c42
      refine q_ldc (z := (-2000000001)) hx hb hown (hts (.constant RX8 100 (-2000000001)) (List.mem_cons_of_mem _ (List.mem_append_left _ (List.mem_append_left _ (List.mem_append_left _ (List.mem_append_left _ (List.mem_append_left _ (List.mem_append_left _ (List.mem_of_getElem? (i := 1) rfl))))))))) (by decide) dX8_put_68 ?_
      refine lv_goto (tgt := 78) hx hb dX8_put_70 (by decide) ?_
      exact J78  ((-2000000001)) (sL) _ _ _ hg hm (lv_sub hl [0, 1, 2, 3] rfl) h
  refine lv_iload_n hx hb dX8_put_0 rfl (lv_at hl 1 rfl) ?_
  refine call_z (run_S (As := [.int (iI (a1))]) (rest := []) ⟨hx, hb, hml, hown, hts⟩ (ctX8_isMap l E a1 σ _ ha1 h) (va_cwS 1 hts gX8_put_X8_isMap rfl rfl rfl hdX8_isMap ⟨Nat.le_of_ble_eq_true rfl, Nat.le_of_ble_eq_true rfl⟩) hK hN hg rfl hl.1 rfl (cat_sum _ (by simp)) dX8_put_1 (show (sz σ - sz σ) + 0 ≤ tp - sz σ ∧ 9 * (sz σ - sz σ) + 0 ≤ 9 * (tp - sz σ) by have q1 := hm.2.1; have q2 := hm.2.2; omega)) hg (fun r2 s1 H locs hz3 hm2 h hg => ?_)
  have hm := hm.tn hm2
  refine W_narrow hg hH (show sz s1 ≤ sz σ + (sz s1 - sz σ) by have q1 := hm.2.1; omega) (Nat.le_refl _) ?_
  refine k_eq (tgt := 21) hx hb dX8_put_4 (by decide) (z_R hz3) (fun c4 => ?_) (fun c4 => ?_)
  · have h := h.1 c4
    refine lv_aload_n hx hb dX8_put_21 rfl (lv_at hl 0 rfl) ?_
    refine call_i (run_V (a := ea E 0) (As := []) (rest := []) ⟨hx, hb, hml, hown, hts⟩ (ctX8_bad l E  s1 _  h) (cwV 0 hts gX8_put_X8_bad rfl rfl rfl ⟨rfl, hdX8_bad⟩ ⟨Nat.le_of_ble_eq_true rfl, Nat.le_of_ble_eq_true rfl⟩) hK hN hg (recv_x (ci := 8) (C := RX8) (T := TX8) (N := 14) hg hK (by decide) rfl (by decide) rfl) rfl hl.1 rfl (cat_sum _ (by simp)) dX8_put_22 (show (sz s1 - sz σ) + 0 ≤ tp - sz σ ∧ 9 * (sz s1 - sz σ) + 0 ≤ 9 * (tp - sz σ) by have q1 := hm.2.1; have q2 := hm.2.2; omega)) hg (fun r6 s5 H locs hz7 hm2 h hg => ?_)
    have hm := hm.tn hm2
    refine W_narrow hg hH (show sz s5 ≤ sz σ + (sz s5 - sz σ) by have q1 := hm.2.1; omega) (Nat.le_refl _) ?_
    refine W.widen (k := tp - sz σ) (n := 9 * (tp - sz σ)) (show sz s5 - sz σ ≤ _ by have q1 := hm.2.2; omega) (show 9 * (sz s5 - sz σ) ≤ _ by have q1 := hm.2.2; omega) ?_
    exact ret_i hx hb hr hlocks hg hz7 hm h dX8_put_25
  · have h := h.2 c4
    refine lv_iload_n hx hb dX8_put_7 rfl (lv_at hl 2 rfl) ?_
    refine call_z (run_S (As := [.int (iI (a2))]) (rest := []) ⟨hx, hb, hml, hown, hts⟩ (ctX8_isKey l E a2 s1 _ ha2 h) (va_cwS 1 hts gX8_put_X8_isKey rfl rfl rfl hdX8_isKey ⟨Nat.le_of_ble_eq_true rfl, Nat.le_of_ble_eq_true rfl⟩) hK hN hg rfl hl.1 rfl (cat_sum _ (by simp)) dX8_put_8 (show (sz s1 - sz σ) + 0 ≤ tp - sz σ ∧ 9 * (sz s1 - sz σ) + 0 ≤ 9 * (tp - sz σ) by have q1 := hm.2.1; have q2 := hm.2.2; omega)) hg (fun r9 s8 H locs hz10 hm2 h hg => ?_)
    have hm := hm.tn hm2
    refine W_narrow hg hH (show sz s8 ≤ sz σ + (sz s8 - sz σ) by have q1 := hm.2.1; omega) (Nat.le_refl _) ?_
    refine k_eq (tgt := 21) hx hb dX8_put_11 (by decide) (z_R hz10) (fun c11 => ?_) (fun c11 => ?_)
    · have h := h.1 c11
      refine lv_aload_n hx hb dX8_put_21 rfl (lv_at hl 0 rfl) ?_
      refine call_i (run_V (a := ea E 0) (As := []) (rest := []) ⟨hx, hb, hml, hown, hts⟩ (ctX8_bad l E  s8 _  h) (cwV 0 hts gX8_put_X8_bad rfl rfl rfl ⟨rfl, hdX8_bad⟩ ⟨Nat.le_of_ble_eq_true rfl, Nat.le_of_ble_eq_true rfl⟩) hK hN hg (recv_x (ci := 8) (C := RX8) (T := TX8) (N := 14) hg hK (by decide) rfl (by decide) rfl) rfl hl.1 rfl (cat_sum _ (by simp)) dX8_put_22 (show (sz s8 - sz σ) + 0 ≤ tp - sz σ ∧ 9 * (sz s8 - sz σ) + 0 ≤ 9 * (tp - sz σ) by have q1 := hm.2.1; have q2 := hm.2.2; omega)) hg (fun r13 s12 H locs hz14 hm2 h hg => ?_)
      have hm := hm.tn hm2
      refine W_narrow hg hH (show sz s12 ≤ sz σ + (sz s12 - sz σ) by have q1 := hm.2.1; omega) (Nat.le_refl _) ?_
      refine W.widen (k := tp - sz σ) (n := 9 * (tp - sz σ)) (show sz s12 - sz σ ≤ _ by have q1 := hm.2.2; omega) (show 9 * (sz s12 - sz σ) ≤ _ by have q1 := hm.2.2; omega) ?_
      exact ret_i hx hb hr hlocks hg hz14 hm h dX8_put_25
    · have h := h.2 c11
      refine lv_iload_n hx hb dX8_put_14 rfl (lv_at hl 3 rfl) ?_
      refine call_z (run_S (As := [.int (iI (a3))]) (rest := []) ⟨hx, hb, hml, hown, hts⟩ (ctX8_isValue l E a3 s8 _ ha3 h) (va_cwS 1 hts gX8_put_X8_isValue rfl rfl rfl hdX8_isValue ⟨Nat.le_of_ble_eq_true rfl, Nat.le_of_ble_eq_true rfl⟩) hK hN hg rfl hl.1 rfl (cat_sum _ (by simp)) dX8_put_15 (show (sz s8 - sz σ) + 0 ≤ tp - sz σ ∧ 9 * (sz s8 - sz σ) + 0 ≤ 9 * (tp - sz σ) by have q1 := hm.2.1; have q2 := hm.2.2; omega)) hg (fun r16 s15 H locs hz17 hm2 h hg => ?_)
      have hm := hm.tn hm2
      refine W_narrow hg hH (show sz s15 ≤ sz σ + (sz s15 - sz σ) by have q1 := hm.2.1; omega) (Nat.le_refl _) ?_
      refine k_ne (tgt := 26) hx hb dX8_put_18 (by decide) (z_R hz17) (fun c18 => ?_) (fun c18 => ?_)
      · have h := h.1 c18
        refine lv_aload_n hx hb dX8_put_26 rfl (lv_at hl 0 rfl) ?_
        refine q_getx (ci := 8) (C := RX8) (T := TX8) (N := 14) (j := 3) hx hb hts (fun _ h9 => List.mem_cons_of_mem _ (List.mem_append_left _ (List.mem_append_left _ (List.mem_append_left _ (List.mem_append_left _ (List.mem_append_right _ h9)))))) hown hK hg 0 (by decide) rfl rfl (by decide) rfl 2 (by decide) (hts (.fieldLink RX8 27 "JoinMaps" "maps" "[LJoinMaps$Node;") (List.mem_cons_of_mem _ (List.mem_append_left _ (List.mem_append_left _ (List.mem_append_left _ (List.mem_append_left _ (List.mem_append_left _ (List.mem_append_left _ (List.mem_of_getElem? (i := 0) rfl))))))))) rfl rfl rfl dX8_put_27 ?_
        refine lv_iload_n hx hb dX8_put_30 rfl (lv_at hl 1 rfl) ?_
        obtain ⟨hP19, hP20, h⟩ := h
        refine q_aald (N := 6) hx hb hK hg 3 (by decide) rfl rfl hP19 hP20 (by decide) dX8_put_31 ?_
        have hS21 : ∀ b, (sf s15 3 (a1 : Int).toNat) = some b → sS s15 b := fun b h0 => GS_F hg h0
        refine lv_iload_n hx hb dX8_put_32 rfl (lv_at hl 2 rfl) ?_
        refine call_r (run_S (As := [va_rf ((sf s15 3 (a1 : Int).toNat)), .int (iI (a2))]) (rest := []) ⟨hx, hb, hml, hown, hts⟩ (ctX3_find l E (sf s15 3 (a1 : Int).toNat) a2 s15 _ hS21 ha2 h) (va_cwS 2 hts gX8_put_X3_find rfl rfl rfl hdX3_find ⟨Nat.le_of_ble_eq_true rfl, Nat.le_of_ble_eq_true rfl⟩) hK hN hg rfl hl.1 rfl (cat_sum _ (by simp)) dX8_put_33 (show (sz s15 - sz σ) + 0 ≤ tp - sz σ ∧ 9 * (sz s15 - sz σ) + 0 ≤ 9 * (tp - sz σ) by have q1 := hm.2.1; have q2 := hm.2.2; omega)) hg (fun r23 s22 H locs hz24 hm2 h hg => ?_)
        have hm := hm.tn hm2
        refine W_narrow hg hH (show sz s22 ≤ sz σ + (sz s22 - sz σ) by have q1 := hm.2.1; omega) (Nat.le_refl _) ?_
        refine q_astore (i := 4) (lv' := [(4, va_rf (r23)), (0, .ref (ea E 0)), (1, .int (iI (a1))), (2, .int (iI (a2))), (3, .int (iI (a3)))]) hx hb dX8_put_36 hl (by decide) (by simp [List.filter_cons, rf_cat, ct_i, ct_l, ct_x]) (fun ls hl => ?_)
        refine q_aload hx hb dX8_put_38 (lv_at hl 0 rfl) ?_
        refine j_nonnull (tgt := 63) hx hb dX8_put_40 (by decide) (fun b26 c25 => ?_) (fun c25 => ?_)
        · have h := h.2 b26 c25
          exact J63  (r23) (s22) _ _ _ hz24 hg hm (lv_sub hl [1, 2, 3, 4, 0] rfl) h
        · have h := h.1 c25
          refine lv_aload_n hx hb dX8_put_43 rfl (lv_at hl 1 rfl) ?_
          refine q_getx (ci := 8) (C := RX8) (T := TX8) (N := 14) (j := 3) hx hb hts (fun _ h9 => List.mem_cons_of_mem _ (List.mem_append_left _ (List.mem_append_left _ (List.mem_append_left _ (List.mem_append_left _ (List.mem_append_right _ h9)))))) hown hK hg 0 (by decide) rfl rfl (by decide) rfl 2 (by decide) (hts (.fieldLink RX8 27 "JoinMaps" "maps" "[LJoinMaps$Node;") (List.mem_cons_of_mem _ (List.mem_append_left _ (List.mem_append_left _ (List.mem_append_left _ (List.mem_append_left _ (List.mem_append_left _ (List.mem_append_left _ (List.mem_of_getElem? (i := 0) rfl))))))))) rfl rfl rfl dX8_put_44 ?_
          refine lv_iload_n hx hb dX8_put_47 rfl (lv_at hl 2 rfl) ?_
          obtain ⟨hP27, hP28, h⟩ := h
          refine q_aald (N := 6) hx hb hK hg 3 (by decide) rfl rfl hP27 hP28 (by decide) dX8_put_48 ?_
          have hS29 : ∀ b, (sf s22 3 (a1 : Int).toNat) = some b → sS s22 b := fun b h0 => GS_F hg h0
          refine call_i (run_S (As := [va_rf ((sf s22 3 (a1 : Int).toNat))]) (rest := []) ⟨hx, hb, hml, hown, hts⟩ (ctX3_countOf l E (sf s22 3 (a1 : Int).toNat) s22 _ hS29 h) (va_cwS 1 hts gX8_put_X3_countOf rfl rfl rfl hdX3_countOf ⟨Nat.le_of_ble_eq_true rfl, Nat.le_of_ble_eq_true rfl⟩) hK hN hg rfl hl.1 rfl (cat_sum _ (by simp)) dX8_put_49 (show (sz s22 - sz σ) + 0 ≤ tp - sz σ ∧ 9 * (sz s22 - sz σ) + 0 ≤ 9 * (tp - sz σ) by have q1 := hm.2.1; have q2 := hm.2.2; omega)) hg (fun r31 s30 H locs hz32 hm2 h hg => ?_)
          have hS33 : ∀ b, r23 = some b → sS s30 b := (fun b h0 => hm2.1 b (hz24 b h0))
          have hm := hm.tn hm2
          refine W_narrow hg hH (show sz s30 ≤ sz σ + (sz s30 - sz σ) by have q1 := hm.2.1; omega) (Nat.le_refl _) ?_
          refine lv_sipush (v := iI 200) hx hb dX8_put_52 (by decide) ?_
          refine j_lt (tgt := 63) hx hb dX8_put_55 (by decide) hz32 (by decide) (fun c34 => ?_) (fun c34 => ?_)
          · have h := h.1 c34
            exact J63  (r23) (s30) _ _ _ hS33 hg hm (lv_sub hl [1, 2, 3, 4, 0] rfl) h
          · have h := h.2 c34
            refine lv_aload_n hx hb dX8_put_58 rfl (lv_at hl 1 rfl) ?_
            refine call_i (run_V (a := ea E 0) (As := []) (rest := []) ⟨hx, hb, hml, hown, hts⟩ (ctX8_full l E  s30 _  h) (cwV 0 hts gX8_put_X8_full rfl rfl rfl ⟨rfl, hdX8_full⟩ ⟨Nat.le_of_ble_eq_true rfl, Nat.le_of_ble_eq_true rfl⟩) hK hN hg (recv_x (ci := 8) (C := RX8) (T := TX8) (N := 14) hg hK (by decide) rfl (by decide) rfl) rfl hl.1 rfl (cat_sum _ (by simp)) dX8_put_59 (show (sz s30 - sz σ) + 0 ≤ tp - sz σ ∧ 9 * (sz s30 - sz σ) + 0 ≤ 9 * (tp - sz σ) by have q1 := hm.2.1; have q2 := hm.2.2; omega)) hg (fun r36 s35 H locs hz37 hm2 h hg => ?_)
            have hS38 : ∀ b, r23 = some b → sS s35 b := (fun b h0 => hm2.1 b (hS33 b h0))
            have hm := hm.tn hm2
            refine W_narrow hg hH (show sz s35 ≤ sz σ + (sz s35 - sz σ) by have q1 := hm.2.1; omega) (Nat.le_refl _) ?_
            refine W.widen (k := tp - sz σ) (n := 9 * (tp - sz σ)) (show sz s35 - sz σ ≤ _ by have q1 := hm.2.2; omega) (show 9 * (sz s35 - sz σ) ≤ _ by have q1 := hm.2.2; omega) ?_
            exact ret_i hx hb hr hlocks hg hz37 hm h dX8_put_62
      · have h := h.2 c18
        refine lv_aload_n hx hb dX8_put_21 rfl (lv_at hl 0 rfl) ?_
        refine call_i (run_V (a := ea E 0) (As := []) (rest := []) ⟨hx, hb, hml, hown, hts⟩ (ctX8_bad l E  s15 _  h) (cwV 0 hts gX8_put_X8_bad rfl rfl rfl ⟨rfl, hdX8_bad⟩ ⟨Nat.le_of_ble_eq_true rfl, Nat.le_of_ble_eq_true rfl⟩) hK hN hg (recv_x (ci := 8) (C := RX8) (T := TX8) (N := 14) hg hK (by decide) rfl (by decide) rfl) rfl hl.1 rfl (cat_sum _ (by simp)) dX8_put_22 (show (sz s15 - sz σ) + 0 ≤ tp - sz σ ∧ 9 * (sz s15 - sz σ) + 0 ≤ 9 * (tp - sz σ) by have q1 := hm.2.1; have q2 := hm.2.2; omega)) hg (fun r40 s39 H locs hz41 hm2 h hg => ?_)
        have hm := hm.tn hm2
        refine W_narrow hg hH (show sz s39 ≤ sz σ + (sz s39 - sz σ) by have q1 := hm.2.1; omega) (Nat.le_refl _) ?_
        refine W.widen (k := tp - sz σ) (n := 9 * (tp - sz σ)) (show sz s39 - sz σ ≤ _ by have q1 := hm.2.2; omega) (show 9 * (sz s39 - sz σ) ≤ _ by have q1 := hm.2.2; omega) ?_
        exact ret_i hx hb hr hlocks hg hz41 hm h dX8_put_25
theorem hdX8_no : yX8_no.cls ≠ "java/lang/invoke/MethodHandle" ∧ yX8_no.cls ≠ "java/lang/invoke/VarHandle" ∧ (parseMethodDescriptor yX8_no.desc).map (fun d => d.parameters.length) = some 0 := by decide +kernel
set_option maxRecDepth 100000 in
set_option maxHeartbeats 4000000 in
theorem ctX8_no (l : Launch) (E : Ev)  (σ : SS) (Q : Int → SS → Prop)  (h : wX8_no  σ Q) : Met l yX8_no wsX8_no ({ frames := 0, cells := 0, slots := 0, locals := 0 } : Room) (Pc E σ [.ref (ea E 0)]) (Qi E (sz σ) σ Q) 0 0 (Av E) := by
  rw [wX8_no] at h
  refine Met.ofW (cc := cX8_no) (maxL := 1) (ret := (some .int)) (by decide) rfl ?_
  intro p e s m args below meth c s₁ B hml hv
  obtain ⟨rfl, hH, hK, hN⟩ := hv
  have hx := B.exec
  have hb := B.bytes
  have hr := B.returns
  have hts := atoms_spec (ws := wsX8_no) B.pre
  have hown : s.vm.findClass RX8 = some m.cls := findClass_of_methodNamed B.named
  have hlocks := B.notSynchronized
  have hg : GS E σ s s.heap [] := ⟨hH, va_S.rf⟩
  have hm : Mo (sz σ) σ σ := Mo.rf (Nat.le_refl _)
  have hl := ent (vs := [.ref (ea E 0)]) (n := 1) (cats_x cats_nil) (Nat.le_of_ble_eq_true rfl)
  rw [lg_entry_eq]
  generalize (lg_sl ([.ref (ea E 0)]) ++ List.replicate (1 - (lg_sl ([.ref (ea E 0)])).length) Slot.unset).toArray = ls at hl ⊢
  have hl : lv_has ls 1 [(0, .ref (ea E 0))] := hl
  refine lv_aload_n hx hb dX8_no_0 rfl (lv_at hl 0 rfl) ?_
  refine lv_dup hx hb dX8_no_1 rfl ?_
  refine q_geti (ci := 8) (C := RX8) (T := TX8) (N := 14) hx hb hts (fun _ h9 => List.mem_cons_of_mem _ (List.mem_append_right _ h9)) hown hK hg 0 (by decide) rfl rfl (by decide) rfl 12 (by decide) (hts (.fieldLink RX8 276 "JoinMaps" "noes" "I") (List.mem_cons_of_mem _ (List.mem_append_left _ (List.mem_of_getElem? (i := 0) rfl)))) rfl rfl dX8_no_2 ?_
  have hR1 := GS_R hg 0 12
  refine lv_iconst (v := iI 1) hx hb dX8_no_5 (by decide) ?_
  refine q_iadd hx hb dX8_no_6 ?_
  obtain ⟨hR2, h⟩ := h
  refine q_puti (ci := 8) (C := RX8) (T := TX8) (N := 14) hx hb hts (fun _ h9 => List.mem_cons_of_mem _ (List.mem_append_right _ h9)) tyX8 tyX8_ok nmX8 hown hK hg 0 (by decide) rfl rfl (by decide) rfl 12 (by decide) (hts (.fieldLink RX8 276 "JoinMaps" "noes" "I") (List.mem_cons_of_mem _ (List.mem_append_left _ (List.mem_of_getElem? (i := 0) rfl)))) rfl rfl (by decide +kernel) rfl hR2 dX8_no_7 (fun H locs hg => ?_)
  refine q_ldcw (z := (-2000000003)) hx hb hown (hts (.constant RX8 293 (-2000000003)) (List.mem_cons_of_mem _ (List.mem_append_left _ (List.mem_of_getElem? (i := 1) rfl)))) (by decide) dX8_no_10 ?_
  exact ret_i hx hb hr hlocks hg (by decide) hm h dX8_no_13
theorem hdX8_remove : yX8_remove.cls ≠ "java/lang/invoke/MethodHandle" ∧ yX8_remove.cls ≠ "java/lang/invoke/VarHandle" ∧ (parseMethodDescriptor yX8_remove.desc).map (fun d => d.parameters.length) = some 2 := by decide +kernel
set_option maxRecDepth 100000 in
set_option maxHeartbeats 4000000 in
theorem ctX8_remove (l : Launch) (E : Ev) (tp : Nat) (a1 : Int) (a2 : Int) (σ : SS) (Q : Int → SS → Prop) (ha1 : R32 a1) (ha2 : R32 a2) (ht : sz σ ≤ tp) (h : wX8_remove tp a1 a2 σ Q) : Met l yX8_remove wsX8_remove ({ frames := 96, cells := tp - sz σ, slots := 9 * (tp - sz σ), locals := 2454 } : Room) (Pc E σ [.ref (ea E 0), .int (iI (a1)), .int (iI (a2))]) (Qi E tp σ Q) (tp - sz σ) (9 * (tp - sz σ)) (Av E) := by
  rw [wX8_remove] at h
  refine Met.ofW (cc := cX8_remove) (maxL := 5) (ret := (some .int)) (by decide) rfl ?_
  intro p e s m args below meth c s₁ B hml hv
  obtain ⟨rfl, hH, hK, hN⟩ := hv
  have hx := B.exec
  have hb := B.bytes
  have hr := B.returns
  have hts := atoms_spec (ws := wsX8_remove) B.pre
  have hown : s.vm.findClass RX8 = some m.cls := findClass_of_methodNamed B.named
  have hlocks := B.notSynchronized
  have hg : GS E σ s s.heap [] := ⟨hH, va_S.rf⟩
  have hm : Mo tp σ σ := Mo.rf ht
  have hl := ent (vs := [.ref (ea E 0), .int (iI (a1)), .int (iI (a2))]) (n := 5) (cats_x (cats_i (cats_i cats_nil))) (Nat.le_of_ble_eq_true rfl)
  rw [lg_entry_eq]
  generalize (lg_sl ([.ref (ea E 0), .int (iI (a1)), .int (iI (a2))]) ++ List.replicate (5 - (lg_sl ([.ref (ea E 0), .int (iI (a1)), .int (iI (a2))])).length) Slot.unset).toArray = ls at hl ⊢
  have hl : lv_has ls 5 [(0, .ref (ea E 0)), (1, .int (iI (a1))), (2, .int (iI (a2)))] := hl
  refine W_narrow hg hH (show sz σ ≤ sz σ + (sz σ - sz σ) by omega) (show 9 * (sz σ - sz σ) ≤ 9 * (sz σ - sz σ) from Nat.le_refl _) ?_
  refine lv_iload_n hx hb dX8_remove_0 rfl (lv_at hl 1 rfl) ?_
  refine call_z (run_S (As := [.int (iI (a1))]) (rest := []) ⟨hx, hb, hml, hown, hts⟩ (ctX8_isMap l E a1 σ _ ha1 h) (va_cwS 1 hts gX8_remove_X8_isMap rfl rfl rfl hdX8_isMap ⟨Nat.le_of_ble_eq_true rfl, Nat.le_of_ble_eq_true rfl⟩) hK hN hg rfl hl.1 rfl (cat_sum _ (by simp)) dX8_remove_1 (show (sz σ - sz σ) + 0 ≤ tp - sz σ ∧ 9 * (sz σ - sz σ) + 0 ≤ 9 * (tp - sz σ) by have q1 := hm.2.1; have q2 := hm.2.2; omega)) hg (fun r2 s1 H locs hz3 hm2 h hg => ?_)
  have hm := hm.tn hm2
  refine W_narrow hg hH (show sz s1 ≤ sz σ + (sz s1 - sz σ) by have q1 := hm.2.1; omega) (Nat.le_refl _) ?_
  refine k_eq (tgt := 14) hx hb dX8_remove_4 (by decide) (z_R hz3) (fun c4 => ?_) (fun c4 => ?_)
  · have h := h.1 c4
    refine lv_aload_n hx hb dX8_remove_14 rfl (lv_at hl 0 rfl) ?_
    refine call_i (run_V (a := ea E 0) (As := []) (rest := []) ⟨hx, hb, hml, hown, hts⟩ (ctX8_bad l E  s1 _  h) (cwV 0 hts gX8_remove_X8_bad rfl rfl rfl ⟨rfl, hdX8_bad⟩ ⟨Nat.le_of_ble_eq_true rfl, Nat.le_of_ble_eq_true rfl⟩) hK hN hg (recv_x (ci := 8) (C := RX8) (T := TX8) (N := 14) hg hK (by decide) rfl (by decide) rfl) rfl hl.1 rfl (cat_sum _ (by simp)) dX8_remove_15 (show (sz s1 - sz σ) + 0 ≤ tp - sz σ ∧ 9 * (sz s1 - sz σ) + 0 ≤ 9 * (tp - sz σ) by have q1 := hm.2.1; have q2 := hm.2.2; omega)) hg (fun r6 s5 H locs hz7 hm2 h hg => ?_)
    have hm := hm.tn hm2
    refine W_narrow hg hH (show sz s5 ≤ sz σ + (sz s5 - sz σ) by have q1 := hm.2.1; omega) (Nat.le_refl _) ?_
    refine W.widen (k := tp - sz σ) (n := 9 * (tp - sz σ)) (show sz s5 - sz σ ≤ _ by have q1 := hm.2.2; omega) (show 9 * (sz s5 - sz σ) ≤ _ by have q1 := hm.2.2; omega) ?_
    exact ret_i hx hb hr hlocks hg hz7 hm h dX8_remove_18
  · have h := h.2 c4
    refine lv_iload_n hx hb dX8_remove_7 rfl (lv_at hl 2 rfl) ?_
    refine call_z (run_S (As := [.int (iI (a2))]) (rest := []) ⟨hx, hb, hml, hown, hts⟩ (ctX8_isKey l E a2 s1 _ ha2 h) (va_cwS 1 hts gX8_remove_X8_isKey rfl rfl rfl hdX8_isKey ⟨Nat.le_of_ble_eq_true rfl, Nat.le_of_ble_eq_true rfl⟩) hK hN hg rfl hl.1 rfl (cat_sum _ (by simp)) dX8_remove_8 (show (sz s1 - sz σ) + 0 ≤ tp - sz σ ∧ 9 * (sz s1 - sz σ) + 0 ≤ 9 * (tp - sz σ) by have q1 := hm.2.1; have q2 := hm.2.2; omega)) hg (fun r9 s8 H locs hz10 hm2 h hg => ?_)
    have hm := hm.tn hm2
    refine W_narrow hg hH (show sz s8 ≤ sz σ + (sz s8 - sz σ) by have q1 := hm.2.1; omega) (Nat.le_refl _) ?_
    refine k_ne (tgt := 19) hx hb dX8_remove_11 (by decide) (z_R hz10) (fun c11 => ?_) (fun c11 => ?_)
    · have h := h.1 c11
      refine lv_aload_n hx hb dX8_remove_19 rfl (lv_at hl 0 rfl) ?_
      refine q_getx (ci := 8) (C := RX8) (T := TX8) (N := 14) (j := 3) hx hb hts (fun _ h9 => List.mem_cons_of_mem _ (List.mem_append_left _ (List.mem_append_left _ (List.mem_append_left _ (List.mem_append_left _ (List.mem_append_right _ h9)))))) hown hK hg 0 (by decide) rfl rfl (by decide) rfl 2 (by decide) (hts (.fieldLink RX8 27 "JoinMaps" "maps" "[LJoinMaps$Node;") (List.mem_cons_of_mem _ (List.mem_append_left _ (List.mem_append_left _ (List.mem_append_left _ (List.mem_append_left _ (List.mem_append_left _ (List.mem_append_left _ (List.mem_of_getElem? (i := 0) rfl))))))))) rfl rfl rfl dX8_remove_20 ?_
      refine lv_iload_n hx hb dX8_remove_23 rfl (lv_at hl 1 rfl) ?_
      obtain ⟨hP12, hP13, h⟩ := h
      refine q_aald (N := 6) hx hb hK hg 3 (by decide) rfl rfl hP12 hP13 (by decide) dX8_remove_24 ?_
      have hS14 : ∀ b, (sf s8 3 (a1 : Int).toNat) = some b → sS s8 b := fun b h0 => GS_F hg h0
      refine lv_iload_n hx hb dX8_remove_25 rfl (lv_at hl 2 rfl) ?_
      refine call_r (run_S (As := [va_rf ((sf s8 3 (a1 : Int).toNat)), .int (iI (a2))]) (rest := []) ⟨hx, hb, hml, hown, hts⟩ (ctX3_find l E (sf s8 3 (a1 : Int).toNat) a2 s8 _ hS14 ha2 h) (va_cwS 2 hts gX8_remove_X3_find rfl rfl rfl hdX3_find ⟨Nat.le_of_ble_eq_true rfl, Nat.le_of_ble_eq_true rfl⟩) hK hN hg rfl hl.1 rfl (cat_sum _ (by simp)) dX8_remove_26 (show (sz s8 - sz σ) + 0 ≤ tp - sz σ ∧ 9 * (sz s8 - sz σ) + 0 ≤ 9 * (tp - sz σ) by have q1 := hm.2.1; have q2 := hm.2.2; omega)) hg (fun r16 s15 H locs hz17 hm2 h hg => ?_)
      have hm := hm.tn hm2
      refine W_narrow hg hH (show sz s15 ≤ sz σ + (sz s15 - sz σ) by have q1 := hm.2.1; omega) (Nat.le_refl _) ?_
      refine q_astore_n (i := 3) (lv' := [(3, va_rf (r16)), (0, .ref (ea E 0)), (1, .int (iI (a1))), (2, .int (iI (a2)))]) hx hb dX8_remove_29 rfl hl (by decide) (by simp [List.filter_cons, rf_cat, ct_i, ct_l, ct_x]) (fun ls hl => ?_)
      refine q_aload_n hx hb dX8_remove_30 rfl (lv_at hl 0 rfl) ?_
      refine j_nonnull (tgt := 39) hx hb dX8_remove_31 (by decide) (fun b19 c18 => ?_) (fun c18 => ?_)
      · have h := h.2 b19 c18
        refine q_aload_n hx hb dX8_remove_39 rfl (lv_at hl 0 rfl) ?_
        refine q_ngeti_o c18 hx hb hts (fun _ h9 => List.mem_cons_of_mem _ (List.mem_append_left _ (List.mem_append_left _ (List.mem_append_left _ (List.mem_append_right _ h9))))) hown hK hg (hz17 b19 c18) 1 (by decide) (hts (.fieldLink RX8 101 "JoinMaps$Node" "value" "I") (List.mem_cons_of_mem _ (List.mem_append_left _ (List.mem_append_left _ (List.mem_append_left _ (List.mem_append_left _ (List.mem_append_left _ (List.mem_append_left _ (List.mem_of_getElem? (i := 1) rfl))))))))) rfl rfl dX8_remove_40 ?_
        have hR20 := GS_R hg (b19 + 64) 1
        refine lv_istore (i := 4) (lv' := [(4, .int (iI ((sn s15 (b19 + 64) 1)))), (3, va_rf (r16)), (0, .ref (ea E 0)), (1, .int (iI (a1))), (2, .int (iI (a2)))]) hx hb dX8_remove_43 hl (by decide) (by simp [List.filter_cons, rf_cat, ct_i, ct_l, ct_x]) (fun ls hl => ?_)
        refine lv_aload_n hx hb dX8_remove_45 rfl (lv_at hl 2 rfl) ?_
        refine call_v (run_V (a := ea E 0) (As := []) (rest := []) ⟨hx, hb, hml, hown, hts⟩ (ctX8_startChange l E  s15 _  h) (cwV 0 hts gX8_remove_X8_startChange rfl rfl rfl ⟨rfl, hdX8_startChange⟩ ⟨Nat.le_of_ble_eq_true rfl, Nat.le_of_ble_eq_true rfl⟩) hK hN hg (recv_x (ci := 8) (C := RX8) (T := TX8) (N := 14) hg hK (by decide) rfl (by decide) rfl) rfl hl.1 rfl (cat_sum _ (by simp)) dX8_remove_46 (show (sz s15 - sz σ) + 0 ≤ tp - sz σ ∧ 9 * (sz s15 - sz σ) + 0 ≤ 9 * (tp - sz σ) by have q1 := hm.2.1; have q2 := hm.2.2; omega)) hg (fun s21 H locs hm2 h hg => ?_)
        have hS24 : ∀ b, r16 = some b → sS s21 b := (fun b h0 => hm2.1 b (hz17 b h0))
        have hm := hm.tn hm2
        refine W_narrow hg hH (show sz s21 ≤ sz σ + (sz s21 - sz σ) by have q1 := hm.2.1; omega) (Nat.le_refl _) ?_
        refine lv_aload_n hx hb dX8_remove_49 rfl (lv_at hl 2 rfl) ?_
        refine lv_iload_n hx hb dX8_remove_50 rfl (lv_at hl 3 rfl) ?_
        refine lv_aload_n hx hb dX8_remove_51 rfl (lv_at hl 2 rfl) ?_
        refine q_getx (ci := 8) (C := RX8) (T := TX8) (N := 14) (j := 1) hx hb hts (fun _ h9 => List.mem_cons_of_mem _ (List.mem_append_left _ (List.mem_append_left _ (List.mem_append_left _ (List.mem_append_left _ (List.mem_append_right _ h9)))))) hown hK hg 0 (by decide) rfl rfl (by decide) rfl 0 (by decide) (hts (.fieldLink RX8 10 "JoinMaps" "grove" "LJoinMaps$Grove;") (List.mem_cons_of_mem _ (List.mem_append_left _ (List.mem_append_left _ (List.mem_append_left _ (List.mem_append_left _ (List.mem_append_left _ (List.mem_append_left _ (List.mem_of_getElem? (i := 2) rfl))))))))) rfl rfl rfl dX8_remove_52 ?_
        refine lv_aload_n hx hb dX8_remove_55 rfl (lv_at hl 2 rfl) ?_
        refine q_getx (ci := 8) (C := RX8) (T := TX8) (N := 14) (j := 3) hx hb hts (fun _ h9 => List.mem_cons_of_mem _ (List.mem_append_left _ (List.mem_append_left _ (List.mem_append_left _ (List.mem_append_left _ (List.mem_append_right _ h9)))))) hown hK hg 0 (by decide) rfl rfl (by decide) rfl 2 (by decide) (hts (.fieldLink RX8 27 "JoinMaps" "maps" "[LJoinMaps$Node;") (List.mem_cons_of_mem _ (List.mem_append_left _ (List.mem_append_left _ (List.mem_append_left _ (List.mem_append_left _ (List.mem_append_left _ (List.mem_append_left _ (List.mem_of_getElem? (i := 0) rfl))))))))) rfl rfl rfl dX8_remove_56 ?_
        refine lv_iload_n hx hb dX8_remove_59 rfl (lv_at hl 3 rfl) ?_
        obtain ⟨hP25, hP26, h⟩ := h
        refine q_aald (N := 6) hx hb hK hg 3 (by decide) rfl rfl hP25 hP26 (by decide) dX8_remove_60 ?_
        have hS27 : ∀ b, (sf s21 3 (a1 : Int).toNat) = some b → sS s21 b := fun b h0 => GS_F hg h0
        refine lv_iload_n hx hb dX8_remove_61 rfl (lv_at hl 4 rfl) ?_
        refine lv_iload_n hx hb dX8_remove_62 rfl (lv_at hl 4 rfl) ?_
        refine call_r (run_V (a := ea E 1) (As := [va_rf ((sf s21 3 (a1 : Int).toNat)), .int (iI (a2)), .int (iI (a2))]) (rest := [.int (iI (a1)), .ref (ea E 0)]) ⟨hx, hb, hml, hown, hts⟩ (ctX2_without l E tp (sf s21 3 (a1 : Int).toNat) a2 a2 s21 _ hS27 ha2 ha2 hm.2.2 h) (cwV 3 hts gX8_remove_X2_without rfl rfl rfl ⟨rfl, hdX2_without⟩ ⟨Nat.le_of_ble_eq_true rfl, Nat.le_of_ble_eq_true rfl⟩) hK hN hg (recv_x (ci := 2) (C := RX2) (T := TX2) (N := 4) hg hK (by decide) rfl (by decide) rfl) rfl hl.1 rfl (cat_sum _ (by simp)) dX8_remove_63 (show (sz s21 - sz σ) + (tp - sz s21) ≤ tp - sz σ ∧ 9 * (sz s21 - sz σ) + 9 * (tp - sz s21) ≤ 9 * (tp - sz σ) by have q1 := hm.2.1; have q2 := hm.2.2; omega)) hg (fun r29 s28 H locs hz30 hm2 h hg => ?_)
        have hS31 : ∀ b, r16 = some b → sS s28 b := (fun b h0 => hm2.1 b (hS24 b h0))
        have hm := hm.ta hm2
        refine W_narrow hg hH (show sz s28 ≤ sz σ + (sz s28 - sz σ) by have q1 := hm.2.1; omega) (Nat.le_refl _) ?_
        refine call_i (run_V (a := ea E 0) (As := [.int (iI (a1)), va_rf (r29)]) (rest := []) ⟨hx, hb, hml, hown, hts⟩ (ctX8_settle l E a1 r29 s28 _ ha1 hz30 h) (cwV 2 hts gX8_remove_X8_settle rfl rfl rfl ⟨rfl, hdX8_settle⟩ ⟨Nat.le_of_ble_eq_true rfl, Nat.le_of_ble_eq_true rfl⟩) hK hN hg (recv_x (ci := 8) (C := RX8) (T := TX8) (N := 14) hg hK (by decide) rfl (by decide) rfl) rfl hl.1 rfl (cat_sum _ (by simp)) dX8_remove_66 (show (sz s28 - sz σ) + 0 ≤ tp - sz σ ∧ 9 * (sz s28 - sz σ) + 0 ≤ 9 * (tp - sz σ) by have q1 := hm.2.1; have q2 := hm.2.2; omega)) hg (fun r33 s32 H locs hz34 hm2 h hg => ?_)
        have hS35 : ∀ b, r16 = some b → sS s32 b := (fun b h0 => hm2.1 b (hS31 b h0))
        have hm := hm.tn hm2
        refine W_narrow hg hH (show sz s32 ≤ sz σ + (sz s32 - sz σ) by have q1 := hm.2.1; omega) (Nat.le_refl _) ?_
        refine lv_pop hx hb dX8_remove_69 rfl ?_
        refine lv_iload hx hb dX8_remove_70 (lv_at hl 0 rfl) ?_
        refine W.widen (k := tp - sz σ) (n := 9 * (tp - sz σ)) (show sz s32 - sz σ ≤ _ by have q1 := hm.2.2; omega) (show 9 * (sz s32 - sz σ) ≤ _ by have q1 := hm.2.2; omega) ?_
        exact ret_i hx hb hr hlocks hg hR20 hm h dX8_remove_72
      · have h := h.1 c18
        refine lv_aload_n hx hb dX8_remove_34 rfl (lv_at hl 1 rfl) ?_
        refine call_i (run_V (a := ea E 0) (As := []) (rest := []) ⟨hx, hb, hml, hown, hts⟩ (ctX8_no l E  s15 _  h) (cwV 0 hts gX8_remove_X8_no rfl rfl rfl ⟨rfl, hdX8_no⟩ ⟨Nat.le_of_ble_eq_true rfl, Nat.le_of_ble_eq_true rfl⟩) hK hN hg (recv_x (ci := 8) (C := RX8) (T := TX8) (N := 14) hg hK (by decide) rfl (by decide) rfl) rfl hl.1 rfl (cat_sum _ (by simp)) dX8_remove_35 (show (sz s15 - sz σ) + 0 ≤ tp - sz σ ∧ 9 * (sz s15 - sz σ) + 0 ≤ 9 * (tp - sz σ) by have q1 := hm.2.1; have q2 := hm.2.2; omega)) hg (fun r37 s36 H locs hz38 hm2 h hg => ?_)
        have hS39 : ∀ b, r16 = some b → sS s36 b := (fun b h0 => hm2.1 b (hz17 b h0))
        have hm := hm.tn hm2
        refine W_narrow hg hH (show sz s36 ≤ sz σ + (sz s36 - sz σ) by have q1 := hm.2.1; omega) (Nat.le_refl _) ?_
        refine W.widen (k := tp - sz σ) (n := 9 * (tp - sz σ)) (show sz s36 - sz σ ≤ _ by have q1 := hm.2.2; omega) (show 9 * (sz s36 - sz σ) ≤ _ by have q1 := hm.2.2; omega) ?_
        exact ret_i hx hb hr hlocks hg hz38 hm h dX8_remove_38
    · have h := h.2 c11
      refine lv_aload_n hx hb dX8_remove_14 rfl (lv_at hl 0 rfl) ?_
      refine call_i (run_V (a := ea E 0) (As := []) (rest := []) ⟨hx, hb, hml, hown, hts⟩ (ctX8_bad l E  s8 _  h) (cwV 0 hts gX8_remove_X8_bad rfl rfl rfl ⟨rfl, hdX8_bad⟩ ⟨Nat.le_of_ble_eq_true rfl, Nat.le_of_ble_eq_true rfl⟩) hK hN hg (recv_x (ci := 8) (C := RX8) (T := TX8) (N := 14) hg hK (by decide) rfl (by decide) rfl) rfl hl.1 rfl (cat_sum _ (by simp)) dX8_remove_15 (show (sz s8 - sz σ) + 0 ≤ tp - sz σ ∧ 9 * (sz s8 - sz σ) + 0 ≤ 9 * (tp - sz σ) by have q1 := hm.2.1; have q2 := hm.2.2; omega)) hg (fun r41 s40 H locs hz42 hm2 h hg => ?_)
      have hm := hm.tn hm2
      refine W_narrow hg hH (show sz s40 ≤ sz σ + (sz s40 - sz σ) by have q1 := hm.2.1; omega) (Nat.le_refl _) ?_
      refine W.widen (k := tp - sz σ) (n := 9 * (tp - sz σ)) (show sz s40 - sz σ ≤ _ by have q1 := hm.2.2; omega) (show 9 * (sz s40 - sz σ) ≤ _ by have q1 := hm.2.2; omega) ?_
      exact ret_i hx hb hr hlocks hg hz42 hm h dX8_remove_18
theorem hdX8_get : yX8_get.cls ≠ "java/lang/invoke/MethodHandle" ∧ yX8_get.cls ≠ "java/lang/invoke/VarHandle" ∧ (parseMethodDescriptor yX8_get.desc).map (fun d => d.parameters.length) = some 2 := by decide +kernel
set_option maxRecDepth 100000 in
set_option maxHeartbeats 4000000 in
theorem ctX8_get (l : Launch) (E : Ev) (a1 : Int) (a2 : Int) (σ : SS) (Q : Int → SS → Prop) (ha1 : R32 a1) (ha2 : R32 a2) (h : wX8_get a1 a2 σ Q) : Met l yX8_get wsX8_get ({ frames := 2, cells := 0, slots := 0, locals := 42 } : Room) (Pc E σ [.ref (ea E 0), .int (iI (a1)), .int (iI (a2))]) (Qi E (sz σ) σ Q) 0 0 (Av E) := by
  rw [wX8_get] at h
  refine Met.ofW (cc := cX8_get) (maxL := 4) (ret := (some .int)) (by decide) rfl ?_
  intro p e s m args below meth c s₁ B hml hv
  obtain ⟨rfl, hH, hK, hN⟩ := hv
  have hx := B.exec
  have hb := B.bytes
  have hr := B.returns
  have hts := atoms_spec (ws := wsX8_get) B.pre
  have hown : s.vm.findClass RX8 = some m.cls := findClass_of_methodNamed B.named
  have hlocks := B.notSynchronized
  have hg : GS E σ s s.heap [] := ⟨hH, va_S.rf⟩
  have hm : Mo (sz σ) σ σ := Mo.rf (Nat.le_refl _)
  have hl := ent (vs := [.ref (ea E 0), .int (iI (a1)), .int (iI (a2))]) (n := 4) (cats_x (cats_i (cats_i cats_nil))) (Nat.le_of_ble_eq_true rfl)
  rw [lg_entry_eq]
  generalize (lg_sl ([.ref (ea E 0), .int (iI (a1)), .int (iI (a2))]) ++ List.replicate (4 - (lg_sl ([.ref (ea E 0), .int (iI (a1)), .int (iI (a2))])).length) Slot.unset).toArray = ls at hl ⊢
  have hl : lv_has ls 4 [(0, .ref (ea E 0)), (1, .int (iI (a1))), (2, .int (iI (a2)))] := hl
  refine lv_iload_n hx hb dX8_get_0 rfl (lv_at hl 1 rfl) ?_
  refine call_z (run_S (As := [.int (iI (a1))]) (rest := []) ⟨hx, hb, hml, hown, hts⟩ (ctX8_isMap l E a1 σ _ ha1 h) (va_cwS 1 hts gX8_get_X8_isMap rfl rfl rfl hdX8_isMap ⟨Nat.le_of_ble_eq_true rfl, Nat.le_of_ble_eq_true rfl⟩) hK hN hg rfl hl.1 rfl (cat_sum _ (by simp)) dX8_get_1 ⟨Nat.le_refl 0, Nat.le_refl 0⟩) hg (fun r2 s1 H locs hz3 hm2 h hg => ?_)
  have hm := hm.tn hm2
  refine k_eq (tgt := 14) hx hb dX8_get_4 (by decide) (z_R hz3) (fun c4 => ?_) (fun c4 => ?_)
  · have h := h.1 c4
    refine lv_aload_n hx hb dX8_get_14 rfl (lv_at hl 0 rfl) ?_
    refine call_i (run_V (a := ea E 0) (As := []) (rest := []) ⟨hx, hb, hml, hown, hts⟩ (ctX8_bad l E  s1 _  h) (cwV 0 hts gX8_get_X8_bad rfl rfl rfl ⟨rfl, hdX8_bad⟩ ⟨Nat.le_of_ble_eq_true rfl, Nat.le_of_ble_eq_true rfl⟩) hK hN hg (recv_x (ci := 8) (C := RX8) (T := TX8) (N := 14) hg hK (by decide) rfl (by decide) rfl) rfl hl.1 rfl (cat_sum _ (by simp)) dX8_get_15 ⟨Nat.le_refl 0, Nat.le_refl 0⟩) hg (fun r6 s5 H locs hz7 hm2 h hg => ?_)
    have hm := hm.tn hm2
    exact ret_i hx hb hr hlocks hg hz7 hm h dX8_get_18
  · have h := h.2 c4
    refine lv_iload_n hx hb dX8_get_7 rfl (lv_at hl 2 rfl) ?_
    refine call_z (run_S (As := [.int (iI (a2))]) (rest := []) ⟨hx, hb, hml, hown, hts⟩ (ctX8_isKey l E a2 s1 _ ha2 h) (va_cwS 1 hts gX8_get_X8_isKey rfl rfl rfl hdX8_isKey ⟨Nat.le_of_ble_eq_true rfl, Nat.le_of_ble_eq_true rfl⟩) hK hN hg rfl hl.1 rfl (cat_sum _ (by simp)) dX8_get_8 ⟨Nat.le_refl 0, Nat.le_refl 0⟩) hg (fun r9 s8 H locs hz10 hm2 h hg => ?_)
    have hm := hm.tn hm2
    refine k_ne (tgt := 19) hx hb dX8_get_11 (by decide) (z_R hz10) (fun c11 => ?_) (fun c11 => ?_)
    · have h := h.1 c11
      refine lv_aload_n hx hb dX8_get_19 rfl (lv_at hl 0 rfl) ?_
      refine q_getx (ci := 8) (C := RX8) (T := TX8) (N := 14) (j := 3) hx hb hts (fun _ h9 => List.mem_cons_of_mem _ (List.mem_append_left _ (List.mem_append_right _ h9))) hown hK hg 0 (by decide) rfl rfl (by decide) rfl 2 (by decide) (hts (.fieldLink RX8 27 "JoinMaps" "maps" "[LJoinMaps$Node;") (List.mem_cons_of_mem _ (List.mem_append_left _ (List.mem_append_left _ (List.mem_append_left _ (List.mem_of_getElem? (i := 0) rfl)))))) rfl rfl rfl dX8_get_20 ?_
      refine lv_iload_n hx hb dX8_get_23 rfl (lv_at hl 1 rfl) ?_
      obtain ⟨hP12, hP13, h⟩ := h
      refine q_aald (N := 6) hx hb hK hg 3 (by decide) rfl rfl hP12 hP13 (by decide) dX8_get_24 ?_
      have hS14 : ∀ b, (sf s8 3 (a1 : Int).toNat) = some b → sS s8 b := fun b h0 => GS_F hg h0
      refine lv_iload_n hx hb dX8_get_25 rfl (lv_at hl 2 rfl) ?_
      refine call_r (run_S (As := [va_rf ((sf s8 3 (a1 : Int).toNat)), .int (iI (a2))]) (rest := []) ⟨hx, hb, hml, hown, hts⟩ (ctX3_find l E (sf s8 3 (a1 : Int).toNat) a2 s8 _ hS14 ha2 h) (va_cwS 2 hts gX8_get_X3_find rfl rfl rfl hdX3_find ⟨Nat.le_of_ble_eq_true rfl, Nat.le_of_ble_eq_true rfl⟩) hK hN hg rfl hl.1 rfl (cat_sum _ (by simp)) dX8_get_26 ⟨Nat.le_refl 0, Nat.le_refl 0⟩) hg (fun r16 s15 H locs hz17 hm2 h hg => ?_)
      have hm := hm.tn hm2
      refine q_astore_n (i := 3) (lv' := [(3, va_rf (r16)), (0, .ref (ea E 0)), (1, .int (iI (a1))), (2, .int (iI (a2)))]) hx hb dX8_get_29 rfl hl (by decide) (by simp [List.filter_cons, rf_cat, ct_i, ct_l, ct_x]) (fun ls hl => ?_)
      refine q_aload_n hx hb dX8_get_30 rfl (lv_at hl 0 rfl) ?_
      refine j_nonnull (tgt := 39) hx hb dX8_get_31 (by decide) (fun b19 c18 => ?_) (fun c18 => ?_)
      · have h := h.2 b19 c18
        refine q_aload_n hx hb dX8_get_39 rfl (lv_at hl 0 rfl) ?_
        refine q_ngeti_o c18 hx hb hts (fun _ h9 => List.mem_cons_of_mem _ (List.mem_append_right _ h9)) hown hK hg (hz17 b19 c18) 1 (by decide) (hts (.fieldLink RX8 101 "JoinMaps$Node" "value" "I") (List.mem_cons_of_mem _ (List.mem_append_left _ (List.mem_append_left _ (List.mem_append_left _ (List.mem_of_getElem? (i := 2) rfl)))))) rfl rfl dX8_get_40 ?_
        have hR20 := GS_R hg (b19 + 64) 1
        exact ret_i hx hb hr hlocks hg hR20 hm h dX8_get_43
      · have h := h.1 c18
        refine q_ldc (z := (-2000000001)) hx hb hown (hts (.constant RX8 100 (-2000000001)) (List.mem_cons_of_mem _ (List.mem_append_left _ (List.mem_append_left _ (List.mem_append_left _ (List.mem_of_getElem? (i := 1) rfl)))))) (by decide) dX8_get_34 ?_
        refine lv_goto (tgt := 43) hx hb dX8_get_36 (by decide) ?_
        exact ret_i hx hb hr hlocks hg (by decide) hm h dX8_get_43
    · have h := h.2 c11
      refine lv_aload_n hx hb dX8_get_14 rfl (lv_at hl 0 rfl) ?_
      refine call_i (run_V (a := ea E 0) (As := []) (rest := []) ⟨hx, hb, hml, hown, hts⟩ (ctX8_bad l E  s8 _  h) (cwV 0 hts gX8_get_X8_bad rfl rfl rfl ⟨rfl, hdX8_bad⟩ ⟨Nat.le_of_ble_eq_true rfl, Nat.le_of_ble_eq_true rfl⟩) hK hN hg (recv_x (ci := 8) (C := RX8) (T := TX8) (N := 14) hg hK (by decide) rfl (by decide) rfl) rfl hl.1 rfl (cat_sum _ (by simp)) dX8_get_15 ⟨Nat.le_refl 0, Nat.le_refl 0⟩) hg (fun r22 s21 H locs hz23 hm2 h hg => ?_)
      have hm := hm.tn hm2
      exact ret_i hx hb hr hlocks hg hz23 hm h dX8_get_18
theorem hdX8_size : yX8_size.cls ≠ "java/lang/invoke/MethodHandle" ∧ yX8_size.cls ≠ "java/lang/invoke/VarHandle" ∧ (parseMethodDescriptor yX8_size.desc).map (fun d => d.parameters.length) = some 1 := by decide +kernel
set_option maxRecDepth 100000 in
set_option maxHeartbeats 4000000 in
theorem ctX8_size (l : Launch) (E : Ev) (a1 : Int) (σ : SS) (Q : Int → SS → Prop) (ha1 : R32 a1) (h : wX8_size a1 σ Q) : Met l yX8_size wsX8_size ({ frames := 2, cells := 0, slots := 0, locals := 42 } : Room) (Pc E σ [.ref (ea E 0), .int (iI (a1))]) (Qi E (sz σ) σ Q) 0 0 (Av E) := by
  rw [wX8_size] at h
  refine Met.ofW (cc := cX8_size) (maxL := 2) (ret := (some .int)) (by decide) rfl ?_
  intro p e s m args below meth c s₁ B hml hv
  obtain ⟨rfl, hH, hK, hN⟩ := hv
  have hx := B.exec
  have hb := B.bytes
  have hr := B.returns
  have hts := atoms_spec (ws := wsX8_size) B.pre
  have hown : s.vm.findClass RX8 = some m.cls := findClass_of_methodNamed B.named
  have hlocks := B.notSynchronized
  have hg : GS E σ s s.heap [] := ⟨hH, va_S.rf⟩
  have hm : Mo (sz σ) σ σ := Mo.rf (Nat.le_refl _)
  have hl := ent (vs := [.ref (ea E 0), .int (iI (a1))]) (n := 2) (cats_x (cats_i cats_nil)) (Nat.le_of_ble_eq_true rfl)
  rw [lg_entry_eq]
  generalize (lg_sl ([.ref (ea E 0), .int (iI (a1))]) ++ List.replicate (2 - (lg_sl ([.ref (ea E 0), .int (iI (a1))])).length) Slot.unset).toArray = ls at hl ⊢
  have hl : lv_has ls 2 [(0, .ref (ea E 0)), (1, .int (iI (a1)))] := hl
  refine lv_iload_n hx hb dX8_size_0 rfl (lv_at hl 1 rfl) ?_
  refine call_z (run_S (As := [.int (iI (a1))]) (rest := []) ⟨hx, hb, hml, hown, hts⟩ (ctX8_isMap l E a1 σ _ ha1 h) (va_cwS 1 hts gX8_size_X8_isMap rfl rfl rfl hdX8_isMap ⟨Nat.le_of_ble_eq_true rfl, Nat.le_of_ble_eq_true rfl⟩) hK hN hg rfl hl.1 rfl (cat_sum _ (by simp)) dX8_size_1 ⟨Nat.le_refl 0, Nat.le_refl 0⟩) hg (fun r2 s1 H locs hz3 hm2 h hg => ?_)
  have hm := hm.tn hm2
  refine k_eq (tgt := 19) hx hb dX8_size_4 (by decide) (z_R hz3) (fun c4 => ?_) (fun c4 => ?_)
  · have h := h.1 c4
    refine lv_aload_n hx hb dX8_size_19 rfl (lv_at hl 0 rfl) ?_
    refine call_i (run_V (a := ea E 0) (As := []) (rest := []) ⟨hx, hb, hml, hown, hts⟩ (ctX8_bad l E  s1 _  h) (cwV 0 hts gX8_size_X8_bad rfl rfl rfl ⟨rfl, hdX8_bad⟩ ⟨Nat.le_of_ble_eq_true rfl, Nat.le_of_ble_eq_true rfl⟩) hK hN hg (recv_x (ci := 8) (C := RX8) (T := TX8) (N := 14) hg hK (by decide) rfl (by decide) rfl) rfl hl.1 rfl (cat_sum _ (by simp)) dX8_size_20 ⟨Nat.le_refl 0, Nat.le_refl 0⟩) hg (fun r6 s5 H locs hz7 hm2 h hg => ?_)
    have hm := hm.tn hm2
    exact ret_i hx hb hr hlocks hg hz7 hm h dX8_size_23
  · have h := h.2 c4
    refine lv_aload_n hx hb dX8_size_7 rfl (lv_at hl 0 rfl) ?_
    refine q_getx (ci := 8) (C := RX8) (T := TX8) (N := 14) (j := 3) hx hb hts (fun _ h9 => List.mem_cons_of_mem _ (List.mem_append_left _ (List.mem_append_right _ h9))) hown hK hg 0 (by decide) rfl rfl (by decide) rfl 2 (by decide) (hts (.fieldLink RX8 27 "JoinMaps" "maps" "[LJoinMaps$Node;") (List.mem_cons_of_mem _ (List.mem_append_left _ (List.mem_append_left _ (List.mem_of_getElem? (i := 0) rfl))))) rfl rfl rfl dX8_size_8 ?_
    refine lv_iload_n hx hb dX8_size_11 rfl (lv_at hl 1 rfl) ?_
    obtain ⟨hP8, hP9, h⟩ := h
    refine q_aald (N := 6) hx hb hK hg 3 (by decide) rfl rfl hP8 hP9 (by decide) dX8_size_12 ?_
    have hS10 : ∀ b, (sf s1 3 (a1 : Int).toNat) = some b → sS s1 b := fun b h0 => GS_F hg h0
    refine call_i (run_S (As := [va_rf ((sf s1 3 (a1 : Int).toNat))]) (rest := []) ⟨hx, hb, hml, hown, hts⟩ (ctX3_countOf l E (sf s1 3 (a1 : Int).toNat) s1 _ hS10 h) (va_cwS 1 hts gX8_size_X3_countOf rfl rfl rfl hdX3_countOf ⟨Nat.le_of_ble_eq_true rfl, Nat.le_of_ble_eq_true rfl⟩) hK hN hg rfl hl.1 rfl (cat_sum _ (by simp)) dX8_size_13 ⟨Nat.le_refl 0, Nat.le_refl 0⟩) hg (fun r12 s11 H locs hz13 hm2 h hg => ?_)
    have hm := hm.tn hm2
    refine lv_goto (tgt := 23) hx hb dX8_size_16 (by decide) ?_
    exact ret_i hx hb hr hlocks hg hz13 hm h dX8_size_23
theorem hdX8_rank : yX8_rank.cls ≠ "java/lang/invoke/MethodHandle" ∧ yX8_rank.cls ≠ "java/lang/invoke/VarHandle" ∧ (parseMethodDescriptor yX8_rank.desc).map (fun d => d.parameters.length) = some 2 := by decide +kernel
set_option maxRecDepth 100000 in
set_option maxHeartbeats 4000000 in
theorem ctX8_rank (l : Launch) (E : Ev) (a1 : Int) (a2 : Int) (σ : SS) (Q : Int → SS → Prop) (ha1 : R32 a1) (ha2 : R32 a2) (h : wX8_rank a1 a2 σ Q) : Met l yX8_rank wsX8_rank ({ frames := 2, cells := 0, slots := 0, locals := 43 } : Room) (Pc E σ [.ref (ea E 0), .int (iI (a1)), .int (iI (a2))]) (Qi E (sz σ) σ Q) 0 0 (Av E) := by
  rw [wX8_rank] at h
  refine Met.ofW (cc := cX8_rank) (maxL := 3) (ret := (some .int)) (by decide) rfl ?_
  intro p e s m args below meth c s₁ B hml hv
  obtain ⟨rfl, hH, hK, hN⟩ := hv
  have hx := B.exec
  have hb := B.bytes
  have hr := B.returns
  have hts := atoms_spec (ws := wsX8_rank) B.pre
  have hown : s.vm.findClass RX8 = some m.cls := findClass_of_methodNamed B.named
  have hlocks := B.notSynchronized
  have hg : GS E σ s s.heap [] := ⟨hH, va_S.rf⟩
  have hm : Mo (sz σ) σ σ := Mo.rf (Nat.le_refl _)
  have hl := ent (vs := [.ref (ea E 0), .int (iI (a1)), .int (iI (a2))]) (n := 3) (cats_x (cats_i (cats_i cats_nil))) (Nat.le_of_ble_eq_true rfl)
  rw [lg_entry_eq]
  generalize (lg_sl ([.ref (ea E 0), .int (iI (a1)), .int (iI (a2))]) ++ List.replicate (3 - (lg_sl ([.ref (ea E 0), .int (iI (a1)), .int (iI (a2))])).length) Slot.unset).toArray = ls at hl ⊢
  have hl : lv_has ls 3 [(0, .ref (ea E 0)), (1, .int (iI (a1))), (2, .int (iI (a2)))] := hl
  refine lv_iload_n hx hb dX8_rank_0 rfl (lv_at hl 1 rfl) ?_
  refine call_z (run_S (As := [.int (iI (a1))]) (rest := []) ⟨hx, hb, hml, hown, hts⟩ (ctX8_isMap l E a1 σ _ ha1 h) (va_cwS 1 hts gX8_rank_X8_isMap rfl rfl rfl hdX8_isMap ⟨Nat.le_of_ble_eq_true rfl, Nat.le_of_ble_eq_true rfl⟩) hK hN hg rfl hl.1 rfl (cat_sum _ (by simp)) dX8_rank_1 ⟨Nat.le_refl 0, Nat.le_refl 0⟩) hg (fun r2 s1 H locs hz3 hm2 h hg => ?_)
  have hm := hm.tn hm2
  refine k_eq (tgt := 20) hx hb dX8_rank_4 (by decide) (z_R hz3) (fun c4 => ?_) (fun c4 => ?_)
  · have h := h.1 c4
    refine lv_aload_n hx hb dX8_rank_20 rfl (lv_at hl 0 rfl) ?_
    refine call_i (run_V (a := ea E 0) (As := []) (rest := []) ⟨hx, hb, hml, hown, hts⟩ (ctX8_bad l E  s1 _  h) (cwV 0 hts gX8_rank_X8_bad rfl rfl rfl ⟨rfl, hdX8_bad⟩ ⟨Nat.le_of_ble_eq_true rfl, Nat.le_of_ble_eq_true rfl⟩) hK hN hg (recv_x (ci := 8) (C := RX8) (T := TX8) (N := 14) hg hK (by decide) rfl (by decide) rfl) rfl hl.1 rfl (cat_sum _ (by simp)) dX8_rank_21 ⟨Nat.le_refl 0, Nat.le_refl 0⟩) hg (fun r6 s5 H locs hz7 hm2 h hg => ?_)
    have hm := hm.tn hm2
    exact ret_i hx hb hr hlocks hg hz7 hm h dX8_rank_24
  · have h := h.2 c4
    refine lv_iload_n hx hb dX8_rank_7 rfl (lv_at hl 2 rfl) ?_
    refine lv_sipush (v := iI (-501)) hx hb dX8_rank_8 (by decide) ?_
    refine lv_sipush (v := iI 501) hx hb dX8_rank_11 (by decide) ?_
    refine call_z (run_S (As := [.int (iI (a2)), .int (iI ((-501))), .int (iI (501))]) (rest := []) ⟨hx, hb, hml, hown, hts⟩ (ctX8_isIn l E a2 (-501) 501 s1 _ ha2 (by decide) (by decide) h) (va_cwS 3 hts gX8_rank_X8_isIn rfl rfl rfl hdX8_isIn ⟨Nat.le_of_ble_eq_true rfl, Nat.le_of_ble_eq_true rfl⟩) hK hN hg rfl hl.1 rfl (cat_sum _ (by simp)) dX8_rank_14 ⟨Nat.le_refl 0, Nat.le_refl 0⟩) hg (fun r9 s8 H locs hz10 hm2 h hg => ?_)
    have hm := hm.tn hm2
    refine k_ne (tgt := 25) hx hb dX8_rank_17 (by decide) (z_R hz10) (fun c11 => ?_) (fun c11 => ?_)
    · have h := h.1 c11
      refine lv_aload_n hx hb dX8_rank_25 rfl (lv_at hl 0 rfl) ?_
      refine q_getx (ci := 8) (C := RX8) (T := TX8) (N := 14) (j := 3) hx hb hts (fun _ h9 => List.mem_cons_of_mem _ (List.mem_append_left _ (List.mem_append_right _ h9))) hown hK hg 0 (by decide) rfl rfl (by decide) rfl 2 (by decide) (hts (.fieldLink RX8 27 "JoinMaps" "maps" "[LJoinMaps$Node;") (List.mem_cons_of_mem _ (List.mem_append_left _ (List.mem_append_left _ (List.mem_append_left _ (List.mem_of_getElem? (i := 0) rfl)))))) rfl rfl rfl dX8_rank_26 ?_
      refine lv_iload_n hx hb dX8_rank_29 rfl (lv_at hl 1 rfl) ?_
      obtain ⟨hP12, hP13, h⟩ := h
      refine q_aald (N := 6) hx hb hK hg 3 (by decide) rfl rfl hP12 hP13 (by decide) dX8_rank_30 ?_
      have hS14 : ∀ b, (sf s8 3 (a1 : Int).toNat) = some b → sS s8 b := fun b h0 => GS_F hg h0
      refine lv_iload_n hx hb dX8_rank_31 rfl (lv_at hl 2 rfl) ?_
      refine call_i (run_S (As := [va_rf ((sf s8 3 (a1 : Int).toNat)), .int (iI (a2))]) (rest := []) ⟨hx, hb, hml, hown, hts⟩ (ctX3_countBelow l E (sf s8 3 (a1 : Int).toNat) a2 s8 _ hS14 ha2 h) (va_cwS 2 hts gX8_rank_X3_countBelow rfl rfl rfl hdX3_countBelow ⟨Nat.le_of_ble_eq_true rfl, Nat.le_of_ble_eq_true rfl⟩) hK hN hg rfl hl.1 rfl (cat_sum _ (by simp)) dX8_rank_32 ⟨Nat.le_refl 0, Nat.le_refl 0⟩) hg (fun r16 s15 H locs hz17 hm2 h hg => ?_)
      have hm := hm.tn hm2
      exact ret_i hx hb hr hlocks hg hz17 hm h dX8_rank_35
    · have h := h.2 c11
      refine lv_aload_n hx hb dX8_rank_20 rfl (lv_at hl 0 rfl) ?_
      refine call_i (run_V (a := ea E 0) (As := []) (rest := []) ⟨hx, hb, hml, hown, hts⟩ (ctX8_bad l E  s8 _  h) (cwV 0 hts gX8_rank_X8_bad rfl rfl rfl ⟨rfl, hdX8_bad⟩ ⟨Nat.le_of_ble_eq_true rfl, Nat.le_of_ble_eq_true rfl⟩) hK hN hg (recv_x (ci := 8) (C := RX8) (T := TX8) (N := 14) hg hK (by decide) rfl (by decide) rfl) rfl hl.1 rfl (cat_sum _ (by simp)) dX8_rank_21 ⟨Nat.le_refl 0, Nat.le_refl 0⟩) hg (fun r19 s18 H locs hz20 hm2 h hg => ?_)
      have hm := hm.tn hm2
      exact ret_i hx hb hr hlocks hg hz20 hm h dX8_rank_24
theorem hdX8_nth : yX8_nth.cls ≠ "java/lang/invoke/MethodHandle" ∧ yX8_nth.cls ≠ "java/lang/invoke/VarHandle" ∧ (parseMethodDescriptor yX8_nth.desc).map (fun d => d.parameters.length) = some 2 := by decide +kernel
set_option maxRecDepth 100000 in
set_option maxHeartbeats 4000000 in
theorem ctX8_nth (l : Launch) (E : Ev) (a1 : Int) (a2 : Int) (σ : SS) (Q : Int → SS → Prop) (ha1 : R32 a1) (ha2 : R32 a2) (h : wX8_nth a1 a2 σ Q) : Met l yX8_nth wsX8_nth ({ frames := 2, cells := 0, slots := 0, locals := 44 } : Room) (Pc E σ [.ref (ea E 0), .int (iI (a1)), .int (iI (a2))]) (Qi E (sz σ) σ Q) 0 0 (Av E) := by
  rw [wX8_nth] at h
  refine Met.ofW (cc := cX8_nth) (maxL := 3) (ret := (some .int)) (by decide) rfl ?_
  intro p e s m args below meth c s₁ B hml hv
  obtain ⟨rfl, hH, hK, hN⟩ := hv
  have hx := B.exec
  have hb := B.bytes
  have hr := B.returns
  have hts := atoms_spec (ws := wsX8_nth) B.pre
  have hown : s.vm.findClass RX8 = some m.cls := findClass_of_methodNamed B.named
  have hlocks := B.notSynchronized
  have hg : GS E σ s s.heap [] := ⟨hH, va_S.rf⟩
  have hm : Mo (sz σ) σ σ := Mo.rf (Nat.le_refl _)
  have hl := ent (vs := [.ref (ea E 0), .int (iI (a1)), .int (iI (a2))]) (n := 3) (cats_x (cats_i (cats_i cats_nil))) (Nat.le_of_ble_eq_true rfl)
  rw [lg_entry_eq]
  generalize (lg_sl ([.ref (ea E 0), .int (iI (a1)), .int (iI (a2))]) ++ List.replicate (3 - (lg_sl ([.ref (ea E 0), .int (iI (a1)), .int (iI (a2))])).length) Slot.unset).toArray = ls at hl ⊢
  have hl : lv_has ls 3 [(0, .ref (ea E 0)), (1, .int (iI (a1))), (2, .int (iI (a2)))] := hl
  refine lv_iload_n hx hb dX8_nth_0 rfl (lv_at hl 1 rfl) ?_
  refine call_z (run_S (As := [.int (iI (a1))]) (rest := []) ⟨hx, hb, hml, hown, hts⟩ (ctX8_isMap l E a1 σ _ ha1 h) (va_cwS 1 hts gX8_nth_X8_isMap rfl rfl rfl hdX8_isMap ⟨Nat.le_of_ble_eq_true rfl, Nat.le_of_ble_eq_true rfl⟩) hK hN hg rfl hl.1 rfl (cat_sum _ (by simp)) dX8_nth_1 ⟨Nat.le_refl 0, Nat.le_refl 0⟩) hg (fun r2 s1 H locs hz3 hm2 h hg => ?_)
  have hm := hm.tn hm2
  refine k_eq (tgt := 11) hx hb dX8_nth_4 (by decide) (z_R hz3) (fun c4 => ?_) (fun c4 => ?_)
  · have h := h.1 c4
    refine lv_aload_n hx hb dX8_nth_11 rfl (lv_at hl 0 rfl) ?_
    refine call_i (run_V (a := ea E 0) (As := []) (rest := []) ⟨hx, hb, hml, hown, hts⟩ (ctX8_bad l E  s1 _  h) (cwV 0 hts gX8_nth_X8_bad rfl rfl rfl ⟨rfl, hdX8_bad⟩ ⟨Nat.le_of_ble_eq_true rfl, Nat.le_of_ble_eq_true rfl⟩) hK hN hg (recv_x (ci := 8) (C := RX8) (T := TX8) (N := 14) hg hK (by decide) rfl (by decide) rfl) rfl hl.1 rfl (cat_sum _ (by simp)) dX8_nth_12 ⟨Nat.le_refl 0, Nat.le_refl 0⟩) hg (fun r6 s5 H locs hz7 hm2 h hg => ?_)
    have hm := hm.tn hm2
    exact ret_i hx hb hr hlocks hg hz7 hm h dX8_nth_15
  · have h := h.2 c4
    refine lv_iload_n hx hb dX8_nth_7 rfl (lv_at hl 2 rfl) ?_
    refine k_ge (tgt := 16) hx hb dX8_nth_8 (by decide) ha2 (fun c8 => ?_) (fun c8 => ?_)
    · have h := h.1 c8
      refine lv_aload_n hx hb dX8_nth_16 rfl (lv_at hl 0 rfl) ?_
      refine q_getx (ci := 8) (C := RX8) (T := TX8) (N := 14) (j := 3) hx hb hts (fun _ h9 => List.mem_cons_of_mem _ (List.mem_append_left _ (List.mem_append_right _ h9))) hown hK hg 0 (by decide) rfl rfl (by decide) rfl 2 (by decide) (hts (.fieldLink RX8 27 "JoinMaps" "maps" "[LJoinMaps$Node;") (List.mem_cons_of_mem _ (List.mem_append_left _ (List.mem_append_left _ (List.mem_append_left _ (List.mem_of_getElem? (i := 0) rfl)))))) rfl rfl rfl dX8_nth_17 ?_
      refine lv_iload_n hx hb dX8_nth_20 rfl (lv_at hl 1 rfl) ?_
      obtain ⟨hP9, hP10, h⟩ := h
      refine q_aald (N := 6) hx hb hK hg 3 (by decide) rfl rfl hP9 hP10 (by decide) dX8_nth_21 ?_
      have hS11 : ∀ b, (sf s1 3 (a1 : Int).toNat) = some b → sS s1 b := fun b h0 => GS_F hg h0
      refine lv_iload_n hx hb dX8_nth_22 rfl (lv_at hl 2 rfl) ?_
      refine call_i (run_S (As := [va_rf ((sf s1 3 (a1 : Int).toNat)), .int (iI (a2))]) (rest := []) ⟨hx, hb, hml, hown, hts⟩ (ctX3_keyAt l E (sf s1 3 (a1 : Int).toNat) a2 s1 _ hS11 ha2 h) (va_cwS 2 hts gX8_nth_X3_keyAt rfl rfl rfl hdX3_keyAt ⟨Nat.le_of_ble_eq_true rfl, Nat.le_of_ble_eq_true rfl⟩) hK hN hg rfl hl.1 rfl (cat_sum _ (by simp)) dX8_nth_23 ⟨Nat.le_refl 0, Nat.le_refl 0⟩) hg (fun r13 s12 H locs hz14 hm2 h hg => ?_)
      have hm := hm.tn hm2
      exact ret_i hx hb hr hlocks hg hz14 hm h dX8_nth_26
    · have h := h.2 c8
      refine lv_aload_n hx hb dX8_nth_11 rfl (lv_at hl 0 rfl) ?_
      refine call_i (run_V (a := ea E 0) (As := []) (rest := []) ⟨hx, hb, hml, hown, hts⟩ (ctX8_bad l E  s1 _  h) (cwV 0 hts gX8_nth_X8_bad rfl rfl rfl ⟨rfl, hdX8_bad⟩ ⟨Nat.le_of_ble_eq_true rfl, Nat.le_of_ble_eq_true rfl⟩) hK hN hg (recv_x (ci := 8) (C := RX8) (T := TX8) (N := 14) hg hK (by decide) rfl (by decide) rfl) rfl hl.1 rfl (cat_sum _ (by simp)) dX8_nth_12 ⟨Nat.le_refl 0, Nat.le_refl 0⟩) hg (fun r16 s15 H locs hz17 hm2 h hg => ?_)
      have hm := hm.tn hm2
      exact ret_i hx hb hr hlocks hg hz17 hm h dX8_nth_15
theorem hdX8_near : yX8_near.cls ≠ "java/lang/invoke/MethodHandle" ∧ yX8_near.cls ≠ "java/lang/invoke/VarHandle" ∧ (parseMethodDescriptor yX8_near.desc).map (fun d => d.parameters.length) = some 3 := by decide +kernel
set_option maxRecDepth 100000 in
set_option maxHeartbeats 4000000 in
theorem ctX8_near (l : Launch) (E : Ev) (a1 : Int) (a2 : Int) (a3 : Int) (σ : SS) (Q : Int → SS → Prop) (ha1 : R32 a1) (ha2 : R32 a2) (ha3 : R32 a3) (h : wX8_near a1 a2 a3 σ Q) : Met l yX8_near wsX8_near ({ frames := 2, cells := 0, slots := 0, locals := 44 } : Room) (Pc E σ [.ref (ea E 0), .int (iI (a1)), .int (iI (a2)), .int (iI (a3))]) (Qi E (sz σ) σ Q) 0 0 (Av E) := by
  rw [wX8_near] at h
  refine Met.ofW (cc := cX8_near) (maxL := 5) (ret := (some .int)) (by decide) rfl ?_
  intro p e s m args below meth c s₁ B hml hv
  obtain ⟨rfl, hH, hK, hN⟩ := hv
  have hx := B.exec
  have hb := B.bytes
  have hr := B.returns
  have hts := atoms_spec (ws := wsX8_near) B.pre
  have hown : s.vm.findClass RX8 = some m.cls := findClass_of_methodNamed B.named
  have hlocks := B.notSynchronized
  have hg : GS E σ s s.heap [] := ⟨hH, va_S.rf⟩
  have hm : Mo (sz σ) σ σ := Mo.rf (Nat.le_refl _)
  have hl := ent (vs := [.ref (ea E 0), .int (iI (a1)), .int (iI (a2)), .int (iI (a3))]) (n := 5) (cats_x (cats_i (cats_i (cats_i cats_nil)))) (Nat.le_of_ble_eq_true rfl)
  rw [lg_entry_eq]
  generalize (lg_sl ([.ref (ea E 0), .int (iI (a1)), .int (iI (a2)), .int (iI (a3))]) ++ List.replicate (5 - (lg_sl ([.ref (ea E 0), .int (iI (a1)), .int (iI (a2)), .int (iI (a3))])).length) Slot.unset).toArray = ls at hl ⊢
  have hl : lv_has ls 5 [(0, .ref (ea E 0)), (1, .int (iI (a1))), (2, .int (iI (a2))), (3, .int (iI (a3)))] := hl
  have J29 : ∀ (sL : SS) (H : Heap) (locs : List Loc) (ls : Array Slot), GS E sL s H locs → Mo (sz σ) σ sL → lv_has ls 5 [(0, .ref (ea E 0)), (1, .int (iI (a1))), (2, .int (iI (a2))), (3, .int (iI (a3)))] → wX8_near_L29 a1 a2 a3 Q   sL → W p l e (headSpec wsX8_near ({ frames := 2, cells := 0, slots := 0, locals := 44 } : Room)).room s m (List.toArray [.ref (ea E 0), .int (iI (a1)), .int (iI (a2)), .int (iI (a3))]) below meth c H locs 0 0 (MQ below (Qi E (sz σ) σ Q) (List.toArray [.ref (ea E 0), .int (iI (a1)), .int (iI (a2)), .int (iI (a3))]) s 0 0 (Av E)) (F0 m 29 ls []) := by
    intro sL H locs ls hg hm hl h
    rw [wX8_near_L29] at h
    refine lv_iload_n hx hb dX8_near_29 rfl (lv_at hl 3 rfl) ?_
    refine lv_iconst (v := iI 1) hx hb dX8_near_30 (by decide) ?_
    refine j_ne (tgt := 47) hx hb dX8_near_31 (by decide) ha3 (by decide) (fun c20 => ?_) (fun c20 => ?_)
    · have h := h.1 c20
      refine lv_aload_n hx hb dX8_near_47 rfl (lv_at hl 0 rfl) ?_
      refine q_getx (ci := 8) (C := RX8) (T := TX8) (N := 14) (j := 3) hx hb hts (fun _ h9 => List.mem_cons_of_mem _ (List.mem_append_left _ (List.mem_append_right _ h9))) hown hK hg 0 (by decide) rfl rfl (by decide) rfl 2 (by decide) (hts (.fieldLink RX8 27 "JoinMaps" "maps" "[LJoinMaps$Node;") (List.mem_cons_of_mem _ (List.mem_append_left _ (List.mem_append_left _ (List.mem_append_left _ (List.mem_of_getElem? (i := 0) rfl)))))) rfl rfl rfl dX8_near_48 ?_
      refine lv_iload_n hx hb dX8_near_51 rfl (lv_at hl 1 rfl) ?_
      obtain ⟨hP21, hP22, h⟩ := h
      refine q_aald (N := 6) hx hb hK hg 3 (by decide) rfl rfl hP21 hP22 (by decide) dX8_near_52 ?_
      have hS23 : ∀ b, (sf sL 3 (a1 : Int).toNat) = some b → sS sL b := fun b h0 => GS_F hg h0
      refine lv_iload_n hx hb dX8_near_53 rfl (lv_at hl 2 rfl) ?_
      refine lv_iconst (v := iI 1) hx hb dX8_near_54 (by decide) ?_
      refine q_iadd hx hb dX8_near_55 ?_
      obtain ⟨hR24, h⟩ := h
      refine call_i (run_S (As := [va_rf ((sf sL 3 (a1 : Int).toNat)), .int (iI ((a2 + 1)))]) (rest := []) ⟨hx, hb, hml, hown, hts⟩ (ctX3_countBelow l E (sf sL 3 (a1 : Int).toNat) (a2 + 1) sL _ hS23 hR24 h) (va_cwS 2 hts gX8_near_X3_countBelow rfl rfl rfl hdX3_countBelow ⟨Nat.le_of_ble_eq_true rfl, Nat.le_of_ble_eq_true rfl⟩) hK hN hg rfl hl.1 rfl (cat_sum _ (by simp)) dX8_near_56 ⟨Nat.le_refl 0, Nat.le_refl 0⟩) hg (fun r26 s25 H locs hz27 hm2 h hg => ?_)
      have hm := hm.tn hm2
      refine lv_iconst (v := iI 1) hx hb dX8_near_59 (by decide) ?_
      refine q_isub hx hb dX8_near_60 ?_
      refine lv_istore (i := 4) (lv' := [(4, .int (iI ((r26 - 1)))), (0, .ref (ea E 0)), (1, .int (iI (a1))), (2, .int (iI (a2))), (3, .int (iI (a3)))]) hx hb dX8_near_61 hl (by decide) rfl (fun ls hl => ?_)
      refine lv_aload_n hx hb dX8_near_63 rfl (lv_at hl 1 rfl) ?_
      refine q_getx (ci := 8) (C := RX8) (T := TX8) (N := 14) (j := 3) hx hb hts (fun _ h9 => List.mem_cons_of_mem _ (List.mem_append_left _ (List.mem_append_right _ h9))) hown hK hg 0 (by decide) rfl rfl (by decide) rfl 2 (by decide) (hts (.fieldLink RX8 27 "JoinMaps" "maps" "[LJoinMaps$Node;") (List.mem_cons_of_mem _ (List.mem_append_left _ (List.mem_append_left _ (List.mem_append_left _ (List.mem_of_getElem? (i := 0) rfl)))))) rfl rfl rfl dX8_near_64 ?_
      refine lv_iload_n hx hb dX8_near_67 rfl (lv_at hl 2 rfl) ?_
      obtain ⟨hP28, hP29, h⟩ := h
      refine q_aald (N := 6) hx hb hK hg 3 (by decide) rfl rfl hP28 hP29 (by decide) dX8_near_68 ?_
      have hS30 : ∀ b, (sf s25 3 (a1 : Int).toNat) = some b → sS s25 b := fun b h0 => GS_F hg h0
      refine lv_iload hx hb dX8_near_69 (lv_at hl 0 rfl) ?_
      obtain ⟨hR31, h⟩ := h
      refine call_i (run_S (As := [va_rf ((sf s25 3 (a1 : Int).toNat)), .int (iI ((r26 - 1)))]) (rest := []) ⟨hx, hb, hml, hown, hts⟩ (ctX3_keyAt l E (sf s25 3 (a1 : Int).toNat) (r26 - 1) s25 _ hS30 hR31 h) (va_cwS 2 hts gX8_near_X3_keyAt rfl rfl rfl hdX3_keyAt ⟨Nat.le_of_ble_eq_true rfl, Nat.le_of_ble_eq_true rfl⟩) hK hN hg rfl hl.1 rfl (cat_sum _ (by simp)) dX8_near_71 ⟨Nat.le_refl 0, Nat.le_refl 0⟩) hg (fun r33 s32 H locs hz34 hm2 h hg => ?_)
      have hm := hm.tn hm2
      exact ret_i hx hb hr hlocks hg hz34 hm h dX8_near_74
    · have h := h.2 c20
      refine lv_aload_n hx hb dX8_near_34 rfl (lv_at hl 0 rfl) ?_
      refine q_getx (ci := 8) (C := RX8) (T := TX8) (N := 14) (j := 3) hx hb hts (fun _ h9 => List.mem_cons_of_mem _ (List.mem_append_left _ (List.mem_append_right _ h9))) hown hK hg 0 (by decide) rfl rfl (by decide) rfl 2 (by decide) (hts (.fieldLink RX8 27 "JoinMaps" "maps" "[LJoinMaps$Node;") (List.mem_cons_of_mem _ (List.mem_append_left _ (List.mem_append_left _ (List.mem_append_left _ (List.mem_of_getElem? (i := 0) rfl)))))) rfl rfl rfl dX8_near_35 ?_
      refine lv_iload_n hx hb dX8_near_38 rfl (lv_at hl 1 rfl) ?_
      obtain ⟨hP35, hP36, h⟩ := h
      refine q_aald (N := 6) hx hb hK hg 3 (by decide) rfl rfl hP35 hP36 (by decide) dX8_near_39 ?_
      have hS37 : ∀ b, (sf sL 3 (a1 : Int).toNat) = some b → sS sL b := fun b h0 => GS_F hg h0
      refine lv_iload_n hx hb dX8_near_40 rfl (lv_at hl 2 rfl) ?_
      refine call_i (run_S (As := [va_rf ((sf sL 3 (a1 : Int).toNat)), .int (iI (a2))]) (rest := []) ⟨hx, hb, hml, hown, hts⟩ (ctX3_countBelow l E (sf sL 3 (a1 : Int).toNat) a2 sL _ hS37 ha2 h) (va_cwS 2 hts gX8_near_X3_countBelow rfl rfl rfl hdX3_countBelow ⟨Nat.le_of_ble_eq_true rfl, Nat.le_of_ble_eq_true rfl⟩) hK hN hg rfl hl.1 rfl (cat_sum _ (by simp)) dX8_near_41 ⟨Nat.le_refl 0, Nat.le_refl 0⟩) hg (fun r39 s38 H locs hz40 hm2 h hg => ?_)
      have hm := hm.tn hm2
      refine lv_goto (tgt := 61) hx hb dX8_near_44 (by decide) ?_
      refine lv_istore (i := 4) (lv' := [(4, .int (iI (r39))), (0, .ref (ea E 0)), (1, .int (iI (a1))), (2, .int (iI (a2))), (3, .int (iI (a3)))]) hx hb dX8_near_61 hl (by decide) rfl (fun ls hl => ?_)
      refine lv_aload_n hx hb dX8_near_63 rfl (lv_at hl 1 rfl) ?_
      refine q_getx (ci := 8) (C := RX8) (T := TX8) (N := 14) (j := 3) hx hb hts (fun _ h9 => List.mem_cons_of_mem _ (List.mem_append_left _ (List.mem_append_right _ h9))) hown hK hg 0 (by decide) rfl rfl (by decide) rfl 2 (by decide) (hts (.fieldLink RX8 27 "JoinMaps" "maps" "[LJoinMaps$Node;") (List.mem_cons_of_mem _ (List.mem_append_left _ (List.mem_append_left _ (List.mem_append_left _ (List.mem_of_getElem? (i := 0) rfl)))))) rfl rfl rfl dX8_near_64 ?_
      refine lv_iload_n hx hb dX8_near_67 rfl (lv_at hl 2 rfl) ?_
      obtain ⟨hP41, hP42, h⟩ := h
      refine q_aald (N := 6) hx hb hK hg 3 (by decide) rfl rfl hP41 hP42 (by decide) dX8_near_68 ?_
      have hS43 : ∀ b, (sf s38 3 (a1 : Int).toNat) = some b → sS s38 b := fun b h0 => GS_F hg h0
      refine lv_iload hx hb dX8_near_69 (lv_at hl 0 rfl) ?_
      refine call_i (run_S (As := [va_rf ((sf s38 3 (a1 : Int).toNat)), .int (iI (r39))]) (rest := []) ⟨hx, hb, hml, hown, hts⟩ (ctX3_keyAt l E (sf s38 3 (a1 : Int).toNat) r39 s38 _ hS43 hz40 h) (va_cwS 2 hts gX8_near_X3_keyAt rfl rfl rfl hdX3_keyAt ⟨Nat.le_of_ble_eq_true rfl, Nat.le_of_ble_eq_true rfl⟩) hK hN hg rfl hl.1 rfl (cat_sum _ (by simp)) dX8_near_71 ⟨Nat.le_refl 0, Nat.le_refl 0⟩) hg (fun r45 s44 H locs hz46 hm2 h hg => ?_)
      have hm := hm.tn hm2
      exact ret_i hx hb hr hlocks hg hz46 hm h dX8_near_74
  refine lv_iload_n hx hb dX8_near_0 rfl (lv_at hl 1 rfl) ?_
  refine call_z (run_S (As := [.int (iI (a1))]) (rest := []) ⟨hx, hb, hml, hown, hts⟩ (ctX8_isMap l E a1 σ _ ha1 h) (va_cwS 1 hts gX8_near_X8_isMap rfl rfl rfl hdX8_isMap ⟨Nat.le_of_ble_eq_true rfl, Nat.le_of_ble_eq_true rfl⟩) hK hN hg rfl hl.1 rfl (cat_sum _ (by simp)) dX8_near_1 ⟨Nat.le_refl 0, Nat.le_refl 0⟩) hg (fun r2 s1 H locs hz3 hm2 h hg => ?_)
  have hm := hm.tn hm2
  refine k_eq (tgt := 24) hx hb dX8_near_4 (by decide) (z_R hz3) (fun c4 => ?_) (fun c4 => ?_)
  · have h := h.1 c4
    refine lv_aload_n hx hb dX8_near_24 rfl (lv_at hl 0 rfl) ?_
    refine call_i (run_V (a := ea E 0) (As := []) (rest := []) ⟨hx, hb, hml, hown, hts⟩ (ctX8_bad l E  s1 _  h) (cwV 0 hts gX8_near_X8_bad rfl rfl rfl ⟨rfl, hdX8_bad⟩ ⟨Nat.le_of_ble_eq_true rfl, Nat.le_of_ble_eq_true rfl⟩) hK hN hg (recv_x (ci := 8) (C := RX8) (T := TX8) (N := 14) hg hK (by decide) rfl (by decide) rfl) rfl hl.1 rfl (cat_sum _ (by simp)) dX8_near_25 ⟨Nat.le_refl 0, Nat.le_refl 0⟩) hg (fun r6 s5 H locs hz7 hm2 h hg => ?_)
    have hm := hm.tn hm2
    exact ret_i hx hb hr hlocks hg hz7 hm h dX8_near_28
  · have h := h.2 c4
    refine lv_iload_n hx hb dX8_near_7 rfl (lv_at hl 2 rfl) ?_
    refine call_z (run_S (As := [.int (iI (a2))]) (rest := []) ⟨hx, hb, hml, hown, hts⟩ (ctX8_isKey l E a2 s1 _ ha2 h) (va_cwS 1 hts gX8_near_X8_isKey rfl rfl rfl hdX8_isKey ⟨Nat.le_of_ble_eq_true rfl, Nat.le_of_ble_eq_true rfl⟩) hK hN hg rfl hl.1 rfl (cat_sum _ (by simp)) dX8_near_8 ⟨Nat.le_refl 0, Nat.le_refl 0⟩) hg (fun r9 s8 H locs hz10 hm2 h hg => ?_)
    have hm := hm.tn hm2
    refine k_eq (tgt := 24) hx hb dX8_near_11 (by decide) (z_R hz10) (fun c11 => ?_) (fun c11 => ?_)
    · have h := h.1 c11
      refine lv_aload_n hx hb dX8_near_24 rfl (lv_at hl 0 rfl) ?_
      refine call_i (run_V (a := ea E 0) (As := []) (rest := []) ⟨hx, hb, hml, hown, hts⟩ (ctX8_bad l E  s8 _  h) (cwV 0 hts gX8_near_X8_bad rfl rfl rfl ⟨rfl, hdX8_bad⟩ ⟨Nat.le_of_ble_eq_true rfl, Nat.le_of_ble_eq_true rfl⟩) hK hN hg (recv_x (ci := 8) (C := RX8) (T := TX8) (N := 14) hg hK (by decide) rfl (by decide) rfl) rfl hl.1 rfl (cat_sum _ (by simp)) dX8_near_25 ⟨Nat.le_refl 0, Nat.le_refl 0⟩) hg (fun r13 s12 H locs hz14 hm2 h hg => ?_)
      have hm := hm.tn hm2
      exact ret_i hx hb hr hlocks hg hz14 hm h dX8_near_28
    · have h := h.2 c11
      refine lv_iload_n hx hb dX8_near_14 rfl (lv_at hl 3 rfl) ?_
      refine lv_iconst (v := iI (-1)) hx hb dX8_near_15 (by decide) ?_
      refine j_eq (tgt := 29) hx hb dX8_near_16 (by decide) ha3 (by decide) (fun c15 => ?_) (fun c15 => ?_)
      · have h := h.1 c15
        exact J29  (s8) _ _ _ hg hm (lv_sub hl [0, 1, 2, 3] rfl) h
      · have h := h.2 c15
        refine lv_iload_n hx hb dX8_near_19 rfl (lv_at hl 3 rfl) ?_
        refine lv_iconst (v := iI 1) hx hb dX8_near_20 (by decide) ?_
        refine j_eq (tgt := 29) hx hb dX8_near_21 (by decide) ha3 (by decide) (fun c16 => ?_) (fun c16 => ?_)
        · have h := h.1 c16
          exact J29  (s8) _ _ _ hg hm (lv_sub hl [0, 1, 2, 3] rfl) h
        · have h := h.2 c16
          refine lv_aload_n hx hb dX8_near_24 rfl (lv_at hl 0 rfl) ?_
          refine call_i (run_V (a := ea E 0) (As := []) (rest := []) ⟨hx, hb, hml, hown, hts⟩ (ctX8_bad l E  s8 _  h) (cwV 0 hts gX8_near_X8_bad rfl rfl rfl ⟨rfl, hdX8_bad⟩ ⟨Nat.le_of_ble_eq_true rfl, Nat.le_of_ble_eq_true rfl⟩) hK hN hg (recv_x (ci := 8) (C := RX8) (T := TX8) (N := 14) hg hK (by decide) rfl (by decide) rfl) rfl hl.1 rfl (cat_sum _ (by simp)) dX8_near_25 ⟨Nat.le_refl 0, Nat.le_refl 0⟩) hg (fun r18 s17 H locs hz19 hm2 h hg => ?_)
          have hm := hm.tn hm2
          exact ret_i hx hb hr hlocks hg hz19 hm h dX8_near_28
