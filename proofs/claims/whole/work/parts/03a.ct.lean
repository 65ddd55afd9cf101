theorem hdX0_lay : yX0_lay.cls ≠ "java/lang/invoke/MethodHandle" ∧ yX0_lay.cls ≠ "java/lang/invoke/VarHandle" ∧ (parseMethodDescriptor yX0_lay.desc).map (fun d => d.parameters.length) = some 1 := by decide +kernel
set_option maxRecDepth 100000 in
set_option maxHeartbeats 4000000 in
theorem ctX0_lay (l : Launch) (E : Ev)  (σ : SS) (Q : SS → Prop)  (h : wX0_lay  σ Q) : Met l yX0_lay wsX0_lay ({ frames := 0, cells := 0, slots := 0, locals := 0 } : Room) (Pc E σ [.ref (ea E 12), .ref (ea E 3)]) (Qv E (sz σ) σ Q) 0 0 (Av E) := by
  rw [wX0_lay] at h
  refine Met.ofW (cc := cX0_lay) (maxL := 3) (ret := none) (by decide) rfl ?_
  intro p e s m args below meth c s₁ B hml hv
  obtain ⟨rfl, hH, hK, hN⟩ := hv
  have hx := B.exec
  have hb := B.bytes
  have hr := B.returns
  have hts := atoms_spec (ws := wsX0_lay) B.pre
  have hown : s.vm.findClass RX0 = some m.cls := findClass_of_methodNamed B.named
  have hlocks := B.notSynchronized
  have hg : GS E σ s s.heap [] := ⟨hH, va_S.rf⟩
  have hm : Mo (sz σ) σ σ := Mo.rf (Nat.le_refl _)
  have hl := ent (vs := [.ref (ea E 12), .ref (ea E 3)]) (n := 3) (cats_x (cats_x cats_nil)) (Nat.le_of_ble_eq_true rfl)
  rw [lg_entry_eq]
  generalize (lg_sl ([.ref (ea E 12), .ref (ea E 3)]) ++ List.replicate (3 - (lg_sl ([.ref (ea E 12), .ref (ea E 3)])).length) Slot.unset).toArray = ls at hl ⊢
  have hl : lv_has ls 3 [(0, .ref (ea E 12)), (1, .ref (ea E 3))] := hl
  have J30 : ∀ (k : Nat), ∀ (v2 : Int) (sL : SS) (H : Heap) (locs : List Loc) (ls : Array Slot), GS E sL s H locs → Mo (sz σ) σ sL → lv_has ls 3 [(0, .ref (ea E 12)), (2, .int (iI (v2)))] → wX0_lay_L30  Q  k v2 sL → W p l e (headSpec wsX0_lay ({ frames := 0, cells := 0, slots := 0, locals := 0 } : Room)).room s m (List.toArray [.ref (ea E 12), .ref (ea E 3)]) below meth c H locs 0 0 (MQ below (Qv E (sz σ) σ Q) (List.toArray [.ref (ea E 12), .ref (ea E 3)]) s 0 0 (Av E)) (F0 m 30 ls []) := by
    intro k
    induction k with
    | zero => intro v2 sL H locs ls hg hm hl h; exact False.elim h
    | succ k ih =>
      intro v2 sL H locs ls hg hm hl h
      rw [wX0_lay_L30] at h
      refine lv_iload_n hx hb dX0_lay_30 rfl (lv_at hl 1 rfl) ?_
      refine lv_bipush (v := iI 120) hx hb dX0_lay_31 (by decide) ?_
      obtain ⟨hR8, h⟩ := h
      refine j_ge (tgt := 49) hx hb dX0_lay_33 (by decide) hR8 (by decide) (fun c9 => ?_) (fun c9 => ?_)
      · have h := h.1 c9
        exact ret_v hx hb hr hlocks hg hm h dX0_lay_49
      · have h := h.2 c9
        refine lv_aload_n hx hb dX0_lay_36 rfl (lv_at hl 0 rfl) ?_
        refine q_getx (ci := 0) (C := RX0) (T := TX0) (N := 4) (j := 14) hx hb hts (fun _ h9 => List.mem_cons_of_mem _ (List.mem_append_right _ h9)) hown hK hg 12 (by decide) rfl rfl (by decide) rfl 1 (by decide) (hts (.fieldLink RX0 17 "JoinMaps$Bench" "stack" "[LJoinMaps$Node;") (List.mem_cons_of_mem _ (List.mem_append_left _ (List.mem_of_getElem? (i := 2) rfl)))) rfl rfl rfl dX0_lay_37 ?_
        refine lv_iload_n hx hb dX0_lay_40 rfl (lv_at hl 1 rfl) ?_
        refine q_null hx hb dX0_lay_41 ?_
        obtain ⟨hP10, hP11, h⟩ := h
        refine q_aast (N := 120) hx hb hK hg 14 (by decide) rfl rfl hP10 hP11 (by decide) (fun b h0 => by cases h0) dX0_lay_42 (fun H locs hg => ?_)
        refine lv_iinc (v := iI (v2 + 1)) (lv' := [(2, .int (iI (v2 + 1))), (0, .ref (ea E 12))]) hx hb dX0_lay_43 hl (k := 1) rfl (iI_add _ _) (by decide) rfl (fun ls hl => ?_)
        refine lv_goto (tgt := 30) hx hb dX0_lay_46 (by decide) ?_
        exact ih (v2 + 1) (uf sL 14 (v2 : Int).toNat (none)) _ _ _ hg hm (lv_sub hl [1, 0] rfl) h
  have J7 : ∀ (k : Nat), ∀ (v2 : Int) (sL : SS) (H : Heap) (locs : List Loc) (ls : Array Slot), GS E sL s H locs → Mo (sz σ) σ sL → lv_has ls 3 [(0, .ref (ea E 12)), (1, .ref (ea E 3)), (2, .int (iI (v2)))] → wX0_lay_L7  Q  k v2 sL → W p l e (headSpec wsX0_lay ({ frames := 0, cells := 0, slots := 0, locals := 0 } : Room)).room s m (List.toArray [.ref (ea E 12), .ref (ea E 3)]) below meth c H locs 0 0 (MQ below (Qv E (sz σ) σ Q) (List.toArray [.ref (ea E 12), .ref (ea E 3)]) s 0 0 (Av E)) (F0 m 7 ls []) := by
    intro k
    induction k with
    | zero => intro v2 sL H locs ls hg hm hl h; exact False.elim h
    | succ k ih =>
      intro v2 sL H locs ls hg hm hl h
      rw [wX0_lay_L7] at h
      refine lv_iload_n hx hb dX0_lay_7 rfl (lv_at hl 2 rfl) ?_
      refine lv_bipush (v := iI 6) hx hb dX0_lay_8 (by decide) ?_
      obtain ⟨hR1, h⟩ := h
      refine j_ge (tgt := 28) hx hb dX0_lay_10 (by decide) hR1 (by decide) (fun c2 => ?_) (fun c2 => ?_)
      · have h := h.1 c2
        refine lv_iconst (v := iI 0) hx hb dX0_lay_28 (by decide) ?_
        refine lv_istore_n (i := 2) (lv' := [(2, .int (iI (0))), (0, .ref (ea E 12)), (1, .ref (ea E 3))]) hx hb dX0_lay_29 rfl hl (by decide) rfl (fun ls hl => ?_)
        obtain ⟨kk, h⟩ := h
        exact J30  kk (0) (sL) _ _ _ hg hm (lv_sub hl [1, 0] rfl) h
      · have h := h.2 c2
        refine lv_aload_n hx hb dX0_lay_13 rfl (lv_at hl 0 rfl) ?_
        refine q_getx (ci := 0) (C := RX0) (T := TX0) (N := 4) (j := 13) hx hb hts (fun _ h9 => List.mem_cons_of_mem _ (List.mem_append_right _ h9)) hown hK hg 12 (by decide) rfl rfl (by decide) rfl 0 (by decide) (hts (.fieldLink RX0 11 "JoinMaps$Bench" "maps" "[LJoinMaps$Node;") (List.mem_cons_of_mem _ (List.mem_append_left _ (List.mem_of_getElem? (i := 1) rfl)))) rfl rfl rfl dX0_lay_14 ?_
        refine lv_iload_n hx hb dX0_lay_17 rfl (lv_at hl 2 rfl) ?_
        refine lv_aload_n hx hb dX0_lay_18 rfl (lv_at hl 1 rfl) ?_
        refine lv_iload_n hx hb dX0_lay_19 rfl (lv_at hl 2 rfl) ?_
        obtain ⟨hP3, hP4, h⟩ := h
        refine q_aald (N := 6) hx hb hK hg 3 (by decide) rfl rfl hP3 hP4 (by decide) dX0_lay_20 ?_
        have hS5 : ∀ b, (sf sL 3 (v2 : Int).toNat) = some b → sS sL b := fun b h0 => GS_F hg h0
        obtain ⟨hP6, hP7, h⟩ := h
        refine q_aast (N := 6) hx hb hK hg 13 (by decide) rfl rfl hP6 hP7 (by decide) hS5 dX0_lay_21 (fun H locs hg => ?_)
        refine lv_iinc (v := iI (v2 + 1)) (lv' := [(2, .int (iI (v2 + 1))), (0, .ref (ea E 12)), (1, .ref (ea E 3))]) hx hb dX0_lay_22 hl (k := 2) rfl (iI_add _ _) (by decide) rfl (fun ls hl => ?_)
        refine lv_goto (tgt := 7) hx hb dX0_lay_25 (by decide) ?_
        exact ih (v2 + 1) (uf sL 13 (v2 : Int).toNat ((sf sL 3 (v2 : Int).toNat))) _ _ _ hg hm (lv_sub hl [1, 2, 0] rfl) h
  refine lv_aload_n hx hb dX0_lay_0 rfl (lv_at hl 0 rfl) ?_
  refine lv_iconst (v := iI 0) hx hb dX0_lay_1 (by decide) ?_
  refine q_puti (ci := 0) (C := RX0) (T := TX0) (N := 4) hx hb hts (fun _ h9 => List.mem_cons_of_mem _ (List.mem_append_right _ h9)) tyX0 tyX0_ok nmX0 hown hK hg 12 (by decide) rfl rfl (by decide) rfl 3 (by decide) (hts (.fieldLink RX0 24 "JoinMaps$Bench" "height" "I") (List.mem_cons_of_mem _ (List.mem_append_left _ (List.mem_of_getElem? (i := 0) rfl)))) rfl rfl (by decide +kernel) rfl (by decide) dX0_lay_2 (fun H locs hg => ?_)
  refine lv_iconst (v := iI 0) hx hb dX0_lay_5 (by decide) ?_
  refine lv_istore_n (i := 2) (lv' := [(2, .int (iI (0))), (0, .ref (ea E 12)), (1, .ref (ea E 3))]) hx hb dX0_lay_6 rfl hl (by decide) rfl (fun ls hl => ?_)
  obtain ⟨kk, h⟩ := h
  exact J7  kk (0) (un σ 12 3 (0)) _ _ _ hg hm (lv_sub hl [1, 2, 0] rfl) h
theorem hdX0_bring : yX0_bring.cls ≠ "java/lang/invoke/MethodHandle" ∧ yX0_bring.cls ≠ "java/lang/invoke/VarHandle" ∧ (parseMethodDescriptor yX0_bring.desc).map (fun d => d.parameters.length) = some 1 := by decide +kernel
set_option maxRecDepth 100000 in
set_option maxHeartbeats 4000000 in
theorem ctX0_bring (l : Launch) (E : Ev)  (σ : SS) (Q : SS → Prop)  (h : wX0_bring  σ Q) : Met l yX0_bring wsX0_bring ({ frames := 0, cells := 0, slots := 0, locals := 0 } : Room) (Pc E σ [.ref (ea E 12), .ref (ea E 3)]) (Qv E (sz σ) σ Q) 0 0 (Av E) := by
  rw [wX0_bring] at h
  refine Met.ofW (cc := cX0_bring) (maxL := 3) (ret := none) (by decide) rfl ?_
  intro p e s m args below meth c s₁ B hml hv
  obtain ⟨rfl, hH, hK, hN⟩ := hv
  have hx := B.exec
  have hb := B.bytes
  have hr := B.returns
  have hts := atoms_spec (ws := wsX0_bring) B.pre
  have hown : s.vm.findClass RX0 = some m.cls := findClass_of_methodNamed B.named
  have hlocks := B.notSynchronized
  have hg : GS E σ s s.heap [] := ⟨hH, va_S.rf⟩
  have hm : Mo (sz σ) σ σ := Mo.rf (Nat.le_refl _)
  have hl := ent (vs := [.ref (ea E 12), .ref (ea E 3)]) (n := 3) (cats_x (cats_x cats_nil)) (Nat.le_of_ble_eq_true rfl)
  rw [lg_entry_eq]
  generalize (lg_sl ([.ref (ea E 12), .ref (ea E 3)]) ++ List.replicate (3 - (lg_sl ([.ref (ea E 12), .ref (ea E 3)])).length) Slot.unset).toArray = ls at hl ⊢
  have hl : lv_has ls 3 [(0, .ref (ea E 12)), (1, .ref (ea E 3))] := hl
  have J2 : ∀ (k : Nat), ∀ (v2 : Int) (sL : SS) (H : Heap) (locs : List Loc) (ls : Array Slot), GS E sL s H locs → Mo (sz σ) σ sL → lv_has ls 3 [(0, .ref (ea E 12)), (1, .ref (ea E 3)), (2, .int (iI (v2)))] → wX0_bring_L2  Q  k v2 sL → W p l e (headSpec wsX0_bring ({ frames := 0, cells := 0, slots := 0, locals := 0 } : Room)).room s m (List.toArray [.ref (ea E 12), .ref (ea E 3)]) below meth c H locs 0 0 (MQ below (Qv E (sz σ) σ Q) (List.toArray [.ref (ea E 12), .ref (ea E 3)]) s 0 0 (Av E)) (F0 m 2 ls []) := by
    intro k
    induction k with
    | zero => intro v2 sL H locs ls hg hm hl h; exact False.elim h
    | succ k ih =>
      intro v2 sL H locs ls hg hm hl h
      rw [wX0_bring_L2] at h
      refine lv_iload_n hx hb dX0_bring_2 rfl (lv_at hl 2 rfl) ?_
      refine lv_bipush (v := iI 6) hx hb dX0_bring_3 (by decide) ?_
      obtain ⟨hR1, h⟩ := h
      refine j_ge (tgt := 23) hx hb dX0_bring_5 (by decide) hR1 (by decide) (fun c2 => ?_) (fun c2 => ?_)
      · have h := h.1 c2
        exact ret_v hx hb hr hlocks hg hm h dX0_bring_23
      · have h := h.2 c2
        refine lv_aload_n hx hb dX0_bring_8 rfl (lv_at hl 1 rfl) ?_
        refine lv_iload_n hx hb dX0_bring_9 rfl (lv_at hl 2 rfl) ?_
        refine lv_aload_n hx hb dX0_bring_10 rfl (lv_at hl 0 rfl) ?_
        refine q_getx (ci := 0) (C := RX0) (T := TX0) (N := 4) (j := 13) hx hb hts (fun _ h9 => List.mem_cons_of_mem _ (List.mem_append_right _ h9)) hown hK hg 12 (by decide) rfl rfl (by decide) rfl 0 (by decide) (hts (.fieldLink RX0 11 "JoinMaps$Bench" "maps" "[LJoinMaps$Node;") (List.mem_cons_of_mem _ (List.mem_append_left _ (List.mem_of_getElem? (i := 0) rfl)))) rfl rfl rfl dX0_bring_11 ?_
        refine lv_iload_n hx hb dX0_bring_14 rfl (lv_at hl 2 rfl) ?_
        obtain ⟨hP3, hP4, h⟩ := h
        refine q_aald (N := 6) hx hb hK hg 13 (by decide) rfl rfl hP3 hP4 (by decide) dX0_bring_15 ?_
        have hS5 : ∀ b, (sf sL 13 (v2 : Int).toNat) = some b → sS sL b := fun b h0 => GS_F hg h0
        obtain ⟨hP6, hP7, h⟩ := h
        refine q_aast (N := 6) hx hb hK hg 3 (by decide) rfl rfl hP6 hP7 (by decide) hS5 dX0_bring_16 (fun H locs hg => ?_)
        refine lv_iinc (v := iI (v2 + 1)) (lv' := [(2, .int (iI (v2 + 1))), (0, .ref (ea E 12)), (1, .ref (ea E 3))]) hx hb dX0_bring_17 hl (k := 2) rfl (iI_add _ _) (by decide) rfl (fun ls hl => ?_)
        refine lv_goto (tgt := 2) hx hb dX0_bring_20 (by decide) ?_
        exact ih (v2 + 1) (uf sL 3 (v2 : Int).toNat ((sf sL 13 (v2 : Int).toNat))) _ _ _ hg hm (lv_sub hl [1, 2, 0] rfl) h
  refine lv_iconst (v := iI 0) hx hb dX0_bring_0 (by decide) ?_
  refine lv_istore_n (i := 2) (lv' := [(2, .int (iI (0))), (0, .ref (ea E 12)), (1, .ref (ea E 3))]) hx hb dX0_bring_1 rfl hl (by decide) rfl (fun ls hl => ?_)
  obtain ⟨kk, h⟩ := h
  exact J2  kk (0) (σ) _ _ _ hg hm (lv_sub hl [1, 2, 0] rfl) h
theorem hdX0_pop : yX0_pop.cls ≠ "java/lang/invoke/MethodHandle" ∧ yX0_pop.cls ≠ "java/lang/invoke/VarHandle" ∧ (parseMethodDescriptor yX0_pop.desc).map (fun d => d.parameters.length) = some 0 := by decide +kernel
set_option maxRecDepth 100000 in
set_option maxHeartbeats 4000000 in
theorem ctX0_pop (l : Launch) (E : Ev)  (σ : SS) (Q : Option Nat → SS → Prop)  (h : wX0_pop  σ Q) : Met l yX0_pop wsX0_pop ({ frames := 0, cells := 0, slots := 0, locals := 0 } : Room) (Pc E σ [.ref (ea E 12)]) (Qr E (sz σ) σ Q) 0 0 (Av E) := by
  rw [wX0_pop] at h
  refine Met.ofW (cc := cX0_pop) (maxL := 2) (ret := (some (.object "JoinMaps$Node"))) (by decide) rfl ?_
  intro p e s m args below meth c s₁ B hml hv
  obtain ⟨rfl, hH, hK, hN⟩ := hv
  have hx := B.exec
  have hb := B.bytes
  have hr := B.returns
  have hts := atoms_spec (ws := wsX0_pop) B.pre
  have hown : s.vm.findClass RX0 = some m.cls := findClass_of_methodNamed B.named
  have hlocks := B.notSynchronized
  have hg : GS E σ s s.heap [] := ⟨hH, va_S.rf⟩
  have hm : Mo (sz σ) σ σ := Mo.rf (Nat.le_refl _)
  have hl := ent (vs := [.ref (ea E 12)]) (n := 2) (cats_x cats_nil) (Nat.le_of_ble_eq_true rfl)
  rw [lg_entry_eq]
  generalize (lg_sl ([.ref (ea E 12)]) ++ List.replicate (2 - (lg_sl ([.ref (ea E 12)])).length) Slot.unset).toArray = ls at hl ⊢
  have hl : lv_has ls 2 [(0, .ref (ea E 12))] := hl
  refine lv_aload_n hx hb dX0_pop_0 rfl (lv_at hl 0 rfl) ?_
  refine q_geti (ci := 0) (C := RX0) (T := TX0) (N := 4) hx hb hts (fun _ h9 => List.mem_cons_of_mem _ (List.mem_append_right _ h9)) hown hK hg 12 (by decide) rfl rfl (by decide) rfl 3 (by decide) (hts (.fieldLink RX0 24 "JoinMaps$Bench" "height" "I") (List.mem_cons_of_mem _ (List.mem_append_left _ (List.mem_of_getElem? (i := 0) rfl)))) rfl rfl dX0_pop_1 ?_
  have hR1 := GS_R hg 12 3
  refine k_ne (tgt := 9) hx hb dX0_pop_4 (by decide) hR1 (fun c2 => ?_) (fun c2 => ?_)
  · have h := h.1 c2
    refine lv_aload_n hx hb dX0_pop_9 rfl (lv_at hl 0 rfl) ?_
    refine lv_dup hx hb dX0_pop_10 rfl ?_
    refine q_geti (ci := 0) (C := RX0) (T := TX0) (N := 4) hx hb hts (fun _ h9 => List.mem_cons_of_mem _ (List.mem_append_right _ h9)) hown hK hg 12 (by decide) rfl rfl (by decide) rfl 3 (by decide) (hts (.fieldLink RX0 24 "JoinMaps$Bench" "height" "I") (List.mem_cons_of_mem _ (List.mem_append_left _ (List.mem_of_getElem? (i := 0) rfl)))) rfl rfl dX0_pop_11 ?_
    have hR3 := GS_R hg 12 3
    refine lv_iconst (v := iI 1) hx hb dX0_pop_14 (by decide) ?_
    refine q_isub hx hb dX0_pop_15 ?_
    obtain ⟨hR4, h⟩ := h
    refine q_puti (ci := 0) (C := RX0) (T := TX0) (N := 4) hx hb hts (fun _ h9 => List.mem_cons_of_mem _ (List.mem_append_right _ h9)) tyX0 tyX0_ok nmX0 hown hK hg 12 (by decide) rfl rfl (by decide) rfl 3 (by decide) (hts (.fieldLink RX0 24 "JoinMaps$Bench" "height" "I") (List.mem_cons_of_mem _ (List.mem_append_left _ (List.mem_of_getElem? (i := 0) rfl)))) rfl rfl (by decide +kernel) rfl hR4 dX0_pop_16 (fun H locs hg => ?_)
    refine lv_aload_n hx hb dX0_pop_19 rfl (lv_at hl 0 rfl) ?_
    refine q_getx (ci := 0) (C := RX0) (T := TX0) (N := 4) (j := 14) hx hb hts (fun _ h9 => List.mem_cons_of_mem _ (List.mem_append_right _ h9)) hown hK hg 12 (by decide) rfl rfl (by decide) rfl 1 (by decide) (hts (.fieldLink RX0 17 "JoinMaps$Bench" "stack" "[LJoinMaps$Node;") (List.mem_cons_of_mem _ (List.mem_append_left _ (List.mem_of_getElem? (i := 1) rfl)))) rfl rfl rfl dX0_pop_20 ?_
    refine lv_aload_n hx hb dX0_pop_23 rfl (lv_at hl 0 rfl) ?_
    refine q_geti (ci := 0) (C := RX0) (T := TX0) (N := 4) hx hb hts (fun _ h9 => List.mem_cons_of_mem _ (List.mem_append_right _ h9)) hown hK hg 12 (by decide) rfl rfl (by decide) rfl 3 (by decide) (hts (.fieldLink RX0 24 "JoinMaps$Bench" "height" "I") (List.mem_cons_of_mem _ (List.mem_append_left _ (List.mem_of_getElem? (i := 0) rfl)))) rfl rfl dX0_pop_24 ?_
    have hR5 := GS_R hg 12 3
    obtain ⟨hP6, hP7, h⟩ := h
    refine q_aald (N := 120) hx hb hK hg 14 (by decide) rfl rfl hP6 hP7 (by decide) dX0_pop_27 ?_
    have hS8 : ∀ b, (sf (un σ 12 3 (((sn σ 12 3) - 1))) 14 ((sn (un σ 12 3 (((sn σ 12 3) - 1))) 12 3) : Int).toNat) = some b → sS (un σ 12 3 (((sn σ 12 3) - 1))) b := fun b h0 => GS_F hg h0
    refine q_astore_n (i := 1) (lv' := [(1, va_rf ((sf (un σ 12 3 (((sn σ 12 3) - 1))) 14 ((sn (un σ 12 3 (((sn σ 12 3) - 1))) 12 3) : Int).toNat))), (0, .ref (ea E 12))]) hx hb dX0_pop_28 rfl hl (by decide) (by simp [List.filter_cons, rf_cat, ct_i, ct_l, ct_x]) (fun ls hl => ?_)
    refine lv_aload_n hx hb dX0_pop_29 rfl (lv_at hl 1 rfl) ?_
    refine q_getx (ci := 0) (C := RX0) (T := TX0) (N := 4) (j := 14) hx hb hts (fun _ h9 => List.mem_cons_of_mem _ (List.mem_append_right _ h9)) hown hK hg 12 (by decide) rfl rfl (by decide) rfl 1 (by decide) (hts (.fieldLink RX0 17 "JoinMaps$Bench" "stack" "[LJoinMaps$Node;") (List.mem_cons_of_mem _ (List.mem_append_left _ (List.mem_of_getElem? (i := 1) rfl)))) rfl rfl rfl dX0_pop_30 ?_
    refine lv_aload_n hx hb dX0_pop_33 rfl (lv_at hl 1 rfl) ?_
    refine q_geti (ci := 0) (C := RX0) (T := TX0) (N := 4) hx hb hts (fun _ h9 => List.mem_cons_of_mem _ (List.mem_append_right _ h9)) hown hK hg 12 (by decide) rfl rfl (by decide) rfl 3 (by decide) (hts (.fieldLink RX0 24 "JoinMaps$Bench" "height" "I") (List.mem_cons_of_mem _ (List.mem_append_left _ (List.mem_of_getElem? (i := 0) rfl)))) rfl rfl dX0_pop_34 ?_
    have hR9 := GS_R hg 12 3
    refine q_null hx hb dX0_pop_37 ?_
    obtain ⟨hP10, hP11, h⟩ := h
    refine q_aast (N := 120) hx hb hK hg 14 (by decide) rfl rfl hP10 hP11 (by decide) (fun b h0 => by cases h0) dX0_pop_38 (fun H locs hg => ?_)
    refine q_aload_n hx hb dX0_pop_39 rfl (lv_at hl 0 rfl) ?_
    exact ret_r hx hb hr hlocks hg hS8 hm h dX0_pop_40
  · have h := h.2 c2
    refine q_null hx hb dX0_pop_7 ?_
    exact ret_r hx hb hr hlocks hg (fun b h0 => by cases h0) hm h dX0_pop_8
theorem hdX0_push : yX0_push.cls ≠ "java/lang/invoke/MethodHandle" ∧ yX0_push.cls ≠ "java/lang/invoke/VarHandle" ∧ (parseMethodDescriptor yX0_push.desc).map (fun d => d.parameters.length) = some 1 := by decide +kernel
set_option maxRecDepth 100000 in
set_option maxHeartbeats 4000000 in
theorem ctX0_push (l : Launch) (E : Ev) (a1 : Option Nat) (σ : SS) (Q : SS → Prop) (ha1 : ∀ b, a1 = some b → sS σ b) (h : wX0_push a1 σ Q) : Met l yX0_push wsX0_push ({ frames := 0, cells := 0, slots := 0, locals := 0 } : Room) (Pc E σ [.ref (ea E 12), va_rf (a1)]) (Qv E (sz σ) σ Q) 0 0 (Av E) := by
  rw [wX0_push] at h
  refine Met.ofW (cc := cX0_push) (maxL := 2) (ret := none) (by decide) rfl ?_
  intro p e s m args below meth c s₁ B hml hv
  obtain ⟨rfl, hH, hK, hN⟩ := hv
  have hx := B.exec
  have hb := B.bytes
  have hr := B.returns
  have hts := atoms_spec (ws := wsX0_push) B.pre
  have hown : s.vm.findClass RX0 = some m.cls := findClass_of_methodNamed B.named
  have hlocks := B.notSynchronized
  have hg : GS E σ s s.heap [] := ⟨hH, va_S.rf⟩
  have hm : Mo (sz σ) σ σ := Mo.rf (Nat.le_refl _)
  have hl := ent (vs := [.ref (ea E 12), va_rf (a1)]) (n := 2) (cats_x (cats_r cats_nil)) (Nat.le_of_ble_eq_true rfl)
  rw [lg_entry_eq]
  generalize (lg_sl ([.ref (ea E 12), va_rf (a1)]) ++ List.replicate (2 - (lg_sl ([.ref (ea E 12), va_rf (a1)])).length) Slot.unset).toArray = ls at hl ⊢
  have hl : lv_has ls 2 [(0, .ref (ea E 12)), (1, va_rf (a1))] := hl
  refine lv_aload_n hx hb dX0_push_0 rfl (lv_at hl 0 rfl) ?_
  refine q_geti (ci := 0) (C := RX0) (T := TX0) (N := 4) hx hb hts (fun _ h9 => List.mem_cons_of_mem _ (List.mem_append_right _ h9)) hown hK hg 12 (by decide) rfl rfl (by decide) rfl 3 (by decide) (hts (.fieldLink RX0 24 "JoinMaps$Bench" "height" "I") (List.mem_cons_of_mem _ (List.mem_append_left _ (List.mem_of_getElem? (i := 0) rfl)))) rfl rfl dX0_push_1 ?_
  have hR1 := GS_R hg 12 3
  refine lv_bipush (v := iI 120) hx hb dX0_push_4 (by decide) ?_
  refine j_ge (tgt := 29) hx hb dX0_push_6 (by decide) hR1 (by decide) (fun c2 => ?_) (fun c2 => ?_)
  · have h := h.1 c2
    exact ret_v hx hb hr hlocks hg hm h dX0_push_29
  · have h := h.2 c2
    refine lv_aload_n hx hb dX0_push_9 rfl (lv_at hl 0 rfl) ?_
    refine q_getx (ci := 0) (C := RX0) (T := TX0) (N := 4) (j := 14) hx hb hts (fun _ h9 => List.mem_cons_of_mem _ (List.mem_append_right _ h9)) hown hK hg 12 (by decide) rfl rfl (by decide) rfl 1 (by decide) (hts (.fieldLink RX0 17 "JoinMaps$Bench" "stack" "[LJoinMaps$Node;") (List.mem_cons_of_mem _ (List.mem_append_left _ (List.mem_of_getElem? (i := 1) rfl)))) rfl rfl rfl dX0_push_10 ?_
    refine lv_aload_n hx hb dX0_push_13 rfl (lv_at hl 0 rfl) ?_
    refine q_geti (ci := 0) (C := RX0) (T := TX0) (N := 4) hx hb hts (fun _ h9 => List.mem_cons_of_mem _ (List.mem_append_right _ h9)) hown hK hg 12 (by decide) rfl rfl (by decide) rfl 3 (by decide) (hts (.fieldLink RX0 24 "JoinMaps$Bench" "height" "I") (List.mem_cons_of_mem _ (List.mem_append_left _ (List.mem_of_getElem? (i := 0) rfl)))) rfl rfl dX0_push_14 ?_
    have hR3 := GS_R hg 12 3
    refine q_aload_n hx hb dX0_push_17 rfl (lv_at hl 1 rfl) ?_
    obtain ⟨hP4, hP5, h⟩ := h
    refine q_aast (N := 120) hx hb hK hg 14 (by decide) rfl rfl hP4 hP5 (by decide) ha1 dX0_push_18 (fun H locs hg => ?_)
    refine lv_aload_n hx hb dX0_push_19 rfl (lv_at hl 0 rfl) ?_
    refine lv_dup hx hb dX0_push_20 rfl ?_
    refine q_geti (ci := 0) (C := RX0) (T := TX0) (N := 4) hx hb hts (fun _ h9 => List.mem_cons_of_mem _ (List.mem_append_right _ h9)) hown hK hg 12 (by decide) rfl rfl (by decide) rfl 3 (by decide) (hts (.fieldLink RX0 24 "JoinMaps$Bench" "height" "I") (List.mem_cons_of_mem _ (List.mem_append_left _ (List.mem_of_getElem? (i := 0) rfl)))) rfl rfl dX0_push_21 ?_
    have hR6 := GS_R hg 12 3
    refine lv_iconst (v := iI 1) hx hb dX0_push_24 (by decide) ?_
    refine q_iadd hx hb dX0_push_25 ?_
    obtain ⟨hR7, h⟩ := h
    refine q_puti (ci := 0) (C := RX0) (T := TX0) (N := 4) hx hb hts (fun _ h9 => List.mem_cons_of_mem _ (List.mem_append_right _ h9)) tyX0 tyX0_ok nmX0 hown hK hg 12 (by decide) rfl rfl (by decide) rfl 3 (by decide) (hts (.fieldLink RX0 24 "JoinMaps$Bench" "height" "I") (List.mem_cons_of_mem _ (List.mem_append_left _ (List.mem_of_getElem? (i := 0) rfl)))) rfl rfl (by decide +kernel) rfl hR7 dX0_push_26 (fun H locs hg => ?_)
    exact ret_v hx hb hr hlocks hg hm h dX0_push_29
theorem hdX8_isIn : yX8_isIn.cls ≠ "java/lang/invoke/MethodHandle" ∧ yX8_isIn.cls ≠ "java/lang/invoke/VarHandle" ∧ (parseMethodDescriptor yX8_isIn.desc).map (fun d => d.parameters.length) = some 3 := by decide +kernel
set_option maxRecDepth 100000 in
set_option maxHeartbeats 4000000 in
theorem ctX8_isIn (l : Launch) (E : Ev) (a0 : Int) (a1 : Int) (a2 : Int) (σ : SS) (Q : Int → SS → Prop) (ha0 : R32 a0) (ha1 : R32 a1) (ha2 : R32 a2) (h : wX8_isIn a0 a1 a2 σ Q) : Met l yX8_isIn wsX8_isIn ({ frames := 0, cells := 0, slots := 0, locals := 0 } : Room) (Pc E σ [.int (iI (a0)), .int (iI (a1)), .int (iI (a2))]) (Qz E (sz σ) σ Q) 0 0 (Av E) := by
  rw [wX8_isIn] at h
  refine Met.ofW (cc := cX8_isIn) (maxL := 3) (ret := (some .boolean)) (by decide) rfl ?_
  intro p e s m args below meth c s₁ B hml hv
  obtain ⟨rfl, hH, hK, hN⟩ := hv
  have hx := B.exec
  have hb := B.bytes
  have hr := B.returns
  have hts := atoms_spec (ws := wsX8_isIn) B.pre
  have hown : s.vm.findClass RX8 = some m.cls := findClass_of_methodNamed B.named
  have hlocks := B.notSynchronized
  have hg : GS E σ s s.heap [] := ⟨hH, va_S.rf⟩
  have hm : Mo (sz σ) σ σ := Mo.rf (Nat.le_refl _)
  have hl := ent (vs := [.int (iI (a0)), .int (iI (a1)), .int (iI (a2))]) (n := 3) (cats_i (cats_i (cats_i cats_nil))) (Nat.le_of_ble_eq_true rfl)
  rw [lg_entry_eq]
  generalize (lg_sl ([.int (iI (a0)), .int (iI (a1)), .int (iI (a2))]) ++ List.replicate (3 - (lg_sl ([.int (iI (a0)), .int (iI (a1)), .int (iI (a2))])).length) Slot.unset).toArray = ls at hl ⊢
  have hl : lv_has ls 3 [(0, .int (iI (a0))), (1, .int (iI (a1))), (2, .int (iI (a2)))] := hl
  refine lv_iload_n hx hb dX8_isIn_0 rfl (lv_at hl 0 rfl) ?_
  refine lv_iload_n hx hb dX8_isIn_1 rfl (lv_at hl 1 rfl) ?_
  refine j_lt (tgt := 14) hx hb dX8_isIn_2 (by decide) ha0 ha1 (fun c1 => ?_) (fun c1 => ?_)
  · have h := h.1 c1
    refine lv_iconst (v := iI 0) hx hb dX8_isIn_14 (by decide) ?_
    exact ret_z hx hb hr hlocks hg (by decide) hm h dX8_isIn_15
  · have h := h.2 c1
    refine lv_iload_n hx hb dX8_isIn_5 rfl (lv_at hl 0 rfl) ?_
    refine lv_iload_n hx hb dX8_isIn_6 rfl (lv_at hl 2 rfl) ?_
    refine j_gt (tgt := 14) hx hb dX8_isIn_7 (by decide) ha0 ha2 (fun c2 => ?_) (fun c2 => ?_)
    · have h := h.1 c2
      refine lv_iconst (v := iI 0) hx hb dX8_isIn_14 (by decide) ?_
      exact ret_z hx hb hr hlocks hg (by decide) hm h dX8_isIn_15
    · have h := h.2 c2
      refine lv_iconst (v := iI 1) hx hb dX8_isIn_10 (by decide) ?_
      refine lv_goto (tgt := 15) hx hb dX8_isIn_11 (by decide) ?_
      exact ret_z hx hb hr hlocks hg (by decide) hm h dX8_isIn_15
theorem hdX8_isMap : yX8_isMap.cls ≠ "java/lang/invoke/MethodHandle" ∧ yX8_isMap.cls ≠ "java/lang/invoke/VarHandle" ∧ (parseMethodDescriptor yX8_isMap.desc).map (fun d => d.parameters.length) = some 1 := by decide +kernel
set_option maxRecDepth 100000 in
set_option maxHeartbeats 4000000 in
theorem ctX8_isMap (l : Launch) (E : Ev) (a0 : Int) (σ : SS) (Q : Int → SS → Prop) (ha0 : R32 a0) (h : wX8_isMap a0 σ Q) : Met l yX8_isMap wsX8_isMap ({ frames := 1, cells := 0, slots := 0, locals := 22 } : Room) (Pc E σ [.int (iI (a0))]) (Qz E (sz σ) σ Q) 0 0 (Av E) := by
  rw [wX8_isMap] at h
  refine Met.ofW (cc := cX8_isMap) (maxL := 1) (ret := (some .boolean)) (by decide) rfl ?_
  intro p e s m args below meth c s₁ B hml hv
  obtain ⟨rfl, hH, hK, hN⟩ := hv
  have hx := B.exec
  have hb := B.bytes
  have hr := B.returns
  have hts := atoms_spec (ws := wsX8_isMap) B.pre
  have hown : s.vm.findClass RX8 = some m.cls := findClass_of_methodNamed B.named
  have hlocks := B.notSynchronized
  have hg : GS E σ s s.heap [] := ⟨hH, va_S.rf⟩
  have hm : Mo (sz σ) σ σ := Mo.rf (Nat.le_refl _)
  have hl := ent (vs := [.int (iI (a0))]) (n := 1) (cats_i cats_nil) (Nat.le_of_ble_eq_true rfl)
  rw [lg_entry_eq]
  generalize (lg_sl ([.int (iI (a0))]) ++ List.replicate (1 - (lg_sl ([.int (iI (a0))])).length) Slot.unset).toArray = ls at hl ⊢
  have hl : lv_has ls 1 [(0, .int (iI (a0)))] := hl
  refine lv_iload_n hx hb dX8_isMap_0 rfl (lv_at hl 0 rfl) ?_
  refine lv_iconst (v := iI 0) hx hb dX8_isMap_1 (by decide) ?_
  refine lv_iconst (v := iI 5) hx hb dX8_isMap_2 (by decide) ?_
  refine call_z (run_S (As := [.int (iI (a0)), .int (iI (0)), .int (iI (5))]) (rest := []) ⟨hx, hb, hml, hown, hts⟩ (ctX8_isIn l E a0 0 5 σ _ ha0 (by decide) (by decide) h) (va_cwS 3 hts gX8_isMap_X8_isIn rfl rfl rfl hdX8_isIn ⟨Nat.le_of_ble_eq_true rfl, Nat.le_of_ble_eq_true rfl⟩) hK hN hg rfl hl.1 rfl (cat_sum _ (by simp)) dX8_isMap_3 ⟨Nat.le_refl 0, Nat.le_refl 0⟩) hg (fun r2 s1 H locs hz3 hm2 h hg => ?_)
  have hm := hm.tn hm2
  exact ret_z hx hb hr hlocks hg hz3 hm h dX8_isMap_6
theorem hdX0_store : yX0_store.cls ≠ "java/lang/invoke/MethodHandle" ∧ yX0_store.cls ≠ "java/lang/invoke/VarHandle" ∧ (parseMethodDescriptor yX0_store.desc).map (fun d => d.parameters.length) = some 1 := by decide +kernel
set_option maxRecDepth 100000 in
set_option maxHeartbeats 4000000 in
theorem ctX0_store (l : Launch) (E : Ev) (a1 : Int) (σ : SS) (Q : SS → Prop) (ha1 : R32 a1) (h : wX0_store a1 σ Q) : Met l yX0_store wsX0_store ({ frames := 2, cells := 0, slots := 0, locals := 42 } : Room) (Pc E σ [.ref (ea E 12), .int (iI (a1))]) (Qv E (sz σ) σ Q) 0 0 (Av E) := by
  rw [wX0_store] at h
  refine Met.ofW (cc := cX0_store) (maxL := 3) (ret := none) (by decide) rfl ?_
  intro p e s m args below meth c s₁ B hml hv
  obtain ⟨rfl, hH, hK, hN⟩ := hv
  have hx := B.exec
  have hb := B.bytes
  have hr := B.returns
  have hts := atoms_spec (ws := wsX0_store) B.pre
  have hown : s.vm.findClass RX0 = some m.cls := findClass_of_methodNamed B.named
  have hlocks := B.notSynchronized
  have hg : GS E σ s s.heap [] := ⟨hH, va_S.rf⟩
  have hm : Mo (sz σ) σ σ := Mo.rf (Nat.le_refl _)
  have hl := ent (vs := [.ref (ea E 12), .int (iI (a1))]) (n := 3) (cats_x (cats_i cats_nil)) (Nat.le_of_ble_eq_true rfl)
  rw [lg_entry_eq]
  generalize (lg_sl ([.ref (ea E 12), .int (iI (a1))]) ++ List.replicate (3 - (lg_sl ([.ref (ea E 12), .int (iI (a1))])).length) Slot.unset).toArray = ls at hl ⊢
  have hl : lv_has ls 3 [(0, .ref (ea E 12)), (1, .int (iI (a1)))] := hl
  refine lv_aload_n hx hb dX0_store_0 rfl (lv_at hl 0 rfl) ?_
  refine call_r (run_V (a := ea E 12) (As := []) (rest := []) ⟨hx, hb, hml, hown, hts⟩ (ctX0_pop l E  σ _  h) (cwV 0 hts gX0_store_X0_pop rfl rfl rfl ⟨rfl, hdX0_pop⟩ ⟨Nat.le_of_ble_eq_true rfl, Nat.le_of_ble_eq_true rfl⟩) hK hN hg (recv_x (ci := 0) (C := RX0) (T := TX0) (N := 4) hg hK (by decide) rfl (by decide) rfl) rfl hl.1 rfl (cat_sum _ (by simp)) dX0_store_1 ⟨Nat.le_refl 0, Nat.le_refl 0⟩) hg (fun r2 s1 H locs hz3 hm2 h hg => ?_)
  have hm := hm.tn hm2
  refine q_astore_n (i := 2) (lv' := [(2, va_rf (r2)), (0, .ref (ea E 12)), (1, .int (iI (a1)))]) hx hb dX0_store_4 rfl hl (by decide) (by simp [List.filter_cons, rf_cat, ct_i, ct_l, ct_x]) (fun ls hl => ?_)
  refine lv_iload_n hx hb dX0_store_5 rfl (lv_at hl 2 rfl) ?_
  refine call_z (run_SN (As := [.int (iI (a1))]) (rest := []) ⟨hx, hb, hml, hown, hts⟩ (ctX8_isMap l E a1 s1 _ ha1 h) ⟨va_cnB 1 hts gX0_store_X8_isMap_n28 rfl rfl rfl (hN 0 _ rfl) (hts (.initialized RX8) (List.mem_cons_of_mem _ (List.mem_append_left _ (List.mem_of_getElem? (i := 9) rfl)))) hdX8_isMap ⟨Nat.le_of_ble_eq_true rfl, Nat.le_of_ble_eq_true rfl⟩, (hts (.static yX8_isMap) (List.mem_cons_of_mem _ (List.mem_append_left _ (List.mem_of_getElem? (i := 8) rfl)))), trivial⟩ hK hN hg rfl hl.1 rfl (cat_sum _ (by simp)) dX0_store_6 ⟨Nat.le_refl 0, Nat.le_refl 0⟩) hg (fun r5 s4 H locs hz6 hm2 h hg => ?_)
  have hS7 : ∀ b, r2 = some b → sS s4 b := (fun b h0 => hm2.1 b (hz3 b h0))
  have hm := hm.tn hm2
  refine k_eq (tgt := 19) hx hb dX0_store_9 (by decide) (z_R hz6) (fun c8 => ?_) (fun c8 => ?_)
  · have h := h.1 c8
    exact ret_v hx hb hr hlocks hg hm h dX0_store_19
  · have h := h.2 c8
    refine lv_aload_n hx hb dX0_store_12 rfl (lv_at hl 1 rfl) ?_
    refine q_getx (ci := 0) (C := RX0) (T := TX0) (N := 4) (j := 13) hx hb hts (fun _ h9 => List.mem_cons_of_mem _ (List.mem_append_right _ h9)) hown hK hg 12 (by decide) rfl rfl (by decide) rfl 0 (by decide) (hts (.fieldLink RX0 11 "JoinMaps$Bench" "maps" "[LJoinMaps$Node;") (List.mem_cons_of_mem _ (List.mem_append_left _ (List.mem_of_getElem? (i := 0) rfl)))) rfl rfl rfl dX0_store_13 ?_
    refine lv_iload_n hx hb dX0_store_16 rfl (lv_at hl 2 rfl) ?_
    refine q_aload_n hx hb dX0_store_17 rfl (lv_at hl 0 rfl) ?_
    obtain ⟨hP9, hP10, h⟩ := h
    refine q_aast (N := 6) hx hb hK hg 13 (by decide) rfl rfl hP9 hP10 (by decide) hS7 dX0_store_18 (fun H locs hg => ?_)
    exact ret_v hx hb hr hlocks hg hm h dX0_store_19
theorem hdX2_isBalanced : yX2_isBalanced.cls ≠ "java/lang/invoke/MethodHandle" ∧ yX2_isBalanced.cls ≠ "java/lang/invoke/VarHandle" ∧ (parseMethodDescriptor yX2_isBalanced.desc).map (fun d => d.parameters.length) = some 2 := by decide +kernel
set_option maxRecDepth 100000 in
set_option maxHeartbeats 4000000 in
theorem ctX2_isBalanced (l : Launch) (E : Ev) (a0 : Int) (a1 : Int) (σ : SS) (Q : Int → SS → Prop) (ha0 : R32 a0) (ha1 : R32 a1) (h : wX2_isBalanced a0 a1 σ Q) : Met l yX2_isBalanced wsX2_isBalanced ({ frames := 0, cells := 0, slots := 0, locals := 0 } : Room) (Pc E σ [.int (iI (a0)), .int (iI (a1))]) (Qz E (sz σ) σ Q) 0 0 (Av E) := by
  rw [wX2_isBalanced] at h
  refine Met.ofW (cc := cX2_isBalanced) (maxL := 2) (ret := (some .boolean)) (by decide) rfl ?_
  intro p e s m args below meth c s₁ B hml hv
  obtain ⟨rfl, hH, hK, hN⟩ := hv
  have hx := B.exec
  have hb := B.bytes
  have hr := B.returns
  have hts := atoms_spec (ws := wsX2_isBalanced) B.pre
  have hown : s.vm.findClass RX2 = some m.cls := findClass_of_methodNamed B.named
  have hlocks := B.notSynchronized
  have hg : GS E σ s s.heap [] := ⟨hH, va_S.rf⟩
  have hm : Mo (sz σ) σ σ := Mo.rf (Nat.le_refl _)
  have hl := ent (vs := [.int (iI (a0)), .int (iI (a1))]) (n := 2) (cats_i (cats_i cats_nil)) (Nat.le_of_ble_eq_true rfl)
  rw [lg_entry_eq]
  generalize (lg_sl ([.int (iI (a0)), .int (iI (a1))]) ++ List.replicate (2 - (lg_sl ([.int (iI (a0)), .int (iI (a1))])).length) Slot.unset).toArray = ls at hl ⊢
  have hl : lv_has ls 2 [(0, .int (iI (a0))), (1, .int (iI (a1)))] := hl
  refine lv_iload_n hx hb dX2_isBalanced_0 rfl (lv_at hl 0 rfl) ?_
  refine lv_iconst (v := iI 3) hx hb dX2_isBalanced_1 (by decide) ?_
  refine lv_iload_n hx hb dX2_isBalanced_2 rfl (lv_at hl 1 rfl) ?_
  refine q_imul hx hb dX2_isBalanced_3 ?_
  obtain ⟨hR1, h⟩ := h
  refine j_gt (tgt := 18) hx hb dX2_isBalanced_4 (by decide) ha0 hR1 (fun c2 => ?_) (fun c2 => ?_)
  · have h := h.1 c2
    refine lv_iconst (v := iI 0) hx hb dX2_isBalanced_18 (by decide) ?_
    exact ret_z hx hb hr hlocks hg (by decide) hm h dX2_isBalanced_19
  · have h := h.2 c2
    refine lv_iload_n hx hb dX2_isBalanced_7 rfl (lv_at hl 1 rfl) ?_
    refine lv_iconst (v := iI 3) hx hb dX2_isBalanced_8 (by decide) ?_
    refine lv_iload_n hx hb dX2_isBalanced_9 rfl (lv_at hl 0 rfl) ?_
    refine q_imul hx hb dX2_isBalanced_10 ?_
    obtain ⟨hR3, h⟩ := h
    refine j_gt (tgt := 18) hx hb dX2_isBalanced_11 (by decide) ha1 hR3 (fun c4 => ?_) (fun c4 => ?_)
    · have h := h.1 c4
      refine lv_iconst (v := iI 0) hx hb dX2_isBalanced_18 (by decide) ?_
      exact ret_z hx hb hr hlocks hg (by decide) hm h dX2_isBalanced_19
    · have h := h.2 c4
      refine lv_iconst (v := iI 1) hx hb dX2_isBalanced_14 (by decide) ?_
      refine lv_goto (tgt := 19) hx hb dX2_isBalanced_15 (by decide) ?_
      exact ret_z hx hb hr hlocks hg (by decide) hm h dX2_isBalanced_19
theorem hdX3_countOf : yX3_countOf.cls ≠ "java/lang/invoke/MethodHandle" ∧ yX3_countOf.cls ≠ "java/lang/invoke/VarHandle" ∧ (parseMethodDescriptor yX3_countOf.desc).map (fun d => d.parameters.length) = some 1 := by decide +kernel
set_option maxRecDepth 100000 in
set_option maxHeartbeats 4000000 in
theorem ctX3_countOf (l : Launch) (E : Ev) (a0 : Option Nat) (σ : SS) (Q : Int → SS → Prop) (ha0 : ∀ b, a0 = some b → sS σ b) (h : wX3_countOf a0 σ Q) : Met l yX3_countOf wsX3_countOf ({ frames := 0, cells := 0, slots := 0, locals := 0 } : Room) (Pc E σ [va_rf (a0)]) (Qi E (sz σ) σ Q) 0 0 (Av E) := by
  rw [wX3_countOf] at h
  refine Met.ofW (cc := cX3_countOf) (maxL := 1) (ret := (some .int)) (by decide) rfl ?_
  intro p e s m args below meth c s₁ B hml hv
  obtain ⟨rfl, hH, hK, hN⟩ := hv
  have hx := B.exec
  have hb := B.bytes
  have hr := B.returns
  have hts := atoms_spec (ws := wsX3_countOf) B.pre
  have hown : s.vm.findClass RX3 = some m.cls := findClass_of_methodNamed B.named
  have hlocks := B.notSynchronized
  have hg : GS E σ s s.heap [] := ⟨hH, va_S.rf⟩
  have hm : Mo (sz σ) σ σ := Mo.rf (Nat.le_refl _)
  have hl := ent (vs := [va_rf (a0)]) (n := 1) (cats_r cats_nil) (Nat.le_of_ble_eq_true rfl)
  rw [lg_entry_eq]
  generalize (lg_sl ([va_rf (a0)]) ++ List.replicate (1 - (lg_sl ([va_rf (a0)])).length) Slot.unset).toArray = ls at hl ⊢
  have hl : lv_has ls 1 [(0, va_rf (a0))] := hl
  refine q_aload_n hx hb dX3_countOf_0 rfl (lv_at hl 0 rfl) ?_
  refine j_nonnull (tgt := 8) hx hb dX3_countOf_1 (by decide) (fun b2 c1 => ?_) (fun c1 => ?_)
  · have h := h.2 b2 c1
    refine q_aload_n hx hb dX3_countOf_8 rfl (lv_at hl 0 rfl) ?_
    refine q_ngeti_o c1 hx hb hts (fun _ h9 => List.mem_cons_of_mem _ (List.mem_append_right _ h9)) hown hK hg (ha0 b2 c1) 2 (by decide) (hts (.fieldLink RX3 9 "JoinMaps$Node" "count" "I") (List.mem_cons_of_mem _ (List.mem_append_left _ (List.mem_of_getElem? (i := 0) rfl)))) rfl rfl dX3_countOf_9 ?_
    have hR3 := GS_R hg (b2 + 64) 2
    exact ret_i hx hb hr hlocks hg hR3 hm h dX3_countOf_12
  · have h := h.1 c1
    refine lv_iconst (v := iI 0) hx hb dX3_countOf_4 (by decide) ?_
    refine lv_goto (tgt := 12) hx hb dX3_countOf_5 (by decide) ?_
    exact ret_i hx hb hr hlocks hg (by decide) hm h dX3_countOf_12
theorem hdX3_sumOf : yX3_sumOf.cls ≠ "java/lang/invoke/MethodHandle" ∧ yX3_sumOf.cls ≠ "java/lang/invoke/VarHandle" ∧ (parseMethodDescriptor yX3_sumOf.desc).map (fun d => d.parameters.length) = some 1 := by decide +kernel
set_option maxRecDepth 100000 in
set_option maxHeartbeats 4000000 in
theorem ctX3_sumOf (l : Launch) (E : Ev) (a0 : Option Nat) (σ : SS) (Q : Int → SS → Prop) (ha0 : ∀ b, a0 = some b → sS σ b) (h : wX3_sumOf a0 σ Q) : Met l yX3_sumOf wsX3_sumOf ({ frames := 0, cells := 0, slots := 0, locals := 0 } : Room) (Pc E σ [va_rf (a0)]) (Ql E (sz σ) σ Q) 0 0 (Av E) := by
  rw [wX3_sumOf] at h
  refine Met.ofW (cc := cX3_sumOf) (maxL := 1) (ret := (some .long)) (by decide) rfl ?_
  intro p e s m args below meth c s₁ B hml hv
  obtain ⟨rfl, hH, hK, hN⟩ := hv
  have hx := B.exec
  have hb := B.bytes
  have hr := B.returns
  have hts := atoms_spec (ws := wsX3_sumOf) B.pre
  have hown : s.vm.findClass RX3 = some m.cls := findClass_of_methodNamed B.named
  have hlocks := B.notSynchronized
  have hg : GS E σ s s.heap [] := ⟨hH, va_S.rf⟩
  have hm : Mo (sz σ) σ σ := Mo.rf (Nat.le_refl _)
  have hl := ent (vs := [va_rf (a0)]) (n := 1) (cats_r cats_nil) (Nat.le_of_ble_eq_true rfl)
  rw [lg_entry_eq]
  generalize (lg_sl ([va_rf (a0)]) ++ List.replicate (1 - (lg_sl ([va_rf (a0)])).length) Slot.unset).toArray = ls at hl ⊢
  have hl : lv_has ls 1 [(0, va_rf (a0))] := hl
  refine q_aload_n hx hb dX3_sumOf_0 rfl (lv_at hl 0 rfl) ?_
  refine j_nonnull (tgt := 8) hx hb dX3_sumOf_1 (by decide) (fun b2 c1 => ?_) (fun c1 => ?_)
  · have h := h.2 b2 c1
    refine q_aload_n hx hb dX3_sumOf_8 rfl (lv_at hl 0 rfl) ?_
    refine q_ngetl_o c1 hx hb hts (fun _ h9 => List.mem_cons_of_mem _ (List.mem_append_right _ h9)) hown hK hg (ha0 b2 c1) 3 (by decide) (hts (.fieldLink RX3 15 "JoinMaps$Node" "sum" "J") (List.mem_cons_of_mem _ (List.mem_append_left _ (List.mem_of_getElem? (i := 0) rfl)))) rfl rfl dX3_sumOf_9 ?_
    have hR3 := R64_of (GS_R hg (b2 + 64) 3)
    exact ret_l hx hb hr hlocks hg  hm h dX3_sumOf_12
  · have h := h.1 c1
    refine lv_lconst (v := lI 0) hx hb dX3_sumOf_4 (by decide) ?_
    refine lv_goto (tgt := 12) hx hb dX3_sumOf_5 (by decide) ?_
    exact ret_l hx hb hr hlocks hg  hm h dX3_sumOf_12
theorem hdX2_node : yX2_node.cls ≠ "java/lang/invoke/MethodHandle" ∧ yX2_node.cls ≠ "java/lang/invoke/VarHandle" ∧ (parseMethodDescriptor yX2_node.desc).map (fun d => d.parameters.length) = some 4 := by decide +kernel
set_option maxRecDepth 100000 in
set_option maxHeartbeats 4000000 in
theorem ctX2_node (l : Launch) (E : Ev) (tp : Nat) (a1 : Option Nat) (a2 : Int) (a3 : Int) (a4 : Option Nat) (σ : SS) (Q : Option Nat → SS → Prop) (ha1 : ∀ b, a1 = some b → sS σ b) (ha2 : R32 a2) (ha3 : R32 a3) (ha4 : ∀ b, a4 = some b → sS σ b) (ht : sz σ ≤ tp) (h : wX2_node tp a1 a2 a3 a4 σ Q) : Met l yX2_node wsX2_node ({ frames := 2, cells := tp - sz σ, slots := 9 * (tp - sz σ), locals := 60 } : Room) (Pc E σ [.ref (ea E 1), va_rf (a1), .int (iI (a2)), .int (iI (a3)), va_rf (a4)]) (Qr E tp σ Q) (tp - sz σ) (9 * (tp - sz σ)) (Av E) := by
  rw [wX2_node] at h
  refine Met.ofW (cc := cX2_node) (maxL := 6) (ret := (some (.object "JoinMaps$Node"))) (by decide) rfl ?_
  intro p e s m args below meth c s₁ B hml hv
  obtain ⟨rfl, hH, hK, hN⟩ := hv
  have hx := B.exec
  have hb := B.bytes
  have hr := B.returns
  have hts := atoms_spec (ws := wsX2_node) B.pre
  have hown : s.vm.findClass RX2 = some m.cls := findClass_of_methodNamed B.named
  have hlocks := B.notSynchronized
  have hg : GS E σ s s.heap [] := ⟨hH, va_S.rf⟩
  have hm : Mo tp σ σ := Mo.rf ht
  have hl := ent (vs := [.ref (ea E 1), va_rf (a1), .int (iI (a2)), .int (iI (a3)), va_rf (a4)]) (n := 6) (cats_x (cats_r (cats_i (cats_i (cats_r cats_nil))))) (Nat.le_of_ble_eq_true rfl)
  rw [lg_entry_eq]
  generalize (lg_sl ([.ref (ea E 1), va_rf (a1), .int (iI (a2)), .int (iI (a3)), va_rf (a4)]) ++ List.replicate (6 - (lg_sl ([.ref (ea E 1), va_rf (a1), .int (iI (a2)), .int (iI (a3)), va_rf (a4)])).length) Slot.unset).toArray = ls at hl ⊢
  have hl : lv_has ls 6 [(0, .ref (ea E 1)), (1, va_rf (a1)), (2, .int (iI (a2))), (3, .int (iI (a3))), (4, va_rf (a4))] := hl
  refine W_narrow hg hH (show sz σ ≤ sz σ + (sz σ - sz σ) by omega) (show 9 * (sz σ - sz σ) ≤ 9 * (sz σ - sz σ) from Nat.le_refl _) ?_
  have J47 : ∀ (v5 : Option Nat) (sL : SS) (H : Heap) (locs : List Loc) (ls : Array Slot), (∀ b, v5 = some b → sS sL b) → GS E sL s H locs → Mo tp σ sL → lv_has ls 6 [(0, .ref (ea E 1)), (1, va_rf (a1)), (2, .int (iI (a2))), (3, .int (iI (a3))), (4, va_rf (a4)), (5, va_rf (v5))] → wX2_node_L47 tp a1 a2 a3 a4 Q  v5 sL → W p l e (headSpec wsX2_node ({ frames := 2, cells := tp - sz σ, slots := 9 * (tp - sz σ), locals := 60 } : Room)).room s m (List.toArray [.ref (ea E 1), va_rf (a1), .int (iI (a2)), .int (iI (a3)), va_rf (a4)]) below meth c H locs (sz sL - sz σ) (9 * (sz sL - sz σ)) (MQ below (Qr E tp σ Q) (List.toArray [.ref (ea E 1), va_rf (a1), .int (iI (a2)), .int (iI (a3)), va_rf (a4)]) s (tp - sz σ) (9 * (tp - sz σ)) (Av E)) (F0 m 47 ls []) := by
    intro v5 sL H locs ls mv5 hg hm hl h
    rw [wX2_node_L47] at h
    refine lv_aload_n hx hb dX2_node_47 rfl (lv_at hl 0 rfl) ?_
    refine lv_dup hx hb dX2_node_48 rfl ?_
    refine q_geti (ci := 2) (C := RX2) (T := TX2) (N := 4) hx hb hts (fun _ h9 => List.mem_cons_of_mem _ (List.mem_append_left _ (List.mem_append_right _ h9))) hown hK hg 1 (by decide) rfl rfl (by decide) rfl 2 (by decide) (hts (.fieldLink RX2 27 "JoinMaps$Grove" "taken" "I") (List.mem_cons_of_mem _ (List.mem_append_left _ (List.mem_append_left _ (List.mem_append_left _ (List.mem_of_getElem? (i := 7) rfl)))))) rfl rfl dX2_node_49 ?_
    have hR14 := GS_R hg 1 2
    refine lv_iconst (v := iI 1) hx hb dX2_node_52 (by decide) ?_
    refine q_iadd hx hb dX2_node_53 ?_
    obtain ⟨hR15, h⟩ := h
    refine q_puti (ci := 2) (C := RX2) (T := TX2) (N := 4) hx hb hts (fun _ h9 => List.mem_cons_of_mem _ (List.mem_append_left _ (List.mem_append_right _ h9))) tyX2 tyX2_ok nmX2 hown hK hg 1 (by decide) rfl rfl (by decide) rfl 2 (by decide) (hts (.fieldLink RX2 27 "JoinMaps$Grove" "taken" "I") (List.mem_cons_of_mem _ (List.mem_append_left _ (List.mem_append_left _ (List.mem_append_left _ (List.mem_of_getElem? (i := 7) rfl)))))) rfl rfl (by decide +kernel) rfl hR15 dX2_node_54 (fun H locs hg => ?_)
    refine q_aload hx hb dX2_node_57 (lv_at hl 5 rfl) ?_
    refine lv_iload_n hx hb dX2_node_59 rfl (lv_at hl 2 rfl) ?_
    obtain ⟨b16, c17, h⟩ := h
    refine q_nputi_o c17 hx hb hts (fun _ h9 => List.mem_cons_of_mem _ (List.mem_append_right _ h9)) hown hK hg (mv5 b16 c17) 0 (by decide) (hts (.fieldLink RX2 31 "JoinMaps$Node" "key" "I") (List.mem_cons_of_mem _ (List.mem_append_left _ (List.mem_append_left _ (List.mem_append_left _ (List.mem_of_getElem? (i := 8) rfl)))))) rfl rfl (by decide +kernel) rfl ha2 dX2_node_60 (fun H locs hg => ?_)
    refine q_aload hx hb dX2_node_63 (lv_at hl 5 rfl) ?_
    refine lv_iload_n hx hb dX2_node_65 rfl (lv_at hl 3 rfl) ?_
    refine q_nputi_o c17 hx hb hts (fun _ h9 => List.mem_cons_of_mem _ (List.mem_append_right _ h9)) hown hK hg (mv5 b16 c17) 1 (by decide) (hts (.fieldLink RX2 34 "JoinMaps$Node" "value" "I") (List.mem_cons_of_mem _ (List.mem_append_left _ (List.mem_append_left _ (List.mem_append_left _ (List.mem_of_getElem? (i := 9) rfl)))))) rfl rfl (by decide +kernel) rfl ha3 dX2_node_66 (fun H locs hg => ?_)
    refine q_aload hx hb dX2_node_69 (lv_at hl 5 rfl) ?_
    refine q_aload_n hx hb dX2_node_71 rfl (lv_at hl 1 rfl) ?_
    refine q_nputr_o c17 hx hb hts (fun _ h9 => List.mem_cons_of_mem _ (List.mem_append_right _ h9)) hown hK hg (mv5 b16 c17) 4 (by decide) (hts (.fieldLink RX2 37 "JoinMaps$Node" "left" "LJoinMaps$Node;") (List.mem_cons_of_mem _ (List.mem_append_left _ (List.mem_append_left _ (List.mem_append_left _ (List.mem_of_getElem? (i := 10) rfl)))))) rfl rfl (by decide +kernel) rfl (fun b h0 => hm.1 b (ha1 b h0)) dX2_node_72 (fun H locs hg => ?_)
    refine q_aload hx hb dX2_node_75 (lv_at hl 5 rfl) ?_
    refine q_aload hx hb dX2_node_77 (lv_at hl 4 rfl) ?_
    refine q_nputr_o c17 hx hb hts (fun _ h9 => List.mem_cons_of_mem _ (List.mem_append_right _ h9)) hown hK hg (mv5 b16 c17) 5 (by decide) (hts (.fieldLink RX2 40 "JoinMaps$Node" "right" "LJoinMaps$Node;") (List.mem_cons_of_mem _ (List.mem_append_left _ (List.mem_append_left _ (List.mem_append_left _ (List.mem_of_getElem? (i := 11) rfl)))))) rfl rfl (by decide +kernel) rfl (fun b h0 => hm.1 b (ha4 b h0)) dX2_node_79 (fun H locs hg => ?_)
    refine q_aload hx hb dX2_node_82 (lv_at hl 5 rfl) ?_
    refine q_aload_n hx hb dX2_node_84 rfl (lv_at hl 1 rfl) ?_
    refine call_i (run_S (As := [va_rf (a1)]) (rest := [va_rf (v5)]) ⟨hx, hb, hml, hown, hts⟩ (ctX3_countOf l E a1 (uf (uf (un (un (un sL 1 2 (((sn sL 1 2) + 1))) (b16 + 64) 0 (a2)) (b16 + 64) 1 (a3)) (b16 + 64) 4 (a1)) (b16 + 64) 5 (a4)) _ (fun b h0 => hm.1 b (ha1 b h0)) h) (va_cwS 1 hts gX2_node_X3_countOf rfl rfl rfl hdX3_countOf ⟨Nat.le_of_ble_eq_true rfl, Nat.le_of_ble_eq_true rfl⟩) hK hN hg rfl hl.1 rfl (cat_sum _ (by simp)) dX2_node_85 (show (sz sL - sz σ) + 0 ≤ tp - sz σ ∧ 9 * (sz sL - sz σ) + 0 ≤ 9 * (tp - sz σ) by have q1 := hm.2.1; have q2 := hm.2.2; omega)) hg (fun r19 s18 H locs hz20 hm2 h hg => ?_)
    have hS21 : ∀ b, a1 = some b → sS s18 b := (fun b h0 => hm2.1 b ((fun b h0 => hm.1 b (ha1 b h0)) b h0))
    have hS22 : ∀ b, a4 = some b → sS s18 b := (fun b h0 => hm2.1 b ((fun b h0 => hm.1 b (ha4 b h0)) b h0))
    have hS23 : ∀ b, v5 = some b → sS s18 b := (fun b h0 => hm2.1 b (mv5 b h0))
    have hm := hm.tn hm2
    refine W_narrow hg hH (show sz s18 ≤ sz σ + (sz s18 - sz σ) by have q1 := hm.2.1; omega) (Nat.le_refl _) ?_
    refine lv_iconst (v := iI 1) hx hb dX2_node_88 (by decide) ?_
    refine q_iadd hx hb dX2_node_89 ?_
    refine q_aload hx hb dX2_node_90 (lv_at hl 4 rfl) ?_
    refine call_i (run_S (As := [va_rf (a4)]) (rest := [.int (iI ((r19 + 1))), va_rf (v5)]) ⟨hx, hb, hml, hown, hts⟩ (ctX3_countOf l E a4 s18 _ hS22 h) (va_cwS 1 hts gX2_node_X3_countOf rfl rfl rfl hdX3_countOf ⟨Nat.le_of_ble_eq_true rfl, Nat.le_of_ble_eq_true rfl⟩) hK hN hg rfl hl.1 rfl (cat_sum _ (by simp)) dX2_node_92 (show (sz s18 - sz σ) + 0 ≤ tp - sz σ ∧ 9 * (sz s18 - sz σ) + 0 ≤ 9 * (tp - sz σ) by have q1 := hm.2.1; have q2 := hm.2.2; omega)) hg (fun r25 s24 H locs hz26 hm2 h hg => ?_)
    have hS27 : ∀ b, a1 = some b → sS s24 b := (fun b h0 => hm2.1 b (hS21 b h0))
    have hS28 : ∀ b, a4 = some b → sS s24 b := (fun b h0 => hm2.1 b (hS22 b h0))
    have hS29 : ∀ b, v5 = some b → sS s24 b := (fun b h0 => hm2.1 b (hS23 b h0))
    have hm := hm.tn hm2
    refine W_narrow hg hH (show sz s24 ≤ sz σ + (sz s24 - sz σ) by have q1 := hm.2.1; omega) (Nat.le_refl _) ?_
    refine q_iadd hx hb dX2_node_95 ?_
    obtain ⟨hR30, h⟩ := h
    refine q_nputi_o c17 hx hb hts (fun _ h9 => List.mem_cons_of_mem _ (List.mem_append_right _ h9)) hown hK hg (hS29 b16 c17) 2 (by decide) (hts (.fieldLink RX2 47 "JoinMaps$Node" "count" "I") (List.mem_cons_of_mem _ (List.mem_append_left _ (List.mem_append_left _ (List.mem_append_left _ (List.mem_of_getElem? (i := 12) rfl)))))) rfl rfl (by decide +kernel) rfl hR30 dX2_node_96 (fun H locs hg => ?_)
    refine q_aload hx hb dX2_node_99 (lv_at hl 5 rfl) ?_
    refine q_aload_n hx hb dX2_node_101 rfl (lv_at hl 1 rfl) ?_
    refine call_l (run_S (As := [va_rf (a1)]) (rest := [va_rf (v5)]) ⟨hx, hb, hml, hown, hts⟩ (ctX3_sumOf l E a1 (un s24 (b16 + 64) 2 (((r19 + 1) + r25))) _ hS27 h) (va_cwS 1 hts gX2_node_X3_sumOf rfl rfl rfl hdX3_sumOf ⟨Nat.le_of_ble_eq_true rfl, Nat.le_of_ble_eq_true rfl⟩) hK hN hg rfl hl.1 rfl (cat_sum _ (by simp)) dX2_node_102 (show (sz s24 - sz σ) + 0 ≤ tp - sz σ ∧ 9 * (sz s24 - sz σ) + 0 ≤ 9 * (tp - sz σ) by have q1 := hm.2.1; have q2 := hm.2.2; omega)) hg (fun r32 s31 H locs hm2 h hg => ?_)
    have hS34 : ∀ b, a1 = some b → sS s31 b := (fun b h0 => hm2.1 b (hS27 b h0))
    have hS35 : ∀ b, a4 = some b → sS s31 b := (fun b h0 => hm2.1 b (hS28 b h0))
    have hS36 : ∀ b, v5 = some b → sS s31 b := (fun b h0 => hm2.1 b (hS29 b h0))
    have hm := hm.tn hm2
    refine W_narrow hg hH (show sz s31 ≤ sz σ + (sz s31 - sz σ) by have q1 := hm.2.1; omega) (Nat.le_refl _) ?_
    refine lv_iload_n hx hb dX2_node_105 rfl (lv_at hl 3 rfl) ?_
    refine q_i2l hx hb ha3 dX2_node_106 ?_
    refine q_ladd hx hb dX2_node_107 ?_
    refine q_aload hx hb dX2_node_108 (lv_at hl 4 rfl) ?_
    refine call_l (run_S (As := [va_rf (a4)]) (rest := [.long (lI ((r32 + a3))), va_rf (v5)]) ⟨hx, hb, hml, hown, hts⟩ (ctX3_sumOf l E a4 s31 _ hS35 h) (va_cwS 1 hts gX2_node_X3_sumOf rfl rfl rfl hdX3_sumOf ⟨Nat.le_of_ble_eq_true rfl, Nat.le_of_ble_eq_true rfl⟩) hK hN hg rfl hl.1 rfl (cat_sum _ (by simp)) dX2_node_110 (show (sz s31 - sz σ) + 0 ≤ tp - sz σ ∧ 9 * (sz s31 - sz σ) + 0 ≤ 9 * (tp - sz σ) by have q1 := hm.2.1; have q2 := hm.2.2; omega)) hg (fun r38 s37 H locs hm2 h hg => ?_)
    have hS40 : ∀ b, a1 = some b → sS s37 b := (fun b h0 => hm2.1 b (hS34 b h0))
    have hS41 : ∀ b, a4 = some b → sS s37 b := (fun b h0 => hm2.1 b (hS35 b h0))
    have hS42 : ∀ b, v5 = some b → sS s37 b := (fun b h0 => hm2.1 b (hS36 b h0))
    have hm := hm.tn hm2
    refine W_narrow hg hH (show sz s37 ≤ sz σ + (sz s37 - sz σ) by have q1 := hm.2.1; omega) (Nat.le_refl _) ?_
    refine q_ladd hx hb dX2_node_113 ?_
    obtain ⟨hR43, h⟩ := h
    refine q_nputl_o c17 hx hb hts (fun _ h9 => List.mem_cons_of_mem _ (List.mem_append_right _ h9)) hown hK hg (hS42 b16 c17) 3 (by decide) (hts (.fieldLink RX2 54 "JoinMaps$Node" "sum" "J") (List.mem_cons_of_mem _ (List.mem_append_left _ (List.mem_append_left _ (List.mem_append_left _ (List.mem_of_getElem? (i := 13) rfl)))))) rfl rfl (by decide +kernel) rfl hR43 dX2_node_114 (fun H locs hg => ?_)
    refine q_aload hx hb dX2_node_117 (lv_at hl 5 rfl) ?_
    refine W.widen (k := tp - sz σ) (n := 9 * (tp - sz σ)) (show sz s37 - sz σ ≤ _ by have q1 := hm.2.2; omega) (show 9 * (sz s37 - sz σ) ≤ _ by have q1 := hm.2.2; omega) ?_
    exact ret_r hx hb hr hlocks hg hS42 hm h dX2_node_119
  refine lv_aload_n hx hb dX2_node_0 rfl (lv_at hl 0 rfl) ?_
  refine q_getr (ci := 2) (C := RX2) (T := TX2) (N := 4) hx hb hts (fun _ h9 => List.mem_cons_of_mem _ (List.mem_append_left _ (List.mem_append_right _ h9))) hown hK hg 1 (by decide) rfl rfl (by decide) rfl 1 (by decide) (hts (.fieldLink RX2 9 "JoinMaps$Grove" "spare" "LJoinMaps$Node;") (List.mem_cons_of_mem _ (List.mem_append_left _ (List.mem_append_left _ (List.mem_append_left _ (List.mem_of_getElem? (i := 0) rfl)))))) rfl rfl dX2_node_1 ?_
  have hS1 : ∀ b, (sf σ 1 1) = some b → sS σ b := fun b h0 => GS_F hg h0
  refine q_astore (i := 5) (lv' := [(5, va_rf ((sf σ 1 1))), (0, .ref (ea E 1)), (1, va_rf (a1)), (2, .int (iI (a2))), (3, .int (iI (a3))), (4, va_rf (a4))]) hx hb dX2_node_4 hl (by decide) (by simp [List.filter_cons, rf_cat, ct_i, ct_l, ct_x]) (fun ls hl => ?_)
  refine q_aload hx hb dX2_node_6 (lv_at hl 0 rfl) ?_
  refine j_nonnull (tgt := 38) hx hb dX2_node_8 (by decide) (fun b3 c2 => ?_) (fun c2 => ?_)
  · have h := h.2 b3 c2
    refine lv_aload_n hx hb dX2_node_38 rfl (lv_at hl 1 rfl) ?_
    refine q_aload hx hb dX2_node_39 (lv_at hl 0 rfl) ?_
    refine q_ngetr_o c2 hx hb hts (fun _ h9 => List.mem_cons_of_mem _ (List.mem_append_right _ h9)) hown hK hg (hS1 b3 c2) 7 (by decide) (hts (.fieldLink RX2 24 "JoinMaps$Node" "nextSpare" "LJoinMaps$Node;") (List.mem_cons_of_mem _ (List.mem_append_left _ (List.mem_append_left _ (List.mem_append_left _ (List.mem_of_getElem? (i := 6) rfl)))))) rfl rfl dX2_node_41 ?_
    have hS4 : ∀ b, (sf σ (b3 + 64) 7) = some b → sS σ b := fun b h0 => GS_F hg h0
    refine q_putr (ci := 2) (C := RX2) (T := TX2) (N := 4) hx hb hts (fun _ h9 => List.mem_cons_of_mem _ (List.mem_append_left _ (List.mem_append_right _ h9))) tyX2 tyX2_ok nmX2 hown hK hg 1 (by decide) rfl rfl (by decide) rfl 1 (by decide) (hts (.fieldLink RX2 9 "JoinMaps$Grove" "spare" "LJoinMaps$Node;") (List.mem_cons_of_mem _ (List.mem_append_left _ (List.mem_append_left _ (List.mem_append_left _ (List.mem_of_getElem? (i := 0) rfl)))))) rfl rfl (by decide +kernel) rfl hS4 dX2_node_44 (fun H locs hg => ?_)
    exact J47  ((sf σ 1 1)) (uf σ 1 1 ((sf σ (b3 + 64) 7))) _ _ _ hS1 hg hm (lv_sub hl [1, 2, 3, 4, 5, 0] rfl) h
  · have h := h.1 c2
    obtain ⟨hP5, h⟩ := h
    refine q_newN hx hb hts (fun _ h9 => List.mem_cons_of_mem _ (List.mem_append_right _ h9)) hown (hts (.classLink RX2 15 RX3) (List.mem_cons_of_mem _ (List.mem_append_left _ (List.mem_append_left _ (List.mem_append_left _ (List.mem_of_getElem? (i := 1) rfl)))))) (hts (.instantiable RX3 9) (List.mem_cons_of_mem _ (List.mem_append_left _ (List.mem_append_left _ (List.mem_append_left _ (List.mem_of_getElem? (i := 2) rfl)))))) (hts (.initialized RX3) (List.mem_cons_of_mem _ (List.mem_append_left _ (List.mem_append_left _ (List.mem_append_left _ (List.mem_of_getElem? (i := 3) rfl)))))) hK hg (show (sz σ - sz σ) + 1 ≤ tp - sz σ by have q1 := hm.2.1; omega) (show 9 * (sz σ - sz σ) + 9 ≤ 9 * (tp - sz σ) by have q1 := hm.2.1; omega) dX2_node_11 (fun H b6 e7 hS8 hg => ?_)
    subst e7
    have hm := Mo.nw hm hP5
    refine W_narrow hg hH (show sz (unew σ) ≤ sz σ + (sz (unew σ) - sz σ) by have q1 := hm.2.1; omega) (Nat.le_refl _) ?_
    have hS10 : ∀ b, (sf σ 1 1) = some b → sS (unew σ) b := (fun b h0 => Or.inl (hS1 b h0))
    have hS11 : ∀ b, a1 = some b → sS (unew σ) b := (fun b h0 => Or.inl (ha1 b h0))
    have hS12 : ∀ b, a4 = some b → sS (unew σ) b := (fun b h0 => Or.inl (ha4 b h0))
    refine W.eq (g2 := F0 m 14 ls [va_rf (some (sz σ))]) rfl ?_
    refine lv_dup hx hb dX2_node_14 (rf_cat _) ?_
    refine call_v (run_IN (a := (sz σ)) (As := []) (rest := [va_rf (some (sz σ))]) ⟨hx, hb, hml, hown, hts⟩ (ctX3_init l E (sz σ) (unew σ)) ⟨va_cnB 0 hts gX2_node_X3_init_n17 rfl rfl rfl (hN 2 _ rfl) (hts (.initialized RX3) (List.mem_cons_of_mem _ (List.mem_append_left _ (List.mem_append_left _ (List.mem_append_left _ (List.mem_of_getElem? (i := 3) rfl)))))) (by decide +kernel) ⟨Nat.le_of_ble_eq_true rfl, Nat.le_of_ble_eq_true rfl⟩, rfl, (hts (.instanceMethod yX3_init) (List.mem_cons_of_mem _ (List.mem_append_left _ (List.mem_append_left _ (List.mem_append_left _ (List.mem_of_getElem? (i := 14) rfl))))))⟩ hK hN hg rfl hl.1 rfl (cat_sum _ (by simp)) dX2_node_15 (show (sz (unew σ) - sz σ) + 0 ≤ tp - sz σ ∧ 9 * (sz (unew σ) - sz σ) + 0 ≤ 9 * (tp - sz σ) by have q1 := hm.2.1; have q2 := hm.2.2; omega)) hg (fun s9 H locs _ e9 hg => ?_)
    subst e9
    refine q_astore (i := 5) (lv' := [(5, va_rf (some (sz σ))), (0, .ref (ea E 1)), (1, va_rf (a1)), (2, .int (iI (a2))), (3, .int (iI (a3))), (4, va_rf (a4))]) hx hb dX2_node_18 hl (by decide) (by simp [List.filter_cons, rf_cat, ct_i, ct_l, ct_x]) (fun ls hl => ?_)
    refine q_aload hx hb dX2_node_20 (lv_at hl 0 rfl) ?_
    refine lv_aload_n hx hb dX2_node_22 rfl (lv_at hl 1 rfl) ?_
    refine q_getr (ci := 2) (C := RX2) (T := TX2) (N := 4) hx hb hts (fun _ h9 => List.mem_cons_of_mem _ (List.mem_append_left _ (List.mem_append_right _ h9))) hown hK hg 1 (by decide) rfl rfl (by decide) rfl 0 (by decide) (hts (.fieldLink RX2 18 "JoinMaps$Grove" "newest" "LJoinMaps$Node;") (List.mem_cons_of_mem _ (List.mem_append_left _ (List.mem_append_left _ (List.mem_append_left _ (List.mem_of_getElem? (i := 4) rfl)))))) rfl rfl dX2_node_23 ?_
    have hS13 : ∀ b, (sf (unew σ) 1 0) = some b → sS (unew σ) b := fun b h0 => GS_F hg h0
    refine q_nputr_o rfl hx hb hts (fun _ h9 => List.mem_cons_of_mem _ (List.mem_append_right _ h9)) hown hK hg ((fun b h0 => by cases h0; exact hS8) (sz σ) rfl) 6 (by decide) (hts (.fieldLink RX2 21 "JoinMaps$Node" "older" "LJoinMaps$Node;") (List.mem_cons_of_mem _ (List.mem_append_left _ (List.mem_append_left _ (List.mem_append_left _ (List.mem_of_getElem? (i := 5) rfl)))))) rfl rfl (by decide +kernel) rfl hS13 dX2_node_26 (fun H locs hg => ?_)
    refine lv_aload_n hx hb dX2_node_29 rfl (lv_at hl 1 rfl) ?_
    refine q_aload hx hb dX2_node_30 (lv_at hl 0 rfl) ?_
    refine q_putr (ci := 2) (C := RX2) (T := TX2) (N := 4) hx hb hts (fun _ h9 => List.mem_cons_of_mem _ (List.mem_append_left _ (List.mem_append_right _ h9))) tyX2 tyX2_ok nmX2 hown hK hg 1 (by decide) rfl rfl (by decide) rfl 0 (by decide) (hts (.fieldLink RX2 18 "JoinMaps$Grove" "newest" "LJoinMaps$Node;") (List.mem_cons_of_mem _ (List.mem_append_left _ (List.mem_append_left _ (List.mem_append_left _ (List.mem_of_getElem? (i := 4) rfl)))))) rfl rfl (by decide +kernel) rfl (fun b h0 => by cases h0; exact hS8) dX2_node_32 (fun H locs hg => ?_)
    refine lv_goto (tgt := 47) hx hb dX2_node_35 (by decide) ?_
    exact J47  (some (sz σ)) (uf (uf (unew σ) ((sz σ) + 64) 6 ((sf (unew σ) 1 0))) 1 0 (some (sz σ))) _ _ _ (fun b h0 => by cases h0; exact hS8) hg hm (lv_sub hl [1, 2, 3, 4, 5, 0] rfl) h
theorem hdX3_weightOf : yX3_weightOf.cls ≠ "java/lang/invoke/MethodHandle" ∧ yX3_weightOf.cls ≠ "java/lang/invoke/VarHandle" ∧ (parseMethodDescriptor yX3_weightOf.desc).map (fun d => d.parameters.length) = some 1 := by decide +kernel
set_option maxRecDepth 100000 in
set_option maxHeartbeats 4000000 in
theorem ctX3_weightOf (l : Launch) (E : Ev) (a0 : Option Nat) (σ : SS) (Q : Int → SS → Prop) (ha0 : ∀ b, a0 = some b → sS σ b) (h : wX3_weightOf a0 σ Q) : Met l yX3_weightOf wsX3_weightOf ({ frames := 1, cells := 0, slots := 0, locals := 20 } : Room) (Pc E σ [va_rf (a0)]) (Qi E (sz σ) σ Q) 0 0 (Av E) := by
  rw [wX3_weightOf] at h
  refine Met.ofW (cc := cX3_weightOf) (maxL := 1) (ret := (some .int)) (by decide) rfl ?_
  intro p e s m args below meth c s₁ B hml hv
  obtain ⟨rfl, hH, hK, hN⟩ := hv
  have hx := B.exec
  have hb := B.bytes
  have hr := B.returns
  have hts := atoms_spec (ws := wsX3_weightOf) B.pre
  have hown : s.vm.findClass RX3 = some m.cls := findClass_of_methodNamed B.named
  have hlocks := B.notSynchronized
  have hg : GS E σ s s.heap [] := ⟨hH, va_S.rf⟩
  have hm : Mo (sz σ) σ σ := Mo.rf (Nat.le_refl _)
  have hl := ent (vs := [va_rf (a0)]) (n := 1) (cats_r cats_nil) (Nat.le_of_ble_eq_true rfl)
  rw [lg_entry_eq]
  generalize (lg_sl ([va_rf (a0)]) ++ List.replicate (1 - (lg_sl ([va_rf (a0)])).length) Slot.unset).toArray = ls at hl ⊢
  have hl : lv_has ls 1 [(0, va_rf (a0))] := hl
  refine q_aload_n hx hb dX3_weightOf_0 rfl (lv_at hl 0 rfl) ?_
  refine call_i (run_S (As := [va_rf (a0)]) (rest := []) ⟨hx, hb, hml, hown, hts⟩ (ctX3_countOf l E a0 σ _ ha0 h) (va_cwS 1 hts gX3_weightOf_X3_countOf rfl rfl rfl hdX3_countOf ⟨Nat.le_of_ble_eq_true rfl, Nat.le_of_ble_eq_true rfl⟩) hK hN hg rfl hl.1 rfl (cat_sum _ (by simp)) dX3_weightOf_1 ⟨Nat.le_refl 0, Nat.le_refl 0⟩) hg (fun r2 s1 H locs hz3 hm2 h hg => ?_)
  have hS4 : ∀ b, a0 = some b → sS s1 b := (fun b h0 => hm2.1 b (ha0 b h0))
  have hm := hm.tn hm2
  refine lv_iconst (v := iI 1) hx hb dX3_weightOf_4 (by decide) ?_
  refine q_iadd hx hb dX3_weightOf_5 ?_
  obtain ⟨hR5, h⟩ := h
  exact ret_i hx hb hr hlocks hg hR5 hm h dX3_weightOf_6
theorem hdX2_turnedLeft : yX2_turnedLeft.cls ≠ "java/lang/invoke/MethodHandle" ∧ yX2_turnedLeft.cls ≠ "java/lang/invoke/VarHandle" ∧ (parseMethodDescriptor yX2_turnedLeft.desc).map (fun d => d.parameters.length) = some 4 := by decide +kernel
set_option maxRecDepth 100000 in
set_option maxHeartbeats 4000000 in
theorem ctX2_turnedLeft (l : Launch) (E : Ev) (tp : Nat) (a1 : Option Nat) (a2 : Int) (a3 : Int) (a4 : Option Nat) (σ : SS) (Q : Option Nat → SS → Prop) (ha1 : ∀ b, a1 = some b → sS σ b) (ha2 : R32 a2) (ha3 : R32 a3) (ha4 : ∀ b, a4 = some b → sS σ b) (ht : sz σ ≤ tp) (h : wX2_turnedLeft tp a1 a2 a3 a4 σ Q) : Met l yX2_turnedLeft wsX2_turnedLeft ({ frames := 3, cells := tp - sz σ, slots := 9 * (tp - sz σ), locals := 85 } : Room) (Pc E σ [.ref (ea E 1), va_rf (a1), .int (iI (a2)), .int (iI (a3)), va_rf (a4)]) (Qr E tp σ Q) (tp - sz σ) (9 * (tp - sz σ)) (Av E) := by
  rw [wX2_turnedLeft] at h
  refine Met.ofW (cc := cX2_turnedLeft) (maxL := 9) (ret := (some (.object "JoinMaps$Node"))) (by decide) rfl ?_
  intro p e s m args below meth c s₁ B hml hv
  obtain ⟨rfl, hH, hK, hN⟩ := hv
  have hx := B.exec
  have hb := B.bytes
  have hr := B.returns
  have hts := atoms_spec (ws := wsX2_turnedLeft) B.pre
  have hown : s.vm.findClass RX2 = some m.cls := findClass_of_methodNamed B.named
  have hlocks := B.notSynchronized
  have hg : GS E σ s s.heap [] := ⟨hH, va_S.rf⟩
  have hm : Mo tp σ σ := Mo.rf ht
  have hl := ent (vs := [.ref (ea E 1), va_rf (a1), .int (iI (a2)), .int (iI (a3)), va_rf (a4)]) (n := 9) (cats_x (cats_r (cats_i (cats_i (cats_r cats_nil))))) (Nat.le_of_ble_eq_true rfl)
  rw [lg_entry_eq]
  generalize (lg_sl ([.ref (ea E 1), va_rf (a1), .int (iI (a2)), .int (iI (a3)), va_rf (a4)]) ++ List.replicate (9 - (lg_sl ([.ref (ea E 1), va_rf (a1), .int (iI (a2)), .int (iI (a3)), va_rf (a4)])).length) Slot.unset).toArray = ls at hl ⊢
  have hl : lv_has ls 9 [(0, .ref (ea E 1)), (1, va_rf (a1)), (2, .int (iI (a2))), (3, .int (iI (a3))), (4, va_rf (a4))] := hl
  refine W_narrow hg hH (show sz σ ≤ sz σ + (sz σ - sz σ) by omega) (show 9 * (sz σ - sz σ) ≤ 9 * (sz σ - sz σ) from Nat.le_refl _) ?_
  have J111 : ∀ (v6 : Option Nat) (sL : SS) (H : Heap) (locs : List Loc) (ls : Array Slot), (∀ b, v6 = some b → sS sL b) → GS E sL s H locs → Mo tp σ sL → lv_has ls 9 [(0, .ref (ea E 1)), (1, va_rf (a1)), (2, .int (iI (a2))), (3, .int (iI (a3))), (4, va_rf (a4)), (6, va_rf (v6))] → wX2_turnedLeft_L111 tp a1 a2 a3 a4 Q  v6 sL → W p l e (headSpec wsX2_turnedLeft ({ frames := 3, cells := tp - sz σ, slots := 9 * (tp - sz σ), locals := 85 } : Room)).room s m (List.toArray [.ref (ea E 1), va_rf (a1), .int (iI (a2)), .int (iI (a3)), va_rf (a4)]) below meth c H locs (sz sL - sz σ) (9 * (sz sL - sz σ)) (MQ below (Qr E tp σ Q) (List.toArray [.ref (ea E 1), va_rf (a1), .int (iI (a2)), .int (iI (a3)), va_rf (a4)]) s (tp - sz σ) (9 * (tp - sz σ)) (Av E)) (F0 m 111 ls []) := by
    intro v6 sL H locs ls mv6 hg hm hl h
    rw [wX2_turnedLeft_L111] at h
    refine lv_aload_n hx hb dX2_turnedLeft_111 rfl (lv_at hl 0 rfl) ?_
    refine q_aload hx hb dX2_turnedLeft_112 (lv_at hl 5 rfl) ?_
    obtain ⟨b77, c78, h⟩ := h
    refine q_ngetr_o c78 hx hb hts (fun _ h9 => List.mem_cons_of_mem _ (List.mem_append_left _ (List.mem_append_right _ h9))) hown hK hg (mv6 b77 c78) 5 (by decide) (hts (.fieldLink RX2 40 "JoinMaps$Node" "right" "LJoinMaps$Node;") (List.mem_cons_of_mem _ (List.mem_append_left _ (List.mem_append_left _ (List.mem_append_left _ (List.mem_of_getElem? (i := 1) rfl)))))) rfl rfl dX2_turnedLeft_114 ?_
    have hS79 : ∀ b, (sf sL (b77 + 64) 5) = some b → sS sL b := fun b h0 => GS_F hg h0
    refine q_aload hx hb dX2_turnedLeft_117 (lv_at hl 4 rfl) ?_
    obtain ⟨b80, c81, h⟩ := h
    refine q_ngeti_o c81 hx hb hts (fun _ h9 => List.mem_cons_of_mem _ (List.mem_append_left _ (List.mem_append_right _ h9))) hown hK hg ((fun b h0 => hm.1 b (ha4 b h0)) b80 c81) 0 (by decide) (hts (.fieldLink RX2 31 "JoinMaps$Node" "key" "I") (List.mem_cons_of_mem _ (List.mem_append_left _ (List.mem_append_left _ (List.mem_append_left _ (List.mem_of_getElem? (i := 2) rfl)))))) rfl rfl dX2_turnedLeft_119 ?_
    have hR82 := GS_R hg (b80 + 64) 0
    refine q_aload hx hb dX2_turnedLeft_122 (lv_at hl 4 rfl) ?_
    refine q_ngeti_o c81 hx hb hts (fun _ h9 => List.mem_cons_of_mem _ (List.mem_append_left _ (List.mem_append_right _ h9))) hown hK hg ((fun b h0 => hm.1 b (ha4 b h0)) b80 c81) 1 (by decide) (hts (.fieldLink RX2 34 "JoinMaps$Node" "value" "I") (List.mem_cons_of_mem _ (List.mem_append_left _ (List.mem_append_left _ (List.mem_append_left _ (List.mem_of_getElem? (i := 3) rfl)))))) rfl rfl dX2_turnedLeft_124 ?_
    have hR83 := GS_R hg (b80 + 64) 1
    refine q_aload hx hb dX2_turnedLeft_127 (lv_at hl 4 rfl) ?_
    refine q_ngetr_o c81 hx hb hts (fun _ h9 => List.mem_cons_of_mem _ (List.mem_append_left _ (List.mem_append_right _ h9))) hown hK hg ((fun b h0 => hm.1 b (ha4 b h0)) b80 c81) 5 (by decide) (hts (.fieldLink RX2 40 "JoinMaps$Node" "right" "LJoinMaps$Node;") (List.mem_cons_of_mem _ (List.mem_append_left _ (List.mem_append_left _ (List.mem_append_left _ (List.mem_of_getElem? (i := 1) rfl)))))) rfl rfl dX2_turnedLeft_129 ?_
    have hS84 : ∀ b, (sf sL (b80 + 64) 5) = some b → sS sL b := fun b h0 => GS_F hg h0
    refine call_r (run_V (a := ea E 1) (As := [va_rf ((sf sL (b77 + 64) 5)), .int (iI ((sn sL (b80 + 64) 0))), .int (iI ((sn sL (b80 + 64) 1))), va_rf ((sf sL (b80 + 64) 5))]) (rest := []) ⟨hx, hb, hml, hown, hts⟩ (ctX2_node l E tp (sf sL (b77 + 64) 5) (sn sL (b80 + 64) 0) (sn sL (b80 + 64) 1) (sf sL (b80 + 64) 5) sL _ hS79 hR82 hR83 hS84 hm.2.2 h) (cwV 4 hts gX2_turnedLeft_X2_node rfl rfl rfl ⟨rfl, hdX2_node⟩ ⟨Nat.le_of_ble_eq_true rfl, Nat.le_of_ble_eq_true rfl⟩) hK hN hg (recv_x (ci := 2) (C := RX2) (T := TX2) (N := 4) hg hK (by decide) rfl (by decide) rfl) rfl hl.1 rfl (cat_sum _ (by simp)) dX2_turnedLeft_132 (show (sz sL - sz σ) + (tp - sz sL) ≤ tp - sz σ ∧ 9 * (sz sL - sz σ) + 9 * (tp - sz sL) ≤ 9 * (tp - sz σ) by have q1 := hm.2.1; have q2 := hm.2.2; omega)) hg (fun r86 s85 H locs hz87 hm2 h hg => ?_)
    have hS88 : ∀ b, a1 = some b → sS s85 b := (fun b h0 => hm2.1 b ((fun b h0 => hm.1 b (ha1 b h0)) b h0))
    have hS89 : ∀ b, a4 = some b → sS s85 b := (fun b h0 => hm2.1 b ((fun b h0 => hm.1 b (ha4 b h0)) b h0))
    have hS90 : ∀ b, v6 = some b → sS s85 b := (fun b h0 => hm2.1 b (mv6 b h0))
    have hm := hm.ta hm2
    refine W_narrow hg hH (show sz s85 ≤ sz σ + (sz s85 - sz σ) by have q1 := hm.2.1; omega) (Nat.le_refl _) ?_
    refine q_astore (i := 8) (lv' := [(8, va_rf (r86)), (0, .ref (ea E 1)), (1, va_rf (a1)), (2, .int (iI (a2))), (3, .int (iI (a3))), (4, va_rf (a4)), (6, va_rf (v6))]) hx hb dX2_turnedLeft_135 hl (by decide) (by simp [List.filter_cons, rf_cat, ct_i, ct_l, ct_x]) (fun ls hl => ?_)
    refine lv_aload_n hx hb dX2_turnedLeft_137 rfl (lv_at hl 1 rfl) ?_
    refine lv_aload_n hx hb dX2_turnedLeft_138 rfl (lv_at hl 1 rfl) ?_
    refine q_aload_n hx hb dX2_turnedLeft_139 rfl (lv_at hl 2 rfl) ?_
    refine lv_iload_n hx hb dX2_turnedLeft_140 rfl (lv_at hl 3 rfl) ?_
    refine lv_iload_n hx hb dX2_turnedLeft_141 rfl (lv_at hl 4 rfl) ?_
    refine q_aload hx hb dX2_turnedLeft_142 (lv_at hl 6 rfl) ?_
    refine q_ngetr_o c78 hx hb hts (fun _ h9 => List.mem_cons_of_mem _ (List.mem_append_left _ (List.mem_append_right _ h9))) hown hK hg (hS90 b77 c78) 4 (by decide) (hts (.fieldLink RX2 37 "JoinMaps$Node" "left" "LJoinMaps$Node;") (List.mem_cons_of_mem _ (List.mem_append_left _ (List.mem_append_left _ (List.mem_append_left _ (List.mem_of_getElem? (i := 0) rfl)))))) rfl rfl dX2_turnedLeft_144 ?_
    have hS91 : ∀ b, (sf s85 (b77 + 64) 4) = some b → sS s85 b := fun b h0 => GS_F hg h0
    refine call_r (run_V (a := ea E 1) (As := [va_rf (a1), .int (iI (a2)), .int (iI (a3)), va_rf ((sf s85 (b77 + 64) 4))]) (rest := [.ref (ea E 1)]) ⟨hx, hb, hml, hown, hts⟩ (ctX2_node l E tp a1 a2 a3 (sf s85 (b77 + 64) 4) s85 _ hS88 ha2 ha3 hS91 hm.2.2 h) (cwV 4 hts gX2_turnedLeft_X2_node rfl rfl rfl ⟨rfl, hdX2_node⟩ ⟨Nat.le_of_ble_eq_true rfl, Nat.le_of_ble_eq_true rfl⟩) hK hN hg (recv_x (ci := 2) (C := RX2) (T := TX2) (N := 4) hg hK (by decide) rfl (by decide) rfl) rfl hl.1 rfl (cat_sum _ (by simp)) dX2_turnedLeft_147 (show (sz s85 - sz σ) + (tp - sz s85) ≤ tp - sz σ ∧ 9 * (sz s85 - sz σ) + 9 * (tp - sz s85) ≤ 9 * (tp - sz σ) by have q1 := hm.2.1; have q2 := hm.2.2; omega)) hg (fun r93 s92 H locs hz94 hm2 h hg => ?_)
    have hS95 : ∀ b, r86 = some b → sS s92 b := (fun b h0 => hm2.1 b (hz87 b h0))
    have hS96 : ∀ b, a1 = some b → sS s92 b := (fun b h0 => hm2.1 b (hS88 b h0))
    have hS97 : ∀ b, a4 = some b → sS s92 b := (fun b h0 => hm2.1 b (hS89 b h0))
    have hS98 : ∀ b, v6 = some b → sS s92 b := (fun b h0 => hm2.1 b (hS90 b h0))
    have hm := hm.ta hm2
    refine W_narrow hg hH (show sz s92 ≤ sz σ + (sz s92 - sz σ) by have q1 := hm.2.1; omega) (Nat.le_refl _) ?_
    refine q_aload hx hb dX2_turnedLeft_150 (lv_at hl 6 rfl) ?_
    refine q_ngeti_o c78 hx hb hts (fun _ h9 => List.mem_cons_of_mem _ (List.mem_append_left _ (List.mem_append_right _ h9))) hown hK hg (hS98 b77 c78) 0 (by decide) (hts (.fieldLink RX2 31 "JoinMaps$Node" "key" "I") (List.mem_cons_of_mem _ (List.mem_append_left _ (List.mem_append_left _ (List.mem_append_left _ (List.mem_of_getElem? (i := 2) rfl)))))) rfl rfl dX2_turnedLeft_152 ?_
    have hR99 := GS_R hg (b77 + 64) 0
    refine q_aload hx hb dX2_turnedLeft_155 (lv_at hl 6 rfl) ?_
    refine q_ngeti_o c78 hx hb hts (fun _ h9 => List.mem_cons_of_mem _ (List.mem_append_left _ (List.mem_append_right _ h9))) hown hK hg (hS98 b77 c78) 1 (by decide) (hts (.fieldLink RX2 34 "JoinMaps$Node" "value" "I") (List.mem_cons_of_mem _ (List.mem_append_left _ (List.mem_append_left _ (List.mem_append_left _ (List.mem_of_getElem? (i := 3) rfl)))))) rfl rfl dX2_turnedLeft_157 ?_
    have hR100 := GS_R hg (b77 + 64) 1
    refine q_aload hx hb dX2_turnedLeft_160 (lv_at hl 0 rfl) ?_
    refine call_r (run_V (a := ea E 1) (As := [va_rf (r93), .int (iI ((sn s92 (b77 + 64) 0))), .int (iI ((sn s92 (b77 + 64) 1))), va_rf (r86)]) (rest := []) ⟨hx, hb, hml, hown, hts⟩ (ctX2_node l E tp r93 (sn s92 (b77 + 64) 0) (sn s92 (b77 + 64) 1) r86 s92 _ hz94 hR99 hR100 hS95 hm.2.2 h) (cwV 4 hts gX2_turnedLeft_X2_node rfl rfl rfl ⟨rfl, hdX2_node⟩ ⟨Nat.le_of_ble_eq_true rfl, Nat.le_of_ble_eq_true rfl⟩) hK hN hg (recv_x (ci := 2) (C := RX2) (T := TX2) (N := 4) hg hK (by decide) rfl (by decide) rfl) rfl hl.1 rfl (cat_sum _ (by simp)) dX2_turnedLeft_162 (show (sz s92 - sz σ) + (tp - sz s92) ≤ tp - sz σ ∧ 9 * (sz s92 - sz σ) + 9 * (tp - sz s92) ≤ 9 * (tp - sz σ) by have q1 := hm.2.1; have q2 := hm.2.2; omega)) hg (fun r102 s101 H locs hz103 hm2 h hg => ?_)
    have hS104 : ∀ b, r86 = some b → sS s101 b := (fun b h0 => hm2.1 b (hS95 b h0))
    have hS105 : ∀ b, a1 = some b → sS s101 b := (fun b h0 => hm2.1 b (hS96 b h0))
    have hS106 : ∀ b, a4 = some b → sS s101 b := (fun b h0 => hm2.1 b (hS97 b h0))
    have hS107 : ∀ b, v6 = some b → sS s101 b := (fun b h0 => hm2.1 b (hS98 b h0))
    have hm := hm.ta hm2
    refine W_narrow hg hH (show sz s101 ≤ sz σ + (sz s101 - sz σ) by have q1 := hm.2.1; omega) (Nat.le_refl _) ?_
    refine W.widen (k := tp - sz σ) (n := 9 * (tp - sz σ)) (show sz s101 - sz σ ≤ _ by have q1 := hm.2.2; omega) (show 9 * (sz s101 - sz σ) ≤ _ by have q1 := hm.2.2; omega) ?_
    exact ret_r hx hb hr hlocks hg hz103 hm h dX2_turnedLeft_165
  have J82 : ∀ (v6 : Option Nat) (sL : SS) (H : Heap) (locs : List Loc) (ls : Array Slot), (∀ b, v6 = some b → sS sL b) → GS E sL s H locs → Mo tp σ sL → lv_has ls 9 [(0, .ref (ea E 1)), (1, va_rf (a1)), (2, .int (iI (a2))), (3, .int (iI (a3))), (4, va_rf (a4)), (6, va_rf (v6))] → wX2_turnedLeft_L82 tp a1 a2 a3 a4 Q  v6 sL → W p l e (headSpec wsX2_turnedLeft ({ frames := 3, cells := tp - sz σ, slots := 9 * (tp - sz σ), locals := 85 } : Room)).room s m (List.toArray [.ref (ea E 1), va_rf (a1), .int (iI (a2)), .int (iI (a3)), va_rf (a4)]) below meth c H locs (sz sL - sz σ) (9 * (sz sL - sz σ)) (MQ below (Qr E tp σ Q) (List.toArray [.ref (ea E 1), va_rf (a1), .int (iI (a2)), .int (iI (a3)), va_rf (a4)]) s (tp - sz σ) (9 * (tp - sz σ)) (Av E)) (F0 m 82 ls []) := by
    intro v6 sL H locs ls mv6 hg hm hl h
    rw [wX2_turnedLeft_L82] at h
    refine lv_aload_n hx hb dX2_turnedLeft_82 rfl (lv_at hl 0 rfl) ?_
    refine lv_aload_n hx hb dX2_turnedLeft_83 rfl (lv_at hl 0 rfl) ?_
    refine q_aload_n hx hb dX2_turnedLeft_84 rfl (lv_at hl 1 rfl) ?_
    refine lv_iload_n hx hb dX2_turnedLeft_85 rfl (lv_at hl 2 rfl) ?_
    refine lv_iload_n hx hb dX2_turnedLeft_86 rfl (lv_at hl 3 rfl) ?_
    refine q_aload hx hb dX2_turnedLeft_87 (lv_at hl 5 rfl) ?_
    refine call_r (run_V (a := ea E 1) (As := [va_rf (a1), .int (iI (a2)), .int (iI (a3)), va_rf (v6)]) (rest := [.ref (ea E 1)]) ⟨hx, hb, hml, hown, hts⟩ (ctX2_node l E tp a1 a2 a3 v6 sL _ (fun b h0 => hm.1 b (ha1 b h0)) ha2 ha3 mv6 hm.2.2 h) (cwV 4 hts gX2_turnedLeft_X2_node rfl rfl rfl ⟨rfl, hdX2_node⟩ ⟨Nat.le_of_ble_eq_true rfl, Nat.le_of_ble_eq_true rfl⟩) hK hN hg (recv_x (ci := 2) (C := RX2) (T := TX2) (N := 4) hg hK (by decide) rfl (by decide) rfl) rfl hl.1 rfl (cat_sum _ (by simp)) dX2_turnedLeft_89 (show (sz sL - sz σ) + (tp - sz sL) ≤ tp - sz σ ∧ 9 * (sz sL - sz σ) + 9 * (tp - sz sL) ≤ 9 * (tp - sz σ) by have q1 := hm.2.1; have q2 := hm.2.2; omega)) hg (fun r61 s60 H locs hz62 hm2 h hg => ?_)
    have hS63 : ∀ b, a1 = some b → sS s60 b := (fun b h0 => hm2.1 b ((fun b h0 => hm.1 b (ha1 b h0)) b h0))
    have hS64 : ∀ b, a4 = some b → sS s60 b := (fun b h0 => hm2.1 b ((fun b h0 => hm.1 b (ha4 b h0)) b h0))
    have hS65 : ∀ b, v6 = some b → sS s60 b := (fun b h0 => hm2.1 b (mv6 b h0))
    have hm := hm.ta hm2
    refine W_narrow hg hH (show sz s60 ≤ sz σ + (sz s60 - sz σ) by have q1 := hm.2.1; omega) (Nat.le_refl _) ?_
    refine q_aload hx hb dX2_turnedLeft_92 (lv_at hl 4 rfl) ?_
    obtain ⟨b66, c67, h⟩ := h
    refine q_ngeti_o c67 hx hb hts (fun _ h9 => List.mem_cons_of_mem _ (List.mem_append_left _ (List.mem_append_right _ h9))) hown hK hg (hS64 b66 c67) 0 (by decide) (hts (.fieldLink RX2 31 "JoinMaps$Node" "key" "I") (List.mem_cons_of_mem _ (List.mem_append_left _ (List.mem_append_left _ (List.mem_append_left _ (List.mem_of_getElem? (i := 2) rfl)))))) rfl rfl dX2_turnedLeft_94 ?_
    have hR68 := GS_R hg (b66 + 64) 0
    refine q_aload hx hb dX2_turnedLeft_97 (lv_at hl 4 rfl) ?_
    refine q_ngeti_o c67 hx hb hts (fun _ h9 => List.mem_cons_of_mem _ (List.mem_append_left _ (List.mem_append_right _ h9))) hown hK hg (hS64 b66 c67) 1 (by decide) (hts (.fieldLink RX2 34 "JoinMaps$Node" "value" "I") (List.mem_cons_of_mem _ (List.mem_append_left _ (List.mem_append_left _ (List.mem_append_left _ (List.mem_of_getElem? (i := 3) rfl)))))) rfl rfl dX2_turnedLeft_99 ?_
    have hR69 := GS_R hg (b66 + 64) 1
    refine q_aload hx hb dX2_turnedLeft_102 (lv_at hl 4 rfl) ?_
    refine q_ngetr_o c67 hx hb hts (fun _ h9 => List.mem_cons_of_mem _ (List.mem_append_left _ (List.mem_append_right _ h9))) hown hK hg (hS64 b66 c67) 5 (by decide) (hts (.fieldLink RX2 40 "JoinMaps$Node" "right" "LJoinMaps$Node;") (List.mem_cons_of_mem _ (List.mem_append_left _ (List.mem_append_left _ (List.mem_append_left _ (List.mem_of_getElem? (i := 1) rfl)))))) rfl rfl dX2_turnedLeft_104 ?_
    have hS70 : ∀ b, (sf s60 (b66 + 64) 5) = some b → sS s60 b := fun b h0 => GS_F hg h0
    refine call_r (run_V (a := ea E 1) (As := [va_rf (r61), .int (iI ((sn s60 (b66 + 64) 0))), .int (iI ((sn s60 (b66 + 64) 1))), va_rf ((sf s60 (b66 + 64) 5))]) (rest := []) ⟨hx, hb, hml, hown, hts⟩ (ctX2_node l E tp r61 (sn s60 (b66 + 64) 0) (sn s60 (b66 + 64) 1) (sf s60 (b66 + 64) 5) s60 _ hz62 hR68 hR69 hS70 hm.2.2 h) (cwV 4 hts gX2_turnedLeft_X2_node rfl rfl rfl ⟨rfl, hdX2_node⟩ ⟨Nat.le_of_ble_eq_true rfl, Nat.le_of_ble_eq_true rfl⟩) hK hN hg (recv_x (ci := 2) (C := RX2) (T := TX2) (N := 4) hg hK (by decide) rfl (by decide) rfl) rfl hl.1 rfl (cat_sum _ (by simp)) dX2_turnedLeft_107 (show (sz s60 - sz σ) + (tp - sz s60) ≤ tp - sz σ ∧ 9 * (sz s60 - sz σ) + 9 * (tp - sz s60) ≤ 9 * (tp - sz σ) by have q1 := hm.2.1; have q2 := hm.2.2; omega)) hg (fun r72 s71 H locs hz73 hm2 h hg => ?_)
    have hS74 : ∀ b, a1 = some b → sS s71 b := (fun b h0 => hm2.1 b (hS63 b h0))
    have hS75 : ∀ b, a4 = some b → sS s71 b := (fun b h0 => hm2.1 b (hS64 b h0))
    have hS76 : ∀ b, v6 = some b → sS s71 b := (fun b h0 => hm2.1 b (hS65 b h0))
    have hm := hm.ta hm2
    refine W_narrow hg hH (show sz s71 ≤ sz σ + (sz s71 - sz σ) by have q1 := hm.2.1; omega) (Nat.le_refl _) ?_
    refine W.widen (k := tp - sz σ) (n := 9 * (tp - sz σ)) (show sz s71 - sz σ ≤ _ by have q1 := hm.2.2; omega) (show 9 * (sz s71 - sz σ) ≤ _ by have q1 := hm.2.2; omega) ?_
    exact ret_r hx hb hr hlocks hg hz73 hm h dX2_turnedLeft_110
  refine q_aload_n hx hb dX2_turnedLeft_0 rfl (lv_at hl 1 rfl) ?_
  refine call_i (run_S (As := [va_rf (a1)]) (rest := []) ⟨hx, hb, hml, hown, hts⟩ (ctX3_weightOf l E a1 σ _ ha1 h) (va_cwS 1 hts gX2_turnedLeft_X3_weightOf rfl rfl rfl hdX3_weightOf ⟨Nat.le_of_ble_eq_true rfl, Nat.le_of_ble_eq_true rfl⟩) hK hN hg rfl hl.1 rfl (cat_sum _ (by simp)) dX2_turnedLeft_1 (show (sz σ - sz σ) + 0 ≤ tp - sz σ ∧ 9 * (sz σ - sz σ) + 0 ≤ 9 * (tp - sz σ) by have q1 := hm.2.1; have q2 := hm.2.2; omega)) hg (fun r2 s1 H locs hz3 hm2 h hg => ?_)
  have hS4 : ∀ b, a1 = some b → sS s1 b := (fun b h0 => hm2.1 b (ha1 b h0))
  have hS5 : ∀ b, a4 = some b → sS s1 b := (fun b h0 => hm2.1 b (ha4 b h0))
  have hm := hm.tn hm2
  refine W_narrow hg hH (show sz s1 ≤ sz σ + (sz s1 - sz σ) by have q1 := hm.2.1; omega) (Nat.le_refl _) ?_
  refine lv_istore (i := 5) (lv' := [(5, .int (iI (r2))), (0, .ref (ea E 1)), (1, va_rf (a1)), (2, .int (iI (a2))), (3, .int (iI (a3))), (4, va_rf (a4))]) hx hb dX2_turnedLeft_4 hl (by decide) (by simp [List.filter_cons, rf_cat, ct_i, ct_l, ct_x]) (fun ls hl => ?_)
  refine q_aload hx hb dX2_turnedLeft_6 (lv_at hl 5 rfl) ?_
  refine j_null (tgt := 24) hx hb dX2_turnedLeft_8 (by decide) (fun c6 => ?_) (fun b7 c6 => ?_)
  · have h := h.1 c6
    refine lv_aload_n hx hb dX2_turnedLeft_24 rfl (lv_at hl 1 rfl) ?_
    refine q_aload_n hx hb dX2_turnedLeft_25 rfl (lv_at hl 2 rfl) ?_
    refine lv_iload_n hx hb dX2_turnedLeft_26 rfl (lv_at hl 3 rfl) ?_
    refine lv_iload_n hx hb dX2_turnedLeft_27 rfl (lv_at hl 4 rfl) ?_
    refine q_aload hx hb dX2_turnedLeft_28 (lv_at hl 5 rfl) ?_
    refine call_r (run_V (a := ea E 1) (As := [va_rf (a1), .int (iI (a2)), .int (iI (a3)), va_rf (a4)]) (rest := []) ⟨hx, hb, hml, hown, hts⟩ (ctX2_node l E tp a1 a2 a3 a4 s1 _ hS4 ha2 ha3 hS5 hm.2.2 h) (cwV 4 hts gX2_turnedLeft_X2_node rfl rfl rfl ⟨rfl, hdX2_node⟩ ⟨Nat.le_of_ble_eq_true rfl, Nat.le_of_ble_eq_true rfl⟩) hK hN hg (recv_x (ci := 2) (C := RX2) (T := TX2) (N := 4) hg hK (by decide) rfl (by decide) rfl) rfl hl.1 rfl (cat_sum _ (by simp)) dX2_turnedLeft_30 (show (sz s1 - sz σ) + (tp - sz s1) ≤ tp - sz σ ∧ 9 * (sz s1 - sz σ) + 9 * (tp - sz s1) ≤ 9 * (tp - sz σ) by have q1 := hm.2.1; have q2 := hm.2.2; omega)) hg (fun r9 s8 H locs hz10 hm2 h hg => ?_)
    have hS11 : ∀ b, a1 = some b → sS s8 b := (fun b h0 => hm2.1 b (hS4 b h0))
    have hS12 : ∀ b, a4 = some b → sS s8 b := (fun b h0 => hm2.1 b (hS5 b h0))
    have hm := hm.ta hm2
    refine W_narrow hg hH (show sz s8 ≤ sz σ + (sz s8 - sz σ) by have q1 := hm.2.1; omega) (Nat.le_refl _) ?_
    refine W.widen (k := tp - sz σ) (n := 9 * (tp - sz σ)) (show sz s8 - sz σ ≤ _ by have q1 := hm.2.2; omega) (show 9 * (sz s8 - sz σ) ≤ _ by have q1 := hm.2.2; omega) ?_
    exact ret_r hx hb hr hlocks hg hz10 hm h dX2_turnedLeft_33
  · have h := h.2 b7 c6
    refine lv_iload hx hb dX2_turnedLeft_11 (lv_at hl 0 rfl) ?_
    refine q_aload hx hb dX2_turnedLeft_13 (lv_at hl 5 rfl) ?_
    refine call_i (run_S (As := [va_rf (a4)]) (rest := [.int (iI (r2))]) ⟨hx, hb, hml, hown, hts⟩ (ctX3_weightOf l E a4 s1 _ hS5 h) (va_cwS 1 hts gX2_turnedLeft_X3_weightOf rfl rfl rfl hdX3_weightOf ⟨Nat.le_of_ble_eq_true rfl, Nat.le_of_ble_eq_true rfl⟩) hK hN hg rfl hl.1 rfl (cat_sum _ (by simp)) dX2_turnedLeft_15 (show (sz s1 - sz σ) + 0 ≤ tp - sz σ ∧ 9 * (sz s1 - sz σ) + 0 ≤ 9 * (tp - sz σ) by have q1 := hm.2.1; have q2 := hm.2.2; omega)) hg (fun r14 s13 H locs hz15 hm2 h hg => ?_)
    have hS16 : ∀ b, a1 = some b → sS s13 b := (fun b h0 => hm2.1 b (hS4 b h0))
    have hS17 : ∀ b, a4 = some b → sS s13 b := (fun b h0 => hm2.1 b (hS5 b h0))
    have hm := hm.tn hm2
    refine W_narrow hg hH (show sz s13 ≤ sz σ + (sz s13 - sz σ) by have q1 := hm.2.1; omega) (Nat.le_refl _) ?_
    refine call_z (run_S (As := [.int (iI (r2)), .int (iI (r14))]) (rest := []) ⟨hx, hb, hml, hown, hts⟩ (ctX2_isBalanced l E r2 r14 s13 _ hz3 hz15 h) (va_cwS 2 hts gX2_turnedLeft_X2_isBalanced rfl rfl rfl hdX2_isBalanced ⟨Nat.le_of_ble_eq_true rfl, Nat.le_of_ble_eq_true rfl⟩) hK hN hg rfl hl.1 rfl (cat_sum _ (by simp)) dX2_turnedLeft_18 (show (sz s13 - sz σ) + 0 ≤ tp - sz σ ∧ 9 * (sz s13 - sz σ) + 0 ≤ 9 * (tp - sz σ) by have q1 := hm.2.1; have q2 := hm.2.2; omega)) hg (fun r19 s18 H locs hz20 hm2 h hg => ?_)
    have hS21 : ∀ b, a1 = some b → sS s18 b := (fun b h0 => hm2.1 b (hS16 b h0))
    have hS22 : ∀ b, a4 = some b → sS s18 b := (fun b h0 => hm2.1 b (hS17 b h0))
    have hm := hm.tn hm2
    refine W_narrow hg hH (show sz s18 ≤ sz σ + (sz s18 - sz σ) by have q1 := hm.2.1; omega) (Nat.le_refl _) ?_
    refine k_eq (tgt := 34) hx hb dX2_turnedLeft_21 (by decide) (z_R hz20) (fun c23 => ?_) (fun c23 => ?_)
    · have h := h.1 c23
      refine q_aload hx hb dX2_turnedLeft_34 (lv_at hl 5 rfl) ?_
      refine q_ngetr_o c6 hx hb hts (fun _ h9 => List.mem_cons_of_mem _ (List.mem_append_left _ (List.mem_append_right _ h9))) hown hK hg (hS22 b7 c6) 4 (by decide) (hts (.fieldLink RX2 37 "JoinMaps$Node" "left" "LJoinMaps$Node;") (List.mem_cons_of_mem _ (List.mem_append_left _ (List.mem_append_left _ (List.mem_append_left _ (List.mem_of_getElem? (i := 0) rfl)))))) rfl rfl dX2_turnedLeft_36 ?_
      have hS24 : ∀ b, (sf s18 (b7 + 64) 4) = some b → sS s18 b := fun b h0 => GS_F hg h0
      refine q_astore (i := 6) (lv' := [(6, va_rf ((sf s18 (b7 + 64) 4))), (5, .int (iI (r2))), (0, .ref (ea E 1)), (1, va_rf (a1)), (2, .int (iI (a2))), (3, .int (iI (a3))), (4, va_rf (a4))]) hx hb dX2_turnedLeft_39 hl (by decide) (by simp [List.filter_cons, rf_cat, ct_i, ct_l, ct_x]) (fun ls hl => ?_)
      refine q_aload hx hb dX2_turnedLeft_41 (lv_at hl 0 rfl) ?_
      refine call_i (run_S (As := [va_rf ((sf s18 (b7 + 64) 4))]) (rest := []) ⟨hx, hb, hml, hown, hts⟩ (ctX3_weightOf l E (sf s18 (b7 + 64) 4) s18 _ hS24 h) (va_cwS 1 hts gX2_turnedLeft_X3_weightOf rfl rfl rfl hdX3_weightOf ⟨Nat.le_of_ble_eq_true rfl, Nat.le_of_ble_eq_true rfl⟩) hK hN hg rfl hl.1 rfl (cat_sum _ (by simp)) dX2_turnedLeft_43 (show (sz s18 - sz σ) + 0 ≤ tp - sz σ ∧ 9 * (sz s18 - sz σ) + 0 ≤ 9 * (tp - sz σ) by have q1 := hm.2.1; have q2 := hm.2.2; omega)) hg (fun r26 s25 H locs hz27 hm2 h hg => ?_)
      have hS28 : ∀ b, (sf s18 (b7 + 64) 4) = some b → sS s25 b := (fun b h0 => hm2.1 b (hS24 b h0))
      have hS29 : ∀ b, a1 = some b → sS s25 b := (fun b h0 => hm2.1 b (hS21 b h0))
      have hS30 : ∀ b, a4 = some b → sS s25 b := (fun b h0 => hm2.1 b (hS22 b h0))
      have hm := hm.tn hm2
      refine W_narrow hg hH (show sz s25 ≤ sz σ + (sz s25 - sz σ) by have q1 := hm.2.1; omega) (Nat.le_refl _) ?_
      refine lv_istore (i := 7) (lv' := [(7, .int (iI (r26))), (6, va_rf ((sf s18 (b7 + 64) 4))), (5, .int (iI (r2))), (0, .ref (ea E 1)), (1, va_rf (a1)), (2, .int (iI (a2))), (3, .int (iI (a3))), (4, va_rf (a4))]) hx hb dX2_turnedLeft_46 hl (by decide) (by simp [List.filter_cons, rf_cat, ct_i, ct_l, ct_x]) (fun ls hl => ?_)
      refine q_aload hx hb dX2_turnedLeft_48 (lv_at hl 1 rfl) ?_
      refine j_null (tgt := 82) hx hb dX2_turnedLeft_50 (by decide) (fun c31 => ?_) (fun b32 c31 => ?_)
      · have h := h.1 c31
        exact J82  ((sf s18 (b7 + 64) 4)) (s25) _ _ _ hS28 hg hm (lv_sub hl [3, 4, 5, 6, 7, 1] rfl) h
      · have h := h.2 b32 c31
        refine lv_iload hx hb dX2_turnedLeft_53 (lv_at hl 2 rfl) ?_
        refine lv_iload hx hb dX2_turnedLeft_55 (lv_at hl 0 rfl) ?_
        refine call_z (run_S (As := [.int (iI (r2)), .int (iI (r26))]) (rest := []) ⟨hx, hb, hml, hown, hts⟩ (ctX2_isBalanced l E r2 r26 s25 _ hz3 hz27 h) (va_cwS 2 hts gX2_turnedLeft_X2_isBalanced rfl rfl rfl hdX2_isBalanced ⟨Nat.le_of_ble_eq_true rfl, Nat.le_of_ble_eq_true rfl⟩) hK hN hg rfl hl.1 rfl (cat_sum _ (by simp)) dX2_turnedLeft_57 (show (sz s25 - sz σ) + 0 ≤ tp - sz σ ∧ 9 * (sz s25 - sz σ) + 0 ≤ 9 * (tp - sz σ) by have q1 := hm.2.1; have q2 := hm.2.2; omega)) hg (fun r34 s33 H locs hz35 hm2 h hg => ?_)
        have hS36 : ∀ b, (sf s18 (b7 + 64) 4) = some b → sS s33 b := (fun b h0 => hm2.1 b (hS28 b h0))
        have hS37 : ∀ b, a1 = some b → sS s33 b := (fun b h0 => hm2.1 b (hS29 b h0))
        have hS38 : ∀ b, a4 = some b → sS s33 b := (fun b h0 => hm2.1 b (hS30 b h0))
        have hm := hm.tn hm2
        refine W_narrow hg hH (show sz s33 ≤ sz σ + (sz s33 - sz σ) by have q1 := hm.2.1; omega) (Nat.le_refl _) ?_
        refine k_eq (tgt := 111) hx hb dX2_turnedLeft_60 (by decide) (z_R hz35) (fun c39 => ?_) (fun c39 => ?_)
        · have h := h.1 c39
          exact J111  ((sf s18 (b7 + 64) 4)) (s33) _ _ _ hS36 hg hm (lv_sub hl [3, 4, 5, 6, 7, 1] rfl) h
        · have h := h.2 c39
          refine lv_iload hx hb dX2_turnedLeft_63 (lv_at hl 2 rfl) ?_
          refine lv_iload hx hb dX2_turnedLeft_65 (lv_at hl 0 rfl) ?_
          refine q_iadd hx hb dX2_turnedLeft_67 ?_
          refine q_aload hx hb dX2_turnedLeft_68 (lv_at hl 7 rfl) ?_
          refine q_ngetr_o c6 hx hb hts (fun _ h9 => List.mem_cons_of_mem _ (List.mem_append_left _ (List.mem_append_right _ h9))) hown hK hg (hS38 b7 c6) 5 (by decide) (hts (.fieldLink RX2 40 "JoinMaps$Node" "right" "LJoinMaps$Node;") (List.mem_cons_of_mem _ (List.mem_append_left _ (List.mem_append_left _ (List.mem_append_left _ (List.mem_of_getElem? (i := 1) rfl)))))) rfl rfl dX2_turnedLeft_70 ?_
          have hS40 : ∀ b, (sf s33 (b7 + 64) 5) = some b → sS s33 b := fun b h0 => GS_F hg h0
          refine call_i (run_S (As := [va_rf ((sf s33 (b7 + 64) 5))]) (rest := [.int (iI ((r2 + r26)))]) ⟨hx, hb, hml, hown, hts⟩ (ctX3_weightOf l E (sf s33 (b7 + 64) 5) s33 _ hS40 h) (va_cwS 1 hts gX2_turnedLeft_X3_weightOf rfl rfl rfl hdX3_weightOf ⟨Nat.le_of_ble_eq_true rfl, Nat.le_of_ble_eq_true rfl⟩) hK hN hg rfl hl.1 rfl (cat_sum _ (by simp)) dX2_turnedLeft_73 (show (sz s33 - sz σ) + 0 ≤ tp - sz σ ∧ 9 * (sz s33 - sz σ) + 0 ≤ 9 * (tp - sz σ) by have q1 := hm.2.1; have q2 := hm.2.2; omega)) hg (fun r42 s41 H locs hz43 hm2 h hg => ?_)
          have hS44 : ∀ b, (sf s18 (b7 + 64) 4) = some b → sS s41 b := (fun b h0 => hm2.1 b (hS36 b h0))
          have hS45 : ∀ b, a1 = some b → sS s41 b := (fun b h0 => hm2.1 b (hS37 b h0))
          have hS46 : ∀ b, a4 = some b → sS s41 b := (fun b h0 => hm2.1 b (hS38 b h0))
          have hm := hm.tn hm2
          refine W_narrow hg hH (show sz s41 ≤ sz σ + (sz s41 - sz σ) by have q1 := hm.2.1; omega) (Nat.le_refl _) ?_
          obtain ⟨hR47, h⟩ := h
          refine call_z (run_S (As := [.int (iI ((r2 + r26))), .int (iI (r42))]) (rest := []) ⟨hx, hb, hml, hown, hts⟩ (ctX2_isBalanced l E (r2 + r26) r42 s41 _ hR47 hz43 h) (va_cwS 2 hts gX2_turnedLeft_X2_isBalanced rfl rfl rfl hdX2_isBalanced ⟨Nat.le_of_ble_eq_true rfl, Nat.le_of_ble_eq_true rfl⟩) hK hN hg rfl hl.1 rfl (cat_sum _ (by simp)) dX2_turnedLeft_76 (show (sz s41 - sz σ) + 0 ≤ tp - sz σ ∧ 9 * (sz s41 - sz σ) + 0 ≤ 9 * (tp - sz σ) by have q1 := hm.2.1; have q2 := hm.2.2; omega)) hg (fun r49 s48 H locs hz50 hm2 h hg => ?_)
          have hS51 : ∀ b, (sf s18 (b7 + 64) 4) = some b → sS s48 b := (fun b h0 => hm2.1 b (hS44 b h0))
          have hS52 : ∀ b, a1 = some b → sS s48 b := (fun b h0 => hm2.1 b (hS45 b h0))
          have hS53 : ∀ b, a4 = some b → sS s48 b := (fun b h0 => hm2.1 b (hS46 b h0))
          have hm := hm.tn hm2
          refine W_narrow hg hH (show sz s48 ≤ sz σ + (sz s48 - sz σ) by have q1 := hm.2.1; omega) (Nat.le_refl _) ?_
          refine k_eq (tgt := 111) hx hb dX2_turnedLeft_79 (by decide) (z_R hz50) (fun c54 => ?_) (fun c54 => ?_)
          · have h := h.1 c54
            exact J111  ((sf s18 (b7 + 64) 4)) (s48) _ _ _ hS51 hg hm (lv_sub hl [3, 4, 5, 6, 7, 1] rfl) h
          · have h := h.2 c54
            exact J82  ((sf s18 (b7 + 64) 4)) (s48) _ _ _ hS51 hg hm (lv_sub hl [3, 4, 5, 6, 7, 1] rfl) h
    · have h := h.2 c23
      refine lv_aload_n hx hb dX2_turnedLeft_24 rfl (lv_at hl 1 rfl) ?_
      refine q_aload_n hx hb dX2_turnedLeft_25 rfl (lv_at hl 2 rfl) ?_
      refine lv_iload_n hx hb dX2_turnedLeft_26 rfl (lv_at hl 3 rfl) ?_
      refine lv_iload_n hx hb dX2_turnedLeft_27 rfl (lv_at hl 4 rfl) ?_
      refine q_aload hx hb dX2_turnedLeft_28 (lv_at hl 5 rfl) ?_
      refine call_r (run_V (a := ea E 1) (As := [va_rf (a1), .int (iI (a2)), .int (iI (a3)), va_rf (a4)]) (rest := []) ⟨hx, hb, hml, hown, hts⟩ (ctX2_node l E tp a1 a2 a3 a4 s18 _ hS21 ha2 ha3 hS22 hm.2.2 h) (cwV 4 hts gX2_turnedLeft_X2_node rfl rfl rfl ⟨rfl, hdX2_node⟩ ⟨Nat.le_of_ble_eq_true rfl, Nat.le_of_ble_eq_true rfl⟩) hK hN hg (recv_x (ci := 2) (C := RX2) (T := TX2) (N := 4) hg hK (by decide) rfl (by decide) rfl) rfl hl.1 rfl (cat_sum _ (by simp)) dX2_turnedLeft_30 (show (sz s18 - sz σ) + (tp - sz s18) ≤ tp - sz σ ∧ 9 * (sz s18 - sz σ) + 9 * (tp - sz s18) ≤ 9 * (tp - sz σ) by have q1 := hm.2.1; have q2 := hm.2.2; omega)) hg (fun r56 s55 H locs hz57 hm2 h hg => ?_)
      have hS58 : ∀ b, a1 = some b → sS s55 b := (fun b h0 => hm2.1 b (hS21 b h0))
      have hS59 : ∀ b, a4 = some b → sS s55 b := (fun b h0 => hm2.1 b (hS22 b h0))
      have hm := hm.ta hm2
      refine W_narrow hg hH (show sz s55 ≤ sz σ + (sz s55 - sz σ) by have q1 := hm.2.1; omega) (Nat.le_refl _) ?_
      refine W.widen (k := tp - sz σ) (n := 9 * (tp - sz σ)) (show sz s55 - sz σ ≤ _ by have q1 := hm.2.2; omega) (show 9 * (sz s55 - sz σ) ≤ _ by have q1 := hm.2.2; omega) ?_
      exact ret_r hx hb hr hlocks hg hz57 hm h dX2_turnedLeft_33
theorem hdX2_turnedRight : yX2_turnedRight.cls ≠ "java/lang/invoke/MethodHandle" ∧ yX2_turnedRight.cls ≠ "java/lang/invoke/VarHandle" ∧ (parseMethodDescriptor yX2_turnedRight.desc).map (fun d => d.parameters.length) = some 4 := by decide +kernel
set_option maxRecDepth 100000 in
set_option maxHeartbeats 4000000 in
theorem ctX2_turnedRight (l : Launch) (E : Ev) (tp : Nat) (a1 : Option Nat) (a2 : Int) (a3 : Int) (a4 : Option Nat) (σ : SS) (Q : Option Nat → SS → Prop) (ha1 : ∀ b, a1 = some b → sS σ b) (ha2 : R32 a2) (ha3 : R32 a3) (ha4 : ∀ b, a4 = some b → sS σ b) (ht : sz σ ≤ tp) (h : wX2_turnedRight tp a1 a2 a3 a4 σ Q) : Met l yX2_turnedRight wsX2_turnedRight ({ frames := 3, cells := tp - sz σ, slots := 9 * (tp - sz σ), locals := 85 } : Room) (Pc E σ [.ref (ea E 1), va_rf (a1), .int (iI (a2)), .int (iI (a3)), va_rf (a4)]) (Qr E tp σ Q) (tp - sz σ) (9 * (tp - sz σ)) (Av E) := by
  rw [wX2_turnedRight] at h
  refine Met.ofW (cc := cX2_turnedRight) (maxL := 9) (ret := (some (.object "JoinMaps$Node"))) (by decide) rfl ?_
  intro p e s m args below meth c s₁ B hml hv
  obtain ⟨rfl, hH, hK, hN⟩ := hv
  have hx := B.exec
  have hb := B.bytes
  have hr := B.returns
  have hts := atoms_spec (ws := wsX2_turnedRight) B.pre
  have hown : s.vm.findClass RX2 = some m.cls := findClass_of_methodNamed B.named
  have hlocks := B.notSynchronized
  have hg : GS E σ s s.heap [] := ⟨hH, va_S.rf⟩
  have hm : Mo tp σ σ := Mo.rf ht
  have hl := ent (vs := [.ref (ea E 1), va_rf (a1), .int (iI (a2)), .int (iI (a3)), va_rf (a4)]) (n := 9) (cats_x (cats_r (cats_i (cats_i (cats_r cats_nil))))) (Nat.le_of_ble_eq_true rfl)
  rw [lg_entry_eq]
  generalize (lg_sl ([.ref (ea E 1), va_rf (a1), .int (iI (a2)), .int (iI (a3)), va_rf (a4)]) ++ List.replicate (9 - (lg_sl ([.ref (ea E 1), va_rf (a1), .int (iI (a2)), .int (iI (a3)), va_rf (a4)])).length) Slot.unset).toArray = ls at hl ⊢
  have hl : lv_has ls 9 [(0, .ref (ea E 1)), (1, va_rf (a1)), (2, .int (iI (a2))), (3, .int (iI (a3))), (4, va_rf (a4))] := hl
  refine W_narrow hg hH (show sz σ ≤ sz σ + (sz σ - sz σ) by omega) (show 9 * (sz σ - sz σ) ≤ 9 * (sz σ - sz σ) from Nat.le_refl _) ?_
  have J106 : ∀ (v6 : Option Nat) (sL : SS) (H : Heap) (locs : List Loc) (ls : Array Slot), (∀ b, v6 = some b → sS sL b) → GS E sL s H locs → Mo tp σ sL → lv_has ls 9 [(0, .ref (ea E 1)), (1, va_rf (a1)), (2, .int (iI (a2))), (3, .int (iI (a3))), (4, va_rf (a4)), (6, va_rf (v6))] → wX2_turnedRight_L106 tp a1 a2 a3 a4 Q  v6 sL → W p l e (headSpec wsX2_turnedRight ({ frames := 3, cells := tp - sz σ, slots := 9 * (tp - sz σ), locals := 85 } : Room)).room s m (List.toArray [.ref (ea E 1), va_rf (a1), .int (iI (a2)), .int (iI (a3)), va_rf (a4)]) below meth c H locs (sz sL - sz σ) (9 * (sz sL - sz σ)) (MQ below (Qr E tp σ Q) (List.toArray [.ref (ea E 1), va_rf (a1), .int (iI (a2)), .int (iI (a3)), va_rf (a4)]) s (tp - sz σ) (9 * (tp - sz σ)) (Av E)) (F0 m 106 ls []) := by
    intro v6 sL H locs ls mv6 hg hm hl h
    rw [wX2_turnedRight_L106] at h
    refine lv_aload_n hx hb dX2_turnedRight_106 rfl (lv_at hl 0 rfl) ?_
    refine q_aload_n hx hb dX2_turnedRight_107 rfl (lv_at hl 1 rfl) ?_
    obtain ⟨b78, c79, h⟩ := h
    refine q_ngetr_o c79 hx hb hts (fun _ h9 => List.mem_cons_of_mem _ (List.mem_append_left _ (List.mem_append_right _ h9))) hown hK hg ((fun b h0 => hm.1 b (ha1 b h0)) b78 c79) 4 (by decide) (hts (.fieldLink RX2 37 "JoinMaps$Node" "left" "LJoinMaps$Node;") (List.mem_cons_of_mem _ (List.mem_append_left _ (List.mem_append_left _ (List.mem_append_left _ (List.mem_of_getElem? (i := 1) rfl)))))) rfl rfl dX2_turnedRight_108 ?_
    have hS80 : ∀ b, (sf sL (b78 + 64) 4) = some b → sS sL b := fun b h0 => GS_F hg h0
    refine q_aload_n hx hb dX2_turnedRight_111 rfl (lv_at hl 1 rfl) ?_
    refine q_ngeti_o c79 hx hb hts (fun _ h9 => List.mem_cons_of_mem _ (List.mem_append_left _ (List.mem_append_right _ h9))) hown hK hg ((fun b h0 => hm.1 b (ha1 b h0)) b78 c79) 0 (by decide) (hts (.fieldLink RX2 31 "JoinMaps$Node" "key" "I") (List.mem_cons_of_mem _ (List.mem_append_left _ (List.mem_append_left _ (List.mem_append_left _ (List.mem_of_getElem? (i := 2) rfl)))))) rfl rfl dX2_turnedRight_112 ?_
    have hR81 := GS_R hg (b78 + 64) 0
    refine q_aload_n hx hb dX2_turnedRight_115 rfl (lv_at hl 1 rfl) ?_
    refine q_ngeti_o c79 hx hb hts (fun _ h9 => List.mem_cons_of_mem _ (List.mem_append_left _ (List.mem_append_right _ h9))) hown hK hg ((fun b h0 => hm.1 b (ha1 b h0)) b78 c79) 1 (by decide) (hts (.fieldLink RX2 34 "JoinMaps$Node" "value" "I") (List.mem_cons_of_mem _ (List.mem_append_left _ (List.mem_append_left _ (List.mem_append_left _ (List.mem_of_getElem? (i := 3) rfl)))))) rfl rfl dX2_turnedRight_116 ?_
    have hR82 := GS_R hg (b78 + 64) 1
    refine q_aload hx hb dX2_turnedRight_119 (lv_at hl 5 rfl) ?_
    obtain ⟨b83, c84, h⟩ := h
    refine q_ngetr_o c84 hx hb hts (fun _ h9 => List.mem_cons_of_mem _ (List.mem_append_left _ (List.mem_append_right _ h9))) hown hK hg (mv6 b83 c84) 4 (by decide) (hts (.fieldLink RX2 37 "JoinMaps$Node" "left" "LJoinMaps$Node;") (List.mem_cons_of_mem _ (List.mem_append_left _ (List.mem_append_left _ (List.mem_append_left _ (List.mem_of_getElem? (i := 1) rfl)))))) rfl rfl dX2_turnedRight_121 ?_
    have hS85 : ∀ b, (sf sL (b83 + 64) 4) = some b → sS sL b := fun b h0 => GS_F hg h0
    refine call_r (run_V (a := ea E 1) (As := [va_rf ((sf sL (b78 + 64) 4)), .int (iI ((sn sL (b78 + 64) 0))), .int (iI ((sn sL (b78 + 64) 1))), va_rf ((sf sL (b83 + 64) 4))]) (rest := []) ⟨hx, hb, hml, hown, hts⟩ (ctX2_node l E tp (sf sL (b78 + 64) 4) (sn sL (b78 + 64) 0) (sn sL (b78 + 64) 1) (sf sL (b83 + 64) 4) sL _ hS80 hR81 hR82 hS85 hm.2.2 h) (cwV 4 hts gX2_turnedRight_X2_node rfl rfl rfl ⟨rfl, hdX2_node⟩ ⟨Nat.le_of_ble_eq_true rfl, Nat.le_of_ble_eq_true rfl⟩) hK hN hg (recv_x (ci := 2) (C := RX2) (T := TX2) (N := 4) hg hK (by decide) rfl (by decide) rfl) rfl hl.1 rfl (cat_sum _ (by simp)) dX2_turnedRight_124 (show (sz sL - sz σ) + (tp - sz sL) ≤ tp - sz σ ∧ 9 * (sz sL - sz σ) + 9 * (tp - sz sL) ≤ 9 * (tp - sz σ) by have q1 := hm.2.1; have q2 := hm.2.2; omega)) hg (fun r87 s86 H locs hz88 hm2 h hg => ?_)
    have hS89 : ∀ b, a1 = some b → sS s86 b := (fun b h0 => hm2.1 b ((fun b h0 => hm.1 b (ha1 b h0)) b h0))
    have hS90 : ∀ b, a4 = some b → sS s86 b := (fun b h0 => hm2.1 b ((fun b h0 => hm.1 b (ha4 b h0)) b h0))
    have hS91 : ∀ b, v6 = some b → sS s86 b := (fun b h0 => hm2.1 b (mv6 b h0))
    have hm := hm.ta hm2
    refine W_narrow hg hH (show sz s86 ≤ sz σ + (sz s86 - sz σ) by have q1 := hm.2.1; omega) (Nat.le_refl _) ?_
    refine q_astore (i := 8) (lv' := [(8, va_rf (r87)), (0, .ref (ea E 1)), (1, va_rf (a1)), (2, .int (iI (a2))), (3, .int (iI (a3))), (4, va_rf (a4)), (6, va_rf (v6))]) hx hb dX2_turnedRight_127 hl (by decide) (by simp [List.filter_cons, rf_cat, ct_i, ct_l, ct_x]) (fun ls hl => ?_)
    refine lv_aload_n hx hb dX2_turnedRight_129 rfl (lv_at hl 1 rfl) ?_
    refine q_aload hx hb dX2_turnedRight_130 (lv_at hl 0 rfl) ?_
    refine q_aload hx hb dX2_turnedRight_132 (lv_at hl 6 rfl) ?_
    refine q_ngeti_o c84 hx hb hts (fun _ h9 => List.mem_cons_of_mem _ (List.mem_append_left _ (List.mem_append_right _ h9))) hown hK hg (hS91 b83 c84) 0 (by decide) (hts (.fieldLink RX2 31 "JoinMaps$Node" "key" "I") (List.mem_cons_of_mem _ (List.mem_append_left _ (List.mem_append_left _ (List.mem_append_left _ (List.mem_of_getElem? (i := 2) rfl)))))) rfl rfl dX2_turnedRight_134 ?_
    have hR92 := GS_R hg (b83 + 64) 0
    refine q_aload hx hb dX2_turnedRight_137 (lv_at hl 6 rfl) ?_
    refine q_ngeti_o c84 hx hb hts (fun _ h9 => List.mem_cons_of_mem _ (List.mem_append_left _ (List.mem_append_right _ h9))) hown hK hg (hS91 b83 c84) 1 (by decide) (hts (.fieldLink RX2 34 "JoinMaps$Node" "value" "I") (List.mem_cons_of_mem _ (List.mem_append_left _ (List.mem_append_left _ (List.mem_append_left _ (List.mem_of_getElem? (i := 3) rfl)))))) rfl rfl dX2_turnedRight_139 ?_
    have hR93 := GS_R hg (b83 + 64) 1
    refine lv_aload_n hx hb dX2_turnedRight_142 rfl (lv_at hl 1 rfl) ?_
    refine q_aload hx hb dX2_turnedRight_143 (lv_at hl 6 rfl) ?_
    refine q_ngetr_o c84 hx hb hts (fun _ h9 => List.mem_cons_of_mem _ (List.mem_append_left _ (List.mem_append_right _ h9))) hown hK hg (hS91 b83 c84) 5 (by decide) (hts (.fieldLink RX2 40 "JoinMaps$Node" "right" "LJoinMaps$Node;") (List.mem_cons_of_mem _ (List.mem_append_left _ (List.mem_append_left _ (List.mem_append_left _ (List.mem_of_getElem? (i := 0) rfl)))))) rfl rfl dX2_turnedRight_145 ?_
    have hS94 : ∀ b, (sf s86 (b83 + 64) 5) = some b → sS s86 b := fun b h0 => GS_F hg h0
    refine lv_iload_n hx hb dX2_turnedRight_148 rfl (lv_at hl 3 rfl) ?_
    refine lv_iload_n hx hb dX2_turnedRight_149 rfl (lv_at hl 4 rfl) ?_
    refine q_aload hx hb dX2_turnedRight_150 (lv_at hl 5 rfl) ?_
    refine call_r (run_V (a := ea E 1) (As := [va_rf ((sf s86 (b83 + 64) 5)), .int (iI (a2)), .int (iI (a3)), va_rf (a4)]) (rest := [.int (iI ((sn s86 (b83 + 64) 1))), .int (iI ((sn s86 (b83 + 64) 0))), va_rf (r87), .ref (ea E 1)]) ⟨hx, hb, hml, hown, hts⟩ (ctX2_node l E tp (sf s86 (b83 + 64) 5) a2 a3 a4 s86 _ hS94 ha2 ha3 hS90 hm.2.2 h) (cwV 4 hts gX2_turnedRight_X2_node rfl rfl rfl ⟨rfl, hdX2_node⟩ ⟨Nat.le_of_ble_eq_true rfl, Nat.le_of_ble_eq_true rfl⟩) hK hN hg (recv_x (ci := 2) (C := RX2) (T := TX2) (N := 4) hg hK (by decide) rfl (by decide) rfl) rfl hl.1 rfl (cat_sum _ (by simp)) dX2_turnedRight_152 (show (sz s86 - sz σ) + (tp - sz s86) ≤ tp - sz σ ∧ 9 * (sz s86 - sz σ) + 9 * (tp - sz s86) ≤ 9 * (tp - sz σ) by have q1 := hm.2.1; have q2 := hm.2.2; omega)) hg (fun r96 s95 H locs hz97 hm2 h hg => ?_)
    have hS98 : ∀ b, r87 = some b → sS s95 b := (fun b h0 => hm2.1 b (hz88 b h0))
    have hS99 : ∀ b, a1 = some b → sS s95 b := (fun b h0 => hm2.1 b (hS89 b h0))
    have hS100 : ∀ b, a4 = some b → sS s95 b := (fun b h0 => hm2.1 b (hS90 b h0))
    have hS101 : ∀ b, v6 = some b → sS s95 b := (fun b h0 => hm2.1 b (hS91 b h0))
    have hm := hm.ta hm2
    refine W_narrow hg hH (show sz s95 ≤ sz σ + (sz s95 - sz σ) by have q1 := hm.2.1; omega) (Nat.le_refl _) ?_
    refine call_r (run_V (a := ea E 1) (As := [va_rf (r87), .int (iI ((sn s86 (b83 + 64) 0))), .int (iI ((sn s86 (b83 + 64) 1))), va_rf (r96)]) (rest := []) ⟨hx, hb, hml, hown, hts⟩ (ctX2_node l E tp r87 (sn s86 (b83 + 64) 0) (sn s86 (b83 + 64) 1) r96 s95 _ hS98 hR92 hR93 hz97 hm.2.2 h) (cwV 4 hts gX2_turnedRight_X2_node rfl rfl rfl ⟨rfl, hdX2_node⟩ ⟨Nat.le_of_ble_eq_true rfl, Nat.le_of_ble_eq_true rfl⟩) hK hN hg (recv_x (ci := 2) (C := RX2) (T := TX2) (N := 4) hg hK (by decide) rfl (by decide) rfl) rfl hl.1 rfl (cat_sum _ (by simp)) dX2_turnedRight_155 (show (sz s95 - sz σ) + (tp - sz s95) ≤ tp - sz σ ∧ 9 * (sz s95 - sz σ) + 9 * (tp - sz s95) ≤ 9 * (tp - sz σ) by have q1 := hm.2.1; have q2 := hm.2.2; omega)) hg (fun r103 s102 H locs hz104 hm2 h hg => ?_)
    have hS105 : ∀ b, r87 = some b → sS s102 b := (fun b h0 => hm2.1 b (hS98 b h0))
    have hS106 : ∀ b, a1 = some b → sS s102 b := (fun b h0 => hm2.1 b (hS99 b h0))
    have hS107 : ∀ b, a4 = some b → sS s102 b := (fun b h0 => hm2.1 b (hS100 b h0))
    have hS108 : ∀ b, v6 = some b → sS s102 b := (fun b h0 => hm2.1 b (hS101 b h0))
    have hm := hm.ta hm2
    refine W_narrow hg hH (show sz s102 ≤ sz σ + (sz s102 - sz σ) by have q1 := hm.2.1; omega) (Nat.le_refl _) ?_
    refine W.widen (k := tp - sz σ) (n := 9 * (tp - sz σ)) (show sz s102 - sz σ ≤ _ by have q1 := hm.2.2; omega) (show 9 * (sz s102 - sz σ) ≤ _ by have q1 := hm.2.2; omega) ?_
    exact ret_r hx hb hr hlocks hg hz104 hm h dX2_turnedRight_158
  have J79 : ∀ (v6 : Option Nat) (sL : SS) (H : Heap) (locs : List Loc) (ls : Array Slot), (∀ b, v6 = some b → sS sL b) → GS E sL s H locs → Mo tp σ sL → lv_has ls 9 [(0, .ref (ea E 1)), (1, va_rf (a1)), (2, .int (iI (a2))), (3, .int (iI (a3))), (4, va_rf (a4)), (6, va_rf (v6))] → wX2_turnedRight_L79 tp a1 a2 a3 a4 Q  v6 sL → W p l e (headSpec wsX2_turnedRight ({ frames := 3, cells := tp - sz σ, slots := 9 * (tp - sz σ), locals := 85 } : Room)).room s m (List.toArray [.ref (ea E 1), va_rf (a1), .int (iI (a2)), .int (iI (a3)), va_rf (a4)]) below meth c H locs (sz sL - sz σ) (9 * (sz sL - sz σ)) (MQ below (Qr E tp σ Q) (List.toArray [.ref (ea E 1), va_rf (a1), .int (iI (a2)), .int (iI (a3)), va_rf (a4)]) s (tp - sz σ) (9 * (tp - sz σ)) (Av E)) (F0 m 79 ls []) := by
    intro v6 sL H locs ls mv6 hg hm hl h
    rw [wX2_turnedRight_L79] at h
    refine lv_aload_n hx hb dX2_turnedRight_79 rfl (lv_at hl 0 rfl) ?_
    refine q_aload_n hx hb dX2_turnedRight_80 rfl (lv_at hl 1 rfl) ?_
    obtain ⟨b60, c61, h⟩ := h
    refine q_ngetr_o c61 hx hb hts (fun _ h9 => List.mem_cons_of_mem _ (List.mem_append_left _ (List.mem_append_right _ h9))) hown hK hg ((fun b h0 => hm.1 b (ha1 b h0)) b60 c61) 4 (by decide) (hts (.fieldLink RX2 37 "JoinMaps$Node" "left" "LJoinMaps$Node;") (List.mem_cons_of_mem _ (List.mem_append_left _ (List.mem_append_left _ (List.mem_append_left _ (List.mem_of_getElem? (i := 1) rfl)))))) rfl rfl dX2_turnedRight_81 ?_
    have hS62 : ∀ b, (sf sL (b60 + 64) 4) = some b → sS sL b := fun b h0 => GS_F hg h0
    refine q_aload_n hx hb dX2_turnedRight_84 rfl (lv_at hl 1 rfl) ?_
    refine q_ngeti_o c61 hx hb hts (fun _ h9 => List.mem_cons_of_mem _ (List.mem_append_left _ (List.mem_append_right _ h9))) hown hK hg ((fun b h0 => hm.1 b (ha1 b h0)) b60 c61) 0 (by decide) (hts (.fieldLink RX2 31 "JoinMaps$Node" "key" "I") (List.mem_cons_of_mem _ (List.mem_append_left _ (List.mem_append_left _ (List.mem_append_left _ (List.mem_of_getElem? (i := 2) rfl)))))) rfl rfl dX2_turnedRight_85 ?_
    have hR63 := GS_R hg (b60 + 64) 0
    refine q_aload_n hx hb dX2_turnedRight_88 rfl (lv_at hl 1 rfl) ?_
    refine q_ngeti_o c61 hx hb hts (fun _ h9 => List.mem_cons_of_mem _ (List.mem_append_left _ (List.mem_append_right _ h9))) hown hK hg ((fun b h0 => hm.1 b (ha1 b h0)) b60 c61) 1 (by decide) (hts (.fieldLink RX2 34 "JoinMaps$Node" "value" "I") (List.mem_cons_of_mem _ (List.mem_append_left _ (List.mem_append_left _ (List.mem_append_left _ (List.mem_of_getElem? (i := 3) rfl)))))) rfl rfl dX2_turnedRight_89 ?_
    have hR64 := GS_R hg (b60 + 64) 1
    refine lv_aload_n hx hb dX2_turnedRight_92 rfl (lv_at hl 0 rfl) ?_
    refine q_aload hx hb dX2_turnedRight_93 (lv_at hl 5 rfl) ?_
    refine lv_iload_n hx hb dX2_turnedRight_95 rfl (lv_at hl 2 rfl) ?_
    refine lv_iload_n hx hb dX2_turnedRight_96 rfl (lv_at hl 3 rfl) ?_
    refine q_aload hx hb dX2_turnedRight_97 (lv_at hl 4 rfl) ?_
    refine call_r (run_V (a := ea E 1) (As := [va_rf (v6), .int (iI (a2)), .int (iI (a3)), va_rf (a4)]) (rest := [.int (iI ((sn sL (b60 + 64) 1))), .int (iI ((sn sL (b60 + 64) 0))), va_rf ((sf sL (b60 + 64) 4)), .ref (ea E 1)]) ⟨hx, hb, hml, hown, hts⟩ (ctX2_node l E tp v6 a2 a3 a4 sL _ mv6 ha2 ha3 (fun b h0 => hm.1 b (ha4 b h0)) hm.2.2 h) (cwV 4 hts gX2_turnedRight_X2_node rfl rfl rfl ⟨rfl, hdX2_node⟩ ⟨Nat.le_of_ble_eq_true rfl, Nat.le_of_ble_eq_true rfl⟩) hK hN hg (recv_x (ci := 2) (C := RX2) (T := TX2) (N := 4) hg hK (by decide) rfl (by decide) rfl) rfl hl.1 rfl (cat_sum _ (by simp)) dX2_turnedRight_99 (show (sz sL - sz σ) + (tp - sz sL) ≤ tp - sz σ ∧ 9 * (sz sL - sz σ) + 9 * (tp - sz sL) ≤ 9 * (tp - sz σ) by have q1 := hm.2.1; have q2 := hm.2.2; omega)) hg (fun r66 s65 H locs hz67 hm2 h hg => ?_)
    have hS68 : ∀ b, a1 = some b → sS s65 b := (fun b h0 => hm2.1 b ((fun b h0 => hm.1 b (ha1 b h0)) b h0))
    have hS69 : ∀ b, a4 = some b → sS s65 b := (fun b h0 => hm2.1 b ((fun b h0 => hm.1 b (ha4 b h0)) b h0))
    have hS70 : ∀ b, v6 = some b → sS s65 b := (fun b h0 => hm2.1 b (mv6 b h0))
    have hS71 : ∀ b, (sf sL (b60 + 64) 4) = some b → sS s65 b := (fun b h0 => hm2.1 b (hS62 b h0))
    have hm := hm.ta hm2
    refine W_narrow hg hH (show sz s65 ≤ sz σ + (sz s65 - sz σ) by have q1 := hm.2.1; omega) (Nat.le_refl _) ?_
    refine call_r (run_V (a := ea E 1) (As := [va_rf ((sf sL (b60 + 64) 4)), .int (iI ((sn sL (b60 + 64) 0))), .int (iI ((sn sL (b60 + 64) 1))), va_rf (r66)]) (rest := []) ⟨hx, hb, hml, hown, hts⟩ (ctX2_node l E tp (sf sL (b60 + 64) 4) (sn sL (b60 + 64) 0) (sn sL (b60 + 64) 1) r66 s65 _ hS71 hR63 hR64 hz67 hm.2.2 h) (cwV 4 hts gX2_turnedRight_X2_node rfl rfl rfl ⟨rfl, hdX2_node⟩ ⟨Nat.le_of_ble_eq_true rfl, Nat.le_of_ble_eq_true rfl⟩) hK hN hg (recv_x (ci := 2) (C := RX2) (T := TX2) (N := 4) hg hK (by decide) rfl (by decide) rfl) rfl hl.1 rfl (cat_sum _ (by simp)) dX2_turnedRight_102 (show (sz s65 - sz σ) + (tp - sz s65) ≤ tp - sz σ ∧ 9 * (sz s65 - sz σ) + 9 * (tp - sz s65) ≤ 9 * (tp - sz σ) by have q1 := hm.2.1; have q2 := hm.2.2; omega)) hg (fun r73 s72 H locs hz74 hm2 h hg => ?_)
    have hS75 : ∀ b, a1 = some b → sS s72 b := (fun b h0 => hm2.1 b (hS68 b h0))
    have hS76 : ∀ b, a4 = some b → sS s72 b := (fun b h0 => hm2.1 b (hS69 b h0))
    have hS77 : ∀ b, v6 = some b → sS s72 b := (fun b h0 => hm2.1 b (hS70 b h0))
    have hm := hm.ta hm2
    refine W_narrow hg hH (show sz s72 ≤ sz σ + (sz s72 - sz σ) by have q1 := hm.2.1; omega) (Nat.le_refl _) ?_
    refine W.widen (k := tp - sz σ) (n := 9 * (tp - sz σ)) (show sz s72 - sz σ ≤ _ by have q1 := hm.2.2; omega) (show 9 * (sz s72 - sz σ) ≤ _ by have q1 := hm.2.2; omega) ?_
    exact ret_r hx hb hr hlocks hg hz74 hm h dX2_turnedRight_105
  refine q_aload hx hb dX2_turnedRight_0 (lv_at hl 4 rfl) ?_
  refine call_i (run_S (As := [va_rf (a4)]) (rest := []) ⟨hx, hb, hml, hown, hts⟩ (ctX3_weightOf l E a4 σ _ ha4 h) (va_cwS 1 hts gX2_turnedRight_X3_weightOf rfl rfl rfl hdX3_weightOf ⟨Nat.le_of_ble_eq_true rfl, Nat.le_of_ble_eq_true rfl⟩) hK hN hg rfl hl.1 rfl (cat_sum _ (by simp)) dX2_turnedRight_2 (show (sz σ - sz σ) + 0 ≤ tp - sz σ ∧ 9 * (sz σ - sz σ) + 0 ≤ 9 * (tp - sz σ) by have q1 := hm.2.1; have q2 := hm.2.2; omega)) hg (fun r2 s1 H locs hz3 hm2 h hg => ?_)
  have hS4 : ∀ b, a1 = some b → sS s1 b := (fun b h0 => hm2.1 b (ha1 b h0))
  have hS5 : ∀ b, a4 = some b → sS s1 b := (fun b h0 => hm2.1 b (ha4 b h0))
  have hm := hm.tn hm2
  refine W_narrow hg hH (show sz s1 ≤ sz σ + (sz s1 - sz σ) by have q1 := hm.2.1; omega) (Nat.le_refl _) ?_
  refine lv_istore (i := 5) (lv' := [(5, .int (iI (r2))), (0, .ref (ea E 1)), (1, va_rf (a1)), (2, .int (iI (a2))), (3, .int (iI (a3))), (4, va_rf (a4))]) hx hb dX2_turnedRight_5 hl (by decide) (by simp [List.filter_cons, rf_cat, ct_i, ct_l, ct_x]) (fun ls hl => ?_)
  refine q_aload_n hx hb dX2_turnedRight_7 rfl (lv_at hl 2 rfl) ?_
  refine j_null (tgt := 23) hx hb dX2_turnedRight_8 (by decide) (fun c6 => ?_) (fun b7 c6 => ?_)
  · have h := h.1 c6
    refine lv_aload_n hx hb dX2_turnedRight_23 rfl (lv_at hl 1 rfl) ?_
    refine q_aload_n hx hb dX2_turnedRight_24 rfl (lv_at hl 2 rfl) ?_
    refine lv_iload_n hx hb dX2_turnedRight_25 rfl (lv_at hl 3 rfl) ?_
    refine lv_iload_n hx hb dX2_turnedRight_26 rfl (lv_at hl 4 rfl) ?_
    refine q_aload hx hb dX2_turnedRight_27 (lv_at hl 5 rfl) ?_
    refine call_r (run_V (a := ea E 1) (As := [va_rf (a1), .int (iI (a2)), .int (iI (a3)), va_rf (a4)]) (rest := []) ⟨hx, hb, hml, hown, hts⟩ (ctX2_node l E tp a1 a2 a3 a4 s1 _ hS4 ha2 ha3 hS5 hm.2.2 h) (cwV 4 hts gX2_turnedRight_X2_node rfl rfl rfl ⟨rfl, hdX2_node⟩ ⟨Nat.le_of_ble_eq_true rfl, Nat.le_of_ble_eq_true rfl⟩) hK hN hg (recv_x (ci := 2) (C := RX2) (T := TX2) (N := 4) hg hK (by decide) rfl (by decide) rfl) rfl hl.1 rfl (cat_sum _ (by simp)) dX2_turnedRight_29 (show (sz s1 - sz σ) + (tp - sz s1) ≤ tp - sz σ ∧ 9 * (sz s1 - sz σ) + 9 * (tp - sz s1) ≤ 9 * (tp - sz σ) by have q1 := hm.2.1; have q2 := hm.2.2; omega)) hg (fun r9 s8 H locs hz10 hm2 h hg => ?_)
    have hS11 : ∀ b, a1 = some b → sS s8 b := (fun b h0 => hm2.1 b (hS4 b h0))
    have hS12 : ∀ b, a4 = some b → sS s8 b := (fun b h0 => hm2.1 b (hS5 b h0))
    have hm := hm.ta hm2
    refine W_narrow hg hH (show sz s8 ≤ sz σ + (sz s8 - sz σ) by have q1 := hm.2.1; omega) (Nat.le_refl _) ?_
    refine W.widen (k := tp - sz σ) (n := 9 * (tp - sz σ)) (show sz s8 - sz σ ≤ _ by have q1 := hm.2.2; omega) (show 9 * (sz s8 - sz σ) ≤ _ by have q1 := hm.2.2; omega) ?_
    exact ret_r hx hb hr hlocks hg hz10 hm h dX2_turnedRight_32
  · have h := h.2 b7 c6
    refine lv_iload hx hb dX2_turnedRight_11 (lv_at hl 0 rfl) ?_
    refine q_aload_n hx hb dX2_turnedRight_13 rfl (lv_at hl 2 rfl) ?_
    refine call_i (run_S (As := [va_rf (a1)]) (rest := [.int (iI (r2))]) ⟨hx, hb, hml, hown, hts⟩ (ctX3_weightOf l E a1 s1 _ hS4 h) (va_cwS 1 hts gX2_turnedRight_X3_weightOf rfl rfl rfl hdX3_weightOf ⟨Nat.le_of_ble_eq_true rfl, Nat.le_of_ble_eq_true rfl⟩) hK hN hg rfl hl.1 rfl (cat_sum _ (by simp)) dX2_turnedRight_14 (show (sz s1 - sz σ) + 0 ≤ tp - sz σ ∧ 9 * (sz s1 - sz σ) + 0 ≤ 9 * (tp - sz σ) by have q1 := hm.2.1; have q2 := hm.2.2; omega)) hg (fun r14 s13 H locs hz15 hm2 h hg => ?_)
    have hS16 : ∀ b, a1 = some b → sS s13 b := (fun b h0 => hm2.1 b (hS4 b h0))
    have hS17 : ∀ b, a4 = some b → sS s13 b := (fun b h0 => hm2.1 b (hS5 b h0))
    have hm := hm.tn hm2
    refine W_narrow hg hH (show sz s13 ≤ sz σ + (sz s13 - sz σ) by have q1 := hm.2.1; omega) (Nat.le_refl _) ?_
    refine call_z (run_S (As := [.int (iI (r2)), .int (iI (r14))]) (rest := []) ⟨hx, hb, hml, hown, hts⟩ (ctX2_isBalanced l E r2 r14 s13 _ hz3 hz15 h) (va_cwS 2 hts gX2_turnedRight_X2_isBalanced rfl rfl rfl hdX2_isBalanced ⟨Nat.le_of_ble_eq_true rfl, Nat.le_of_ble_eq_true rfl⟩) hK hN hg rfl hl.1 rfl (cat_sum _ (by simp)) dX2_turnedRight_17 (show (sz s13 - sz σ) + 0 ≤ tp - sz σ ∧ 9 * (sz s13 - sz σ) + 0 ≤ 9 * (tp - sz σ) by have q1 := hm.2.1; have q2 := hm.2.2; omega)) hg (fun r19 s18 H locs hz20 hm2 h hg => ?_)
    have hS21 : ∀ b, a1 = some b → sS s18 b := (fun b h0 => hm2.1 b (hS16 b h0))
    have hS22 : ∀ b, a4 = some b → sS s18 b := (fun b h0 => hm2.1 b (hS17 b h0))
    have hm := hm.tn hm2
    refine W_narrow hg hH (show sz s18 ≤ sz σ + (sz s18 - sz σ) by have q1 := hm.2.1; omega) (Nat.le_refl _) ?_
    refine k_eq (tgt := 33) hx hb dX2_turnedRight_20 (by decide) (z_R hz20) (fun c23 => ?_) (fun c23 => ?_)
    · have h := h.1 c23
      refine q_aload_n hx hb dX2_turnedRight_33 rfl (lv_at hl 2 rfl) ?_
      refine q_ngetr_o c6 hx hb hts (fun _ h9 => List.mem_cons_of_mem _ (List.mem_append_left _ (List.mem_append_right _ h9))) hown hK hg (hS21 b7 c6) 5 (by decide) (hts (.fieldLink RX2 40 "JoinMaps$Node" "right" "LJoinMaps$Node;") (List.mem_cons_of_mem _ (List.mem_append_left _ (List.mem_append_left _ (List.mem_append_left _ (List.mem_of_getElem? (i := 0) rfl)))))) rfl rfl dX2_turnedRight_34 ?_
      have hS24 : ∀ b, (sf s18 (b7 + 64) 5) = some b → sS s18 b := fun b h0 => GS_F hg h0
      refine q_astore (i := 6) (lv' := [(6, va_rf ((sf s18 (b7 + 64) 5))), (5, .int (iI (r2))), (0, .ref (ea E 1)), (1, va_rf (a1)), (2, .int (iI (a2))), (3, .int (iI (a3))), (4, va_rf (a4))]) hx hb dX2_turnedRight_37 hl (by decide) (by simp [List.filter_cons, rf_cat, ct_i, ct_l, ct_x]) (fun ls hl => ?_)
      refine q_aload hx hb dX2_turnedRight_39 (lv_at hl 0 rfl) ?_
      refine call_i (run_S (As := [va_rf ((sf s18 (b7 + 64) 5))]) (rest := []) ⟨hx, hb, hml, hown, hts⟩ (ctX3_weightOf l E (sf s18 (b7 + 64) 5) s18 _ hS24 h) (va_cwS 1 hts gX2_turnedRight_X3_weightOf rfl rfl rfl hdX3_weightOf ⟨Nat.le_of_ble_eq_true rfl, Nat.le_of_ble_eq_true rfl⟩) hK hN hg rfl hl.1 rfl (cat_sum _ (by simp)) dX2_turnedRight_41 (show (sz s18 - sz σ) + 0 ≤ tp - sz σ ∧ 9 * (sz s18 - sz σ) + 0 ≤ 9 * (tp - sz σ) by have q1 := hm.2.1; have q2 := hm.2.2; omega)) hg (fun r26 s25 H locs hz27 hm2 h hg => ?_)
      have hS28 : ∀ b, (sf s18 (b7 + 64) 5) = some b → sS s25 b := (fun b h0 => hm2.1 b (hS24 b h0))
      have hS29 : ∀ b, a1 = some b → sS s25 b := (fun b h0 => hm2.1 b (hS21 b h0))
      have hS30 : ∀ b, a4 = some b → sS s25 b := (fun b h0 => hm2.1 b (hS22 b h0))
      have hm := hm.tn hm2
      refine W_narrow hg hH (show sz s25 ≤ sz σ + (sz s25 - sz σ) by have q1 := hm.2.1; omega) (Nat.le_refl _) ?_
      refine lv_istore (i := 7) (lv' := [(7, .int (iI (r26))), (6, va_rf ((sf s18 (b7 + 64) 5))), (5, .int (iI (r2))), (0, .ref (ea E 1)), (1, va_rf (a1)), (2, .int (iI (a2))), (3, .int (iI (a3))), (4, va_rf (a4))]) hx hb dX2_turnedRight_44 hl (by decide) (by simp [List.filter_cons, rf_cat, ct_i, ct_l, ct_x]) (fun ls hl => ?_)
      refine q_aload hx hb dX2_turnedRight_46 (lv_at hl 1 rfl) ?_
      refine j_null (tgt := 79) hx hb dX2_turnedRight_48 (by decide) (fun c31 => ?_) (fun b32 c31 => ?_)
      · have h := h.1 c31
        exact J79  ((sf s18 (b7 + 64) 5)) (s25) _ _ _ hS28 hg hm (lv_sub hl [3, 4, 5, 6, 7, 1] rfl) h
      · have h := h.2 b32 c31
        refine lv_iload hx hb dX2_turnedRight_51 (lv_at hl 2 rfl) ?_
        refine lv_iload hx hb dX2_turnedRight_53 (lv_at hl 0 rfl) ?_
        refine call_z (run_S (As := [.int (iI (r2)), .int (iI (r26))]) (rest := []) ⟨hx, hb, hml, hown, hts⟩ (ctX2_isBalanced l E r2 r26 s25 _ hz3 hz27 h) (va_cwS 2 hts gX2_turnedRight_X2_isBalanced rfl rfl rfl hdX2_isBalanced ⟨Nat.le_of_ble_eq_true rfl, Nat.le_of_ble_eq_true rfl⟩) hK hN hg rfl hl.1 rfl (cat_sum _ (by simp)) dX2_turnedRight_55 (show (sz s25 - sz σ) + 0 ≤ tp - sz σ ∧ 9 * (sz s25 - sz σ) + 0 ≤ 9 * (tp - sz σ) by have q1 := hm.2.1; have q2 := hm.2.2; omega)) hg (fun r34 s33 H locs hz35 hm2 h hg => ?_)
        have hS36 : ∀ b, (sf s18 (b7 + 64) 5) = some b → sS s33 b := (fun b h0 => hm2.1 b (hS28 b h0))
        have hS37 : ∀ b, a1 = some b → sS s33 b := (fun b h0 => hm2.1 b (hS29 b h0))
        have hS38 : ∀ b, a4 = some b → sS s33 b := (fun b h0 => hm2.1 b (hS30 b h0))
        have hm := hm.tn hm2
        refine W_narrow hg hH (show sz s33 ≤ sz σ + (sz s33 - sz σ) by have q1 := hm.2.1; omega) (Nat.le_refl _) ?_
        refine k_eq (tgt := 106) hx hb dX2_turnedRight_58 (by decide) (z_R hz35) (fun c39 => ?_) (fun c39 => ?_)
        · have h := h.1 c39
          exact J106  ((sf s18 (b7 + 64) 5)) (s33) _ _ _ hS36 hg hm (lv_sub hl [3, 4, 5, 6, 7, 1] rfl) h
        · have h := h.2 c39
          refine lv_iload hx hb dX2_turnedRight_61 (lv_at hl 2 rfl) ?_
          refine lv_iload hx hb dX2_turnedRight_63 (lv_at hl 0 rfl) ?_
          refine q_iadd hx hb dX2_turnedRight_65 ?_
          refine q_aload_n hx hb dX2_turnedRight_66 rfl (lv_at hl 4 rfl) ?_
          refine q_ngetr_o c6 hx hb hts (fun _ h9 => List.mem_cons_of_mem _ (List.mem_append_left _ (List.mem_append_right _ h9))) hown hK hg (hS37 b7 c6) 4 (by decide) (hts (.fieldLink RX2 37 "JoinMaps$Node" "left" "LJoinMaps$Node;") (List.mem_cons_of_mem _ (List.mem_append_left _ (List.mem_append_left _ (List.mem_append_left _ (List.mem_of_getElem? (i := 1) rfl)))))) rfl rfl dX2_turnedRight_67 ?_
          have hS40 : ∀ b, (sf s33 (b7 + 64) 4) = some b → sS s33 b := fun b h0 => GS_F hg h0
          refine call_i (run_S (As := [va_rf ((sf s33 (b7 + 64) 4))]) (rest := [.int (iI ((r2 + r26)))]) ⟨hx, hb, hml, hown, hts⟩ (ctX3_weightOf l E (sf s33 (b7 + 64) 4) s33 _ hS40 h) (va_cwS 1 hts gX2_turnedRight_X3_weightOf rfl rfl rfl hdX3_weightOf ⟨Nat.le_of_ble_eq_true rfl, Nat.le_of_ble_eq_true rfl⟩) hK hN hg rfl hl.1 rfl (cat_sum _ (by simp)) dX2_turnedRight_70 (show (sz s33 - sz σ) + 0 ≤ tp - sz σ ∧ 9 * (sz s33 - sz σ) + 0 ≤ 9 * (tp - sz σ) by have q1 := hm.2.1; have q2 := hm.2.2; omega)) hg (fun r42 s41 H locs hz43 hm2 h hg => ?_)
          have hS44 : ∀ b, (sf s18 (b7 + 64) 5) = some b → sS s41 b := (fun b h0 => hm2.1 b (hS36 b h0))
          have hS45 : ∀ b, a1 = some b → sS s41 b := (fun b h0 => hm2.1 b (hS37 b h0))
          have hS46 : ∀ b, a4 = some b → sS s41 b := (fun b h0 => hm2.1 b (hS38 b h0))
          have hm := hm.tn hm2
          refine W_narrow hg hH (show sz s41 ≤ sz σ + (sz s41 - sz σ) by have q1 := hm.2.1; omega) (Nat.le_refl _) ?_
          obtain ⟨hR47, h⟩ := h
          refine call_z (run_S (As := [.int (iI ((r2 + r26))), .int (iI (r42))]) (rest := []) ⟨hx, hb, hml, hown, hts⟩ (ctX2_isBalanced l E (r2 + r26) r42 s41 _ hR47 hz43 h) (va_cwS 2 hts gX2_turnedRight_X2_isBalanced rfl rfl rfl hdX2_isBalanced ⟨Nat.le_of_ble_eq_true rfl, Nat.le_of_ble_eq_true rfl⟩) hK hN hg rfl hl.1 rfl (cat_sum _ (by simp)) dX2_turnedRight_73 (show (sz s41 - sz σ) + 0 ≤ tp - sz σ ∧ 9 * (sz s41 - sz σ) + 0 ≤ 9 * (tp - sz σ) by have q1 := hm.2.1; have q2 := hm.2.2; omega)) hg (fun r49 s48 H locs hz50 hm2 h hg => ?_)
          have hS51 : ∀ b, (sf s18 (b7 + 64) 5) = some b → sS s48 b := (fun b h0 => hm2.1 b (hS44 b h0))
          have hS52 : ∀ b, a1 = some b → sS s48 b := (fun b h0 => hm2.1 b (hS45 b h0))
          have hS53 : ∀ b, a4 = some b → sS s48 b := (fun b h0 => hm2.1 b (hS46 b h0))
          have hm := hm.tn hm2
          refine W_narrow hg hH (show sz s48 ≤ sz σ + (sz s48 - sz σ) by have q1 := hm.2.1; omega) (Nat.le_refl _) ?_
          refine k_eq (tgt := 106) hx hb dX2_turnedRight_76 (by decide) (z_R hz50) (fun c54 => ?_) (fun c54 => ?_)
          · have h := h.1 c54
            exact J106  ((sf s18 (b7 + 64) 5)) (s48) _ _ _ hS51 hg hm (lv_sub hl [3, 4, 5, 6, 7, 1] rfl) h
          · have h := h.2 c54
            exact J79  ((sf s18 (b7 + 64) 5)) (s48) _ _ _ hS51 hg hm (lv_sub hl [3, 4, 5, 6, 7, 1] rfl) h
    · have h := h.2 c23
      refine lv_aload_n hx hb dX2_turnedRight_23 rfl (lv_at hl 1 rfl) ?_
      refine q_aload_n hx hb dX2_turnedRight_24 rfl (lv_at hl 2 rfl) ?_
      refine lv_iload_n hx hb dX2_turnedRight_25 rfl (lv_at hl 3 rfl) ?_
      refine lv_iload_n hx hb dX2_turnedRight_26 rfl (lv_at hl 4 rfl) ?_
      refine q_aload hx hb dX2_turnedRight_27 (lv_at hl 5 rfl) ?_
      refine call_r (run_V (a := ea E 1) (As := [va_rf (a1), .int (iI (a2)), .int (iI (a3)), va_rf (a4)]) (rest := []) ⟨hx, hb, hml, hown, hts⟩ (ctX2_node l E tp a1 a2 a3 a4 s18 _ hS21 ha2 ha3 hS22 hm.2.2 h) (cwV 4 hts gX2_turnedRight_X2_node rfl rfl rfl ⟨rfl, hdX2_node⟩ ⟨Nat.le_of_ble_eq_true rfl, Nat.le_of_ble_eq_true rfl⟩) hK hN hg (recv_x (ci := 2) (C := RX2) (T := TX2) (N := 4) hg hK (by decide) rfl (by decide) rfl) rfl hl.1 rfl (cat_sum _ (by simp)) dX2_turnedRight_29 (show (sz s18 - sz σ) + (tp - sz s18) ≤ tp - sz σ ∧ 9 * (sz s18 - sz σ) + 9 * (tp - sz s18) ≤ 9 * (tp - sz σ) by have q1 := hm.2.1; have q2 := hm.2.2; omega)) hg (fun r56 s55 H locs hz57 hm2 h hg => ?_)
      have hS58 : ∀ b, a1 = some b → sS s55 b := (fun b h0 => hm2.1 b (hS21 b h0))
      have hS59 : ∀ b, a4 = some b → sS s55 b := (fun b h0 => hm2.1 b (hS22 b h0))
      have hm := hm.ta hm2
      refine W_narrow hg hH (show sz s55 ≤ sz σ + (sz s55 - sz σ) by have q1 := hm.2.1; omega) (Nat.le_refl _) ?_
      refine W.widen (k := tp - sz σ) (n := 9 * (tp - sz σ)) (show sz s55 - sz σ ≤ _ by have q1 := hm.2.2; omega) (show 9 * (sz s55 - sz σ) ≤ _ by have q1 := hm.2.2; omega) ?_
      exact ret_r hx hb hr hlocks hg hz57 hm h dX2_turnedRight_32
theorem hdX2_join : yX2_join.cls ≠ "java/lang/invoke/MethodHandle" ∧ yX2_join.cls ≠ "java/lang/invoke/VarHandle" ∧ (parseMethodDescriptor yX2_join.desc).map (fun d => d.parameters.length) = some 5 := by decide +kernel
set_option maxRecDepth 100000 in
set_option maxHeartbeats 4000000 in
theorem ctX2_join (l : Launch) (E : Ev) : ∀ (d : Nat) (tp : Nat) (a1 : Option Nat) (a2 : Int) (a3 : Int) (a4 : Option Nat) (a5 : Int) (σ : SS) (Q : Option Nat → SS → Prop) (ha1 : ∀ b, a1 = some b → sS σ b) (ha2 : R32 a2) (ha3 : R32 a3) (ha4 : ∀ b, a4 = some b → sS σ b) (ha5 : R32 a5) (ht : sz σ ≤ tp) (h : wX2_join d tp a1 a2 a3 a4 a5 σ Q), Met l yX2_join wsX2_join ({ frames := 4 + d, cells := tp - sz σ, slots := 9 * (tp - sz σ), locals := 113 + d * 27 } : Room) (Pc E σ [.ref (ea E 1), va_rf (a1), .int (iI (a2)), .int (iI (a3)), va_rf (a4), .int (iI (a5))]) (Qr E tp σ Q) (tp - sz σ) (9 * (tp - sz σ)) (Av E) := by
  intro d
  induction d with
  | zero => intro tp a1 a2 a3 a4 a5 σ Q ha1 ha2 ha3 ha4 ha5 ht h; exact False.elim h
  | succ d ih =>
  intro tp a1 a2 a3 a4 a5 σ Q ha1 ha2 ha3 ha4 ha5 ht h
  rw [wX2_join] at h
  refine Met.ofW (cc := cX2_join) (maxL := 8) (ret := (some (.object "JoinMaps$Node"))) (by decide) rfl ?_
  intro p e s m args below meth c s₁ B hml hv
  obtain ⟨rfl, hH, hK, hN⟩ := hv
  have hx := B.exec
  have hb := B.bytes
  have hr := B.returns
  have hts := atoms_spec (ws := wsX2_join) B.pre
  have hown : s.vm.findClass RX2 = some m.cls := findClass_of_methodNamed B.named
  have hlocks := B.notSynchronized
  have hg : GS E σ s s.heap [] := ⟨hH, va_S.rf⟩
  have hm : Mo tp σ σ := Mo.rf ht
  have hl := ent (vs := [.ref (ea E 1), va_rf (a1), .int (iI (a2)), .int (iI (a3)), va_rf (a4), .int (iI (a5))]) (n := 8) (cats_x (cats_r (cats_i (cats_i (cats_r (cats_i cats_nil)))))) (Nat.le_of_ble_eq_true rfl)
  rw [lg_entry_eq]
  generalize (lg_sl ([.ref (ea E 1), va_rf (a1), .int (iI (a2)), .int (iI (a3)), va_rf (a4), .int (iI (a5))]) ++ List.replicate (8 - (lg_sl ([.ref (ea E 1), va_rf (a1), .int (iI (a2)), .int (iI (a3)), va_rf (a4), .int (iI (a5))])).length) Slot.unset).toArray = ls at hl ⊢
  have hl : lv_has ls 8 [(0, .ref (ea E 1)), (1, va_rf (a1)), (2, .int (iI (a2))), (3, .int (iI (a3))), (4, va_rf (a4)), (5, .int (iI (a5)))] := hl
  refine W_narrow hg hH (show sz σ ≤ sz σ + (sz σ - sz σ) by omega) (show 9 * (sz σ - sz σ) ≤ 9 * (sz σ - sz σ) from Nat.le_refl _) ?_
  have J84 : ∀ (v6 : Int) (v7 : Int) (sL : SS) (H : Heap) (locs : List Loc) (ls : Array Slot), GS E sL s H locs → Mo tp σ sL → lv_has ls 8 [(0, .ref (ea E 1)), (1, va_rf (a1)), (2, .int (iI (a2))), (3, .int (iI (a3))), (4, va_rf (a4)), (5, .int (iI (a5))), (6, .int (iI (v6))), (7, .int (iI (v7)))] → wX2_join_L84 (wX2_join d) tp a1 a2 a3 a4 a5 Q  v6 v7 sL → W p l e (headSpec wsX2_join ({ frames := 4 + (d + 1), cells := tp - sz σ, slots := 9 * (tp - sz σ), locals := 113 + (d + 1) * 27 } : Room)).room s m (List.toArray [.ref (ea E 1), va_rf (a1), .int (iI (a2)), .int (iI (a3)), va_rf (a4), .int (iI (a5))]) below meth c H locs (sz sL - sz σ) (9 * (sz sL - sz σ)) (MQ below (Qr E tp σ Q) (List.toArray [.ref (ea E 1), va_rf (a1), .int (iI (a2)), .int (iI (a3)), va_rf (a4), .int (iI (a5))]) s (tp - sz σ) (9 * (tp - sz σ)) (Av E)) (F0 m 84 ls []) := by
    intro v6 v7 sL H locs ls hg hm hl h
    rw [wX2_join_L84] at h
    refine q_aload hx hb dX2_join_84 (lv_at hl 4 rfl) ?_
    refine j_null (tgt := 132) hx hb dX2_join_86 (by decide) (fun c47 => ?_) (fun b48 c47 => ?_)
    · have h := h.1 c47
      refine lv_aload_n hx hb dX2_join_132 rfl (lv_at hl 0 rfl) ?_
      refine q_aload_n hx hb dX2_join_133 rfl (lv_at hl 1 rfl) ?_
      refine lv_iload_n hx hb dX2_join_134 rfl (lv_at hl 2 rfl) ?_
      refine lv_iload_n hx hb dX2_join_135 rfl (lv_at hl 3 rfl) ?_
      refine q_aload hx hb dX2_join_136 (lv_at hl 4 rfl) ?_
      refine call_r (run_V (a := ea E 1) (As := [va_rf (a1), .int (iI (a2)), .int (iI (a3)), va_rf (a4)]) (rest := []) ⟨hx, hb, hml, hown, hts⟩ (ctX2_node l E tp a1 a2 a3 a4 sL _ (fun b h0 => hm.1 b (ha1 b h0)) ha2 ha3 (fun b h0 => hm.1 b (ha4 b h0)) hm.2.2 h) (cwV 4 hts gX2_join_X2_node rfl rfl rfl ⟨rfl, hdX2_node⟩ ⟨by show 2 + 1 ≤ 4 + (d + 1); omega, by show 8 + (6 + 11) + 60 ≤ 113 + (d + 1) * 27; omega⟩) hK hN hg (recv_x (ci := 2) (C := RX2) (T := TX2) (N := 4) hg hK (by decide) rfl (by decide) rfl) rfl hl.1 rfl (cat_sum _ (by simp)) dX2_join_138 (show (sz sL - sz σ) + (tp - sz sL) ≤ tp - sz σ ∧ 9 * (sz sL - sz σ) + 9 * (tp - sz sL) ≤ 9 * (tp - sz σ) by have q1 := hm.2.1; have q2 := hm.2.2; omega)) hg (fun r50 s49 H locs hz51 hm2 h hg => ?_)
      have hS52 : ∀ b, a1 = some b → sS s49 b := (fun b h0 => hm2.1 b ((fun b h0 => hm.1 b (ha1 b h0)) b h0))
      have hS53 : ∀ b, a4 = some b → sS s49 b := (fun b h0 => hm2.1 b ((fun b h0 => hm.1 b (ha4 b h0)) b h0))
      have hm := hm.ta hm2
      refine W_narrow hg hH (show sz s49 ≤ sz σ + (sz s49 - sz σ) by have q1 := hm.2.1; omega) (Nat.le_refl _) ?_
      refine W.widen (k := tp - sz σ) (n := 9 * (tp - sz σ)) (show sz s49 - sz σ ≤ _ by have q1 := hm.2.2; omega) (show 9 * (sz s49 - sz σ) ≤ _ by have q1 := hm.2.2; omega) ?_
      exact ret_r hx hb hr hlocks hg hz51 hm h dX2_join_141
    · have h := h.2 b48 c47
      refine lv_iload hx hb dX2_join_89 (lv_at hl 7 rfl) ?_
      refine lv_iload hx hb dX2_join_91 (lv_at hl 6 rfl) ?_
      obtain ⟨hR54, hR55, h⟩ := h
      refine j_le (tgt := 132) hx hb dX2_join_93 (by decide) hR54 hR55 (fun c56 => ?_) (fun c56 => ?_)
      · have h := h.1 c56
        refine lv_aload_n hx hb dX2_join_132 rfl (lv_at hl 0 rfl) ?_
        refine q_aload_n hx hb dX2_join_133 rfl (lv_at hl 1 rfl) ?_
        refine lv_iload_n hx hb dX2_join_134 rfl (lv_at hl 2 rfl) ?_
        refine lv_iload_n hx hb dX2_join_135 rfl (lv_at hl 3 rfl) ?_
        refine q_aload hx hb dX2_join_136 (lv_at hl 4 rfl) ?_
        refine call_r (run_V (a := ea E 1) (As := [va_rf (a1), .int (iI (a2)), .int (iI (a3)), va_rf (a4)]) (rest := []) ⟨hx, hb, hml, hown, hts⟩ (ctX2_node l E tp a1 a2 a3 a4 sL _ (fun b h0 => hm.1 b (ha1 b h0)) ha2 ha3 (fun b h0 => hm.1 b (ha4 b h0)) hm.2.2 h) (cwV 4 hts gX2_join_X2_node rfl rfl rfl ⟨rfl, hdX2_node⟩ ⟨by show 2 + 1 ≤ 4 + (d + 1); omega, by show 8 + (6 + 11) + 60 ≤ 113 + (d + 1) * 27; omega⟩) hK hN hg (recv_x (ci := 2) (C := RX2) (T := TX2) (N := 4) hg hK (by decide) rfl (by decide) rfl) rfl hl.1 rfl (cat_sum _ (by simp)) dX2_join_138 (show (sz sL - sz σ) + (tp - sz sL) ≤ tp - sz σ ∧ 9 * (sz sL - sz σ) + 9 * (tp - sz sL) ≤ 9 * (tp - sz σ) by have q1 := hm.2.1; have q2 := hm.2.2; omega)) hg (fun r58 s57 H locs hz59 hm2 h hg => ?_)
        have hS60 : ∀ b, a1 = some b → sS s57 b := (fun b h0 => hm2.1 b ((fun b h0 => hm.1 b (ha1 b h0)) b h0))
        have hS61 : ∀ b, a4 = some b → sS s57 b := (fun b h0 => hm2.1 b ((fun b h0 => hm.1 b (ha4 b h0)) b h0))
        have hm := hm.ta hm2
        refine W_narrow hg hH (show sz s57 ≤ sz σ + (sz s57 - sz σ) by have q1 := hm.2.1; omega) (Nat.le_refl _) ?_
        refine W.widen (k := tp - sz σ) (n := 9 * (tp - sz σ)) (show sz s57 - sz σ ≤ _ by have q1 := hm.2.2; omega) (show 9 * (sz s57 - sz σ) ≤ _ by have q1 := hm.2.2; omega) ?_
        exact ret_r hx hb hr hlocks hg hz59 hm h dX2_join_141
      · have h := h.2 c56
        refine lv_aload_n hx hb dX2_join_96 rfl (lv_at hl 0 rfl) ?_
        refine lv_aload_n hx hb dX2_join_97 rfl (lv_at hl 0 rfl) ?_
        refine q_aload_n hx hb dX2_join_98 rfl (lv_at hl 1 rfl) ?_
        refine lv_iload_n hx hb dX2_join_99 rfl (lv_at hl 2 rfl) ?_
        refine lv_iload_n hx hb dX2_join_100 rfl (lv_at hl 3 rfl) ?_
        refine q_aload hx hb dX2_join_101 (lv_at hl 4 rfl) ?_
        refine q_ngetr_o c47 hx hb hts (fun _ h9 => List.mem_cons_of_mem _ (List.mem_append_left _ (List.mem_append_right _ h9))) hown hK hg ((fun b h0 => hm.1 b (ha4 b h0)) b48 c47) 4 (by decide) (hts (.fieldLink RX2 37 "JoinMaps$Node" "left" "LJoinMaps$Node;") (List.mem_cons_of_mem _ (List.mem_append_left _ (List.mem_append_left _ (List.mem_append_left _ (List.mem_of_getElem? (i := 0) rfl)))))) rfl rfl dX2_join_103 ?_
        have hS62 : ∀ b, (sf sL (b48 + 64) 4) = some b → sS sL b := fun b h0 => GS_F hg h0
        refine lv_iload hx hb dX2_join_106 (lv_at hl 5 rfl) ?_
        refine lv_iconst (v := iI 1) hx hb dX2_join_108 (by decide) ?_
        refine q_iadd hx hb dX2_join_109 ?_
        obtain ⟨hR63, h⟩ := h
        refine call_r (run_V (a := ea E 1) (As := [va_rf (a1), .int (iI (a2)), .int (iI (a3)), va_rf ((sf sL (b48 + 64) 4)), .int (iI ((a5 + 1)))]) (rest := [.ref (ea E 1)]) ⟨hx, hb, hml, hown, hts⟩ (ih tp a1 a2 a3 (sf sL (b48 + 64) 4) (a5 + 1) sL _ (fun b h0 => hm.1 b (ha1 b h0)) ha2 ha3 hS62 hR63 hm.2.2 h) (cwV 5 hts gX2_join_X2_join rfl rfl rfl ⟨rfl, hdX2_join⟩ ⟨by show 4 + d + 1 ≤ 4 + (d + 1); omega, by show 8 + (8 + 11) + (113 + d * 27) ≤ 113 + (d + 1) * 27; omega⟩) hK hN hg (recv_x (ci := 2) (C := RX2) (T := TX2) (N := 4) hg hK (by decide) rfl (by decide) rfl) rfl hl.1 rfl (cat_sum _ (by simp)) dX2_join_110 (show (sz sL - sz σ) + (tp - sz sL) ≤ tp - sz σ ∧ 9 * (sz sL - sz σ) + 9 * (tp - sz sL) ≤ 9 * (tp - sz σ) by have q1 := hm.2.1; have q2 := hm.2.2; omega)) hg (fun r65 s64 H locs hz66 hm2 h hg => ?_)
        have hS67 : ∀ b, a1 = some b → sS s64 b := (fun b h0 => hm2.1 b ((fun b h0 => hm.1 b (ha1 b h0)) b h0))
        have hS68 : ∀ b, a4 = some b → sS s64 b := (fun b h0 => hm2.1 b ((fun b h0 => hm.1 b (ha4 b h0)) b h0))
        have hm := hm.ta hm2
        refine W_narrow hg hH (show sz s64 ≤ sz σ + (sz s64 - sz σ) by have q1 := hm.2.1; omega) (Nat.le_refl _) ?_
        refine q_aload hx hb dX2_join_113 (lv_at hl 4 rfl) ?_
        refine q_ngeti_o c47 hx hb hts (fun _ h9 => List.mem_cons_of_mem _ (List.mem_append_left _ (List.mem_append_right _ h9))) hown hK hg (hS68 b48 c47) 0 (by decide) (hts (.fieldLink RX2 31 "JoinMaps$Node" "key" "I") (List.mem_cons_of_mem _ (List.mem_append_left _ (List.mem_append_left _ (List.mem_append_left _ (List.mem_of_getElem? (i := 1) rfl)))))) rfl rfl dX2_join_115 ?_
        have hR69 := GS_R hg (b48 + 64) 0
        refine q_aload hx hb dX2_join_118 (lv_at hl 4 rfl) ?_
        refine q_ngeti_o c47 hx hb hts (fun _ h9 => List.mem_cons_of_mem _ (List.mem_append_left _ (List.mem_append_right _ h9))) hown hK hg (hS68 b48 c47) 1 (by decide) (hts (.fieldLink RX2 34 "JoinMaps$Node" "value" "I") (List.mem_cons_of_mem _ (List.mem_append_left _ (List.mem_append_left _ (List.mem_append_left _ (List.mem_of_getElem? (i := 2) rfl)))))) rfl rfl dX2_join_120 ?_
        have hR70 := GS_R hg (b48 + 64) 1
        refine q_aload hx hb dX2_join_123 (lv_at hl 4 rfl) ?_
        refine q_ngetr_o c47 hx hb hts (fun _ h9 => List.mem_cons_of_mem _ (List.mem_append_left _ (List.mem_append_right _ h9))) hown hK hg (hS68 b48 c47) 5 (by decide) (hts (.fieldLink RX2 40 "JoinMaps$Node" "right" "LJoinMaps$Node;") (List.mem_cons_of_mem _ (List.mem_append_left _ (List.mem_append_left _ (List.mem_append_left _ (List.mem_of_getElem? (i := 3) rfl)))))) rfl rfl dX2_join_125 ?_
        have hS71 : ∀ b, (sf s64 (b48 + 64) 5) = some b → sS s64 b := fun b h0 => GS_F hg h0
        refine call_r (run_V (a := ea E 1) (As := [va_rf (r65), .int (iI ((sn s64 (b48 + 64) 0))), .int (iI ((sn s64 (b48 + 64) 1))), va_rf ((sf s64 (b48 + 64) 5))]) (rest := []) ⟨hx, hb, hml, hown, hts⟩ (ctX2_turnedRight l E tp r65 (sn s64 (b48 + 64) 0) (sn s64 (b48 + 64) 1) (sf s64 (b48 + 64) 5) s64 _ hz66 hR69 hR70 hS71 hm.2.2 h) (cwV 4 hts gX2_join_X2_turnedRight rfl rfl rfl ⟨rfl, hdX2_turnedRight⟩ ⟨by show 3 + 1 ≤ 4 + (d + 1); omega, by show 8 + (9 + 11) + 85 ≤ 113 + (d + 1) * 27; omega⟩) hK hN hg (recv_x (ci := 2) (C := RX2) (T := TX2) (N := 4) hg hK (by decide) rfl (by decide) rfl) rfl hl.1 rfl (cat_sum _ (by simp)) dX2_join_128 (show (sz s64 - sz σ) + (tp - sz s64) ≤ tp - sz σ ∧ 9 * (sz s64 - sz σ) + 9 * (tp - sz s64) ≤ 9 * (tp - sz σ) by have q1 := hm.2.1; have q2 := hm.2.2; omega)) hg (fun r73 s72 H locs hz74 hm2 h hg => ?_)
        have hS75 : ∀ b, a1 = some b → sS s72 b := (fun b h0 => hm2.1 b (hS67 b h0))
        have hS76 : ∀ b, a4 = some b → sS s72 b := (fun b h0 => hm2.1 b (hS68 b h0))
        have hm := hm.ta hm2
        refine W_narrow hg hH (show sz s72 ≤ sz σ + (sz s72 - sz σ) by have q1 := hm.2.1; omega) (Nat.le_refl _) ?_
        refine W.widen (k := tp - sz σ) (n := 9 * (tp - sz σ)) (show sz s72 - sz σ ≤ _ by have q1 := hm.2.2; omega) (show 9 * (sz s72 - sz σ) ≤ _ by have q1 := hm.2.2; omega) ?_
        exact ret_r hx hb hr hlocks hg hz74 hm h dX2_join_131
  refine q_aload_n hx hb dX2_join_0 rfl (lv_at hl 1 rfl) ?_
  refine call_i (run_S (As := [va_rf (a1)]) (rest := []) ⟨hx, hb, hml, hown, hts⟩ (ctX3_weightOf l E a1 σ _ ha1 h) (va_cwS 1 hts gX2_join_X3_weightOf rfl rfl rfl hdX3_weightOf ⟨by show 1 + 1 ≤ 4 + (d + 1); omega, by show 8 + (1 + 11) + 20 ≤ 113 + (d + 1) * 27; omega⟩) hK hN hg rfl hl.1 rfl (cat_sum _ (by simp)) dX2_join_1 (show (sz σ - sz σ) + 0 ≤ tp - sz σ ∧ 9 * (sz σ - sz σ) + 0 ≤ 9 * (tp - sz σ) by have q1 := hm.2.1; have q2 := hm.2.2; omega)) hg (fun r2 s1 H locs hz3 hm2 h hg => ?_)
  have hS4 : ∀ b, a1 = some b → sS s1 b := (fun b h0 => hm2.1 b (ha1 b h0))
  have hS5 : ∀ b, a4 = some b → sS s1 b := (fun b h0 => hm2.1 b (ha4 b h0))
  have hm := hm.tn hm2
  refine W_narrow hg hH (show sz s1 ≤ sz σ + (sz s1 - sz σ) by have q1 := hm.2.1; omega) (Nat.le_refl _) ?_
  refine lv_istore (i := 6) (lv' := [(6, .int (iI (r2))), (0, .ref (ea E 1)), (1, va_rf (a1)), (2, .int (iI (a2))), (3, .int (iI (a3))), (4, va_rf (a4)), (5, .int (iI (a5)))]) hx hb dX2_join_4 hl (by decide) (by simp [List.filter_cons, rf_cat, ct_i, ct_l, ct_x]) (fun ls hl => ?_)
  refine q_aload hx hb dX2_join_6 (lv_at hl 5 rfl) ?_
  refine call_i (run_S (As := [va_rf (a4)]) (rest := []) ⟨hx, hb, hml, hown, hts⟩ (ctX3_weightOf l E a4 s1 _ hS5 h) (va_cwS 1 hts gX2_join_X3_weightOf rfl rfl rfl hdX3_weightOf ⟨by show 1 + 1 ≤ 4 + (d + 1); omega, by show 8 + (1 + 11) + 20 ≤ 113 + (d + 1) * 27; omega⟩) hK hN hg rfl hl.1 rfl (cat_sum _ (by simp)) dX2_join_8 (show (sz s1 - sz σ) + 0 ≤ tp - sz σ ∧ 9 * (sz s1 - sz σ) + 0 ≤ 9 * (tp - sz σ) by have q1 := hm.2.1; have q2 := hm.2.2; omega)) hg (fun r7 s6 H locs hz8 hm2 h hg => ?_)
  have hS9 : ∀ b, a1 = some b → sS s6 b := (fun b h0 => hm2.1 b (hS4 b h0))
  have hS10 : ∀ b, a4 = some b → sS s6 b := (fun b h0 => hm2.1 b (hS5 b h0))
  have hm := hm.tn hm2
  refine W_narrow hg hH (show sz s6 ≤ sz σ + (sz s6 - sz σ) by have q1 := hm.2.1; omega) (Nat.le_refl _) ?_
  refine lv_istore (i := 7) (lv' := [(7, .int (iI (r7))), (6, .int (iI (r2))), (0, .ref (ea E 1)), (1, va_rf (a1)), (2, .int (iI (a2))), (3, .int (iI (a3))), (4, va_rf (a4)), (5, .int (iI (a5)))]) hx hb dX2_join_11 hl (by decide) (by simp [List.filter_cons, rf_cat, ct_i, ct_l, ct_x]) (fun ls hl => ?_)
  refine lv_iload hx hb dX2_join_13 (lv_at hl 7 rfl) ?_
  refine lv_bipush (v := iI 40) hx hb dX2_join_15 (by decide) ?_
  refine j_gt (tgt := 30) hx hb dX2_join_17 (by decide) ha5 (by decide) (fun c11 => ?_) (fun c11 => ?_)
  · have h := h.1 c11
    refine lv_aload_n hx hb dX2_join_30 rfl (lv_at hl 2 rfl) ?_
    refine q_aload_n hx hb dX2_join_31 rfl (lv_at hl 3 rfl) ?_
    refine lv_iload_n hx hb dX2_join_32 rfl (lv_at hl 4 rfl) ?_
    refine lv_iload_n hx hb dX2_join_33 rfl (lv_at hl 5 rfl) ?_
    refine q_aload hx hb dX2_join_34 (lv_at hl 6 rfl) ?_
    refine call_r (run_V (a := ea E 1) (As := [va_rf (a1), .int (iI (a2)), .int (iI (a3)), va_rf (a4)]) (rest := []) ⟨hx, hb, hml, hown, hts⟩ (ctX2_node l E tp a1 a2 a3 a4 s6 _ hS9 ha2 ha3 hS10 hm.2.2 h) (cwV 4 hts gX2_join_X2_node rfl rfl rfl ⟨rfl, hdX2_node⟩ ⟨by show 2 + 1 ≤ 4 + (d + 1); omega, by show 8 + (6 + 11) + 60 ≤ 113 + (d + 1) * 27; omega⟩) hK hN hg (recv_x (ci := 2) (C := RX2) (T := TX2) (N := 4) hg hK (by decide) rfl (by decide) rfl) rfl hl.1 rfl (cat_sum _ (by simp)) dX2_join_36 (show (sz s6 - sz σ) + (tp - sz s6) ≤ tp - sz σ ∧ 9 * (sz s6 - sz σ) + 9 * (tp - sz s6) ≤ 9 * (tp - sz σ) by have q1 := hm.2.1; have q2 := hm.2.2; omega)) hg (fun r13 s12 H locs hz14 hm2 h hg => ?_)
    have hS15 : ∀ b, a1 = some b → sS s12 b := (fun b h0 => hm2.1 b (hS9 b h0))
    have hS16 : ∀ b, a4 = some b → sS s12 b := (fun b h0 => hm2.1 b (hS10 b h0))
    have hm := hm.ta hm2
    refine W_narrow hg hH (show sz s12 ≤ sz σ + (sz s12 - sz σ) by have q1 := hm.2.1; omega) (Nat.le_refl _) ?_
    refine W.widen (k := tp - sz σ) (n := 9 * (tp - sz σ)) (show sz s12 - sz σ ≤ _ by have q1 := hm.2.2; omega) (show 9 * (sz s12 - sz σ) ≤ _ by have q1 := hm.2.2; omega) ?_
    exact ret_r hx hb hr hlocks hg hz14 hm h dX2_join_39
  · have h := h.2 c11
    refine lv_iload hx hb dX2_join_20 (lv_at hl 1 rfl) ?_
    refine lv_iload hx hb dX2_join_22 (lv_at hl 0 rfl) ?_
    refine call_z (run_S (As := [.int (iI (r2)), .int (iI (r7))]) (rest := []) ⟨hx, hb, hml, hown, hts⟩ (ctX2_isBalanced l E r2 r7 s6 _ hz3 hz8 h) (va_cwS 2 hts gX2_join_X2_isBalanced rfl rfl rfl hdX2_isBalanced ⟨by show 0 + 1 ≤ 4 + (d + 1); omega, by show 8 + (2 + 11) + 0 ≤ 113 + (d + 1) * 27; omega⟩) hK hN hg rfl hl.1 rfl (cat_sum _ (by simp)) dX2_join_24 (show (sz s6 - sz σ) + 0 ≤ tp - sz σ ∧ 9 * (sz s6 - sz σ) + 0 ≤ 9 * (tp - sz σ) by have q1 := hm.2.1; have q2 := hm.2.2; omega)) hg (fun r18 s17 H locs hz19 hm2 h hg => ?_)
    have hS20 : ∀ b, a1 = some b → sS s17 b := (fun b h0 => hm2.1 b (hS9 b h0))
    have hS21 : ∀ b, a4 = some b → sS s17 b := (fun b h0 => hm2.1 b (hS10 b h0))
    have hm := hm.tn hm2
    refine W_narrow hg hH (show sz s17 ≤ sz σ + (sz s17 - sz σ) by have q1 := hm.2.1; omega) (Nat.le_refl _) ?_
    refine k_eq (tgt := 40) hx hb dX2_join_27 (by decide) (z_R hz19) (fun c22 => ?_) (fun c22 => ?_)
    · have h := h.1 c22
      refine q_aload_n hx hb dX2_join_40 rfl (lv_at hl 3 rfl) ?_
      refine j_null (tgt := 84) hx hb dX2_join_41 (by decide) (fun c23 => ?_) (fun b24 c23 => ?_)
      · have h := h.1 c23
        exact J84  (r2) (r7) (s17) _ _ _ hg hm (lv_sub hl [2, 3, 4, 5, 6, 7, 1, 0] rfl) h
      · have h := h.2 b24 c23
        refine lv_iload hx hb dX2_join_44 (lv_at hl 1 rfl) ?_
        refine lv_iload hx hb dX2_join_46 (lv_at hl 0 rfl) ?_
        refine j_le (tgt := 84) hx hb dX2_join_48 (by decide) hz3 hz8 (fun c25 => ?_) (fun c25 => ?_)
        · have h := h.1 c25
          exact J84  (r2) (r7) (s17) _ _ _ hg hm (lv_sub hl [2, 3, 4, 5, 6, 7, 1, 0] rfl) h
        · have h := h.2 c25
          refine lv_aload_n hx hb dX2_join_51 rfl (lv_at hl 2 rfl) ?_
          refine q_aload_n hx hb dX2_join_52 rfl (lv_at hl 3 rfl) ?_
          refine q_ngetr_o c23 hx hb hts (fun _ h9 => List.mem_cons_of_mem _ (List.mem_append_left _ (List.mem_append_right _ h9))) hown hK hg (hS20 b24 c23) 4 (by decide) (hts (.fieldLink RX2 37 "JoinMaps$Node" "left" "LJoinMaps$Node;") (List.mem_cons_of_mem _ (List.mem_append_left _ (List.mem_append_left _ (List.mem_append_left _ (List.mem_of_getElem? (i := 0) rfl)))))) rfl rfl dX2_join_53 ?_
          have hS26 : ∀ b, (sf s17 (b24 + 64) 4) = some b → sS s17 b := fun b h0 => GS_F hg h0
          refine q_aload_n hx hb dX2_join_56 rfl (lv_at hl 3 rfl) ?_
          refine q_ngeti_o c23 hx hb hts (fun _ h9 => List.mem_cons_of_mem _ (List.mem_append_left _ (List.mem_append_right _ h9))) hown hK hg (hS20 b24 c23) 0 (by decide) (hts (.fieldLink RX2 31 "JoinMaps$Node" "key" "I") (List.mem_cons_of_mem _ (List.mem_append_left _ (List.mem_append_left _ (List.mem_append_left _ (List.mem_of_getElem? (i := 1) rfl)))))) rfl rfl dX2_join_57 ?_
          have hR27 := GS_R hg (b24 + 64) 0
          refine q_aload_n hx hb dX2_join_60 rfl (lv_at hl 3 rfl) ?_
          refine q_ngeti_o c23 hx hb hts (fun _ h9 => List.mem_cons_of_mem _ (List.mem_append_left _ (List.mem_append_right _ h9))) hown hK hg (hS20 b24 c23) 1 (by decide) (hts (.fieldLink RX2 34 "JoinMaps$Node" "value" "I") (List.mem_cons_of_mem _ (List.mem_append_left _ (List.mem_append_left _ (List.mem_append_left _ (List.mem_of_getElem? (i := 2) rfl)))))) rfl rfl dX2_join_61 ?_
          have hR28 := GS_R hg (b24 + 64) 1
          refine lv_aload_n hx hb dX2_join_64 rfl (lv_at hl 2 rfl) ?_
          refine q_aload_n hx hb dX2_join_65 rfl (lv_at hl 3 rfl) ?_
          refine q_ngetr_o c23 hx hb hts (fun _ h9 => List.mem_cons_of_mem _ (List.mem_append_left _ (List.mem_append_right _ h9))) hown hK hg (hS20 b24 c23) 5 (by decide) (hts (.fieldLink RX2 40 "JoinMaps$Node" "right" "LJoinMaps$Node;") (List.mem_cons_of_mem _ (List.mem_append_left _ (List.mem_append_left _ (List.mem_append_left _ (List.mem_of_getElem? (i := 3) rfl)))))) rfl rfl dX2_join_66 ?_
          have hS29 : ∀ b, (sf s17 (b24 + 64) 5) = some b → sS s17 b := fun b h0 => GS_F hg h0
          refine lv_iload_n hx hb dX2_join_69 rfl (lv_at hl 4 rfl) ?_
          refine lv_iload_n hx hb dX2_join_70 rfl (lv_at hl 5 rfl) ?_
          refine q_aload hx hb dX2_join_71 (lv_at hl 6 rfl) ?_
          refine lv_iload hx hb dX2_join_73 (lv_at hl 7 rfl) ?_
          refine lv_iconst (v := iI 1) hx hb dX2_join_75 (by decide) ?_
          refine q_iadd hx hb dX2_join_76 ?_
          obtain ⟨hR30, h⟩ := h
          refine call_r (run_V (a := ea E 1) (As := [va_rf ((sf s17 (b24 + 64) 5)), .int (iI (a2)), .int (iI (a3)), va_rf (a4), .int (iI ((a5 + 1)))]) (rest := [.int (iI ((sn s17 (b24 + 64) 1))), .int (iI ((sn s17 (b24 + 64) 0))), va_rf ((sf s17 (b24 + 64) 4)), .ref (ea E 1)]) ⟨hx, hb, hml, hown, hts⟩ (ih tp (sf s17 (b24 + 64) 5) a2 a3 a4 (a5 + 1) s17 _ hS29 ha2 ha3 hS21 hR30 hm.2.2 h) (cwV 5 hts gX2_join_X2_join rfl rfl rfl ⟨rfl, hdX2_join⟩ ⟨by show 4 + d + 1 ≤ 4 + (d + 1); omega, by show 8 + (8 + 11) + (113 + d * 27) ≤ 113 + (d + 1) * 27; omega⟩) hK hN hg (recv_x (ci := 2) (C := RX2) (T := TX2) (N := 4) hg hK (by decide) rfl (by decide) rfl) rfl hl.1 rfl (cat_sum _ (by simp)) dX2_join_77 (show (sz s17 - sz σ) + (tp - sz s17) ≤ tp - sz σ ∧ 9 * (sz s17 - sz σ) + 9 * (tp - sz s17) ≤ 9 * (tp - sz σ) by have q1 := hm.2.1; have q2 := hm.2.2; omega)) hg (fun r32 s31 H locs hz33 hm2 h hg => ?_)
          have hS34 : ∀ b, a1 = some b → sS s31 b := (fun b h0 => hm2.1 b (hS20 b h0))
          have hS35 : ∀ b, a4 = some b → sS s31 b := (fun b h0 => hm2.1 b (hS21 b h0))
          have hS36 : ∀ b, (sf s17 (b24 + 64) 4) = some b → sS s31 b := (fun b h0 => hm2.1 b (hS26 b h0))
          have hm := hm.ta hm2
          refine W_narrow hg hH (show sz s31 ≤ sz σ + (sz s31 - sz σ) by have q1 := hm.2.1; omega) (Nat.le_refl _) ?_
          refine call_r (run_V (a := ea E 1) (As := [va_rf ((sf s17 (b24 + 64) 4)), .int (iI ((sn s17 (b24 + 64) 0))), .int (iI ((sn s17 (b24 + 64) 1))), va_rf (r32)]) (rest := []) ⟨hx, hb, hml, hown, hts⟩ (ctX2_turnedLeft l E tp (sf s17 (b24 + 64) 4) (sn s17 (b24 + 64) 0) (sn s17 (b24 + 64) 1) r32 s31 _ hS36 hR27 hR28 hz33 hm.2.2 h) (cwV 4 hts gX2_join_X2_turnedLeft rfl rfl rfl ⟨rfl, hdX2_turnedLeft⟩ ⟨by show 3 + 1 ≤ 4 + (d + 1); omega, by show 8 + (9 + 11) + 85 ≤ 113 + (d + 1) * 27; omega⟩) hK hN hg (recv_x (ci := 2) (C := RX2) (T := TX2) (N := 4) hg hK (by decide) rfl (by decide) rfl) rfl hl.1 rfl (cat_sum _ (by simp)) dX2_join_80 (show (sz s31 - sz σ) + (tp - sz s31) ≤ tp - sz σ ∧ 9 * (sz s31 - sz σ) + 9 * (tp - sz s31) ≤ 9 * (tp - sz σ) by have q1 := hm.2.1; have q2 := hm.2.2; omega)) hg (fun r38 s37 H locs hz39 hm2 h hg => ?_)
          have hS40 : ∀ b, a1 = some b → sS s37 b := (fun b h0 => hm2.1 b (hS34 b h0))
          have hS41 : ∀ b, a4 = some b → sS s37 b := (fun b h0 => hm2.1 b (hS35 b h0))
          have hm := hm.ta hm2
          refine W_narrow hg hH (show sz s37 ≤ sz σ + (sz s37 - sz σ) by have q1 := hm.2.1; omega) (Nat.le_refl _) ?_
          refine W.widen (k := tp - sz σ) (n := 9 * (tp - sz σ)) (show sz s37 - sz σ ≤ _ by have q1 := hm.2.2; omega) (show 9 * (sz s37 - sz σ) ≤ _ by have q1 := hm.2.2; omega) ?_
          exact ret_r hx hb hr hlocks hg hz39 hm h dX2_join_83
    · have h := h.2 c22
      refine lv_aload_n hx hb dX2_join_30 rfl (lv_at hl 2 rfl) ?_
      refine q_aload_n hx hb dX2_join_31 rfl (lv_at hl 3 rfl) ?_
      refine lv_iload_n hx hb dX2_join_32 rfl (lv_at hl 4 rfl) ?_
      refine lv_iload_n hx hb dX2_join_33 rfl (lv_at hl 5 rfl) ?_
      refine q_aload hx hb dX2_join_34 (lv_at hl 6 rfl) ?_
      refine call_r (run_V (a := ea E 1) (As := [va_rf (a1), .int (iI (a2)), .int (iI (a3)), va_rf (a4)]) (rest := []) ⟨hx, hb, hml, hown, hts⟩ (ctX2_node l E tp a1 a2 a3 a4 s17 _ hS20 ha2 ha3 hS21 hm.2.2 h) (cwV 4 hts gX2_join_X2_node rfl rfl rfl ⟨rfl, hdX2_node⟩ ⟨by show 2 + 1 ≤ 4 + (d + 1); omega, by show 8 + (6 + 11) + 60 ≤ 113 + (d + 1) * 27; omega⟩) hK hN hg (recv_x (ci := 2) (C := RX2) (T := TX2) (N := 4) hg hK (by decide) rfl (by decide) rfl) rfl hl.1 rfl (cat_sum _ (by simp)) dX2_join_36 (show (sz s17 - sz σ) + (tp - sz s17) ≤ tp - sz σ ∧ 9 * (sz s17 - sz σ) + 9 * (tp - sz s17) ≤ 9 * (tp - sz σ) by have q1 := hm.2.1; have q2 := hm.2.2; omega)) hg (fun r43 s42 H locs hz44 hm2 h hg => ?_)
      have hS45 : ∀ b, a1 = some b → sS s42 b := (fun b h0 => hm2.1 b (hS20 b h0))
      have hS46 : ∀ b, a4 = some b → sS s42 b := (fun b h0 => hm2.1 b (hS21 b h0))
      have hm := hm.ta hm2
      refine W_narrow hg hH (show sz s42 ≤ sz σ + (sz s42 - sz σ) by have q1 := hm.2.1; omega) (Nat.le_refl _) ?_
      refine W.widen (k := tp - sz σ) (n := 9 * (tp - sz σ)) (show sz s42 - sz σ ≤ _ by have q1 := hm.2.2; omega) (show 9 * (sz s42 - sz σ) ≤ _ by have q1 := hm.2.2; omega) ?_
      exact ret_r hx hb hr hlocks hg hz44 hm h dX2_join_39
theorem hdX2_above : yX2_above.cls ≠ "java/lang/invoke/MethodHandle" ∧ yX2_above.cls ≠ "java/lang/invoke/VarHandle" ∧ (parseMethodDescriptor yX2_above.desc).map (fun d => d.parameters.length) = some 3 := by decide +kernel
set_option maxRecDepth 100000 in
set_option maxHeartbeats 4000000 in
theorem ctX2_above (l : Launch) (E : Ev) : ∀ (d : Nat) (tp : Nat) (a1 : Option Nat) (a2 : Int) (a3 : Int) (σ : SS) (Q : Option Nat → SS → Prop) (ha1 : ∀ b, a1 = some b → sS σ b) (ha2 : R32 a2) (ha3 : R32 a3) (ht : sz σ ≤ tp) (h : wX2_above d tp a1 a2 a3 σ Q), Met l yX2_above wsX2_above ({ frames := 49 + d, cells := tp - sz σ, slots := 9 * (tp - sz σ), locals := 1328 + d * 24 } : Room) (Pc E σ [.ref (ea E 1), va_rf (a1), .int (iI (a2)), .int (iI (a3))]) (Qr E tp σ Q) (tp - sz σ) (9 * (tp - sz σ)) (Av E) := by
  intro d
  induction d with
  | zero => intro tp a1 a2 a3 σ Q ha1 ha2 ha3 ht h; exact False.elim h
  | succ d ih =>
  intro tp a1 a2 a3 σ Q ha1 ha2 ha3 ht h
  rw [wX2_above] at h
  refine Met.ofW (cc := cX2_above) (maxL := 5) (ret := (some (.object "JoinMaps$Node"))) (by decide) rfl ?_
  intro p e s m args below meth c s₁ B hml hv
  obtain ⟨rfl, hH, hK, hN⟩ := hv
  have hx := B.exec
  have hb := B.bytes
  have hr := B.returns
  have hts := atoms_spec (ws := wsX2_above) B.pre
  have hown : s.vm.findClass RX2 = some m.cls := findClass_of_methodNamed B.named
  have hlocks := B.notSynchronized
  have hg : GS E σ s s.heap [] := ⟨hH, va_S.rf⟩
  have hm : Mo tp σ σ := Mo.rf ht
  have hl := ent (vs := [.ref (ea E 1), va_rf (a1), .int (iI (a2)), .int (iI (a3))]) (n := 5) (cats_x (cats_r (cats_i (cats_i cats_nil)))) (Nat.le_of_ble_eq_true rfl)
  rw [lg_entry_eq]
  generalize (lg_sl ([.ref (ea E 1), va_rf (a1), .int (iI (a2)), .int (iI (a3))]) ++ List.replicate (5 - (lg_sl ([.ref (ea E 1), va_rf (a1), .int (iI (a2)), .int (iI (a3))])).length) Slot.unset).toArray = ls at hl ⊢
  have hl : lv_has ls 5 [(0, .ref (ea E 1)), (1, va_rf (a1)), (2, .int (iI (a2))), (3, .int (iI (a3)))] := hl
  refine W_narrow hg hH (show sz σ ≤ sz σ + (sz σ - sz σ) by omega) (show 9 * (sz σ - sz σ) ≤ 9 * (sz σ - sz σ) from Nat.le_refl _) ?_
  refine q_aload_n hx hb dX2_above_0 rfl (lv_at hl 1 rfl) ?_
  refine j_null (tgt := 10) hx hb dX2_above_1 (by decide) (fun c1 => ?_) (fun b2 c1 => ?_)
  · have h := h.1 c1
    refine q_null hx hb dX2_above_10 ?_
    refine W.widen (k := tp - sz σ) (n := 9 * (tp - sz σ)) (show sz σ - sz σ ≤ _ by have q1 := hm.2.2; omega) (show 9 * (sz σ - sz σ) ≤ _ by have q1 := hm.2.2; omega) ?_
    exact ret_r hx hb hr hlocks hg (fun b h0 => by cases h0) hm h dX2_above_11
  · have h := h.2 b2 c1
    refine lv_iload_n hx hb dX2_above_4 rfl (lv_at hl 3 rfl) ?_
    refine lv_bipush (v := iI 40) hx hb dX2_above_5 (by decide) ?_
    refine j_le (tgt := 12) hx hb dX2_above_7 (by decide) ha3 (by decide) (fun c3 => ?_) (fun c3 => ?_)
    · have h := h.1 c3
      refine q_aload_n hx hb dX2_above_12 rfl (lv_at hl 1 rfl) ?_
      refine q_ngeti_o c1 hx hb hts (fun _ h9 => List.mem_cons_of_mem _ (List.mem_append_left _ (List.mem_append_right _ h9))) hown hK hg (ha1 b2 c1) 0 (by decide) (hts (.fieldLink RX2 31 "JoinMaps$Node" "key" "I") (List.mem_cons_of_mem _ (List.mem_append_left _ (List.mem_append_left _ (List.mem_append_left _ (List.mem_of_getElem? (i := 0) rfl)))))) rfl rfl dX2_above_13 ?_
      have hR4 := GS_R hg (b2 + 64) 0
      refine lv_iload_n hx hb dX2_above_16 rfl (lv_at hl 2 rfl) ?_
      refine j_gt (tgt := 33) hx hb dX2_above_17 (by decide) hR4 ha2 (fun c5 => ?_) (fun c5 => ?_)
      · have h := h.1 c5
        refine lv_aload_n hx hb dX2_above_33 rfl (lv_at hl 0 rfl) ?_
        refine q_aload_n hx hb dX2_above_34 rfl (lv_at hl 1 rfl) ?_
        refine q_ngetr_o c1 hx hb hts (fun _ h9 => List.mem_cons_of_mem _ (List.mem_append_left _ (List.mem_append_right _ h9))) hown hK hg (ha1 b2 c1) 4 (by decide) (hts (.fieldLink RX2 37 "JoinMaps$Node" "left" "LJoinMaps$Node;") (List.mem_cons_of_mem _ (List.mem_append_left _ (List.mem_append_left _ (List.mem_append_left _ (List.mem_of_getElem? (i := 2) rfl)))))) rfl rfl dX2_above_35 ?_
        have hS6 : ∀ b, (sf σ (b2 + 64) 4) = some b → sS σ b := fun b h0 => GS_F hg h0
        refine lv_iload_n hx hb dX2_above_38 rfl (lv_at hl 2 rfl) ?_
        refine lv_iload_n hx hb dX2_above_39 rfl (lv_at hl 3 rfl) ?_
        refine lv_iconst (v := iI 1) hx hb dX2_above_40 (by decide) ?_
        refine q_iadd hx hb dX2_above_41 ?_
        obtain ⟨hR7, h⟩ := h
        refine call_r (run_V (a := ea E 1) (As := [va_rf ((sf σ (b2 + 64) 4)), .int (iI (a2)), .int (iI ((a3 + 1)))]) (rest := []) ⟨hx, hb, hml, hown, hts⟩ (ih tp (sf σ (b2 + 64) 4) a2 (a3 + 1) σ _ hS6 ha2 hR7 hm.2.2 h) (cwV 3 hts gX2_above_X2_above rfl rfl rfl ⟨rfl, hdX2_above⟩ ⟨by show 49 + d + 1 ≤ 49 + (d + 1); omega, by show 8 + (5 + 11) + (1328 + d * 24) ≤ 1328 + (d + 1) * 24; omega⟩) hK hN hg (recv_x (ci := 2) (C := RX2) (T := TX2) (N := 4) hg hK (by decide) rfl (by decide) rfl) rfl hl.1 rfl (cat_sum _ (by simp)) dX2_above_42 (show (sz σ - sz σ) + (tp - sz σ) ≤ tp - sz σ ∧ 9 * (sz σ - sz σ) + 9 * (tp - sz σ) ≤ 9 * (tp - sz σ) by have q1 := hm.2.1; have q2 := hm.2.2; omega)) hg (fun r9 s8 H locs hz10 hm2 h hg => ?_)
        have hS11 : ∀ b, a1 = some b → sS s8 b := (fun b h0 => hm2.1 b (ha1 b h0))
        have hm := hm.ta hm2
        refine W_narrow hg hH (show sz s8 ≤ sz σ + (sz s8 - sz σ) by have q1 := hm.2.1; omega) (Nat.le_refl _) ?_
        refine q_astore (i := 4) (lv' := [(4, va_rf (r9)), (0, .ref (ea E 1)), (1, va_rf (a1)), (2, .int (iI (a2))), (3, .int (iI (a3)))]) hx hb dX2_above_45 hl (by decide) (by simp [List.filter_cons, rf_cat, ct_i, ct_l, ct_x]) (fun ls hl => ?_)
        refine q_aload hx hb dX2_above_47 (lv_at hl 0 rfl) ?_
        refine q_aload_n hx hb dX2_above_49 rfl (lv_at hl 2 rfl) ?_
        refine q_ngetr_o c1 hx hb hts (fun _ h9 => List.mem_cons_of_mem _ (List.mem_append_left _ (List.mem_append_right _ h9))) hown hK hg (hS11 b2 c1) 4 (by decide) (hts (.fieldLink RX2 37 "JoinMaps$Node" "left" "LJoinMaps$Node;") (List.mem_cons_of_mem _ (List.mem_append_left _ (List.mem_append_left _ (List.mem_append_left _ (List.mem_of_getElem? (i := 2) rfl)))))) rfl rfl dX2_above_50 ?_
        have hS12 : ∀ b, (sf s8 (b2 + 64) 4) = some b → sS s8 b := fun b h0 => GS_F hg h0
        refine lv_acmp_ne (tgt := 60) hx hb dX2_above_53 (by decide) (fun c13 => ?_) (fun c13 => ?_)
        · have h := h.1 c13
          refine lv_aload_n hx hb dX2_above_60 rfl (lv_at hl 1 rfl) ?_
          refine q_aload hx hb dX2_above_61 (lv_at hl 0 rfl) ?_
          refine q_aload_n hx hb dX2_above_63 rfl (lv_at hl 2 rfl) ?_
          refine q_ngeti_o c1 hx hb hts (fun _ h9 => List.mem_cons_of_mem _ (List.mem_append_left _ (List.mem_append_right _ h9))) hown hK hg (hS11 b2 c1) 0 (by decide) (hts (.fieldLink RX2 31 "JoinMaps$Node" "key" "I") (List.mem_cons_of_mem _ (List.mem_append_left _ (List.mem_append_left _ (List.mem_append_left _ (List.mem_of_getElem? (i := 0) rfl)))))) rfl rfl dX2_above_64 ?_
          have hR14 := GS_R hg (b2 + 64) 0
          refine q_aload_n hx hb dX2_above_67 rfl (lv_at hl 2 rfl) ?_
          refine q_ngeti_o c1 hx hb hts (fun _ h9 => List.mem_cons_of_mem _ (List.mem_append_left _ (List.mem_append_right _ h9))) hown hK hg (hS11 b2 c1) 1 (by decide) (hts (.fieldLink RX2 34 "JoinMaps$Node" "value" "I") (List.mem_cons_of_mem _ (List.mem_append_left _ (List.mem_append_left _ (List.mem_append_left _ (List.mem_of_getElem? (i := 3) rfl)))))) rfl rfl dX2_above_68 ?_
          have hR15 := GS_R hg (b2 + 64) 1
          refine q_aload_n hx hb dX2_above_71 rfl (lv_at hl 2 rfl) ?_
          refine q_ngetr_o c1 hx hb hts (fun _ h9 => List.mem_cons_of_mem _ (List.mem_append_left _ (List.mem_append_right _ h9))) hown hK hg (hS11 b2 c1) 5 (by decide) (hts (.fieldLink RX2 40 "JoinMaps$Node" "right" "LJoinMaps$Node;") (List.mem_cons_of_mem _ (List.mem_append_left _ (List.mem_append_left _ (List.mem_append_left _ (List.mem_of_getElem? (i := 1) rfl)))))) rfl rfl dX2_above_72 ?_
          have hS16 : ∀ b, (sf s8 (b2 + 64) 5) = some b → sS s8 b := fun b h0 => GS_F hg h0
          refine lv_iconst (v := iI 0) hx hb dX2_above_75 (by decide) ?_
          refine call_r (run_V (a := ea E 1) (As := [va_rf (r9), .int (iI ((sn s8 (b2 + 64) 0))), .int (iI ((sn s8 (b2 + 64) 1))), va_rf ((sf s8 (b2 + 64) 5)), .int (iI (0))]) (rest := []) ⟨hx, hb, hml, hown, hts⟩ (ctX2_join l E 44 tp r9 (sn s8 (b2 + 64) 0) (sn s8 (b2 + 64) 1) (sf s8 (b2 + 64) 5) 0 s8 _ hz10 hR14 hR15 hS16 (by decide) hm.2.2 h) (cwV 5 hts gX2_above_X2_join rfl rfl rfl ⟨rfl, hdX2_join⟩ ⟨by show 48 + 1 ≤ 49 + (d + 1); omega, by show 8 + (8 + 11) + 1301 ≤ 1328 + (d + 1) * 24; omega⟩) hK hN hg (recv_x (ci := 2) (C := RX2) (T := TX2) (N := 4) hg hK (by decide) rfl (by decide) rfl) rfl hl.1 rfl (cat_sum _ (by simp)) dX2_above_76 (show (sz s8 - sz σ) + (tp - sz s8) ≤ tp - sz σ ∧ 9 * (sz s8 - sz σ) + 9 * (tp - sz s8) ≤ 9 * (tp - sz σ) by have q1 := hm.2.1; have q2 := hm.2.2; omega)) hg (fun r18 s17 H locs hz19 hm2 h hg => ?_)
          have hS20 : ∀ b, r9 = some b → sS s17 b := (fun b h0 => hm2.1 b (hz10 b h0))
          have hS21 : ∀ b, a1 = some b → sS s17 b := (fun b h0 => hm2.1 b (hS11 b h0))
          have hm := hm.ta hm2
          refine W_narrow hg hH (show sz s17 ≤ sz σ + (sz s17 - sz σ) by have q1 := hm.2.1; omega) (Nat.le_refl _) ?_
          refine W.widen (k := tp - sz σ) (n := 9 * (tp - sz σ)) (show sz s17 - sz σ ≤ _ by have q1 := hm.2.2; omega) (show 9 * (sz s17 - sz σ) ≤ _ by have q1 := hm.2.2; omega) ?_
          exact ret_r hx hb hr hlocks hg hz19 hm h dX2_above_79
        · have h := h.2 c13
          refine q_aload_n hx hb dX2_above_56 rfl (lv_at hl 2 rfl) ?_
          refine lv_goto (tgt := 79) hx hb dX2_above_57 (by decide) ?_
          refine W.widen (k := tp - sz σ) (n := 9 * (tp - sz σ)) (show sz s8 - sz σ ≤ _ by have q1 := hm.2.2; omega) (show 9 * (sz s8 - sz σ) ≤ _ by have q1 := hm.2.2; omega) ?_
          exact ret_r hx hb hr hlocks hg hS11 hm h dX2_above_79
      · have h := h.2 c5
        refine lv_aload_n hx hb dX2_above_20 rfl (lv_at hl 0 rfl) ?_
        refine q_aload_n hx hb dX2_above_21 rfl (lv_at hl 1 rfl) ?_
        refine q_ngetr_o c1 hx hb hts (fun _ h9 => List.mem_cons_of_mem _ (List.mem_append_left _ (List.mem_append_right _ h9))) hown hK hg (ha1 b2 c1) 5 (by decide) (hts (.fieldLink RX2 40 "JoinMaps$Node" "right" "LJoinMaps$Node;") (List.mem_cons_of_mem _ (List.mem_append_left _ (List.mem_append_left _ (List.mem_append_left _ (List.mem_of_getElem? (i := 1) rfl)))))) rfl rfl dX2_above_22 ?_
        have hS22 : ∀ b, (sf σ (b2 + 64) 5) = some b → sS σ b := fun b h0 => GS_F hg h0
        refine lv_iload_n hx hb dX2_above_25 rfl (lv_at hl 2 rfl) ?_
        refine lv_iload_n hx hb dX2_above_26 rfl (lv_at hl 3 rfl) ?_
        refine lv_iconst (v := iI 1) hx hb dX2_above_27 (by decide) ?_
        refine q_iadd hx hb dX2_above_28 ?_
        obtain ⟨hR23, h⟩ := h
        refine call_r (run_V (a := ea E 1) (As := [va_rf ((sf σ (b2 + 64) 5)), .int (iI (a2)), .int (iI ((a3 + 1)))]) (rest := []) ⟨hx, hb, hml, hown, hts⟩ (ih tp (sf σ (b2 + 64) 5) a2 (a3 + 1) σ _ hS22 ha2 hR23 hm.2.2 h) (cwV 3 hts gX2_above_X2_above rfl rfl rfl ⟨rfl, hdX2_above⟩ ⟨by show 49 + d + 1 ≤ 49 + (d + 1); omega, by show 8 + (5 + 11) + (1328 + d * 24) ≤ 1328 + (d + 1) * 24; omega⟩) hK hN hg (recv_x (ci := 2) (C := RX2) (T := TX2) (N := 4) hg hK (by decide) rfl (by decide) rfl) rfl hl.1 rfl (cat_sum _ (by simp)) dX2_above_29 (show (sz σ - sz σ) + (tp - sz σ) ≤ tp - sz σ ∧ 9 * (sz σ - sz σ) + 9 * (tp - sz σ) ≤ 9 * (tp - sz σ) by have q1 := hm.2.1; have q2 := hm.2.2; omega)) hg (fun r25 s24 H locs hz26 hm2 h hg => ?_)
        have hS27 : ∀ b, a1 = some b → sS s24 b := (fun b h0 => hm2.1 b (ha1 b h0))
        have hm := hm.ta hm2
        refine W_narrow hg hH (show sz s24 ≤ sz σ + (sz s24 - sz σ) by have q1 := hm.2.1; omega) (Nat.le_refl _) ?_
        refine W.widen (k := tp - sz σ) (n := 9 * (tp - sz σ)) (show sz s24 - sz σ ≤ _ by have q1 := hm.2.2; omega) (show 9 * (sz s24 - sz σ) ≤ _ by have q1 := hm.2.2; omega) ?_
        exact ret_r hx hb hr hlocks hg hz26 hm h dX2_above_32
    · have h := h.2 c3
      refine q_null hx hb dX2_above_10 ?_
      refine W.widen (k := tp - sz σ) (n := 9 * (tp - sz σ)) (show sz σ - sz σ ≤ _ by have q1 := hm.2.2; omega) (show 9 * (sz σ - sz σ) ≤ _ by have q1 := hm.2.2; omega) ?_
      exact ret_r hx hb hr hlocks hg (fun b h0 => by cases h0) hm h dX2_above_11
