theorem hdX9_aside : yX9_aside.cls ≠ "java/lang/invoke/MethodHandle" ∧ yX9_aside.cls ≠ "java/lang/invoke/VarHandle" ∧ (parseMethodDescriptor yX9_aside.desc).map (fun d => d.parameters.length) = some 1 := by decide +kernel
set_option maxRecDepth 100000 in
set_option maxHeartbeats 4000000 in
theorem ctX9_aside (l : Launch) (E : Ev) (a1 : Int) (σ : SS) (Q : SS → Prop) (ha1 : R32 a1) (h : wX9_aside a1 σ Q) : Met l yX9_aside wsX9_aside ({ frames := 0, cells := 0, slots := 0, locals := 0 } : Room) (Pc E σ [.ref (ea E 21), .int (iI (a1))]) (Qv E (sz σ) σ Q) 0 0 (Av E) := by
  rw [wX9_aside] at h
  refine Met.ofW (cc := cX9_aside) (maxL := 3) (ret := none) (by decide) rfl ?_
  intro p e s m args below meth c s₁ B hml hv
  obtain ⟨rfl, hH, hK, hN⟩ := hv
  have hx := B.exec
  have hb := B.bytes
  have hr := B.returns
  have hts := atoms_spec (ws := wsX9_aside) B.pre
  have hown : s.vm.findClass RX9 = some m.cls := findClass_of_methodNamed B.named
  have hlocks := B.notSynchronized
  have hg : GS E σ s s.heap [] := ⟨hH, va_S.rf⟩
  have hm : Mo (sz σ) σ σ := Mo.rf (Nat.le_refl _)
  have hl := ent (vs := [.ref (ea E 21), .int (iI (a1))]) (n := 3) (cats_x (cats_i cats_nil)) (Nat.le_of_ble_eq_true rfl)
  rw [lg_entry_eq]
  generalize (lg_sl ([.ref (ea E 21), .int (iI (a1))]) ++ List.replicate (3 - (lg_sl ([.ref (ea E 21), .int (iI (a1))])).length) Slot.unset).toArray = ls at hl ⊢
  have hl : lv_has ls 3 [(0, .ref (ea E 21)), (1, .int (iI (a1)))] := hl
  have J48 : ∀ (k : Nat), ∀ (v2 : Int) (sL : SS) (H : Heap) (locs : List Loc) (ls : Array Slot), GS E sL s H locs → Mo (sz σ) σ sL → lv_has ls 3 [(0, .ref (ea E 21)), (1, .int (iI (a1))), (2, .int (iI (v2)))] → wX9_aside_L48 a1 Q  k v2 sL → W p l e (headSpec wsX9_aside ({ frames := 0, cells := 0, slots := 0, locals := 0 } : Room)).room s m (List.toArray [.ref (ea E 21), .int (iI (a1))]) below meth c H locs 0 0 (MQ below (Qv E (sz σ) σ Q) (List.toArray [.ref (ea E 21), .int (iI (a1))]) s 0 0 (Av E)) (F0 m 48 ls []) := by
    intro k
    induction k with
    | zero => intro v2 sL H locs ls hg hm hl h; exact False.elim h
    | succ k ih =>
      intro v2 sL H locs ls hg hm hl h
      rw [wX9_aside_L48] at h
      refine lv_iload_n hx hb dX9_aside_48 rfl (lv_at hl 2 rfl) ?_
      refine lv_bipush (v := iI 6) hx hb dX9_aside_49 (by decide) ?_
      obtain ⟨hR14, h⟩ := h
      refine j_ge (tgt := 91) hx hb dX9_aside_51 (by decide) hR14 (by decide) (fun c15 => ?_) (fun c15 => ?_)
      · have h := h.1 c15
        exact ret_v hx hb hr hlocks hg hm h dX9_aside_91
      · have h := h.2 c15
        refine lv_iload_n hx hb dX9_aside_54 rfl (lv_at hl 1 rfl) ?_
        refine k_eq (tgt := 73) hx hb dX9_aside_55 (by decide) ha1 (fun c16 => ?_) (fun c16 => ?_)
        · have h := h.1 c16
          refine lv_aload_n hx hb dX9_aside_73 rfl (lv_at hl 0 rfl) ?_
          refine q_getx (ci := 9) (C := RX9) (T := TX9) (N := 27) (j := 27) hx hb hts (fun _ h9 => List.mem_cons_of_mem _ (List.mem_append_right _ h9)) hown hK hg 21 (by decide) rfl rfl (by decide) rfl 6 (by decide) (hts (.fieldLink RX9 25 "JoinMapsModel" "beforeSizes" "[I") (List.mem_cons_of_mem _ (List.mem_append_left _ (List.mem_of_getElem? (i := 3) rfl)))) rfl rfl rfl dX9_aside_74 ?_
          refine lv_iload_n hx hb dX9_aside_77 rfl (lv_at hl 2 rfl) ?_
          refine lv_aload_n hx hb dX9_aside_78 rfl (lv_at hl 0 rfl) ?_
          refine q_getx (ci := 9) (C := RX9) (T := TX9) (N := 27) (j := 23) hx hb hts (fun _ h9 => List.mem_cons_of_mem _ (List.mem_append_right _ h9)) hown hK hg 21 (by decide) rfl rfl (by decide) rfl 1 (by decide) (hts (.fieldLink RX9 13 "JoinMapsModel" "sizes" "[I") (List.mem_cons_of_mem _ (List.mem_append_left _ (List.mem_of_getElem? (i := 2) rfl)))) rfl rfl rfl dX9_aside_79 ?_
          refine lv_iload_n hx hb dX9_aside_82 rfl (lv_at hl 2 rfl) ?_
          obtain ⟨hP17, hP18, h⟩ := h
          refine q_iald (N := 6) hx hb hK hg 23 (by decide) rfl rfl hP17 hP18 (by decide) dX9_aside_83 ?_
          have hR19 := GS_R hg 23 (v2 : Int).toNat
          obtain ⟨hP20, hP21, h⟩ := h
          refine q_iast (N := 6) hx hb hK hg 27 (by decide) rfl rfl hP20 hP21 (by decide) hR19 dX9_aside_84 (fun H locs hg => ?_)
          refine lv_iinc (v := iI (v2 + 1)) (lv' := [(2, .int (iI (v2 + 1))), (0, .ref (ea E 21)), (1, .int (iI (a1)))]) hx hb dX9_aside_85 hl (k := 2) rfl (iI_add _ _) (by decide) rfl (fun ls hl => ?_)
          refine lv_goto (tgt := 48) hx hb dX9_aside_88 (by decide) ?_
          exact ih (v2 + 1) (un sL 27 (v2 : Int).toNat ((sn sL 23 (v2 : Int).toNat))) _ _ _ hg hm (lv_sub hl [1, 2, 0] rfl) h
        · have h := h.2 c16
          refine lv_aload_n hx hb dX9_aside_58 rfl (lv_at hl 0 rfl) ?_
          refine q_getx (ci := 9) (C := RX9) (T := TX9) (N := 27) (j := 23) hx hb hts (fun _ h9 => List.mem_cons_of_mem _ (List.mem_append_right _ h9)) hown hK hg 21 (by decide) rfl rfl (by decide) rfl 1 (by decide) (hts (.fieldLink RX9 13 "JoinMapsModel" "sizes" "[I") (List.mem_cons_of_mem _ (List.mem_append_left _ (List.mem_of_getElem? (i := 2) rfl)))) rfl rfl rfl dX9_aside_59 ?_
          refine lv_iload_n hx hb dX9_aside_62 rfl (lv_at hl 2 rfl) ?_
          refine lv_aload_n hx hb dX9_aside_63 rfl (lv_at hl 0 rfl) ?_
          refine q_getx (ci := 9) (C := RX9) (T := TX9) (N := 27) (j := 27) hx hb hts (fun _ h9 => List.mem_cons_of_mem _ (List.mem_append_right _ h9)) hown hK hg 21 (by decide) rfl rfl (by decide) rfl 6 (by decide) (hts (.fieldLink RX9 25 "JoinMapsModel" "beforeSizes" "[I") (List.mem_cons_of_mem _ (List.mem_append_left _ (List.mem_of_getElem? (i := 3) rfl)))) rfl rfl rfl dX9_aside_64 ?_
          refine lv_iload_n hx hb dX9_aside_67 rfl (lv_at hl 2 rfl) ?_
          obtain ⟨hP22, hP23, h⟩ := h
          refine q_iald (N := 6) hx hb hK hg 27 (by decide) rfl rfl hP22 hP23 (by decide) dX9_aside_68 ?_
          have hR24 := GS_R hg 27 (v2 : Int).toNat
          obtain ⟨hP25, hP26, h⟩ := h
          refine q_iast (N := 6) hx hb hK hg 23 (by decide) rfl rfl hP25 hP26 (by decide) hR24 dX9_aside_69 (fun H locs hg => ?_)
          refine lv_goto (tgt := 85) hx hb dX9_aside_70 (by decide) ?_
          refine lv_iinc (v := iI (v2 + 1)) (lv' := [(2, .int (iI (v2 + 1))), (0, .ref (ea E 21)), (1, .int (iI (a1)))]) hx hb dX9_aside_85 hl (k := 2) rfl (iI_add _ _) (by decide) rfl (fun ls hl => ?_)
          refine lv_goto (tgt := 48) hx hb dX9_aside_88 (by decide) ?_
          exact ih (v2 + 1) (un sL 23 (v2 : Int).toNat ((sn sL 27 (v2 : Int).toNat))) _ _ _ hg hm (lv_sub hl [1, 2, 0] rfl) h
  have J2 : ∀ (k : Nat), ∀ (v2 : Int) (sL : SS) (H : Heap) (locs : List Loc) (ls : Array Slot), GS E sL s H locs → Mo (sz σ) σ sL → lv_has ls 3 [(0, .ref (ea E 21)), (1, .int (iI (a1))), (2, .int (iI (v2)))] → wX9_aside_L2 a1 Q  k v2 sL → W p l e (headSpec wsX9_aside ({ frames := 0, cells := 0, slots := 0, locals := 0 } : Room)).room s m (List.toArray [.ref (ea E 21), .int (iI (a1))]) below meth c H locs 0 0 (MQ below (Qv E (sz σ) σ Q) (List.toArray [.ref (ea E 21), .int (iI (a1))]) s 0 0 (Av E)) (F0 m 2 ls []) := by
    intro k
    induction k with
    | zero => intro v2 sL H locs ls hg hm hl h; exact False.elim h
    | succ k ih =>
      intro v2 sL H locs ls hg hm hl h
      rw [wX9_aside_L2] at h
      refine lv_iload_n hx hb dX9_aside_2 rfl (lv_at hl 2 rfl) ?_
      refine lv_sipush (v := iI 1200) hx hb dX9_aside_3 (by decide) ?_
      obtain ⟨hR1, h⟩ := h
      refine j_ge (tgt := 46) hx hb dX9_aside_6 (by decide) hR1 (by decide) (fun c2 => ?_) (fun c2 => ?_)
      · have h := h.1 c2
        refine lv_iconst (v := iI 0) hx hb dX9_aside_46 (by decide) ?_
        refine lv_istore_n (i := 2) (lv' := [(2, .int (iI (0))), (0, .ref (ea E 21)), (1, .int (iI (a1)))]) hx hb dX9_aside_47 rfl hl (by decide) rfl (fun ls hl => ?_)
        obtain ⟨kk, h⟩ := h
        exact J48  kk (0) (sL) _ _ _ hg hm (lv_sub hl [1, 2, 0] rfl) h
      · have h := h.2 c2
        refine lv_iload_n hx hb dX9_aside_9 rfl (lv_at hl 1 rfl) ?_
        refine k_eq (tgt := 28) hx hb dX9_aside_10 (by decide) ha1 (fun c3 => ?_) (fun c3 => ?_)
        · have h := h.1 c3
          refine lv_aload_n hx hb dX9_aside_28 rfl (lv_at hl 0 rfl) ?_
          refine q_getx (ci := 9) (C := RX9) (T := TX9) (N := 27) (j := 26) hx hb hts (fun _ h9 => List.mem_cons_of_mem _ (List.mem_append_right _ h9)) hown hK hg 21 (by decide) rfl rfl (by decide) rfl 5 (by decide) (hts (.fieldLink RX9 22 "JoinMapsModel" "before" "[I") (List.mem_cons_of_mem _ (List.mem_append_left _ (List.mem_of_getElem? (i := 1) rfl)))) rfl rfl rfl dX9_aside_29 ?_
          refine lv_iload_n hx hb dX9_aside_32 rfl (lv_at hl 2 rfl) ?_
          refine lv_aload_n hx hb dX9_aside_33 rfl (lv_at hl 0 rfl) ?_
          refine q_getx (ci := 9) (C := RX9) (T := TX9) (N := 27) (j := 22) hx hb hts (fun _ h9 => List.mem_cons_of_mem _ (List.mem_append_right _ h9)) hown hK hg 21 (by decide) rfl rfl (by decide) rfl 0 (by decide) (hts (.fieldLink RX9 7 "JoinMapsModel" "rows" "[I") (List.mem_cons_of_mem _ (List.mem_append_left _ (List.mem_of_getElem? (i := 0) rfl)))) rfl rfl rfl dX9_aside_34 ?_
          refine lv_iload_n hx hb dX9_aside_37 rfl (lv_at hl 2 rfl) ?_
          obtain ⟨hP4, hP5, h⟩ := h
          refine q_iald (N := 1200) hx hb hK hg 22 (by decide) rfl rfl hP4 hP5 (by decide) dX9_aside_38 ?_
          have hR6 := GS_R hg 22 (v2 : Int).toNat
          obtain ⟨hP7, hP8, h⟩ := h
          refine q_iast (N := 1200) hx hb hK hg 26 (by decide) rfl rfl hP7 hP8 (by decide) hR6 dX9_aside_39 (fun H locs hg => ?_)
          refine lv_iinc (v := iI (v2 + 1)) (lv' := [(2, .int (iI (v2 + 1))), (0, .ref (ea E 21)), (1, .int (iI (a1)))]) hx hb dX9_aside_40 hl (k := 2) rfl (iI_add _ _) (by decide) rfl (fun ls hl => ?_)
          refine lv_goto (tgt := 2) hx hb dX9_aside_43 (by decide) ?_
          exact ih (v2 + 1) (un sL 26 (v2 : Int).toNat ((sn sL 22 (v2 : Int).toNat))) _ _ _ hg hm (lv_sub hl [1, 2, 0] rfl) h
        · have h := h.2 c3
          refine lv_aload_n hx hb dX9_aside_13 rfl (lv_at hl 0 rfl) ?_
          refine q_getx (ci := 9) (C := RX9) (T := TX9) (N := 27) (j := 22) hx hb hts (fun _ h9 => List.mem_cons_of_mem _ (List.mem_append_right _ h9)) hown hK hg 21 (by decide) rfl rfl (by decide) rfl 0 (by decide) (hts (.fieldLink RX9 7 "JoinMapsModel" "rows" "[I") (List.mem_cons_of_mem _ (List.mem_append_left _ (List.mem_of_getElem? (i := 0) rfl)))) rfl rfl rfl dX9_aside_14 ?_
          refine lv_iload_n hx hb dX9_aside_17 rfl (lv_at hl 2 rfl) ?_
          refine lv_aload_n hx hb dX9_aside_18 rfl (lv_at hl 0 rfl) ?_
          refine q_getx (ci := 9) (C := RX9) (T := TX9) (N := 27) (j := 26) hx hb hts (fun _ h9 => List.mem_cons_of_mem _ (List.mem_append_right _ h9)) hown hK hg 21 (by decide) rfl rfl (by decide) rfl 5 (by decide) (hts (.fieldLink RX9 22 "JoinMapsModel" "before" "[I") (List.mem_cons_of_mem _ (List.mem_append_left _ (List.mem_of_getElem? (i := 1) rfl)))) rfl rfl rfl dX9_aside_19 ?_
          refine lv_iload_n hx hb dX9_aside_22 rfl (lv_at hl 2 rfl) ?_
          obtain ⟨hP9, hP10, h⟩ := h
          refine q_iald (N := 1200) hx hb hK hg 26 (by decide) rfl rfl hP9 hP10 (by decide) dX9_aside_23 ?_
          have hR11 := GS_R hg 26 (v2 : Int).toNat
          obtain ⟨hP12, hP13, h⟩ := h
          refine q_iast (N := 1200) hx hb hK hg 22 (by decide) rfl rfl hP12 hP13 (by decide) hR11 dX9_aside_24 (fun H locs hg => ?_)
          refine lv_goto (tgt := 40) hx hb dX9_aside_25 (by decide) ?_
          refine lv_iinc (v := iI (v2 + 1)) (lv' := [(2, .int (iI (v2 + 1))), (0, .ref (ea E 21)), (1, .int (iI (a1)))]) hx hb dX9_aside_40 hl (k := 2) rfl (iI_add _ _) (by decide) rfl (fun ls hl => ?_)
          refine lv_goto (tgt := 2) hx hb dX9_aside_43 (by decide) ?_
          exact ih (v2 + 1) (un sL 22 (v2 : Int).toNat ((sn sL 26 (v2 : Int).toNat))) _ _ _ hg hm (lv_sub hl [1, 2, 0] rfl) h
  refine lv_iconst (v := iI 0) hx hb dX9_aside_0 (by decide) ?_
  refine lv_istore_n (i := 2) (lv' := [(2, .int (iI (0))), (0, .ref (ea E 21)), (1, .int (iI (a1)))]) hx hb dX9_aside_1 rfl hl (by decide) rfl (fun ls hl => ?_)
  obtain ⟨kk, h⟩ := h
  exact J2  kk (0) (σ) _ _ _ hg hm (lv_sub hl [1, 2, 0] rfl) h
theorem hdX9_keepsAside : yX9_keepsAside.cls ≠ "java/lang/invoke/MethodHandle" ∧ yX9_keepsAside.cls ≠ "java/lang/invoke/VarHandle" ∧ (parseMethodDescriptor yX9_keepsAside.desc).map (fun d => d.parameters.length) = some 0 := by decide +kernel
set_option maxRecDepth 100000 in
set_option maxHeartbeats 4000000 in
theorem ctX9_keepsAside (l : Launch) (E : Ev)  (σ : SS) (Q : SS → Prop)  (h : wX9_keepsAside  σ Q) : Met l yX9_keepsAside wsX9_keepsAside ({ frames := 1, cells := 0, slots := 0, locals := 21 } : Room) (Pc E σ [.ref (ea E 21)]) (Qv E (sz σ) σ Q) 0 0 (Av E) := by
  rw [wX9_keepsAside] at h
  refine Met.ofW (cc := cX9_keepsAside) (maxL := 2) (ret := none) (by decide) rfl ?_
  intro p e s m args below meth c s₁ B hml hv
  obtain ⟨rfl, hH, hK, hN⟩ := hv
  have hx := B.exec
  have hb := B.bytes
  have hr := B.returns
  have hts := atoms_spec (ws := wsX9_keepsAside) B.pre
  have hown : s.vm.findClass RX9 = some m.cls := findClass_of_methodNamed B.named
  have hlocks := B.notSynchronized
  have hg : GS E σ s s.heap [] := ⟨hH, va_S.rf⟩
  have hm : Mo (sz σ) σ σ := Mo.rf (Nat.le_refl _)
  have hl := ent (vs := [.ref (ea E 21)]) (n := 2) (cats_x cats_nil) (Nat.le_of_ble_eq_true rfl)
  rw [lg_entry_eq]
  generalize (lg_sl ([.ref (ea E 21)]) ++ List.replicate (2 - (lg_sl ([.ref (ea E 21)])).length) Slot.unset).toArray = ls at hl ⊢
  have hl : lv_has ls 2 [(0, .ref (ea E 21))] := hl
  have J44 : ∀ (k : Nat), ∀ (v1 : Int) (sL : SS) (H : Heap) (locs : List Loc) (ls : Array Slot), GS E sL s H locs → Mo (sz σ) σ sL → lv_has ls 2 [(0, .ref (ea E 21)), (1, .int (iI (v1)))] → wX9_keepsAside_L44  Q  k v1 sL → W p l e (headSpec wsX9_keepsAside ({ frames := 1, cells := 0, slots := 0, locals := 21 } : Room)).room s m (List.toArray [.ref (ea E 21)]) below meth c H locs 0 0 (MQ below (Qv E (sz σ) σ Q) (List.toArray [.ref (ea E 21)]) s 0 0 (Av E)) (F0 m 44 ls []) := by
    intro k
    induction k with
    | zero => intro v1 sL H locs ls hg hm hl h; exact False.elim h
    | succ k ih =>
      intro v1 sL H locs ls hg hm hl h
      rw [wX9_keepsAside_L44] at h
      refine lv_iload_n hx hb dX9_keepsAside_44 rfl (lv_at hl 1 rfl) ?_
      refine lv_bipush (v := iI 6) hx hb dX9_keepsAside_45 (by decide) ?_
      obtain ⟨hR12, h⟩ := h
      refine j_ge (tgt := 78) hx hb dX9_keepsAside_47 (by decide) hR12 (by decide) (fun c13 => ?_) (fun c13 => ?_)
      · have h := h.1 c13
        exact ret_v hx hb hr hlocks hg hm h dX9_keepsAside_78
      · have h := h.2 c13
        refine lv_aload_n hx hb dX9_keepsAside_50 rfl (lv_at hl 0 rfl) ?_
        refine q_getx (ci := 9) (C := RX9) (T := TX9) (N := 27) (j := 25) hx hb hts (fun _ h9 => List.mem_cons_of_mem _ (List.mem_append_right _ h9)) hown hK hg 21 (by decide) rfl rfl (by decide) rfl 3 (by decide) (hts (.fieldLink RX9 19 "JoinMapsModel" "pastSizes" "[I") (List.mem_cons_of_mem _ (List.mem_append_left _ (List.mem_of_getElem? (i := 3) rfl)))) rfl rfl rfl dX9_keepsAside_51 ?_
        refine lv_bipush (v := iI 6) hx hb dX9_keepsAside_54 (by decide) ?_
        refine lv_aload_n hx hb dX9_keepsAside_56 rfl (lv_at hl 0 rfl) ?_
        refine q_geti (ci := 9) (C := RX9) (T := TX9) (N := 27) hx hb hts (fun _ h9 => List.mem_cons_of_mem _ (List.mem_append_right _ h9)) hown hK hg 21 (by decide) rfl rfl (by decide) rfl 4 (by decide) (hts (.fieldLink RX9 103 "JoinMapsModel" "known" "I") (List.mem_cons_of_mem _ (List.mem_append_left _ (List.mem_of_getElem? (i := 1) rfl)))) rfl rfl dX9_keepsAside_57 ?_
        have hR14 := GS_R hg 21 4
        refine lv_iconst (v := iI 1) hx hb dX9_keepsAside_60 (by decide) ?_
        refine q_isub hx hb dX9_keepsAside_61 ?_
        refine q_imul hx hb dX9_keepsAside_62 ?_
        refine lv_iload_n hx hb dX9_keepsAside_63 rfl (lv_at hl 1 rfl) ?_
        refine q_iadd hx hb dX9_keepsAside_64 ?_
        refine lv_aload_n hx hb dX9_keepsAside_65 rfl (lv_at hl 0 rfl) ?_
        refine q_getx (ci := 9) (C := RX9) (T := TX9) (N := 27) (j := 27) hx hb hts (fun _ h9 => List.mem_cons_of_mem _ (List.mem_append_right _ h9)) hown hK hg 21 (by decide) rfl rfl (by decide) rfl 6 (by decide) (hts (.fieldLink RX9 25 "JoinMapsModel" "beforeSizes" "[I") (List.mem_cons_of_mem _ (List.mem_append_left _ (List.mem_of_getElem? (i := 4) rfl)))) rfl rfl rfl dX9_keepsAside_66 ?_
        refine lv_iload_n hx hb dX9_keepsAside_69 rfl (lv_at hl 1 rfl) ?_
        obtain ⟨hP15, hP16, h⟩ := h
        refine q_iald (N := 6) hx hb hK hg 27 (by decide) rfl rfl hP15 hP16 (by decide) dX9_keepsAside_70 ?_
        have hR17 := GS_R hg 27 (v1 : Int).toNat
        obtain ⟨hP18, hP19, h⟩ := h
        refine q_iast (N := 72) hx hb hK hg 25 (by decide) rfl rfl hP18 hP19 (by decide) hR17 dX9_keepsAside_71 (fun H locs hg => ?_)
        refine lv_iinc (v := iI (v1 + 1)) (lv' := [(1, .int (iI (v1 + 1))), (0, .ref (ea E 21))]) hx hb dX9_keepsAside_72 hl (k := 1) rfl (iI_add _ _) (by decide) rfl (fun ls hl => ?_)
        refine lv_goto (tgt := 44) hx hb dX9_keepsAside_75 (by decide) ?_
        exact ih (v1 + 1) (un sL 25 (((6 * ((sn sL 21 4) - 1)) + v1) : Int).toNat ((sn sL 27 (v1 : Int).toNat))) _ _ _ hg hm (lv_sub hl [1, 0] rfl) h
  have J6 : ∀ (k : Nat), ∀ (v1 : Int) (sL : SS) (H : Heap) (locs : List Loc) (ls : Array Slot), GS E sL s H locs → Mo (sz σ) σ sL → lv_has ls 2 [(0, .ref (ea E 21)), (1, .int (iI (v1)))] → wX9_keepsAside_L6  Q  k v1 sL → W p l e (headSpec wsX9_keepsAside ({ frames := 1, cells := 0, slots := 0, locals := 21 } : Room)).room s m (List.toArray [.ref (ea E 21)]) below meth c H locs 0 0 (MQ below (Qv E (sz σ) σ Q) (List.toArray [.ref (ea E 21)]) s 0 0 (Av E)) (F0 m 6 ls []) := by
    intro k
    induction k with
    | zero => intro v1 sL H locs ls hg hm hl h; exact False.elim h
    | succ k ih =>
      intro v1 sL H locs ls hg hm hl h
      rw [wX9_keepsAside_L6] at h
      refine lv_iload_n hx hb dX9_keepsAside_6 rfl (lv_at hl 1 rfl) ?_
      refine lv_sipush (v := iI 1200) hx hb dX9_keepsAside_7 (by decide) ?_
      obtain ⟨hR4, h⟩ := h
      refine j_ge (tgt := 42) hx hb dX9_keepsAside_10 (by decide) hR4 (by decide) (fun c5 => ?_) (fun c5 => ?_)
      · have h := h.1 c5
        refine lv_iconst (v := iI 0) hx hb dX9_keepsAside_42 (by decide) ?_
        refine lv_istore_n (i := 1) (lv' := [(1, .int (iI (0))), (0, .ref (ea E 21))]) hx hb dX9_keepsAside_43 rfl hl (by decide) rfl (fun ls hl => ?_)
        obtain ⟨kk, h⟩ := h
        exact J44  kk (0) (sL) _ _ _ hg hm (lv_sub hl [1, 0] rfl) h
      · have h := h.2 c5
        refine lv_aload_n hx hb dX9_keepsAside_13 rfl (lv_at hl 0 rfl) ?_
        refine q_getx (ci := 9) (C := RX9) (T := TX9) (N := 27) (j := 24) hx hb hts (fun _ h9 => List.mem_cons_of_mem _ (List.mem_append_right _ h9)) hown hK hg 21 (by decide) rfl rfl (by decide) rfl 2 (by decide) (hts (.fieldLink RX9 16 "JoinMapsModel" "past" "[I") (List.mem_cons_of_mem _ (List.mem_append_left _ (List.mem_of_getElem? (i := 0) rfl)))) rfl rfl rfl dX9_keepsAside_14 ?_
        refine lv_sipush (v := iI 1200) hx hb dX9_keepsAside_17 (by decide) ?_
        refine lv_aload_n hx hb dX9_keepsAside_20 rfl (lv_at hl 0 rfl) ?_
        refine q_geti (ci := 9) (C := RX9) (T := TX9) (N := 27) hx hb hts (fun _ h9 => List.mem_cons_of_mem _ (List.mem_append_right _ h9)) hown hK hg 21 (by decide) rfl rfl (by decide) rfl 4 (by decide) (hts (.fieldLink RX9 103 "JoinMapsModel" "known" "I") (List.mem_cons_of_mem _ (List.mem_append_left _ (List.mem_of_getElem? (i := 1) rfl)))) rfl rfl dX9_keepsAside_21 ?_
        have hR6 := GS_R hg 21 4
        refine lv_iconst (v := iI 1) hx hb dX9_keepsAside_24 (by decide) ?_
        refine q_isub hx hb dX9_keepsAside_25 ?_
        refine q_imul hx hb dX9_keepsAside_26 ?_
        refine lv_iload_n hx hb dX9_keepsAside_27 rfl (lv_at hl 1 rfl) ?_
        refine q_iadd hx hb dX9_keepsAside_28 ?_
        refine lv_aload_n hx hb dX9_keepsAside_29 rfl (lv_at hl 0 rfl) ?_
        refine q_getx (ci := 9) (C := RX9) (T := TX9) (N := 27) (j := 26) hx hb hts (fun _ h9 => List.mem_cons_of_mem _ (List.mem_append_right _ h9)) hown hK hg 21 (by decide) rfl rfl (by decide) rfl 5 (by decide) (hts (.fieldLink RX9 22 "JoinMapsModel" "before" "[I") (List.mem_cons_of_mem _ (List.mem_append_left _ (List.mem_of_getElem? (i := 2) rfl)))) rfl rfl rfl dX9_keepsAside_30 ?_
        refine lv_iload_n hx hb dX9_keepsAside_33 rfl (lv_at hl 1 rfl) ?_
        obtain ⟨hP7, hP8, h⟩ := h
        refine q_iald (N := 1200) hx hb hK hg 26 (by decide) rfl rfl hP7 hP8 (by decide) dX9_keepsAside_34 ?_
        have hR9 := GS_R hg 26 (v1 : Int).toNat
        obtain ⟨hP10, hP11, h⟩ := h
        refine q_iast (N := 14400) hx hb hK hg 24 (by decide) rfl rfl hP10 hP11 (by decide) hR9 dX9_keepsAside_35 (fun H locs hg => ?_)
        refine lv_iinc (v := iI (v1 + 1)) (lv' := [(1, .int (iI (v1 + 1))), (0, .ref (ea E 21))]) hx hb dX9_keepsAside_36 hl (k := 1) rfl (iI_add _ _) (by decide) rfl (fun ls hl => ?_)
        refine lv_goto (tgt := 6) hx hb dX9_keepsAside_39 (by decide) ?_
        exact ih (v1 + 1) (un sL 24 (((1200 * ((sn sL 21 4) - 1)) + v1) : Int).toNat ((sn sL 26 (v1 : Int).toNat))) _ _ _ hg hm (lv_sub hl [1, 0] rfl) h
  refine lv_aload_n hx hb dX9_keepsAside_0 rfl (lv_at hl 0 rfl) ?_
  refine call_v (run_V (a := ea E 21) (As := []) (rest := []) ⟨hx, hb, hml, hown, hts⟩ (ctX9_keeps l E  σ _  h) (cwV 0 hts gX9_keepsAside_X9_keeps rfl rfl rfl ⟨rfl, hdX9_keeps⟩ ⟨Nat.le_of_ble_eq_true rfl, Nat.le_of_ble_eq_true rfl⟩) hK hN hg (recv_x (ci := 9) (C := RX9) (T := TX9) (N := 27) hg hK (by decide) rfl (by decide) rfl) rfl hl.1 rfl (cat_sum _ (by simp)) dX9_keepsAside_1 ⟨Nat.le_refl 0, Nat.le_refl 0⟩) hg (fun s1 H locs hm2 h hg => ?_)
  have hm := hm.tn hm2
  refine lv_iconst (v := iI 0) hx hb dX9_keepsAside_4 (by decide) ?_
  refine lv_istore_n (i := 1) (lv' := [(1, .int (iI (0))), (0, .ref (ea E 21))]) hx hb dX9_keepsAside_5 rfl hl (by decide) rfl (fun ls hl => ?_)
  obtain ⟨kk, h⟩ := h
  exact J6  kk (0) (s1) _ _ _ hg hm (lv_sub hl [1, 0] rfl) h
theorem hdX9_scatter : yX9_scatter.cls ≠ "java/lang/invoke/MethodHandle" ∧ yX9_scatter.cls ≠ "java/lang/invoke/VarHandle" ∧ (parseMethodDescriptor yX9_scatter.desc).map (fun d => d.parameters.length) = some 3 := by decide +kernel
set_option maxRecDepth 100000 in
set_option maxHeartbeats 4000000 in
theorem ctX9_scatter (l : Launch) (E : Ev) (a1 : Int) (a2 : Int) (a3 : Int) (σ : SS) (Q : Int → SS → Prop) (ha1 : R32 a1) (ha2 : R32 a2) (ha3 : R32 a3) (h : wX9_scatter a1 a2 a3 σ Q) : Met l yX9_scatter wsX9_scatter ({ frames := 4, cells := 0, slots := 0, locals := 90 } : Room) (Pc E σ [.ref (ea E 21), .int (iI (a1)), .int (iI (a2)), .int (iI (a3))]) (Qi E (sz σ) σ Q) 0 0 (Av E) := by
  rw [wX9_scatter] at h
  refine Met.ofW (cc := cX9_scatter) (maxL := 10) (ret := (some .int)) (by decide) rfl ?_
  intro p e s m args below meth c s₁ B hml hv
  obtain ⟨rfl, hH, hK, hN⟩ := hv
  have hx := B.exec
  have hb := B.bytes
  have hr := B.returns
  have hts := atoms_spec (ws := wsX9_scatter) B.pre
  have hown : s.vm.findClass RX9 = some m.cls := findClass_of_methodNamed B.named
  have hlocks := B.notSynchronized
  have hg : GS E σ s s.heap [] := ⟨hH, va_S.rf⟩
  have hm : Mo (sz σ) σ σ := Mo.rf (Nat.le_refl _)
  have hl := ent (vs := [.ref (ea E 21), .int (iI (a1)), .int (iI (a2)), .int (iI (a3))]) (n := 10) (cats_x (cats_i (cats_i (cats_i cats_nil)))) (Nat.le_of_ble_eq_true rfl)
  rw [lg_entry_eq]
  generalize (lg_sl ([.ref (ea E 21), .int (iI (a1)), .int (iI (a2)), .int (iI (a3))]) ++ List.replicate (10 - (lg_sl ([.ref (ea E 21), .int (iI (a1)), .int (iI (a2)), .int (iI (a3))])).length) Slot.unset).toArray = ls at hl ⊢
  have hl : lv_has ls 10 [(0, .ref (ea E 21)), (1, .int (iI (a1))), (2, .int (iI (a2))), (3, .int (iI (a3)))] := hl
  have J50 : ∀ (k : Nat), ∀ (v4 : Int) (v6 : Int) (sL : SS) (H : Heap) (locs : List Loc) (ls : Array Slot), GS E sL s H locs → Mo (sz σ) σ sL → lv_has ls 10 [(0, .ref (ea E 21)), (1, .int (iI (a1))), (3, .int (iI (a3))), (4, .long (lI (v4))), (6, .int (iI (v6)))] → wX9_scatter_L50 a1 a2 a3 Q  k v4 v6 sL → W p l e (headSpec wsX9_scatter ({ frames := 4, cells := 0, slots := 0, locals := 90 } : Room)).room s m (List.toArray [.ref (ea E 21), .int (iI (a1)), .int (iI (a2)), .int (iI (a3))]) below meth c H locs 0 0 (MQ below (Qi E (sz σ) σ Q) (List.toArray [.ref (ea E 21), .int (iI (a1)), .int (iI (a2)), .int (iI (a3))]) s 0 0 (Av E)) (F0 m 50 ls []) := by
    intro k
    induction k with
    | zero => intro v4 v6 sL H locs ls hg hm hl h; exact False.elim h
    | succ k ih =>
      intro v4 v6 sL H locs ls hg hm hl h
      rw [wX9_scatter_L50] at h
      refine lv_iload hx hb dX9_scatter_50 (lv_at hl 4 rfl) ?_
      refine lv_iload_n hx hb dX9_scatter_52 rfl (lv_at hl 2 rfl) ?_
      obtain ⟨hR25, h⟩ := h
      refine j_ge (tgt := 201) hx hb dX9_scatter_53 (by decide) hR25 ha3 (fun c26 => ?_) (fun c26 => ?_)
      · have h := h.1 c26
        refine lv_aload_n hx hb dX9_scatter_201 rfl (lv_at hl 0 rfl) ?_
        refine call_v (run_V (a := ea E 21) (As := []) (rest := []) ⟨hx, hb, hml, hown, hts⟩ (ctX9_keepsAside l E  sL _  h) (cwV 0 hts gX9_scatter_X9_keepsAside rfl rfl rfl ⟨rfl, hdX9_keepsAside⟩ ⟨Nat.le_of_ble_eq_true rfl, Nat.le_of_ble_eq_true rfl⟩) hK hN hg (recv_x (ci := 9) (C := RX9) (T := TX9) (N := 27) hg hK (by decide) rfl (by decide) rfl) rfl hl.1 rfl (cat_sum _ (by simp)) dX9_scatter_202 ⟨Nat.le_refl 0, Nat.le_refl 0⟩) hg (fun s27 H locs hm2 h hg => ?_)
        have hm := hm.tn hm2
        refine lv_aload_n hx hb dX9_scatter_205 rfl (lv_at hl 0 rfl) ?_
        refine q_getx (ci := 9) (C := RX9) (T := TX9) (N := 27) (j := 23) hx hb hts (fun _ h9 => List.mem_cons_of_mem _ (List.mem_append_right _ h9)) hown hK hg 21 (by decide) rfl rfl (by decide) rfl 1 (by decide) (hts (.fieldLink RX9 13 "JoinMapsModel" "sizes" "[I") (List.mem_cons_of_mem _ (List.mem_append_left _ (List.mem_append_left _ (List.mem_of_getElem? (i := 10) rfl))))) rfl rfl rfl dX9_scatter_206 ?_
        refine lv_iload_n hx hb dX9_scatter_209 rfl (lv_at hl 1 rfl) ?_
        obtain ⟨hP30, hP31, h⟩ := h
        refine q_iald (N := 6) hx hb hK hg 23 (by decide) rfl rfl hP30 hP31 (by decide) dX9_scatter_210 ?_
        have hR32 := GS_R hg 23 (a1 : Int).toNat
        exact ret_i hx hb hr hlocks hg hR32 hm h dX9_scatter_211
      · have h := h.2 c26
        refine lv_lload hx hb dX9_scatter_56 (lv_at hl 3 rfl) ?_
        refine q_ldc2 (z := 1103515245) hx hb hown (hts (.constantLong RX9 185 (1103515245)) (List.mem_cons_of_mem _ (List.mem_append_left _ (List.mem_append_left _ (List.mem_of_getElem? (i := 3) rfl))))) (by decide) dX9_scatter_58 ?_
        refine q_lmul hx hb dX9_scatter_61 ?_
        refine q_ldc2 (z := 12345) hx hb hown (hts (.constantLong RX9 187 (12345)) (List.mem_cons_of_mem _ (List.mem_append_left _ (List.mem_append_left _ (List.mem_of_getElem? (i := 4) rfl))))) (by decide) dX9_scatter_62 ?_
        refine q_ladd hx hb dX9_scatter_65 ?_
        refine q_ldc2 (z := 2147483648) hx hb hown (hts (.constantLong RX9 189 (2147483648)) (List.mem_cons_of_mem _ (List.mem_append_left _ (List.mem_append_left _ (List.mem_of_getElem? (i := 5) rfl))))) (by decide) dX9_scatter_66 ?_
        obtain ⟨hR33, hP34, h⟩ := h
        refine q_lrem hx hb hR33 hP34 (by decide) (by decide) dX9_scatter_69 ?_
        refine lv_lstore (i := 4) (lv' := [(4, .long (lI ((((v4 * 1103515245) + 12345) % 2147483648)))), (0, .ref (ea E 21)), (1, .int (iI (a1))), (3, .int (iI (a3))), (6, .int (iI (v6)))]) hx hb dX9_scatter_70 hl (by decide) rfl (fun ls hl => ?_)
        refine lv_lload hx hb dX9_scatter_72 (lv_at hl 0 rfl) ?_
        refine q_ldc2 (z := 65536) hx hb hown (hts (.constantLong RX9 191 (65536)) (List.mem_cons_of_mem _ (List.mem_append_left _ (List.mem_append_left _ (List.mem_of_getElem? (i := 6) rfl))))) (by decide) dX9_scatter_74 ?_
        obtain ⟨hR35, hP36, h⟩ := h
        refine q_ldiv hx hb hR35 hP36 (by decide) (by decide) dX9_scatter_77 ?_
        refine q_ldc2 (z := 1001) hx hb hown (hts (.constantLong RX9 193 (1001)) (List.mem_cons_of_mem _ (List.mem_append_left _ (List.mem_append_left _ (List.mem_of_getElem? (i := 7) rfl))))) (by decide) dX9_scatter_78 ?_
        obtain ⟨hR37, hP38, h⟩ := h
        refine q_lrem hx hb hR37 hP38 (by decide) (by decide) dX9_scatter_81 ?_
        refine q_l2i hx hb dX9_scatter_82 ?_
        refine lv_sipush (v := iI 500) hx hb dX9_scatter_83 (by decide) ?_
        refine q_isub hx hb dX9_scatter_86 ?_
        refine lv_istore (i := 7) (lv' := [(7, .int (iI (((((((v4 * 1103515245) + 12345) % 2147483648) / 65536) % 1001) - 500)))), (4, .long (lI ((((v4 * 1103515245) + 12345) % 2147483648)))), (0, .ref (ea E 21)), (1, .int (iI (a1))), (3, .int (iI (a3))), (6, .int (iI (v6)))]) hx hb dX9_scatter_87 hl (by decide) rfl (fun ls hl => ?_)
        refine lv_aload_n hx hb dX9_scatter_89 rfl (lv_at hl 2 rfl) ?_
        refine lv_iload_n hx hb dX9_scatter_90 rfl (lv_at hl 3 rfl) ?_
        refine lv_iload hx hb dX9_scatter_91 (lv_at hl 0 rfl) ?_
        obtain ⟨hR39, h⟩ := h
        refine call_i (run_V (a := ea E 21) (As := [.int (iI (a1)), .int (iI (((((((v4 * 1103515245) + 12345) % 2147483648) / 65536) % 1001) - 500)))]) (rest := []) ⟨hx, hb, hml, hown, hts⟩ (ctX9_below l E a1 ((((((v4 * 1103515245) + 12345) % 2147483648) / 65536) % 1001) - 500) sL _ ha1 hR39 h) (cwV 2 hts gX9_scatter_X9_below rfl rfl rfl ⟨rfl, hdX9_below⟩ ⟨Nat.le_of_ble_eq_true rfl, Nat.le_of_ble_eq_true rfl⟩) hK hN hg (recv_x (ci := 9) (C := RX9) (T := TX9) (N := 27) hg hK (by decide) rfl (by decide) rfl) rfl hl.1 rfl (cat_sum _ (by simp)) dX9_scatter_93 ⟨Nat.le_refl 0, Nat.le_refl 0⟩) hg (fun r41 s40 H locs hz42 hm2 h hg => ?_)
        have hm := hm.tn hm2
        refine lv_istore (i := 8) (lv' := [(8, .int (iI (r41))), (7, .int (iI (((((((v4 * 1103515245) + 12345) % 2147483648) / 65536) % 1001) - 500)))), (4, .long (lI ((((v4 * 1103515245) + 12345) % 2147483648)))), (0, .ref (ea E 21)), (1, .int (iI (a1))), (3, .int (iI (a3))), (6, .int (iI (v6)))]) hx hb dX9_scatter_96 hl (by decide) rfl (fun ls hl => ?_)
        refine lv_aload_n hx hb dX9_scatter_98 rfl (lv_at hl 3 rfl) ?_
        refine lv_iload_n hx hb dX9_scatter_99 rfl (lv_at hl 4 rfl) ?_
        refine lv_iload hx hb dX9_scatter_100 (lv_at hl 0 rfl) ?_
        refine lv_iload hx hb dX9_scatter_102 (lv_at hl 1 rfl) ?_
        refine call_z (run_V (a := ea E 21) (As := [.int (iI (a1)), .int (iI (r41)), .int (iI (((((((v4 * 1103515245) + 12345) % 2147483648) / 65536) % 1001) - 500)))]) (rest := []) ⟨hx, hb, hml, hown, hts⟩ (ctX9_isThere l E a1 r41 ((((((v4 * 1103515245) + 12345) % 2147483648) / 65536) % 1001) - 500) s40 _ ha1 hz42 hR39 h) (cwV 3 hts gX9_scatter_X9_isThere rfl rfl rfl ⟨rfl, hdX9_isThere⟩ ⟨Nat.le_of_ble_eq_true rfl, Nat.le_of_ble_eq_true rfl⟩) hK hN hg (recv_x (ci := 9) (C := RX9) (T := TX9) (N := 27) hg hK (by decide) rfl (by decide) rfl) rfl hl.1 rfl (cat_sum _ (by simp)) dX9_scatter_104 ⟨Nat.le_refl 0, Nat.le_refl 0⟩) hg (fun r44 s43 H locs hz45 hm2 h hg => ?_)
        have hm := hm.tn hm2
        refine lv_istore (i := 9) (lv' := [(9, .int (iI (r44))), (8, .int (iI (r41))), (7, .int (iI (((((((v4 * 1103515245) + 12345) % 2147483648) / 65536) % 1001) - 500)))), (4, .long (lI ((((v4 * 1103515245) + 12345) % 2147483648)))), (0, .ref (ea E 21)), (1, .int (iI (a1))), (3, .int (iI (a3))), (6, .int (iI (v6)))]) hx hb dX9_scatter_107 hl (by decide) rfl (fun ls hl => ?_)
        refine lv_lload hx hb dX9_scatter_109 (lv_at hl 3 rfl) ?_
        refine q_ldc2 (z := 1024) hx hb hown (hts (.constantLong RX9 195 (1024)) (List.mem_cons_of_mem _ (List.mem_append_left _ (List.mem_append_left _ (List.mem_of_getElem? (i := 8) rfl))))) (by decide) dX9_scatter_111 ?_
        obtain ⟨hR46, hP47, h⟩ := h
        refine q_ldiv hx hb hR46 hP47 (by decide) (by decide) dX9_scatter_114 ?_
        refine q_ldc2 (z := 4) hx hb hown (hts (.constantLong RX9 167 (4)) (List.mem_cons_of_mem _ (List.mem_append_left _ (List.mem_append_left _ (List.mem_of_getElem? (i := 9) rfl))))) (by decide) dX9_scatter_115 ?_
        obtain ⟨hR48, hP49, h⟩ := h
        refine q_lrem hx hb hR48 hP49 (by decide) (by decide) dX9_scatter_118 ?_
        refine lv_lconst (v := lI 0) hx hb dX9_scatter_119 (by decide) ?_
        obtain ⟨hR50, h⟩ := h
        refine l_ne (tgt := 148) hx hb dX9_scatter_120 dX9_scatter_121 (by decide) hR50 (by decide) (fun c51 => ?_) (fun c51 => ?_)
        · have h := h.1 c51
          refine lv_iload hx hb dX9_scatter_148 (lv_at hl 0 rfl) ?_
          refine k_ne (tgt := 177) hx hb dX9_scatter_150 (by decide) (z_R hz45) (fun c52 => ?_) (fun c52 => ?_)
          · have h := h.1 c52
            refine lv_aload_n hx hb dX9_scatter_177 rfl (lv_at hl 4 rfl) ?_
            refine lv_iload_n hx hb dX9_scatter_178 rfl (lv_at hl 5 rfl) ?_
            refine lv_iload hx hb dX9_scatter_179 (lv_at hl 2 rfl) ?_
            refine lv_lload hx hb dX9_scatter_181 (lv_at hl 3 rfl) ?_
            refine q_ldc2 (z := 4096) hx hb hown (hts (.constantLong RX9 197 (4096)) (List.mem_cons_of_mem _ (List.mem_append_left _ (List.mem_append_left _ (List.mem_of_getElem? (i := 12) rfl))))) (by decide) dX9_scatter_183 ?_
            obtain ⟨hR53, hP54, h⟩ := h
            refine q_ldiv hx hb hR53 hP54 (by decide) (by decide) dX9_scatter_186 ?_
            refine q_ldc2 (z := 1000) hx hb hown (hts (.constantLong RX9 175 (1000)) (List.mem_cons_of_mem _ (List.mem_append_left _ (List.mem_append_left _ (List.mem_of_getElem? (i := 13) rfl))))) (by decide) dX9_scatter_187 ?_
            obtain ⟨hR55, hP56, h⟩ := h
            refine q_lrem hx hb hR55 hP56 (by decide) (by decide) dX9_scatter_190 ?_
            refine q_l2i hx hb dX9_scatter_191 ?_
            obtain ⟨hR57, h⟩ := h
            refine call_v (run_V (a := ea E 21) (As := [.int (iI (a1)), .int (iI (((((((v4 * 1103515245) + 12345) % 2147483648) / 65536) % 1001) - 500))), .int (iI ((((((v4 * 1103515245) + 12345) % 2147483648) / 4096) % 1000)))]) (rest := []) ⟨hx, hb, hml, hown, hts⟩ (ctX9_lays l E a1 ((((((v4 * 1103515245) + 12345) % 2147483648) / 65536) % 1001) - 500) (((((v4 * 1103515245) + 12345) % 2147483648) / 4096) % 1000) s43 _ ha1 hR39 hR57 h) (cwV 3 hts gX9_scatter_X9_lays rfl rfl rfl ⟨rfl, hdX9_lays⟩ ⟨Nat.le_of_ble_eq_true rfl, Nat.le_of_ble_eq_true rfl⟩) hK hN hg (recv_x (ci := 9) (C := RX9) (T := TX9) (N := 27) hg hK (by decide) rfl (by decide) rfl) rfl hl.1 rfl (cat_sum _ (by simp)) dX9_scatter_192 ⟨Nat.le_refl 0, Nat.le_refl 0⟩) hg (fun s58 H locs hm2 h hg => ?_)
            have hm := hm.tn hm2
            refine lv_iinc (v := iI (v6 + 1)) (lv' := [(6, .int (iI (v6 + 1))), (9, .int (iI (r44))), (8, .int (iI (r41))), (7, .int (iI (((((((v4 * 1103515245) + 12345) % 2147483648) / 65536) % 1001) - 500)))), (4, .long (lI ((((v4 * 1103515245) + 12345) % 2147483648)))), (0, .ref (ea E 21)), (1, .int (iI (a1))), (3, .int (iI (a3)))]) hx hb dX9_scatter_195 hl (k := 7) rfl (iI_add _ _) (by decide) rfl (fun ls hl => ?_)
            refine lv_goto (tgt := 50) hx hb dX9_scatter_198 (by decide) ?_
            exact ih ((((v4 * 1103515245) + 12345) % 2147483648)) (v6 + 1) (s58) _ _ _ hg hm (lv_sub hl [5, 6, 7, 4, 0] rfl) h
          · have h := h.2 c52
            refine lv_aload_n hx hb dX9_scatter_153 rfl (lv_at hl 4 rfl) ?_
            refine q_getx (ci := 9) (C := RX9) (T := TX9) (N := 27) (j := 23) hx hb hts (fun _ h9 => List.mem_cons_of_mem _ (List.mem_append_right _ h9)) hown hK hg 21 (by decide) rfl rfl (by decide) rfl 1 (by decide) (hts (.fieldLink RX9 13 "JoinMapsModel" "sizes" "[I") (List.mem_cons_of_mem _ (List.mem_append_left _ (List.mem_append_left _ (List.mem_of_getElem? (i := 10) rfl))))) rfl rfl rfl dX9_scatter_154 ?_
            refine lv_iload_n hx hb dX9_scatter_157 rfl (lv_at hl 5 rfl) ?_
            obtain ⟨hP61, hP62, h⟩ := h
            refine q_iald (N := 6) hx hb hK hg 23 (by decide) rfl rfl hP61 hP62 (by decide) dX9_scatter_158 ?_
            have hR63 := GS_R hg 23 (a1 : Int).toNat
            refine lv_sipush (v := iI 200) hx hb dX9_scatter_159 (by decide) ?_
            refine j_ne (tgt := 177) hx hb dX9_scatter_162 (by decide) hR63 (by decide) (fun c64 => ?_) (fun c64 => ?_)
            · have h := h.1 c64
              refine lv_aload_n hx hb dX9_scatter_177 rfl (lv_at hl 4 rfl) ?_
              refine lv_iload_n hx hb dX9_scatter_178 rfl (lv_at hl 5 rfl) ?_
              refine lv_iload hx hb dX9_scatter_179 (lv_at hl 2 rfl) ?_
              refine lv_lload hx hb dX9_scatter_181 (lv_at hl 3 rfl) ?_
              refine q_ldc2 (z := 4096) hx hb hown (hts (.constantLong RX9 197 (4096)) (List.mem_cons_of_mem _ (List.mem_append_left _ (List.mem_append_left _ (List.mem_of_getElem? (i := 12) rfl))))) (by decide) dX9_scatter_183 ?_
              obtain ⟨hR65, hP66, h⟩ := h
              refine q_ldiv hx hb hR65 hP66 (by decide) (by decide) dX9_scatter_186 ?_
              refine q_ldc2 (z := 1000) hx hb hown (hts (.constantLong RX9 175 (1000)) (List.mem_cons_of_mem _ (List.mem_append_left _ (List.mem_append_left _ (List.mem_of_getElem? (i := 13) rfl))))) (by decide) dX9_scatter_187 ?_
              obtain ⟨hR67, hP68, h⟩ := h
              refine q_lrem hx hb hR67 hP68 (by decide) (by decide) dX9_scatter_190 ?_
              refine q_l2i hx hb dX9_scatter_191 ?_
              obtain ⟨hR69, h⟩ := h
              refine call_v (run_V (a := ea E 21) (As := [.int (iI (a1)), .int (iI (((((((v4 * 1103515245) + 12345) % 2147483648) / 65536) % 1001) - 500))), .int (iI ((((((v4 * 1103515245) + 12345) % 2147483648) / 4096) % 1000)))]) (rest := []) ⟨hx, hb, hml, hown, hts⟩ (ctX9_lays l E a1 ((((((v4 * 1103515245) + 12345) % 2147483648) / 65536) % 1001) - 500) (((((v4 * 1103515245) + 12345) % 2147483648) / 4096) % 1000) s43 _ ha1 hR39 hR69 h) (cwV 3 hts gX9_scatter_X9_lays rfl rfl rfl ⟨rfl, hdX9_lays⟩ ⟨Nat.le_of_ble_eq_true rfl, Nat.le_of_ble_eq_true rfl⟩) hK hN hg (recv_x (ci := 9) (C := RX9) (T := TX9) (N := 27) hg hK (by decide) rfl (by decide) rfl) rfl hl.1 rfl (cat_sum _ (by simp)) dX9_scatter_192 ⟨Nat.le_refl 0, Nat.le_refl 0⟩) hg (fun s70 H locs hm2 h hg => ?_)
              have hm := hm.tn hm2
              refine lv_iinc (v := iI (v6 + 1)) (lv' := [(6, .int (iI (v6 + 1))), (9, .int (iI (r44))), (8, .int (iI (r41))), (7, .int (iI (((((((v4 * 1103515245) + 12345) % 2147483648) / 65536) % 1001) - 500)))), (4, .long (lI ((((v4 * 1103515245) + 12345) % 2147483648)))), (0, .ref (ea E 21)), (1, .int (iI (a1))), (3, .int (iI (a3)))]) hx hb dX9_scatter_195 hl (k := 7) rfl (iI_add _ _) (by decide) rfl (fun ls hl => ?_)
              refine lv_goto (tgt := 50) hx hb dX9_scatter_198 (by decide) ?_
              exact ih ((((v4 * 1103515245) + 12345) % 2147483648)) (v6 + 1) (s70) _ _ _ hg hm (lv_sub hl [5, 6, 7, 4, 0] rfl) h
            · have h := h.2 c64
              refine lv_aload_n hx hb dX9_scatter_165 rfl (lv_at hl 4 rfl) ?_
              refine lv_iconst (v := iI 1) hx hb dX9_scatter_166 (by decide) ?_
              refine call_v (run_V (a := ea E 21) (As := [.int (iI (1))]) (rest := []) ⟨hx, hb, hml, hown, hts⟩ (ctX9_aside l E 1 s43 _ (by decide) h) (cwV 1 hts gX9_scatter_X9_aside rfl rfl rfl ⟨rfl, hdX9_aside⟩ ⟨Nat.le_of_ble_eq_true rfl, Nat.le_of_ble_eq_true rfl⟩) hK hN hg (recv_x (ci := 9) (C := RX9) (T := TX9) (N := 27) hg hK (by decide) rfl (by decide) rfl) rfl hl.1 rfl (cat_sum _ (by simp)) dX9_scatter_167 ⟨Nat.le_refl 0, Nat.le_refl 0⟩) hg (fun s73 H locs hm2 h hg => ?_)
              have hm := hm.tn hm2
              refine lv_aload_n hx hb dX9_scatter_170 rfl (lv_at hl 4 rfl) ?_
              refine q_ldc (z := (-2000000004)) hx hb hown (hts (.constant RX9 113 (-2000000004)) (List.mem_cons_of_mem _ (List.mem_append_left _ (List.mem_append_left _ (List.mem_of_getElem? (i := 11) rfl))))) (by decide) dX9_scatter_171 ?_
              refine call_i (run_V (a := ea E 21) (As := [.int (iI ((-2000000004)))]) (rest := []) ⟨hx, hb, hml, hown, hts⟩ (ctX9_refuses l E (-2000000004) s73 _ (by decide) h) (cwV 1 hts gX9_scatter_X9_refuses rfl rfl rfl ⟨rfl, hdX9_refuses⟩ ⟨Nat.le_of_ble_eq_true rfl, Nat.le_of_ble_eq_true rfl⟩) hK hN hg (recv_x (ci := 9) (C := RX9) (T := TX9) (N := 27) hg hK (by decide) rfl (by decide) rfl) rfl hl.1 rfl (cat_sum _ (by simp)) dX9_scatter_173 ⟨Nat.le_refl 0, Nat.le_refl 0⟩) hg (fun r77 s76 H locs hz78 hm2 h hg => ?_)
              have hm := hm.tn hm2
              exact ret_i hx hb hr hlocks hg hz78 hm h dX9_scatter_176
        · have h := h.2 c51
          refine lv_aload_n hx hb dX9_scatter_124 rfl (lv_at hl 4 rfl) ?_
          refine lv_iload_n hx hb dX9_scatter_125 rfl (lv_at hl 5 rfl) ?_
          refine lv_iload hx hb dX9_scatter_126 (lv_at hl 1 rfl) ?_
          refine lv_iload hx hb dX9_scatter_128 (lv_at hl 0 rfl) ?_
          refine k_eq (tgt := 140) hx hb dX9_scatter_130 (by decide) (z_R hz45) (fun c79 => ?_) (fun c79 => ?_)
          · have h := h.1 c79
            refine lv_iload hx hb dX9_scatter_140 (lv_at hl 1 rfl) ?_
            refine call_v (run_V (a := ea E 21) (As := [.int (iI (a1)), .int (iI (r41)), .int (iI (r41))]) (rest := []) ⟨hx, hb, hml, hown, hts⟩ (ctX9_goes l E a1 r41 r41 s43 _ ha1 hz42 hz42 h) (cwV 3 hts gX9_scatter_X9_goes rfl rfl rfl ⟨rfl, hdX9_goes⟩ ⟨Nat.le_of_ble_eq_true rfl, Nat.le_of_ble_eq_true rfl⟩) hK hN hg (recv_x (ci := 9) (C := RX9) (T := TX9) (N := 27) hg hK (by decide) rfl (by decide) rfl) rfl hl.1 rfl (cat_sum _ (by simp)) dX9_scatter_142 ⟨Nat.le_refl 0, Nat.le_refl 0⟩) hg (fun s80 H locs hm2 h hg => ?_)
            have hm := hm.tn hm2
            refine lv_goto (tgt := 195) hx hb dX9_scatter_145 (by decide) ?_
            refine lv_iinc (v := iI (v6 + 1)) (lv' := [(6, .int (iI (v6 + 1))), (9, .int (iI (r44))), (8, .int (iI (r41))), (7, .int (iI (((((((v4 * 1103515245) + 12345) % 2147483648) / 65536) % 1001) - 500)))), (4, .long (lI ((((v4 * 1103515245) + 12345) % 2147483648)))), (0, .ref (ea E 21)), (1, .int (iI (a1))), (3, .int (iI (a3)))]) hx hb dX9_scatter_195 hl (k := 7) rfl (iI_add _ _) (by decide) rfl (fun ls hl => ?_)
            refine lv_goto (tgt := 50) hx hb dX9_scatter_198 (by decide) ?_
            exact ih ((((v4 * 1103515245) + 12345) % 2147483648)) (v6 + 1) (s80) _ _ _ hg hm (lv_sub hl [5, 6, 7, 4, 0] rfl) h
          · have h := h.2 c79
            refine lv_iload hx hb dX9_scatter_133 (lv_at hl 1 rfl) ?_
            refine lv_iconst (v := iI 1) hx hb dX9_scatter_135 (by decide) ?_
            refine q_iadd hx hb dX9_scatter_136 ?_
            refine lv_goto (tgt := 142) hx hb dX9_scatter_137 (by decide) ?_
            obtain ⟨hR83, h⟩ := h
            refine call_v (run_V (a := ea E 21) (As := [.int (iI (a1)), .int (iI (r41)), .int (iI ((r41 + 1)))]) (rest := []) ⟨hx, hb, hml, hown, hts⟩ (ctX9_goes l E a1 r41 (r41 + 1) s43 _ ha1 hz42 hR83 h) (cwV 3 hts gX9_scatter_X9_goes rfl rfl rfl ⟨rfl, hdX9_goes⟩ ⟨Nat.le_of_ble_eq_true rfl, Nat.le_of_ble_eq_true rfl⟩) hK hN hg (recv_x (ci := 9) (C := RX9) (T := TX9) (N := 27) hg hK (by decide) rfl (by decide) rfl) rfl hl.1 rfl (cat_sum _ (by simp)) dX9_scatter_142 ⟨Nat.le_refl 0, Nat.le_refl 0⟩) hg (fun s84 H locs hm2 h hg => ?_)
            have hm := hm.tn hm2
            refine lv_goto (tgt := 195) hx hb dX9_scatter_145 (by decide) ?_
            refine lv_iinc (v := iI (v6 + 1)) (lv' := [(6, .int (iI (v6 + 1))), (9, .int (iI (r44))), (8, .int (iI (r41))), (7, .int (iI (((((((v4 * 1103515245) + 12345) % 2147483648) / 65536) % 1001) - 500)))), (4, .long (lI ((((v4 * 1103515245) + 12345) % 2147483648)))), (0, .ref (ea E 21)), (1, .int (iI (a1))), (3, .int (iI (a3)))]) hx hb dX9_scatter_195 hl (k := 7) rfl (iI_add _ _) (by decide) rfl (fun ls hl => ?_)
            refine lv_goto (tgt := 50) hx hb dX9_scatter_198 (by decide) ?_
            exact ih ((((v4 * 1103515245) + 12345) % 2147483648)) (v6 + 1) (s84) _ _ _ hg hm (lv_sub hl [5, 6, 7, 4, 0] rfl) h
  refine lv_iload_n hx hb dX9_scatter_0 rfl (lv_at hl 1 rfl) ?_
  refine call_z (run_S (As := [.int (iI (a1))]) (rest := []) ⟨hx, hb, hml, hown, hts⟩ (ctX9_isMap l E a1 σ _ ha1 h) (va_cwS 1 hts gX9_scatter_X9_isMap rfl rfl rfl hdX9_isMap ⟨Nat.le_of_ble_eq_true rfl, Nat.le_of_ble_eq_true rfl⟩) hK hN hg rfl hl.1 rfl (cat_sum _ (by simp)) dX9_scatter_1 ⟨Nat.le_refl 0, Nat.le_refl 0⟩) hg (fun r2 s1 H locs hz3 hm2 h hg => ?_)
  have hm := hm.tn hm2
  refine k_eq (tgt := 31) hx hb dX9_scatter_4 (by decide) (z_R hz3) (fun c4 => ?_) (fun c4 => ?_)
  · have h := h.1 c4
    refine lv_aload_n hx hb dX9_scatter_31 rfl (lv_at hl 0 rfl) ?_
    refine q_ldc (z := (-2000000002)) hx hb hown (hts (.constant RX9 61 (-2000000002)) (List.mem_cons_of_mem _ (List.mem_append_left _ (List.mem_append_left _ (List.mem_of_getElem? (i := 2) rfl))))) (by decide) dX9_scatter_32 ?_
    refine call_i (run_V (a := ea E 21) (As := [.int (iI ((-2000000002)))]) (rest := []) ⟨hx, hb, hml, hown, hts⟩ (ctX9_refuses l E (-2000000002) s1 _ (by decide) h) (cwV 1 hts gX9_scatter_X9_refuses rfl rfl rfl ⟨rfl, hdX9_refuses⟩ ⟨Nat.le_of_ble_eq_true rfl, Nat.le_of_ble_eq_true rfl⟩) hK hN hg (recv_x (ci := 9) (C := RX9) (T := TX9) (N := 27) hg hK (by decide) rfl (by decide) rfl) rfl hl.1 rfl (cat_sum _ (by simp)) dX9_scatter_34 ⟨Nat.le_refl 0, Nat.le_refl 0⟩) hg (fun r6 s5 H locs hz7 hm2 h hg => ?_)
    have hm := hm.tn hm2
    exact ret_i hx hb hr hlocks hg hz7 hm h dX9_scatter_37
  · have h := h.2 c4
    refine lv_iload_n hx hb dX9_scatter_7 rfl (lv_at hl 2 rfl) ?_
    refine q_i2l hx hb ha2 dX9_scatter_8 ?_
    refine lv_lconst (v := lI 0) hx hb dX9_scatter_9 (by decide) ?_
    refine q_ldc2 (z := 999999) hx hb hown (hts (.constantLong RX9 177 (999999)) (List.mem_cons_of_mem _ (List.mem_append_left _ (List.mem_append_left _ (List.mem_of_getElem? (i := 0) rfl))))) (by decide) dX9_scatter_10 ?_
    refine call_z (run_S (As := [.long (lI (a2)), .long (lI (0)), .long (lI (999999))]) (rest := []) ⟨hx, hb, hml, hown, hts⟩ (ctX9_in l E a2 0 999999 s1 _ (R64_of ha2) (by decide) (by decide) h) (va_cwS 3 hts gX9_scatter_X9_in rfl rfl rfl hdX9_in ⟨Nat.le_of_ble_eq_true rfl, Nat.le_of_ble_eq_true rfl⟩) hK hN hg rfl hl.1 rfl (cat_sum _ (by simp)) dX9_scatter_13 ⟨Nat.le_refl 0, Nat.le_refl 0⟩) hg (fun r9 s8 H locs hz10 hm2 h hg => ?_)
    have hm := hm.tn hm2
    refine k_eq (tgt := 31) hx hb dX9_scatter_16 (by decide) (z_R hz10) (fun c11 => ?_) (fun c11 => ?_)
    · have h := h.1 c11
      refine lv_aload_n hx hb dX9_scatter_31 rfl (lv_at hl 0 rfl) ?_
      refine q_ldc (z := (-2000000002)) hx hb hown (hts (.constant RX9 61 (-2000000002)) (List.mem_cons_of_mem _ (List.mem_append_left _ (List.mem_append_left _ (List.mem_of_getElem? (i := 2) rfl))))) (by decide) dX9_scatter_32 ?_
      refine call_i (run_V (a := ea E 21) (As := [.int (iI ((-2000000002)))]) (rest := []) ⟨hx, hb, hml, hown, hts⟩ (ctX9_refuses l E (-2000000002) s8 _ (by decide) h) (cwV 1 hts gX9_scatter_X9_refuses rfl rfl rfl ⟨rfl, hdX9_refuses⟩ ⟨Nat.le_of_ble_eq_true rfl, Nat.le_of_ble_eq_true rfl⟩) hK hN hg (recv_x (ci := 9) (C := RX9) (T := TX9) (N := 27) hg hK (by decide) rfl (by decide) rfl) rfl hl.1 rfl (cat_sum _ (by simp)) dX9_scatter_34 ⟨Nat.le_refl 0, Nat.le_refl 0⟩) hg (fun r13 s12 H locs hz14 hm2 h hg => ?_)
      have hm := hm.tn hm2
      exact ret_i hx hb hr hlocks hg hz14 hm h dX9_scatter_37
    · have h := h.2 c11
      refine lv_iload_n hx hb dX9_scatter_19 rfl (lv_at hl 3 rfl) ?_
      refine q_i2l hx hb ha3 dX9_scatter_20 ?_
      refine lv_lconst (v := lI 0) hx hb dX9_scatter_21 (by decide) ?_
      refine q_ldc2 (z := 100) hx hb hown (hts (.constantLong RX9 179 (100)) (List.mem_cons_of_mem _ (List.mem_append_left _ (List.mem_append_left _ (List.mem_of_getElem? (i := 1) rfl))))) (by decide) dX9_scatter_22 ?_
      refine call_z (run_S (As := [.long (lI (a3)), .long (lI (0)), .long (lI (100))]) (rest := []) ⟨hx, hb, hml, hown, hts⟩ (ctX9_in l E a3 0 100 s8 _ (R64_of ha3) (by decide) (by decide) h) (va_cwS 3 hts gX9_scatter_X9_in rfl rfl rfl hdX9_in ⟨Nat.le_of_ble_eq_true rfl, Nat.le_of_ble_eq_true rfl⟩) hK hN hg rfl hl.1 rfl (cat_sum _ (by simp)) dX9_scatter_25 ⟨Nat.le_refl 0, Nat.le_refl 0⟩) hg (fun r16 s15 H locs hz17 hm2 h hg => ?_)
      have hm := hm.tn hm2
      refine k_ne (tgt := 38) hx hb dX9_scatter_28 (by decide) (z_R hz17) (fun c18 => ?_) (fun c18 => ?_)
      · have h := h.1 c18
        refine lv_aload_n hx hb dX9_scatter_38 rfl (lv_at hl 0 rfl) ?_
        refine lv_iconst (v := iI 0) hx hb dX9_scatter_39 (by decide) ?_
        refine call_v (run_V (a := ea E 21) (As := [.int (iI (0))]) (rest := []) ⟨hx, hb, hml, hown, hts⟩ (ctX9_aside l E 0 s15 _ (by decide) h) (cwV 1 hts gX9_scatter_X9_aside rfl rfl rfl ⟨rfl, hdX9_aside⟩ ⟨Nat.le_of_ble_eq_true rfl, Nat.le_of_ble_eq_true rfl⟩) hK hN hg (recv_x (ci := 9) (C := RX9) (T := TX9) (N := 27) hg hK (by decide) rfl (by decide) rfl) rfl hl.1 rfl (cat_sum _ (by simp)) dX9_scatter_40 ⟨Nat.le_refl 0, Nat.le_refl 0⟩) hg (fun s19 H locs hm2 h hg => ?_)
        have hm := hm.tn hm2
        refine lv_iload_n hx hb dX9_scatter_43 rfl (lv_at hl 2 rfl) ?_
        refine q_i2l hx hb ha2 dX9_scatter_44 ?_
        refine lv_lstore (i := 4) (lv' := [(4, .long (lI (a2))), (0, .ref (ea E 21)), (1, .int (iI (a1))), (2, .int (iI (a2))), (3, .int (iI (a3)))]) hx hb dX9_scatter_45 hl (by decide) rfl (fun ls hl => ?_)
        refine lv_iconst (v := iI 0) hx hb dX9_scatter_47 (by decide) ?_
        refine lv_istore (i := 6) (lv' := [(6, .int (iI (0))), (4, .long (lI (a2))), (0, .ref (ea E 21)), (1, .int (iI (a1))), (2, .int (iI (a2))), (3, .int (iI (a3)))]) hx hb dX9_scatter_48 hl (by decide) rfl (fun ls hl => ?_)
        obtain ⟨kk, h⟩ := h
        exact J50  kk (a2) (0) (s19) _ _ _ hg hm (lv_sub hl [2, 3, 5, 1, 0] rfl) h
      · have h := h.2 c18
        refine lv_aload_n hx hb dX9_scatter_31 rfl (lv_at hl 0 rfl) ?_
        refine q_ldc (z := (-2000000002)) hx hb hown (hts (.constant RX9 61 (-2000000002)) (List.mem_cons_of_mem _ (List.mem_append_left _ (List.mem_append_left _ (List.mem_of_getElem? (i := 2) rfl))))) (by decide) dX9_scatter_32 ?_
        refine call_i (run_V (a := ea E 21) (As := [.int (iI ((-2000000002)))]) (rest := []) ⟨hx, hb, hml, hown, hts⟩ (ctX9_refuses l E (-2000000002) s15 _ (by decide) h) (cwV 1 hts gX9_scatter_X9_refuses rfl rfl rfl ⟨rfl, hdX9_refuses⟩ ⟨Nat.le_of_ble_eq_true rfl, Nat.le_of_ble_eq_true rfl⟩) hK hN hg (recv_x (ci := 9) (C := RX9) (T := TX9) (N := 27) hg hK (by decide) rfl (by decide) rfl) rfl hl.1 rfl (cat_sum _ (by simp)) dX9_scatter_34 ⟨Nat.le_refl 0, Nat.le_refl 0⟩) hg (fun r23 s22 H locs hz24 hm2 h hg => ?_)
        have hm := hm.tn hm2
        exact ret_i hx hb hr hlocks hg hz24 hm h dX9_scatter_37
theorem hdX9_sound : yX9_sound.cls ≠ "java/lang/invoke/MethodHandle" ∧ yX9_sound.cls ≠ "java/lang/invoke/VarHandle" ∧ (parseMethodDescriptor yX9_sound.desc).map (fun d => d.parameters.length) = some 1 := by decide +kernel
set_option maxRecDepth 100000 in
set_option maxHeartbeats 4000000 in
theorem ctX9_sound (l : Launch) (E : Ev) (a1 : Int) (σ : SS) (Q : Int → SS → Prop) (ha1 : R32 a1) (h : wX9_sound a1 σ Q) : Met l yX9_sound wsX9_sound ({ frames := 2, cells := 0, slots := 0, locals := 45 } : Room) (Pc E σ [.ref (ea E 21), .int (iI (a1))]) (Qi E (sz σ) σ Q) 0 0 (Av E) := by
  rw [wX9_sound] at h
  refine Met.ofW (cc := cX9_sound) (maxL := 2) (ret := (some .int)) (by decide) rfl ?_
  intro p e s m args below meth c s₁ B hml hv
  obtain ⟨rfl, hH, hK, hN⟩ := hv
  have hx := B.exec
  have hb := B.bytes
  have hr := B.returns
  have hts := atoms_spec (ws := wsX9_sound) B.pre
  have hown : s.vm.findClass RX9 = some m.cls := findClass_of_methodNamed B.named
  have hlocks := B.notSynchronized
  have hg : GS E σ s s.heap [] := ⟨hH, va_S.rf⟩
  have hm : Mo (sz σ) σ σ := Mo.rf (Nat.le_refl _)
  have hl := ent (vs := [.ref (ea E 21), .int (iI (a1))]) (n := 2) (cats_x (cats_i cats_nil)) (Nat.le_of_ble_eq_true rfl)
  rw [lg_entry_eq]
  generalize (lg_sl ([.ref (ea E 21), .int (iI (a1))]) ++ List.replicate (2 - (lg_sl ([.ref (ea E 21), .int (iI (a1))])).length) Slot.unset).toArray = ls at hl ⊢
  have hl : lv_has ls 2 [(0, .ref (ea E 21)), (1, .int (iI (a1)))] := hl
  refine lv_iload_n hx hb dX9_sound_0 rfl (lv_at hl 1 rfl) ?_
  refine call_z (run_S (As := [.int (iI (a1))]) (rest := []) ⟨hx, hb, hml, hown, hts⟩ (ctX9_isMap l E a1 σ _ ha1 h) (va_cwS 1 hts gX9_sound_X9_isMap rfl rfl rfl hdX9_isMap ⟨Nat.le_of_ble_eq_true rfl, Nat.le_of_ble_eq_true rfl⟩) hK hN hg rfl hl.1 rfl (cat_sum _ (by simp)) dX9_sound_1 ⟨Nat.le_refl 0, Nat.le_refl 0⟩) hg (fun r2 s1 H locs hz3 hm2 h hg => ?_)
  have hm := hm.tn hm2
  refine k_eq (tgt := 11) hx hb dX9_sound_4 (by decide) (z_R hz3) (fun c4 => ?_) (fun c4 => ?_)
  · have h := h.1 c4
    refine lv_aload_n hx hb dX9_sound_11 rfl (lv_at hl 0 rfl) ?_
    refine q_ldc (z := (-2000000002)) hx hb hown (hts (.constant RX9 61 (-2000000002)) (List.mem_cons_of_mem _ (List.mem_append_left _ (List.mem_of_getElem? (i := 0) rfl)))) (by decide) dX9_sound_12 ?_
    refine call_i (run_V (a := ea E 21) (As := [.int (iI ((-2000000002)))]) (rest := []) ⟨hx, hb, hml, hown, hts⟩ (ctX9_refuses l E (-2000000002) s1 _ (by decide) h) (cwV 1 hts gX9_sound_X9_refuses rfl rfl rfl ⟨rfl, hdX9_refuses⟩ ⟨Nat.le_of_ble_eq_true rfl, Nat.le_of_ble_eq_true rfl⟩) hK hN hg (recv_x (ci := 9) (C := RX9) (T := TX9) (N := 27) hg hK (by decide) rfl (by decide) rfl) rfl hl.1 rfl (cat_sum _ (by simp)) dX9_sound_14 ⟨Nat.le_refl 0, Nat.le_refl 0⟩) hg (fun r6 s5 H locs hz7 hm2 h hg => ?_)
    have hm := hm.tn hm2
    exact ret_i hx hb hr hlocks hg hz7 hm h dX9_sound_17
  · have h := h.2 c4
    refine lv_iconst (v := iI 1) hx hb dX9_sound_7 (by decide) ?_
    refine lv_goto (tgt := 17) hx hb dX9_sound_8 (by decide) ?_
    exact ret_i hx hb hr hlocks hg (by decide) hm h dX9_sound_17
theorem hdX9_mixer : yX9_mixer.cls ≠ "java/lang/invoke/MethodHandle" ∧ yX9_mixer.cls ≠ "java/lang/invoke/VarHandle" ∧ (parseMethodDescriptor yX9_mixer.desc).map (fun d => d.parameters.length) = some 1 := by decide +kernel
set_option maxRecDepth 100000 in
set_option maxHeartbeats 4000000 in
theorem ctX9_mixer (l : Launch) (E : Ev) (a1 : Int) (σ : SS) (Q : Int → SS → Prop) (ha1 : R32 a1) (h : wX9_mixer a1 σ Q) : Met l yX9_mixer wsX9_mixer ({ frames := 1, cells := 0, slots := 0, locals := 25 } : Room) (Pc E σ [.ref (ea E 21), .int (iI (a1))]) (Qi E (sz σ) σ Q) 0 0 (Av E) := by
  rw [wX9_mixer] at h
  refine Met.ofW (cc := cX9_mixer) (maxL := 3) (ret := (some .int)) (by decide) rfl ?_
  intro p e s m args below meth c s₁ B hml hv
  obtain ⟨rfl, hH, hK, hN⟩ := hv
  have hx := B.exec
  have hb := B.bytes
  have hr := B.returns
  have hts := atoms_spec (ws := wsX9_mixer) B.pre
  have hown : s.vm.findClass RX9 = some m.cls := findClass_of_methodNamed B.named
  have hlocks := B.notSynchronized
  have hg : GS E σ s s.heap [] := ⟨hH, va_S.rf⟩
  have hm : Mo (sz σ) σ σ := Mo.rf (Nat.le_refl _)
  have hl := ent (vs := [.ref (ea E 21), .int (iI (a1))]) (n := 3) (cats_x (cats_i cats_nil)) (Nat.le_of_ble_eq_true rfl)
  rw [lg_entry_eq]
  generalize (lg_sl ([.ref (ea E 21), .int (iI (a1))]) ++ List.replicate (3 - (lg_sl ([.ref (ea E 21), .int (iI (a1))])).length) Slot.unset).toArray = ls at hl ⊢
  have hl : lv_has ls 3 [(0, .ref (ea E 21)), (1, .int (iI (a1)))] := hl
  refine lv_iload_n hx hb dX9_mixer_0 rfl (lv_at hl 1 rfl) ?_
  refine q_i2l hx hb ha1 dX9_mixer_1 ?_
  refine lv_lconst (v := lI 0) hx hb dX9_mixer_2 (by decide) ?_
  refine q_ldc2 (z := 5) hx hb hown (hts (.constantLong RX9 66 (5)) (List.mem_cons_of_mem _ (List.mem_append_left _ (List.mem_of_getElem? (i := 0) rfl)))) (by decide) dX9_mixer_3 ?_
  refine call_z (run_S (As := [.long (lI (a1)), .long (lI (0)), .long (lI (5))]) (rest := []) ⟨hx, hb, hml, hown, hts⟩ (ctX9_in l E a1 0 5 σ _ (R64_of ha1) (by decide) (by decide) h) (va_cwS 3 hts gX9_mixer_X9_in rfl rfl rfl hdX9_in ⟨Nat.le_of_ble_eq_true rfl, Nat.le_of_ble_eq_true rfl⟩) hK hN hg rfl hl.1 rfl (cat_sum _ (by simp)) dX9_mixer_6 ⟨Nat.le_refl 0, Nat.le_refl 0⟩) hg (fun r2 s1 H locs hz3 hm2 h hg => ?_)
  have hm := hm.tn hm2
  refine k_ne (tgt := 19) hx hb dX9_mixer_9 (by decide) (z_R hz3) (fun c4 => ?_) (fun c4 => ?_)
  · have h := h.1 c4
    refine lv_aload_n hx hb dX9_mixer_19 rfl (lv_at hl 0 rfl) ?_
    refine q_geti (ci := 9) (C := RX9) (T := TX9) (N := 27) hx hb hts (fun _ h9 => List.mem_cons_of_mem _ (List.mem_append_right _ h9)) hown hK hg 21 (by decide) rfl rfl (by decide) rfl 9 (by decide) (hts (.fieldLink RX9 141 "JoinMapsModel" "mixer" "I") (List.mem_cons_of_mem _ (List.mem_append_left _ (List.mem_of_getElem? (i := 2) rfl)))) rfl rfl dX9_mixer_20 ?_
    have hR5 := GS_R hg 21 9
    refine lv_istore_n (i := 2) (lv' := [(2, .int (iI ((sn s1 21 9)))), (0, .ref (ea E 21)), (1, .int (iI (a1)))]) hx hb dX9_mixer_23 rfl hl (by decide) rfl (fun ls hl => ?_)
    refine lv_aload_n hx hb dX9_mixer_24 rfl (lv_at hl 1 rfl) ?_
    refine lv_iload_n hx hb dX9_mixer_25 rfl (lv_at hl 2 rfl) ?_
    refine q_puti (ci := 9) (C := RX9) (T := TX9) (N := 27) hx hb hts (fun _ h9 => List.mem_cons_of_mem _ (List.mem_append_right _ h9)) tyX9 tyX9_ok nmX9 hown hK hg 21 (by decide) rfl rfl (by decide) rfl 9 (by decide) (hts (.fieldLink RX9 141 "JoinMapsModel" "mixer" "I") (List.mem_cons_of_mem _ (List.mem_append_left _ (List.mem_of_getElem? (i := 2) rfl)))) rfl rfl (by decide +kernel) rfl ha1 dX9_mixer_26 (fun H locs hg => ?_)
    refine lv_iload_n hx hb dX9_mixer_29 rfl (lv_at hl 0 rfl) ?_
    exact ret_i hx hb hr hlocks hg hR5 hm h dX9_mixer_30
  · have h := h.2 c4
    refine lv_aload_n hx hb dX9_mixer_12 rfl (lv_at hl 0 rfl) ?_
    refine q_ldc (z := (-2000000002)) hx hb hown (hts (.constant RX9 61 (-2000000002)) (List.mem_cons_of_mem _ (List.mem_append_left _ (List.mem_of_getElem? (i := 1) rfl)))) (by decide) dX9_mixer_13 ?_
    refine call_i (run_V (a := ea E 21) (As := [.int (iI ((-2000000002)))]) (rest := []) ⟨hx, hb, hml, hown, hts⟩ (ctX9_refuses l E (-2000000002) s1 _ (by decide) h) (cwV 1 hts gX9_mixer_X9_refuses rfl rfl rfl ⟨rfl, hdX9_refuses⟩ ⟨Nat.le_of_ble_eq_true rfl, Nat.le_of_ble_eq_true rfl⟩) hK hN hg (recv_x (ci := 9) (C := RX9) (T := TX9) (N := 27) hg hK (by decide) rfl (by decide) rfl) rfl hl.1 rfl (cat_sum _ (by simp)) dX9_mixer_15 ⟨Nat.le_refl 0, Nat.le_refl 0⟩) hg (fun r7 s6 H locs hz8 hm2 h hg => ?_)
    have hm := hm.tn hm2
    exact ret_i hx hb hr hlocks hg hz8 hm h dX9_mixer_18
theorem hdX9_type : yX9_type.cls ≠ "java/lang/invoke/MethodHandle" ∧ yX9_type.cls ≠ "java/lang/invoke/VarHandle" ∧ (parseMethodDescriptor yX9_type.desc).map (fun d => d.parameters.length) = some 1 := by decide +kernel
set_option maxRecDepth 100000 in
set_option maxHeartbeats 4000000 in
theorem ctX9_type (l : Launch) (E : Ev) (a1 : Int) (σ : SS) (Q : Int → SS → Prop) (ha1 : R32 a1) (h : wX9_type a1 σ Q) : Met l yX9_type wsX9_type ({ frames := 1, cells := 0, slots := 0, locals := 25 } : Room) (Pc E σ [.ref (ea E 21), .int (iI (a1))]) (Qi E (sz σ) σ Q) 0 0 (Av E) := by
  rw [wX9_type] at h
  refine Met.ofW (cc := cX9_type) (maxL := 2) (ret := (some .int)) (by decide) rfl ?_
  intro p e s m args below meth c s₁ B hml hv
  obtain ⟨rfl, hH, hK, hN⟩ := hv
  have hx := B.exec
  have hb := B.bytes
  have hr := B.returns
  have hts := atoms_spec (ws := wsX9_type) B.pre
  have hown : s.vm.findClass RX9 = some m.cls := findClass_of_methodNamed B.named
  have hlocks := B.notSynchronized
  have hg : GS E σ s s.heap [] := ⟨hH, va_S.rf⟩
  have hm : Mo (sz σ) σ σ := Mo.rf (Nat.le_refl _)
  have hl := ent (vs := [.ref (ea E 21), .int (iI (a1))]) (n := 2) (cats_x (cats_i cats_nil)) (Nat.le_of_ble_eq_true rfl)
  rw [lg_entry_eq]
  generalize (lg_sl ([.ref (ea E 21), .int (iI (a1))]) ++ List.replicate (2 - (lg_sl ([.ref (ea E 21), .int (iI (a1))])).length) Slot.unset).toArray = ls at hl ⊢
  have hl : lv_has ls 2 [(0, .ref (ea E 21)), (1, .int (iI (a1)))] := hl
  refine lv_iload_n hx hb dX9_type_0 rfl (lv_at hl 1 rfl) ?_
  refine q_i2l hx hb ha1 dX9_type_1 ?_
  refine lv_lconst (v := lI 0) hx hb dX9_type_2 (by decide) ?_
  refine q_ldc2 (z := 127) hx hb hown (hts (.constantLong RX9 202 (127)) (List.mem_cons_of_mem _ (List.mem_append_left _ (List.mem_of_getElem? (i := 0) rfl)))) (by decide) dX9_type_3 ?_
  refine call_z (run_S (As := [.long (lI (a1)), .long (lI (0)), .long (lI (127))]) (rest := []) ⟨hx, hb, hml, hown, hts⟩ (ctX9_in l E a1 0 127 σ _ (R64_of ha1) (by decide) (by decide) h) (va_cwS 3 hts gX9_type_X9_in rfl rfl rfl hdX9_in ⟨Nat.le_of_ble_eq_true rfl, Nat.le_of_ble_eq_true rfl⟩) hK hN hg rfl hl.1 rfl (cat_sum _ (by simp)) dX9_type_6 ⟨Nat.le_refl 0, Nat.le_refl 0⟩) hg (fun r2 s1 H locs hz3 hm2 h hg => ?_)
  have hm := hm.tn hm2
  refine k_ne (tgt := 19) hx hb dX9_type_9 (by decide) (z_R hz3) (fun c4 => ?_) (fun c4 => ?_)
  · have h := h.1 c4
    refine lv_aload_n hx hb dX9_type_19 rfl (lv_at hl 0 rfl) ?_
    refine q_geti (ci := 9) (C := RX9) (T := TX9) (N := 27) hx hb hts (fun _ h9 => List.mem_cons_of_mem _ (List.mem_append_right _ h9)) hown hK hg 21 (by decide) rfl rfl (by decide) rfl 11 (by decide) (hts (.fieldLink RX9 204 "JoinMapsModel" "typed" "I") (List.mem_cons_of_mem _ (List.mem_append_left _ (List.mem_of_getElem? (i := 2) rfl)))) rfl rfl dX9_type_20 ?_
    have hR5 := GS_R hg 21 11
    refine lv_bipush (v := iI 120) hx hb dX9_type_23 (by decide) ?_
    refine j_ne (tgt := 35) hx hb dX9_type_25 (by decide) hR5 (by decide) (fun c6 => ?_) (fun c6 => ?_)
    · have h := h.1 c6
      refine lv_aload_n hx hb dX9_type_35 rfl (lv_at hl 0 rfl) ?_
      refine q_getx (ci := 9) (C := RX9) (T := TX9) (N := 27) (j := 30) hx hb hts (fun _ h9 => List.mem_cons_of_mem _ (List.mem_append_right _ h9)) hown hK hg 21 (by decide) rfl rfl (by decide) rfl 10 (by decide) (hts (.fieldLink RX9 34 "JoinMapsModel" "text" "[I") (List.mem_cons_of_mem _ (List.mem_append_left _ (List.mem_of_getElem? (i := 4) rfl)))) rfl rfl rfl dX9_type_36 ?_
      refine lv_aload_n hx hb dX9_type_39 rfl (lv_at hl 0 rfl) ?_
      refine q_geti (ci := 9) (C := RX9) (T := TX9) (N := 27) hx hb hts (fun _ h9 => List.mem_cons_of_mem _ (List.mem_append_right _ h9)) hown hK hg 21 (by decide) rfl rfl (by decide) rfl 11 (by decide) (hts (.fieldLink RX9 204 "JoinMapsModel" "typed" "I") (List.mem_cons_of_mem _ (List.mem_append_left _ (List.mem_of_getElem? (i := 2) rfl)))) rfl rfl dX9_type_40 ?_
      have hR7 := GS_R hg 21 11
      refine lv_iload_n hx hb dX9_type_43 rfl (lv_at hl 1 rfl) ?_
      obtain ⟨hP8, hP9, h⟩ := h
      refine q_iast (N := 120) hx hb hK hg 30 (by decide) rfl rfl hP8 hP9 (by decide) ha1 dX9_type_44 (fun H locs hg => ?_)
      refine lv_aload_n hx hb dX9_type_45 rfl (lv_at hl 0 rfl) ?_
      refine lv_dup hx hb dX9_type_46 rfl ?_
      refine q_geti (ci := 9) (C := RX9) (T := TX9) (N := 27) hx hb hts (fun _ h9 => List.mem_cons_of_mem _ (List.mem_append_right _ h9)) hown hK hg 21 (by decide) rfl rfl (by decide) rfl 11 (by decide) (hts (.fieldLink RX9 204 "JoinMapsModel" "typed" "I") (List.mem_cons_of_mem _ (List.mem_append_left _ (List.mem_of_getElem? (i := 2) rfl)))) rfl rfl dX9_type_47 ?_
      have hR10 := GS_R hg 21 11
      refine lv_iconst (v := iI 1) hx hb dX9_type_50 (by decide) ?_
      refine q_iadd hx hb dX9_type_51 ?_
      obtain ⟨hR11, h⟩ := h
      refine q_puti (ci := 9) (C := RX9) (T := TX9) (N := 27) hx hb hts (fun _ h9 => List.mem_cons_of_mem _ (List.mem_append_right _ h9)) tyX9 tyX9_ok nmX9 hown hK hg 21 (by decide) rfl rfl (by decide) rfl 11 (by decide) (hts (.fieldLink RX9 204 "JoinMapsModel" "typed" "I") (List.mem_cons_of_mem _ (List.mem_append_left _ (List.mem_of_getElem? (i := 2) rfl)))) rfl rfl (by decide +kernel) rfl hR11 dX9_type_52 (fun H locs hg => ?_)
      refine lv_aload_n hx hb dX9_type_55 rfl (lv_at hl 0 rfl) ?_
      refine q_geti (ci := 9) (C := RX9) (T := TX9) (N := 27) hx hb hts (fun _ h9 => List.mem_cons_of_mem _ (List.mem_append_right _ h9)) hown hK hg 21 (by decide) rfl rfl (by decide) rfl 11 (by decide) (hts (.fieldLink RX9 204 "JoinMapsModel" "typed" "I") (List.mem_cons_of_mem _ (List.mem_append_left _ (List.mem_of_getElem? (i := 2) rfl)))) rfl rfl dX9_type_56 ?_
      have hR12 := GS_R hg 21 11
      exact ret_i hx hb hr hlocks hg hR12 hm h dX9_type_59
    · have h := h.2 c6
      refine lv_aload_n hx hb dX9_type_28 rfl (lv_at hl 0 rfl) ?_
      refine q_ldc (z := (-2000000004)) hx hb hown (hts (.constant RX9 113 (-2000000004)) (List.mem_cons_of_mem _ (List.mem_append_left _ (List.mem_of_getElem? (i := 3) rfl)))) (by decide) dX9_type_29 ?_
      refine call_i (run_V (a := ea E 21) (As := [.int (iI ((-2000000004)))]) (rest := []) ⟨hx, hb, hml, hown, hts⟩ (ctX9_refuses l E (-2000000004) s1 _ (by decide) h) (cwV 1 hts gX9_type_X9_refuses rfl rfl rfl ⟨rfl, hdX9_refuses⟩ ⟨Nat.le_of_ble_eq_true rfl, Nat.le_of_ble_eq_true rfl⟩) hK hN hg (recv_x (ci := 9) (C := RX9) (T := TX9) (N := 27) hg hK (by decide) rfl (by decide) rfl) rfl hl.1 rfl (cat_sum _ (by simp)) dX9_type_31 ⟨Nat.le_refl 0, Nat.le_refl 0⟩) hg (fun r14 s13 H locs hz15 hm2 h hg => ?_)
      have hm := hm.tn hm2
      exact ret_i hx hb hr hlocks hg hz15 hm h dX9_type_34
  · have h := h.2 c4
    refine lv_aload_n hx hb dX9_type_12 rfl (lv_at hl 0 rfl) ?_
    refine q_ldc (z := (-2000000002)) hx hb hown (hts (.constant RX9 61 (-2000000002)) (List.mem_cons_of_mem _ (List.mem_append_left _ (List.mem_of_getElem? (i := 1) rfl)))) (by decide) dX9_type_13 ?_
    refine call_i (run_V (a := ea E 21) (As := [.int (iI ((-2000000002)))]) (rest := []) ⟨hx, hb, hml, hown, hts⟩ (ctX9_refuses l E (-2000000002) s1 _ (by decide) h) (cwV 1 hts gX9_type_X9_refuses rfl rfl rfl ⟨rfl, hdX9_refuses⟩ ⟨Nat.le_of_ble_eq_true rfl, Nat.le_of_ble_eq_true rfl⟩) hK hN hg (recv_x (ci := 9) (C := RX9) (T := TX9) (N := 27) hg hK (by decide) rfl (by decide) rfl) rfl hl.1 rfl (cat_sum _ (by simp)) dX9_type_15 ⟨Nat.le_refl 0, Nat.le_refl 0⟩) hg (fun r17 s16 H locs hz18 hm2 h hg => ?_)
    have hm := hm.tn hm2
    exact ret_i hx hb hr hlocks hg hz18 hm h dX9_type_18
theorem hdX9_clear : yX9_clear.cls ≠ "java/lang/invoke/MethodHandle" ∧ yX9_clear.cls ≠ "java/lang/invoke/VarHandle" ∧ (parseMethodDescriptor yX9_clear.desc).map (fun d => d.parameters.length) = some 0 := by decide +kernel
set_option maxRecDepth 100000 in
set_option maxHeartbeats 4000000 in
theorem ctX9_clear (l : Launch) (E : Ev)  (σ : SS) (Q : Int → SS → Prop)  (h : wX9_clear  σ Q) : Met l yX9_clear wsX9_clear ({ frames := 0, cells := 0, slots := 0, locals := 0 } : Room) (Pc E σ [.ref (ea E 21)]) (Qi E (sz σ) σ Q) 0 0 (Av E) := by
  rw [wX9_clear] at h
  refine Met.ofW (cc := cX9_clear) (maxL := 2) (ret := (some .int)) (by decide) rfl ?_
  intro p e s m args below meth c s₁ B hml hv
  obtain ⟨rfl, hH, hK, hN⟩ := hv
  have hx := B.exec
  have hb := B.bytes
  have hr := B.returns
  have hts := atoms_spec (ws := wsX9_clear) B.pre
  have hown : s.vm.findClass RX9 = some m.cls := findClass_of_methodNamed B.named
  have hlocks := B.notSynchronized
  have hg : GS E σ s s.heap [] := ⟨hH, va_S.rf⟩
  have hm : Mo (sz σ) σ σ := Mo.rf (Nat.le_refl _)
  have hl := ent (vs := [.ref (ea E 21)]) (n := 2) (cats_x cats_nil) (Nat.le_of_ble_eq_true rfl)
  rw [lg_entry_eq]
  generalize (lg_sl ([.ref (ea E 21)]) ++ List.replicate (2 - (lg_sl ([.ref (ea E 21)])).length) Slot.unset).toArray = ls at hl ⊢
  have hl : lv_has ls 2 [(0, .ref (ea E 21))] := hl
  refine lv_aload_n hx hb dX9_clear_0 rfl (lv_at hl 0 rfl) ?_
  refine q_geti (ci := 9) (C := RX9) (T := TX9) (N := 27) hx hb hts (fun _ h9 => List.mem_cons_of_mem _ (List.mem_append_right _ h9)) hown hK hg 21 (by decide) rfl rfl (by decide) rfl 11 (by decide) (hts (.fieldLink RX9 204 "JoinMapsModel" "typed" "I") (List.mem_cons_of_mem _ (List.mem_append_left _ (List.mem_of_getElem? (i := 0) rfl)))) rfl rfl dX9_clear_1 ?_
  have hR1 := GS_R hg 21 11
  refine lv_istore_n (i := 1) (lv' := [(1, .int (iI ((sn σ 21 11)))), (0, .ref (ea E 21))]) hx hb dX9_clear_4 rfl hl (by decide) rfl (fun ls hl => ?_)
  refine lv_aload_n hx hb dX9_clear_5 rfl (lv_at hl 1 rfl) ?_
  refine lv_iconst (v := iI 0) hx hb dX9_clear_6 (by decide) ?_
  refine q_puti (ci := 9) (C := RX9) (T := TX9) (N := 27) hx hb hts (fun _ h9 => List.mem_cons_of_mem _ (List.mem_append_right _ h9)) tyX9 tyX9_ok nmX9 hown hK hg 21 (by decide) rfl rfl (by decide) rfl 11 (by decide) (hts (.fieldLink RX9 204 "JoinMapsModel" "typed" "I") (List.mem_cons_of_mem _ (List.mem_append_left _ (List.mem_of_getElem? (i := 0) rfl)))) rfl rfl (by decide +kernel) rfl (by decide) dX9_clear_7 (fun H locs hg => ?_)
  refine lv_iload_n hx hb dX9_clear_10 rfl (lv_at hl 0 rfl) ?_
  exact ret_i hx hb hr hlocks hg hR1 hm h dX9_clear_11
theorem hdX9_byteAt : yX9_byteAt.cls ≠ "java/lang/invoke/MethodHandle" ∧ yX9_byteAt.cls ≠ "java/lang/invoke/VarHandle" ∧ (parseMethodDescriptor yX9_byteAt.desc).map (fun d => d.parameters.length) = some 1 := by decide +kernel
set_option maxRecDepth 100000 in
set_option maxHeartbeats 4000000 in
theorem ctX9_byteAt (l : Launch) (E : Ev) (a1 : Int) (σ : SS) (Q : Int → SS → Prop) (ha1 : R32 a1) (h : wX9_byteAt a1 σ Q) : Met l yX9_byteAt wsX9_byteAt ({ frames := 0, cells := 0, slots := 0, locals := 0 } : Room) (Pc E σ [.ref (ea E 21), .int (iI (a1))]) (Qi E (sz σ) σ Q) 0 0 (Av E) := by
  rw [wX9_byteAt] at h
  refine Met.ofW (cc := cX9_byteAt) (maxL := 2) (ret := (some .int)) (by decide) rfl ?_
  intro p e s m args below meth c s₁ B hml hv
  obtain ⟨rfl, hH, hK, hN⟩ := hv
  have hx := B.exec
  have hb := B.bytes
  have hr := B.returns
  have hts := atoms_spec (ws := wsX9_byteAt) B.pre
  have hown : s.vm.findClass RX9 = some m.cls := findClass_of_methodNamed B.named
  have hlocks := B.notSynchronized
  have hg : GS E σ s s.heap [] := ⟨hH, va_S.rf⟩
  have hm : Mo (sz σ) σ σ := Mo.rf (Nat.le_refl _)
  have hl := ent (vs := [.ref (ea E 21), .int (iI (a1))]) (n := 2) (cats_x (cats_i cats_nil)) (Nat.le_of_ble_eq_true rfl)
  rw [lg_entry_eq]
  generalize (lg_sl ([.ref (ea E 21), .int (iI (a1))]) ++ List.replicate (2 - (lg_sl ([.ref (ea E 21), .int (iI (a1))])).length) Slot.unset).toArray = ls at hl ⊢
  have hl : lv_has ls 2 [(0, .ref (ea E 21)), (1, .int (iI (a1)))] := hl
  refine lv_iload_n hx hb dX9_byteAt_0 rfl (lv_at hl 1 rfl) ?_
  refine lv_aload_n hx hb dX9_byteAt_1 rfl (lv_at hl 0 rfl) ?_
  refine q_geti (ci := 9) (C := RX9) (T := TX9) (N := 27) hx hb hts (fun _ h9 => List.mem_cons_of_mem _ (List.mem_append_right _ h9)) hown hK hg 21 (by decide) rfl rfl (by decide) rfl 11 (by decide) (hts (.fieldLink RX9 204 "JoinMapsModel" "typed" "I") (List.mem_cons_of_mem _ (List.mem_append_left _ (List.mem_of_getElem? (i := 0) rfl)))) rfl rfl dX9_byteAt_2 ?_
  have hR1 := GS_R hg 21 11
  refine j_ge (tgt := 17) hx hb dX9_byteAt_5 (by decide) ha1 hR1 (fun c2 => ?_) (fun c2 => ?_)
  · have h := h.1 c2
    refine lv_iconst (v := iI (-1)) hx hb dX9_byteAt_17 (by decide) ?_
    exact ret_i hx hb hr hlocks hg (by decide) hm h dX9_byteAt_18
  · have h := h.2 c2
    refine lv_aload_n hx hb dX9_byteAt_8 rfl (lv_at hl 0 rfl) ?_
    refine q_getx (ci := 9) (C := RX9) (T := TX9) (N := 27) (j := 30) hx hb hts (fun _ h9 => List.mem_cons_of_mem _ (List.mem_append_right _ h9)) hown hK hg 21 (by decide) rfl rfl (by decide) rfl 10 (by decide) (hts (.fieldLink RX9 34 "JoinMapsModel" "text" "[I") (List.mem_cons_of_mem _ (List.mem_append_left _ (List.mem_of_getElem? (i := 1) rfl)))) rfl rfl rfl dX9_byteAt_9 ?_
    refine lv_iload_n hx hb dX9_byteAt_12 rfl (lv_at hl 1 rfl) ?_
    obtain ⟨hP3, hP4, h⟩ := h
    refine q_iald (N := 120) hx hb hK hg 30 (by decide) rfl rfl hP3 hP4 (by decide) dX9_byteAt_13 ?_
    have hR5 := GS_R hg 30 (a1 : Int).toNat
    refine lv_goto (tgt := 18) hx hb dX9_byteAt_14 (by decide) ?_
    exact ret_i hx hb hr hlocks hg hR5 hm h dX9_byteAt_18
theorem hdX9_skips : yX9_skips.cls ≠ "java/lang/invoke/MethodHandle" ∧ yX9_skips.cls ≠ "java/lang/invoke/VarHandle" ∧ (parseMethodDescriptor yX9_skips.desc).map (fun d => d.parameters.length) = some 0 := by decide +kernel
set_option maxRecDepth 100000 in
set_option maxHeartbeats 4000000 in
theorem ctX9_skips (l : Launch) (E : Ev)  (σ : SS) (Q : SS → Prop)  (h : wX9_skips  σ Q) : Met l yX9_skips wsX9_skips ({ frames := 1, cells := 0, slots := 0, locals := 21 } : Room) (Pc E σ [.ref (ea E 21)]) (Qv E (sz σ) σ Q) 0 0 (Av E) := by
  rw [wX9_skips] at h
  refine Met.ofW (cc := cX9_skips) (maxL := 1) (ret := none) (by decide) rfl ?_
  intro p e s m args below meth c s₁ B hml hv
  obtain ⟨rfl, hH, hK, hN⟩ := hv
  have hx := B.exec
  have hb := B.bytes
  have hr := B.returns
  have hts := atoms_spec (ws := wsX9_skips) B.pre
  have hown : s.vm.findClass RX9 = some m.cls := findClass_of_methodNamed B.named
  have hlocks := B.notSynchronized
  have hg : GS E σ s s.heap [] := ⟨hH, va_S.rf⟩
  have hm : Mo (sz σ) σ σ := Mo.rf (Nat.le_refl _)
  have hl := ent (vs := [.ref (ea E 21)]) (n := 1) (cats_x cats_nil) (Nat.le_of_ble_eq_true rfl)
  rw [lg_entry_eq]
  generalize (lg_sl ([.ref (ea E 21)]) ++ List.replicate (1 - (lg_sl ([.ref (ea E 21)])).length) Slot.unset).toArray = ls at hl ⊢
  have hl : lv_has ls 1 [(0, .ref (ea E 21))] := hl
  have J0 : ∀ (k : Nat), ∀ (sL : SS) (H : Heap) (locs : List Loc) (ls : Array Slot), GS E sL s H locs → Mo (sz σ) σ sL → lv_has ls 1 [(0, .ref (ea E 21))] → wX9_skips_L0  Q  k  sL → W p l e (headSpec wsX9_skips ({ frames := 1, cells := 0, slots := 0, locals := 21 } : Room)).room s m (List.toArray [.ref (ea E 21)]) below meth c H locs 0 0 (MQ below (Qv E (sz σ) σ Q) (List.toArray [.ref (ea E 21)]) s 0 0 (Av E)) (F0 m 0 ls []) := by
    intro k
    induction k with
    | zero => intro sL H locs ls hg hm hl h; exact False.elim h
    | succ k ih =>
      intro sL H locs ls hg hm hl h
      rw [wX9_skips_L0] at h
      refine lv_aload_n hx hb dX9_skips_0 rfl (lv_at hl 0 rfl) ?_
      refine lv_aload_n hx hb dX9_skips_1 rfl (lv_at hl 0 rfl) ?_
      refine q_geti (ci := 9) (C := RX9) (T := TX9) (N := 27) hx hb hts (fun _ h9 => List.mem_cons_of_mem _ (List.mem_append_right _ h9)) hown hK hg 21 (by decide) rfl rfl (by decide) rfl 24 (by decide) (hts (.fieldLink RX9 207 "JoinMapsModel" "at" "I") (List.mem_cons_of_mem _ (List.mem_append_left _ (List.mem_of_getElem? (i := 0) rfl)))) rfl rfl dX9_skips_2 ?_
      have hR1 := GS_R hg 21 24
      refine call_i (run_V (a := ea E 21) (As := [.int (iI ((sn sL 21 24)))]) (rest := []) ⟨hx, hb, hml, hown, hts⟩ (ctX9_byteAt l E (sn sL 21 24) sL _ hR1 h) (cwV 1 hts gX9_skips_X9_byteAt rfl rfl rfl ⟨rfl, hdX9_byteAt⟩ ⟨Nat.le_of_ble_eq_true rfl, Nat.le_of_ble_eq_true rfl⟩) hK hN hg (recv_x (ci := 9) (C := RX9) (T := TX9) (N := 27) hg hK (by decide) rfl (by decide) rfl) rfl hl.1 rfl (cat_sum _ (by simp)) dX9_skips_5 ⟨Nat.le_refl 0, Nat.le_refl 0⟩) hg (fun r3 s2 H locs hz4 hm2 h hg => ?_)
      have hm := hm.tn hm2
      refine lv_bipush (v := iI 32) hx hb dX9_skips_8 (by decide) ?_
      refine j_ne (tgt := 26) hx hb dX9_skips_10 (by decide) hz4 (by decide) (fun c5 => ?_) (fun c5 => ?_)
      · have h := h.1 c5
        exact ret_v hx hb hr hlocks hg hm h dX9_skips_26
      · have h := h.2 c5
        refine lv_aload_n hx hb dX9_skips_13 rfl (lv_at hl 0 rfl) ?_
        refine lv_dup hx hb dX9_skips_14 rfl ?_
        refine q_geti (ci := 9) (C := RX9) (T := TX9) (N := 27) hx hb hts (fun _ h9 => List.mem_cons_of_mem _ (List.mem_append_right _ h9)) hown hK hg 21 (by decide) rfl rfl (by decide) rfl 24 (by decide) (hts (.fieldLink RX9 207 "JoinMapsModel" "at" "I") (List.mem_cons_of_mem _ (List.mem_append_left _ (List.mem_of_getElem? (i := 0) rfl)))) rfl rfl dX9_skips_15 ?_
        have hR6 := GS_R hg 21 24
        refine lv_iconst (v := iI 1) hx hb dX9_skips_18 (by decide) ?_
        refine q_iadd hx hb dX9_skips_19 ?_
        obtain ⟨hR7, h⟩ := h
        refine q_puti (ci := 9) (C := RX9) (T := TX9) (N := 27) hx hb hts (fun _ h9 => List.mem_cons_of_mem _ (List.mem_append_right _ h9)) tyX9 tyX9_ok nmX9 hown hK hg 21 (by decide) rfl rfl (by decide) rfl 24 (by decide) (hts (.fieldLink RX9 207 "JoinMapsModel" "at" "I") (List.mem_cons_of_mem _ (List.mem_append_left _ (List.mem_of_getElem? (i := 0) rfl)))) rfl rfl (by decide +kernel) rfl hR7 dX9_skips_20 (fun H locs hg => ?_)
        refine lv_goto (tgt := 0) hx hb dX9_skips_23 (by decide) ?_
        exact ih (un s2 21 24 (((sn s2 21 24) + 1))) _ _ _ hg hm (lv_sub hl [0] rfl) h
  obtain ⟨kk, h⟩ := h
  exact J0  kk (σ) _ _ _ hg hm (lv_sub hl [0] rfl) h
theorem hdX9_isDigit : yX9_isDigit.cls ≠ "java/lang/invoke/MethodHandle" ∧ yX9_isDigit.cls ≠ "java/lang/invoke/VarHandle" ∧ (parseMethodDescriptor yX9_isDigit.desc).map (fun d => d.parameters.length) = some 1 := by decide +kernel
set_option maxRecDepth 100000 in
set_option maxHeartbeats 4000000 in
theorem ctX9_isDigit (l : Launch) (E : Ev) (a0 : Int) (σ : SS) (Q : Int → SS → Prop) (ha0 : R32 a0) (h : wX9_isDigit a0 σ Q) : Met l yX9_isDigit wsX9_isDigit ({ frames := 1, cells := 0, slots := 0, locals := 25 } : Room) (Pc E σ [.int (iI (a0))]) (Qz E (sz σ) σ Q) 0 0 (Av E) := by
  rw [wX9_isDigit] at h
  refine Met.ofW (cc := cX9_isDigit) (maxL := 1) (ret := (some .boolean)) (by decide) rfl ?_
  intro p e s m args below meth c s₁ B hml hv
  obtain ⟨rfl, hH, hK, hN⟩ := hv
  have hx := B.exec
  have hb := B.bytes
  have hr := B.returns
  have hts := atoms_spec (ws := wsX9_isDigit) B.pre
  have hown : s.vm.findClass RX9 = some m.cls := findClass_of_methodNamed B.named
  have hlocks := B.notSynchronized
  have hg : GS E σ s s.heap [] := ⟨hH, va_S.rf⟩
  have hm : Mo (sz σ) σ σ := Mo.rf (Nat.le_refl _)
  have hl := ent (vs := [.int (iI (a0))]) (n := 1) (cats_i cats_nil) (Nat.le_of_ble_eq_true rfl)
  rw [lg_entry_eq]
  generalize (lg_sl ([.int (iI (a0))]) ++ List.replicate (1 - (lg_sl ([.int (iI (a0))])).length) Slot.unset).toArray = ls at hl ⊢
  have hl : lv_has ls 1 [(0, .int (iI (a0)))] := hl
  refine lv_iload_n hx hb dX9_isDigit_0 rfl (lv_at hl 0 rfl) ?_
  refine q_i2l hx hb ha0 dX9_isDigit_1 ?_
  refine q_ldc2 (z := 48) hx hb hown (hts (.constantLong RX9 213 (48)) (List.mem_cons_of_mem _ (List.mem_of_getElem? (i := 0) rfl))) (by decide) dX9_isDigit_2 ?_
  refine q_ldc2 (z := 57) hx hb hown (hts (.constantLong RX9 215 (57)) (List.mem_cons_of_mem _ (List.mem_of_getElem? (i := 1) rfl))) (by decide) dX9_isDigit_5 ?_
  refine call_z (run_S (As := [.long (lI (a0)), .long (lI (48)), .long (lI (57))]) (rest := []) ⟨hx, hb, hml, hown, hts⟩ (ctX9_in l E a0 48 57 σ _ (R64_of ha0) (by decide) (by decide) h) (va_cwS 3 hts gX9_isDigit_X9_in rfl rfl rfl hdX9_in ⟨Nat.le_of_ble_eq_true rfl, Nat.le_of_ble_eq_true rfl⟩) hK hN hg rfl hl.1 rfl (cat_sum _ (by simp)) dX9_isDigit_8 ⟨Nat.le_refl 0, Nat.le_refl 0⟩) hg (fun r2 s1 H locs hz3 hm2 h hg => ?_)
  have hm := hm.tn hm2
  exact ret_z hx hb hr hlocks hg hz3 hm h dX9_isDigit_11
theorem hdX9_reads : yX9_reads.cls ≠ "java/lang/invoke/MethodHandle" ∧ yX9_reads.cls ≠ "java/lang/invoke/VarHandle" ∧ (parseMethodDescriptor yX9_reads.desc).map (fun d => d.parameters.length) = some 0 := by decide +kernel
set_option maxRecDepth 100000 in
set_option maxHeartbeats 4000000 in
theorem ctX9_reads (l : Launch) (E : Ev)  (σ : SS) (Q : Int → SS → Prop)  (h : wX9_reads  σ Q) : Met l yX9_reads wsX9_reads ({ frames := 2, cells := 0, slots := 0, locals := 45 } : Room) (Pc E σ [.ref (ea E 21)]) (Qz E (sz σ) σ Q) 0 0 (Av E) := by
  rw [wX9_reads] at h
  refine Met.ofW (cc := cX9_reads) (maxL := 5) (ret := (some .boolean)) (by decide) rfl ?_
  intro p e s m args below meth c s₁ B hml hv
  obtain ⟨rfl, hH, hK, hN⟩ := hv
  have hx := B.exec
  have hb := B.bytes
  have hr := B.returns
  have hts := atoms_spec (ws := wsX9_reads) B.pre
  have hown : s.vm.findClass RX9 = some m.cls := findClass_of_methodNamed B.named
  have hlocks := B.notSynchronized
  have hg : GS E σ s s.heap [] := ⟨hH, va_S.rf⟩
  have hm : Mo (sz σ) σ σ := Mo.rf (Nat.le_refl _)
  have hl := ent (vs := [.ref (ea E 21)]) (n := 5) (cats_x cats_nil) (Nat.le_of_ble_eq_true rfl)
  rw [lg_entry_eq]
  generalize (lg_sl ([.ref (ea E 21)]) ++ List.replicate (5 - (lg_sl ([.ref (ea E 21)])).length) Slot.unset).toArray = ls at hl ⊢
  have hl : lv_has ls 5 [(0, .ref (ea E 21))] := hl
  have J94 : ∀ (v1 : Int) (v2 : Int) (v3 : Int) (u0 : Int) (sL : SS) (H : Heap) (locs : List Loc) (ls : Array Slot), GS E sL s H locs → Mo (sz σ) σ sL → lv_has ls 5 [(0, .ref (ea E 21)), (1, .int (iI (v1))), (2, .int (iI (v2))), (3, .int (iI (v3)))] → wX9_reads_L94  Q  v1 v2 v3 u0 sL → W p l e (headSpec wsX9_reads ({ frames := 2, cells := 0, slots := 0, locals := 45 } : Room)).room s m (List.toArray [.ref (ea E 21)]) below meth c H locs 0 0 (MQ below (Qz E (sz σ) σ Q) (List.toArray [.ref (ea E 21)]) s 0 0 (Av E)) (F0 m 94 ls [.int (iI (u0))]) := by
    intro v1 v2 v3 u0 sL H locs ls hg hm hl h
    rw [wX9_reads_L94] at h
    refine lv_istore (i := 4) (lv' := [(4, .int (iI (u0))), (0, .ref (ea E 21)), (1, .int (iI (v1))), (2, .int (iI (v2))), (3, .int (iI (v3)))]) hx hb dX9_reads_94 hl (by decide) rfl (fun ls hl => ?_)
    refine lv_aload_n hx hb dX9_reads_96 rfl (lv_at hl 1 rfl) ?_
    refine lv_iload_n hx hb dX9_reads_97 rfl (lv_at hl 3 rfl) ?_
    refine lv_aload_n hx hb dX9_reads_98 rfl (lv_at hl 1 rfl) ?_
    refine q_geti (ci := 9) (C := RX9) (T := TX9) (N := 27) hx hb hts (fun _ h9 => List.mem_cons_of_mem _ (List.mem_append_right _ h9)) hown hK hg 21 (by decide) rfl rfl (by decide) rfl 24 (by decide) (hts (.fieldLink RX9 207 "JoinMapsModel" "at" "I") (List.mem_cons_of_mem _ (List.mem_append_left _ (List.mem_of_getElem? (i := 0) rfl)))) rfl rfl dX9_reads_99 ?_
    have hR28 := GS_R hg 21 24
    obtain ⟨hR29, h⟩ := h
    refine j_le (tgt := 110) hx hb dX9_reads_102 (by decide) hR29 hR28 (fun c30 => ?_) (fun c30 => ?_)
    · have h := h.1 c30
      refine lv_iload_n hx hb dX9_reads_110 rfl (lv_at hl 4 rfl) ?_
      obtain ⟨hR31, h⟩ := h
      refine q_puti (ci := 9) (C := RX9) (T := TX9) (N := 27) hx hb hts (fun _ h9 => List.mem_cons_of_mem _ (List.mem_append_right _ h9)) tyX9 tyX9_ok nmX9 hown hK hg 21 (by decide) rfl rfl (by decide) rfl 26 (by decide) (hts (.fieldLink RX9 220 "JoinMapsModel" "number" "I") (List.mem_cons_of_mem _ (List.mem_append_left _ (List.mem_of_getElem? (i := 2) rfl)))) rfl rfl (by decide +kernel) rfl hR31 dX9_reads_111 (fun H locs hg => ?_)
      refine lv_aload_n hx hb dX9_reads_114 rfl (lv_at hl 1 rfl) ?_
      refine lv_iload hx hb dX9_reads_115 (lv_at hl 0 rfl) ?_
      obtain ⟨hR32, h⟩ := h
      refine k_eq (tgt := 124) hx hb dX9_reads_117 (by decide) hR32 (fun c33 => ?_) (fun c33 => ?_)
      · have h := h.1 c33
        refine lv_aload_n hx hb dX9_reads_124 rfl (lv_at hl 1 rfl) ?_
        refine q_geti (ci := 9) (C := RX9) (T := TX9) (N := 27) hx hb hts (fun _ h9 => List.mem_cons_of_mem _ (List.mem_append_right _ h9)) hown hK hg 21 (by decide) rfl rfl (by decide) rfl 24 (by decide) (hts (.fieldLink RX9 207 "JoinMapsModel" "at" "I") (List.mem_cons_of_mem _ (List.mem_append_left _ (List.mem_of_getElem? (i := 0) rfl)))) rfl rfl dX9_reads_125 ?_
        have hR34 := GS_R hg 21 24
        refine q_puti (ci := 9) (C := RX9) (T := TX9) (N := 27) hx hb hts (fun _ h9 => List.mem_cons_of_mem _ (List.mem_append_right _ h9)) tyX9 tyX9_ok nmX9 hown hK hg 21 (by decide) rfl rfl (by decide) rfl 24 (by decide) (hts (.fieldLink RX9 207 "JoinMapsModel" "at" "I") (List.mem_cons_of_mem _ (List.mem_append_left _ (List.mem_of_getElem? (i := 0) rfl)))) rfl rfl (by decide +kernel) rfl hR34 dX9_reads_128 (fun H locs hg => ?_)
        refine lv_iload hx hb dX9_reads_131 (lv_at hl 0 rfl) ?_
        obtain ⟨hz35, h⟩ := h
        exact ret_z hx hb hr hlocks hg hz35 hm h dX9_reads_133
      · have h := h.2 c33
        refine lv_iload_n hx hb dX9_reads_120 rfl (lv_at hl 2 rfl) ?_
        refine lv_goto (tgt := 128) hx hb dX9_reads_121 (by decide) ?_
        obtain ⟨hR36, h⟩ := h
        refine q_puti (ci := 9) (C := RX9) (T := TX9) (N := 27) hx hb hts (fun _ h9 => List.mem_cons_of_mem _ (List.mem_append_right _ h9)) tyX9 tyX9_ok nmX9 hown hK hg 21 (by decide) rfl rfl (by decide) rfl 24 (by decide) (hts (.fieldLink RX9 207 "JoinMapsModel" "at" "I") (List.mem_cons_of_mem _ (List.mem_append_left _ (List.mem_of_getElem? (i := 0) rfl)))) rfl rfl (by decide +kernel) rfl hR36 dX9_reads_128 (fun H locs hg => ?_)
        refine lv_iload hx hb dX9_reads_131 (lv_at hl 0 rfl) ?_
        obtain ⟨hz37, h⟩ := h
        exact ret_z hx hb hr hlocks hg hz37 hm h dX9_reads_133
    · have h := h.2 c30
      refine lv_iload_n hx hb dX9_reads_105 rfl (lv_at hl 4 rfl) ?_
      refine q_ineg hx hb dX9_reads_106 ?_
      refine lv_goto (tgt := 111) hx hb dX9_reads_107 (by decide) ?_
      obtain ⟨hR38, h⟩ := h
      refine q_puti (ci := 9) (C := RX9) (T := TX9) (N := 27) hx hb hts (fun _ h9 => List.mem_cons_of_mem _ (List.mem_append_right _ h9)) tyX9 tyX9_ok nmX9 hown hK hg 21 (by decide) rfl rfl (by decide) rfl 26 (by decide) (hts (.fieldLink RX9 220 "JoinMapsModel" "number" "I") (List.mem_cons_of_mem _ (List.mem_append_left _ (List.mem_of_getElem? (i := 2) rfl)))) rfl rfl (by decide +kernel) rfl hR38 dX9_reads_111 (fun H locs hg => ?_)
      refine lv_aload_n hx hb dX9_reads_114 rfl (lv_at hl 1 rfl) ?_
      refine lv_iload hx hb dX9_reads_115 (lv_at hl 0 rfl) ?_
      obtain ⟨hR39, h⟩ := h
      refine k_eq (tgt := 124) hx hb dX9_reads_117 (by decide) hR39 (fun c40 => ?_) (fun c40 => ?_)
      · have h := h.1 c40
        refine lv_aload_n hx hb dX9_reads_124 rfl (lv_at hl 1 rfl) ?_
        refine q_geti (ci := 9) (C := RX9) (T := TX9) (N := 27) hx hb hts (fun _ h9 => List.mem_cons_of_mem _ (List.mem_append_right _ h9)) hown hK hg 21 (by decide) rfl rfl (by decide) rfl 24 (by decide) (hts (.fieldLink RX9 207 "JoinMapsModel" "at" "I") (List.mem_cons_of_mem _ (List.mem_append_left _ (List.mem_of_getElem? (i := 0) rfl)))) rfl rfl dX9_reads_125 ?_
        have hR41 := GS_R hg 21 24
        refine q_puti (ci := 9) (C := RX9) (T := TX9) (N := 27) hx hb hts (fun _ h9 => List.mem_cons_of_mem _ (List.mem_append_right _ h9)) tyX9 tyX9_ok nmX9 hown hK hg 21 (by decide) rfl rfl (by decide) rfl 24 (by decide) (hts (.fieldLink RX9 207 "JoinMapsModel" "at" "I") (List.mem_cons_of_mem _ (List.mem_append_left _ (List.mem_of_getElem? (i := 0) rfl)))) rfl rfl (by decide +kernel) rfl hR41 dX9_reads_128 (fun H locs hg => ?_)
        refine lv_iload hx hb dX9_reads_131 (lv_at hl 0 rfl) ?_
        obtain ⟨hz42, h⟩ := h
        exact ret_z hx hb hr hlocks hg hz42 hm h dX9_reads_133
      · have h := h.2 c40
        refine lv_iload_n hx hb dX9_reads_120 rfl (lv_at hl 2 rfl) ?_
        refine lv_goto (tgt := 128) hx hb dX9_reads_121 (by decide) ?_
        obtain ⟨hR43, h⟩ := h
        refine q_puti (ci := 9) (C := RX9) (T := TX9) (N := 27) hx hb hts (fun _ h9 => List.mem_cons_of_mem _ (List.mem_append_right _ h9)) tyX9 tyX9_ok nmX9 hown hK hg 21 (by decide) rfl rfl (by decide) rfl 24 (by decide) (hts (.fieldLink RX9 207 "JoinMapsModel" "at" "I") (List.mem_cons_of_mem _ (List.mem_append_left _ (List.mem_of_getElem? (i := 0) rfl)))) rfl rfl (by decide +kernel) rfl hR43 dX9_reads_128 (fun H locs hg => ?_)
        refine lv_iload hx hb dX9_reads_131 (lv_at hl 0 rfl) ?_
        obtain ⟨hz44, h⟩ := h
        exact ret_z hx hb hr hlocks hg hz44 hm h dX9_reads_133
  have J93 : ∀ (K94 : Int → Int → Int → Int → SS → Prop) (hK94 : ∀ (v1 : Int) (v2 : Int) (v3 : Int) (u0 : Int) (sL : SS) (H : Heap) (locs : List Loc) (ls : Array Slot), GS E sL s H locs → Mo (sz σ) σ sL → lv_has ls 5 [(0, .ref (ea E 21)), (1, .int (iI (v1))), (2, .int (iI (v2))), (3, .int (iI (v3)))] → K94 v1 v2 v3 u0 sL → W p l e (headSpec wsX9_reads ({ frames := 2, cells := 0, slots := 0, locals := 45 } : Room)).room s m (List.toArray [.ref (ea E 21)]) below meth c H locs 0 0 (MQ below (Qz E (sz σ) σ Q) (List.toArray [.ref (ea E 21)]) s 0 0 (Av E)) (F0 m 94 ls [.int (iI (u0))])), ∀ (v1 : Int) (v2 : Int) (v3 : Int) (sL : SS) (H : Heap) (locs : List Loc) (ls : Array Slot), GS E sL s H locs → Mo (sz σ) σ sL → lv_has ls 5 [(0, .ref (ea E 21)), (1, .int (iI (v1))), (2, .int (iI (v2))), (3, .int (iI (v3)))] → wX9_reads_L93  Q K94 v1 v2 v3 sL → W p l e (headSpec wsX9_reads ({ frames := 2, cells := 0, slots := 0, locals := 45 } : Room)).room s m (List.toArray [.ref (ea E 21)]) below meth c H locs 0 0 (MQ below (Qz E (sz σ) σ Q) (List.toArray [.ref (ea E 21)]) s 0 0 (Av E)) (F0 m 93 ls []) := by
    intro K94 hK94 v1 v2 v3 sL H locs ls hg hm hl h
    rw [wX9_reads_L93] at h
    refine lv_iconst (v := iI 0) hx hb dX9_reads_93 (by decide) ?_
    exact hK94 (v1) (v2) (v3) (0) (sL) _ _ _ hg hm (lv_sub hl [0, 1, 2, 3] rfl) h
  have J70 : ∀ (v1 : Int) (v2 : Int) (v3 : Int) (sL : SS) (H : Heap) (locs : List Loc) (ls : Array Slot), GS E sL s H locs → Mo (sz σ) σ sL → lv_has ls 5 [(0, .ref (ea E 21)), (1, .int (iI (v1))), (2, .int (iI (v2))), (3, .int (iI (v3)))] → wX9_reads_L70  Q  v1 v2 v3 sL → W p l e (headSpec wsX9_reads ({ frames := 2, cells := 0, slots := 0, locals := 45 } : Room)).room s m (List.toArray [.ref (ea E 21)]) below meth c H locs 0 0 (MQ below (Qz E (sz σ) σ Q) (List.toArray [.ref (ea E 21)]) s 0 0 (Av E)) (F0 m 70 ls []) := by
    intro v1 v2 v3 sL H locs ls hg hm hl h
    rw [wX9_reads_L70] at h
    refine lv_iload_n hx hb dX9_reads_70 rfl (lv_at hl 1 rfl) ?_
    refine lv_iload_n hx hb dX9_reads_71 rfl (lv_at hl 2 rfl) ?_
    obtain ⟨hR21, hR22, h⟩ := h
    refine j_le (tgt := 93) hx hb dX9_reads_72 (by decide) hR21 hR22 (fun c23 => ?_) (fun c23 => ?_)
    · have h := h.1 c23
      exact J93 _ (fun v1 v2 v3 u0 sL H locs ls hg hm hl h => J94  v1 v2 v3 u0 sL H locs ls hg hm hl h) (v1) (v2) (v3) (sL) _ _ _ hg hm (lv_sub hl [0, 1, 2, 3] rfl) h
    · have h := h.2 c23
      refine lv_iload_n hx hb dX9_reads_75 rfl (lv_at hl 1 rfl) ?_
      refine lv_iload_n hx hb dX9_reads_76 rfl (lv_at hl 2 rfl) ?_
      refine q_isub hx hb dX9_reads_77 ?_
      refine lv_iconst (v := iI 4) hx hb dX9_reads_78 (by decide) ?_
      obtain ⟨hR24, h⟩ := h
      refine j_ge (tgt := 93) hx hb dX9_reads_79 (by decide) hR24 (by decide) (fun c25 => ?_) (fun c25 => ?_)
      · have h := h.1 c25
        exact J93 _ (fun v1 v2 v3 u0 sL H locs ls hg hm hl h => J94  v1 v2 v3 u0 sL H locs ls hg hm hl h) (v1) (v2) (v3) (sL) _ _ _ hg hm (lv_sub hl [0, 1, 2, 3] rfl) h
      · have h := h.2 c25
        refine lv_iload_n hx hb dX9_reads_82 rfl (lv_at hl 3 rfl) ?_
        refine lv_sipush (v := iI 500) hx hb dX9_reads_83 (by decide) ?_
        obtain ⟨hR26, h⟩ := h
        refine j_gt (tgt := 93) hx hb dX9_reads_86 (by decide) hR26 (by decide) (fun c27 => ?_) (fun c27 => ?_)
        · have h := h.1 c27
          exact J93 _ (fun v1 v2 v3 u0 sL H locs ls hg hm hl h => J94  v1 v2 v3 u0 sL H locs ls hg hm hl h) (v1) (v2) (v3) (sL) _ _ _ hg hm (lv_sub hl [0, 1, 2, 3] rfl) h
        · have h := h.2 c27
          refine lv_iconst (v := iI 1) hx hb dX9_reads_89 (by decide) ?_
          refine lv_goto (tgt := 94) hx hb dX9_reads_90 (by decide) ?_
          exact J94  (v1) (v2) (v3) (1) (sL) _ _ _ hg hm (lv_sub hl [0, 1, 2, 3] rfl) h
  have J31 : ∀ (k : Nat), ∀ (v1 : Int) (v2 : Int) (v3 : Int) (sL : SS) (H : Heap) (locs : List Loc) (ls : Array Slot), GS E sL s H locs → Mo (sz σ) σ sL → lv_has ls 5 [(0, .ref (ea E 21)), (1, .int (iI (v1))), (2, .int (iI (v2))), (3, .int (iI (v3)))] → wX9_reads_L31  Q  k v1 v2 v3 sL → W p l e (headSpec wsX9_reads ({ frames := 2, cells := 0, slots := 0, locals := 45 } : Room)).room s m (List.toArray [.ref (ea E 21)]) below meth c H locs 0 0 (MQ below (Qz E (sz σ) σ Q) (List.toArray [.ref (ea E 21)]) s 0 0 (Av E)) (F0 m 31 ls []) := by
    intro k
    induction k with
    | zero => intro v1 v2 v3 sL H locs ls hg hm hl h; exact False.elim h
    | succ k ih =>
      intro v1 v2 v3 sL H locs ls hg hm hl h
      rw [wX9_reads_L31] at h
      refine lv_aload_n hx hb dX9_reads_31 rfl (lv_at hl 0 rfl) ?_
      refine lv_iload_n hx hb dX9_reads_32 rfl (lv_at hl 1 rfl) ?_
      obtain ⟨hR8, h⟩ := h
      refine call_i (run_V (a := ea E 21) (As := [.int (iI (v1))]) (rest := []) ⟨hx, hb, hml, hown, hts⟩ (ctX9_byteAt l E v1 sL _ hR8 h) (cwV 1 hts gX9_reads_X9_byteAt rfl rfl rfl ⟨rfl, hdX9_byteAt⟩ ⟨Nat.le_of_ble_eq_true rfl, Nat.le_of_ble_eq_true rfl⟩) hK hN hg (recv_x (ci := 9) (C := RX9) (T := TX9) (N := 27) hg hK (by decide) rfl (by decide) rfl) rfl hl.1 rfl (cat_sum _ (by simp)) dX9_reads_33 ⟨Nat.le_refl 0, Nat.le_refl 0⟩) hg (fun r10 s9 H locs hz11 hm2 h hg => ?_)
      have hm := hm.tn hm2
      refine call_z (run_S (As := [.int (iI (r10))]) (rest := []) ⟨hx, hb, hml, hown, hts⟩ (ctX9_isDigit l E r10 s9 _ hz11 h) (va_cwS 1 hts gX9_reads_X9_isDigit rfl rfl rfl hdX9_isDigit ⟨Nat.le_of_ble_eq_true rfl, Nat.le_of_ble_eq_true rfl⟩) hK hN hg rfl hl.1 rfl (cat_sum _ (by simp)) dX9_reads_36 ⟨Nat.le_refl 0, Nat.le_refl 0⟩) hg (fun r13 s12 H locs hz14 hm2 h hg => ?_)
      have hm := hm.tn hm2
      refine k_eq (tgt := 70) hx hb dX9_reads_39 (by decide) (z_R hz14) (fun c15 => ?_) (fun c15 => ?_)
      · have h := h.1 c15
        exact J70  (v1) (v2) (v3) (s12) _ _ _ hg hm (lv_sub hl [0, 1, 2, 3] rfl) h
      · have h := h.2 c15
        refine lv_iload_n hx hb dX9_reads_42 rfl (lv_at hl 1 rfl) ?_
        refine lv_iload_n hx hb dX9_reads_43 rfl (lv_at hl 2 rfl) ?_
        refine q_isub hx hb dX9_reads_44 ?_
        refine lv_iconst (v := iI 4) hx hb dX9_reads_45 (by decide) ?_
        obtain ⟨hR16, h⟩ := h
        refine j_ge (tgt := 70) hx hb dX9_reads_46 (by decide) hR16 (by decide) (fun c17 => ?_) (fun c17 => ?_)
        · have h := h.1 c17
          exact J70  (v1) (v2) (v3) (s12) _ _ _ hg hm (lv_sub hl [0, 1, 2, 3] rfl) h
        · have h := h.2 c17
          refine lv_bipush (v := iI 10) hx hb dX9_reads_49 (by decide) ?_
          refine lv_iload_n hx hb dX9_reads_51 rfl (lv_at hl 3 rfl) ?_
          refine q_imul hx hb dX9_reads_52 ?_
          refine lv_aload_n hx hb dX9_reads_53 rfl (lv_at hl 0 rfl) ?_
          refine q_getx (ci := 9) (C := RX9) (T := TX9) (N := 27) (j := 30) hx hb hts (fun _ h9 => List.mem_cons_of_mem _ (List.mem_append_right _ h9)) hown hK hg 21 (by decide) rfl rfl (by decide) rfl 10 (by decide) (hts (.fieldLink RX9 34 "JoinMapsModel" "text" "[I") (List.mem_cons_of_mem _ (List.mem_append_left _ (List.mem_of_getElem? (i := 1) rfl)))) rfl rfl rfl dX9_reads_54 ?_
          refine lv_iload_n hx hb dX9_reads_57 rfl (lv_at hl 1 rfl) ?_
          obtain ⟨hP18, hP19, h⟩ := h
          refine q_iald (N := 120) hx hb hK hg 30 (by decide) rfl rfl hP18 hP19 (by decide) dX9_reads_58 ?_
          have hR20 := GS_R hg 30 (v1 : Int).toNat
          refine q_iadd hx hb dX9_reads_59 ?_
          refine lv_bipush (v := iI 48) hx hb dX9_reads_60 (by decide) ?_
          refine q_isub hx hb dX9_reads_62 ?_
          refine lv_istore_n (i := 3) (lv' := [(3, .int (iI ((((10 * v3) + (sn s12 30 (v1 : Int).toNat)) - 48)))), (0, .ref (ea E 21)), (1, .int (iI (v1))), (2, .int (iI (v2)))]) hx hb dX9_reads_63 rfl hl (by decide) rfl (fun ls hl => ?_)
          refine lv_iinc (v := iI (v1 + 1)) (lv' := [(1, .int (iI (v1 + 1))), (3, .int (iI ((((10 * v3) + (sn s12 30 (v1 : Int).toNat)) - 48)))), (0, .ref (ea E 21)), (2, .int (iI (v2)))]) hx hb dX9_reads_64 hl (k := 2) rfl (iI_add _ _) (by decide) rfl (fun ls hl => ?_)
          refine lv_goto (tgt := 31) hx hb dX9_reads_67 (by decide) ?_
          exact ih (v1 + 1) (v2) ((((10 * v3) + (sn s12 30 (v1 : Int).toNat)) - 48)) (s12) _ _ _ hg hm (lv_sub hl [2, 0, 3, 1] rfl) h
  refine lv_aload_n hx hb dX9_reads_0 rfl (lv_at hl 0 rfl) ?_
  refine lv_aload_n hx hb dX9_reads_1 rfl (lv_at hl 0 rfl) ?_
  refine q_geti (ci := 9) (C := RX9) (T := TX9) (N := 27) hx hb hts (fun _ h9 => List.mem_cons_of_mem _ (List.mem_append_right _ h9)) hown hK hg 21 (by decide) rfl rfl (by decide) rfl 24 (by decide) (hts (.fieldLink RX9 207 "JoinMapsModel" "at" "I") (List.mem_cons_of_mem _ (List.mem_append_left _ (List.mem_of_getElem? (i := 0) rfl)))) rfl rfl dX9_reads_2 ?_
  have hR1 := GS_R hg 21 24
  refine call_i (run_V (a := ea E 21) (As := [.int (iI ((sn σ 21 24)))]) (rest := []) ⟨hx, hb, hml, hown, hts⟩ (ctX9_byteAt l E (sn σ 21 24) σ _ hR1 h) (cwV 1 hts gX9_reads_X9_byteAt rfl rfl rfl ⟨rfl, hdX9_byteAt⟩ ⟨Nat.le_of_ble_eq_true rfl, Nat.le_of_ble_eq_true rfl⟩) hK hN hg (recv_x (ci := 9) (C := RX9) (T := TX9) (N := 27) hg hK (by decide) rfl (by decide) rfl) rfl hl.1 rfl (cat_sum _ (by simp)) dX9_reads_5 ⟨Nat.le_refl 0, Nat.le_refl 0⟩) hg (fun r3 s2 H locs hz4 hm2 h hg => ?_)
  have hm := hm.tn hm2
  refine lv_bipush (v := iI 45) hx hb dX9_reads_8 (by decide) ?_
  refine j_ne (tgt := 22) hx hb dX9_reads_10 (by decide) hz4 (by decide) (fun c5 => ?_) (fun c5 => ?_)
  · have h := h.1 c5
    refine lv_aload_n hx hb dX9_reads_22 rfl (lv_at hl 0 rfl) ?_
    refine q_geti (ci := 9) (C := RX9) (T := TX9) (N := 27) hx hb hts (fun _ h9 => List.mem_cons_of_mem _ (List.mem_append_right _ h9)) hown hK hg 21 (by decide) rfl rfl (by decide) rfl 24 (by decide) (hts (.fieldLink RX9 207 "JoinMapsModel" "at" "I") (List.mem_cons_of_mem _ (List.mem_append_left _ (List.mem_of_getElem? (i := 0) rfl)))) rfl rfl dX9_reads_23 ?_
    have hR6 := GS_R hg 21 24
    refine lv_istore_n (i := 1) (lv' := [(1, .int (iI ((sn s2 21 24)))), (0, .ref (ea E 21))]) hx hb dX9_reads_26 rfl hl (by decide) rfl (fun ls hl => ?_)
    refine lv_iload_n hx hb dX9_reads_27 rfl (lv_at hl 0 rfl) ?_
    refine lv_istore_n (i := 2) (lv' := [(2, .int (iI ((sn s2 21 24)))), (1, .int (iI ((sn s2 21 24)))), (0, .ref (ea E 21))]) hx hb dX9_reads_28 rfl hl (by decide) rfl (fun ls hl => ?_)
    refine lv_iconst (v := iI 0) hx hb dX9_reads_29 (by decide) ?_
    refine lv_istore_n (i := 3) (lv' := [(3, .int (iI (0))), (2, .int (iI ((sn s2 21 24)))), (1, .int (iI ((sn s2 21 24)))), (0, .ref (ea E 21))]) hx hb dX9_reads_30 rfl hl (by decide) rfl (fun ls hl => ?_)
    obtain ⟨kk, h⟩ := h
    exact J31  kk ((sn s2 21 24)) ((sn s2 21 24)) (0) (s2) _ _ _ hg hm (lv_sub hl [3, 2, 1, 0] rfl) h
  · have h := h.2 c5
    refine lv_aload_n hx hb dX9_reads_13 rfl (lv_at hl 0 rfl) ?_
    refine q_geti (ci := 9) (C := RX9) (T := TX9) (N := 27) hx hb hts (fun _ h9 => List.mem_cons_of_mem _ (List.mem_append_right _ h9)) hown hK hg 21 (by decide) rfl rfl (by decide) rfl 24 (by decide) (hts (.fieldLink RX9 207 "JoinMapsModel" "at" "I") (List.mem_cons_of_mem _ (List.mem_append_left _ (List.mem_of_getElem? (i := 0) rfl)))) rfl rfl dX9_reads_14 ?_
    have hR7 := GS_R hg 21 24
    refine lv_iconst (v := iI 1) hx hb dX9_reads_17 (by decide) ?_
    refine q_iadd hx hb dX9_reads_18 ?_
    refine lv_goto (tgt := 26) hx hb dX9_reads_19 (by decide) ?_
    refine lv_istore_n (i := 1) (lv' := [(1, .int (iI (((sn s2 21 24) + 1)))), (0, .ref (ea E 21))]) hx hb dX9_reads_26 rfl hl (by decide) rfl (fun ls hl => ?_)
    refine lv_iload_n hx hb dX9_reads_27 rfl (lv_at hl 0 rfl) ?_
    refine lv_istore_n (i := 2) (lv' := [(2, .int (iI (((sn s2 21 24) + 1)))), (1, .int (iI (((sn s2 21 24) + 1)))), (0, .ref (ea E 21))]) hx hb dX9_reads_28 rfl hl (by decide) rfl (fun ls hl => ?_)
    refine lv_iconst (v := iI 0) hx hb dX9_reads_29 (by decide) ?_
    refine lv_istore_n (i := 3) (lv' := [(3, .int (iI (0))), (2, .int (iI (((sn s2 21 24) + 1)))), (1, .int (iI (((sn s2 21 24) + 1)))), (0, .ref (ea E 21))]) hx hb dX9_reads_30 rfl hl (by decide) rfl (fun ls hl => ?_)
    obtain ⟨kk, h⟩ := h
    exact J31  kk (((sn s2 21 24) + 1)) (((sn s2 21 24) + 1)) (0) (s2) _ _ _ hg hm (lv_sub hl [3, 2, 1, 0] rfl) h
theorem hdX9_readsSet : yX9_readsSet.cls ≠ "java/lang/invoke/MethodHandle" ∧ yX9_readsSet.cls ≠ "java/lang/invoke/VarHandle" ∧ (parseMethodDescriptor yX9_readsSet.desc).map (fun d => d.parameters.length) = some 0 := by decide +kernel
set_option maxRecDepth 100000 in
set_option maxHeartbeats 4000000 in
theorem ctX9_readsSet (l : Launch) (E : Ev)  (σ : SS) (Q : Int → SS → Prop)  (h : wX9_readsSet  σ Q) : Met l yX9_readsSet wsX9_readsSet ({ frames := 3, cells := 0, slots := 0, locals := 69 } : Room) (Pc E σ [.ref (ea E 21)]) (Qz E (sz σ) σ Q) 0 0 (Av E) := by
  rw [wX9_readsSet] at h
  refine Met.ofW (cc := cX9_readsSet) (maxL := 2) (ret := (some .boolean)) (by decide) rfl ?_
  intro p e s m args below meth c s₁ B hml hv
  obtain ⟨rfl, hH, hK, hN⟩ := hv
  have hx := B.exec
  have hb := B.bytes
  have hr := B.returns
  have hts := atoms_spec (ws := wsX9_readsSet) B.pre
  have hown : s.vm.findClass RX9 = some m.cls := findClass_of_methodNamed B.named
  have hlocks := B.notSynchronized
  have hg : GS E σ s s.heap [] := ⟨hH, va_S.rf⟩
  have hm : Mo (sz σ) σ σ := Mo.rf (Nat.le_refl _)
  have hl := ent (vs := [.ref (ea E 21)]) (n := 2) (cats_x cats_nil) (Nat.le_of_ble_eq_true rfl)
  rw [lg_entry_eq]
  generalize (lg_sl ([.ref (ea E 21)]) ++ List.replicate (2 - (lg_sl ([.ref (ea E 21)])).length) Slot.unset).toArray = ls at hl ⊢
  have hl : lv_has ls 2 [(0, .ref (ea E 21))] := hl
  have J129 : ∀ (sL : SS) (H : Heap) (locs : List Loc) (ls : Array Slot), GS E sL s H locs → Mo (sz σ) σ sL → lv_has ls 2 [(0, .ref (ea E 21))] → wX9_readsSet_L129  Q   sL → W p l e (headSpec wsX9_readsSet ({ frames := 3, cells := 0, slots := 0, locals := 69 } : Room)).room s m (List.toArray [.ref (ea E 21)]) below meth c H locs 0 0 (MQ below (Qz E (sz σ) σ Q) (List.toArray [.ref (ea E 21)]) s 0 0 (Av E)) (F0 m 129 ls []) := by
    intro sL H locs ls hg hm hl h
    rw [wX9_readsSet_L129] at h
    refine lv_aload_n hx hb dX9_readsSet_129 rfl (lv_at hl 0 rfl) ?_
    refine lv_dup hx hb dX9_readsSet_130 rfl ?_
    refine q_geti (ci := 9) (C := RX9) (T := TX9) (N := 27) hx hb hts (fun _ h9 => List.mem_cons_of_mem _ (List.mem_append_right _ h9)) hown hK hg 21 (by decide) rfl rfl (by decide) rfl 24 (by decide) (hts (.fieldLink RX9 207 "JoinMapsModel" "at" "I") (List.mem_cons_of_mem _ (List.mem_append_left _ (List.mem_append_left _ (List.mem_of_getElem? (i := 3) rfl))))) rfl rfl dX9_readsSet_131 ?_
    have hR45 := GS_R hg 21 24
    refine lv_iconst (v := iI 1) hx hb dX9_readsSet_134 (by decide) ?_
    refine q_iadd hx hb dX9_readsSet_135 ?_
    obtain ⟨hR46, h⟩ := h
    refine q_puti (ci := 9) (C := RX9) (T := TX9) (N := 27) hx hb hts (fun _ h9 => List.mem_cons_of_mem _ (List.mem_append_right _ h9)) tyX9 tyX9_ok nmX9 hown hK hg 21 (by decide) rfl rfl (by decide) rfl 24 (by decide) (hts (.fieldLink RX9 207 "JoinMapsModel" "at" "I") (List.mem_cons_of_mem _ (List.mem_append_left _ (List.mem_append_left _ (List.mem_of_getElem? (i := 3) rfl))))) rfl rfl (by decide +kernel) rfl hR46 dX9_readsSet_136 (fun H locs hg => ?_)
    refine lv_aload_n hx hb dX9_readsSet_139 rfl (lv_at hl 0 rfl) ?_
    refine q_getx (ci := 9) (C := RX9) (T := TX9) (N := 27) (j := 34) hx hb hts (fun _ h9 => List.mem_cons_of_mem _ (List.mem_append_right _ h9)) hown hK hg 21 (by decide) rfl rfl (by decide) rfl 17 (by decide) (hts (.fieldLink RX9 46 "JoinMapsModel" "lasts" "[I") (List.mem_cons_of_mem _ (List.mem_append_left _ (List.mem_append_left _ (List.mem_of_getElem? (i := 6) rfl))))) rfl rfl rfl dX9_readsSet_140 ?_
    refine lv_aload_n hx hb dX9_readsSet_143 rfl (lv_at hl 0 rfl) ?_
    refine q_geti (ci := 9) (C := RX9) (T := TX9) (N := 27) hx hb hts (fun _ h9 => List.mem_cons_of_mem _ (List.mem_append_right _ h9)) hown hK hg 21 (by decide) rfl rfl (by decide) rfl 18 (by decide) (hts (.fieldLink RX9 223 "JoinMapsModel" "sets" "I") (List.mem_cons_of_mem _ (List.mem_append_left _ (List.mem_append_left _ (List.mem_of_getElem? (i := 1) rfl))))) rfl rfl dX9_readsSet_144 ?_
    have hR47 := GS_R hg 21 18
    refine lv_aload_n hx hb dX9_readsSet_147 rfl (lv_at hl 0 rfl) ?_
    refine q_geti (ci := 9) (C := RX9) (T := TX9) (N := 27) hx hb hts (fun _ h9 => List.mem_cons_of_mem _ (List.mem_append_right _ h9)) hown hK hg 21 (by decide) rfl rfl (by decide) rfl 20 (by decide) (hts (.fieldLink RX9 226 "JoinMapsModel" "keyed" "I") (List.mem_cons_of_mem _ (List.mem_append_left _ (List.mem_append_left _ (List.mem_of_getElem? (i := 2) rfl))))) rfl rfl dX9_readsSet_148 ?_
    have hR48 := GS_R hg 21 20
    obtain ⟨hP49, hP50, h⟩ := h
    refine q_iast (N := 60) hx hb hK hg 34 (by decide) rfl rfl hP49 hP50 (by decide) hR48 dX9_readsSet_151 (fun H locs hg => ?_)
    refine lv_aload_n hx hb dX9_readsSet_152 rfl (lv_at hl 0 rfl) ?_
    refine q_getx (ci := 9) (C := RX9) (T := TX9) (N := 27) (j := 31) hx hb hts (fun _ h9 => List.mem_cons_of_mem _ (List.mem_append_right _ h9)) hown hK hg 21 (by decide) rfl rfl (by decide) rfl 12 (by decide) (hts (.fieldLink RX9 37 "JoinMapsModel" "marks" "[I") (List.mem_cons_of_mem _ (List.mem_append_left _ (List.mem_append_left _ (List.mem_of_getElem? (i := 7) rfl))))) rfl rfl rfl dX9_readsSet_153 ?_
    refine lv_aload_n hx hb dX9_readsSet_156 rfl (lv_at hl 0 rfl) ?_
    refine q_geti (ci := 9) (C := RX9) (T := TX9) (N := 27) hx hb hts (fun _ h9 => List.mem_cons_of_mem _ (List.mem_append_right _ h9)) hown hK hg 21 (by decide) rfl rfl (by decide) rfl 13 (by decide) (hts (.fieldLink RX9 236 "JoinMapsModel" "many" "I") (List.mem_cons_of_mem _ (List.mem_append_left _ (List.mem_append_left _ (List.mem_of_getElem? (i := 8) rfl))))) rfl rfl dX9_readsSet_157 ?_
    have hR51 := GS_R hg 21 13
    refine lv_bipush (v := iI 20) hx hb dX9_readsSet_160 (by decide) ?_
    refine lv_aload_n hx hb dX9_readsSet_162 rfl (lv_at hl 0 rfl) ?_
    refine q_geti (ci := 9) (C := RX9) (T := TX9) (N := 27) hx hb hts (fun _ h9 => List.mem_cons_of_mem _ (List.mem_append_right _ h9)) hown hK hg 21 (by decide) rfl rfl (by decide) rfl 18 (by decide) (hts (.fieldLink RX9 223 "JoinMapsModel" "sets" "I") (List.mem_cons_of_mem _ (List.mem_append_left _ (List.mem_append_left _ (List.mem_of_getElem? (i := 1) rfl))))) rfl rfl dX9_readsSet_163 ?_
    have hR52 := GS_R hg 21 18
    refine q_iadd hx hb dX9_readsSet_166 ?_
    obtain ⟨hP53, hP54, hR55, h⟩ := h
    refine q_iast (N := 130) hx hb hK hg 31 (by decide) rfl rfl hP53 hP54 (by decide) hR55 dX9_readsSet_167 (fun H locs hg => ?_)
    refine lv_aload_n hx hb dX9_readsSet_168 rfl (lv_at hl 0 rfl) ?_
    refine lv_dup hx hb dX9_readsSet_169 rfl ?_
    refine q_geti (ci := 9) (C := RX9) (T := TX9) (N := 27) hx hb hts (fun _ h9 => List.mem_cons_of_mem _ (List.mem_append_right _ h9)) hown hK hg 21 (by decide) rfl rfl (by decide) rfl 13 (by decide) (hts (.fieldLink RX9 236 "JoinMapsModel" "many" "I") (List.mem_cons_of_mem _ (List.mem_append_left _ (List.mem_append_left _ (List.mem_of_getElem? (i := 8) rfl))))) rfl rfl dX9_readsSet_170 ?_
    have hR56 := GS_R hg 21 13
    refine lv_iconst (v := iI 1) hx hb dX9_readsSet_173 (by decide) ?_
    refine q_iadd hx hb dX9_readsSet_174 ?_
    obtain ⟨hR57, h⟩ := h
    refine q_puti (ci := 9) (C := RX9) (T := TX9) (N := 27) hx hb hts (fun _ h9 => List.mem_cons_of_mem _ (List.mem_append_right _ h9)) tyX9 tyX9_ok nmX9 hown hK hg 21 (by decide) rfl rfl (by decide) rfl 13 (by decide) (hts (.fieldLink RX9 236 "JoinMapsModel" "many" "I") (List.mem_cons_of_mem _ (List.mem_append_left _ (List.mem_append_left _ (List.mem_of_getElem? (i := 8) rfl))))) rfl rfl (by decide +kernel) rfl hR57 dX9_readsSet_175 (fun H locs hg => ?_)
    refine lv_aload_n hx hb dX9_readsSet_178 rfl (lv_at hl 0 rfl) ?_
    refine lv_dup hx hb dX9_readsSet_179 rfl ?_
    refine q_geti (ci := 9) (C := RX9) (T := TX9) (N := 27) hx hb hts (fun _ h9 => List.mem_cons_of_mem _ (List.mem_append_right _ h9)) hown hK hg 21 (by decide) rfl rfl (by decide) rfl 18 (by decide) (hts (.fieldLink RX9 223 "JoinMapsModel" "sets" "I") (List.mem_cons_of_mem _ (List.mem_append_left _ (List.mem_append_left _ (List.mem_of_getElem? (i := 1) rfl))))) rfl rfl dX9_readsSet_180 ?_
    have hR58 := GS_R hg 21 18
    refine lv_iconst (v := iI 1) hx hb dX9_readsSet_183 (by decide) ?_
    refine q_iadd hx hb dX9_readsSet_184 ?_
    obtain ⟨hR59, h⟩ := h
    refine q_puti (ci := 9) (C := RX9) (T := TX9) (N := 27) hx hb hts (fun _ h9 => List.mem_cons_of_mem _ (List.mem_append_right _ h9)) tyX9 tyX9_ok nmX9 hown hK hg 21 (by decide) rfl rfl (by decide) rfl 18 (by decide) (hts (.fieldLink RX9 223 "JoinMapsModel" "sets" "I") (List.mem_cons_of_mem _ (List.mem_append_left _ (List.mem_append_left _ (List.mem_of_getElem? (i := 1) rfl))))) rfl rfl (by decide +kernel) rfl hR59 dX9_readsSet_185 (fun H locs hg => ?_)
    refine lv_iconst (v := iI 1) hx hb dX9_readsSet_188 (by decide) ?_
    exact ret_z hx hb hr hlocks hg (by decide) hm h dX9_readsSet_189
  have J36 : ∀ (K19 : Int → SS → Prop) (hK19 : ∀ (v1 : Int) (sL : SS) (H : Heap) (locs : List Loc) (ls : Array Slot), GS E sL s H locs → Mo (sz σ) σ sL → lv_has ls 2 [(0, .ref (ea E 21)), (1, .int (iI (v1)))] → K19 v1 sL → W p l e (headSpec wsX9_readsSet ({ frames := 3, cells := 0, slots := 0, locals := 69 } : Room)).room s m (List.toArray [.ref (ea E 21)]) below meth c H locs 0 0 (MQ below (Qz E (sz σ) σ Q) (List.toArray [.ref (ea E 21)]) s 0 0 (Av E)) (F0 m 19 ls [])) (K129 : SS → Prop) (hK129 : ∀ (sL : SS) (H : Heap) (locs : List Loc) (ls : Array Slot), GS E sL s H locs → Mo (sz σ) σ sL → lv_has ls 2 [(0, .ref (ea E 21))] → K129  sL → W p l e (headSpec wsX9_readsSet ({ frames := 3, cells := 0, slots := 0, locals := 69 } : Room)).room s m (List.toArray [.ref (ea E 21)]) below meth c H locs 0 0 (MQ below (Qz E (sz σ) σ Q) (List.toArray [.ref (ea E 21)]) s 0 0 (Av E)) (F0 m 129 ls [])), ∀ (v1 : Int) (sL : SS) (H : Heap) (locs : List Loc) (ls : Array Slot), GS E sL s H locs → Mo (sz σ) σ sL → lv_has ls 2 [(0, .ref (ea E 21)), (1, .int (iI (v1)))] → wX9_readsSet_L36  Q K19 K129 v1 sL → W p l e (headSpec wsX9_readsSet ({ frames := 3, cells := 0, slots := 0, locals := 69 } : Room)).room s m (List.toArray [.ref (ea E 21)]) below meth c H locs 0 0 (MQ below (Qz E (sz σ) σ Q) (List.toArray [.ref (ea E 21)]) s 0 0 (Av E)) (F0 m 36 ls []) := by
    intro K19 hK19 K129 hK129 v1 sL H locs ls hg hm hl h
    rw [wX9_readsSet_L36] at h
    refine lv_aload_n hx hb dX9_readsSet_36 rfl (lv_at hl 0 rfl) ?_
    refine call_z (run_V (a := ea E 21) (As := []) (rest := []) ⟨hx, hb, hml, hown, hts⟩ (ctX9_reads l E  sL _  h) (cwV 0 hts gX9_readsSet_X9_reads rfl rfl rfl ⟨rfl, hdX9_reads⟩ ⟨Nat.le_of_ble_eq_true rfl, Nat.le_of_ble_eq_true rfl⟩) hK hN hg (recv_x (ci := 9) (C := RX9) (T := TX9) (N := 27) hg hK (by decide) rfl (by decide) rfl) rfl hl.1 rfl (cat_sum _ (by simp)) dX9_readsSet_37 ⟨Nat.le_refl 0, Nat.le_refl 0⟩) hg (fun r16 s15 H locs hz17 hm2 h hg => ?_)
    have hm := hm.tn hm2
    refine k_ne (tgt := 45) hx hb dX9_readsSet_40 (by decide) (z_R hz17) (fun c18 => ?_) (fun c18 => ?_)
    · have h := h.1 c18
      refine lv_aload_n hx hb dX9_readsSet_45 rfl (lv_at hl 0 rfl) ?_
      refine q_getx (ci := 9) (C := RX9) (T := TX9) (N := 27) (j := 35) hx hb hts (fun _ h9 => List.mem_cons_of_mem _ (List.mem_append_right _ h9)) hown hK hg 21 (by decide) rfl rfl (by decide) rfl 19 (by decide) (hts (.fieldLink RX9 49 "JoinMapsModel" "keys" "[I") (List.mem_cons_of_mem _ (List.mem_append_left _ (List.mem_append_left _ (List.mem_of_getElem? (i := 4) rfl))))) rfl rfl rfl dX9_readsSet_46 ?_
      refine lv_aload_n hx hb dX9_readsSet_49 rfl (lv_at hl 0 rfl) ?_
      refine q_geti (ci := 9) (C := RX9) (T := TX9) (N := 27) hx hb hts (fun _ h9 => List.mem_cons_of_mem _ (List.mem_append_right _ h9)) hown hK hg 21 (by decide) rfl rfl (by decide) rfl 20 (by decide) (hts (.fieldLink RX9 226 "JoinMapsModel" "keyed" "I") (List.mem_cons_of_mem _ (List.mem_append_left _ (List.mem_append_left _ (List.mem_of_getElem? (i := 2) rfl))))) rfl rfl dX9_readsSet_50 ?_
      have hR19 := GS_R hg 21 20
      refine lv_aload_n hx hb dX9_readsSet_53 rfl (lv_at hl 0 rfl) ?_
      refine q_geti (ci := 9) (C := RX9) (T := TX9) (N := 27) hx hb hts (fun _ h9 => List.mem_cons_of_mem _ (List.mem_append_right _ h9)) hown hK hg 21 (by decide) rfl rfl (by decide) rfl 26 (by decide) (hts (.fieldLink RX9 220 "JoinMapsModel" "number" "I") (List.mem_cons_of_mem _ (List.mem_append_left _ (List.mem_append_left _ (List.mem_of_getElem? (i := 5) rfl))))) rfl rfl dX9_readsSet_54 ?_
      have hR20 := GS_R hg 21 26
      obtain ⟨hP21, hP22, h⟩ := h
      refine q_iast (N := 130) hx hb hK hg 35 (by decide) rfl rfl hP21 hP22 (by decide) hR20 dX9_readsSet_57 (fun H locs hg => ?_)
      refine lv_aload_n hx hb dX9_readsSet_58 rfl (lv_at hl 0 rfl) ?_
      refine lv_dup hx hb dX9_readsSet_59 rfl ?_
      refine q_geti (ci := 9) (C := RX9) (T := TX9) (N := 27) hx hb hts (fun _ h9 => List.mem_cons_of_mem _ (List.mem_append_right _ h9)) hown hK hg 21 (by decide) rfl rfl (by decide) rfl 20 (by decide) (hts (.fieldLink RX9 226 "JoinMapsModel" "keyed" "I") (List.mem_cons_of_mem _ (List.mem_append_left _ (List.mem_append_left _ (List.mem_of_getElem? (i := 2) rfl))))) rfl rfl dX9_readsSet_60 ?_
      have hR23 := GS_R hg 21 20
      refine lv_iconst (v := iI 1) hx hb dX9_readsSet_63 (by decide) ?_
      refine q_iadd hx hb dX9_readsSet_64 ?_
      obtain ⟨hR24, h⟩ := h
      refine q_puti (ci := 9) (C := RX9) (T := TX9) (N := 27) hx hb hts (fun _ h9 => List.mem_cons_of_mem _ (List.mem_append_right _ h9)) tyX9 tyX9_ok nmX9 hown hK hg 21 (by decide) rfl rfl (by decide) rfl 20 (by decide) (hts (.fieldLink RX9 226 "JoinMapsModel" "keyed" "I") (List.mem_cons_of_mem _ (List.mem_append_left _ (List.mem_append_left _ (List.mem_of_getElem? (i := 2) rfl))))) rfl rfl (by decide +kernel) rfl hR24 dX9_readsSet_65 (fun H locs hg => ?_)
      refine lv_iinc (v := iI (v1 + 1)) (lv' := [(1, .int (iI (v1 + 1))), (0, .ref (ea E 21))]) hx hb dX9_readsSet_68 hl (k := 1) rfl (iI_add _ _) (by decide) rfl (fun ls hl => ?_)
      refine lv_aload_n hx hb dX9_readsSet_71 rfl (lv_at hl 1 rfl) ?_
      refine call_v (run_V (a := ea E 21) (As := []) (rest := []) ⟨hx, hb, hml, hown, hts⟩ (ctX9_skips l E  (un (un s15 35 ((sn s15 21 20) : Int).toNat ((sn s15 21 26))) 21 20 (((sn (un s15 35 ((sn s15 21 20) : Int).toNat ((sn s15 21 26))) 21 20) + 1))) _  h) (cwV 0 hts gX9_readsSet_X9_skips rfl rfl rfl ⟨rfl, hdX9_skips⟩ ⟨Nat.le_of_ble_eq_true rfl, Nat.le_of_ble_eq_true rfl⟩) hK hN hg (recv_x (ci := 9) (C := RX9) (T := TX9) (N := 27) hg hK (by decide) rfl (by decide) rfl) rfl hl.1 rfl (cat_sum _ (by simp)) dX9_readsSet_72 ⟨Nat.le_refl 0, Nat.le_refl 0⟩) hg (fun s25 H locs hm2 h hg => ?_)
      have hm := hm.tn hm2
      refine lv_aload_n hx hb dX9_readsSet_75 rfl (lv_at hl 1 rfl) ?_
      refine lv_aload_n hx hb dX9_readsSet_76 rfl (lv_at hl 1 rfl) ?_
      refine q_geti (ci := 9) (C := RX9) (T := TX9) (N := 27) hx hb hts (fun _ h9 => List.mem_cons_of_mem _ (List.mem_append_right _ h9)) hown hK hg 21 (by decide) rfl rfl (by decide) rfl 24 (by decide) (hts (.fieldLink RX9 207 "JoinMapsModel" "at" "I") (List.mem_cons_of_mem _ (List.mem_append_left _ (List.mem_append_left _ (List.mem_of_getElem? (i := 3) rfl))))) rfl rfl dX9_readsSet_77 ?_
      have hR28 := GS_R hg 21 24
      refine call_i (run_V (a := ea E 21) (As := [.int (iI ((sn s25 21 24)))]) (rest := []) ⟨hx, hb, hml, hown, hts⟩ (ctX9_byteAt l E (sn s25 21 24) s25 _ hR28 h) (cwV 1 hts gX9_readsSet_X9_byteAt rfl rfl rfl ⟨rfl, hdX9_byteAt⟩ ⟨Nat.le_of_ble_eq_true rfl, Nat.le_of_ble_eq_true rfl⟩) hK hN hg (recv_x (ci := 9) (C := RX9) (T := TX9) (N := 27) hg hK (by decide) rfl (by decide) rfl) rfl hl.1 rfl (cat_sum _ (by simp)) dX9_readsSet_80 ⟨Nat.le_refl 0, Nat.le_refl 0⟩) hg (fun r30 s29 H locs hz31 hm2 h hg => ?_)
      have hm := hm.tn hm2
      refine lv_bipush (v := iI 125) hx hb dX9_readsSet_83 (by decide) ?_
      refine j_ne (tgt := 91) hx hb dX9_readsSet_85 (by decide) hz31 (by decide) (fun c32 => ?_) (fun c32 => ?_)
      · have h := h.1 c32
        refine lv_aload_n hx hb dX9_readsSet_91 rfl (lv_at hl 1 rfl) ?_
        refine lv_aload_n hx hb dX9_readsSet_92 rfl (lv_at hl 1 rfl) ?_
        refine q_geti (ci := 9) (C := RX9) (T := TX9) (N := 27) hx hb hts (fun _ h9 => List.mem_cons_of_mem _ (List.mem_append_right _ h9)) hown hK hg 21 (by decide) rfl rfl (by decide) rfl 24 (by decide) (hts (.fieldLink RX9 207 "JoinMapsModel" "at" "I") (List.mem_cons_of_mem _ (List.mem_append_left _ (List.mem_append_left _ (List.mem_of_getElem? (i := 3) rfl))))) rfl rfl dX9_readsSet_93 ?_
        have hR33 := GS_R hg 21 24
        refine call_i (run_V (a := ea E 21) (As := [.int (iI ((sn s29 21 24)))]) (rest := []) ⟨hx, hb, hml, hown, hts⟩ (ctX9_byteAt l E (sn s29 21 24) s29 _ hR33 h) (cwV 1 hts gX9_readsSet_X9_byteAt rfl rfl rfl ⟨rfl, hdX9_byteAt⟩ ⟨Nat.le_of_ble_eq_true rfl, Nat.le_of_ble_eq_true rfl⟩) hK hN hg (recv_x (ci := 9) (C := RX9) (T := TX9) (N := 27) hg hK (by decide) rfl (by decide) rfl) rfl hl.1 rfl (cat_sum _ (by simp)) dX9_readsSet_96 ⟨Nat.le_refl 0, Nat.le_refl 0⟩) hg (fun r35 s34 H locs hz36 hm2 h hg => ?_)
        have hm := hm.tn hm2
        refine lv_bipush (v := iI 44) hx hb dX9_readsSet_99 (by decide) ?_
        refine j_ne (tgt := 110) hx hb dX9_readsSet_101 (by decide) hz36 (by decide) (fun c37 => ?_) (fun c37 => ?_)
        · have h := h.1 c37
          refine lv_iconst (v := iI 0) hx hb dX9_readsSet_110 (by decide) ?_
          exact ret_z hx hb hr hlocks hg (by decide) hm h dX9_readsSet_111
        · have h := h.2 c37
          refine lv_iload_n hx hb dX9_readsSet_104 rfl (lv_at hl 0 rfl) ?_
          refine lv_bipush (v := iI 8) hx hb dX9_readsSet_105 (by decide) ?_
          obtain ⟨hR38, h⟩ := h
          refine j_ne (tgt := 112) hx hb dX9_readsSet_107 (by decide) hR38 (by decide) (fun c39 => ?_) (fun c39 => ?_)
          · have h := h.1 c39
            refine lv_aload_n hx hb dX9_readsSet_112 rfl (lv_at hl 1 rfl) ?_
            refine lv_dup hx hb dX9_readsSet_113 rfl ?_
            refine q_geti (ci := 9) (C := RX9) (T := TX9) (N := 27) hx hb hts (fun _ h9 => List.mem_cons_of_mem _ (List.mem_append_right _ h9)) hown hK hg 21 (by decide) rfl rfl (by decide) rfl 24 (by decide) (hts (.fieldLink RX9 207 "JoinMapsModel" "at" "I") (List.mem_cons_of_mem _ (List.mem_append_left _ (List.mem_append_left _ (List.mem_of_getElem? (i := 3) rfl))))) rfl rfl dX9_readsSet_114 ?_
            have hR40 := GS_R hg 21 24
            refine lv_iconst (v := iI 1) hx hb dX9_readsSet_117 (by decide) ?_
            refine q_iadd hx hb dX9_readsSet_118 ?_
            obtain ⟨hR41, h⟩ := h
            refine q_puti (ci := 9) (C := RX9) (T := TX9) (N := 27) hx hb hts (fun _ h9 => List.mem_cons_of_mem _ (List.mem_append_right _ h9)) tyX9 tyX9_ok nmX9 hown hK hg 21 (by decide) rfl rfl (by decide) rfl 24 (by decide) (hts (.fieldLink RX9 207 "JoinMapsModel" "at" "I") (List.mem_cons_of_mem _ (List.mem_append_left _ (List.mem_append_left _ (List.mem_of_getElem? (i := 3) rfl))))) rfl rfl (by decide +kernel) rfl hR41 dX9_readsSet_119 (fun H locs hg => ?_)
            refine lv_aload_n hx hb dX9_readsSet_122 rfl (lv_at hl 1 rfl) ?_
            refine call_v (run_V (a := ea E 21) (As := []) (rest := []) ⟨hx, hb, hml, hown, hts⟩ (ctX9_skips l E  (un s34 21 24 (((sn s34 21 24) + 1))) _  h) (cwV 0 hts gX9_readsSet_X9_skips rfl rfl rfl ⟨rfl, hdX9_skips⟩ ⟨Nat.le_of_ble_eq_true rfl, Nat.le_of_ble_eq_true rfl⟩) hK hN hg (recv_x (ci := 9) (C := RX9) (T := TX9) (N := 27) hg hK (by decide) rfl (by decide) rfl) rfl hl.1 rfl (cat_sum _ (by simp)) dX9_readsSet_123 ⟨Nat.le_refl 0, Nat.le_refl 0⟩) hg (fun s42 H locs hm2 h hg => ?_)
            have hm := hm.tn hm2
            refine lv_goto (tgt := 19) hx hb dX9_readsSet_126 (by decide) ?_
            exact hK19 (v1 + 1) (s42) _ _ _ hg hm (lv_sub hl [1, 0] rfl) h
          · have h := h.2 c39
            refine lv_iconst (v := iI 0) hx hb dX9_readsSet_110 (by decide) ?_
            exact ret_z hx hb hr hlocks hg (by decide) hm h dX9_readsSet_111
      · have h := h.2 c32
        refine lv_goto (tgt := 129) hx hb dX9_readsSet_88 (by decide) ?_
        exact hK129 (s29) _ _ _ hg hm (lv_sub hl [1] rfl) h
    · have h := h.2 c18
      refine lv_iconst (v := iI 0) hx hb dX9_readsSet_43 (by decide) ?_
      exact ret_z hx hb hr hlocks hg (by decide) hm h dX9_readsSet_44
  have J19 : ∀ (k : Nat), ∀ (v1 : Int) (sL : SS) (H : Heap) (locs : List Loc) (ls : Array Slot), GS E sL s H locs → Mo (sz σ) σ sL → lv_has ls 2 [(0, .ref (ea E 21)), (1, .int (iI (v1)))] → wX9_readsSet_L19  Q  k v1 sL → W p l e (headSpec wsX9_readsSet ({ frames := 3, cells := 0, slots := 0, locals := 69 } : Room)).room s m (List.toArray [.ref (ea E 21)]) below meth c H locs 0 0 (MQ below (Qz E (sz σ) σ Q) (List.toArray [.ref (ea E 21)]) s 0 0 (Av E)) (F0 m 19 ls []) := by
    intro k
    induction k with
    | zero => intro v1 sL H locs ls hg hm hl h; exact False.elim h
    | succ k ih =>
      intro v1 sL H locs ls hg hm hl h
      rw [wX9_readsSet_L19] at h
      refine lv_iload_n hx hb dX9_readsSet_19 rfl (lv_at hl 1 rfl) ?_
      obtain ⟨hR8, h⟩ := h
      refine k_gt (tgt := 36) hx hb dX9_readsSet_20 (by decide) hR8 (fun c9 => ?_) (fun c9 => ?_)
      · have h := h.1 c9
        exact J36 _ ih _ (fun sL H locs ls hg hm hl h => J129  sL H locs ls hg hm hl h) (v1) (sL) _ _ _ hg hm (lv_sub hl [0, 1] rfl) h
      · have h := h.2 c9
        refine lv_aload_n hx hb dX9_readsSet_23 rfl (lv_at hl 0 rfl) ?_
        refine lv_aload_n hx hb dX9_readsSet_24 rfl (lv_at hl 0 rfl) ?_
        refine q_geti (ci := 9) (C := RX9) (T := TX9) (N := 27) hx hb hts (fun _ h9 => List.mem_cons_of_mem _ (List.mem_append_right _ h9)) hown hK hg 21 (by decide) rfl rfl (by decide) rfl 24 (by decide) (hts (.fieldLink RX9 207 "JoinMapsModel" "at" "I") (List.mem_cons_of_mem _ (List.mem_append_left _ (List.mem_append_left _ (List.mem_of_getElem? (i := 3) rfl))))) rfl rfl dX9_readsSet_25 ?_
        have hR10 := GS_R hg 21 24
        refine call_i (run_V (a := ea E 21) (As := [.int (iI ((sn sL 21 24)))]) (rest := []) ⟨hx, hb, hml, hown, hts⟩ (ctX9_byteAt l E (sn sL 21 24) sL _ hR10 h) (cwV 1 hts gX9_readsSet_X9_byteAt rfl rfl rfl ⟨rfl, hdX9_byteAt⟩ ⟨Nat.le_of_ble_eq_true rfl, Nat.le_of_ble_eq_true rfl⟩) hK hN hg (recv_x (ci := 9) (C := RX9) (T := TX9) (N := 27) hg hK (by decide) rfl (by decide) rfl) rfl hl.1 rfl (cat_sum _ (by simp)) dX9_readsSet_28 ⟨Nat.le_refl 0, Nat.le_refl 0⟩) hg (fun r12 s11 H locs hz13 hm2 h hg => ?_)
        have hm := hm.tn hm2
        refine lv_bipush (v := iI 125) hx hb dX9_readsSet_31 (by decide) ?_
        refine j_eq (tgt := 129) hx hb dX9_readsSet_33 (by decide) hz13 (by decide) (fun c14 => ?_) (fun c14 => ?_)
        · have h := h.1 c14
          exact J129  (s11) _ _ _ hg hm (lv_sub hl [0] rfl) h
        · have h := h.2 c14
          exact J36 _ ih _ (fun sL H locs ls hg hm hl h => J129  sL H locs ls hg hm hl h) (v1) (s11) _ _ _ hg hm (lv_sub hl [0, 1] rfl) h
  refine lv_aload_n hx hb dX9_readsSet_0 rfl (lv_at hl 0 rfl) ?_
  refine q_getx (ci := 9) (C := RX9) (T := TX9) (N := 27) (j := 33) hx hb hts (fun _ h9 => List.mem_cons_of_mem _ (List.mem_append_right _ h9)) hown hK hg 21 (by decide) rfl rfl (by decide) rfl 16 (by decide) (hts (.fieldLink RX9 43 "JoinMapsModel" "firsts" "[I") (List.mem_cons_of_mem _ (List.mem_append_left _ (List.mem_append_left _ (List.mem_of_getElem? (i := 0) rfl))))) rfl rfl rfl dX9_readsSet_1 ?_
  refine lv_aload_n hx hb dX9_readsSet_4 rfl (lv_at hl 0 rfl) ?_
  refine q_geti (ci := 9) (C := RX9) (T := TX9) (N := 27) hx hb hts (fun _ h9 => List.mem_cons_of_mem _ (List.mem_append_right _ h9)) hown hK hg 21 (by decide) rfl rfl (by decide) rfl 18 (by decide) (hts (.fieldLink RX9 223 "JoinMapsModel" "sets" "I") (List.mem_cons_of_mem _ (List.mem_append_left _ (List.mem_append_left _ (List.mem_of_getElem? (i := 1) rfl))))) rfl rfl dX9_readsSet_5 ?_
  have hR1 := GS_R hg 21 18
  refine lv_aload_n hx hb dX9_readsSet_8 rfl (lv_at hl 0 rfl) ?_
  refine q_geti (ci := 9) (C := RX9) (T := TX9) (N := 27) hx hb hts (fun _ h9 => List.mem_cons_of_mem _ (List.mem_append_right _ h9)) hown hK hg 21 (by decide) rfl rfl (by decide) rfl 20 (by decide) (hts (.fieldLink RX9 226 "JoinMapsModel" "keyed" "I") (List.mem_cons_of_mem _ (List.mem_append_left _ (List.mem_append_left _ (List.mem_of_getElem? (i := 2) rfl))))) rfl rfl dX9_readsSet_9 ?_
  have hR2 := GS_R hg 21 20
  obtain ⟨hP3, hP4, h⟩ := h
  refine q_iast (N := 60) hx hb hK hg 33 (by decide) rfl rfl hP3 hP4 (by decide) hR2 dX9_readsSet_12 (fun H locs hg => ?_)
  refine lv_aload_n hx hb dX9_readsSet_13 rfl (lv_at hl 0 rfl) ?_
  refine call_v (run_V (a := ea E 21) (As := []) (rest := []) ⟨hx, hb, hml, hown, hts⟩ (ctX9_skips l E  (un σ 33 ((sn σ 21 18) : Int).toNat ((sn σ 21 20))) _  h) (cwV 0 hts gX9_readsSet_X9_skips rfl rfl rfl ⟨rfl, hdX9_skips⟩ ⟨Nat.le_of_ble_eq_true rfl, Nat.le_of_ble_eq_true rfl⟩) hK hN hg (recv_x (ci := 9) (C := RX9) (T := TX9) (N := 27) hg hK (by decide) rfl (by decide) rfl) rfl hl.1 rfl (cat_sum _ (by simp)) dX9_readsSet_14 ⟨Nat.le_refl 0, Nat.le_refl 0⟩) hg (fun s5 H locs hm2 h hg => ?_)
  have hm := hm.tn hm2
  refine lv_iconst (v := iI 0) hx hb dX9_readsSet_17 (by decide) ?_
  refine lv_istore_n (i := 1) (lv' := [(1, .int (iI (0))), (0, .ref (ea E 21))]) hx hb dX9_readsSet_18 rfl hl (by decide) rfl (fun ls hl => ?_)
  obtain ⟨kk, h⟩ := h
  exact J19  kk (0) (s5) _ _ _ hg hm (lv_sub hl [1, 0] rfl) h
theorem hdX9_sortBy : yX9_sortBy.cls ≠ "java/lang/invoke/MethodHandle" ∧ yX9_sortBy.cls ≠ "java/lang/invoke/VarHandle" ∧ (parseMethodDescriptor yX9_sortBy.desc).map (fun d => d.parameters.length) = some 1 := by decide +kernel
set_option maxRecDepth 100000 in
set_option maxHeartbeats 4000000 in
theorem ctX9_sortBy (l : Launch) (E : Ev) (a0 : Int) (σ : SS) (Q : Int → SS → Prop) (ha0 : R32 a0) (h : wX9_sortBy a0 σ Q) : Met l yX9_sortBy wsX9_sortBy ({ frames := 0, cells := 0, slots := 0, locals := 0 } : Room) (Pc E σ [.int (iI (a0))]) (Qi E (sz σ) σ Q) 0 0 (Av E) := by
  rw [wX9_sortBy] at h
  refine Met.ofW (cc := cX9_sortBy) (maxL := 1) (ret := (some .int)) (by decide) rfl ?_
  intro p e s m args below meth c s₁ B hml hv
  obtain ⟨rfl, hH, hK, hN⟩ := hv
  have hx := B.exec
  have hb := B.bytes
  have hr := B.returns
  have hts := atoms_spec (ws := wsX9_sortBy) B.pre
  have hown : s.vm.findClass RX9 = some m.cls := findClass_of_methodNamed B.named
  have hlocks := B.notSynchronized
  have hg : GS E σ s s.heap [] := ⟨hH, va_S.rf⟩
  have hm : Mo (sz σ) σ σ := Mo.rf (Nat.le_refl _)
  have hl := ent (vs := [.int (iI (a0))]) (n := 1) (cats_i cats_nil) (Nat.le_of_ble_eq_true rfl)
  rw [lg_entry_eq]
  generalize (lg_sl ([.int (iI (a0))]) ++ List.replicate (1 - (lg_sl ([.int (iI (a0))])).length) Slot.unset).toArray = ls at hl ⊢
  have hl : lv_has ls 1 [(0, .int (iI (a0)))] := hl
  refine lv_iload_n hx hb dX9_sortBy_0 rfl (lv_at hl 0 rfl) ?_
  refine lv_bipush (v := iI 43) hx hb dX9_sortBy_1 (by decide) ?_
  refine j_ne (tgt := 10) hx hb dX9_sortBy_3 (by decide) ha0 (by decide) (fun c1 => ?_) (fun c1 => ?_)
  · have h := h.1 c1
    refine lv_iload_n hx hb dX9_sortBy_10 rfl (lv_at hl 0 rfl) ?_
    refine lv_bipush (v := iI 38) hx hb dX9_sortBy_11 (by decide) ?_
    refine j_ne (tgt := 20) hx hb dX9_sortBy_13 (by decide) ha0 (by decide) (fun c2 => ?_) (fun c2 => ?_)
    · have h := h.1 c2
      refine lv_iload_n hx hb dX9_sortBy_20 rfl (lv_at hl 0 rfl) ?_
      refine lv_bipush (v := iI 45) hx hb dX9_sortBy_21 (by decide) ?_
      refine j_ne (tgt := 30) hx hb dX9_sortBy_23 (by decide) ha0 (by decide) (fun c3 => ?_) (fun c3 => ?_)
      · have h := h.1 c3
        refine lv_iload_n hx hb dX9_sortBy_30 rfl (lv_at hl 0 rfl) ?_
        refine lv_bipush (v := iI 94) hx hb dX9_sortBy_31 (by decide) ?_
        refine j_ne (tgt := 40) hx hb dX9_sortBy_33 (by decide) ha0 (by decide) (fun c4 => ?_) (fun c4 => ?_)
        · have h := h.1 c4
          refine q_ldc (z := (-2000000001)) hx hb hown (hts (.constant RX9 120 (-2000000001)) (List.mem_cons_of_mem _ (List.mem_of_getElem? (i := 0) rfl))) (by decide) dX9_sortBy_40 ?_
          exact ret_i hx hb hr hlocks hg (by decide) hm h dX9_sortBy_42
        · have h := h.2 c4
          refine lv_iconst (v := iI 3) hx hb dX9_sortBy_36 (by decide) ?_
          refine lv_goto (tgt := 42) hx hb dX9_sortBy_37 (by decide) ?_
          exact ret_i hx hb hr hlocks hg (by decide) hm h dX9_sortBy_42
      · have h := h.2 c3
        refine lv_iconst (v := iI 2) hx hb dX9_sortBy_26 (by decide) ?_
        refine lv_goto (tgt := 42) hx hb dX9_sortBy_27 (by decide) ?_
        exact ret_i hx hb hr hlocks hg (by decide) hm h dX9_sortBy_42
    · have h := h.2 c2
      refine lv_iconst (v := iI 1) hx hb dX9_sortBy_16 (by decide) ?_
      refine lv_goto (tgt := 42) hx hb dX9_sortBy_17 (by decide) ?_
      exact ret_i hx hb hr hlocks hg (by decide) hm h dX9_sortBy_42
  · have h := h.2 c1
    refine lv_iconst (v := iI 0) hx hb dX9_sortBy_6 (by decide) ?_
    refine lv_goto (tgt := 42) hx hb dX9_sortBy_7 (by decide) ?_
    exact ret_i hx hb hr hlocks hg (by decide) hm h dX9_sortBy_42
theorem hdX9_does : yX9_does.cls ≠ "java/lang/invoke/MethodHandle" ∧ yX9_does.cls ≠ "java/lang/invoke/VarHandle" ∧ (parseMethodDescriptor yX9_does.desc).map (fun d => d.parameters.length) = some 1 := by decide +kernel
set_option maxRecDepth 100000 in
set_option maxHeartbeats 4000000 in
theorem ctX9_does (l : Launch) (E : Ev) (a1 : Int) (σ : SS) (Q : SS → Prop) (ha1 : R32 a1) (h : wX9_does a1 σ Q) : Met l yX9_does wsX9_does ({ frames := 0, cells := 0, slots := 0, locals := 0 } : Room) (Pc E σ [.ref (ea E 21), .int (iI (a1))]) (Qv E (sz σ) σ Q) 0 0 (Av E) := by
  rw [wX9_does] at h
  refine Met.ofW (cc := cX9_does) (maxL := 2) (ret := none) (by decide) rfl ?_
  intro p e s m args below meth c s₁ B hml hv
  obtain ⟨rfl, hH, hK, hN⟩ := hv
  have hx := B.exec
  have hb := B.bytes
  have hr := B.returns
  have hts := atoms_spec (ws := wsX9_does) B.pre
  have hown : s.vm.findClass RX9 = some m.cls := findClass_of_methodNamed B.named
  have hlocks := B.notSynchronized
  have hg : GS E σ s s.heap [] := ⟨hH, va_S.rf⟩
  have hm : Mo (sz σ) σ σ := Mo.rf (Nat.le_refl _)
  have hl := ent (vs := [.ref (ea E 21), .int (iI (a1))]) (n := 2) (cats_x (cats_i cats_nil)) (Nat.le_of_ble_eq_true rfl)
  rw [lg_entry_eq]
  generalize (lg_sl ([.ref (ea E 21), .int (iI (a1))]) ++ List.replicate (2 - (lg_sl ([.ref (ea E 21), .int (iI (a1))])).length) Slot.unset).toArray = ls at hl ⊢
  have hl : lv_has ls 2 [(0, .ref (ea E 21)), (1, .int (iI (a1)))] := hl
  have J43 : ∀ (K0 : SS → Prop) (hK0 : ∀ (sL : SS) (H : Heap) (locs : List Loc) (ls : Array Slot), GS E sL s H locs → Mo (sz σ) σ sL → lv_has ls 2 [(0, .ref (ea E 21)), (1, .int (iI (a1)))] → K0  sL → W p l e (headSpec wsX9_does ({ frames := 0, cells := 0, slots := 0, locals := 0 } : Room)).room s m (List.toArray [.ref (ea E 21), .int (iI (a1))]) below meth c H locs 0 0 (MQ below (Qv E (sz σ) σ Q) (List.toArray [.ref (ea E 21), .int (iI (a1))]) s 0 0 (Av E)) (F0 m 0 ls [])), ∀ (sL : SS) (H : Heap) (locs : List Loc) (ls : Array Slot), GS E sL s H locs → Mo (sz σ) σ sL → lv_has ls 2 [(0, .ref (ea E 21)), (1, .int (iI (a1)))] → wX9_does_L43 a1 Q K0  sL → W p l e (headSpec wsX9_does ({ frames := 0, cells := 0, slots := 0, locals := 0 } : Room)).room s m (List.toArray [.ref (ea E 21), .int (iI (a1))]) below meth c H locs 0 0 (MQ below (Qv E (sz σ) σ Q) (List.toArray [.ref (ea E 21), .int (iI (a1))]) s 0 0 (Av E)) (F0 m 43 ls []) := by
    intro K0 hK0 sL H locs ls hg hm hl h
    rw [wX9_does_L43] at h
    refine lv_aload_n hx hb dX9_does_43 rfl (lv_at hl 0 rfl) ?_
    refine lv_dup hx hb dX9_does_44 rfl ?_
    refine q_geti (ci := 9) (C := RX9) (T := TX9) (N := 27) hx hb hts (fun _ h9 => List.mem_cons_of_mem _ (List.mem_append_right _ h9)) hown hK hg 21 (by decide) rfl rfl (by decide) rfl 15 (by decide) (hts (.fieldLink RX9 239 "JoinMapsModel" "opened" "I") (List.mem_cons_of_mem _ (List.mem_append_left _ (List.mem_of_getElem? (i := 0) rfl)))) rfl rfl dX9_does_45 ?_
    have hR14 := GS_R hg 21 15
    refine lv_iconst (v := iI 1) hx hb dX9_does_48 (by decide) ?_
    refine q_isub hx hb dX9_does_49 ?_
    obtain ⟨hR15, h⟩ := h
    refine q_puti (ci := 9) (C := RX9) (T := TX9) (N := 27) hx hb hts (fun _ h9 => List.mem_cons_of_mem _ (List.mem_append_right _ h9)) tyX9 tyX9_ok nmX9 hown hK hg 21 (by decide) rfl rfl (by decide) rfl 15 (by decide) (hts (.fieldLink RX9 239 "JoinMapsModel" "opened" "I") (List.mem_cons_of_mem _ (List.mem_append_left _ (List.mem_of_getElem? (i := 0) rfl)))) rfl rfl (by decide +kernel) rfl hR15 dX9_does_50 (fun H locs hg => ?_)
    refine lv_aload_n hx hb dX9_does_53 rfl (lv_at hl 0 rfl) ?_
    refine q_getx (ci := 9) (C := RX9) (T := TX9) (N := 27) (j := 31) hx hb hts (fun _ h9 => List.mem_cons_of_mem _ (List.mem_append_right _ h9)) hown hK hg 21 (by decide) rfl rfl (by decide) rfl 12 (by decide) (hts (.fieldLink RX9 37 "JoinMapsModel" "marks" "[I") (List.mem_cons_of_mem _ (List.mem_append_left _ (List.mem_of_getElem? (i := 2) rfl)))) rfl rfl rfl dX9_does_54 ?_
    refine lv_aload_n hx hb dX9_does_57 rfl (lv_at hl 0 rfl) ?_
    refine q_geti (ci := 9) (C := RX9) (T := TX9) (N := 27) hx hb hts (fun _ h9 => List.mem_cons_of_mem _ (List.mem_append_right _ h9)) hown hK hg 21 (by decide) rfl rfl (by decide) rfl 13 (by decide) (hts (.fieldLink RX9 236 "JoinMapsModel" "many" "I") (List.mem_cons_of_mem _ (List.mem_append_left _ (List.mem_of_getElem? (i := 3) rfl)))) rfl rfl dX9_does_58 ?_
    have hR16 := GS_R hg 21 13
    refine lv_bipush (v := iI 10) hx hb dX9_does_61 (by decide) ?_
    refine lv_aload_n hx hb dX9_does_63 rfl (lv_at hl 0 rfl) ?_
    refine q_getx (ci := 9) (C := RX9) (T := TX9) (N := 27) (j := 32) hx hb hts (fun _ h9 => List.mem_cons_of_mem _ (List.mem_append_right _ h9)) hown hK hg 21 (by decide) rfl rfl (by decide) rfl 14 (by decide) (hts (.fieldLink RX9 40 "JoinMapsModel" "open" "[I") (List.mem_cons_of_mem _ (List.mem_append_left _ (List.mem_of_getElem? (i := 1) rfl)))) rfl rfl rfl dX9_does_64 ?_
    refine lv_aload_n hx hb dX9_does_67 rfl (lv_at hl 0 rfl) ?_
    refine q_geti (ci := 9) (C := RX9) (T := TX9) (N := 27) hx hb hts (fun _ h9 => List.mem_cons_of_mem _ (List.mem_append_right _ h9)) hown hK hg 21 (by decide) rfl rfl (by decide) rfl 15 (by decide) (hts (.fieldLink RX9 239 "JoinMapsModel" "opened" "I") (List.mem_cons_of_mem _ (List.mem_append_left _ (List.mem_of_getElem? (i := 0) rfl)))) rfl rfl dX9_does_68 ?_
    have hR17 := GS_R hg 21 15
    obtain ⟨hP18, hP19, h⟩ := h
    refine q_iald (N := 130) hx hb hK hg 32 (by decide) rfl rfl hP18 hP19 (by decide) dX9_does_71 ?_
    have hR20 := GS_R hg 32 ((sn (un sL 21 15 (((sn sL 21 15) - 1))) 21 15) : Int).toNat
    refine q_iadd hx hb dX9_does_72 ?_
    obtain ⟨hP21, hP22, hR23, h⟩ := h
    refine q_iast (N := 130) hx hb hK hg 31 (by decide) rfl rfl hP21 hP22 (by decide) hR23 dX9_does_73 (fun H locs hg => ?_)
    refine lv_aload_n hx hb dX9_does_74 rfl (lv_at hl 0 rfl) ?_
    refine lv_dup hx hb dX9_does_75 rfl ?_
    refine q_geti (ci := 9) (C := RX9) (T := TX9) (N := 27) hx hb hts (fun _ h9 => List.mem_cons_of_mem _ (List.mem_append_right _ h9)) hown hK hg 21 (by decide) rfl rfl (by decide) rfl 13 (by decide) (hts (.fieldLink RX9 236 "JoinMapsModel" "many" "I") (List.mem_cons_of_mem _ (List.mem_append_left _ (List.mem_of_getElem? (i := 3) rfl)))) rfl rfl dX9_does_76 ?_
    have hR24 := GS_R hg 21 13
    refine lv_iconst (v := iI 1) hx hb dX9_does_79 (by decide) ?_
    refine q_iadd hx hb dX9_does_80 ?_
    obtain ⟨hR25, h⟩ := h
    refine q_puti (ci := 9) (C := RX9) (T := TX9) (N := 27) hx hb hts (fun _ h9 => List.mem_cons_of_mem _ (List.mem_append_right _ h9)) tyX9 tyX9_ok nmX9 hown hK hg 21 (by decide) rfl rfl (by decide) rfl 13 (by decide) (hts (.fieldLink RX9 236 "JoinMapsModel" "many" "I") (List.mem_cons_of_mem _ (List.mem_append_left _ (List.mem_of_getElem? (i := 3) rfl)))) rfl rfl (by decide +kernel) rfl hR25 dX9_does_81 (fun H locs hg => ?_)
    refine lv_goto (tgt := 0) hx hb dX9_does_84 (by decide) ?_
    exact hK0 (un (un (un sL 21 15 (((sn sL 21 15) - 1))) 31 ((sn (un sL 21 15 (((sn sL 21 15) - 1))) 21 13) : Int).toNat ((10 + (sn (un sL 21 15 (((sn sL 21 15) - 1))) 32 ((sn (un sL 21 15 (((sn sL 21 15) - 1))) 21 15) : Int).toNat)))) 21 13 (((sn (un (un sL 21 15 (((sn sL 21 15) - 1))) 31 ((sn (un sL 21 15 (((sn sL 21 15) - 1))) 21 13) : Int).toNat ((10 + (sn (un sL 21 15 (((sn sL 21 15) - 1))) 32 ((sn (un sL 21 15 (((sn sL 21 15) - 1))) 21 15) : Int).toNat)))) 21 13) + 1))) _ _ _ hg hm (lv_sub hl [0, 1] rfl) h
  have J0 : ∀ (k : Nat), ∀ (sL : SS) (H : Heap) (locs : List Loc) (ls : Array Slot), GS E sL s H locs → Mo (sz σ) σ sL → lv_has ls 2 [(0, .ref (ea E 21)), (1, .int (iI (a1)))] → wX9_does_L0 a1 Q  k  sL → W p l e (headSpec wsX9_does ({ frames := 0, cells := 0, slots := 0, locals := 0 } : Room)).room s m (List.toArray [.ref (ea E 21), .int (iI (a1))]) below meth c H locs 0 0 (MQ below (Qv E (sz σ) σ Q) (List.toArray [.ref (ea E 21), .int (iI (a1))]) s 0 0 (Av E)) (F0 m 0 ls []) := by
    intro k
    induction k with
    | zero => intro sL H locs ls hg hm hl h; exact False.elim h
    | succ k ih =>
      intro sL H locs ls hg hm hl h
      rw [wX9_does_L0] at h
      refine lv_aload_n hx hb dX9_does_0 rfl (lv_at hl 0 rfl) ?_
      refine q_geti (ci := 9) (C := RX9) (T := TX9) (N := 27) hx hb hts (fun _ h9 => List.mem_cons_of_mem _ (List.mem_append_right _ h9)) hown hK hg 21 (by decide) rfl rfl (by decide) rfl 15 (by decide) (hts (.fieldLink RX9 239 "JoinMapsModel" "opened" "I") (List.mem_cons_of_mem _ (List.mem_append_left _ (List.mem_of_getElem? (i := 0) rfl)))) rfl rfl dX9_does_1 ?_
      have hR1 := GS_R hg 21 15
      refine k_le (tgt := 87) hx hb dX9_does_4 (by decide) hR1 (fun c2 => ?_) (fun c2 => ?_)
      · have h := h.1 c2
        exact ret_v hx hb hr hlocks hg hm h dX9_does_87
      · have h := h.2 c2
        refine lv_aload_n hx hb dX9_does_7 rfl (lv_at hl 0 rfl) ?_
        refine q_getx (ci := 9) (C := RX9) (T := TX9) (N := 27) (j := 32) hx hb hts (fun _ h9 => List.mem_cons_of_mem _ (List.mem_append_right _ h9)) hown hK hg 21 (by decide) rfl rfl (by decide) rfl 14 (by decide) (hts (.fieldLink RX9 40 "JoinMapsModel" "open" "[I") (List.mem_cons_of_mem _ (List.mem_append_left _ (List.mem_of_getElem? (i := 1) rfl)))) rfl rfl rfl dX9_does_8 ?_
        refine lv_aload_n hx hb dX9_does_11 rfl (lv_at hl 0 rfl) ?_
        refine q_geti (ci := 9) (C := RX9) (T := TX9) (N := 27) hx hb hts (fun _ h9 => List.mem_cons_of_mem _ (List.mem_append_right _ h9)) hown hK hg 21 (by decide) rfl rfl (by decide) rfl 15 (by decide) (hts (.fieldLink RX9 239 "JoinMapsModel" "opened" "I") (List.mem_cons_of_mem _ (List.mem_append_left _ (List.mem_of_getElem? (i := 0) rfl)))) rfl rfl dX9_does_12 ?_
        have hR3 := GS_R hg 21 15
        refine lv_iconst (v := iI 1) hx hb dX9_does_15 (by decide) ?_
        refine q_isub hx hb dX9_does_16 ?_
        obtain ⟨hP4, hP5, h⟩ := h
        refine q_iald (N := 130) hx hb hK hg 32 (by decide) rfl rfl hP4 hP5 (by decide) dX9_does_17 ?_
        have hR6 := GS_R hg 32 (((sn sL 21 15) - 1) : Int).toNat
        refine lv_bipush (v := iI 40) hx hb dX9_does_18 (by decide) ?_
        refine j_eq (tgt := 87) hx hb dX9_does_20 (by decide) hR6 (by decide) (fun c7 => ?_) (fun c7 => ?_)
        · have h := h.1 c7
          exact ret_v hx hb hr hlocks hg hm h dX9_does_87
        · have h := h.2 c7
          refine lv_iload_n hx hb dX9_does_23 rfl (lv_at hl 1 rfl) ?_
          refine lv_iconst (v := iI 1) hx hb dX9_does_24 (by decide) ?_
          refine j_ne (tgt := 43) hx hb dX9_does_25 (by decide) ha1 (by decide) (fun c8 => ?_) (fun c8 => ?_)
          · have h := h.1 c8
            exact J43 _ ih (sL) _ _ _ hg hm (lv_sub hl [0, 1] rfl) h
          · have h := h.2 c8
            refine lv_aload_n hx hb dX9_does_28 rfl (lv_at hl 0 rfl) ?_
            refine q_getx (ci := 9) (C := RX9) (T := TX9) (N := 27) (j := 32) hx hb hts (fun _ h9 => List.mem_cons_of_mem _ (List.mem_append_right _ h9)) hown hK hg 21 (by decide) rfl rfl (by decide) rfl 14 (by decide) (hts (.fieldLink RX9 40 "JoinMapsModel" "open" "[I") (List.mem_cons_of_mem _ (List.mem_append_left _ (List.mem_of_getElem? (i := 1) rfl)))) rfl rfl rfl dX9_does_29 ?_
            refine lv_aload_n hx hb dX9_does_32 rfl (lv_at hl 0 rfl) ?_
            refine q_geti (ci := 9) (C := RX9) (T := TX9) (N := 27) hx hb hts (fun _ h9 => List.mem_cons_of_mem _ (List.mem_append_right _ h9)) hown hK hg 21 (by decide) rfl rfl (by decide) rfl 15 (by decide) (hts (.fieldLink RX9 239 "JoinMapsModel" "opened" "I") (List.mem_cons_of_mem _ (List.mem_append_left _ (List.mem_of_getElem? (i := 0) rfl)))) rfl rfl dX9_does_33 ?_
            have hR9 := GS_R hg 21 15
            refine lv_iconst (v := iI 1) hx hb dX9_does_36 (by decide) ?_
            refine q_isub hx hb dX9_does_37 ?_
            obtain ⟨hP10, hP11, h⟩ := h
            refine q_iald (N := 130) hx hb hK hg 32 (by decide) rfl rfl hP10 hP11 (by decide) dX9_does_38 ?_
            have hR12 := GS_R hg 32 (((sn sL 21 15) - 1) : Int).toNat
            refine lv_iconst (v := iI 1) hx hb dX9_does_39 (by decide) ?_
            refine j_ne (tgt := 87) hx hb dX9_does_40 (by decide) hR12 (by decide) (fun c13 => ?_) (fun c13 => ?_)
            · have h := h.1 c13
              exact ret_v hx hb hr hlocks hg hm h dX9_does_87
            · have h := h.2 c13
              exact J43 _ ih (sL) _ _ _ hg hm (lv_sub hl [0, 1] rfl) h
  obtain ⟨kk, h⟩ := h
  exact J0  kk (σ) _ _ _ hg hm (lv_sub hl [0, 1] rfl) h
theorem hdX9_readsTerm : yX9_readsTerm.cls ≠ "java/lang/invoke/MethodHandle" ∧ yX9_readsTerm.cls ≠ "java/lang/invoke/VarHandle" ∧ (parseMethodDescriptor yX9_readsTerm.desc).map (fun d => d.parameters.length) = some 0 := by decide +kernel
set_option maxRecDepth 100000 in
set_option maxHeartbeats 4000000 in
theorem ctX9_readsTerm (l : Launch) (E : Ev)  (σ : SS) (Q : Int → SS → Prop)  (h : wX9_readsTerm  σ Q) : Met l yX9_readsTerm wsX9_readsTerm ({ frames := 4, cells := 0, slots := 0, locals := 90 } : Room) (Pc E σ [.ref (ea E 21)]) (Qz E (sz σ) σ Q) 0 0 (Av E) := by
  rw [wX9_readsTerm] at h
  refine Met.ofW (cc := cX9_readsTerm) (maxL := 4) (ret := (some .boolean)) (by decide) rfl ?_
  intro p e s m args below meth c s₁ B hml hv
  obtain ⟨rfl, hH, hK, hN⟩ := hv
  have hx := B.exec
  have hb := B.bytes
  have hr := B.returns
  have hts := atoms_spec (ws := wsX9_readsTerm) B.pre
  have hown : s.vm.findClass RX9 = some m.cls := findClass_of_methodNamed B.named
  have hlocks := B.notSynchronized
  have hg : GS E σ s s.heap [] := ⟨hH, va_S.rf⟩
  have hm : Mo (sz σ) σ σ := Mo.rf (Nat.le_refl _)
  have hl := ent (vs := [.ref (ea E 21)]) (n := 4) (cats_x cats_nil) (Nat.le_of_ble_eq_true rfl)
  rw [lg_entry_eq]
  generalize (lg_sl ([.ref (ea E 21)]) ++ List.replicate (4 - (lg_sl ([.ref (ea E 21)])).length) Slot.unset).toArray = ls at hl ⊢
  have hl : lv_has ls 4 [(0, .ref (ea E 21))] := hl
  have J249 : ∀ (K24 : Int → Int → SS → Prop) (hK24 : ∀ (v1 : Int) (v2 : Int) (sL : SS) (H : Heap) (locs : List Loc) (ls : Array Slot), GS E sL s H locs → Mo (sz σ) σ sL → lv_has ls 4 [(0, .ref (ea E 21)), (1, .int (iI (v1))), (2, .int (iI (v2)))] → K24 v1 v2 sL → W p l e (headSpec wsX9_readsTerm ({ frames := 4, cells := 0, slots := 0, locals := 90 } : Room)).room s m (List.toArray [.ref (ea E 21)]) below meth c H locs 0 0 (MQ below (Qz E (sz σ) σ Q) (List.toArray [.ref (ea E 21)]) s 0 0 (Av E)) (F0 m 24 ls [])), ∀ (v1 : Int) (v2 : Int) (v3 : Int) (sL : SS) (H : Heap) (locs : List Loc) (ls : Array Slot), GS E sL s H locs → Mo (sz σ) σ sL → lv_has ls 4 [(0, .ref (ea E 21)), (1, .int (iI (v1))), (2, .int (iI (v2))), (3, .int (iI (v3)))] → wX9_readsTerm_L249  Q K24 v1 v2 v3 sL → W p l e (headSpec wsX9_readsTerm ({ frames := 4, cells := 0, slots := 0, locals := 90 } : Room)).room s m (List.toArray [.ref (ea E 21)]) below meth c H locs 0 0 (MQ below (Qz E (sz σ) σ Q) (List.toArray [.ref (ea E 21)]) s 0 0 (Av E)) (F0 m 249 ls []) := by
    intro K24 hK24 v1 v2 v3 sL H locs ls hg hm hl h
    rw [wX9_readsTerm_L249] at h
    refine lv_iload_n hx hb dX9_readsTerm_249 rfl (lv_at hl 2 rfl) ?_
    obtain ⟨hR67, h⟩ := h
    refine k_ne (tgt := 308) hx hb dX9_readsTerm_250 (by decide) hR67 (fun c68 => ?_) (fun c68 => ?_)
    · have h := h.1 c68
      refine lv_iconst (v := iI 0) hx hb dX9_readsTerm_308 (by decide) ?_
      exact ret_z hx hb hr hlocks hg (by decide) hm h dX9_readsTerm_309
    · have h := h.2 c68
      refine lv_iload_n hx hb dX9_readsTerm_253 rfl (lv_at hl 3 rfl) ?_
      obtain ⟨hR69, h⟩ := h
      refine call_i (run_S (As := [.int (iI (v3))]) (rest := []) ⟨hx, hb, hml, hown, hts⟩ (ctX9_sortBy l E v3 sL _ hR69 h) (va_cwS 1 hts gX9_readsTerm_X9_sortBy rfl rfl rfl hdX9_sortBy ⟨Nat.le_of_ble_eq_true rfl, Nat.le_of_ble_eq_true rfl⟩) hK hN hg rfl hl.1 rfl (cat_sum _ (by simp)) dX9_readsTerm_254 ⟨Nat.le_refl 0, Nat.le_refl 0⟩) hg (fun r71 s70 H locs hz72 hm2 h hg => ?_)
      have hm := hm.tn hm2
      refine q_ldc (z := (-2000000001)) hx hb hown (hts (.constant RX9 120 (-2000000001)) (List.mem_cons_of_mem _ (List.mem_append_left _ (List.mem_append_left _ (List.mem_of_getElem? (i := 9) rfl))))) (by decide) dX9_readsTerm_257 ?_
      refine j_eq (tgt := 308) hx hb dX9_readsTerm_259 (by decide) hz72 (by decide) (fun c73 => ?_) (fun c73 => ?_)
      · have h := h.1 c73
        refine lv_iconst (v := iI 0) hx hb dX9_readsTerm_308 (by decide) ?_
        exact ret_z hx hb hr hlocks hg (by decide) hm h dX9_readsTerm_309
      · have h := h.2 c73
        refine lv_aload_n hx hb dX9_readsTerm_262 rfl (lv_at hl 0 rfl) ?_
        refine lv_iload_n hx hb dX9_readsTerm_263 rfl (lv_at hl 3 rfl) ?_
        refine call_i (run_S (As := [.int (iI (v3))]) (rest := [.ref (ea E 21)]) ⟨hx, hb, hml, hown, hts⟩ (ctX9_sortBy l E v3 s70 _ hR69 h) (va_cwS 1 hts gX9_readsTerm_X9_sortBy rfl rfl rfl hdX9_sortBy ⟨Nat.le_of_ble_eq_true rfl, Nat.le_of_ble_eq_true rfl⟩) hK hN hg rfl hl.1 rfl (cat_sum _ (by simp)) dX9_readsTerm_264 ⟨Nat.le_refl 0, Nat.le_refl 0⟩) hg (fun r75 s74 H locs hz76 hm2 h hg => ?_)
        have hm := hm.tn hm2
        refine call_v (run_V (a := ea E 21) (As := [.int (iI (r75))]) (rest := []) ⟨hx, hb, hml, hown, hts⟩ (ctX9_does l E r75 s74 _ hz76 h) (cwV 1 hts gX9_readsTerm_X9_does rfl rfl rfl ⟨rfl, hdX9_does⟩ ⟨Nat.le_of_ble_eq_true rfl, Nat.le_of_ble_eq_true rfl⟩) hK hN hg (recv_x (ci := 9) (C := RX9) (T := TX9) (N := 27) hg hK (by decide) rfl (by decide) rfl) rfl hl.1 rfl (cat_sum _ (by simp)) dX9_readsTerm_267 ⟨Nat.le_refl 0, Nat.le_refl 0⟩) hg (fun s77 H locs hm2 h hg => ?_)
        have hm := hm.tn hm2
        refine lv_aload_n hx hb dX9_readsTerm_270 rfl (lv_at hl 0 rfl) ?_
        refine q_getx (ci := 9) (C := RX9) (T := TX9) (N := 27) (j := 32) hx hb hts (fun _ h9 => List.mem_cons_of_mem _ (List.mem_append_right _ h9)) hown hK hg 21 (by decide) rfl rfl (by decide) rfl 14 (by decide) (hts (.fieldLink RX9 40 "JoinMapsModel" "open" "[I") (List.mem_cons_of_mem _ (List.mem_append_left _ (List.mem_append_left _ (List.mem_of_getElem? (i := 5) rfl))))) rfl rfl rfl dX9_readsTerm_271 ?_
        refine lv_aload_n hx hb dX9_readsTerm_274 rfl (lv_at hl 0 rfl) ?_
        refine q_geti (ci := 9) (C := RX9) (T := TX9) (N := 27) hx hb hts (fun _ h9 => List.mem_cons_of_mem _ (List.mem_append_right _ h9)) hown hK hg 21 (by decide) rfl rfl (by decide) rfl 15 (by decide) (hts (.fieldLink RX9 239 "JoinMapsModel" "opened" "I") (List.mem_cons_of_mem _ (List.mem_append_left _ (List.mem_append_left _ (List.mem_of_getElem? (i := 1) rfl))))) rfl rfl dX9_readsTerm_275 ?_
        have hR80 := GS_R hg 21 15
        refine lv_iload_n hx hb dX9_readsTerm_278 rfl (lv_at hl 3 rfl) ?_
        refine call_i (run_S (As := [.int (iI (v3))]) (rest := [.int (iI ((sn s77 21 15))), .ref (ea E 32)]) ⟨hx, hb, hml, hown, hts⟩ (ctX9_sortBy l E v3 s77 _ hR69 h) (va_cwS 1 hts gX9_readsTerm_X9_sortBy rfl rfl rfl hdX9_sortBy ⟨Nat.le_of_ble_eq_true rfl, Nat.le_of_ble_eq_true rfl⟩) hK hN hg rfl hl.1 rfl (cat_sum _ (by simp)) dX9_readsTerm_279 ⟨Nat.le_refl 0, Nat.le_refl 0⟩) hg (fun r82 s81 H locs hz83 hm2 h hg => ?_)
        have hm := hm.tn hm2
        obtain ⟨hP84, hP85, h⟩ := h
        refine q_iast (N := 130) hx hb hK hg 32 (by decide) rfl rfl hP84 hP85 (by decide) hz83 dX9_readsTerm_282 (fun H locs hg => ?_)
        refine lv_aload_n hx hb dX9_readsTerm_283 rfl (lv_at hl 0 rfl) ?_
        refine lv_dup hx hb dX9_readsTerm_284 rfl ?_
        refine q_geti (ci := 9) (C := RX9) (T := TX9) (N := 27) hx hb hts (fun _ h9 => List.mem_cons_of_mem _ (List.mem_append_right _ h9)) hown hK hg 21 (by decide) rfl rfl (by decide) rfl 15 (by decide) (hts (.fieldLink RX9 239 "JoinMapsModel" "opened" "I") (List.mem_cons_of_mem _ (List.mem_append_left _ (List.mem_append_left _ (List.mem_of_getElem? (i := 1) rfl))))) rfl rfl dX9_readsTerm_285 ?_
        have hR86 := GS_R hg 21 15
        refine lv_iconst (v := iI 1) hx hb dX9_readsTerm_288 (by decide) ?_
        refine q_iadd hx hb dX9_readsTerm_289 ?_
        obtain ⟨hR87, h⟩ := h
        refine q_puti (ci := 9) (C := RX9) (T := TX9) (N := 27) hx hb hts (fun _ h9 => List.mem_cons_of_mem _ (List.mem_append_right _ h9)) tyX9 tyX9_ok nmX9 hown hK hg 21 (by decide) rfl rfl (by decide) rfl 15 (by decide) (hts (.fieldLink RX9 239 "JoinMapsModel" "opened" "I") (List.mem_cons_of_mem _ (List.mem_append_left _ (List.mem_append_left _ (List.mem_of_getElem? (i := 1) rfl))))) rfl rfl (by decide +kernel) rfl hR87 dX9_readsTerm_290 (fun H locs hg => ?_)
        refine lv_aload_n hx hb dX9_readsTerm_293 rfl (lv_at hl 0 rfl) ?_
        refine lv_dup hx hb dX9_readsTerm_294 rfl ?_
        refine q_geti (ci := 9) (C := RX9) (T := TX9) (N := 27) hx hb hts (fun _ h9 => List.mem_cons_of_mem _ (List.mem_append_right _ h9)) hown hK hg 21 (by decide) rfl rfl (by decide) rfl 24 (by decide) (hts (.fieldLink RX9 207 "JoinMapsModel" "at" "I") (List.mem_cons_of_mem _ (List.mem_append_left _ (List.mem_append_left _ (List.mem_of_getElem? (i := 4) rfl))))) rfl rfl dX9_readsTerm_295 ?_
        have hR88 := GS_R hg 21 24
        refine lv_iconst (v := iI 1) hx hb dX9_readsTerm_298 (by decide) ?_
        refine q_iadd hx hb dX9_readsTerm_299 ?_
        obtain ⟨hR89, h⟩ := h
        refine q_puti (ci := 9) (C := RX9) (T := TX9) (N := 27) hx hb hts (fun _ h9 => List.mem_cons_of_mem _ (List.mem_append_right _ h9)) tyX9 tyX9_ok nmX9 hown hK hg 21 (by decide) rfl rfl (by decide) rfl 24 (by decide) (hts (.fieldLink RX9 207 "JoinMapsModel" "at" "I") (List.mem_cons_of_mem _ (List.mem_append_left _ (List.mem_append_left _ (List.mem_of_getElem? (i := 4) rfl))))) rfl rfl (by decide +kernel) rfl hR89 dX9_readsTerm_300 (fun H locs hg => ?_)
        refine lv_iconst (v := iI 1) hx hb dX9_readsTerm_303 (by decide) ?_
        refine lv_istore_n (i := 2) (lv' := [(2, .int (iI (1))), (0, .ref (ea E 21)), (1, .int (iI (v1))), (3, .int (iI (v3)))]) hx hb dX9_readsTerm_304 rfl hl (by decide) rfl (fun ls hl => ?_)
        refine lv_goto (tgt := 310) hx hb dX9_readsTerm_305 (by decide) ?_
        refine lv_goto (tgt := 24) hx hb dX9_readsTerm_310 (by decide) ?_
        exact hK24 (v1) (1) (un (un (un s81 32 ((sn s77 21 15) : Int).toNat (r82)) 21 15 (((sn (un s81 32 ((sn s77 21 15) : Int).toNat (r82)) 21 15) + 1))) 21 24 (((sn (un (un s81 32 ((sn s77 21 15) : Int).toNat (r82)) 21 15 (((sn (un s81 32 ((sn s77 21 15) : Int).toNat (r82)) 21 15) + 1))) 21 24) + 1))) _ _ _ hg hm (lv_sub hl [1, 2, 0] rfl) h
  have J218 : ∀ (K24 : Int → Int → SS → Prop) (hK24 : ∀ (v1 : Int) (v2 : Int) (sL : SS) (H : Heap) (locs : List Loc) (ls : Array Slot), GS E sL s H locs → Mo (sz σ) σ sL → lv_has ls 4 [(0, .ref (ea E 21)), (1, .int (iI (v1))), (2, .int (iI (v2)))] → K24 v1 v2 sL → W p l e (headSpec wsX9_readsTerm ({ frames := 4, cells := 0, slots := 0, locals := 90 } : Room)).room s m (List.toArray [.ref (ea E 21)]) below meth c H locs 0 0 (MQ below (Qz E (sz σ) σ Q) (List.toArray [.ref (ea E 21)]) s 0 0 (Av E)) (F0 m 24 ls [])), ∀ (v1 : Int) (v2 : Int) (v3 : Int) (sL : SS) (H : Heap) (locs : List Loc) (ls : Array Slot), GS E sL s H locs → Mo (sz σ) σ sL → lv_has ls 4 [(0, .ref (ea E 21)), (1, .int (iI (v1))), (2, .int (iI (v2))), (3, .int (iI (v3)))] → wX9_readsTerm_L218  Q K24 v1 v2 v3 sL → W p l e (headSpec wsX9_readsTerm ({ frames := 4, cells := 0, slots := 0, locals := 90 } : Room)).room s m (List.toArray [.ref (ea E 21)]) below meth c H locs 0 0 (MQ below (Qz E (sz σ) σ Q) (List.toArray [.ref (ea E 21)]) s 0 0 (Av E)) (F0 m 218 ls []) := by
    intro K24 hK24 v1 v2 v3 sL H locs ls hg hm hl h
    rw [wX9_readsTerm_L218] at h
    refine lv_iload_n hx hb dX9_readsTerm_218 rfl (lv_at hl 2 rfl) ?_
    obtain ⟨hR56, h⟩ := h
    refine k_ne (tgt := 249) hx hb dX9_readsTerm_219 (by decide) hR56 (fun c57 => ?_) (fun c57 => ?_)
    · have h := h.1 c57
      exact J249 _ hK24 (v1) (v2) (v3) (sL) _ _ _ hg hm (lv_sub hl [0, 1, 2, 3] rfl) h
    · have h := h.2 c57
      refine lv_iload_n hx hb dX9_readsTerm_222 rfl (lv_at hl 3 rfl) ?_
      refine lv_bipush (v := iI 59) hx hb dX9_readsTerm_223 (by decide) ?_
      obtain ⟨hR58, h⟩ := h
      refine j_ne (tgt := 249) hx hb dX9_readsTerm_225 (by decide) hR58 (by decide) (fun c59 => ?_) (fun c59 => ?_)
      · have h := h.1 c59
        exact J249 _ hK24 (v1) (v2) (v3) (sL) _ _ _ hg hm (lv_sub hl [0, 1, 2, 3] rfl) h
      · have h := h.2 c59
        refine lv_iload_n hx hb dX9_readsTerm_228 rfl (lv_at hl 1 rfl) ?_
        obtain ⟨hR60, h⟩ := h
        refine k_ne (tgt := 249) hx hb dX9_readsTerm_229 (by decide) hR60 (fun c61 => ?_) (fun c61 => ?_)
        · have h := h.1 c61
          exact J249 _ hK24 (v1) (v2) (v3) (sL) _ _ _ hg hm (lv_sub hl [0, 1, 2, 3] rfl) h
        · have h := h.2 c61
          refine lv_aload_n hx hb dX9_readsTerm_232 rfl (lv_at hl 0 rfl) ?_
          refine lv_iconst (v := iI 0) hx hb dX9_readsTerm_233 (by decide) ?_
          refine call_v (run_V (a := ea E 21) (As := [.int (iI (0))]) (rest := []) ⟨hx, hb, hml, hown, hts⟩ (ctX9_does l E 0 sL _ (by decide) h) (cwV 1 hts gX9_readsTerm_X9_does rfl rfl rfl ⟨rfl, hdX9_does⟩ ⟨Nat.le_of_ble_eq_true rfl, Nat.le_of_ble_eq_true rfl⟩) hK hN hg (recv_x (ci := 9) (C := RX9) (T := TX9) (N := 27) hg hK (by decide) rfl (by decide) rfl) rfl hl.1 rfl (cat_sum _ (by simp)) dX9_readsTerm_234 ⟨Nat.le_refl 0, Nat.le_refl 0⟩) hg (fun s62 H locs hm2 h hg => ?_)
          have hm := hm.tn hm2
          refine lv_aload_n hx hb dX9_readsTerm_237 rfl (lv_at hl 0 rfl) ?_
          refine lv_dup hx hb dX9_readsTerm_238 rfl ?_
          refine q_geti (ci := 9) (C := RX9) (T := TX9) (N := 27) hx hb hts (fun _ h9 => List.mem_cons_of_mem _ (List.mem_append_right _ h9)) hown hK hg 21 (by decide) rfl rfl (by decide) rfl 24 (by decide) (hts (.fieldLink RX9 207 "JoinMapsModel" "at" "I") (List.mem_cons_of_mem _ (List.mem_append_left _ (List.mem_append_left _ (List.mem_of_getElem? (i := 4) rfl))))) rfl rfl dX9_readsTerm_239 ?_
          have hR65 := GS_R hg 21 24
          refine lv_iconst (v := iI 1) hx hb dX9_readsTerm_242 (by decide) ?_
          refine q_iadd hx hb dX9_readsTerm_243 ?_
          obtain ⟨hR66, h⟩ := h
          refine q_puti (ci := 9) (C := RX9) (T := TX9) (N := 27) hx hb hts (fun _ h9 => List.mem_cons_of_mem _ (List.mem_append_right _ h9)) tyX9 tyX9_ok nmX9 hown hK hg 21 (by decide) rfl rfl (by decide) rfl 24 (by decide) (hts (.fieldLink RX9 207 "JoinMapsModel" "at" "I") (List.mem_cons_of_mem _ (List.mem_append_left _ (List.mem_append_left _ (List.mem_of_getElem? (i := 4) rfl))))) rfl rfl (by decide +kernel) rfl hR66 dX9_readsTerm_244 (fun H locs hg => ?_)
          refine lv_iconst (v := iI 1) hx hb dX9_readsTerm_247 (by decide) ?_
          exact ret_z hx hb hr hlocks hg (by decide) hm h dX9_readsTerm_248
  have J173 : ∀ (K24 : Int → Int → SS → Prop) (hK24 : ∀ (v1 : Int) (v2 : Int) (sL : SS) (H : Heap) (locs : List Loc) (ls : Array Slot), GS E sL s H locs → Mo (sz σ) σ sL → lv_has ls 4 [(0, .ref (ea E 21)), (1, .int (iI (v1))), (2, .int (iI (v2)))] → K24 v1 v2 sL → W p l e (headSpec wsX9_readsTerm ({ frames := 4, cells := 0, slots := 0, locals := 90 } : Room)).room s m (List.toArray [.ref (ea E 21)]) below meth c H locs 0 0 (MQ below (Qz E (sz σ) σ Q) (List.toArray [.ref (ea E 21)]) s 0 0 (Av E)) (F0 m 24 ls [])), ∀ (v1 : Int) (v2 : Int) (v3 : Int) (sL : SS) (H : Heap) (locs : List Loc) (ls : Array Slot), GS E sL s H locs → Mo (sz σ) σ sL → lv_has ls 4 [(0, .ref (ea E 21)), (1, .int (iI (v1))), (2, .int (iI (v2))), (3, .int (iI (v3)))] → wX9_readsTerm_L173  Q K24 v1 v2 v3 sL → W p l e (headSpec wsX9_readsTerm ({ frames := 4, cells := 0, slots := 0, locals := 90 } : Room)).room s m (List.toArray [.ref (ea E 21)]) below meth c H locs 0 0 (MQ below (Qz E (sz σ) σ Q) (List.toArray [.ref (ea E 21)]) s 0 0 (Av E)) (F0 m 173 ls []) := by
    intro K24 hK24 v1 v2 v3 sL H locs ls hg hm hl h
    rw [wX9_readsTerm_L173] at h
    refine lv_iload_n hx hb dX9_readsTerm_173 rfl (lv_at hl 2 rfl) ?_
    obtain ⟨hR43, h⟩ := h
    refine k_ne (tgt := 218) hx hb dX9_readsTerm_174 (by decide) hR43 (fun c44 => ?_) (fun c44 => ?_)
    · have h := h.1 c44
      exact J218 _ hK24 (v1) (v2) (v3) (sL) _ _ _ hg hm (lv_sub hl [0, 1, 2, 3] rfl) h
    · have h := h.2 c44
      refine lv_iload_n hx hb dX9_readsTerm_177 rfl (lv_at hl 3 rfl) ?_
      refine lv_bipush (v := iI 41) hx hb dX9_readsTerm_178 (by decide) ?_
      obtain ⟨hR45, h⟩ := h
      refine j_ne (tgt := 218) hx hb dX9_readsTerm_180 (by decide) hR45 (by decide) (fun c46 => ?_) (fun c46 => ?_)
      · have h := h.1 c46
        exact J218 _ hK24 (v1) (v2) (v3) (sL) _ _ _ hg hm (lv_sub hl [0, 1, 2, 3] rfl) h
      · have h := h.2 c46
        refine lv_iload_n hx hb dX9_readsTerm_183 rfl (lv_at hl 1 rfl) ?_
        obtain ⟨hR47, h⟩ := h
        refine k_le (tgt := 218) hx hb dX9_readsTerm_184 (by decide) hR47 (fun c48 => ?_) (fun c48 => ?_)
        · have h := h.1 c48
          exact J218 _ hK24 (v1) (v2) (v3) (sL) _ _ _ hg hm (lv_sub hl [0, 1, 2, 3] rfl) h
        · have h := h.2 c48
          refine lv_aload_n hx hb dX9_readsTerm_187 rfl (lv_at hl 0 rfl) ?_
          refine lv_iconst (v := iI 0) hx hb dX9_readsTerm_188 (by decide) ?_
          refine call_v (run_V (a := ea E 21) (As := [.int (iI (0))]) (rest := []) ⟨hx, hb, hml, hown, hts⟩ (ctX9_does l E 0 sL _ (by decide) h) (cwV 1 hts gX9_readsTerm_X9_does rfl rfl rfl ⟨rfl, hdX9_does⟩ ⟨Nat.le_of_ble_eq_true rfl, Nat.le_of_ble_eq_true rfl⟩) hK hN hg (recv_x (ci := 9) (C := RX9) (T := TX9) (N := 27) hg hK (by decide) rfl (by decide) rfl) rfl hl.1 rfl (cat_sum _ (by simp)) dX9_readsTerm_189 ⟨Nat.le_refl 0, Nat.le_refl 0⟩) hg (fun s49 H locs hm2 h hg => ?_)
          have hm := hm.tn hm2
          refine lv_aload_n hx hb dX9_readsTerm_192 rfl (lv_at hl 0 rfl) ?_
          refine lv_dup hx hb dX9_readsTerm_193 rfl ?_
          refine q_geti (ci := 9) (C := RX9) (T := TX9) (N := 27) hx hb hts (fun _ h9 => List.mem_cons_of_mem _ (List.mem_append_right _ h9)) hown hK hg 21 (by decide) rfl rfl (by decide) rfl 15 (by decide) (hts (.fieldLink RX9 239 "JoinMapsModel" "opened" "I") (List.mem_cons_of_mem _ (List.mem_append_left _ (List.mem_append_left _ (List.mem_of_getElem? (i := 1) rfl))))) rfl rfl dX9_readsTerm_194 ?_
          have hR52 := GS_R hg 21 15
          refine lv_iconst (v := iI 1) hx hb dX9_readsTerm_197 (by decide) ?_
          refine q_isub hx hb dX9_readsTerm_198 ?_
          obtain ⟨hR53, h⟩ := h
          refine q_puti (ci := 9) (C := RX9) (T := TX9) (N := 27) hx hb hts (fun _ h9 => List.mem_cons_of_mem _ (List.mem_append_right _ h9)) tyX9 tyX9_ok nmX9 hown hK hg 21 (by decide) rfl rfl (by decide) rfl 15 (by decide) (hts (.fieldLink RX9 239 "JoinMapsModel" "opened" "I") (List.mem_cons_of_mem _ (List.mem_append_left _ (List.mem_append_left _ (List.mem_of_getElem? (i := 1) rfl))))) rfl rfl (by decide +kernel) rfl hR53 dX9_readsTerm_199 (fun H locs hg => ?_)
          refine lv_iinc (v := iI (v1 + (-1))) (lv' := [(1, .int (iI (v1 + (-1)))), (0, .ref (ea E 21)), (2, .int (iI (v2))), (3, .int (iI (v3)))]) hx hb dX9_readsTerm_202 hl (k := 1) rfl (iI_add _ _) (by decide) rfl (fun ls hl => ?_)
          refine lv_aload_n hx hb dX9_readsTerm_205 rfl (lv_at hl 1 rfl) ?_
          refine lv_dup hx hb dX9_readsTerm_206 rfl ?_
          refine q_geti (ci := 9) (C := RX9) (T := TX9) (N := 27) hx hb hts (fun _ h9 => List.mem_cons_of_mem _ (List.mem_append_right _ h9)) hown hK hg 21 (by decide) rfl rfl (by decide) rfl 24 (by decide) (hts (.fieldLink RX9 207 "JoinMapsModel" "at" "I") (List.mem_cons_of_mem _ (List.mem_append_left _ (List.mem_append_left _ (List.mem_of_getElem? (i := 4) rfl))))) rfl rfl dX9_readsTerm_207 ?_
          have hR54 := GS_R hg 21 24
          refine lv_iconst (v := iI 1) hx hb dX9_readsTerm_210 (by decide) ?_
          refine q_iadd hx hb dX9_readsTerm_211 ?_
          obtain ⟨hR55, h⟩ := h
          refine q_puti (ci := 9) (C := RX9) (T := TX9) (N := 27) hx hb hts (fun _ h9 => List.mem_cons_of_mem _ (List.mem_append_right _ h9)) tyX9 tyX9_ok nmX9 hown hK hg 21 (by decide) rfl rfl (by decide) rfl 24 (by decide) (hts (.fieldLink RX9 207 "JoinMapsModel" "at" "I") (List.mem_cons_of_mem _ (List.mem_append_left _ (List.mem_append_left _ (List.mem_of_getElem? (i := 4) rfl))))) rfl rfl (by decide +kernel) rfl hR55 dX9_readsTerm_212 (fun H locs hg => ?_)
          refine lv_goto (tgt := 310) hx hb dX9_readsTerm_215 (by decide) ?_
          refine lv_goto (tgt := 24) hx hb dX9_readsTerm_310 (by decide) ?_
          exact hK24 (v1 + (-1)) (v2) (un (un s49 21 15 (((sn s49 21 15) - 1))) 21 24 (((sn (un s49 21 15 (((sn s49 21 15) - 1))) 21 24) + 1))) _ _ _ hg hm (lv_sub hl [1, 0, 2] rfl) h
  have J117 : ∀ (K24 : Int → Int → SS → Prop) (hK24 : ∀ (v1 : Int) (v2 : Int) (sL : SS) (H : Heap) (locs : List Loc) (ls : Array Slot), GS E sL s H locs → Mo (sz σ) σ sL → lv_has ls 4 [(0, .ref (ea E 21)), (1, .int (iI (v1))), (2, .int (iI (v2)))] → K24 v1 v2 sL → W p l e (headSpec wsX9_readsTerm ({ frames := 4, cells := 0, slots := 0, locals := 90 } : Room)).room s m (List.toArray [.ref (ea E 21)]) below meth c H locs 0 0 (MQ below (Qz E (sz σ) σ Q) (List.toArray [.ref (ea E 21)]) s 0 0 (Av E)) (F0 m 24 ls [])), ∀ (v1 : Int) (v2 : Int) (v3 : Int) (sL : SS) (H : Heap) (locs : List Loc) (ls : Array Slot), GS E sL s H locs → Mo (sz σ) σ sL → lv_has ls 4 [(0, .ref (ea E 21)), (1, .int (iI (v1))), (2, .int (iI (v2))), (3, .int (iI (v3)))] → wX9_readsTerm_L117  Q K24 v1 v2 v3 sL → W p l e (headSpec wsX9_readsTerm ({ frames := 4, cells := 0, slots := 0, locals := 90 } : Room)).room s m (List.toArray [.ref (ea E 21)]) below meth c H locs 0 0 (MQ below (Qz E (sz σ) σ Q) (List.toArray [.ref (ea E 21)]) s 0 0 (Av E)) (F0 m 117 ls []) := by
    intro K24 hK24 v1 v2 v3 sL H locs ls hg hm hl h
    rw [wX9_readsTerm_L117] at h
    refine lv_iload_n hx hb dX9_readsTerm_117 rfl (lv_at hl 2 rfl) ?_
    obtain ⟨hR28, h⟩ := h
    refine k_eq (tgt := 173) hx hb dX9_readsTerm_118 (by decide) hR28 (fun c29 => ?_) (fun c29 => ?_)
    · have h := h.1 c29
      exact J173 _ hK24 (v1) (v2) (v3) (sL) _ _ _ hg hm (lv_sub hl [0, 1, 2, 3] rfl) h
    · have h := h.2 c29
      refine lv_iload_n hx hb dX9_readsTerm_121 rfl (lv_at hl 3 rfl) ?_
      obtain ⟨hR30, h⟩ := h
      refine q_i2l hx hb hR30 dX9_readsTerm_122 ?_
      refine q_ldc2 (z := 97) hx hb hown (hts (.constantLong RX9 245 (97)) (List.mem_cons_of_mem _ (List.mem_append_left _ (List.mem_append_left _ (List.mem_of_getElem? (i := 6) rfl))))) (by decide) dX9_readsTerm_123 ?_
      refine q_ldc2 (z := 102) hx hb hown (hts (.constantLong RX9 247 (102)) (List.mem_cons_of_mem _ (List.mem_append_left _ (List.mem_append_left _ (List.mem_of_getElem? (i := 7) rfl))))) (by decide) dX9_readsTerm_126 ?_
      refine call_z (run_S (As := [.long (lI (v3)), .long (lI (97)), .long (lI (102))]) (rest := []) ⟨hx, hb, hml, hown, hts⟩ (ctX9_in l E v3 97 102 sL _ (R64_of hR30) (by decide) (by decide) h) (va_cwS 3 hts gX9_readsTerm_X9_in rfl rfl rfl hdX9_in ⟨Nat.le_of_ble_eq_true rfl, Nat.le_of_ble_eq_true rfl⟩) hK hN hg rfl hl.1 rfl (cat_sum _ (by simp)) dX9_readsTerm_129 ⟨Nat.le_refl 0, Nat.le_refl 0⟩) hg (fun r32 s31 H locs hz33 hm2 h hg => ?_)
      have hm := hm.tn hm2
      refine k_eq (tgt := 173) hx hb dX9_readsTerm_132 (by decide) (z_R hz33) (fun c34 => ?_) (fun c34 => ?_)
      · have h := h.1 c34
        exact J173 _ hK24 (v1) (v2) (v3) (s31) _ _ _ hg hm (lv_sub hl [0, 1, 2, 3] rfl) h
      · have h := h.2 c34
        refine lv_aload_n hx hb dX9_readsTerm_135 rfl (lv_at hl 0 rfl) ?_
        refine q_getx (ci := 9) (C := RX9) (T := TX9) (N := 27) (j := 31) hx hb hts (fun _ h9 => List.mem_cons_of_mem _ (List.mem_append_right _ h9)) hown hK hg 21 (by decide) rfl rfl (by decide) rfl 12 (by decide) (hts (.fieldLink RX9 37 "JoinMapsModel" "marks" "[I") (List.mem_cons_of_mem _ (List.mem_append_left _ (List.mem_append_left _ (List.mem_of_getElem? (i := 8) rfl))))) rfl rfl rfl dX9_readsTerm_136 ?_
        refine lv_aload_n hx hb dX9_readsTerm_139 rfl (lv_at hl 0 rfl) ?_
        refine q_geti (ci := 9) (C := RX9) (T := TX9) (N := 27) hx hb hts (fun _ h9 => List.mem_cons_of_mem _ (List.mem_append_right _ h9)) hown hK hg 21 (by decide) rfl rfl (by decide) rfl 13 (by decide) (hts (.fieldLink RX9 236 "JoinMapsModel" "many" "I") (List.mem_cons_of_mem _ (List.mem_append_left _ (List.mem_append_left _ (List.mem_of_getElem? (i := 0) rfl))))) rfl rfl dX9_readsTerm_140 ?_
        have hR35 := GS_R hg 21 13
        refine lv_iload_n hx hb dX9_readsTerm_143 rfl (lv_at hl 3 rfl) ?_
        refine lv_bipush (v := iI 97) hx hb dX9_readsTerm_144 (by decide) ?_
        refine q_isub hx hb dX9_readsTerm_146 ?_
        obtain ⟨hP36, hP37, hR38, h⟩ := h
        refine q_iast (N := 130) hx hb hK hg 31 (by decide) rfl rfl hP36 hP37 (by decide) hR38 dX9_readsTerm_147 (fun H locs hg => ?_)
        refine lv_aload_n hx hb dX9_readsTerm_148 rfl (lv_at hl 0 rfl) ?_
        refine lv_dup hx hb dX9_readsTerm_149 rfl ?_
        refine q_geti (ci := 9) (C := RX9) (T := TX9) (N := 27) hx hb hts (fun _ h9 => List.mem_cons_of_mem _ (List.mem_append_right _ h9)) hown hK hg 21 (by decide) rfl rfl (by decide) rfl 13 (by decide) (hts (.fieldLink RX9 236 "JoinMapsModel" "many" "I") (List.mem_cons_of_mem _ (List.mem_append_left _ (List.mem_append_left _ (List.mem_of_getElem? (i := 0) rfl))))) rfl rfl dX9_readsTerm_150 ?_
        have hR39 := GS_R hg 21 13
        refine lv_iconst (v := iI 1) hx hb dX9_readsTerm_153 (by decide) ?_
        refine q_iadd hx hb dX9_readsTerm_154 ?_
        obtain ⟨hR40, h⟩ := h
        refine q_puti (ci := 9) (C := RX9) (T := TX9) (N := 27) hx hb hts (fun _ h9 => List.mem_cons_of_mem _ (List.mem_append_right _ h9)) tyX9 tyX9_ok nmX9 hown hK hg 21 (by decide) rfl rfl (by decide) rfl 13 (by decide) (hts (.fieldLink RX9 236 "JoinMapsModel" "many" "I") (List.mem_cons_of_mem _ (List.mem_append_left _ (List.mem_append_left _ (List.mem_of_getElem? (i := 0) rfl))))) rfl rfl (by decide +kernel) rfl hR40 dX9_readsTerm_155 (fun H locs hg => ?_)
        refine lv_aload_n hx hb dX9_readsTerm_158 rfl (lv_at hl 0 rfl) ?_
        refine lv_dup hx hb dX9_readsTerm_159 rfl ?_
        refine q_geti (ci := 9) (C := RX9) (T := TX9) (N := 27) hx hb hts (fun _ h9 => List.mem_cons_of_mem _ (List.mem_append_right _ h9)) hown hK hg 21 (by decide) rfl rfl (by decide) rfl 24 (by decide) (hts (.fieldLink RX9 207 "JoinMapsModel" "at" "I") (List.mem_cons_of_mem _ (List.mem_append_left _ (List.mem_append_left _ (List.mem_of_getElem? (i := 4) rfl))))) rfl rfl dX9_readsTerm_160 ?_
        have hR41 := GS_R hg 21 24
        refine lv_iconst (v := iI 1) hx hb dX9_readsTerm_163 (by decide) ?_
        refine q_iadd hx hb dX9_readsTerm_164 ?_
        obtain ⟨hR42, h⟩ := h
        refine q_puti (ci := 9) (C := RX9) (T := TX9) (N := 27) hx hb hts (fun _ h9 => List.mem_cons_of_mem _ (List.mem_append_right _ h9)) tyX9 tyX9_ok nmX9 hown hK hg 21 (by decide) rfl rfl (by decide) rfl 24 (by decide) (hts (.fieldLink RX9 207 "JoinMapsModel" "at" "I") (List.mem_cons_of_mem _ (List.mem_append_left _ (List.mem_append_left _ (List.mem_of_getElem? (i := 4) rfl))))) rfl rfl (by decide +kernel) rfl hR42 dX9_readsTerm_165 (fun H locs hg => ?_)
        refine lv_iconst (v := iI 0) hx hb dX9_readsTerm_168 (by decide) ?_
        refine lv_istore_n (i := 2) (lv' := [(2, .int (iI (0))), (0, .ref (ea E 21)), (1, .int (iI (v1))), (3, .int (iI (v3)))]) hx hb dX9_readsTerm_169 rfl hl (by decide) rfl (fun ls hl => ?_)
        refine lv_goto (tgt := 310) hx hb dX9_readsTerm_170 (by decide) ?_
        refine lv_goto (tgt := 24) hx hb dX9_readsTerm_310 (by decide) ?_
        exact hK24 (v1) (0) (un (un (un s31 31 ((sn s31 21 13) : Int).toNat ((v3 - 97))) 21 13 (((sn (un s31 31 ((sn s31 21 13) : Int).toNat ((v3 - 97))) 21 13) + 1))) 21 24 (((sn (un (un s31 31 ((sn s31 21 13) : Int).toNat ((v3 - 97))) 21 13 (((sn (un s31 31 ((sn s31 21 13) : Int).toNat ((v3 - 97))) 21 13) + 1))) 21 24) + 1))) _ _ _ hg hm (lv_sub hl [1, 2, 0] rfl) h
  have J83 : ∀ (K24 : Int → Int → SS → Prop) (hK24 : ∀ (v1 : Int) (v2 : Int) (sL : SS) (H : Heap) (locs : List Loc) (ls : Array Slot), GS E sL s H locs → Mo (sz σ) σ sL → lv_has ls 4 [(0, .ref (ea E 21)), (1, .int (iI (v1))), (2, .int (iI (v2)))] → K24 v1 v2 sL → W p l e (headSpec wsX9_readsTerm ({ frames := 4, cells := 0, slots := 0, locals := 90 } : Room)).room s m (List.toArray [.ref (ea E 21)]) below meth c H locs 0 0 (MQ below (Qz E (sz σ) σ Q) (List.toArray [.ref (ea E 21)]) s 0 0 (Av E)) (F0 m 24 ls [])), ∀ (v1 : Int) (v2 : Int) (v3 : Int) (sL : SS) (H : Heap) (locs : List Loc) (ls : Array Slot), GS E sL s H locs → Mo (sz σ) σ sL → lv_has ls 4 [(0, .ref (ea E 21)), (1, .int (iI (v1))), (2, .int (iI (v2))), (3, .int (iI (v3)))] → wX9_readsTerm_L83  Q K24 v1 v2 v3 sL → W p l e (headSpec wsX9_readsTerm ({ frames := 4, cells := 0, slots := 0, locals := 90 } : Room)).room s m (List.toArray [.ref (ea E 21)]) below meth c H locs 0 0 (MQ below (Qz E (sz σ) σ Q) (List.toArray [.ref (ea E 21)]) s 0 0 (Av E)) (F0 m 83 ls []) := by
    intro K24 hK24 v1 v2 v3 sL H locs ls hg hm hl h
    rw [wX9_readsTerm_L83] at h
    refine lv_iload_n hx hb dX9_readsTerm_83 rfl (lv_at hl 2 rfl) ?_
    obtain ⟨hR18, h⟩ := h
    refine k_eq (tgt := 117) hx hb dX9_readsTerm_84 (by decide) hR18 (fun c19 => ?_) (fun c19 => ?_)
    · have h := h.1 c19
      exact J117 _ hK24 (v1) (v2) (v3) (sL) _ _ _ hg hm (lv_sub hl [0, 1, 2, 3] rfl) h
    · have h := h.2 c19
      refine lv_iload_n hx hb dX9_readsTerm_87 rfl (lv_at hl 3 rfl) ?_
      refine lv_bipush (v := iI 123) hx hb dX9_readsTerm_88 (by decide) ?_
      obtain ⟨hR20, h⟩ := h
      refine j_ne (tgt := 117) hx hb dX9_readsTerm_90 (by decide) hR20 (by decide) (fun c21 => ?_) (fun c21 => ?_)
      · have h := h.1 c21
        exact J117 _ hK24 (v1) (v2) (v3) (sL) _ _ _ hg hm (lv_sub hl [0, 1, 2, 3] rfl) h
      · have h := h.2 c21
        refine lv_aload_n hx hb dX9_readsTerm_93 rfl (lv_at hl 0 rfl) ?_
        refine lv_dup hx hb dX9_readsTerm_94 rfl ?_
        refine q_geti (ci := 9) (C := RX9) (T := TX9) (N := 27) hx hb hts (fun _ h9 => List.mem_cons_of_mem _ (List.mem_append_right _ h9)) hown hK hg 21 (by decide) rfl rfl (by decide) rfl 24 (by decide) (hts (.fieldLink RX9 207 "JoinMapsModel" "at" "I") (List.mem_cons_of_mem _ (List.mem_append_left _ (List.mem_append_left _ (List.mem_of_getElem? (i := 4) rfl))))) rfl rfl dX9_readsTerm_95 ?_
        have hR22 := GS_R hg 21 24
        refine lv_iconst (v := iI 1) hx hb dX9_readsTerm_98 (by decide) ?_
        refine q_iadd hx hb dX9_readsTerm_99 ?_
        obtain ⟨hR23, h⟩ := h
        refine q_puti (ci := 9) (C := RX9) (T := TX9) (N := 27) hx hb hts (fun _ h9 => List.mem_cons_of_mem _ (List.mem_append_right _ h9)) tyX9 tyX9_ok nmX9 hown hK hg 21 (by decide) rfl rfl (by decide) rfl 24 (by decide) (hts (.fieldLink RX9 207 "JoinMapsModel" "at" "I") (List.mem_cons_of_mem _ (List.mem_append_left _ (List.mem_append_left _ (List.mem_of_getElem? (i := 4) rfl))))) rfl rfl (by decide +kernel) rfl hR23 dX9_readsTerm_100 (fun H locs hg => ?_)
        refine lv_aload_n hx hb dX9_readsTerm_103 rfl (lv_at hl 0 rfl) ?_
        refine call_z (run_V (a := ea E 21) (As := []) (rest := []) ⟨hx, hb, hml, hown, hts⟩ (ctX9_readsSet l E  (un sL 21 24 (((sn sL 21 24) + 1))) _  h) (cwV 0 hts gX9_readsTerm_X9_readsSet rfl rfl rfl ⟨rfl, hdX9_readsSet⟩ ⟨Nat.le_of_ble_eq_true rfl, Nat.le_of_ble_eq_true rfl⟩) hK hN hg (recv_x (ci := 9) (C := RX9) (T := TX9) (N := 27) hg hK (by decide) rfl (by decide) rfl) rfl hl.1 rfl (cat_sum _ (by simp)) dX9_readsTerm_104 ⟨Nat.le_refl 0, Nat.le_refl 0⟩) hg (fun r25 s24 H locs hz26 hm2 h hg => ?_)
        have hm := hm.tn hm2
        refine k_ne (tgt := 112) hx hb dX9_readsTerm_107 (by decide) (z_R hz26) (fun c27 => ?_) (fun c27 => ?_)
        · have h := h.1 c27
          refine lv_iconst (v := iI 0) hx hb dX9_readsTerm_112 (by decide) ?_
          refine lv_istore_n (i := 2) (lv' := [(2, .int (iI (0))), (0, .ref (ea E 21)), (1, .int (iI (v1))), (3, .int (iI (v3)))]) hx hb dX9_readsTerm_113 rfl hl (by decide) rfl (fun ls hl => ?_)
          refine lv_goto (tgt := 310) hx hb dX9_readsTerm_114 (by decide) ?_
          refine lv_goto (tgt := 24) hx hb dX9_readsTerm_310 (by decide) ?_
          exact hK24 (v1) (0) (s24) _ _ _ hg hm (lv_sub hl [1, 2, 0] rfl) h
        · have h := h.2 c27
          refine lv_iconst (v := iI 0) hx hb dX9_readsTerm_110 (by decide) ?_
          exact ret_z hx hb hr hlocks hg (by decide) hm h dX9_readsTerm_111
  have J24 : ∀ (k : Nat), ∀ (v1 : Int) (v2 : Int) (sL : SS) (H : Heap) (locs : List Loc) (ls : Array Slot), GS E sL s H locs → Mo (sz σ) σ sL → lv_has ls 4 [(0, .ref (ea E 21)), (1, .int (iI (v1))), (2, .int (iI (v2)))] → wX9_readsTerm_L24  Q  k v1 v2 sL → W p l e (headSpec wsX9_readsTerm ({ frames := 4, cells := 0, slots := 0, locals := 90 } : Room)).room s m (List.toArray [.ref (ea E 21)]) below meth c H locs 0 0 (MQ below (Qz E (sz σ) σ Q) (List.toArray [.ref (ea E 21)]) s 0 0 (Av E)) (F0 m 24 ls []) := by
    intro k
    induction k with
    | zero => intro v1 v2 sL H locs ls hg hm hl h; exact False.elim h
    | succ k ih =>
      intro v1 v2 sL H locs ls hg hm hl h
      rw [wX9_readsTerm_L24] at h
      refine lv_aload_n hx hb dX9_readsTerm_24 rfl (lv_at hl 0 rfl) ?_
      refine call_v (run_V (a := ea E 21) (As := []) (rest := []) ⟨hx, hb, hml, hown, hts⟩ (ctX9_skips l E  sL _  h) (cwV 0 hts gX9_readsTerm_X9_skips rfl rfl rfl ⟨rfl, hdX9_skips⟩ ⟨Nat.le_of_ble_eq_true rfl, Nat.le_of_ble_eq_true rfl⟩) hK hN hg (recv_x (ci := 9) (C := RX9) (T := TX9) (N := 27) hg hK (by decide) rfl (by decide) rfl) rfl hl.1 rfl (cat_sum _ (by simp)) dX9_readsTerm_25 ⟨Nat.le_refl 0, Nat.le_refl 0⟩) hg (fun s1 H locs hm2 h hg => ?_)
      have hm := hm.tn hm2
      refine lv_aload_n hx hb dX9_readsTerm_28 rfl (lv_at hl 0 rfl) ?_
      refine lv_aload_n hx hb dX9_readsTerm_29 rfl (lv_at hl 0 rfl) ?_
      refine q_geti (ci := 9) (C := RX9) (T := TX9) (N := 27) hx hb hts (fun _ h9 => List.mem_cons_of_mem _ (List.mem_append_right _ h9)) hown hK hg 21 (by decide) rfl rfl (by decide) rfl 24 (by decide) (hts (.fieldLink RX9 207 "JoinMapsModel" "at" "I") (List.mem_cons_of_mem _ (List.mem_append_left _ (List.mem_append_left _ (List.mem_of_getElem? (i := 4) rfl))))) rfl rfl dX9_readsTerm_30 ?_
      have hR4 := GS_R hg 21 24
      refine call_i (run_V (a := ea E 21) (As := [.int (iI ((sn s1 21 24)))]) (rest := []) ⟨hx, hb, hml, hown, hts⟩ (ctX9_byteAt l E (sn s1 21 24) s1 _ hR4 h) (cwV 1 hts gX9_readsTerm_X9_byteAt rfl rfl rfl ⟨rfl, hdX9_byteAt⟩ ⟨Nat.le_of_ble_eq_true rfl, Nat.le_of_ble_eq_true rfl⟩) hK hN hg (recv_x (ci := 9) (C := RX9) (T := TX9) (N := 27) hg hK (by decide) rfl (by decide) rfl) rfl hl.1 rfl (cat_sum _ (by simp)) dX9_readsTerm_33 ⟨Nat.le_refl 0, Nat.le_refl 0⟩) hg (fun r6 s5 H locs hz7 hm2 h hg => ?_)
      have hm := hm.tn hm2
      refine lv_istore_n (i := 3) (lv' := [(3, .int (iI (r6))), (0, .ref (ea E 21)), (1, .int (iI (v1))), (2, .int (iI (v2)))]) hx hb dX9_readsTerm_36 rfl hl (by decide) rfl (fun ls hl => ?_)
      refine lv_iload_n hx hb dX9_readsTerm_37 rfl (lv_at hl 3 rfl) ?_
      obtain ⟨hR8, h⟩ := h
      refine k_eq (tgt := 83) hx hb dX9_readsTerm_38 (by decide) hR8 (fun c9 => ?_) (fun c9 => ?_)
      · have h := h.1 c9
        exact J83 _ ih (v1) (v2) (r6) (s5) _ _ _ hg hm (lv_sub hl [1, 2, 3, 0] rfl) h
      · have h := h.2 c9
        refine lv_iload_n hx hb dX9_readsTerm_41 rfl (lv_at hl 0 rfl) ?_
        refine lv_bipush (v := iI 40) hx hb dX9_readsTerm_42 (by decide) ?_
        refine j_ne (tgt := 83) hx hb dX9_readsTerm_44 (by decide) hz7 (by decide) (fun c10 => ?_) (fun c10 => ?_)
        · have h := h.1 c10
          exact J83 _ ih (v1) (v2) (r6) (s5) _ _ _ hg hm (lv_sub hl [1, 2, 3, 0] rfl) h
        · have h := h.2 c10
          refine lv_aload_n hx hb dX9_readsTerm_47 rfl (lv_at hl 1 rfl) ?_
          refine q_getx (ci := 9) (C := RX9) (T := TX9) (N := 27) (j := 32) hx hb hts (fun _ h9 => List.mem_cons_of_mem _ (List.mem_append_right _ h9)) hown hK hg 21 (by decide) rfl rfl (by decide) rfl 14 (by decide) (hts (.fieldLink RX9 40 "JoinMapsModel" "open" "[I") (List.mem_cons_of_mem _ (List.mem_append_left _ (List.mem_append_left _ (List.mem_of_getElem? (i := 5) rfl))))) rfl rfl rfl dX9_readsTerm_48 ?_
          refine lv_aload_n hx hb dX9_readsTerm_51 rfl (lv_at hl 1 rfl) ?_
          refine q_geti (ci := 9) (C := RX9) (T := TX9) (N := 27) hx hb hts (fun _ h9 => List.mem_cons_of_mem _ (List.mem_append_right _ h9)) hown hK hg 21 (by decide) rfl rfl (by decide) rfl 15 (by decide) (hts (.fieldLink RX9 239 "JoinMapsModel" "opened" "I") (List.mem_cons_of_mem _ (List.mem_append_left _ (List.mem_append_left _ (List.mem_of_getElem? (i := 1) rfl))))) rfl rfl dX9_readsTerm_52 ?_
          have hR11 := GS_R hg 21 15
          refine lv_iload_n hx hb dX9_readsTerm_55 rfl (lv_at hl 0 rfl) ?_
          obtain ⟨hP12, hP13, h⟩ := h
          refine q_iast (N := 130) hx hb hK hg 32 (by decide) rfl rfl hP12 hP13 (by decide) hz7 dX9_readsTerm_56 (fun H locs hg => ?_)
          refine lv_aload_n hx hb dX9_readsTerm_57 rfl (lv_at hl 1 rfl) ?_
          refine lv_dup hx hb dX9_readsTerm_58 rfl ?_
          refine q_geti (ci := 9) (C := RX9) (T := TX9) (N := 27) hx hb hts (fun _ h9 => List.mem_cons_of_mem _ (List.mem_append_right _ h9)) hown hK hg 21 (by decide) rfl rfl (by decide) rfl 15 (by decide) (hts (.fieldLink RX9 239 "JoinMapsModel" "opened" "I") (List.mem_cons_of_mem _ (List.mem_append_left _ (List.mem_append_left _ (List.mem_of_getElem? (i := 1) rfl))))) rfl rfl dX9_readsTerm_59 ?_
          have hR14 := GS_R hg 21 15
          refine lv_iconst (v := iI 1) hx hb dX9_readsTerm_62 (by decide) ?_
          refine q_iadd hx hb dX9_readsTerm_63 ?_
          obtain ⟨hR15, h⟩ := h
          refine q_puti (ci := 9) (C := RX9) (T := TX9) (N := 27) hx hb hts (fun _ h9 => List.mem_cons_of_mem _ (List.mem_append_right _ h9)) tyX9 tyX9_ok nmX9 hown hK hg 21 (by decide) rfl rfl (by decide) rfl 15 (by decide) (hts (.fieldLink RX9 239 "JoinMapsModel" "opened" "I") (List.mem_cons_of_mem _ (List.mem_append_left _ (List.mem_append_left _ (List.mem_of_getElem? (i := 1) rfl))))) rfl rfl (by decide +kernel) rfl hR15 dX9_readsTerm_64 (fun H locs hg => ?_)
          refine lv_iinc (v := iI (v1 + 1)) (lv' := [(1, .int (iI (v1 + 1))), (3, .int (iI (r6))), (0, .ref (ea E 21)), (2, .int (iI (v2)))]) hx hb dX9_readsTerm_67 hl (k := 2) rfl (iI_add _ _) (by decide) rfl (fun ls hl => ?_)
          refine lv_aload_n hx hb dX9_readsTerm_70 rfl (lv_at hl 2 rfl) ?_
          refine lv_dup hx hb dX9_readsTerm_71 rfl ?_
          refine q_geti (ci := 9) (C := RX9) (T := TX9) (N := 27) hx hb hts (fun _ h9 => List.mem_cons_of_mem _ (List.mem_append_right _ h9)) hown hK hg 21 (by decide) rfl rfl (by decide) rfl 24 (by decide) (hts (.fieldLink RX9 207 "JoinMapsModel" "at" "I") (List.mem_cons_of_mem _ (List.mem_append_left _ (List.mem_append_left _ (List.mem_of_getElem? (i := 4) rfl))))) rfl rfl dX9_readsTerm_72 ?_
          have hR16 := GS_R hg 21 24
          refine lv_iconst (v := iI 1) hx hb dX9_readsTerm_75 (by decide) ?_
          refine q_iadd hx hb dX9_readsTerm_76 ?_
          obtain ⟨hR17, h⟩ := h
          refine q_puti (ci := 9) (C := RX9) (T := TX9) (N := 27) hx hb hts (fun _ h9 => List.mem_cons_of_mem _ (List.mem_append_right _ h9)) tyX9 tyX9_ok nmX9 hown hK hg 21 (by decide) rfl rfl (by decide) rfl 24 (by decide) (hts (.fieldLink RX9 207 "JoinMapsModel" "at" "I") (List.mem_cons_of_mem _ (List.mem_append_left _ (List.mem_append_left _ (List.mem_of_getElem? (i := 4) rfl))))) rfl rfl (by decide +kernel) rfl hR17 dX9_readsTerm_77 (fun H locs hg => ?_)
          refine lv_goto (tgt := 310) hx hb dX9_readsTerm_80 (by decide) ?_
          refine lv_goto (tgt := 24) hx hb dX9_readsTerm_310 (by decide) ?_
          exact ih (v1 + 1) (v2) (un (un (un s5 32 ((sn s5 21 15) : Int).toNat (r6)) 21 15 (((sn (un s5 32 ((sn s5 21 15) : Int).toNat (r6)) 21 15) + 1))) 21 24 (((sn (un (un s5 32 ((sn s5 21 15) : Int).toNat (r6)) 21 15 (((sn (un s5 32 ((sn s5 21 15) : Int).toNat (r6)) 21 15) + 1))) 21 24) + 1))) _ _ _ hg hm (lv_sub hl [2, 0, 3] rfl) h
  refine lv_aload_n hx hb dX9_readsTerm_0 rfl (lv_at hl 0 rfl) ?_
  refine lv_iconst (v := iI 0) hx hb dX9_readsTerm_1 (by decide) ?_
  refine q_puti (ci := 9) (C := RX9) (T := TX9) (N := 27) hx hb hts (fun _ h9 => List.mem_cons_of_mem _ (List.mem_append_right _ h9)) tyX9 tyX9_ok nmX9 hown hK hg 21 (by decide) rfl rfl (by decide) rfl 13 (by decide) (hts (.fieldLink RX9 236 "JoinMapsModel" "many" "I") (List.mem_cons_of_mem _ (List.mem_append_left _ (List.mem_append_left _ (List.mem_of_getElem? (i := 0) rfl))))) rfl rfl (by decide +kernel) rfl (by decide) dX9_readsTerm_2 (fun H locs hg => ?_)
  refine lv_aload_n hx hb dX9_readsTerm_5 rfl (lv_at hl 0 rfl) ?_
  refine lv_iconst (v := iI 0) hx hb dX9_readsTerm_6 (by decide) ?_
  refine q_puti (ci := 9) (C := RX9) (T := TX9) (N := 27) hx hb hts (fun _ h9 => List.mem_cons_of_mem _ (List.mem_append_right _ h9)) tyX9 tyX9_ok nmX9 hown hK hg 21 (by decide) rfl rfl (by decide) rfl 15 (by decide) (hts (.fieldLink RX9 239 "JoinMapsModel" "opened" "I") (List.mem_cons_of_mem _ (List.mem_append_left _ (List.mem_append_left _ (List.mem_of_getElem? (i := 1) rfl))))) rfl rfl (by decide +kernel) rfl (by decide) dX9_readsTerm_7 (fun H locs hg => ?_)
  refine lv_aload_n hx hb dX9_readsTerm_10 rfl (lv_at hl 0 rfl) ?_
  refine lv_iconst (v := iI 0) hx hb dX9_readsTerm_11 (by decide) ?_
  refine q_puti (ci := 9) (C := RX9) (T := TX9) (N := 27) hx hb hts (fun _ h9 => List.mem_cons_of_mem _ (List.mem_append_right _ h9)) tyX9 tyX9_ok nmX9 hown hK hg 21 (by decide) rfl rfl (by decide) rfl 18 (by decide) (hts (.fieldLink RX9 223 "JoinMapsModel" "sets" "I") (List.mem_cons_of_mem _ (List.mem_append_left _ (List.mem_append_left _ (List.mem_of_getElem? (i := 2) rfl))))) rfl rfl (by decide +kernel) rfl (by decide) dX9_readsTerm_12 (fun H locs hg => ?_)
  refine lv_aload_n hx hb dX9_readsTerm_15 rfl (lv_at hl 0 rfl) ?_
  refine lv_iconst (v := iI 0) hx hb dX9_readsTerm_16 (by decide) ?_
  refine q_puti (ci := 9) (C := RX9) (T := TX9) (N := 27) hx hb hts (fun _ h9 => List.mem_cons_of_mem _ (List.mem_append_right _ h9)) tyX9 tyX9_ok nmX9 hown hK hg 21 (by decide) rfl rfl (by decide) rfl 20 (by decide) (hts (.fieldLink RX9 226 "JoinMapsModel" "keyed" "I") (List.mem_cons_of_mem _ (List.mem_append_left _ (List.mem_append_left _ (List.mem_of_getElem? (i := 3) rfl))))) rfl rfl (by decide +kernel) rfl (by decide) dX9_readsTerm_17 (fun H locs hg => ?_)
  refine lv_iconst (v := iI 0) hx hb dX9_readsTerm_20 (by decide) ?_
  refine lv_istore_n (i := 1) (lv' := [(1, .int (iI (0))), (0, .ref (ea E 21))]) hx hb dX9_readsTerm_21 rfl hl (by decide) rfl (fun ls hl => ?_)
  refine lv_iconst (v := iI 1) hx hb dX9_readsTerm_22 (by decide) ?_
  refine lv_istore_n (i := 2) (lv' := [(2, .int (iI (1))), (1, .int (iI (0))), (0, .ref (ea E 21))]) hx hb dX9_readsTerm_23 rfl hl (by decide) rfl (fun ls hl => ?_)
  obtain ⟨kk, h⟩ := h
  exact J24  kk (0) (1) (un (un (un (un σ 21 13 (0)) 21 15 (0)) 21 18 (0)) 21 20 (0)) _ _ _ hg hm (lv_sub hl [2, 1, 0] rfl) h
