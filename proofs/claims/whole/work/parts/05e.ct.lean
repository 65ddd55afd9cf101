theorem hdX9_isOf : yX9_isOf.cls ≠ "java/lang/invoke/MethodHandle" ∧ yX9_isOf.cls ≠ "java/lang/invoke/VarHandle" ∧ (parseMethodDescriptor yX9_isOf.desc).map (fun d => d.parameters.length) = some 2 := by decide +kernel
set_option maxRecDepth 100000 in
set_option maxHeartbeats 4000000 in
theorem ctX9_isOf (l : Launch) (E : Ev) (a1 : Int) (a2 : Int) (σ : SS) (Q : Int → SS → Prop) (ha1 : R32 a1) (ha2 : R32 a2) (h : wX9_isOf a1 a2 σ Q) : Met l yX9_isOf wsX9_isOf ({ frames := 0, cells := 0, slots := 0, locals := 0 } : Room) (Pc E σ [.ref (ea E 21), .int (iI (a1)), .int (iI (a2))]) (Qz E (sz σ) σ Q) 0 0 (Av E) := by
  rw [wX9_isOf] at h
  refine Met.ofW (cc := cX9_isOf) (maxL := 5) (ret := (some .boolean)) (by decide) rfl ?_
  intro p e s m args below meth c s₁ B hml hv
  obtain ⟨rfl, hH, hK, hN⟩ := hv
  have hx := B.exec
  have hb := B.bytes
  have hr := B.returns
  have hts := atoms_spec (ws := wsX9_isOf) B.pre
  have hown : s.vm.findClass RX9 = some m.cls := findClass_of_methodNamed B.named
  have hlocks := B.notSynchronized
  have hg : GS E σ s s.heap [] := ⟨hH, va_S.rf⟩
  have hm : Mo (sz σ) σ σ := Mo.rf (Nat.le_refl _)
  have hl := ent (vs := [.ref (ea E 21), .int (iI (a1)), .int (iI (a2))]) (n := 5) (cats_x (cats_i (cats_i cats_nil))) (Nat.le_of_ble_eq_true rfl)
  rw [lg_entry_eq]
  generalize (lg_sl ([.ref (ea E 21), .int (iI (a1)), .int (iI (a2))]) ++ List.replicate (5 - (lg_sl ([.ref (ea E 21), .int (iI (a1)), .int (iI (a2))])).length) Slot.unset).toArray = ls at hl ⊢
  have hl : lv_has ls 5 [(0, .ref (ea E 21)), (1, .int (iI (a1))), (2, .int (iI (a2)))] := hl
  have J10 : ∀ (k : Nat), ∀ (v3 : Int) (v4 : Int) (sL : SS) (H : Heap) (locs : List Loc) (ls : Array Slot), GS E sL s H locs → Mo (sz σ) σ sL → lv_has ls 5 [(0, .ref (ea E 21)), (1, .int (iI (a1))), (2, .int (iI (a2))), (3, .int (iI (v3))), (4, .int (iI (v4)))] → wX9_isOf_L10 a1 a2 Q  k v3 v4 sL → W p l e (headSpec wsX9_isOf ({ frames := 0, cells := 0, slots := 0, locals := 0 } : Room)).room s m (List.toArray [.ref (ea E 21), .int (iI (a1)), .int (iI (a2))]) below meth c H locs 0 0 (MQ below (Qz E (sz σ) σ Q) (List.toArray [.ref (ea E 21), .int (iI (a1)), .int (iI (a2))]) s 0 0 (Av E)) (F0 m 10 ls []) := by
    intro k
    induction k with
    | zero => intro v3 v4 sL H locs ls hg hm hl h; exact False.elim h
    | succ k ih =>
      intro v3 v4 sL H locs ls hg hm hl h
      rw [wX9_isOf_L10] at h
      refine lv_iload hx hb dX9_isOf_10 (lv_at hl 4 rfl) ?_
      refine lv_aload_n hx hb dX9_isOf_12 rfl (lv_at hl 0 rfl) ?_
      refine q_getx (ci := 9) (C := RX9) (T := TX9) (N := 27) (j := 34) hx hb hts (fun _ h9 => List.mem_cons_of_mem _ (List.mem_append_right _ h9)) hown hK hg 21 (by decide) rfl rfl (by decide) rfl 17 (by decide) (hts (.fieldLink RX9 46 "JoinMapsModel" "lasts" "[I") (List.mem_cons_of_mem _ (List.mem_append_left _ (List.mem_of_getElem? (i := 1) rfl)))) rfl rfl rfl dX9_isOf_13 ?_
      refine lv_iload_n hx hb dX9_isOf_16 rfl (lv_at hl 1 rfl) ?_
      obtain ⟨hP4, hP5, h⟩ := h
      refine q_iald (N := 60) hx hb hK hg 34 (by decide) rfl rfl hP4 hP5 (by decide) dX9_isOf_17 ?_
      have hR6 := GS_R hg 34 (a1 : Int).toNat
      obtain ⟨hR7, h⟩ := h
      refine j_ge (tgt := 48) hx hb dX9_isOf_18 (by decide) hR7 hR6 (fun c8 => ?_) (fun c8 => ?_)
      · have h := h.1 c8
        refine lv_iload_n hx hb dX9_isOf_48 rfl (lv_at hl 3 rfl) ?_
        obtain ⟨hz9, h⟩ := h
        exact ret_z hx hb hr hlocks hg hz9 hm h dX9_isOf_49
      · have h := h.2 c8
        refine lv_iload_n hx hb dX9_isOf_21 rfl (lv_at hl 3 rfl) ?_
        obtain ⟨hR10, h⟩ := h
        refine k_ne (tgt := 36) hx hb dX9_isOf_22 (by decide) hR10 (fun c11 => ?_) (fun c11 => ?_)
        · have h := h.1 c11
          refine lv_iconst (v := iI 1) hx hb dX9_isOf_36 (by decide) ?_
          refine lv_goto (tgt := 41) hx hb dX9_isOf_37 (by decide) ?_
          refine lv_istore_n (i := 3) (lv' := [(3, .int (iI (1))), (0, .ref (ea E 21)), (1, .int (iI (a1))), (2, .int (iI (a2))), (4, .int (iI (v4)))]) hx hb dX9_isOf_41 rfl hl (by decide) rfl (fun ls hl => ?_)
          refine lv_iinc (v := iI (v4 + 1)) (lv' := [(4, .int (iI (v4 + 1))), (3, .int (iI (1))), (0, .ref (ea E 21)), (1, .int (iI (a1))), (2, .int (iI (a2)))]) hx hb dX9_isOf_42 hl (k := 4) rfl (iI_add _ _) (by decide) rfl (fun ls hl => ?_)
          refine lv_goto (tgt := 10) hx hb dX9_isOf_45 (by decide) ?_
          exact ih (1) (v4 + 1) (sL) _ _ _ hg hm (lv_sub hl [2, 3, 4, 1, 0] rfl) h
        · have h := h.2 c11
          refine lv_aload_n hx hb dX9_isOf_25 rfl (lv_at hl 0 rfl) ?_
          refine q_getx (ci := 9) (C := RX9) (T := TX9) (N := 27) (j := 35) hx hb hts (fun _ h9 => List.mem_cons_of_mem _ (List.mem_append_right _ h9)) hown hK hg 21 (by decide) rfl rfl (by decide) rfl 19 (by decide) (hts (.fieldLink RX9 49 "JoinMapsModel" "keys" "[I") (List.mem_cons_of_mem _ (List.mem_append_left _ (List.mem_of_getElem? (i := 2) rfl)))) rfl rfl rfl dX9_isOf_26 ?_
          refine lv_iload hx hb dX9_isOf_29 (lv_at hl 4 rfl) ?_
          obtain ⟨hP12, hP13, h⟩ := h
          refine q_iald (N := 130) hx hb hK hg 35 (by decide) rfl rfl hP12 hP13 (by decide) dX9_isOf_31 ?_
          have hR14 := GS_R hg 35 (v4 : Int).toNat
          refine lv_iload_n hx hb dX9_isOf_32 rfl (lv_at hl 2 rfl) ?_
          refine j_ne (tgt := 40) hx hb dX9_isOf_33 (by decide) hR14 ha2 (fun c15 => ?_) (fun c15 => ?_)
          · have h := h.1 c15
            refine lv_iconst (v := iI 0) hx hb dX9_isOf_40 (by decide) ?_
            refine lv_istore_n (i := 3) (lv' := [(3, .int (iI (0))), (0, .ref (ea E 21)), (1, .int (iI (a1))), (2, .int (iI (a2))), (4, .int (iI (v4)))]) hx hb dX9_isOf_41 rfl hl (by decide) rfl (fun ls hl => ?_)
            refine lv_iinc (v := iI (v4 + 1)) (lv' := [(4, .int (iI (v4 + 1))), (3, .int (iI (0))), (0, .ref (ea E 21)), (1, .int (iI (a1))), (2, .int (iI (a2)))]) hx hb dX9_isOf_42 hl (k := 4) rfl (iI_add _ _) (by decide) rfl (fun ls hl => ?_)
            refine lv_goto (tgt := 10) hx hb dX9_isOf_45 (by decide) ?_
            exact ih (0) (v4 + 1) (sL) _ _ _ hg hm (lv_sub hl [2, 3, 4, 1, 0] rfl) h
          · have h := h.2 c15
            refine lv_iconst (v := iI 1) hx hb dX9_isOf_36 (by decide) ?_
            refine lv_goto (tgt := 41) hx hb dX9_isOf_37 (by decide) ?_
            refine lv_istore_n (i := 3) (lv' := [(3, .int (iI (1))), (0, .ref (ea E 21)), (1, .int (iI (a1))), (2, .int (iI (a2))), (4, .int (iI (v4)))]) hx hb dX9_isOf_41 rfl hl (by decide) rfl (fun ls hl => ?_)
            refine lv_iinc (v := iI (v4 + 1)) (lv' := [(4, .int (iI (v4 + 1))), (3, .int (iI (1))), (0, .ref (ea E 21)), (1, .int (iI (a1))), (2, .int (iI (a2)))]) hx hb dX9_isOf_42 hl (k := 4) rfl (iI_add _ _) (by decide) rfl (fun ls hl => ?_)
            refine lv_goto (tgt := 10) hx hb dX9_isOf_45 (by decide) ?_
            exact ih (1) (v4 + 1) (sL) _ _ _ hg hm (lv_sub hl [2, 3, 4, 1, 0] rfl) h
  refine lv_iconst (v := iI 0) hx hb dX9_isOf_0 (by decide) ?_
  refine lv_istore_n (i := 3) (lv' := [(3, .int (iI (0))), (0, .ref (ea E 21)), (1, .int (iI (a1))), (2, .int (iI (a2)))]) hx hb dX9_isOf_1 rfl hl (by decide) rfl (fun ls hl => ?_)
  refine lv_aload_n hx hb dX9_isOf_2 rfl (lv_at hl 1 rfl) ?_
  refine q_getx (ci := 9) (C := RX9) (T := TX9) (N := 27) (j := 33) hx hb hts (fun _ h9 => List.mem_cons_of_mem _ (List.mem_append_right _ h9)) hown hK hg 21 (by decide) rfl rfl (by decide) rfl 16 (by decide) (hts (.fieldLink RX9 43 "JoinMapsModel" "firsts" "[I") (List.mem_cons_of_mem _ (List.mem_append_left _ (List.mem_of_getElem? (i := 0) rfl)))) rfl rfl rfl dX9_isOf_3 ?_
  refine lv_iload_n hx hb dX9_isOf_6 rfl (lv_at hl 2 rfl) ?_
  obtain ⟨hP1, hP2, h⟩ := h
  refine q_iald (N := 60) hx hb hK hg 33 (by decide) rfl rfl hP1 hP2 (by decide) dX9_isOf_7 ?_
  have hR3 := GS_R hg 33 (a1 : Int).toNat
  refine lv_istore (i := 4) (lv' := [(4, .int (iI ((sn σ 33 (a1 : Int).toNat)))), (3, .int (iI (0))), (0, .ref (ea E 21)), (1, .int (iI (a1))), (2, .int (iI (a2)))]) hx hb dX9_isOf_8 hl (by decide) rfl (fun ls hl => ?_)
  obtain ⟨kk, h⟩ := h
  exact J10  kk (0) ((sn σ 33 (a1 : Int).toNat)) (σ) _ _ _ hg hm (lv_sub hl [2, 3, 4, 1, 0] rfl) h
theorem hdX9_termAt : yX9_termAt.cls ≠ "java/lang/invoke/MethodHandle" ∧ yX9_termAt.cls ≠ "java/lang/invoke/VarHandle" ∧ (parseMethodDescriptor yX9_termAt.desc).map (fun d => d.parameters.length) = some 1 := by decide +kernel
set_option maxRecDepth 100000 in
set_option maxHeartbeats 4000000 in
theorem ctX9_termAt (l : Launch) (E : Ev) (a1 : Int) (σ : SS) (Q : Int → SS → Prop) (ha1 : R32 a1) (h : wX9_termAt a1 σ Q) : Met l yX9_termAt wsX9_termAt ({ frames := 3, cells := 0, slots := 0, locals := 66 } : Room) (Pc E σ [.ref (ea E 21), .int (iI (a1))]) (Qi E (sz σ) σ Q) 0 0 (Av E) := by
  rw [wX9_termAt] at h
  refine Met.ofW (cc := cX9_termAt) (maxL := 5) (ret := (some .int)) (by decide) rfl ?_
  intro p e s m args below meth c s₁ B hml hv
  obtain ⟨rfl, hH, hK, hN⟩ := hv
  have hx := B.exec
  have hb := B.bytes
  have hr := B.returns
  have hts := atoms_spec (ws := wsX9_termAt) B.pre
  have hown : s.vm.findClass RX9 = some m.cls := findClass_of_methodNamed B.named
  have hlocks := B.notSynchronized
  have hg : GS E σ s s.heap [] := ⟨hH, va_S.rf⟩
  have hm : Mo (sz σ) σ σ := Mo.rf (Nat.le_refl _)
  have hl := ent (vs := [.ref (ea E 21), .int (iI (a1))]) (n := 5) (cats_x (cats_i cats_nil)) (Nat.le_of_ble_eq_true rfl)
  rw [lg_entry_eq]
  generalize (lg_sl ([.ref (ea E 21), .int (iI (a1))]) ++ List.replicate (5 - (lg_sl ([.ref (ea E 21), .int (iI (a1))])).length) Slot.unset).toArray = ls at hl ⊢
  have hl : lv_has ls 5 [(0, .ref (ea E 21)), (1, .int (iI (a1)))] := hl
  have J4 : ∀ (k : Nat), ∀ (v2 : Int) (v3 : Int) (sL : SS) (H : Heap) (locs : List Loc) (ls : Array Slot), GS E sL s H locs → Mo (sz σ) σ sL → lv_has ls 5 [(0, .ref (ea E 21)), (1, .int (iI (a1))), (2, .int (iI (v2))), (3, .int (iI (v3)))] → wX9_termAt_L4 a1 Q  k v2 v3 sL → W p l e (headSpec wsX9_termAt ({ frames := 3, cells := 0, slots := 0, locals := 66 } : Room)).room s m (List.toArray [.ref (ea E 21), .int (iI (a1))]) below meth c H locs 0 0 (MQ below (Qi E (sz σ) σ Q) (List.toArray [.ref (ea E 21), .int (iI (a1))]) s 0 0 (Av E)) (F0 m 4 ls []) := by
    intro k
    induction k with
    | zero => intro v2 v3 sL H locs ls hg hm hl h; exact False.elim h
    | succ k ih =>
      intro v2 v3 sL H locs ls hg hm hl h
      rw [wX9_termAt_L4] at h
      refine lv_iload_n hx hb dX9_termAt_4 rfl (lv_at hl 3 rfl) ?_
      refine lv_aload_n hx hb dX9_termAt_5 rfl (lv_at hl 0 rfl) ?_
      refine q_geti (ci := 9) (C := RX9) (T := TX9) (N := 27) hx hb hts (fun _ h9 => List.mem_cons_of_mem _ (List.mem_append_right _ h9)) hown hK hg 21 (by decide) rfl rfl (by decide) rfl 13 (by decide) (hts (.fieldLink RX9 236 "JoinMapsModel" "many" "I") (List.mem_cons_of_mem _ (List.mem_append_left _ (List.mem_append_left _ (List.mem_of_getElem? (i := 0) rfl))))) rfl rfl dX9_termAt_6 ?_
      have hR1 := GS_R hg 21 13
      obtain ⟨hR2, h⟩ := h
      refine j_ge (tgt := 179) hx hb dX9_termAt_9 (by decide) hR2 hR1 (fun c3 => ?_) (fun c3 => ?_)
      · have h := h.1 c3
        refine lv_aload_n hx hb dX9_termAt_179 rfl (lv_at hl 0 rfl) ?_
        refine q_getx (ci := 9) (C := RX9) (T := TX9) (N := 27) (j := 36) hx hb hts (fun _ h9 => List.mem_cons_of_mem _ (List.mem_append_right _ h9)) hown hK hg 21 (by decide) rfl rfl (by decide) rfl 21 (by decide) (hts (.fieldLink RX9 52 "JoinMapsModel" "pending" "[I") (List.mem_cons_of_mem _ (List.mem_append_left _ (List.mem_append_left _ (List.mem_of_getElem? (i := 2) rfl))))) rfl rfl rfl dX9_termAt_180 ?_
        refine lv_iconst (v := iI 0) hx hb dX9_termAt_183 (by decide) ?_
        refine q_iald (N := 130) hx hb hK hg 36 (by decide) rfl rfl (by decide) (by decide) (by decide) dX9_termAt_184 ?_
        have hR4 := GS_R hg 36 (0 : Int).toNat
        exact ret_i hx hb hr hlocks hg hR4 hm h dX9_termAt_185
      · have h := h.2 c3
        refine lv_aload_n hx hb dX9_termAt_12 rfl (lv_at hl 0 rfl) ?_
        refine q_getx (ci := 9) (C := RX9) (T := TX9) (N := 27) (j := 31) hx hb hts (fun _ h9 => List.mem_cons_of_mem _ (List.mem_append_right _ h9)) hown hK hg 21 (by decide) rfl rfl (by decide) rfl 12 (by decide) (hts (.fieldLink RX9 37 "JoinMapsModel" "marks" "[I") (List.mem_cons_of_mem _ (List.mem_append_left _ (List.mem_append_left _ (List.mem_of_getElem? (i := 1) rfl))))) rfl rfl rfl dX9_termAt_13 ?_
        refine lv_iload_n hx hb dX9_termAt_16 rfl (lv_at hl 3 rfl) ?_
        obtain ⟨hP5, hP6, h⟩ := h
        refine q_iald (N := 130) hx hb hK hg 31 (by decide) rfl rfl hP5 hP6 (by decide) dX9_termAt_17 ?_
        have hR7 := GS_R hg 31 (v3 : Int).toNat
        refine lv_istore (i := 4) (lv' := [(4, .int (iI ((sn sL 31 (v3 : Int).toNat)))), (0, .ref (ea E 21)), (1, .int (iI (a1))), (2, .int (iI (v2))), (3, .int (iI (v3)))]) hx hb dX9_termAt_18 hl (by decide) rfl (fun ls hl => ?_)
        refine lv_iload hx hb dX9_termAt_20 (lv_at hl 0 rfl) ?_
        refine lv_bipush (v := iI 20) hx hb dX9_termAt_22 (by decide) ?_
        refine j_lt (tgt := 58) hx hb dX9_termAt_24 (by decide) hR7 (by decide) (fun c8 => ?_) (fun c8 => ?_)
        · have h := h.1 c8
          refine lv_iload hx hb dX9_termAt_58 (lv_at hl 0 rfl) ?_
          refine lv_bipush (v := iI 10) hx hb dX9_termAt_60 (by decide) ?_
          refine j_lt (tgt := 129) hx hb dX9_termAt_62 (by decide) hR7 (by decide) (fun c9 => ?_) (fun c9 => ?_)
          · have h := h.1 c9
            refine lv_aload_n hx hb dX9_termAt_129 rfl (lv_at hl 1 rfl) ?_
            refine q_getx (ci := 9) (C := RX9) (T := TX9) (N := 27) (j := 36) hx hb hts (fun _ h9 => List.mem_cons_of_mem _ (List.mem_append_right _ h9)) hown hK hg 21 (by decide) rfl rfl (by decide) rfl 21 (by decide) (hts (.fieldLink RX9 52 "JoinMapsModel" "pending" "[I") (List.mem_cons_of_mem _ (List.mem_append_left _ (List.mem_append_left _ (List.mem_of_getElem? (i := 2) rfl))))) rfl rfl rfl dX9_termAt_130 ?_
            refine lv_iload_n hx hb dX9_termAt_133 rfl (lv_at hl 3 rfl) ?_
            refine lv_aload_n hx hb dX9_termAt_134 rfl (lv_at hl 1 rfl) ?_
            refine lv_iload hx hb dX9_termAt_135 (lv_at hl 0 rfl) ?_
            refine lv_aload_n hx hb dX9_termAt_137 rfl (lv_at hl 1 rfl) ?_
            refine q_getx (ci := 9) (C := RX9) (T := TX9) (N := 27) (j := 38) hx hb hts (fun _ h9 => List.mem_cons_of_mem _ (List.mem_append_right _ h9)) hown hK hg 21 (by decide) rfl rfl (by decide) rfl 23 (by decide) (hts (.fieldLink RX9 58 "JoinMapsModel" "places" "[I") (List.mem_cons_of_mem _ (List.mem_append_left _ (List.mem_append_left _ (List.mem_of_getElem? (i := 5) rfl))))) rfl rfl rfl dX9_termAt_138 ?_
            refine lv_iload hx hb dX9_termAt_141 (lv_at hl 0 rfl) ?_
            obtain ⟨hP10, hP11, h⟩ := h
            refine q_iald (N := 6) hx hb hK hg 38 (by decide) rfl rfl hP10 hP11 (by decide) dX9_termAt_143 ?_
            have hR12 := GS_R hg 38 ((sn sL 31 (v3 : Int).toNat) : Int).toNat
            refine lv_iload_n hx hb dX9_termAt_144 rfl (lv_at hl 2 rfl) ?_
            refine call_z (run_V (a := ea E 21) (As := [.int (iI ((sn sL 31 (v3 : Int).toNat))), .int (iI ((sn sL 38 ((sn sL 31 (v3 : Int).toNat) : Int).toNat))), .int (iI (a1))]) (rest := [.int (iI (v2)), .ref (ea E 36)]) ⟨hx, hb, hml, hown, hts⟩ (ctX9_isThere l E (sn sL 31 (v3 : Int).toNat) (sn sL 38 ((sn sL 31 (v3 : Int).toNat) : Int).toNat) a1 sL _ hR7 hR12 ha1 h) (cwV 3 hts gX9_termAt_X9_isThere rfl rfl rfl ⟨rfl, hdX9_isThere⟩ ⟨Nat.le_of_ble_eq_true rfl, Nat.le_of_ble_eq_true rfl⟩) hK hN hg (recv_x (ci := 9) (C := RX9) (T := TX9) (N := 27) hg hK (by decide) rfl (by decide) rfl) rfl hl.1 rfl (cat_sum _ (by simp)) dX9_termAt_145 ⟨Nat.le_refl 0, Nat.le_refl 0⟩) hg (fun r14 s13 H locs hz15 hm2 h hg => ?_)
            have hm := hm.tn hm2
            refine k_eq (tgt := 167) hx hb dX9_termAt_148 (by decide) (z_R hz15) (fun c16 => ?_) (fun c16 => ?_)
            · have h := h.1 c16
              refine q_ldc (z := (-2000000001)) hx hb hown (hts (.constant RX9 120 (-2000000001)) (List.mem_cons_of_mem _ (List.mem_append_left _ (List.mem_append_left _ (List.mem_of_getElem? (i := 3) rfl))))) (by decide) dX9_termAt_167 ?_
              obtain ⟨hP17, hP18, h⟩ := h
              refine q_iast (N := 130) hx hb hK hg 36 (by decide) rfl rfl hP17 hP18 (by decide) (by decide) dX9_termAt_169 (fun H locs hg => ?_)
              refine lv_iinc (v := iI (v2 + 1)) (lv' := [(2, .int (iI (v2 + 1))), (4, .int (iI ((sn sL 31 (v3 : Int).toNat)))), (0, .ref (ea E 21)), (1, .int (iI (a1))), (3, .int (iI (v3)))]) hx hb dX9_termAt_170 hl (k := 3) rfl (iI_add _ _) (by decide) rfl (fun ls hl => ?_)
              refine lv_iinc (v := iI (v3 + 1)) (lv' := [(3, .int (iI (v3 + 1))), (2, .int (iI (v2 + 1))), (4, .int (iI ((sn sL 31 (v3 : Int).toNat)))), (0, .ref (ea E 21)), (1, .int (iI (a1)))]) hx hb dX9_termAt_173 hl (k := 4) rfl (iI_add _ _) (by decide) rfl (fun ls hl => ?_)
              refine lv_goto (tgt := 4) hx hb dX9_termAt_176 (by decide) ?_
              exact ih (v2 + 1) (v3 + 1) (un s13 36 (v2 : Int).toNat ((-2000000001))) _ _ _ hg hm (lv_sub hl [3, 4, 1, 0] rfl) h
            · have h := h.2 c16
              refine lv_aload_n hx hb dX9_termAt_151 rfl (lv_at hl 1 rfl) ?_
              refine lv_iload hx hb dX9_termAt_152 (lv_at hl 0 rfl) ?_
              refine lv_aload_n hx hb dX9_termAt_154 rfl (lv_at hl 1 rfl) ?_
              refine q_getx (ci := 9) (C := RX9) (T := TX9) (N := 27) (j := 38) hx hb hts (fun _ h9 => List.mem_cons_of_mem _ (List.mem_append_right _ h9)) hown hK hg 21 (by decide) rfl rfl (by decide) rfl 23 (by decide) (hts (.fieldLink RX9 58 "JoinMapsModel" "places" "[I") (List.mem_cons_of_mem _ (List.mem_append_left _ (List.mem_append_left _ (List.mem_of_getElem? (i := 5) rfl))))) rfl rfl rfl dX9_termAt_155 ?_
              refine lv_iload hx hb dX9_termAt_158 (lv_at hl 0 rfl) ?_
              obtain ⟨hP19, hP20, h⟩ := h
              refine q_iald (N := 6) hx hb hK hg 38 (by decide) rfl rfl hP19 hP20 (by decide) dX9_termAt_160 ?_
              have hR21 := GS_R hg 38 ((sn sL 31 (v3 : Int).toNat) : Int).toNat
              refine call_i (run_V (a := ea E 21) (As := [.int (iI ((sn sL 31 (v3 : Int).toNat))), .int (iI ((sn s13 38 ((sn sL 31 (v3 : Int).toNat) : Int).toNat)))]) (rest := [.int (iI (v2)), .ref (ea E 36)]) ⟨hx, hb, hml, hown, hts⟩ (ctX9_valueAt l E (sn sL 31 (v3 : Int).toNat) (sn s13 38 ((sn sL 31 (v3 : Int).toNat) : Int).toNat) s13 _ hR7 hR21 h) (cwV 2 hts gX9_termAt_X9_valueAt rfl rfl rfl ⟨rfl, hdX9_valueAt⟩ ⟨Nat.le_of_ble_eq_true rfl, Nat.le_of_ble_eq_true rfl⟩) hK hN hg (recv_x (ci := 9) (C := RX9) (T := TX9) (N := 27) hg hK (by decide) rfl (by decide) rfl) rfl hl.1 rfl (cat_sum _ (by simp)) dX9_termAt_161 ⟨Nat.le_refl 0, Nat.le_refl 0⟩) hg (fun r23 s22 H locs hz24 hm2 h hg => ?_)
              have hm := hm.tn hm2
              refine lv_goto (tgt := 169) hx hb dX9_termAt_164 (by decide) ?_
              obtain ⟨hP25, hP26, h⟩ := h
              refine q_iast (N := 130) hx hb hK hg 36 (by decide) rfl rfl hP25 hP26 (by decide) hz24 dX9_termAt_169 (fun H locs hg => ?_)
              refine lv_iinc (v := iI (v2 + 1)) (lv' := [(2, .int (iI (v2 + 1))), (4, .int (iI ((sn sL 31 (v3 : Int).toNat)))), (0, .ref (ea E 21)), (1, .int (iI (a1))), (3, .int (iI (v3)))]) hx hb dX9_termAt_170 hl (k := 3) rfl (iI_add _ _) (by decide) rfl (fun ls hl => ?_)
              refine lv_iinc (v := iI (v3 + 1)) (lv' := [(3, .int (iI (v3 + 1))), (2, .int (iI (v2 + 1))), (4, .int (iI ((sn sL 31 (v3 : Int).toNat)))), (0, .ref (ea E 21)), (1, .int (iI (a1)))]) hx hb dX9_termAt_173 hl (k := 4) rfl (iI_add _ _) (by decide) rfl (fun ls hl => ?_)
              refine lv_goto (tgt := 4) hx hb dX9_termAt_176 (by decide) ?_
              exact ih (v2 + 1) (v3 + 1) (un s22 36 (v2 : Int).toNat (r23)) _ _ _ hg hm (lv_sub hl [3, 4, 1, 0] rfl) h
          · have h := h.2 c9
            refine lv_iinc (v := iI (v2 + (-1))) (lv' := [(2, .int (iI (v2 + (-1)))), (4, .int (iI ((sn sL 31 (v3 : Int).toNat)))), (0, .ref (ea E 21)), (1, .int (iI (a1))), (3, .int (iI (v3)))]) hx hb dX9_termAt_65 hl (k := 3) rfl (iI_add _ _) (by decide) rfl (fun ls hl => ?_)
            refine lv_aload_n hx hb dX9_termAt_68 rfl (lv_at hl 2 rfl) ?_
            refine q_getx (ci := 9) (C := RX9) (T := TX9) (N := 27) (j := 36) hx hb hts (fun _ h9 => List.mem_cons_of_mem _ (List.mem_append_right _ h9)) hown hK hg 21 (by decide) rfl rfl (by decide) rfl 21 (by decide) (hts (.fieldLink RX9 52 "JoinMapsModel" "pending" "[I") (List.mem_cons_of_mem _ (List.mem_append_left _ (List.mem_append_left _ (List.mem_of_getElem? (i := 2) rfl))))) rfl rfl rfl dX9_termAt_69 ?_
            refine lv_iload_n hx hb dX9_termAt_72 rfl (lv_at hl 0 rfl) ?_
            refine lv_iconst (v := iI 1) hx hb dX9_termAt_73 (by decide) ?_
            refine q_isub hx hb dX9_termAt_74 ?_
            refine lv_aload_n hx hb dX9_termAt_75 rfl (lv_at hl 2 rfl) ?_
            refine lv_iload hx hb dX9_termAt_76 (lv_at hl 1 rfl) ?_
            refine lv_bipush (v := iI 10) hx hb dX9_termAt_78 (by decide) ?_
            refine q_isub hx hb dX9_termAt_80 ?_
            refine lv_aload_n hx hb dX9_termAt_81 rfl (lv_at hl 2 rfl) ?_
            refine q_getx (ci := 9) (C := RX9) (T := TX9) (N := 27) (j := 36) hx hb hts (fun _ h9 => List.mem_cons_of_mem _ (List.mem_append_right _ h9)) hown hK hg 21 (by decide) rfl rfl (by decide) rfl 21 (by decide) (hts (.fieldLink RX9 52 "JoinMapsModel" "pending" "[I") (List.mem_cons_of_mem _ (List.mem_append_left _ (List.mem_append_left _ (List.mem_of_getElem? (i := 2) rfl))))) rfl rfl rfl dX9_termAt_82 ?_
            refine lv_iload_n hx hb dX9_termAt_85 rfl (lv_at hl 0 rfl) ?_
            refine lv_iconst (v := iI 1) hx hb dX9_termAt_86 (by decide) ?_
            refine q_isub hx hb dX9_termAt_87 ?_
            obtain ⟨hP27, hP28, h⟩ := h
            refine q_iald (N := 130) hx hb hK hg 36 (by decide) rfl rfl hP27 hP28 (by decide) dX9_termAt_88 ?_
            have hR29 := GS_R hg 36 ((v2 + (-1) - 1) : Int).toNat
            refine lv_aload_n hx hb dX9_termAt_89 rfl (lv_at hl 2 rfl) ?_
            refine q_getx (ci := 9) (C := RX9) (T := TX9) (N := 27) (j := 36) hx hb hts (fun _ h9 => List.mem_cons_of_mem _ (List.mem_append_right _ h9)) hown hK hg 21 (by decide) rfl rfl (by decide) rfl 21 (by decide) (hts (.fieldLink RX9 52 "JoinMapsModel" "pending" "[I") (List.mem_cons_of_mem _ (List.mem_append_left _ (List.mem_append_left _ (List.mem_of_getElem? (i := 2) rfl))))) rfl rfl rfl dX9_termAt_90 ?_
            refine lv_iload_n hx hb dX9_termAt_93 rfl (lv_at hl 0 rfl) ?_
            obtain ⟨hP30, hP31, h⟩ := h
            refine q_iald (N := 130) hx hb hK hg 36 (by decide) rfl rfl hP30 hP31 (by decide) dX9_termAt_94 ?_
            have hR32 := GS_R hg 36 (v2 + (-1) : Int).toNat
            obtain ⟨hR33, h⟩ := h
            refine call_i (run_V (a := ea E 21) (As := [.int (iI (((sn sL 31 (v3 : Int).toNat) - 10))), .int (iI ((sn sL 36 ((v2 + (-1) - 1) : Int).toNat))), .int (iI ((sn sL 36 (v2 + (-1) : Int).toNat)))]) (rest := [.int (iI ((v2 + (-1) - 1))), .ref (ea E 36)]) ⟨hx, hb, hml, hown, hts⟩ (ctX9_joins l E ((sn sL 31 (v3 : Int).toNat) - 10) (sn sL 36 ((v2 + (-1) - 1) : Int).toNat) (sn sL 36 (v2 + (-1) : Int).toNat) sL _ hR33 hR29 hR32 h) (cwV 3 hts gX9_termAt_X9_joins rfl rfl rfl ⟨rfl, hdX9_joins⟩ ⟨Nat.le_of_ble_eq_true rfl, Nat.le_of_ble_eq_true rfl⟩) hK hN hg (recv_x (ci := 9) (C := RX9) (T := TX9) (N := 27) hg hK (by decide) rfl (by decide) rfl) rfl hl.1 rfl (cat_sum _ (by simp)) dX9_termAt_95 ⟨Nat.le_refl 0, Nat.le_refl 0⟩) hg (fun r35 s34 H locs hz36 hm2 h hg => ?_)
            have hm := hm.tn hm2
            obtain ⟨hP37, hP38, h⟩ := h
            refine q_iast (N := 130) hx hb hK hg 36 (by decide) rfl rfl hP37 hP38 (by decide) hz36 dX9_termAt_98 (fun H locs hg => ?_)
            refine lv_aload_n hx hb dX9_termAt_99 rfl (lv_at hl 2 rfl) ?_
            refine q_getx (ci := 9) (C := RX9) (T := TX9) (N := 27) (j := 37) hx hb hts (fun _ h9 => List.mem_cons_of_mem _ (List.mem_append_right _ h9)) hown hK hg 21 (by decide) rfl rfl (by decide) rfl 22 (by decide) (hts (.fieldLink RX9 55 "JoinMapsModel" "counts" "[I") (List.mem_cons_of_mem _ (List.mem_append_left _ (List.mem_append_left _ (List.mem_of_getElem? (i := 4) rfl))))) rfl rfl rfl dX9_termAt_100 ?_
            refine lv_iload_n hx hb dX9_termAt_103 rfl (lv_at hl 4 rfl) ?_
            refine lv_dup2_11 hx hb dX9_termAt_104 rfl rfl ?_
            obtain ⟨hP39, hP40, h⟩ := h
            refine q_iald (N := 130) hx hb hK hg 37 (by decide) rfl rfl hP39 hP40 (by decide) dX9_termAt_105 ?_
            have hR41 := GS_R hg 37 (v3 : Int).toNat
            refine lv_aload_n hx hb dX9_termAt_106 rfl (lv_at hl 2 rfl) ?_
            refine q_getx (ci := 9) (C := RX9) (T := TX9) (N := 27) (j := 36) hx hb hts (fun _ h9 => List.mem_cons_of_mem _ (List.mem_append_right _ h9)) hown hK hg 21 (by decide) rfl rfl (by decide) rfl 21 (by decide) (hts (.fieldLink RX9 52 "JoinMapsModel" "pending" "[I") (List.mem_cons_of_mem _ (List.mem_append_left _ (List.mem_append_left _ (List.mem_of_getElem? (i := 2) rfl))))) rfl rfl rfl dX9_termAt_107 ?_
            refine lv_iload_n hx hb dX9_termAt_110 rfl (lv_at hl 0 rfl) ?_
            refine lv_iconst (v := iI 1) hx hb dX9_termAt_111 (by decide) ?_
            refine q_isub hx hb dX9_termAt_112 ?_
            obtain ⟨hP42, hP43, h⟩ := h
            refine q_iald (N := 130) hx hb hK hg 36 (by decide) rfl rfl hP42 hP43 (by decide) dX9_termAt_113 ?_
            have hR44 := GS_R hg 36 ((v2 + (-1) - 1) : Int).toNat
            refine q_ldc (z := (-2000000001)) hx hb hown (hts (.constant RX9 120 (-2000000001)) (List.mem_cons_of_mem _ (List.mem_append_left _ (List.mem_append_left _ (List.mem_of_getElem? (i := 3) rfl))))) (by decide) dX9_termAt_114 ?_
            refine j_ne (tgt := 123) hx hb dX9_termAt_116 (by decide) hR44 (by decide) (fun c45 => ?_) (fun c45 => ?_)
            · have h := h.1 c45
              refine lv_iconst (v := iI 1) hx hb dX9_termAt_123 (by decide) ?_
              refine q_iadd hx hb dX9_termAt_124 ?_
              obtain ⟨hP46, hP47, hR48, h⟩ := h
              refine q_iast (N := 130) hx hb hK hg 37 (by decide) rfl rfl hP46 hP47 (by decide) hR48 dX9_termAt_125 (fun H locs hg => ?_)
              refine lv_goto (tgt := 173) hx hb dX9_termAt_126 (by decide) ?_
              refine lv_iinc (v := iI (v3 + 1)) (lv' := [(3, .int (iI (v3 + 1))), (2, .int (iI (v2 + (-1)))), (4, .int (iI ((sn sL 31 (v3 : Int).toNat)))), (0, .ref (ea E 21)), (1, .int (iI (a1)))]) hx hb dX9_termAt_173 hl (k := 4) rfl (iI_add _ _) (by decide) rfl (fun ls hl => ?_)
              refine lv_goto (tgt := 4) hx hb dX9_termAt_176 (by decide) ?_
              exact ih (v2 + (-1)) (v3 + 1) (un (un s34 36 ((v2 + (-1) - 1) : Int).toNat (r35)) 37 (v3 : Int).toNat (((sn (un s34 36 ((v2 + (-1) - 1) : Int).toNat (r35)) 37 (v3 : Int).toNat) + 1))) _ _ _ hg hm (lv_sub hl [3, 4, 1, 0] rfl) h
            · have h := h.2 c45
              refine lv_iconst (v := iI 0) hx hb dX9_termAt_119 (by decide) ?_
              refine lv_goto (tgt := 124) hx hb dX9_termAt_120 (by decide) ?_
              refine q_iadd hx hb dX9_termAt_124 ?_
              obtain ⟨hP49, hP50, hR51, h⟩ := h
              refine q_iast (N := 130) hx hb hK hg 37 (by decide) rfl rfl hP49 hP50 (by decide) hR51 dX9_termAt_125 (fun H locs hg => ?_)
              refine lv_goto (tgt := 173) hx hb dX9_termAt_126 (by decide) ?_
              refine lv_iinc (v := iI (v3 + 1)) (lv' := [(3, .int (iI (v3 + 1))), (2, .int (iI (v2 + (-1)))), (4, .int (iI ((sn sL 31 (v3 : Int).toNat)))), (0, .ref (ea E 21)), (1, .int (iI (a1)))]) hx hb dX9_termAt_173 hl (k := 4) rfl (iI_add _ _) (by decide) rfl (fun ls hl => ?_)
              refine lv_goto (tgt := 4) hx hb dX9_termAt_176 (by decide) ?_
              exact ih (v2 + (-1)) (v3 + 1) (un (un s34 36 ((v2 + (-1) - 1) : Int).toNat (r35)) 37 (v3 : Int).toNat (((sn (un s34 36 ((v2 + (-1) - 1) : Int).toNat (r35)) 37 (v3 : Int).toNat) + 0))) _ _ _ hg hm (lv_sub hl [3, 4, 1, 0] rfl) h
        · have h := h.2 c8
          refine lv_aload_n hx hb dX9_termAt_27 rfl (lv_at hl 1 rfl) ?_
          refine q_getx (ci := 9) (C := RX9) (T := TX9) (N := 27) (j := 36) hx hb hts (fun _ h9 => List.mem_cons_of_mem _ (List.mem_append_right _ h9)) hown hK hg 21 (by decide) rfl rfl (by decide) rfl 21 (by decide) (hts (.fieldLink RX9 52 "JoinMapsModel" "pending" "[I") (List.mem_cons_of_mem _ (List.mem_append_left _ (List.mem_append_left _ (List.mem_of_getElem? (i := 2) rfl))))) rfl rfl rfl dX9_termAt_28 ?_
          refine lv_iload_n hx hb dX9_termAt_31 rfl (lv_at hl 3 rfl) ?_
          refine lv_aload_n hx hb dX9_termAt_32 rfl (lv_at hl 1 rfl) ?_
          refine lv_iload hx hb dX9_termAt_33 (lv_at hl 0 rfl) ?_
          refine lv_bipush (v := iI 20) hx hb dX9_termAt_35 (by decide) ?_
          refine q_isub hx hb dX9_termAt_37 ?_
          refine lv_iload_n hx hb dX9_termAt_38 rfl (lv_at hl 2 rfl) ?_
          obtain ⟨hR52, h⟩ := h
          refine call_z (run_V (a := ea E 21) (As := [.int (iI (((sn sL 31 (v3 : Int).toNat) - 20))), .int (iI (a1))]) (rest := [.int (iI (v2)), .ref (ea E 36)]) ⟨hx, hb, hml, hown, hts⟩ (ctX9_isOf l E ((sn sL 31 (v3 : Int).toNat) - 20) a1 sL _ hR52 ha1 h) (cwV 2 hts gX9_termAt_X9_isOf rfl rfl rfl ⟨rfl, hdX9_isOf⟩ ⟨Nat.le_of_ble_eq_true rfl, Nat.le_of_ble_eq_true rfl⟩) hK hN hg (recv_x (ci := 9) (C := RX9) (T := TX9) (N := 27) hg hK (by decide) rfl (by decide) rfl) rfl hl.1 rfl (cat_sum _ (by simp)) dX9_termAt_39 ⟨Nat.le_refl 0, Nat.le_refl 0⟩) hg (fun r54 s53 H locs hz55 hm2 h hg => ?_)
          have hm := hm.tn hm2
          refine k_eq (tgt := 49) hx hb dX9_termAt_42 (by decide) (z_R hz55) (fun c56 => ?_) (fun c56 => ?_)
          · have h := h.1 c56
            refine q_ldc (z := (-2000000001)) hx hb hown (hts (.constant RX9 120 (-2000000001)) (List.mem_cons_of_mem _ (List.mem_append_left _ (List.mem_append_left _ (List.mem_of_getElem? (i := 3) rfl))))) (by decide) dX9_termAt_49 ?_
            obtain ⟨hP57, hP58, h⟩ := h
            refine q_iast (N := 130) hx hb hK hg 36 (by decide) rfl rfl hP57 hP58 (by decide) (by decide) dX9_termAt_51 (fun H locs hg => ?_)
            refine lv_iinc (v := iI (v2 + 1)) (lv' := [(2, .int (iI (v2 + 1))), (4, .int (iI ((sn sL 31 (v3 : Int).toNat)))), (0, .ref (ea E 21)), (1, .int (iI (a1))), (3, .int (iI (v3)))]) hx hb dX9_termAt_52 hl (k := 3) rfl (iI_add _ _) (by decide) rfl (fun ls hl => ?_)
            refine lv_goto (tgt := 173) hx hb dX9_termAt_55 (by decide) ?_
            refine lv_iinc (v := iI (v3 + 1)) (lv' := [(3, .int (iI (v3 + 1))), (2, .int (iI (v2 + 1))), (4, .int (iI ((sn sL 31 (v3 : Int).toNat)))), (0, .ref (ea E 21)), (1, .int (iI (a1)))]) hx hb dX9_termAt_173 hl (k := 4) rfl (iI_add _ _) (by decide) rfl (fun ls hl => ?_)
            refine lv_goto (tgt := 4) hx hb dX9_termAt_176 (by decide) ?_
            exact ih (v2 + 1) (v3 + 1) (un s53 36 (v2 : Int).toNat ((-2000000001))) _ _ _ hg hm (lv_sub hl [3, 4, 1, 0] rfl) h
          · have h := h.2 c56
            refine lv_iload_n hx hb dX9_termAt_45 rfl (lv_at hl 2 rfl) ?_
            refine lv_goto (tgt := 51) hx hb dX9_termAt_46 (by decide) ?_
            obtain ⟨hP59, hP60, h⟩ := h
            refine q_iast (N := 130) hx hb hK hg 36 (by decide) rfl rfl hP59 hP60 (by decide) ha1 dX9_termAt_51 (fun H locs hg => ?_)
            refine lv_iinc (v := iI (v2 + 1)) (lv' := [(2, .int (iI (v2 + 1))), (4, .int (iI ((sn sL 31 (v3 : Int).toNat)))), (0, .ref (ea E 21)), (1, .int (iI (a1))), (3, .int (iI (v3)))]) hx hb dX9_termAt_52 hl (k := 3) rfl (iI_add _ _) (by decide) rfl (fun ls hl => ?_)
            refine lv_goto (tgt := 173) hx hb dX9_termAt_55 (by decide) ?_
            refine lv_iinc (v := iI (v3 + 1)) (lv' := [(3, .int (iI (v3 + 1))), (2, .int (iI (v2 + 1))), (4, .int (iI ((sn sL 31 (v3 : Int).toNat)))), (0, .ref (ea E 21)), (1, .int (iI (a1)))]) hx hb dX9_termAt_173 hl (k := 4) rfl (iI_add _ _) (by decide) rfl (fun ls hl => ?_)
            refine lv_goto (tgt := 4) hx hb dX9_termAt_176 (by decide) ?_
            exact ih (v2 + 1) (v3 + 1) (un s53 36 (v2 : Int).toNat (a1)) _ _ _ hg hm (lv_sub hl [3, 4, 1, 0] rfl) h
  refine lv_iconst (v := iI 0) hx hb dX9_termAt_0 (by decide) ?_
  refine lv_istore_n (i := 2) (lv' := [(2, .int (iI (0))), (0, .ref (ea E 21)), (1, .int (iI (a1)))]) hx hb dX9_termAt_1 rfl hl (by decide) rfl (fun ls hl => ?_)
  refine lv_iconst (v := iI 0) hx hb dX9_termAt_2 (by decide) ?_
  refine lv_istore_n (i := 3) (lv' := [(3, .int (iI (0))), (2, .int (iI (0))), (0, .ref (ea E 21)), (1, .int (iI (a1)))]) hx hb dX9_termAt_3 rfl hl (by decide) rfl (fun ls hl => ?_)
  obtain ⟨kk, h⟩ := h
  exact J4  kk (0) (0) (σ) _ _ _ hg hm (lv_sub hl [2, 3, 1, 0] rfl) h
theorem hdX9_sets : yX9_sets.cls ≠ "java/lang/invoke/MethodHandle" ∧ yX9_sets.cls ≠ "java/lang/invoke/VarHandle" ∧ (parseMethodDescriptor yX9_sets.desc).map (fun d => d.parameters.length) = some 1 := by decide +kernel
set_option maxRecDepth 100000 in
set_option maxHeartbeats 4000000 in
theorem ctX9_sets (l : Launch) (E : Ev) (a1 : Int) (σ : SS) (Q : Int → SS → Prop) (ha1 : R32 a1) (h : wX9_sets a1 σ Q) : Met l yX9_sets wsX9_sets ({ frames := 4, cells := 0, slots := 0, locals := 90 } : Room) (Pc E σ [.ref (ea E 21), .int (iI (a1))]) (Qz E (sz σ) σ Q) 0 0 (Av E) := by
  rw [wX9_sets] at h
  refine Met.ofW (cc := cX9_sets) (maxL := 6) (ret := (some .boolean)) (by decide) rfl ?_
  intro p e s m args below meth c s₁ B hml hv
  obtain ⟨rfl, hH, hK, hN⟩ := hv
  have hx := B.exec
  have hb := B.bytes
  have hr := B.returns
  have hts := atoms_spec (ws := wsX9_sets) B.pre
  have hown : s.vm.findClass RX9 = some m.cls := findClass_of_methodNamed B.named
  have hlocks := B.notSynchronized
  have hg : GS E σ s s.heap [] := ⟨hH, va_S.rf⟩
  have hm : Mo (sz σ) σ σ := Mo.rf (Nat.le_refl _)
  have hl := ent (vs := [.ref (ea E 21), .int (iI (a1))]) (n := 6) (cats_x (cats_i cats_nil)) (Nat.le_of_ble_eq_true rfl)
  rw [lg_entry_eq]
  generalize (lg_sl ([.ref (ea E 21), .int (iI (a1))]) ++ List.replicate (6 - (lg_sl ([.ref (ea E 21), .int (iI (a1))])).length) Slot.unset).toArray = ls at hl ⊢
  have hl : lv_has ls 6 [(0, .ref (ea E 21)), (1, .int (iI (a1)))] := hl
  have J152 : ∀ (k : Nat), ∀ (v2 : Int) (v3 : Int) (v4 : Int) (sL : SS) (H : Heap) (locs : List Loc) (ls : Array Slot), GS E sL s H locs → Mo (sz σ) σ sL → lv_has ls 6 [(0, .ref (ea E 21)), (1, .int (iI (a1))), (2, .int (iI (v2))), (3, .int (iI (v3))), (4, .int (iI (v4)))] → wX9_sets_L152 a1 Q  k v2 v3 v4 sL → W p l e (headSpec wsX9_sets ({ frames := 4, cells := 0, slots := 0, locals := 90 } : Room)).room s m (List.toArray [.ref (ea E 21), .int (iI (a1))]) below meth c H locs 0 0 (MQ below (Qz E (sz σ) σ Q) (List.toArray [.ref (ea E 21), .int (iI (a1))]) s 0 0 (Av E)) (F0 m 152 ls []) := by
    intro k
    induction k with
    | zero => intro v2 v3 v4 sL H locs ls hg hm hl h; exact False.elim h
    | succ k ih =>
      intro v2 v3 v4 sL H locs ls hg hm hl h
      rw [wX9_sets_L152] at h
      refine lv_iload hx hb dX9_sets_152 (lv_at hl 4 rfl) ?_
      refine lv_aload_n hx hb dX9_sets_154 rfl (lv_at hl 0 rfl) ?_
      refine q_geti (ci := 9) (C := RX9) (T := TX9) (N := 27) hx hb hts (fun _ h9 => List.mem_cons_of_mem _ (List.mem_append_right _ h9)) hown hK hg 21 (by decide) rfl rfl (by decide) rfl 13 (by decide) (hts (.fieldLink RX9 236 "JoinMapsModel" "many" "I") (List.mem_cons_of_mem _ (List.mem_append_left _ (List.mem_append_left _ (List.mem_of_getElem? (i := 1) rfl))))) rfl rfl dX9_sets_155 ?_
      have hR15 := GS_R hg 21 13
      obtain ⟨hR16, h⟩ := h
      refine j_ge (tgt := 214) hx hb dX9_sets_158 (by decide) hR16 hR15 (fun c17 => ?_) (fun c17 => ?_)
      · have h := h.1 c17
        refine lv_iload_n hx hb dX9_sets_214 rfl (lv_at hl 3 rfl) ?_
        obtain ⟨hR18, h⟩ := h
        refine k_eq (tgt := 224) hx hb dX9_sets_215 (by decide) hR18 (fun c19 => ?_) (fun c19 => ?_)
        · have h := h.1 c19
          refine lv_iload_n hx hb dX9_sets_224 rfl (lv_at hl 3 rfl) ?_
          obtain ⟨hz20, h⟩ := h
          exact ret_z hx hb hr hlocks hg hz20 hm h dX9_sets_225
        · have h := h.2 c19
          refine lv_aload_n hx hb dX9_sets_218 rfl (lv_at hl 0 rfl) ?_
          refine lv_iload_n hx hb dX9_sets_219 rfl (lv_at hl 1 rfl) ?_
          refine lv_iload_n hx hb dX9_sets_220 rfl (lv_at hl 2 rfl) ?_
          obtain ⟨hR21, h⟩ := h
          refine call_v (run_V (a := ea E 21) (As := [.int (iI (a1)), .int (iI (v2))]) (rest := []) ⟨hx, hb, hml, hown, hts⟩ (ctX9_becomes l E a1 v2 sL _ ha1 hR21 h) (cwV 2 hts gX9_sets_X9_becomes rfl rfl rfl ⟨rfl, hdX9_becomes⟩ ⟨Nat.le_of_ble_eq_true rfl, Nat.le_of_ble_eq_true rfl⟩) hK hN hg (recv_x (ci := 9) (C := RX9) (T := TX9) (N := 27) hg hK (by decide) rfl (by decide) rfl) rfl hl.1 rfl (cat_sum _ (by simp)) dX9_sets_221 ⟨Nat.le_refl 0, Nat.le_refl 0⟩) hg (fun s22 H locs hm2 h hg => ?_)
          have hm := hm.tn hm2
          refine lv_iload_n hx hb dX9_sets_224 rfl (lv_at hl 3 rfl) ?_
          obtain ⟨hz25, h⟩ := h
          exact ret_z hx hb hr hlocks hg hz25 hm h dX9_sets_225
      · have h := h.2 c17
        refine lv_iload_n hx hb dX9_sets_161 rfl (lv_at hl 3 rfl) ?_
        obtain ⟨hR26, h⟩ := h
        refine k_eq (tgt := 206) hx hb dX9_sets_162 (by decide) hR26 (fun c27 => ?_) (fun c27 => ?_)
        · have h := h.1 c27
          refine lv_iconst (v := iI 0) hx hb dX9_sets_206 (by decide) ?_
          refine lv_istore_n (i := 3) (lv' := [(3, .int (iI (0))), (0, .ref (ea E 21)), (1, .int (iI (a1))), (2, .int (iI (v2))), (4, .int (iI (v4)))]) hx hb dX9_sets_207 rfl hl (by decide) rfl (fun ls hl => ?_)
          refine lv_iinc (v := iI (v4 + 1)) (lv' := [(4, .int (iI (v4 + 1))), (3, .int (iI (0))), (0, .ref (ea E 21)), (1, .int (iI (a1))), (2, .int (iI (v2)))]) hx hb dX9_sets_208 hl (k := 4) rfl (iI_add _ _) (by decide) rfl (fun ls hl => ?_)
          refine lv_goto (tgt := 152) hx hb dX9_sets_211 (by decide) ?_
          exact ih (v2) (0) (v4 + 1) (sL) _ _ _ hg hm (lv_sub hl [2, 3, 4, 1, 0] rfl) h
        · have h := h.2 c27
          refine lv_aload_n hx hb dX9_sets_165 rfl (lv_at hl 0 rfl) ?_
          refine q_getx (ci := 9) (C := RX9) (T := TX9) (N := 27) (j := 31) hx hb hts (fun _ h9 => List.mem_cons_of_mem _ (List.mem_append_right _ h9)) hown hK hg 21 (by decide) rfl rfl (by decide) rfl 12 (by decide) (hts (.fieldLink RX9 37 "JoinMapsModel" "marks" "[I") (List.mem_cons_of_mem _ (List.mem_append_left _ (List.mem_append_left _ (List.mem_of_getElem? (i := 5) rfl))))) rfl rfl rfl dX9_sets_166 ?_
          refine lv_iload hx hb dX9_sets_169 (lv_at hl 4 rfl) ?_
          obtain ⟨hP28, hP29, h⟩ := h
          refine q_iald (N := 130) hx hb hK hg 31 (by decide) rfl rfl hP28 hP29 (by decide) dX9_sets_171 ?_
          have hR30 := GS_R hg 31 (v4 : Int).toNat
          refine lv_bipush (v := iI 10) hx hb dX9_sets_172 (by decide) ?_
          refine j_eq (tgt := 189) hx hb dX9_sets_174 (by decide) hR30 (by decide) (fun c31 => ?_) (fun c31 => ?_)
          · have h := h.1 c31
            refine lv_aload_n hx hb dX9_sets_189 rfl (lv_at hl 0 rfl) ?_
            refine q_getx (ci := 9) (C := RX9) (T := TX9) (N := 27) (j := 37) hx hb hts (fun _ h9 => List.mem_cons_of_mem _ (List.mem_append_right _ h9)) hown hK hg 21 (by decide) rfl rfl (by decide) rfl 22 (by decide) (hts (.fieldLink RX9 55 "JoinMapsModel" "counts" "[I") (List.mem_cons_of_mem _ (List.mem_append_left _ (List.mem_append_left _ (List.mem_of_getElem? (i := 2) rfl))))) rfl rfl rfl dX9_sets_190 ?_
            refine lv_iload hx hb dX9_sets_193 (lv_at hl 4 rfl) ?_
            obtain ⟨hP32, hP33, h⟩ := h
            refine q_iald (N := 130) hx hb hK hg 37 (by decide) rfl rfl hP32 hP33 (by decide) dX9_sets_195 ?_
            have hR34 := GS_R hg 37 (v4 : Int).toNat
            refine lv_sipush (v := iI 200) hx hb dX9_sets_196 (by decide) ?_
            refine j_gt (tgt := 206) hx hb dX9_sets_199 (by decide) hR34 (by decide) (fun c35 => ?_) (fun c35 => ?_)
            · have h := h.1 c35
              refine lv_iconst (v := iI 0) hx hb dX9_sets_206 (by decide) ?_
              refine lv_istore_n (i := 3) (lv' := [(3, .int (iI (0))), (0, .ref (ea E 21)), (1, .int (iI (a1))), (2, .int (iI (v2))), (4, .int (iI (v4)))]) hx hb dX9_sets_207 rfl hl (by decide) rfl (fun ls hl => ?_)
              refine lv_iinc (v := iI (v4 + 1)) (lv' := [(4, .int (iI (v4 + 1))), (3, .int (iI (0))), (0, .ref (ea E 21)), (1, .int (iI (a1))), (2, .int (iI (v2)))]) hx hb dX9_sets_208 hl (k := 4) rfl (iI_add _ _) (by decide) rfl (fun ls hl => ?_)
              refine lv_goto (tgt := 152) hx hb dX9_sets_211 (by decide) ?_
              exact ih (v2) (0) (v4 + 1) (sL) _ _ _ hg hm (lv_sub hl [2, 3, 4, 1, 0] rfl) h
            · have h := h.2 c35
              refine lv_iconst (v := iI 1) hx hb dX9_sets_202 (by decide) ?_
              refine lv_goto (tgt := 207) hx hb dX9_sets_203 (by decide) ?_
              refine lv_istore_n (i := 3) (lv' := [(3, .int (iI (1))), (0, .ref (ea E 21)), (1, .int (iI (a1))), (2, .int (iI (v2))), (4, .int (iI (v4)))]) hx hb dX9_sets_207 rfl hl (by decide) rfl (fun ls hl => ?_)
              refine lv_iinc (v := iI (v4 + 1)) (lv' := [(4, .int (iI (v4 + 1))), (3, .int (iI (1))), (0, .ref (ea E 21)), (1, .int (iI (a1))), (2, .int (iI (v2)))]) hx hb dX9_sets_208 hl (k := 4) rfl (iI_add _ _) (by decide) rfl (fun ls hl => ?_)
              refine lv_goto (tgt := 152) hx hb dX9_sets_211 (by decide) ?_
              exact ih (v2) (1) (v4 + 1) (sL) _ _ _ hg hm (lv_sub hl [2, 3, 4, 1, 0] rfl) h
          · have h := h.2 c31
            refine lv_aload_n hx hb dX9_sets_177 rfl (lv_at hl 0 rfl) ?_
            refine q_getx (ci := 9) (C := RX9) (T := TX9) (N := 27) (j := 31) hx hb hts (fun _ h9 => List.mem_cons_of_mem _ (List.mem_append_right _ h9)) hown hK hg 21 (by decide) rfl rfl (by decide) rfl 12 (by decide) (hts (.fieldLink RX9 37 "JoinMapsModel" "marks" "[I") (List.mem_cons_of_mem _ (List.mem_append_left _ (List.mem_append_left _ (List.mem_of_getElem? (i := 5) rfl))))) rfl rfl rfl dX9_sets_178 ?_
            refine lv_iload hx hb dX9_sets_181 (lv_at hl 4 rfl) ?_
            obtain ⟨hP36, hP37, h⟩ := h
            refine q_iald (N := 130) hx hb hK hg 31 (by decide) rfl rfl hP36 hP37 (by decide) dX9_sets_183 ?_
            have hR38 := GS_R hg 31 (v4 : Int).toNat
            refine lv_bipush (v := iI 13) hx hb dX9_sets_184 (by decide) ?_
            refine j_ne (tgt := 202) hx hb dX9_sets_186 (by decide) hR38 (by decide) (fun c39 => ?_) (fun c39 => ?_)
            · have h := h.1 c39
              refine lv_iconst (v := iI 1) hx hb dX9_sets_202 (by decide) ?_
              refine lv_goto (tgt := 207) hx hb dX9_sets_203 (by decide) ?_
              refine lv_istore_n (i := 3) (lv' := [(3, .int (iI (1))), (0, .ref (ea E 21)), (1, .int (iI (a1))), (2, .int (iI (v2))), (4, .int (iI (v4)))]) hx hb dX9_sets_207 rfl hl (by decide) rfl (fun ls hl => ?_)
              refine lv_iinc (v := iI (v4 + 1)) (lv' := [(4, .int (iI (v4 + 1))), (3, .int (iI (1))), (0, .ref (ea E 21)), (1, .int (iI (a1))), (2, .int (iI (v2)))]) hx hb dX9_sets_208 hl (k := 4) rfl (iI_add _ _) (by decide) rfl (fun ls hl => ?_)
              refine lv_goto (tgt := 152) hx hb dX9_sets_211 (by decide) ?_
              exact ih (v2) (1) (v4 + 1) (sL) _ _ _ hg hm (lv_sub hl [2, 3, 4, 1, 0] rfl) h
            · have h := h.2 c39
              refine lv_aload_n hx hb dX9_sets_189 rfl (lv_at hl 0 rfl) ?_
              refine q_getx (ci := 9) (C := RX9) (T := TX9) (N := 27) (j := 37) hx hb hts (fun _ h9 => List.mem_cons_of_mem _ (List.mem_append_right _ h9)) hown hK hg 21 (by decide) rfl rfl (by decide) rfl 22 (by decide) (hts (.fieldLink RX9 55 "JoinMapsModel" "counts" "[I") (List.mem_cons_of_mem _ (List.mem_append_left _ (List.mem_append_left _ (List.mem_of_getElem? (i := 2) rfl))))) rfl rfl rfl dX9_sets_190 ?_
              refine lv_iload hx hb dX9_sets_193 (lv_at hl 4 rfl) ?_
              obtain ⟨hP40, hP41, h⟩ := h
              refine q_iald (N := 130) hx hb hK hg 37 (by decide) rfl rfl hP40 hP41 (by decide) dX9_sets_195 ?_
              have hR42 := GS_R hg 37 (v4 : Int).toNat
              refine lv_sipush (v := iI 200) hx hb dX9_sets_196 (by decide) ?_
              refine j_gt (tgt := 206) hx hb dX9_sets_199 (by decide) hR42 (by decide) (fun c43 => ?_) (fun c43 => ?_)
              · have h := h.1 c43
                refine lv_iconst (v := iI 0) hx hb dX9_sets_206 (by decide) ?_
                refine lv_istore_n (i := 3) (lv' := [(3, .int (iI (0))), (0, .ref (ea E 21)), (1, .int (iI (a1))), (2, .int (iI (v2))), (4, .int (iI (v4)))]) hx hb dX9_sets_207 rfl hl (by decide) rfl (fun ls hl => ?_)
                refine lv_iinc (v := iI (v4 + 1)) (lv' := [(4, .int (iI (v4 + 1))), (3, .int (iI (0))), (0, .ref (ea E 21)), (1, .int (iI (a1))), (2, .int (iI (v2)))]) hx hb dX9_sets_208 hl (k := 4) rfl (iI_add _ _) (by decide) rfl (fun ls hl => ?_)
                refine lv_goto (tgt := 152) hx hb dX9_sets_211 (by decide) ?_
                exact ih (v2) (0) (v4 + 1) (sL) _ _ _ hg hm (lv_sub hl [2, 3, 4, 1, 0] rfl) h
              · have h := h.2 c43
                refine lv_iconst (v := iI 1) hx hb dX9_sets_202 (by decide) ?_
                refine lv_goto (tgt := 207) hx hb dX9_sets_203 (by decide) ?_
                refine lv_istore_n (i := 3) (lv' := [(3, .int (iI (1))), (0, .ref (ea E 21)), (1, .int (iI (a1))), (2, .int (iI (v2))), (4, .int (iI (v4)))]) hx hb dX9_sets_207 rfl hl (by decide) rfl (fun ls hl => ?_)
                refine lv_iinc (v := iI (v4 + 1)) (lv' := [(4, .int (iI (v4 + 1))), (3, .int (iI (1))), (0, .ref (ea E 21)), (1, .int (iI (a1))), (2, .int (iI (v2)))]) hx hb dX9_sets_208 hl (k := 4) rfl (iI_add _ _) (by decide) rfl (fun ls hl => ?_)
                refine lv_goto (tgt := 152) hx hb dX9_sets_211 (by decide) ?_
                exact ih (v2) (1) (v4 + 1) (sL) _ _ _ hg hm (lv_sub hl [2, 3, 4, 1, 0] rfl) h
  have J67 : ∀ (K50 : Int → Int → SS → Prop) (hK50 : ∀ (v2 : Int) (v3 : Int) (sL : SS) (H : Heap) (locs : List Loc) (ls : Array Slot), GS E sL s H locs → Mo (sz σ) σ sL → lv_has ls 6 [(0, .ref (ea E 21)), (1, .int (iI (a1))), (2, .int (iI (v2))), (3, .int (iI (v3)))] → K50 v2 v3 sL → W p l e (headSpec wsX9_sets ({ frames := 4, cells := 0, slots := 0, locals := 90 } : Room)).room s m (List.toArray [.ref (ea E 21), .int (iI (a1))]) below meth c H locs 0 0 (MQ below (Qz E (sz σ) σ Q) (List.toArray [.ref (ea E 21), .int (iI (a1))]) s 0 0 (Av E)) (F0 m 50 ls [])) (k : Nat), ∀ (v2 : Int) (v3 : Int) (v4 : Int) (v5 : Int) (sL : SS) (H : Heap) (locs : List Loc) (ls : Array Slot), GS E sL s H locs → Mo (sz σ) σ sL → lv_has ls 6 [(0, .ref (ea E 21)), (1, .int (iI (a1))), (2, .int (iI (v2))), (3, .int (iI (v3))), (4, .int (iI (v4))), (5, .int (iI (v5)))] → wX9_sets_L67 a1 Q K50 k v2 v3 v4 v5 sL → W p l e (headSpec wsX9_sets ({ frames := 4, cells := 0, slots := 0, locals := 90 } : Room)).room s m (List.toArray [.ref (ea E 21), .int (iI (a1))]) below meth c H locs 0 0 (MQ below (Qz E (sz σ) σ Q) (List.toArray [.ref (ea E 21), .int (iI (a1))]) s 0 0 (Av E)) (F0 m 67 ls []) := by
    intro K50 hK50
    intro k
    induction k with
    | zero => intro v2 v3 v4 v5 sL H locs ls hg hm hl h; exact False.elim h
    | succ k ih =>
      intro v2 v3 v4 v5 sL H locs ls hg hm hl h
      rw [wX9_sets_L67] at h
      refine lv_iload hx hb dX9_sets_67 (lv_at hl 5 rfl) ?_
      refine lv_bipush (v := iI 6) hx hb dX9_sets_69 (by decide) ?_
      obtain ⟨hR44, h⟩ := h
      refine j_ge (tgt := 112) hx hb dX9_sets_71 (by decide) hR44 (by decide) (fun c45 => ?_) (fun c45 => ?_)
      · have h := h.1 c45
        refine lv_iload hx hb dX9_sets_112 (lv_at hl 4 rfl) ?_
        refine q_ldc (z := (-2000000001)) hx hb hown (hts (.constant RX9 120 (-2000000001)) (List.mem_cons_of_mem _ (List.mem_append_left _ (List.mem_append_left _ (List.mem_of_getElem? (i := 3) rfl))))) (by decide) dX9_sets_114 ?_
        obtain ⟨hR46, h⟩ := h
        refine j_eq (tgt := 141) hx hb dX9_sets_116 (by decide) hR46 (by decide) (fun c47 => ?_) (fun c47 => ?_)
        · have h := h.1 c47
          refine lv_iinc (v := iI (v3 + 1)) (lv' := [(3, .int (iI (v3 + 1))), (0, .ref (ea E 21)), (1, .int (iI (a1))), (2, .int (iI (v2))), (4, .int (iI (v4))), (5, .int (iI (v5)))]) hx hb dX9_sets_141 hl (k := 3) rfl (iI_add _ _) (by decide) rfl (fun ls hl => ?_)
          refine lv_goto (tgt := 50) hx hb dX9_sets_144 (by decide) ?_
          exact hK50 (v2) (v3 + 1) (sL) _ _ _ hg hm (lv_sub hl [1, 2, 3, 0] rfl) h
        · have h := h.2 c47
          refine lv_iload_n hx hb dX9_sets_119 rfl (lv_at hl 2 rfl) ?_
          refine lv_sipush (v := iI 200) hx hb dX9_sets_120 (by decide) ?_
          obtain ⟨hR48, h⟩ := h
          refine j_gt (tgt := 141) hx hb dX9_sets_123 (by decide) hR48 (by decide) (fun c49 => ?_) (fun c49 => ?_)
          · have h := h.1 c49
            refine lv_iinc (v := iI (v3 + 1)) (lv' := [(3, .int (iI (v3 + 1))), (0, .ref (ea E 21)), (1, .int (iI (a1))), (2, .int (iI (v2))), (4, .int (iI (v4))), (5, .int (iI (v5)))]) hx hb dX9_sets_141 hl (k := 3) rfl (iI_add _ _) (by decide) rfl (fun ls hl => ?_)
            refine lv_goto (tgt := 50) hx hb dX9_sets_144 (by decide) ?_
            exact hK50 (v2) (v3 + 1) (sL) _ _ _ hg hm (lv_sub hl [1, 2, 3, 0] rfl) h
          · have h := h.2 c49
            refine lv_aload_n hx hb dX9_sets_126 rfl (lv_at hl 0 rfl) ?_
            refine q_getx (ci := 9) (C := RX9) (T := TX9) (N := 27) (j := 28) hx hb hts (fun _ h9 => List.mem_cons_of_mem _ (List.mem_append_right _ h9)) hown hK hg 21 (by decide) rfl rfl (by decide) rfl 7 (by decide) (hts (.fieldLink RX9 28 "JoinMapsModel" "made" "[I") (List.mem_cons_of_mem _ (List.mem_append_left _ (List.mem_append_left _ (List.mem_of_getElem? (i := 4) rfl))))) rfl rfl rfl dX9_sets_127 ?_
            refine lv_iload_n hx hb dX9_sets_130 rfl (lv_at hl 2 rfl) ?_
            refine lv_iload_n hx hb dX9_sets_131 rfl (lv_at hl 3 rfl) ?_
            refine lv_iload hx hb dX9_sets_132 (lv_at hl 4 rfl) ?_
            obtain ⟨hR50, h⟩ := h
            refine call_i (run_S (As := [.int (iI (v3)), .int (iI (v4))]) (rest := [.int (iI (v2)), .ref (ea E 28)]) ⟨hx, hb, hml, hown, hts⟩ (ctX9_entry l E v3 v4 sL _ hR50 hR46 h) (va_cwS 2 hts gX9_sets_X9_entry rfl rfl rfl hdX9_entry ⟨Nat.le_of_ble_eq_true rfl, Nat.le_of_ble_eq_true rfl⟩) hK hN hg rfl hl.1 rfl (cat_sum _ (by simp)) dX9_sets_134 ⟨Nat.le_refl 0, Nat.le_refl 0⟩) hg (fun r52 s51 H locs hz53 hm2 h hg => ?_)
            have hm := hm.tn hm2
            obtain ⟨hP54, hP55, h⟩ := h
            refine q_iast (N := 201) hx hb hK hg 28 (by decide) rfl rfl hP54 hP55 (by decide) hz53 dX9_sets_137 (fun H locs hg => ?_)
            refine lv_iinc (v := iI (v2 + 1)) (lv' := [(2, .int (iI (v2 + 1))), (0, .ref (ea E 21)), (1, .int (iI (a1))), (3, .int (iI (v3))), (4, .int (iI (v4))), (5, .int (iI (v5)))]) hx hb dX9_sets_138 hl (k := 2) rfl (iI_add _ _) (by decide) rfl (fun ls hl => ?_)
            refine lv_iinc (v := iI (v3 + 1)) (lv' := [(3, .int (iI (v3 + 1))), (2, .int (iI (v2 + 1))), (0, .ref (ea E 21)), (1, .int (iI (a1))), (4, .int (iI (v4))), (5, .int (iI (v5)))]) hx hb dX9_sets_141 hl (k := 3) rfl (iI_add _ _) (by decide) rfl (fun ls hl => ?_)
            refine lv_goto (tgt := 50) hx hb dX9_sets_144 (by decide) ?_
            exact hK50 (v2 + 1) (v3 + 1) (un s51 28 (v2 : Int).toNat (r52)) _ _ _ hg hm (lv_sub hl [2, 3, 1, 0] rfl) h
      · have h := h.2 c45
        refine lv_aload_n hx hb dX9_sets_74 rfl (lv_at hl 0 rfl) ?_
        refine q_getx (ci := 9) (C := RX9) (T := TX9) (N := 27) (j := 38) hx hb hts (fun _ h9 => List.mem_cons_of_mem _ (List.mem_append_right _ h9)) hown hK hg 21 (by decide) rfl rfl (by decide) rfl 23 (by decide) (hts (.fieldLink RX9 58 "JoinMapsModel" "places" "[I") (List.mem_cons_of_mem _ (List.mem_append_left _ (List.mem_append_left _ (List.mem_of_getElem? (i := 0) rfl))))) rfl rfl rfl dX9_sets_75 ?_
        refine lv_iload hx hb dX9_sets_78 (lv_at hl 5 rfl) ?_
        refine lv_dup2_11 hx hb dX9_sets_80 rfl rfl ?_
        obtain ⟨hP56, hP57, h⟩ := h
        refine q_iald (N := 6) hx hb hK hg 38 (by decide) rfl rfl hP56 hP57 (by decide) dX9_sets_81 ?_
        have hR58 := GS_R hg 38 (v5 : Int).toNat
        refine lv_aload_n hx hb dX9_sets_82 rfl (lv_at hl 0 rfl) ?_
        refine lv_iload hx hb dX9_sets_83 (lv_at hl 5 rfl) ?_
        refine lv_aload_n hx hb dX9_sets_85 rfl (lv_at hl 0 rfl) ?_
        refine q_getx (ci := 9) (C := RX9) (T := TX9) (N := 27) (j := 38) hx hb hts (fun _ h9 => List.mem_cons_of_mem _ (List.mem_append_right _ h9)) hown hK hg 21 (by decide) rfl rfl (by decide) rfl 23 (by decide) (hts (.fieldLink RX9 58 "JoinMapsModel" "places" "[I") (List.mem_cons_of_mem _ (List.mem_append_left _ (List.mem_append_left _ (List.mem_of_getElem? (i := 0) rfl))))) rfl rfl rfl dX9_sets_86 ?_
        refine lv_iload hx hb dX9_sets_89 (lv_at hl 5 rfl) ?_
        obtain ⟨hP59, hP60, h⟩ := h
        refine q_iald (N := 6) hx hb hK hg 38 (by decide) rfl rfl hP59 hP60 (by decide) dX9_sets_91 ?_
        have hR61 := GS_R hg 38 (v5 : Int).toNat
        refine lv_iload_n hx hb dX9_sets_92 rfl (lv_at hl 3 rfl) ?_
        obtain ⟨hR62, h⟩ := h
        refine call_z (run_V (a := ea E 21) (As := [.int (iI (v5)), .int (iI ((sn sL 38 (v5 : Int).toNat))), .int (iI (v3))]) (rest := [.int (iI ((sn sL 38 (v5 : Int).toNat))), .int (iI (v5)), .ref (ea E 38)]) ⟨hx, hb, hml, hown, hts⟩ (ctX9_isThere l E v5 (sn sL 38 (v5 : Int).toNat) v3 sL _ hR44 hR61 hR62 h) (cwV 3 hts gX9_sets_X9_isThere rfl rfl rfl ⟨rfl, hdX9_isThere⟩ ⟨Nat.le_of_ble_eq_true rfl, Nat.le_of_ble_eq_true rfl⟩) hK hN hg (recv_x (ci := 9) (C := RX9) (T := TX9) (N := 27) hg hK (by decide) rfl (by decide) rfl) rfl hl.1 rfl (cat_sum _ (by simp)) dX9_sets_93 ⟨Nat.le_refl 0, Nat.le_refl 0⟩) hg (fun r64 s63 H locs hz65 hm2 h hg => ?_)
        have hm := hm.tn hm2
        refine k_eq (tgt := 103) hx hb dX9_sets_96 (by decide) (z_R hz65) (fun c66 => ?_) (fun c66 => ?_)
        · have h := h.1 c66
          refine lv_iconst (v := iI 0) hx hb dX9_sets_103 (by decide) ?_
          refine q_iadd hx hb dX9_sets_104 ?_
          obtain ⟨hP67, hP68, hR69, h⟩ := h
          refine q_iast (N := 6) hx hb hK hg 38 (by decide) rfl rfl hP67 hP68 (by decide) hR69 dX9_sets_105 (fun H locs hg => ?_)
          refine lv_iinc (v := iI (v5 + 1)) (lv' := [(5, .int (iI (v5 + 1))), (0, .ref (ea E 21)), (1, .int (iI (a1))), (2, .int (iI (v2))), (3, .int (iI (v3))), (4, .int (iI (v4)))]) hx hb dX9_sets_106 hl (k := 5) rfl (iI_add _ _) (by decide) rfl (fun ls hl => ?_)
          refine lv_goto (tgt := 67) hx hb dX9_sets_109 (by decide) ?_
          exact ih (v2) (v3) (v4) (v5 + 1) (un s63 38 (v5 : Int).toNat (((sn sL 38 (v5 : Int).toNat) + 0))) _ _ _ hg hm (lv_sub hl [1, 2, 3, 4, 5, 0] rfl) h
        · have h := h.2 c66
          refine lv_iconst (v := iI 1) hx hb dX9_sets_99 (by decide) ?_
          refine lv_goto (tgt := 104) hx hb dX9_sets_100 (by decide) ?_
          refine q_iadd hx hb dX9_sets_104 ?_
          obtain ⟨hP70, hP71, hR72, h⟩ := h
          refine q_iast (N := 6) hx hb hK hg 38 (by decide) rfl rfl hP70 hP71 (by decide) hR72 dX9_sets_105 (fun H locs hg => ?_)
          refine lv_iinc (v := iI (v5 + 1)) (lv' := [(5, .int (iI (v5 + 1))), (0, .ref (ea E 21)), (1, .int (iI (a1))), (2, .int (iI (v2))), (3, .int (iI (v3))), (4, .int (iI (v4)))]) hx hb dX9_sets_106 hl (k := 5) rfl (iI_add _ _) (by decide) rfl (fun ls hl => ?_)
          refine lv_goto (tgt := 67) hx hb dX9_sets_109 (by decide) ?_
          exact ih (v2) (v3) (v4) (v5 + 1) (un s63 38 (v5 : Int).toNat (((sn sL 38 (v5 : Int).toNat) + 1))) _ _ _ hg hm (lv_sub hl [1, 2, 3, 4, 5, 0] rfl) h
  have J50 : ∀ (k : Nat), ∀ (v2 : Int) (v3 : Int) (sL : SS) (H : Heap) (locs : List Loc) (ls : Array Slot), GS E sL s H locs → Mo (sz σ) σ sL → lv_has ls 6 [(0, .ref (ea E 21)), (1, .int (iI (a1))), (2, .int (iI (v2))), (3, .int (iI (v3)))] → wX9_sets_L50 a1 Q  k v2 v3 sL → W p l e (headSpec wsX9_sets ({ frames := 4, cells := 0, slots := 0, locals := 90 } : Room)).room s m (List.toArray [.ref (ea E 21), .int (iI (a1))]) below meth c H locs 0 0 (MQ below (Qz E (sz σ) σ Q) (List.toArray [.ref (ea E 21), .int (iI (a1))]) s 0 0 (Av E)) (F0 m 50 ls []) := by
    intro k
    induction k with
    | zero => intro v2 v3 sL H locs ls hg hm hl h; exact False.elim h
    | succ k ih =>
      intro v2 v3 sL H locs ls hg hm hl h
      rw [wX9_sets_L50] at h
      refine lv_iload_n hx hb dX9_sets_50 rfl (lv_at hl 3 rfl) ?_
      refine lv_sipush (v := iI 500) hx hb dX9_sets_51 (by decide) ?_
      obtain ⟨hR10, h⟩ := h
      refine j_gt (tgt := 147) hx hb dX9_sets_54 (by decide) hR10 (by decide) (fun c11 => ?_) (fun c11 => ?_)
      · have h := h.1 c11
        refine lv_iconst (v := iI 1) hx hb dX9_sets_147 (by decide) ?_
        refine lv_istore_n (i := 3) (lv' := [(3, .int (iI (1))), (0, .ref (ea E 21)), (1, .int (iI (a1))), (2, .int (iI (v2)))]) hx hb dX9_sets_148 rfl hl (by decide) rfl (fun ls hl => ?_)
        refine lv_iconst (v := iI 0) hx hb dX9_sets_149 (by decide) ?_
        refine lv_istore (i := 4) (lv' := [(4, .int (iI (0))), (3, .int (iI (1))), (0, .ref (ea E 21)), (1, .int (iI (a1))), (2, .int (iI (v2)))]) hx hb dX9_sets_150 hl (by decide) rfl (fun ls hl => ?_)
        obtain ⟨kk, h⟩ := h
        exact J152  kk (v2) (1) (0) (sL) _ _ _ hg hm (lv_sub hl [2, 3, 4, 1, 0] rfl) h
      · have h := h.2 c11
        refine lv_aload_n hx hb dX9_sets_57 rfl (lv_at hl 0 rfl) ?_
        refine lv_iload_n hx hb dX9_sets_58 rfl (lv_at hl 3 rfl) ?_
        refine call_i (run_V (a := ea E 21) (As := [.int (iI (v3))]) (rest := []) ⟨hx, hb, hml, hown, hts⟩ (ctX9_termAt l E v3 sL _ hR10 h) (cwV 1 hts gX9_sets_X9_termAt rfl rfl rfl ⟨rfl, hdX9_termAt⟩ ⟨Nat.le_of_ble_eq_true rfl, Nat.le_of_ble_eq_true rfl⟩) hK hN hg (recv_x (ci := 9) (C := RX9) (T := TX9) (N := 27) hg hK (by decide) rfl (by decide) rfl) rfl hl.1 rfl (cat_sum _ (by simp)) dX9_sets_59 ⟨Nat.le_refl 0, Nat.le_refl 0⟩) hg (fun r13 s12 H locs hz14 hm2 h hg => ?_)
        have hm := hm.tn hm2
        refine lv_istore (i := 4) (lv' := [(4, .int (iI (r13))), (0, .ref (ea E 21)), (1, .int (iI (a1))), (2, .int (iI (v2))), (3, .int (iI (v3)))]) hx hb dX9_sets_62 hl (by decide) rfl (fun ls hl => ?_)
        refine lv_iconst (v := iI 0) hx hb dX9_sets_64 (by decide) ?_
        refine lv_istore (i := 5) (lv' := [(5, .int (iI (0))), (4, .int (iI (r13))), (0, .ref (ea E 21)), (1, .int (iI (a1))), (2, .int (iI (v2))), (3, .int (iI (v3)))]) hx hb dX9_sets_65 hl (by decide) rfl (fun ls hl => ?_)
        obtain ⟨kk, h⟩ := h
        exact J67 _ ih kk (v2) (v3) (r13) (0) (s12) _ _ _ hg hm (lv_sub hl [2, 3, 4, 5, 1, 0] rfl) h
  have J23 : ∀ (k : Nat), ∀ (v2 : Int) (sL : SS) (H : Heap) (locs : List Loc) (ls : Array Slot), GS E sL s H locs → Mo (sz σ) σ sL → lv_has ls 6 [(0, .ref (ea E 21)), (1, .int (iI (a1))), (2, .int (iI (v2)))] → wX9_sets_L23 a1 Q  k v2 sL → W p l e (headSpec wsX9_sets ({ frames := 4, cells := 0, slots := 0, locals := 90 } : Room)).room s m (List.toArray [.ref (ea E 21), .int (iI (a1))]) below meth c H locs 0 0 (MQ below (Qz E (sz σ) σ Q) (List.toArray [.ref (ea E 21), .int (iI (a1))]) s 0 0 (Av E)) (F0 m 23 ls []) := by
    intro k
    induction k with
    | zero => intro v2 sL H locs ls hg hm hl h; exact False.elim h
    | succ k ih =>
      intro v2 sL H locs ls hg hm hl h
      rw [wX9_sets_L23] at h
      refine lv_iload_n hx hb dX9_sets_23 rfl (lv_at hl 2 rfl) ?_
      refine lv_aload_n hx hb dX9_sets_24 rfl (lv_at hl 0 rfl) ?_
      refine q_geti (ci := 9) (C := RX9) (T := TX9) (N := 27) hx hb hts (fun _ h9 => List.mem_cons_of_mem _ (List.mem_append_right _ h9)) hown hK hg 21 (by decide) rfl rfl (by decide) rfl 13 (by decide) (hts (.fieldLink RX9 236 "JoinMapsModel" "many" "I") (List.mem_cons_of_mem _ (List.mem_append_left _ (List.mem_append_left _ (List.mem_of_getElem? (i := 1) rfl))))) rfl rfl dX9_sets_25 ?_
      have hR5 := GS_R hg 21 13
      obtain ⟨hR6, h⟩ := h
      refine j_ge (tgt := 44) hx hb dX9_sets_28 (by decide) hR6 hR5 (fun c7 => ?_) (fun c7 => ?_)
      · have h := h.1 c7
        refine lv_iconst (v := iI 0) hx hb dX9_sets_44 (by decide) ?_
        refine lv_istore_n (i := 2) (lv' := [(2, .int (iI (0))), (0, .ref (ea E 21)), (1, .int (iI (a1)))]) hx hb dX9_sets_45 rfl hl (by decide) rfl (fun ls hl => ?_)
        refine lv_sipush (v := iI (-500)) hx hb dX9_sets_46 (by decide) ?_
        refine lv_istore_n (i := 3) (lv' := [(3, .int (iI ((-500)))), (2, .int (iI (0))), (0, .ref (ea E 21)), (1, .int (iI (a1)))]) hx hb dX9_sets_49 rfl hl (by decide) rfl (fun ls hl => ?_)
        obtain ⟨kk, h⟩ := h
        exact J50  kk (0) ((-500)) (sL) _ _ _ hg hm (lv_sub hl [2, 3, 1, 0] rfl) h
      · have h := h.2 c7
        refine lv_aload_n hx hb dX9_sets_31 rfl (lv_at hl 0 rfl) ?_
        refine q_getx (ci := 9) (C := RX9) (T := TX9) (N := 27) (j := 37) hx hb hts (fun _ h9 => List.mem_cons_of_mem _ (List.mem_append_right _ h9)) hown hK hg 21 (by decide) rfl rfl (by decide) rfl 22 (by decide) (hts (.fieldLink RX9 55 "JoinMapsModel" "counts" "[I") (List.mem_cons_of_mem _ (List.mem_append_left _ (List.mem_append_left _ (List.mem_of_getElem? (i := 2) rfl))))) rfl rfl rfl dX9_sets_32 ?_
        refine lv_iload_n hx hb dX9_sets_35 rfl (lv_at hl 2 rfl) ?_
        refine lv_iconst (v := iI 0) hx hb dX9_sets_36 (by decide) ?_
        obtain ⟨hP8, hP9, h⟩ := h
        refine q_iast (N := 130) hx hb hK hg 37 (by decide) rfl rfl hP8 hP9 (by decide) (by decide) dX9_sets_37 (fun H locs hg => ?_)
        refine lv_iinc (v := iI (v2 + 1)) (lv' := [(2, .int (iI (v2 + 1))), (0, .ref (ea E 21)), (1, .int (iI (a1)))]) hx hb dX9_sets_38 hl (k := 2) rfl (iI_add _ _) (by decide) rfl (fun ls hl => ?_)
        refine lv_goto (tgt := 23) hx hb dX9_sets_41 (by decide) ?_
        exact ih (v2 + 1) (un sL 37 (v2 : Int).toNat (0)) _ _ _ hg hm (lv_sub hl [1, 2, 0] rfl) h
  have J2 : ∀ (k : Nat), ∀ (v2 : Int) (sL : SS) (H : Heap) (locs : List Loc) (ls : Array Slot), GS E sL s H locs → Mo (sz σ) σ sL → lv_has ls 6 [(0, .ref (ea E 21)), (1, .int (iI (a1))), (2, .int (iI (v2)))] → wX9_sets_L2 a1 Q  k v2 sL → W p l e (headSpec wsX9_sets ({ frames := 4, cells := 0, slots := 0, locals := 90 } : Room)).room s m (List.toArray [.ref (ea E 21), .int (iI (a1))]) below meth c H locs 0 0 (MQ below (Qz E (sz σ) σ Q) (List.toArray [.ref (ea E 21), .int (iI (a1))]) s 0 0 (Av E)) (F0 m 2 ls []) := by
    intro k
    induction k with
    | zero => intro v2 sL H locs ls hg hm hl h; exact False.elim h
    | succ k ih =>
      intro v2 sL H locs ls hg hm hl h
      rw [wX9_sets_L2] at h
      refine lv_iload_n hx hb dX9_sets_2 rfl (lv_at hl 2 rfl) ?_
      refine lv_bipush (v := iI 6) hx hb dX9_sets_3 (by decide) ?_
      obtain ⟨hR1, h⟩ := h
      refine j_ge (tgt := 21) hx hb dX9_sets_5 (by decide) hR1 (by decide) (fun c2 => ?_) (fun c2 => ?_)
      · have h := h.1 c2
        refine lv_iconst (v := iI 0) hx hb dX9_sets_21 (by decide) ?_
        refine lv_istore_n (i := 2) (lv' := [(2, .int (iI (0))), (0, .ref (ea E 21)), (1, .int (iI (a1)))]) hx hb dX9_sets_22 rfl hl (by decide) rfl (fun ls hl => ?_)
        obtain ⟨kk, h⟩ := h
        exact J23  kk (0) (sL) _ _ _ hg hm (lv_sub hl [1, 2, 0] rfl) h
      · have h := h.2 c2
        refine lv_aload_n hx hb dX9_sets_8 rfl (lv_at hl 0 rfl) ?_
        refine q_getx (ci := 9) (C := RX9) (T := TX9) (N := 27) (j := 38) hx hb hts (fun _ h9 => List.mem_cons_of_mem _ (List.mem_append_right _ h9)) hown hK hg 21 (by decide) rfl rfl (by decide) rfl 23 (by decide) (hts (.fieldLink RX9 58 "JoinMapsModel" "places" "[I") (List.mem_cons_of_mem _ (List.mem_append_left _ (List.mem_append_left _ (List.mem_of_getElem? (i := 0) rfl))))) rfl rfl rfl dX9_sets_9 ?_
        refine lv_iload_n hx hb dX9_sets_12 rfl (lv_at hl 2 rfl) ?_
        refine lv_iconst (v := iI 0) hx hb dX9_sets_13 (by decide) ?_
        obtain ⟨hP3, hP4, h⟩ := h
        refine q_iast (N := 6) hx hb hK hg 38 (by decide) rfl rfl hP3 hP4 (by decide) (by decide) dX9_sets_14 (fun H locs hg => ?_)
        refine lv_iinc (v := iI (v2 + 1)) (lv' := [(2, .int (iI (v2 + 1))), (0, .ref (ea E 21)), (1, .int (iI (a1)))]) hx hb dX9_sets_15 hl (k := 2) rfl (iI_add _ _) (by decide) rfl (fun ls hl => ?_)
        refine lv_goto (tgt := 2) hx hb dX9_sets_18 (by decide) ?_
        exact ih (v2 + 1) (un sL 38 (v2 : Int).toNat (0)) _ _ _ hg hm (lv_sub hl [1, 2, 0] rfl) h
  refine lv_iconst (v := iI 0) hx hb dX9_sets_0 (by decide) ?_
  refine lv_istore_n (i := 2) (lv' := [(2, .int (iI (0))), (0, .ref (ea E 21)), (1, .int (iI (a1)))]) hx hb dX9_sets_1 rfl hl (by decide) rfl (fun ls hl => ?_)
  obtain ⟨kk, h⟩ := h
  exact J2  kk (0) (σ) _ _ _ hg hm (lv_sub hl [1, 2, 0] rfl) h
theorem hdX9_goesThrough : yX9_goesThrough.cls ≠ "java/lang/invoke/MethodHandle" ∧ yX9_goesThrough.cls ≠ "java/lang/invoke/VarHandle" ∧ (parseMethodDescriptor yX9_goesThrough.desc).map (fun d => d.parameters.length) = some 1 := by decide +kernel
set_option maxRecDepth 100000 in
set_option maxHeartbeats 4000000 in
theorem ctX9_goesThrough (l : Launch) (E : Ev) (a1 : Int) (σ : SS) (Q : Int → SS → Prop) (ha1 : R32 a1) (h : wX9_goesThrough a1 σ Q) : Met l yX9_goesThrough wsX9_goesThrough ({ frames := 5, cells := 0, slots := 0, locals := 115 } : Room) (Pc E σ [.ref (ea E 21), .int (iI (a1))]) (Qi E (sz σ) σ Q) 0 0 (Av E) := by
  rw [wX9_goesThrough] at h
  refine Met.ofW (cc := cX9_goesThrough) (maxL := 3) (ret := (some .int)) (by decide) rfl ?_
  intro p e s m args below meth c s₁ B hml hv
  obtain ⟨rfl, hH, hK, hN⟩ := hv
  have hx := B.exec
  have hb := B.bytes
  have hr := B.returns
  have hts := atoms_spec (ws := wsX9_goesThrough) B.pre
  have hown : s.vm.findClass RX9 = some m.cls := findClass_of_methodNamed B.named
  have hlocks := B.notSynchronized
  have hg : GS E σ s s.heap [] := ⟨hH, va_S.rf⟩
  have hm : Mo (sz σ) σ σ := Mo.rf (Nat.le_refl _)
  have hl := ent (vs := [.ref (ea E 21), .int (iI (a1))]) (n := 3) (cats_x (cats_i cats_nil)) (Nat.le_of_ble_eq_true rfl)
  rw [lg_entry_eq]
  generalize (lg_sl ([.ref (ea E 21), .int (iI (a1))]) ++ List.replicate (3 - (lg_sl ([.ref (ea E 21), .int (iI (a1))])).length) Slot.unset).toArray = ls at hl ⊢
  have hl : lv_has ls 3 [(0, .ref (ea E 21)), (1, .int (iI (a1)))] := hl
  have J32 : ∀ (K14 : SS → Prop) (hK14 : ∀ (sL : SS) (H : Heap) (locs : List Loc) (ls : Array Slot), GS E sL s H locs → Mo (sz σ) σ sL → lv_has ls 3 [(0, .ref (ea E 21)), (1, .int (iI (a1)))] → K14  sL → W p l e (headSpec wsX9_goesThrough ({ frames := 5, cells := 0, slots := 0, locals := 115 } : Room)).room s m (List.toArray [.ref (ea E 21), .int (iI (a1))]) below meth c H locs 0 0 (MQ below (Qi E (sz σ) σ Q) (List.toArray [.ref (ea E 21), .int (iI (a1))]) s 0 0 (Av E)) (F0 m 14 ls [])), ∀ (sL : SS) (H : Heap) (locs : List Loc) (ls : Array Slot), GS E sL s H locs → Mo (sz σ) σ sL → lv_has ls 3 [(0, .ref (ea E 21)), (1, .int (iI (a1)))] → wX9_goesThrough_L32 a1 Q K14  sL → W p l e (headSpec wsX9_goesThrough ({ frames := 5, cells := 0, slots := 0, locals := 115 } : Room)).room s m (List.toArray [.ref (ea E 21), .int (iI (a1))]) below meth c H locs 0 0 (MQ below (Qi E (sz σ) σ Q) (List.toArray [.ref (ea E 21), .int (iI (a1))]) s 0 0 (Av E)) (F0 m 32 ls []) := by
    intro K14 hK14 sL H locs ls hg hm hl h
    rw [wX9_goesThrough_L32] at h
    refine lv_aload_n hx hb dX9_goesThrough_32 rfl (lv_at hl 0 rfl) ?_
    refine lv_aload_n hx hb dX9_goesThrough_33 rfl (lv_at hl 0 rfl) ?_
    refine q_geti (ci := 9) (C := RX9) (T := TX9) (N := 27) hx hb hts (fun _ h9 => List.mem_cons_of_mem _ (List.mem_append_right _ h9)) hown hK hg 21 (by decide) rfl rfl (by decide) rfl 24 (by decide) (hts (.fieldLink RX9 207 "JoinMapsModel" "at" "I") (List.mem_cons_of_mem _ (List.mem_append_left _ (List.mem_append_left _ (List.mem_of_getElem? (i := 0) rfl))))) rfl rfl dX9_goesThrough_34 ?_
    have hR9 := GS_R hg 21 24
    refine call_i (run_V (a := ea E 21) (As := [.int (iI ((sn sL 21 24)))]) (rest := []) ⟨hx, hb, hml, hown, hts⟩ (ctX9_byteAt l E (sn sL 21 24) sL _ hR9 h) (cwV 1 hts gX9_goesThrough_X9_byteAt rfl rfl rfl ⟨rfl, hdX9_byteAt⟩ ⟨Nat.le_of_ble_eq_true rfl, Nat.le_of_ble_eq_true rfl⟩) hK hN hg (recv_x (ci := 9) (C := RX9) (T := TX9) (N := 27) hg hK (by decide) rfl (by decide) rfl) rfl hl.1 rfl (cat_sum _ (by simp)) dX9_goesThrough_37 ⟨Nat.le_refl 0, Nat.le_refl 0⟩) hg (fun r11 s10 H locs hz12 hm2 h hg => ?_)
    have hm := hm.tn hm2
    refine lv_istore_n (i := 2) (lv' := [(2, .int (iI (r11))), (0, .ref (ea E 21)), (1, .int (iI (a1)))]) hx hb dX9_goesThrough_40 rfl hl (by decide) rfl (fun ls hl => ?_)
    refine lv_iload_n hx hb dX9_goesThrough_41 rfl (lv_at hl 0 rfl) ?_
    refine q_i2l hx hb hz12 dX9_goesThrough_42 ?_
    refine q_ldc2 (z := 97) hx hb hown (hts (.constantLong RX9 245 (97)) (List.mem_cons_of_mem _ (List.mem_append_left _ (List.mem_append_left _ (List.mem_of_getElem? (i := 3) rfl))))) (by decide) dX9_goesThrough_43 ?_
    refine q_ldc2 (z := 102) hx hb hown (hts (.constantLong RX9 247 (102)) (List.mem_cons_of_mem _ (List.mem_append_left _ (List.mem_append_left _ (List.mem_of_getElem? (i := 4) rfl))))) (by decide) dX9_goesThrough_46 ?_
    refine call_z (run_S (As := [.long (lI (r11)), .long (lI (97)), .long (lI (102))]) (rest := []) ⟨hx, hb, hml, hown, hts⟩ (ctX9_in l E r11 97 102 s10 _ (R64_of hz12) (by decide) (by decide) h) (va_cwS 3 hts gX9_goesThrough_X9_in rfl rfl rfl hdX9_in ⟨Nat.le_of_ble_eq_true rfl, Nat.le_of_ble_eq_true rfl⟩) hK hN hg rfl hl.1 rfl (cat_sum _ (by simp)) dX9_goesThrough_49 ⟨Nat.le_refl 0, Nat.le_refl 0⟩) hg (fun r14 s13 H locs hz15 hm2 h hg => ?_)
    have hm := hm.tn hm2
    refine k_ne (tgt := 60) hx hb dX9_goesThrough_52 (by decide) (z_R hz15) (fun c16 => ?_) (fun c16 => ?_)
    · have h := h.1 c16
      refine lv_aload_n hx hb dX9_goesThrough_60 rfl (lv_at hl 1 rfl) ?_
      refine lv_dup hx hb dX9_goesThrough_61 rfl ?_
      refine q_geti (ci := 9) (C := RX9) (T := TX9) (N := 27) hx hb hts (fun _ h9 => List.mem_cons_of_mem _ (List.mem_append_right _ h9)) hown hK hg 21 (by decide) rfl rfl (by decide) rfl 24 (by decide) (hts (.fieldLink RX9 207 "JoinMapsModel" "at" "I") (List.mem_cons_of_mem _ (List.mem_append_left _ (List.mem_append_left _ (List.mem_of_getElem? (i := 0) rfl))))) rfl rfl dX9_goesThrough_62 ?_
      have hR17 := GS_R hg 21 24
      refine lv_iconst (v := iI 1) hx hb dX9_goesThrough_65 (by decide) ?_
      refine q_iadd hx hb dX9_goesThrough_66 ?_
      obtain ⟨hR18, h⟩ := h
      refine q_puti (ci := 9) (C := RX9) (T := TX9) (N := 27) hx hb hts (fun _ h9 => List.mem_cons_of_mem _ (List.mem_append_right _ h9)) tyX9 tyX9_ok nmX9 hown hK hg 21 (by decide) rfl rfl (by decide) rfl 24 (by decide) (hts (.fieldLink RX9 207 "JoinMapsModel" "at" "I") (List.mem_cons_of_mem _ (List.mem_append_left _ (List.mem_append_left _ (List.mem_of_getElem? (i := 0) rfl))))) rfl rfl (by decide +kernel) rfl hR18 dX9_goesThrough_67 (fun H locs hg => ?_)
      refine lv_aload_n hx hb dX9_goesThrough_70 rfl (lv_at hl 1 rfl) ?_
      refine call_v (run_V (a := ea E 21) (As := []) (rest := []) ⟨hx, hb, hml, hown, hts⟩ (ctX9_skips l E  (un s13 21 24 (((sn s13 21 24) + 1))) _  h) (cwV 0 hts gX9_goesThrough_X9_skips rfl rfl rfl ⟨rfl, hdX9_skips⟩ ⟨Nat.le_of_ble_eq_true rfl, Nat.le_of_ble_eq_true rfl⟩) hK hN hg (recv_x (ci := 9) (C := RX9) (T := TX9) (N := 27) hg hK (by decide) rfl (by decide) rfl) rfl hl.1 rfl (cat_sum _ (by simp)) dX9_goesThrough_71 ⟨Nat.le_refl 0, Nat.le_refl 0⟩) hg (fun s19 H locs hm2 h hg => ?_)
      have hm := hm.tn hm2
      refine lv_aload_n hx hb dX9_goesThrough_74 rfl (lv_at hl 1 rfl) ?_
      refine lv_aload_n hx hb dX9_goesThrough_75 rfl (lv_at hl 1 rfl) ?_
      refine q_geti (ci := 9) (C := RX9) (T := TX9) (N := 27) hx hb hts (fun _ h9 => List.mem_cons_of_mem _ (List.mem_append_right _ h9)) hown hK hg 21 (by decide) rfl rfl (by decide) rfl 24 (by decide) (hts (.fieldLink RX9 207 "JoinMapsModel" "at" "I") (List.mem_cons_of_mem _ (List.mem_append_left _ (List.mem_append_left _ (List.mem_of_getElem? (i := 0) rfl))))) rfl rfl dX9_goesThrough_76 ?_
      have hR22 := GS_R hg 21 24
      refine call_i (run_V (a := ea E 21) (As := [.int (iI ((sn s19 21 24)))]) (rest := []) ⟨hx, hb, hml, hown, hts⟩ (ctX9_byteAt l E (sn s19 21 24) s19 _ hR22 h) (cwV 1 hts gX9_goesThrough_X9_byteAt rfl rfl rfl ⟨rfl, hdX9_byteAt⟩ ⟨Nat.le_of_ble_eq_true rfl, Nat.le_of_ble_eq_true rfl⟩) hK hN hg (recv_x (ci := 9) (C := RX9) (T := TX9) (N := 27) hg hK (by decide) rfl (by decide) rfl) rfl hl.1 rfl (cat_sum _ (by simp)) dX9_goesThrough_79 ⟨Nat.le_refl 0, Nat.le_refl 0⟩) hg (fun r24 s23 H locs hz25 hm2 h hg => ?_)
      have hm := hm.tn hm2
      refine lv_bipush (v := iI 61) hx hb dX9_goesThrough_82 (by decide) ?_
      refine j_eq (tgt := 92) hx hb dX9_goesThrough_84 (by decide) hz25 (by decide) (fun c26 => ?_) (fun c26 => ?_)
      · have h := h.1 c26
        refine lv_aload_n hx hb dX9_goesThrough_92 rfl (lv_at hl 1 rfl) ?_
        refine lv_dup hx hb dX9_goesThrough_93 rfl ?_
        refine q_geti (ci := 9) (C := RX9) (T := TX9) (N := 27) hx hb hts (fun _ h9 => List.mem_cons_of_mem _ (List.mem_append_right _ h9)) hown hK hg 21 (by decide) rfl rfl (by decide) rfl 24 (by decide) (hts (.fieldLink RX9 207 "JoinMapsModel" "at" "I") (List.mem_cons_of_mem _ (List.mem_append_left _ (List.mem_append_left _ (List.mem_of_getElem? (i := 0) rfl))))) rfl rfl dX9_goesThrough_94 ?_
        have hR27 := GS_R hg 21 24
        refine lv_iconst (v := iI 1) hx hb dX9_goesThrough_97 (by decide) ?_
        refine q_iadd hx hb dX9_goesThrough_98 ?_
        obtain ⟨hR28, h⟩ := h
        refine q_puti (ci := 9) (C := RX9) (T := TX9) (N := 27) hx hb hts (fun _ h9 => List.mem_cons_of_mem _ (List.mem_append_right _ h9)) tyX9 tyX9_ok nmX9 hown hK hg 21 (by decide) rfl rfl (by decide) rfl 24 (by decide) (hts (.fieldLink RX9 207 "JoinMapsModel" "at" "I") (List.mem_cons_of_mem _ (List.mem_append_left _ (List.mem_append_left _ (List.mem_of_getElem? (i := 0) rfl))))) rfl rfl (by decide +kernel) rfl hR28 dX9_goesThrough_99 (fun H locs hg => ?_)
        refine lv_aload_n hx hb dX9_goesThrough_102 rfl (lv_at hl 1 rfl) ?_
        refine call_z (run_V (a := ea E 21) (As := []) (rest := []) ⟨hx, hb, hml, hown, hts⟩ (ctX9_readsTerm l E  (un s23 21 24 (((sn s23 21 24) + 1))) _  h) (cwV 0 hts gX9_goesThrough_X9_readsTerm rfl rfl rfl ⟨rfl, hdX9_readsTerm⟩ ⟨Nat.le_of_ble_eq_true rfl, Nat.le_of_ble_eq_true rfl⟩) hK hN hg (recv_x (ci := 9) (C := RX9) (T := TX9) (N := 27) hg hK (by decide) rfl (by decide) rfl) rfl hl.1 rfl (cat_sum _ (by simp)) dX9_goesThrough_103 ⟨Nat.le_refl 0, Nat.le_refl 0⟩) hg (fun r30 s29 H locs hz31 hm2 h hg => ?_)
        have hm := hm.tn hm2
        refine k_ne (tgt := 114) hx hb dX9_goesThrough_106 (by decide) (z_R hz31) (fun c32 => ?_) (fun c32 => ?_)
        · have h := h.1 c32
          refine lv_iload_n hx hb dX9_goesThrough_114 rfl (lv_at hl 2 rfl) ?_
          refine k_eq (tgt := 132) hx hb dX9_goesThrough_115 (by decide) ha1 (fun c33 => ?_) (fun c33 => ?_)
          · have h := h.1 c33
            refine lv_aload_n hx hb dX9_goesThrough_132 rfl (lv_at hl 1 rfl) ?_
            refine lv_dup hx hb dX9_goesThrough_133 rfl ?_
            refine q_geti (ci := 9) (C := RX9) (T := TX9) (N := 27) hx hb hts (fun _ h9 => List.mem_cons_of_mem _ (List.mem_append_right _ h9)) hown hK hg 21 (by decide) rfl rfl (by decide) rfl 25 (by decide) (hts (.fieldLink RX9 262 "JoinMapsModel" "sums" "I") (List.mem_cons_of_mem _ (List.mem_append_left _ (List.mem_append_left _ (List.mem_of_getElem? (i := 1) rfl))))) rfl rfl dX9_goesThrough_134 ?_
            have hR34 := GS_R hg 21 25
            refine lv_iconst (v := iI 1) hx hb dX9_goesThrough_137 (by decide) ?_
            refine q_iadd hx hb dX9_goesThrough_138 ?_
            obtain ⟨hR35, h⟩ := h
            refine q_puti (ci := 9) (C := RX9) (T := TX9) (N := 27) hx hb hts (fun _ h9 => List.mem_cons_of_mem _ (List.mem_append_right _ h9)) tyX9 tyX9_ok nmX9 hown hK hg 21 (by decide) rfl rfl (by decide) rfl 25 (by decide) (hts (.fieldLink RX9 262 "JoinMapsModel" "sums" "I") (List.mem_cons_of_mem _ (List.mem_append_left _ (List.mem_append_left _ (List.mem_of_getElem? (i := 1) rfl))))) rfl rfl (by decide +kernel) rfl hR35 dX9_goesThrough_139 (fun H locs hg => ?_)
            refine lv_aload_n hx hb dX9_goesThrough_142 rfl (lv_at hl 1 rfl) ?_
            refine call_v (run_V (a := ea E 21) (As := []) (rest := []) ⟨hx, hb, hml, hown, hts⟩ (ctX9_skips l E  (un s29 21 25 (((sn s29 21 25) + 1))) _  h) (cwV 0 hts gX9_goesThrough_X9_skips rfl rfl rfl ⟨rfl, hdX9_skips⟩ ⟨Nat.le_of_ble_eq_true rfl, Nat.le_of_ble_eq_true rfl⟩) hK hN hg (recv_x (ci := 9) (C := RX9) (T := TX9) (N := 27) hg hK (by decide) rfl (by decide) rfl) rfl hl.1 rfl (cat_sum _ (by simp)) dX9_goesThrough_143 ⟨Nat.le_refl 0, Nat.le_refl 0⟩) hg (fun s36 H locs hm2 h hg => ?_)
            have hm := hm.tn hm2
            refine lv_goto (tgt := 14) hx hb dX9_goesThrough_146 (by decide) ?_
            exact hK14 (s36) _ _ _ hg hm (lv_sub hl [1, 2] rfl) h
          · have h := h.2 c33
            refine lv_aload_n hx hb dX9_goesThrough_118 rfl (lv_at hl 1 rfl) ?_
            refine lv_iload_n hx hb dX9_goesThrough_119 rfl (lv_at hl 0 rfl) ?_
            refine lv_bipush (v := iI 97) hx hb dX9_goesThrough_120 (by decide) ?_
            refine q_isub hx hb dX9_goesThrough_122 ?_
            obtain ⟨hR39, h⟩ := h
            refine call_z (run_V (a := ea E 21) (As := [.int (iI ((r11 - 97)))]) (rest := []) ⟨hx, hb, hml, hown, hts⟩ (ctX9_sets l E (r11 - 97) s29 _ hR39 h) (cwV 1 hts gX9_goesThrough_X9_sets rfl rfl rfl ⟨rfl, hdX9_sets⟩ ⟨Nat.le_of_ble_eq_true rfl, Nat.le_of_ble_eq_true rfl⟩) hK hN hg (recv_x (ci := 9) (C := RX9) (T := TX9) (N := 27) hg hK (by decide) rfl (by decide) rfl) rfl hl.1 rfl (cat_sum _ (by simp)) dX9_goesThrough_123 ⟨Nat.le_refl 0, Nat.le_refl 0⟩) hg (fun r41 s40 H locs hz42 hm2 h hg => ?_)
            have hm := hm.tn hm2
            refine k_ne (tgt := 132) hx hb dX9_goesThrough_126 (by decide) (z_R hz42) (fun c43 => ?_) (fun c43 => ?_)
            · have h := h.1 c43
              refine lv_aload_n hx hb dX9_goesThrough_132 rfl (lv_at hl 1 rfl) ?_
              refine lv_dup hx hb dX9_goesThrough_133 rfl ?_
              refine q_geti (ci := 9) (C := RX9) (T := TX9) (N := 27) hx hb hts (fun _ h9 => List.mem_cons_of_mem _ (List.mem_append_right _ h9)) hown hK hg 21 (by decide) rfl rfl (by decide) rfl 25 (by decide) (hts (.fieldLink RX9 262 "JoinMapsModel" "sums" "I") (List.mem_cons_of_mem _ (List.mem_append_left _ (List.mem_append_left _ (List.mem_of_getElem? (i := 1) rfl))))) rfl rfl dX9_goesThrough_134 ?_
              have hR44 := GS_R hg 21 25
              refine lv_iconst (v := iI 1) hx hb dX9_goesThrough_137 (by decide) ?_
              refine q_iadd hx hb dX9_goesThrough_138 ?_
              obtain ⟨hR45, h⟩ := h
              refine q_puti (ci := 9) (C := RX9) (T := TX9) (N := 27) hx hb hts (fun _ h9 => List.mem_cons_of_mem _ (List.mem_append_right _ h9)) tyX9 tyX9_ok nmX9 hown hK hg 21 (by decide) rfl rfl (by decide) rfl 25 (by decide) (hts (.fieldLink RX9 262 "JoinMapsModel" "sums" "I") (List.mem_cons_of_mem _ (List.mem_append_left _ (List.mem_append_left _ (List.mem_of_getElem? (i := 1) rfl))))) rfl rfl (by decide +kernel) rfl hR45 dX9_goesThrough_139 (fun H locs hg => ?_)
              refine lv_aload_n hx hb dX9_goesThrough_142 rfl (lv_at hl 1 rfl) ?_
              refine call_v (run_V (a := ea E 21) (As := []) (rest := []) ⟨hx, hb, hml, hown, hts⟩ (ctX9_skips l E  (un s40 21 25 (((sn s40 21 25) + 1))) _  h) (cwV 0 hts gX9_goesThrough_X9_skips rfl rfl rfl ⟨rfl, hdX9_skips⟩ ⟨Nat.le_of_ble_eq_true rfl, Nat.le_of_ble_eq_true rfl⟩) hK hN hg (recv_x (ci := 9) (C := RX9) (T := TX9) (N := 27) hg hK (by decide) rfl (by decide) rfl) rfl hl.1 rfl (cat_sum _ (by simp)) dX9_goesThrough_143 ⟨Nat.le_refl 0, Nat.le_refl 0⟩) hg (fun s46 H locs hm2 h hg => ?_)
              have hm := hm.tn hm2
              refine lv_goto (tgt := 14) hx hb dX9_goesThrough_146 (by decide) ?_
              exact hK14 (s46) _ _ _ hg hm (lv_sub hl [1, 2] rfl) h
            · have h := h.2 c43
              refine q_ldc (z := (-2000000004)) hx hb hown (hts (.constant RX9 113 (-2000000004)) (List.mem_cons_of_mem _ (List.mem_append_left _ (List.mem_append_left _ (List.mem_of_getElem? (i := 5) rfl))))) (by decide) dX9_goesThrough_129 ?_
              exact ret_i hx hb hr hlocks hg (by decide) hm h dX9_goesThrough_131
        · have h := h.2 c32
          refine lv_aload_n hx hb dX9_goesThrough_109 rfl (lv_at hl 1 rfl) ?_
          refine q_geti (ci := 9) (C := RX9) (T := TX9) (N := 27) hx hb hts (fun _ h9 => List.mem_cons_of_mem _ (List.mem_append_right _ h9)) hown hK hg 21 (by decide) rfl rfl (by decide) rfl 24 (by decide) (hts (.fieldLink RX9 207 "JoinMapsModel" "at" "I") (List.mem_cons_of_mem _ (List.mem_append_left _ (List.mem_append_left _ (List.mem_of_getElem? (i := 0) rfl))))) rfl rfl dX9_goesThrough_110 ?_
          have hR49 := GS_R hg 21 24
          exact ret_i hx hb hr hlocks hg hR49 hm h dX9_goesThrough_113
      · have h := h.2 c26
        refine lv_aload_n hx hb dX9_goesThrough_87 rfl (lv_at hl 1 rfl) ?_
        refine q_geti (ci := 9) (C := RX9) (T := TX9) (N := 27) hx hb hts (fun _ h9 => List.mem_cons_of_mem _ (List.mem_append_right _ h9)) hown hK hg 21 (by decide) rfl rfl (by decide) rfl 24 (by decide) (hts (.fieldLink RX9 207 "JoinMapsModel" "at" "I") (List.mem_cons_of_mem _ (List.mem_append_left _ (List.mem_append_left _ (List.mem_of_getElem? (i := 0) rfl))))) rfl rfl dX9_goesThrough_88 ?_
        have hR50 := GS_R hg 21 24
        exact ret_i hx hb hr hlocks hg hR50 hm h dX9_goesThrough_91
    · have h := h.2 c16
      refine lv_aload_n hx hb dX9_goesThrough_55 rfl (lv_at hl 1 rfl) ?_
      refine q_geti (ci := 9) (C := RX9) (T := TX9) (N := 27) hx hb hts (fun _ h9 => List.mem_cons_of_mem _ (List.mem_append_right _ h9)) hown hK hg 21 (by decide) rfl rfl (by decide) rfl 24 (by decide) (hts (.fieldLink RX9 207 "JoinMapsModel" "at" "I") (List.mem_cons_of_mem _ (List.mem_append_left _ (List.mem_append_left _ (List.mem_of_getElem? (i := 0) rfl))))) rfl rfl dX9_goesThrough_56 ?_
      have hR51 := GS_R hg 21 24
      exact ret_i hx hb hr hlocks hg hR51 hm h dX9_goesThrough_59
  have J14 : ∀ (k : Nat), ∀ (sL : SS) (H : Heap) (locs : List Loc) (ls : Array Slot), GS E sL s H locs → Mo (sz σ) σ sL → lv_has ls 3 [(0, .ref (ea E 21)), (1, .int (iI (a1)))] → wX9_goesThrough_L14 a1 Q  k  sL → W p l e (headSpec wsX9_goesThrough ({ frames := 5, cells := 0, slots := 0, locals := 115 } : Room)).room s m (List.toArray [.ref (ea E 21), .int (iI (a1))]) below meth c H locs 0 0 (MQ below (Qi E (sz σ) σ Q) (List.toArray [.ref (ea E 21), .int (iI (a1))]) s 0 0 (Av E)) (F0 m 14 ls []) := by
    intro k
    induction k with
    | zero => intro sL H locs ls hg hm hl h; exact False.elim h
    | succ k ih =>
      intro sL H locs ls hg hm hl h
      rw [wX9_goesThrough_L14] at h
      refine lv_aload_n hx hb dX9_goesThrough_14 rfl (lv_at hl 0 rfl) ?_
      refine q_geti (ci := 9) (C := RX9) (T := TX9) (N := 27) hx hb hts (fun _ h9 => List.mem_cons_of_mem _ (List.mem_append_right _ h9)) hown hK hg 21 (by decide) rfl rfl (by decide) rfl 24 (by decide) (hts (.fieldLink RX9 207 "JoinMapsModel" "at" "I") (List.mem_cons_of_mem _ (List.mem_append_left _ (List.mem_append_left _ (List.mem_of_getElem? (i := 0) rfl))))) rfl rfl dX9_goesThrough_15 ?_
      have hR4 := GS_R hg 21 24
      refine lv_aload_n hx hb dX9_goesThrough_18 rfl (lv_at hl 0 rfl) ?_
      refine q_geti (ci := 9) (C := RX9) (T := TX9) (N := 27) hx hb hts (fun _ h9 => List.mem_cons_of_mem _ (List.mem_append_right _ h9)) hown hK hg 21 (by decide) rfl rfl (by decide) rfl 11 (by decide) (hts (.fieldLink RX9 204 "JoinMapsModel" "typed" "I") (List.mem_cons_of_mem _ (List.mem_append_left _ (List.mem_append_left _ (List.mem_of_getElem? (i := 2) rfl))))) rfl rfl dX9_goesThrough_19 ?_
      have hR5 := GS_R hg 21 11
      refine j_lt (tgt := 32) hx hb dX9_goesThrough_22 (by decide) hR4 hR5 (fun c6 => ?_) (fun c6 => ?_)
      · have h := h.1 c6
        exact J32 _ ih (sL) _ _ _ hg hm (lv_sub hl [0, 1] rfl) h
      · have h := h.2 c6
        refine lv_aload_n hx hb dX9_goesThrough_25 rfl (lv_at hl 0 rfl) ?_
        refine q_geti (ci := 9) (C := RX9) (T := TX9) (N := 27) hx hb hts (fun _ h9 => List.mem_cons_of_mem _ (List.mem_append_right _ h9)) hown hK hg 21 (by decide) rfl rfl (by decide) rfl 25 (by decide) (hts (.fieldLink RX9 262 "JoinMapsModel" "sums" "I") (List.mem_cons_of_mem _ (List.mem_append_left _ (List.mem_append_left _ (List.mem_of_getElem? (i := 1) rfl))))) rfl rfl dX9_goesThrough_26 ?_
        have hR7 := GS_R hg 21 25
        refine k_ne (tgt := 149) hx hb dX9_goesThrough_29 (by decide) hR7 (fun c8 => ?_) (fun c8 => ?_)
        · have h := h.1 c8
          refine q_ldc (z := (-2000000001)) hx hb hown (hts (.constant RX9 120 (-2000000001)) (List.mem_cons_of_mem _ (List.mem_append_left _ (List.mem_append_left _ (List.mem_of_getElem? (i := 6) rfl))))) (by decide) dX9_goesThrough_149 ?_
          exact ret_i hx hb hr hlocks hg (by decide) hm h dX9_goesThrough_151
        · have h := h.2 c8
          exact J32 _ ih (sL) _ _ _ hg hm (lv_sub hl [0, 1] rfl) h
  refine lv_aload_n hx hb dX9_goesThrough_0 rfl (lv_at hl 0 rfl) ?_
  refine lv_iconst (v := iI 0) hx hb dX9_goesThrough_1 (by decide) ?_
  refine q_puti (ci := 9) (C := RX9) (T := TX9) (N := 27) hx hb hts (fun _ h9 => List.mem_cons_of_mem _ (List.mem_append_right _ h9)) tyX9 tyX9_ok nmX9 hown hK hg 21 (by decide) rfl rfl (by decide) rfl 24 (by decide) (hts (.fieldLink RX9 207 "JoinMapsModel" "at" "I") (List.mem_cons_of_mem _ (List.mem_append_left _ (List.mem_append_left _ (List.mem_of_getElem? (i := 0) rfl))))) rfl rfl (by decide +kernel) rfl (by decide) dX9_goesThrough_2 (fun H locs hg => ?_)
  refine lv_aload_n hx hb dX9_goesThrough_5 rfl (lv_at hl 0 rfl) ?_
  refine lv_iconst (v := iI 0) hx hb dX9_goesThrough_6 (by decide) ?_
  refine q_puti (ci := 9) (C := RX9) (T := TX9) (N := 27) hx hb hts (fun _ h9 => List.mem_cons_of_mem _ (List.mem_append_right _ h9)) tyX9 tyX9_ok nmX9 hown hK hg 21 (by decide) rfl rfl (by decide) rfl 25 (by decide) (hts (.fieldLink RX9 262 "JoinMapsModel" "sums" "I") (List.mem_cons_of_mem _ (List.mem_append_left _ (List.mem_append_left _ (List.mem_of_getElem? (i := 1) rfl))))) rfl rfl (by decide +kernel) rfl (by decide) dX9_goesThrough_7 (fun H locs hg => ?_)
  refine lv_aload_n hx hb dX9_goesThrough_10 rfl (lv_at hl 0 rfl) ?_
  refine call_v (run_V (a := ea E 21) (As := []) (rest := []) ⟨hx, hb, hml, hown, hts⟩ (ctX9_skips l E  (un (un σ 21 24 (0)) 21 25 (0)) _  h) (cwV 0 hts gX9_goesThrough_X9_skips rfl rfl rfl ⟨rfl, hdX9_skips⟩ ⟨Nat.le_of_ble_eq_true rfl, Nat.le_of_ble_eq_true rfl⟩) hK hN hg (recv_x (ci := 9) (C := RX9) (T := TX9) (N := 27) hg hK (by decide) rfl (by decide) rfl) rfl hl.1 rfl (cat_sum _ (by simp)) dX9_goesThrough_11 ⟨Nat.le_refl 0, Nat.le_refl 0⟩) hg (fun s1 H locs hm2 h hg => ?_)
  have hm := hm.tn hm2
  obtain ⟨kk, h⟩ := h
  exact J14  kk (s1) _ _ _ hg hm (lv_sub hl [0, 1] rfl) h
theorem hdX9_sums : yX9_sums.cls ≠ "java/lang/invoke/MethodHandle" ∧ yX9_sums.cls ≠ "java/lang/invoke/VarHandle" ∧ (parseMethodDescriptor yX9_sums.desc).map (fun d => d.parameters.length) = some 0 := by decide +kernel
set_option maxRecDepth 100000 in
set_option maxHeartbeats 4000000 in
theorem ctX9_sums (l : Launch) (E : Ev)  (σ : SS) (Q : Int → SS → Prop)  (h : wX9_sums  σ Q) : Met l yX9_sums wsX9_sums ({ frames := 6, cells := 0, slots := 0, locals := 137 } : Room) (Pc E σ [.ref (ea E 21)]) (Qi E (sz σ) σ Q) 0 0 (Av E) := by
  rw [wX9_sums] at h
  refine Met.ofW (cc := cX9_sums) (maxL := 2) (ret := (some .int)) (by decide) rfl ?_
  intro p e s m args below meth c s₁ B hml hv
  obtain ⟨rfl, hH, hK, hN⟩ := hv
  have hx := B.exec
  have hb := B.bytes
  have hr := B.returns
  have hts := atoms_spec (ws := wsX9_sums) B.pre
  have hown : s.vm.findClass RX9 = some m.cls := findClass_of_methodNamed B.named
  have hlocks := B.notSynchronized
  have hg : GS E σ s s.heap [] := ⟨hH, va_S.rf⟩
  have hm : Mo (sz σ) σ σ := Mo.rf (Nat.le_refl _)
  have hl := ent (vs := [.ref (ea E 21)]) (n := 2) (cats_x cats_nil) (Nat.le_of_ble_eq_true rfl)
  rw [lg_entry_eq]
  generalize (lg_sl ([.ref (ea E 21)]) ++ List.replicate (2 - (lg_sl ([.ref (ea E 21)])).length) Slot.unset).toArray = ls at hl ⊢
  have hl : lv_has ls 2 [(0, .ref (ea E 21))] := hl
  refine lv_aload_n hx hb dX9_sums_0 rfl (lv_at hl 0 rfl) ?_
  refine lv_iconst (v := iI 0) hx hb dX9_sums_1 (by decide) ?_
  refine call_i (run_V (a := ea E 21) (As := [.int (iI (0))]) (rest := []) ⟨hx, hb, hml, hown, hts⟩ (ctX9_goesThrough l E 0 σ _ (by decide) h) (cwV 1 hts gX9_sums_X9_goesThrough rfl rfl rfl ⟨rfl, hdX9_goesThrough⟩ ⟨Nat.le_of_ble_eq_true rfl, Nat.le_of_ble_eq_true rfl⟩) hK hN hg (recv_x (ci := 9) (C := RX9) (T := TX9) (N := 27) hg hK (by decide) rfl (by decide) rfl) rfl hl.1 rfl (cat_sum _ (by simp)) dX9_sums_2 ⟨Nat.le_refl 0, Nat.le_refl 0⟩) hg (fun r2 s1 H locs hz3 hm2 h hg => ?_)
  have hm := hm.tn hm2
  refine lv_istore_n (i := 1) (lv' := [(1, .int (iI (r2))), (0, .ref (ea E 21))]) hx hb dX9_sums_5 rfl hl (by decide) rfl (fun ls hl => ?_)
  refine lv_iload_n hx hb dX9_sums_6 rfl (lv_at hl 0 rfl) ?_
  refine q_ldc (z := (-2000000001)) hx hb hown (hts (.constant RX9 120 (-2000000001)) (List.mem_cons_of_mem _ (List.mem_append_left _ (List.mem_append_left _ (List.mem_of_getElem? (i := 0) rfl))))) (by decide) dX9_sums_7 ?_
  refine j_eq (tgt := 17) hx hb dX9_sums_9 (by decide) hz3 (by decide) (fun c4 => ?_) (fun c4 => ?_)
  · have h := h.1 c4
    refine lv_aload_n hx hb dX9_sums_17 rfl (lv_at hl 1 rfl) ?_
    refine lv_iconst (v := iI 0) hx hb dX9_sums_18 (by decide) ?_
    refine call_v (run_V (a := ea E 21) (As := [.int (iI (0))]) (rest := []) ⟨hx, hb, hml, hown, hts⟩ (ctX9_aside l E 0 s1 _ (by decide) h) (cwV 1 hts gX9_sums_X9_aside rfl rfl rfl ⟨rfl, hdX9_aside⟩ ⟨Nat.le_of_ble_eq_true rfl, Nat.le_of_ble_eq_true rfl⟩) hK hN hg (recv_x (ci := 9) (C := RX9) (T := TX9) (N := 27) hg hK (by decide) rfl (by decide) rfl) rfl hl.1 rfl (cat_sum _ (by simp)) dX9_sums_19 ⟨Nat.le_refl 0, Nat.le_refl 0⟩) hg (fun s5 H locs hm2 h hg => ?_)
    have hm := hm.tn hm2
    refine lv_aload_n hx hb dX9_sums_22 rfl (lv_at hl 1 rfl) ?_
    refine lv_iconst (v := iI 1) hx hb dX9_sums_23 (by decide) ?_
    refine call_i (run_V (a := ea E 21) (As := [.int (iI (1))]) (rest := []) ⟨hx, hb, hml, hown, hts⟩ (ctX9_goesThrough l E 1 s5 _ (by decide) h) (cwV 1 hts gX9_sums_X9_goesThrough rfl rfl rfl ⟨rfl, hdX9_goesThrough⟩ ⟨Nat.le_of_ble_eq_true rfl, Nat.le_of_ble_eq_true rfl⟩) hK hN hg (recv_x (ci := 9) (C := RX9) (T := TX9) (N := 27) hg hK (by decide) rfl (by decide) rfl) rfl hl.1 rfl (cat_sum _ (by simp)) dX9_sums_24 ⟨Nat.le_refl 0, Nat.le_refl 0⟩) hg (fun r9 s8 H locs hz10 hm2 h hg => ?_)
    have hm := hm.tn hm2
    refine q_ldc (z := (-2000000004)) hx hb hown (hts (.constant RX9 113 (-2000000004)) (List.mem_cons_of_mem _ (List.mem_append_left _ (List.mem_append_left _ (List.mem_of_getElem? (i := 1) rfl))))) (by decide) dX9_sums_27 ?_
    refine j_ne (tgt := 44) hx hb dX9_sums_29 (by decide) hz10 (by decide) (fun c11 => ?_) (fun c11 => ?_)
    · have h := h.1 c11
      refine lv_aload_n hx hb dX9_sums_44 rfl (lv_at hl 1 rfl) ?_
      refine call_v (run_V (a := ea E 21) (As := []) (rest := []) ⟨hx, hb, hml, hown, hts⟩ (ctX9_keepsAside l E  s8 _  h) (cwV 0 hts gX9_sums_X9_keepsAside rfl rfl rfl ⟨rfl, hdX9_keepsAside⟩ ⟨Nat.le_of_ble_eq_true rfl, Nat.le_of_ble_eq_true rfl⟩) hK hN hg (recv_x (ci := 9) (C := RX9) (T := TX9) (N := 27) hg hK (by decide) rfl (by decide) rfl) rfl hl.1 rfl (cat_sum _ (by simp)) dX9_sums_45 ⟨Nat.le_refl 0, Nat.le_refl 0⟩) hg (fun s12 H locs hm2 h hg => ?_)
      have hm := hm.tn hm2
      refine lv_aload_n hx hb dX9_sums_48 rfl (lv_at hl 1 rfl) ?_
      refine q_geti (ci := 9) (C := RX9) (T := TX9) (N := 27) hx hb hts (fun _ h9 => List.mem_cons_of_mem _ (List.mem_append_right _ h9)) hown hK hg 21 (by decide) rfl rfl (by decide) rfl 25 (by decide) (hts (.fieldLink RX9 262 "JoinMapsModel" "sums" "I") (List.mem_cons_of_mem _ (List.mem_append_left _ (List.mem_append_left _ (List.mem_of_getElem? (i := 2) rfl))))) rfl rfl dX9_sums_49 ?_
      have hR15 := GS_R hg 21 25
      exact ret_i hx hb hr hlocks hg hR15 hm h dX9_sums_52
    · have h := h.2 c11
      refine lv_aload_n hx hb dX9_sums_32 rfl (lv_at hl 1 rfl) ?_
      refine lv_iconst (v := iI 1) hx hb dX9_sums_33 (by decide) ?_
      refine call_v (run_V (a := ea E 21) (As := [.int (iI (1))]) (rest := []) ⟨hx, hb, hml, hown, hts⟩ (ctX9_aside l E 1 s8 _ (by decide) h) (cwV 1 hts gX9_sums_X9_aside rfl rfl rfl ⟨rfl, hdX9_aside⟩ ⟨Nat.le_of_ble_eq_true rfl, Nat.le_of_ble_eq_true rfl⟩) hK hN hg (recv_x (ci := 9) (C := RX9) (T := TX9) (N := 27) hg hK (by decide) rfl (by decide) rfl) rfl hl.1 rfl (cat_sum _ (by simp)) dX9_sums_34 ⟨Nat.le_refl 0, Nat.le_refl 0⟩) hg (fun s16 H locs hm2 h hg => ?_)
      have hm := hm.tn hm2
      refine lv_aload_n hx hb dX9_sums_37 rfl (lv_at hl 1 rfl) ?_
      refine q_ldc (z := (-2000000004)) hx hb hown (hts (.constant RX9 113 (-2000000004)) (List.mem_cons_of_mem _ (List.mem_append_left _ (List.mem_append_left _ (List.mem_of_getElem? (i := 1) rfl))))) (by decide) dX9_sums_38 ?_
      refine call_i (run_V (a := ea E 21) (As := [.int (iI ((-2000000004)))]) (rest := []) ⟨hx, hb, hml, hown, hts⟩ (ctX9_refuses l E (-2000000004) s16 _ (by decide) h) (cwV 1 hts gX9_sums_X9_refuses rfl rfl rfl ⟨rfl, hdX9_refuses⟩ ⟨Nat.le_of_ble_eq_true rfl, Nat.le_of_ble_eq_true rfl⟩) hK hN hg (recv_x (ci := 9) (C := RX9) (T := TX9) (N := 27) hg hK (by decide) rfl (by decide) rfl) rfl hl.1 rfl (cat_sum _ (by simp)) dX9_sums_40 ⟨Nat.le_refl 0, Nat.le_refl 0⟩) hg (fun r20 s19 H locs hz21 hm2 h hg => ?_)
      have hm := hm.tn hm2
      exact ret_i hx hb hr hlocks hg hz21 hm h dX9_sums_43
  · have h := h.2 c4
    refine lv_bipush (v := iI (-10)) hx hb dX9_sums_12 (by decide) ?_
    refine lv_iload_n hx hb dX9_sums_14 rfl (lv_at hl 0 rfl) ?_
    refine q_isub hx hb dX9_sums_15 ?_
    obtain ⟨hR22, h⟩ := h
    exact ret_i hx hb hr hlocks hg hR22 hm h dX9_sums_16
theorem hdX9_back : yX9_back.cls ≠ "java/lang/invoke/MethodHandle" ∧ yX9_back.cls ≠ "java/lang/invoke/VarHandle" ∧ (parseMethodDescriptor yX9_back.desc).map (fun d => d.parameters.length) = some 0 := by decide +kernel
set_option maxRecDepth 100000 in
set_option maxHeartbeats 4000000 in
theorem ctX9_back (l : Launch) (E : Ev)  (σ : SS) (Q : Int → SS → Prop)  (h : wX9_back  σ Q) : Met l yX9_back wsX9_back ({ frames := 1, cells := 0, slots := 0, locals := 21 } : Room) (Pc E σ [.ref (ea E 21)]) (Qi E (sz σ) σ Q) 0 0 (Av E) := by
  rw [wX9_back] at h
  refine Met.ofW (cc := cX9_back) (maxL := 2) (ret := (some .int)) (by decide) rfl ?_
  intro p e s m args below meth c s₁ B hml hv
  obtain ⟨rfl, hH, hK, hN⟩ := hv
  have hx := B.exec
  have hb := B.bytes
  have hr := B.returns
  have hts := atoms_spec (ws := wsX9_back) B.pre
  have hown : s.vm.findClass RX9 = some m.cls := findClass_of_methodNamed B.named
  have hlocks := B.notSynchronized
  have hg : GS E σ s s.heap [] := ⟨hH, va_S.rf⟩
  have hm : Mo (sz σ) σ σ := Mo.rf (Nat.le_refl _)
  have hl := ent (vs := [.ref (ea E 21)]) (n := 2) (cats_x cats_nil) (Nat.le_of_ble_eq_true rfl)
  rw [lg_entry_eq]
  generalize (lg_sl ([.ref (ea E 21)]) ++ List.replicate (2 - (lg_sl ([.ref (ea E 21)])).length) Slot.unset).toArray = ls at hl ⊢
  have hl : lv_has ls 2 [(0, .ref (ea E 21))] := hl
  have J62 : ∀ (k : Nat), ∀ (v1 : Int) (sL : SS) (H : Heap) (locs : List Loc) (ls : Array Slot), GS E sL s H locs → Mo (sz σ) σ sL → lv_has ls 2 [(0, .ref (ea E 21)), (1, .int (iI (v1)))] → wX9_back_L62  Q  k v1 sL → W p l e (headSpec wsX9_back ({ frames := 1, cells := 0, slots := 0, locals := 21 } : Room)).room s m (List.toArray [.ref (ea E 21)]) below meth c H locs 0 0 (MQ below (Qi E (sz σ) σ Q) (List.toArray [.ref (ea E 21)]) s 0 0 (Av E)) (F0 m 62 ls []) := by
    intro k
    induction k with
    | zero => intro v1 sL H locs ls hg hm hl h; exact False.elim h
    | succ k ih =>
      intro v1 sL H locs ls hg hm hl h
      rw [wX9_back_L62] at h
      refine lv_iload_n hx hb dX9_back_62 rfl (lv_at hl 1 rfl) ?_
      refine lv_bipush (v := iI 6) hx hb dX9_back_63 (by decide) ?_
      obtain ⟨hR16, h⟩ := h
      refine j_ge (tgt := 94) hx hb dX9_back_65 (by decide) hR16 (by decide) (fun c17 => ?_) (fun c17 => ?_)
      · have h := h.1 c17
        refine lv_aload_n hx hb dX9_back_94 rfl (lv_at hl 0 rfl) ?_
        refine q_geti (ci := 9) (C := RX9) (T := TX9) (N := 27) hx hb hts (fun _ h9 => List.mem_cons_of_mem _ (List.mem_append_right _ h9)) hown hK hg 21 (by decide) rfl rfl (by decide) rfl 4 (by decide) (hts (.fieldLink RX9 103 "JoinMapsModel" "known" "I") (List.mem_cons_of_mem _ (List.mem_append_left _ (List.mem_of_getElem? (i := 0) rfl)))) rfl rfl dX9_back_95 ?_
        have hR18 := GS_R hg 21 4
        exact ret_i hx hb hr hlocks hg hR18 hm h dX9_back_98
      · have h := h.2 c17
        refine lv_aload_n hx hb dX9_back_68 rfl (lv_at hl 0 rfl) ?_
        refine q_getx (ci := 9) (C := RX9) (T := TX9) (N := 27) (j := 23) hx hb hts (fun _ h9 => List.mem_cons_of_mem _ (List.mem_append_right _ h9)) hown hK hg 21 (by decide) rfl rfl (by decide) rfl 1 (by decide) (hts (.fieldLink RX9 13 "JoinMapsModel" "sizes" "[I") (List.mem_cons_of_mem _ (List.mem_append_left _ (List.mem_of_getElem? (i := 4) rfl)))) rfl rfl rfl dX9_back_69 ?_
        refine lv_iload_n hx hb dX9_back_72 rfl (lv_at hl 1 rfl) ?_
        refine lv_aload_n hx hb dX9_back_73 rfl (lv_at hl 0 rfl) ?_
        refine q_getx (ci := 9) (C := RX9) (T := TX9) (N := 27) (j := 25) hx hb hts (fun _ h9 => List.mem_cons_of_mem _ (List.mem_append_right _ h9)) hown hK hg 21 (by decide) rfl rfl (by decide) rfl 3 (by decide) (hts (.fieldLink RX9 19 "JoinMapsModel" "pastSizes" "[I") (List.mem_cons_of_mem _ (List.mem_append_left _ (List.mem_of_getElem? (i := 5) rfl)))) rfl rfl rfl dX9_back_74 ?_
        refine lv_bipush (v := iI 6) hx hb dX9_back_77 (by decide) ?_
        refine lv_aload_n hx hb dX9_back_79 rfl (lv_at hl 0 rfl) ?_
        refine q_geti (ci := 9) (C := RX9) (T := TX9) (N := 27) hx hb hts (fun _ h9 => List.mem_cons_of_mem _ (List.mem_append_right _ h9)) hown hK hg 21 (by decide) rfl rfl (by decide) rfl 4 (by decide) (hts (.fieldLink RX9 103 "JoinMapsModel" "known" "I") (List.mem_cons_of_mem _ (List.mem_append_left _ (List.mem_of_getElem? (i := 0) rfl)))) rfl rfl dX9_back_80 ?_
        have hR19 := GS_R hg 21 4
        refine q_imul hx hb dX9_back_83 ?_
        refine lv_iload_n hx hb dX9_back_84 rfl (lv_at hl 1 rfl) ?_
        refine q_iadd hx hb dX9_back_85 ?_
        obtain ⟨hP20, hP21, h⟩ := h
        refine q_iald (N := 72) hx hb hK hg 25 (by decide) rfl rfl hP20 hP21 (by decide) dX9_back_86 ?_
        have hR22 := GS_R hg 25 (((6 * (sn sL 21 4)) + v1) : Int).toNat
        obtain ⟨hP23, hP24, h⟩ := h
        refine q_iast (N := 6) hx hb hK hg 23 (by decide) rfl rfl hP23 hP24 (by decide) hR22 dX9_back_87 (fun H locs hg => ?_)
        refine lv_iinc (v := iI (v1 + 1)) (lv' := [(1, .int (iI (v1 + 1))), (0, .ref (ea E 21))]) hx hb dX9_back_88 hl (k := 1) rfl (iI_add _ _) (by decide) rfl (fun ls hl => ?_)
        refine lv_goto (tgt := 62) hx hb dX9_back_91 (by decide) ?_
        exact ih (v1 + 1) (un sL 23 (v1 : Int).toNat ((sn sL 25 (((6 * (sn sL 21 4)) + v1) : Int).toNat))) _ _ _ hg hm (lv_sub hl [1, 0] rfl) h
  have J26 : ∀ (k : Nat), ∀ (v1 : Int) (sL : SS) (H : Heap) (locs : List Loc) (ls : Array Slot), GS E sL s H locs → Mo (sz σ) σ sL → lv_has ls 2 [(0, .ref (ea E 21)), (1, .int (iI (v1)))] → wX9_back_L26  Q  k v1 sL → W p l e (headSpec wsX9_back ({ frames := 1, cells := 0, slots := 0, locals := 21 } : Room)).room s m (List.toArray [.ref (ea E 21)]) below meth c H locs 0 0 (MQ below (Qi E (sz σ) σ Q) (List.toArray [.ref (ea E 21)]) s 0 0 (Av E)) (F0 m 26 ls []) := by
    intro k
    induction k with
    | zero => intro v1 sL H locs ls hg hm hl h; exact False.elim h
    | succ k ih =>
      intro v1 sL H locs ls hg hm hl h
      rw [wX9_back_L26] at h
      refine lv_iload_n hx hb dX9_back_26 rfl (lv_at hl 1 rfl) ?_
      refine lv_sipush (v := iI 1200) hx hb dX9_back_27 (by decide) ?_
      obtain ⟨hR8, h⟩ := h
      refine j_ge (tgt := 60) hx hb dX9_back_30 (by decide) hR8 (by decide) (fun c9 => ?_) (fun c9 => ?_)
      · have h := h.1 c9
        refine lv_iconst (v := iI 0) hx hb dX9_back_60 (by decide) ?_
        refine lv_istore_n (i := 1) (lv' := [(1, .int (iI (0))), (0, .ref (ea E 21))]) hx hb dX9_back_61 rfl hl (by decide) rfl (fun ls hl => ?_)
        obtain ⟨kk, h⟩ := h
        exact J62  kk (0) (sL) _ _ _ hg hm (lv_sub hl [1, 0] rfl) h
      · have h := h.2 c9
        refine lv_aload_n hx hb dX9_back_33 rfl (lv_at hl 0 rfl) ?_
        refine q_getx (ci := 9) (C := RX9) (T := TX9) (N := 27) (j := 22) hx hb hts (fun _ h9 => List.mem_cons_of_mem _ (List.mem_append_right _ h9)) hown hK hg 21 (by decide) rfl rfl (by decide) rfl 0 (by decide) (hts (.fieldLink RX9 7 "JoinMapsModel" "rows" "[I") (List.mem_cons_of_mem _ (List.mem_append_left _ (List.mem_of_getElem? (i := 2) rfl)))) rfl rfl rfl dX9_back_34 ?_
        refine lv_iload_n hx hb dX9_back_37 rfl (lv_at hl 1 rfl) ?_
        refine lv_aload_n hx hb dX9_back_38 rfl (lv_at hl 0 rfl) ?_
        refine q_getx (ci := 9) (C := RX9) (T := TX9) (N := 27) (j := 24) hx hb hts (fun _ h9 => List.mem_cons_of_mem _ (List.mem_append_right _ h9)) hown hK hg 21 (by decide) rfl rfl (by decide) rfl 2 (by decide) (hts (.fieldLink RX9 16 "JoinMapsModel" "past" "[I") (List.mem_cons_of_mem _ (List.mem_append_left _ (List.mem_of_getElem? (i := 3) rfl)))) rfl rfl rfl dX9_back_39 ?_
        refine lv_sipush (v := iI 1200) hx hb dX9_back_42 (by decide) ?_
        refine lv_aload_n hx hb dX9_back_45 rfl (lv_at hl 0 rfl) ?_
        refine q_geti (ci := 9) (C := RX9) (T := TX9) (N := 27) hx hb hts (fun _ h9 => List.mem_cons_of_mem _ (List.mem_append_right _ h9)) hown hK hg 21 (by decide) rfl rfl (by decide) rfl 4 (by decide) (hts (.fieldLink RX9 103 "JoinMapsModel" "known" "I") (List.mem_cons_of_mem _ (List.mem_append_left _ (List.mem_of_getElem? (i := 0) rfl)))) rfl rfl dX9_back_46 ?_
        have hR10 := GS_R hg 21 4
        refine q_imul hx hb dX9_back_49 ?_
        refine lv_iload_n hx hb dX9_back_50 rfl (lv_at hl 1 rfl) ?_
        refine q_iadd hx hb dX9_back_51 ?_
        obtain ⟨hP11, hP12, h⟩ := h
        refine q_iald (N := 14400) hx hb hK hg 24 (by decide) rfl rfl hP11 hP12 (by decide) dX9_back_52 ?_
        have hR13 := GS_R hg 24 (((1200 * (sn sL 21 4)) + v1) : Int).toNat
        obtain ⟨hP14, hP15, h⟩ := h
        refine q_iast (N := 1200) hx hb hK hg 22 (by decide) rfl rfl hP14 hP15 (by decide) hR13 dX9_back_53 (fun H locs hg => ?_)
        refine lv_iinc (v := iI (v1 + 1)) (lv' := [(1, .int (iI (v1 + 1))), (0, .ref (ea E 21))]) hx hb dX9_back_54 hl (k := 1) rfl (iI_add _ _) (by decide) rfl (fun ls hl => ?_)
        refine lv_goto (tgt := 26) hx hb dX9_back_57 (by decide) ?_
        exact ih (v1 + 1) (un sL 22 (v1 : Int).toNat ((sn sL 24 (((1200 * (sn sL 21 4)) + v1) : Int).toNat))) _ _ _ hg hm (lv_sub hl [1, 0] rfl) h
  refine lv_aload_n hx hb dX9_back_0 rfl (lv_at hl 0 rfl) ?_
  refine q_geti (ci := 9) (C := RX9) (T := TX9) (N := 27) hx hb hts (fun _ h9 => List.mem_cons_of_mem _ (List.mem_append_right _ h9)) hown hK hg 21 (by decide) rfl rfl (by decide) rfl 4 (by decide) (hts (.fieldLink RX9 103 "JoinMapsModel" "known" "I") (List.mem_cons_of_mem _ (List.mem_append_left _ (List.mem_of_getElem? (i := 0) rfl)))) rfl rfl dX9_back_1 ?_
  have hR1 := GS_R hg 21 4
  refine k_ne (tgt := 14) hx hb dX9_back_4 (by decide) hR1 (fun c2 => ?_) (fun c2 => ?_)
  · have h := h.1 c2
    refine lv_aload_n hx hb dX9_back_14 rfl (lv_at hl 0 rfl) ?_
    refine lv_dup hx hb dX9_back_15 rfl ?_
    refine q_geti (ci := 9) (C := RX9) (T := TX9) (N := 27) hx hb hts (fun _ h9 => List.mem_cons_of_mem _ (List.mem_append_right _ h9)) hown hK hg 21 (by decide) rfl rfl (by decide) rfl 4 (by decide) (hts (.fieldLink RX9 103 "JoinMapsModel" "known" "I") (List.mem_cons_of_mem _ (List.mem_append_left _ (List.mem_of_getElem? (i := 0) rfl)))) rfl rfl dX9_back_16 ?_
    have hR3 := GS_R hg 21 4
    refine lv_iconst (v := iI 1) hx hb dX9_back_19 (by decide) ?_
    refine q_isub hx hb dX9_back_20 ?_
    obtain ⟨hR4, h⟩ := h
    refine q_puti (ci := 9) (C := RX9) (T := TX9) (N := 27) hx hb hts (fun _ h9 => List.mem_cons_of_mem _ (List.mem_append_right _ h9)) tyX9 tyX9_ok nmX9 hown hK hg 21 (by decide) rfl rfl (by decide) rfl 4 (by decide) (hts (.fieldLink RX9 103 "JoinMapsModel" "known" "I") (List.mem_cons_of_mem _ (List.mem_append_left _ (List.mem_of_getElem? (i := 0) rfl)))) rfl rfl (by decide +kernel) rfl hR4 dX9_back_21 (fun H locs hg => ?_)
    refine lv_iconst (v := iI 0) hx hb dX9_back_24 (by decide) ?_
    refine lv_istore_n (i := 1) (lv' := [(1, .int (iI (0))), (0, .ref (ea E 21))]) hx hb dX9_back_25 rfl hl (by decide) rfl (fun ls hl => ?_)
    obtain ⟨kk, h⟩ := h
    exact J26  kk (0) (un σ 21 4 (((sn σ 21 4) - 1))) _ _ _ hg hm (lv_sub hl [1, 0] rfl) h
  · have h := h.2 c2
    refine lv_aload_n hx hb dX9_back_7 rfl (lv_at hl 0 rfl) ?_
    refine q_ldc (z := (-2000000003)) hx hb hown (hts (.constant RX9 125 (-2000000003)) (List.mem_cons_of_mem _ (List.mem_append_left _ (List.mem_of_getElem? (i := 1) rfl)))) (by decide) dX9_back_8 ?_
    refine call_i (run_V (a := ea E 21) (As := [.int (iI ((-2000000003)))]) (rest := []) ⟨hx, hb, hml, hown, hts⟩ (ctX9_refuses l E (-2000000003) σ _ (by decide) h) (cwV 1 hts gX9_back_X9_refuses rfl rfl rfl ⟨rfl, hdX9_refuses⟩ ⟨Nat.le_of_ble_eq_true rfl, Nat.le_of_ble_eq_true rfl⟩) hK hN hg (recv_x (ci := 9) (C := RX9) (T := TX9) (N := 27) hg hK (by decide) rfl (by decide) rfl) rfl hl.1 rfl (cat_sum _ (by simp)) dX9_back_10 ⟨Nat.le_refl 0, Nat.le_refl 0⟩) hg (fun r6 s5 H locs hz7 hm2 h hg => ?_)
    have hm := hm.tn hm2
    exact ret_i hx hb hr hlocks hg hz7 hm h dX9_back_13
theorem hdX9_toldOf : yX9_toldOf.cls ≠ "java/lang/invoke/MethodHandle" ∧ yX9_toldOf.cls ≠ "java/lang/invoke/VarHandle" ∧ (parseMethodDescriptor yX9_toldOf.desc).map (fun d => d.parameters.length) = some 1 := by decide +kernel
set_option maxRecDepth 100000 in
set_option maxHeartbeats 4000000 in
theorem ctX9_toldOf (l : Launch) (E : Ev) (a1 : Int) (σ : SS) (Q : Int → SS → Prop) (ha1 : R32 a1) (h : wX9_toldOf a1 σ Q) : Met l yX9_toldOf wsX9_toldOf ({ frames := 0, cells := 0, slots := 0, locals := 0 } : Room) (Pc E σ [.ref (ea E 21), .int (iI (a1))]) (Qi E (sz σ) σ Q) 0 0 (Av E) := by
  rw [wX9_toldOf] at h
  refine Met.ofW (cc := cX9_toldOf) (maxL := 4) (ret := (some .int)) (by decide) rfl ?_
  intro p e s m args below meth c s₁ B hml hv
  obtain ⟨rfl, hH, hK, hN⟩ := hv
  have hx := B.exec
  have hb := B.bytes
  have hr := B.returns
  have hts := atoms_spec (ws := wsX9_toldOf) B.pre
  have hown : s.vm.findClass RX9 = some m.cls := findClass_of_methodNamed B.named
  have hlocks := B.notSynchronized
  have hg : GS E σ s s.heap [] := ⟨hH, va_S.rf⟩
  have hm : Mo (sz σ) σ σ := Mo.rf (Nat.le_refl _)
  have hl := ent (vs := [.ref (ea E 21), .int (iI (a1))]) (n := 4) (cats_x (cats_i cats_nil)) (Nat.le_of_ble_eq_true rfl)
  rw [lg_entry_eq]
  generalize (lg_sl ([.ref (ea E 21), .int (iI (a1))]) ++ List.replicate (4 - (lg_sl ([.ref (ea E 21), .int (iI (a1))])).length) Slot.unset).toArray = ls at hl ⊢
  have hl : lv_has ls 4 [(0, .ref (ea E 21)), (1, .int (iI (a1)))] := hl
  have J64 : ∀ (k : Nat), ∀ (v2 : Int) (v3 : Int) (sL : SS) (H : Heap) (locs : List Loc) (ls : Array Slot), GS E sL s H locs → Mo (sz σ) σ sL → lv_has ls 4 [(0, .ref (ea E 21)), (2, .int (iI (v2))), (3, .int (iI (v3)))] → wX9_toldOf_L64 a1 Q  k v2 v3 sL → W p l e (headSpec wsX9_toldOf ({ frames := 0, cells := 0, slots := 0, locals := 0 } : Room)).room s m (List.toArray [.ref (ea E 21), .int (iI (a1))]) below meth c H locs 0 0 (MQ below (Qi E (sz σ) σ Q) (List.toArray [.ref (ea E 21), .int (iI (a1))]) s 0 0 (Av E)) (F0 m 64 ls []) := by
    intro k
    induction k with
    | zero => intro v2 v3 sL H locs ls hg hm hl h; exact False.elim h
    | succ k ih =>
      intro v2 v3 sL H locs ls hg hm hl h
      rw [wX9_toldOf_L64] at h
      refine lv_iload_n hx hb dX9_toldOf_64 rfl (lv_at hl 2 rfl) ?_
      refine lv_bipush (v := iI 6) hx hb dX9_toldOf_65 (by decide) ?_
      obtain ⟨hR13, h⟩ := h
      refine j_ge (tgt := 85) hx hb dX9_toldOf_67 (by decide) hR13 (by decide) (fun c14 => ?_) (fun c14 => ?_)
      · have h := h.1 c14
        refine lv_iload_n hx hb dX9_toldOf_85 rfl (lv_at hl 1 rfl) ?_
        obtain ⟨hR15, h⟩ := h
        exact ret_i hx hb hr hlocks hg hR15 hm h dX9_toldOf_86
      · have h := h.2 c14
        refine lv_iload_n hx hb dX9_toldOf_70 rfl (lv_at hl 1 rfl) ?_
        refine lv_aload_n hx hb dX9_toldOf_71 rfl (lv_at hl 0 rfl) ?_
        refine q_getx (ci := 9) (C := RX9) (T := TX9) (N := 27) (j := 23) hx hb hts (fun _ h9 => List.mem_cons_of_mem _ (List.mem_append_right _ h9)) hown hK hg 21 (by decide) rfl rfl (by decide) rfl 1 (by decide) (hts (.fieldLink RX9 13 "JoinMapsModel" "sizes" "[I") (List.mem_cons_of_mem _ (List.mem_append_left _ (List.mem_of_getElem? (i := 4) rfl)))) rfl rfl rfl dX9_toldOf_72 ?_
        refine lv_iload_n hx hb dX9_toldOf_75 rfl (lv_at hl 2 rfl) ?_
        obtain ⟨hP16, hP17, h⟩ := h
        refine q_iald (N := 6) hx hb hK hg 23 (by decide) rfl rfl hP16 hP17 (by decide) dX9_toldOf_76 ?_
        have hR18 := GS_R hg 23 (v3 : Int).toNat
        refine q_iadd hx hb dX9_toldOf_77 ?_
        refine lv_istore_n (i := 2) (lv' := [(2, .int (iI ((v2 + (sn sL 23 (v3 : Int).toNat))))), (0, .ref (ea E 21)), (3, .int (iI (v3)))]) hx hb dX9_toldOf_78 rfl hl (by decide) rfl (fun ls hl => ?_)
        refine lv_iinc (v := iI (v3 + 1)) (lv' := [(3, .int (iI (v3 + 1))), (2, .int (iI ((v2 + (sn sL 23 (v3 : Int).toNat))))), (0, .ref (ea E 21))]) hx hb dX9_toldOf_79 hl (k := 2) rfl (iI_add _ _) (by decide) rfl (fun ls hl => ?_)
        refine lv_goto (tgt := 64) hx hb dX9_toldOf_82 (by decide) ?_
        exact ih ((v2 + (sn sL 23 (v3 : Int).toNat))) (v3 + 1) (sL) _ _ _ hg hm (lv_sub hl [2, 1, 0] rfl) h
  refine lv_iconst (v := iI 0) hx hb dX9_toldOf_0 (by decide) ?_
  refine lv_istore_n (i := 2) (lv' := [(2, .int (iI (0))), (0, .ref (ea E 21)), (1, .int (iI (a1)))]) hx hb dX9_toldOf_1 rfl hl (by decide) rfl (fun ls hl => ?_)
  refine lv_iload_n hx hb dX9_toldOf_2 rfl (lv_at hl 2 rfl) ?_
  rcases (show (a1 < 0 ∨ 5 < a1) ∨ a1 = 0 ∨ a1 = 1 ∨ a1 = 2 ∨ a1 = 3 ∨ a1 = 4 ∨ a1 = 5 by omega) with c0 | c0 | c0 | c0 | c0 | c0 | c0
  · have h := h.1 c0
    refine lv_tableOut (tgt := 62) hx hb dX9_toldOf_3 (by rw [iI_int ha1]; omega) (by decide) ?_
    refine lv_iconst (v := iI 0) hx hb dX9_toldOf_62 (by decide) ?_
    refine lv_istore_n (i := 3) (lv' := [(3, .int (iI (0))), (2, .int (iI (0))), (0, .ref (ea E 21)), (1, .int (iI (a1)))]) hx hb dX9_toldOf_63 rfl hl (by decide) rfl (fun ls hl => ?_)
    obtain ⟨kk, h⟩ := h
    exact J64  kk (0) (0) (σ) _ _ _ hg hm (lv_sub hl [2, 1, 0] rfl) h
  · have h := h.2.1 c0
    refine lv_tableIn (off := 37) (tgt := 40) hx hb dX9_toldOf_3 (by rw [iI_int ha1, c0]; decide) (by rw [iI_int ha1, c0]; decide) (by rw [iI_int ha1, c0]; rfl) (by decide) ?_
    refine lv_aload_n hx hb dX9_toldOf_40 rfl (lv_at hl 1 rfl) ?_
    refine q_getx (ci := 9) (C := RX9) (T := TX9) (N := 27) (j := 29) hx hb hts (fun _ h9 => List.mem_cons_of_mem _ (List.mem_append_right _ h9)) hown hK hg 21 (by decide) rfl rfl (by decide) rfl 8 (by decide) (hts (.fieldLink RX9 31 "JoinMapsModel" "refused" "[I") (List.mem_cons_of_mem _ (List.mem_append_left _ (List.mem_of_getElem? (i := 0) rfl)))) rfl rfl rfl dX9_toldOf_41 ?_
    refine lv_iload_n hx hb dX9_toldOf_44 rfl (lv_at hl 2 rfl) ?_
    obtain ⟨hP1, hP2, h⟩ := h
    refine q_iald (N := 3) hx hb hK hg 29 (by decide) rfl rfl hP1 hP2 (by decide) dX9_toldOf_45 ?_
    have hR3 := GS_R hg 29 (a1 : Int).toNat
    exact ret_i hx hb hr hlocks hg hR3 hm h dX9_toldOf_46
  · have h := h.2.2.1 c0
    refine lv_tableIn (off := 37) (tgt := 40) hx hb dX9_toldOf_3 (by rw [iI_int ha1, c0]; decide) (by rw [iI_int ha1, c0]; decide) (by rw [iI_int ha1, c0]; rfl) (by decide) ?_
    refine lv_aload_n hx hb dX9_toldOf_40 rfl (lv_at hl 1 rfl) ?_
    refine q_getx (ci := 9) (C := RX9) (T := TX9) (N := 27) (j := 29) hx hb hts (fun _ h9 => List.mem_cons_of_mem _ (List.mem_append_right _ h9)) hown hK hg 21 (by decide) rfl rfl (by decide) rfl 8 (by decide) (hts (.fieldLink RX9 31 "JoinMapsModel" "refused" "[I") (List.mem_cons_of_mem _ (List.mem_append_left _ (List.mem_of_getElem? (i := 0) rfl)))) rfl rfl rfl dX9_toldOf_41 ?_
    refine lv_iload_n hx hb dX9_toldOf_44 rfl (lv_at hl 2 rfl) ?_
    obtain ⟨hP4, hP5, h⟩ := h
    refine q_iald (N := 3) hx hb hK hg 29 (by decide) rfl rfl hP4 hP5 (by decide) dX9_toldOf_45 ?_
    have hR6 := GS_R hg 29 (a1 : Int).toNat
    exact ret_i hx hb hr hlocks hg hR6 hm h dX9_toldOf_46
  · have h := h.2.2.2.1 c0
    refine lv_tableIn (off := 37) (tgt := 40) hx hb dX9_toldOf_3 (by rw [iI_int ha1, c0]; decide) (by rw [iI_int ha1, c0]; decide) (by rw [iI_int ha1, c0]; rfl) (by decide) ?_
    refine lv_aload_n hx hb dX9_toldOf_40 rfl (lv_at hl 1 rfl) ?_
    refine q_getx (ci := 9) (C := RX9) (T := TX9) (N := 27) (j := 29) hx hb hts (fun _ h9 => List.mem_cons_of_mem _ (List.mem_append_right _ h9)) hown hK hg 21 (by decide) rfl rfl (by decide) rfl 8 (by decide) (hts (.fieldLink RX9 31 "JoinMapsModel" "refused" "[I") (List.mem_cons_of_mem _ (List.mem_append_left _ (List.mem_of_getElem? (i := 0) rfl)))) rfl rfl rfl dX9_toldOf_41 ?_
    refine lv_iload_n hx hb dX9_toldOf_44 rfl (lv_at hl 2 rfl) ?_
    obtain ⟨hP7, hP8, h⟩ := h
    refine q_iald (N := 3) hx hb hK hg 29 (by decide) rfl rfl hP7 hP8 (by decide) dX9_toldOf_45 ?_
    have hR9 := GS_R hg 29 (a1 : Int).toNat
    exact ret_i hx hb hr hlocks hg hR9 hm h dX9_toldOf_46
  · have h := h.2.2.2.2.1 c0
    refine lv_tableIn (off := 44) (tgt := 47) hx hb dX9_toldOf_3 (by rw [iI_int ha1, c0]; decide) (by rw [iI_int ha1, c0]; decide) (by rw [iI_int ha1, c0]; rfl) (by decide) ?_
    refine lv_aload_n hx hb dX9_toldOf_47 rfl (lv_at hl 1 rfl) ?_
    refine q_geti (ci := 9) (C := RX9) (T := TX9) (N := 27) hx hb hts (fun _ h9 => List.mem_cons_of_mem _ (List.mem_append_right _ h9)) hown hK hg 21 (by decide) rfl rfl (by decide) rfl 4 (by decide) (hts (.fieldLink RX9 103 "JoinMapsModel" "known" "I") (List.mem_cons_of_mem _ (List.mem_append_left _ (List.mem_of_getElem? (i := 1) rfl)))) rfl rfl dX9_toldOf_48 ?_
    have hR10 := GS_R hg 21 4
    exact ret_i hx hb hr hlocks hg hR10 hm h dX9_toldOf_51
  · have h := h.2.2.2.2.2.1 c0
    refine lv_tableIn (off := 49) (tgt := 52) hx hb dX9_toldOf_3 (by rw [iI_int ha1, c0]; decide) (by rw [iI_int ha1, c0]; decide) (by rw [iI_int ha1, c0]; rfl) (by decide) ?_
    refine lv_aload_n hx hb dX9_toldOf_52 rfl (lv_at hl 1 rfl) ?_
    refine q_geti (ci := 9) (C := RX9) (T := TX9) (N := 27) hx hb hts (fun _ h9 => List.mem_cons_of_mem _ (List.mem_append_right _ h9)) hown hK hg 21 (by decide) rfl rfl (by decide) rfl 11 (by decide) (hts (.fieldLink RX9 204 "JoinMapsModel" "typed" "I") (List.mem_cons_of_mem _ (List.mem_append_left _ (List.mem_of_getElem? (i := 2) rfl)))) rfl rfl dX9_toldOf_53 ?_
    have hR11 := GS_R hg 21 11
    exact ret_i hx hb hr hlocks hg hR11 hm h dX9_toldOf_56
  · have h := h.2.2.2.2.2.2 c0
    refine lv_tableIn (off := 54) (tgt := 57) hx hb dX9_toldOf_3 (by rw [iI_int ha1, c0]; decide) (by rw [iI_int ha1, c0]; decide) (by rw [iI_int ha1, c0]; rfl) (by decide) ?_
    refine lv_aload_n hx hb dX9_toldOf_57 rfl (lv_at hl 1 rfl) ?_
    refine q_geti (ci := 9) (C := RX9) (T := TX9) (N := 27) hx hb hts (fun _ h9 => List.mem_cons_of_mem _ (List.mem_append_right _ h9)) hown hK hg 21 (by decide) rfl rfl (by decide) rfl 9 (by decide) (hts (.fieldLink RX9 141 "JoinMapsModel" "mixer" "I") (List.mem_cons_of_mem _ (List.mem_append_left _ (List.mem_of_getElem? (i := 3) rfl)))) rfl rfl dX9_toldOf_58 ?_
    have hR12 := GS_R hg 21 9
    exact ret_i hx hb hr hlocks hg hR12 hm h dX9_toldOf_61
theorem hdX9_told : yX9_told.cls ≠ "java/lang/invoke/MethodHandle" ∧ yX9_told.cls ≠ "java/lang/invoke/VarHandle" ∧ (parseMethodDescriptor yX9_told.desc).map (fun d => d.parameters.length) = some 1 := by decide +kernel
set_option maxRecDepth 100000 in
set_option maxHeartbeats 4000000 in
theorem ctX9_told (l : Launch) (E : Ev) (a1 : Int) (σ : SS) (Q : Int → SS → Prop) (ha1 : R32 a1) (h : wX9_told a1 σ Q) : Met l yX9_told wsX9_told ({ frames := 1, cells := 0, slots := 0, locals := 25 } : Room) (Pc E σ [.ref (ea E 21), .int (iI (a1))]) (Qi E (sz σ) σ Q) 0 0 (Av E) := by
  rw [wX9_told] at h
  refine Met.ofW (cc := cX9_told) (maxL := 2) (ret := (some .int)) (by decide) rfl ?_
  intro p e s m args below meth c s₁ B hml hv
  obtain ⟨rfl, hH, hK, hN⟩ := hv
  have hx := B.exec
  have hb := B.bytes
  have hr := B.returns
  have hts := atoms_spec (ws := wsX9_told) B.pre
  have hown : s.vm.findClass RX9 = some m.cls := findClass_of_methodNamed B.named
  have hlocks := B.notSynchronized
  have hg : GS E σ s s.heap [] := ⟨hH, va_S.rf⟩
  have hm : Mo (sz σ) σ σ := Mo.rf (Nat.le_refl _)
  have hl := ent (vs := [.ref (ea E 21), .int (iI (a1))]) (n := 2) (cats_x (cats_i cats_nil)) (Nat.le_of_ble_eq_true rfl)
  rw [lg_entry_eq]
  generalize (lg_sl ([.ref (ea E 21), .int (iI (a1))]) ++ List.replicate (2 - (lg_sl ([.ref (ea E 21), .int (iI (a1))])).length) Slot.unset).toArray = ls at hl ⊢
  have hl : lv_has ls 2 [(0, .ref (ea E 21)), (1, .int (iI (a1)))] := hl
  refine lv_iload_n hx hb dX9_told_0 rfl (lv_at hl 1 rfl) ?_
  refine q_i2l hx hb ha1 dX9_told_1 ?_
  refine lv_lconst (v := lI 0) hx hb dX9_told_2 (by decide) ?_
  refine q_ldc2 (z := 6) hx hb hown (hts (.constantLong RX9 274 (6)) (List.mem_cons_of_mem _ (List.mem_append_left _ (List.mem_of_getElem? (i := 0) rfl)))) (by decide) dX9_told_3 ?_
  refine call_z (run_S (As := [.long (lI (a1)), .long (lI (0)), .long (lI (6))]) (rest := []) ⟨hx, hb, hml, hown, hts⟩ (ctX9_in l E a1 0 6 σ _ (R64_of ha1) (by decide) (by decide) h) (va_cwS 3 hts gX9_told_X9_in rfl rfl rfl hdX9_in ⟨Nat.le_of_ble_eq_true rfl, Nat.le_of_ble_eq_true rfl⟩) hK hN hg rfl hl.1 rfl (cat_sum _ (by simp)) dX9_told_6 ⟨Nat.le_refl 0, Nat.le_refl 0⟩) hg (fun r2 s1 H locs hz3 hm2 h hg => ?_)
  have hm := hm.tn hm2
  refine k_eq (tgt := 20) hx hb dX9_told_9 (by decide) (z_R hz3) (fun c4 => ?_) (fun c4 => ?_)
  · have h := h.1 c4
    refine lv_aload_n hx hb dX9_told_20 rfl (lv_at hl 0 rfl) ?_
    refine q_ldc (z := (-2000000002)) hx hb hown (hts (.constant RX9 61 (-2000000002)) (List.mem_cons_of_mem _ (List.mem_append_left _ (List.mem_of_getElem? (i := 1) rfl)))) (by decide) dX9_told_21 ?_
    refine call_i (run_V (a := ea E 21) (As := [.int (iI ((-2000000002)))]) (rest := []) ⟨hx, hb, hml, hown, hts⟩ (ctX9_refuses l E (-2000000002) s1 _ (by decide) h) (cwV 1 hts gX9_told_X9_refuses rfl rfl rfl ⟨rfl, hdX9_refuses⟩ ⟨Nat.le_of_ble_eq_true rfl, Nat.le_of_ble_eq_true rfl⟩) hK hN hg (recv_x (ci := 9) (C := RX9) (T := TX9) (N := 27) hg hK (by decide) rfl (by decide) rfl) rfl hl.1 rfl (cat_sum _ (by simp)) dX9_told_23 ⟨Nat.le_refl 0, Nat.le_refl 0⟩) hg (fun r6 s5 H locs hz7 hm2 h hg => ?_)
    have hm := hm.tn hm2
    exact ret_i hx hb hr hlocks hg hz7 hm h dX9_told_26
  · have h := h.2 c4
    refine lv_aload_n hx hb dX9_told_12 rfl (lv_at hl 0 rfl) ?_
    refine lv_iload_n hx hb dX9_told_13 rfl (lv_at hl 1 rfl) ?_
    refine call_i (run_V (a := ea E 21) (As := [.int (iI (a1))]) (rest := []) ⟨hx, hb, hml, hown, hts⟩ (ctX9_toldOf l E a1 s1 _ ha1 h) (cwV 1 hts gX9_told_X9_toldOf rfl rfl rfl ⟨rfl, hdX9_toldOf⟩ ⟨Nat.le_of_ble_eq_true rfl, Nat.le_of_ble_eq_true rfl⟩) hK hN hg (recv_x (ci := 9) (C := RX9) (T := TX9) (N := 27) hg hK (by decide) rfl (by decide) rfl) rfl hl.1 rfl (cat_sum _ (by simp)) dX9_told_14 ⟨Nat.le_refl 0, Nat.le_refl 0⟩) hg (fun r9 s8 H locs hz10 hm2 h hg => ?_)
    have hm := hm.tn hm2
    refine lv_goto (tgt := 26) hx hb dX9_told_17 (by decide) ?_
    exact ret_i hx hb hr hlocks hg hz10 hm h dX9_told_26
theorem hdX9_digest : yX9_digest.cls ≠ "java/lang/invoke/MethodHandle" ∧ yX9_digest.cls ≠ "java/lang/invoke/VarHandle" ∧ (parseMethodDescriptor yX9_digest.desc).map (fun d => d.parameters.length) = some 0 := by decide +kernel
set_option maxRecDepth 100000 in
set_option maxHeartbeats 4000000 in
theorem ctX9_digest (l : Launch) (E : Ev)  (σ : SS) (Q : Int → SS → Prop)  (h : wX9_digest  σ Q) : Met l yX9_digest wsX9_digest ({ frames := 2, cells := 0, slots := 0, locals := 42 } : Room) (Pc E σ [.ref (ea E 21)]) (Ql E (sz σ) σ Q) 0 0 (Av E) := by
  rw [wX9_digest] at h
  refine Met.ofW (cc := cX9_digest) (maxL := 5) (ret := (some .long)) (by decide) rfl ?_
  intro p e s m args below meth c s₁ B hml hv
  obtain ⟨rfl, hH, hK, hN⟩ := hv
  have hx := B.exec
  have hb := B.bytes
  have hr := B.returns
  have hts := atoms_spec (ws := wsX9_digest) B.pre
  have hown : s.vm.findClass RX9 = some m.cls := findClass_of_methodNamed B.named
  have hlocks := B.notSynchronized
  have hg : GS E σ s s.heap [] := ⟨hH, va_S.rf⟩
  have hm : Mo (sz σ) σ σ := Mo.rf (Nat.le_refl _)
  have hl := ent (vs := [.ref (ea E 21)]) (n := 5) (cats_x cats_nil) (Nat.le_of_ble_eq_true rfl)
  rw [lg_entry_eq]
  generalize (lg_sl ([.ref (ea E 21)]) ++ List.replicate (5 - (lg_sl ([.ref (ea E 21)])).length) Slot.unset).toArray = ls at hl ⊢
  have hl : lv_has ls 5 [(0, .ref (ea E 21))] := hl
  have J56 : ∀ (K33 : Int → Int → SS → Prop) (hK33 : ∀ (v1 : Int) (v3 : Int) (sL : SS) (H : Heap) (locs : List Loc) (ls : Array Slot), GS E sL s H locs → Mo (sz σ) σ sL → lv_has ls 5 [(0, .ref (ea E 21)), (1, .long (lI (v1))), (3, .int (iI (v3)))] → K33 v1 v3 sL → W p l e (headSpec wsX9_digest ({ frames := 2, cells := 0, slots := 0, locals := 42 } : Room)).room s m (List.toArray [.ref (ea E 21)]) below meth c H locs 0 0 (MQ below (Ql E (sz σ) σ Q) (List.toArray [.ref (ea E 21)]) s 0 0 (Av E)) (F0 m 33 ls [])) (k : Nat), ∀ (v1 : Int) (v3 : Int) (v4 : Int) (sL : SS) (H : Heap) (locs : List Loc) (ls : Array Slot), GS E sL s H locs → Mo (sz σ) σ sL → lv_has ls 5 [(0, .ref (ea E 21)), (1, .long (lI (v1))), (3, .int (iI (v3))), (4, .int (iI (v4)))] → wX9_digest_L56  Q K33 k v1 v3 v4 sL → W p l e (headSpec wsX9_digest ({ frames := 2, cells := 0, slots := 0, locals := 42 } : Room)).room s m (List.toArray [.ref (ea E 21)]) below meth c H locs 0 0 (MQ below (Ql E (sz σ) σ Q) (List.toArray [.ref (ea E 21)]) s 0 0 (Av E)) (F0 m 56 ls []) := by
    intro K33 hK33
    intro k
    induction k with
    | zero => intro v1 v3 v4 sL H locs ls hg hm hl h; exact False.elim h
    | succ k ih =>
      intro v1 v3 v4 sL H locs ls hg hm hl h
      rw [wX9_digest_L56] at h
      refine lv_iload hx hb dX9_digest_56 (lv_at hl 3 rfl) ?_
      refine lv_aload_n hx hb dX9_digest_58 rfl (lv_at hl 0 rfl) ?_
      refine q_getx (ci := 9) (C := RX9) (T := TX9) (N := 27) (j := 23) hx hb hts (fun _ h9 => List.mem_cons_of_mem _ (List.mem_append_right _ h9)) hown hK hg 21 (by decide) rfl rfl (by decide) rfl 1 (by decide) (hts (.fieldLink RX9 13 "JoinMapsModel" "sizes" "[I") (List.mem_cons_of_mem _ (List.mem_append_left _ (List.mem_append_left _ (List.mem_of_getElem? (i := 2) rfl))))) rfl rfl rfl dX9_digest_59 ?_
      refine lv_iload_n hx hb dX9_digest_62 rfl (lv_at hl 2 rfl) ?_
      obtain ⟨hP11, hP12, h⟩ := h
      refine q_iald (N := 6) hx hb hK hg 23 (by decide) rfl rfl hP11 hP12 (by decide) dX9_digest_63 ?_
      have hR13 := GS_R hg 23 (v3 : Int).toNat
      obtain ⟨hR14, h⟩ := h
      refine j_ge (tgt := 103) hx hb dX9_digest_64 (by decide) hR14 hR13 (fun c15 => ?_) (fun c15 => ?_)
      · have h := h.1 c15
        refine lv_iinc (v := iI (v3 + 1)) (lv' := [(3, .int (iI (v3 + 1))), (0, .ref (ea E 21)), (1, .long (lI (v1))), (4, .int (iI (v4)))]) hx hb dX9_digest_103 hl (k := 2) rfl (iI_add _ _) (by decide) rfl (fun ls hl => ?_)
        refine lv_goto (tgt := 33) hx hb dX9_digest_106 (by decide) ?_
        exact hK33 (v1) (v3 + 1) (sL) _ _ _ hg hm (lv_sub hl [1, 2, 0] rfl) h
      · have h := h.2 c15
        refine q_ldc2 (z := 31) hx hb hown (hts (.constantLong RX9 281 (31)) (List.mem_cons_of_mem _ (List.mem_append_left _ (List.mem_append_left _ (List.mem_of_getElem? (i := 1) rfl))))) (by decide) dX9_digest_67 ?_
        refine lv_lload_n hx hb dX9_digest_70 rfl (lv_at hl 1 rfl) ?_
        refine q_lmul hx hb dX9_digest_71 ?_
        refine lv_aload_n hx hb dX9_digest_72 rfl (lv_at hl 0 rfl) ?_
        refine lv_iload_n hx hb dX9_digest_73 rfl (lv_at hl 2 rfl) ?_
        refine lv_iload hx hb dX9_digest_74 (lv_at hl 3 rfl) ?_
        obtain ⟨hR16, h⟩ := h
        refine call_i (run_V (a := ea E 21) (As := [.int (iI (v3)), .int (iI (v4))]) (rest := [.long (lI ((31 * v1)))]) ⟨hx, hb, hml, hown, hts⟩ (ctX9_keyAt l E v3 v4 sL _ hR16 hR14 h) (cwV 2 hts gX9_digest_X9_keyAt rfl rfl rfl ⟨rfl, hdX9_keyAt⟩ ⟨Nat.le_of_ble_eq_true rfl, Nat.le_of_ble_eq_true rfl⟩) hK hN hg (recv_x (ci := 9) (C := RX9) (T := TX9) (N := 27) hg hK (by decide) rfl (by decide) rfl) rfl hl.1 rfl (cat_sum _ (by simp)) dX9_digest_76 ⟨Nat.le_refl 0, Nat.le_refl 0⟩) hg (fun r18 s17 H locs hz19 hm2 h hg => ?_)
        have hm := hm.tn hm2
        refine q_i2l hx hb hz19 dX9_digest_79 ?_
        refine q_ladd hx hb dX9_digest_80 ?_
        refine lv_lstore_n (i := 1) (lv' := [(1, .long (lI (((31 * v1) + r18)))), (0, .ref (ea E 21)), (3, .int (iI (v3))), (4, .int (iI (v4)))]) hx hb dX9_digest_81 rfl hl (by decide) rfl (fun ls hl => ?_)
        refine q_ldc2 (z := 31) hx hb hown (hts (.constantLong RX9 281 (31)) (List.mem_cons_of_mem _ (List.mem_append_left _ (List.mem_append_left _ (List.mem_of_getElem? (i := 1) rfl))))) (by decide) dX9_digest_82 ?_
        refine lv_lload_n hx hb dX9_digest_85 rfl (lv_at hl 0 rfl) ?_
        refine q_lmul hx hb dX9_digest_86 ?_
        refine lv_aload_n hx hb dX9_digest_87 rfl (lv_at hl 1 rfl) ?_
        refine lv_iload_n hx hb dX9_digest_88 rfl (lv_at hl 2 rfl) ?_
        refine lv_iload hx hb dX9_digest_89 (lv_at hl 3 rfl) ?_
        refine call_i (run_V (a := ea E 21) (As := [.int (iI (v3)), .int (iI (v4))]) (rest := [.long (lI ((31 * ((31 * v1) + r18))))]) ⟨hx, hb, hml, hown, hts⟩ (ctX9_valueAt l E v3 v4 s17 _ hR16 hR14 h) (cwV 2 hts gX9_digest_X9_valueAt rfl rfl rfl ⟨rfl, hdX9_valueAt⟩ ⟨Nat.le_of_ble_eq_true rfl, Nat.le_of_ble_eq_true rfl⟩) hK hN hg (recv_x (ci := 9) (C := RX9) (T := TX9) (N := 27) hg hK (by decide) rfl (by decide) rfl) rfl hl.1 rfl (cat_sum _ (by simp)) dX9_digest_91 ⟨Nat.le_refl 0, Nat.le_refl 0⟩) hg (fun r21 s20 H locs hz22 hm2 h hg => ?_)
        have hm := hm.tn hm2
        refine q_i2l hx hb hz22 dX9_digest_94 ?_
        refine q_ladd hx hb dX9_digest_95 ?_
        refine lv_lstore_n (i := 1) (lv' := [(1, .long (lI (((31 * ((31 * v1) + r18)) + r21)))), (0, .ref (ea E 21)), (3, .int (iI (v3))), (4, .int (iI (v4)))]) hx hb dX9_digest_96 rfl hl (by decide) rfl (fun ls hl => ?_)
        refine lv_iinc (v := iI (v4 + 1)) (lv' := [(4, .int (iI (v4 + 1))), (1, .long (lI (((31 * ((31 * v1) + r18)) + r21)))), (0, .ref (ea E 21)), (3, .int (iI (v3)))]) hx hb dX9_digest_97 hl (k := 3) rfl (iI_add _ _) (by decide) rfl (fun ls hl => ?_)
        refine lv_goto (tgt := 56) hx hb dX9_digest_100 (by decide) ?_
        exact ih (((31 * ((31 * v1) + r18)) + r21)) (v3) (v4 + 1) (s20) _ _ _ hg hm (lv_sub hl [2, 1, 3, 0] rfl) h
  have J33 : ∀ (k : Nat), ∀ (v1 : Int) (v3 : Int) (sL : SS) (H : Heap) (locs : List Loc) (ls : Array Slot), GS E sL s H locs → Mo (sz σ) σ sL → lv_has ls 5 [(0, .ref (ea E 21)), (1, .long (lI (v1))), (3, .int (iI (v3)))] → wX9_digest_L33  Q  k v1 v3 sL → W p l e (headSpec wsX9_digest ({ frames := 2, cells := 0, slots := 0, locals := 42 } : Room)).room s m (List.toArray [.ref (ea E 21)]) below meth c H locs 0 0 (MQ below (Ql E (sz σ) σ Q) (List.toArray [.ref (ea E 21)]) s 0 0 (Av E)) (F0 m 33 ls []) := by
    intro k
    induction k with
    | zero => intro v1 v3 sL H locs ls hg hm hl h; exact False.elim h
    | succ k ih =>
      intro v1 v3 sL H locs ls hg hm hl h
      rw [wX9_digest_L33] at h
      refine lv_iload_n hx hb dX9_digest_33 rfl (lv_at hl 2 rfl) ?_
      refine lv_bipush (v := iI 6) hx hb dX9_digest_34 (by decide) ?_
      obtain ⟨hR6, h⟩ := h
      refine j_ge (tgt := 109) hx hb dX9_digest_36 (by decide) hR6 (by decide) (fun c7 => ?_) (fun c7 => ?_)
      · have h := h.1 c7
        refine lv_lload_n hx hb dX9_digest_109 rfl (lv_at hl 1 rfl) ?_
        exact ret_l hx hb hr hlocks hg  hm h dX9_digest_110
      · have h := h.2 c7
        refine q_ldc2 (z := 31) hx hb hown (hts (.constantLong RX9 281 (31)) (List.mem_cons_of_mem _ (List.mem_append_left _ (List.mem_append_left _ (List.mem_of_getElem? (i := 1) rfl))))) (by decide) dX9_digest_39 ?_
        refine lv_lload_n hx hb dX9_digest_42 rfl (lv_at hl 1 rfl) ?_
        refine q_lmul hx hb dX9_digest_43 ?_
        refine lv_aload_n hx hb dX9_digest_44 rfl (lv_at hl 0 rfl) ?_
        refine q_getx (ci := 9) (C := RX9) (T := TX9) (N := 27) (j := 23) hx hb hts (fun _ h9 => List.mem_cons_of_mem _ (List.mem_append_right _ h9)) hown hK hg 21 (by decide) rfl rfl (by decide) rfl 1 (by decide) (hts (.fieldLink RX9 13 "JoinMapsModel" "sizes" "[I") (List.mem_cons_of_mem _ (List.mem_append_left _ (List.mem_append_left _ (List.mem_of_getElem? (i := 2) rfl))))) rfl rfl rfl dX9_digest_45 ?_
        refine lv_iload_n hx hb dX9_digest_48 rfl (lv_at hl 2 rfl) ?_
        obtain ⟨hP8, hP9, h⟩ := h
        refine q_iald (N := 6) hx hb hK hg 23 (by decide) rfl rfl hP8 hP9 (by decide) dX9_digest_49 ?_
        have hR10 := GS_R hg 23 (v3 : Int).toNat
        refine q_i2l hx hb hR10 dX9_digest_50 ?_
        refine q_ladd hx hb dX9_digest_51 ?_
        refine lv_lstore_n (i := 1) (lv' := [(1, .long (lI (((31 * v1) + (sn sL 23 (v3 : Int).toNat))))), (0, .ref (ea E 21)), (3, .int (iI (v3)))]) hx hb dX9_digest_52 rfl hl (by decide) rfl (fun ls hl => ?_)
        refine lv_iconst (v := iI 0) hx hb dX9_digest_53 (by decide) ?_
        refine lv_istore (i := 4) (lv' := [(4, .int (iI (0))), (1, .long (lI (((31 * v1) + (sn sL 23 (v3 : Int).toNat))))), (0, .ref (ea E 21)), (3, .int (iI (v3)))]) hx hb dX9_digest_54 hl (by decide) rfl (fun ls hl => ?_)
        obtain ⟨kk, h⟩ := h
        exact J56 _ ih kk (((31 * v1) + (sn sL 23 (v3 : Int).toNat))) (v3) (0) (sL) _ _ _ hg hm (lv_sub hl [2, 1, 3, 0] rfl) h
  have J6 : ∀ (k : Nat), ∀ (v1 : Int) (v3 : Int) (sL : SS) (H : Heap) (locs : List Loc) (ls : Array Slot), GS E sL s H locs → Mo (sz σ) σ sL → lv_has ls 5 [(0, .ref (ea E 21)), (1, .long (lI (v1))), (3, .int (iI (v3)))] → wX9_digest_L6  Q  k v1 v3 sL → W p l e (headSpec wsX9_digest ({ frames := 2, cells := 0, slots := 0, locals := 42 } : Room)).room s m (List.toArray [.ref (ea E 21)]) below meth c H locs 0 0 (MQ below (Ql E (sz σ) σ Q) (List.toArray [.ref (ea E 21)]) s 0 0 (Av E)) (F0 m 6 ls []) := by
    intro k
    induction k with
    | zero => intro v1 v3 sL H locs ls hg hm hl h; exact False.elim h
    | succ k ih =>
      intro v1 v3 sL H locs ls hg hm hl h
      rw [wX9_digest_L6] at h
      refine lv_iload_n hx hb dX9_digest_6 rfl (lv_at hl 2 rfl) ?_
      refine lv_bipush (v := iI 7) hx hb dX9_digest_7 (by decide) ?_
      obtain ⟨hR1, h⟩ := h
      refine j_ge (tgt := 31) hx hb dX9_digest_9 (by decide) hR1 (by decide) (fun c2 => ?_) (fun c2 => ?_)
      · have h := h.1 c2
        refine lv_iconst (v := iI 0) hx hb dX9_digest_31 (by decide) ?_
        refine lv_istore_n (i := 3) (lv' := [(3, .int (iI (0))), (0, .ref (ea E 21)), (1, .long (lI (v1)))]) hx hb dX9_digest_32 rfl hl (by decide) rfl (fun ls hl => ?_)
        obtain ⟨kk, h⟩ := h
        exact J33  kk (v1) (0) (sL) _ _ _ hg hm (lv_sub hl [1, 2, 0] rfl) h
      · have h := h.2 c2
        refine q_ldc2 (z := 31) hx hb hown (hts (.constantLong RX9 281 (31)) (List.mem_cons_of_mem _ (List.mem_append_left _ (List.mem_append_left _ (List.mem_of_getElem? (i := 1) rfl))))) (by decide) dX9_digest_12 ?_
        refine lv_lload_n hx hb dX9_digest_15 rfl (lv_at hl 1 rfl) ?_
        refine q_lmul hx hb dX9_digest_16 ?_
        refine lv_aload_n hx hb dX9_digest_17 rfl (lv_at hl 0 rfl) ?_
        refine lv_iload_n hx hb dX9_digest_18 rfl (lv_at hl 2 rfl) ?_
        refine call_i (run_V (a := ea E 21) (As := [.int (iI (v3))]) (rest := [.long (lI ((31 * v1)))]) ⟨hx, hb, hml, hown, hts⟩ (ctX9_toldOf l E v3 sL _ hR1 h) (cwV 1 hts gX9_digest_X9_toldOf rfl rfl rfl ⟨rfl, hdX9_toldOf⟩ ⟨Nat.le_of_ble_eq_true rfl, Nat.le_of_ble_eq_true rfl⟩) hK hN hg (recv_x (ci := 9) (C := RX9) (T := TX9) (N := 27) hg hK (by decide) rfl (by decide) rfl) rfl hl.1 rfl (cat_sum _ (by simp)) dX9_digest_19 ⟨Nat.le_refl 0, Nat.le_refl 0⟩) hg (fun r4 s3 H locs hz5 hm2 h hg => ?_)
        have hm := hm.tn hm2
        refine q_i2l hx hb hz5 dX9_digest_22 ?_
        refine q_ladd hx hb dX9_digest_23 ?_
        refine lv_lstore_n (i := 1) (lv' := [(1, .long (lI (((31 * v1) + r4)))), (0, .ref (ea E 21)), (3, .int (iI (v3)))]) hx hb dX9_digest_24 rfl hl (by decide) rfl (fun ls hl => ?_)
        refine lv_iinc (v := iI (v3 + 1)) (lv' := [(3, .int (iI (v3 + 1))), (1, .long (lI (((31 * v1) + r4)))), (0, .ref (ea E 21))]) hx hb dX9_digest_25 hl (k := 2) rfl (iI_add _ _) (by decide) rfl (fun ls hl => ?_)
        refine lv_goto (tgt := 6) hx hb dX9_digest_28 (by decide) ?_
        exact ih (((31 * v1) + r4)) (v3 + 1) (s3) _ _ _ hg hm (lv_sub hl [2, 1, 0] rfl) h
  refine q_ldc2 (z := 1889) hx hb hown (hts (.constantLong RX9 279 (1889)) (List.mem_cons_of_mem _ (List.mem_append_left _ (List.mem_append_left _ (List.mem_of_getElem? (i := 0) rfl))))) (by decide) dX9_digest_0 ?_
  refine lv_lstore_n (i := 1) (lv' := [(1, .long (lI (1889))), (0, .ref (ea E 21))]) hx hb dX9_digest_3 rfl hl (by decide) rfl (fun ls hl => ?_)
  refine lv_iconst (v := iI 0) hx hb dX9_digest_4 (by decide) ?_
  refine lv_istore_n (i := 3) (lv' := [(3, .int (iI (0))), (1, .long (lI (1889))), (0, .ref (ea E 21))]) hx hb dX9_digest_5 rfl hl (by decide) rfl (fun ls hl => ?_)
  obtain ⟨kk, h⟩ := h
  exact J6  kk (1889) (0) (σ) _ _ _ hg hm (lv_sub hl [2, 1, 0] rfl) h
