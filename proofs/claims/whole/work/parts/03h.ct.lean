theorem hdX8_told : yX8_told.cls ≠ "java/lang/invoke/MethodHandle" ∧ yX8_told.cls ≠ "java/lang/invoke/VarHandle" ∧ (parseMethodDescriptor yX8_told.desc).map (fun d => d.parameters.length) = some 1 := by decide +kernel
set_option maxRecDepth 100000 in
set_option maxHeartbeats 4000000 in
theorem ctX8_told (l : Launch) (E : Ev) (a1 : Int) (σ : SS) (Q : Int → SS → Prop) (ha1 : R32 a1) (h : wX8_told a1 σ Q) : Met l yX8_told wsX8_told ({ frames := 2, cells := 0, slots := 0, locals := 42 } : Room) (Pc E σ [.ref (ea E 0), .int (iI (a1))]) (Qi E (sz σ) σ Q) 0 0 (Av E) := by
  rw [wX8_told] at h
  refine Met.ofW (cc := cX8_told) (maxL := 2) (ret := (some .int)) (by decide) rfl ?_
  intro p e s m args below meth c s₁ B hml hv
  obtain ⟨rfl, hH, hK, hN⟩ := hv
  have hx := B.exec
  have hb := B.bytes
  have hr := B.returns
  have hts := atoms_spec (ws := wsX8_told) B.pre
  have hown : s.vm.findClass RX8 = some m.cls := findClass_of_methodNamed B.named
  have hlocks := B.notSynchronized
  have hg : GS E σ s s.heap [] := ⟨hH, va_S.rf⟩
  have hm : Mo (sz σ) σ σ := Mo.rf (Nat.le_refl _)
  have hl := ent (vs := [.ref (ea E 0), .int (iI (a1))]) (n := 2) (cats_x (cats_i cats_nil)) (Nat.le_of_ble_eq_true rfl)
  rw [lg_entry_eq]
  generalize (lg_sl ([.ref (ea E 0), .int (iI (a1))]) ++ List.replicate (2 - (lg_sl ([.ref (ea E 0), .int (iI (a1))])).length) Slot.unset).toArray = ls at hl ⊢
  have hl : lv_has ls 2 [(0, .ref (ea E 0)), (1, .int (iI (a1)))] := hl
  refine lv_iload_n hx hb dX8_told_0 rfl (lv_at hl 1 rfl) ?_
  rcases (show (a1 < 0 ∨ 6 < a1) ∨ a1 = 0 ∨ a1 = 1 ∨ a1 = 2 ∨ a1 = 3 ∨ a1 = 4 ∨ a1 = 5 ∨ a1 = 6 by omega) with c0 | c0 | c0 | c0 | c0 | c0 | c0 | c0
  · have h := h.1 c0
    refine lv_tableOut (tgt := 85) hx hb dX8_told_1 (by rw [iI_int ha1]; omega) (by decide) ?_
    refine lv_aload_n hx hb dX8_told_85 rfl (lv_at hl 0 rfl) ?_
    refine call_i (run_V (a := ea E 0) (As := []) (rest := []) ⟨hx, hb, hml, hown, hts⟩ (ctX8_bad l E  σ _  h) (cwV 0 hts gX8_told_X8_bad rfl rfl rfl ⟨rfl, hdX8_bad⟩ ⟨Nat.le_of_ble_eq_true rfl, Nat.le_of_ble_eq_true rfl⟩) hK hN hg (recv_x (ci := 8) (C := RX8) (T := TX8) (N := 14) hg hK (by decide) rfl (by decide) rfl) rfl hl.1 rfl (cat_sum _ (by simp)) dX8_told_86 ⟨Nat.le_refl 0, Nat.le_refl 0⟩) hg (fun r2 s1 H locs hz3 hm2 h hg => ?_)
    have hm := hm.tn hm2
    exact ret_i hx hb hr hlocks hg hz3 hm h dX8_told_89
  · have h := h.2.1 c0
    refine lv_tableIn (off := 43) (tgt := 44) hx hb dX8_told_1 (by rw [iI_int ha1, c0]; decide) (by rw [iI_int ha1, c0]; decide) (by rw [iI_int ha1, c0]; rfl) (by decide) ?_
    refine lv_aload_n hx hb dX8_told_44 rfl (lv_at hl 0 rfl) ?_
    refine q_geti (ci := 8) (C := RX8) (T := TX8) (N := 14) hx hb hts (fun _ h9 => List.mem_cons_of_mem _ (List.mem_append_left _ (List.mem_append_left _ (List.mem_append_left _ (List.mem_append_right _ h9))))) hown hK hg 0 (by decide) rfl rfl (by decide) rfl 11 (by decide) (hts (.fieldLink RX8 268 "JoinMaps" "bads" "I") (List.mem_cons_of_mem _ (List.mem_append_left _ (List.mem_append_left _ (List.mem_append_left _ (List.mem_append_left _ (List.mem_of_getElem? (i := 0) rfl))))))) rfl rfl dX8_told_45 ?_
    have hR4 := GS_R hg 0 11
    exact ret_i hx hb hr hlocks hg hR4 hm h dX8_told_48
  · have h := h.2.2.1 c0
    refine lv_tableIn (off := 48) (tgt := 49) hx hb dX8_told_1 (by rw [iI_int ha1, c0]; decide) (by rw [iI_int ha1, c0]; decide) (by rw [iI_int ha1, c0]; rfl) (by decide) ?_
    refine lv_aload_n hx hb dX8_told_49 rfl (lv_at hl 0 rfl) ?_
    refine q_geti (ci := 8) (C := RX8) (T := TX8) (N := 14) hx hb hts (fun _ h9 => List.mem_cons_of_mem _ (List.mem_append_left _ (List.mem_append_left _ (List.mem_append_left _ (List.mem_append_right _ h9))))) hown hK hg 0 (by decide) rfl rfl (by decide) rfl 12 (by decide) (hts (.fieldLink RX8 271 "JoinMaps" "noes" "I") (List.mem_cons_of_mem _ (List.mem_append_left _ (List.mem_append_left _ (List.mem_append_left _ (List.mem_append_left _ (List.mem_of_getElem? (i := 1) rfl))))))) rfl rfl dX8_told_50 ?_
    have hR5 := GS_R hg 0 12
    exact ret_i hx hb hr hlocks hg hR5 hm h dX8_told_53
  · have h := h.2.2.2.1 c0
    refine lv_tableIn (off := 53) (tgt := 54) hx hb dX8_told_1 (by rw [iI_int ha1, c0]; decide) (by rw [iI_int ha1, c0]; decide) (by rw [iI_int ha1, c0]; rfl) (by decide) ?_
    refine lv_aload_n hx hb dX8_told_54 rfl (lv_at hl 0 rfl) ?_
    refine q_geti (ci := 8) (C := RX8) (T := TX8) (N := 14) hx hb hts (fun _ h9 => List.mem_cons_of_mem _ (List.mem_append_left _ (List.mem_append_left _ (List.mem_append_left _ (List.mem_append_right _ h9))))) hown hK hg 0 (by decide) rfl rfl (by decide) rfl 13 (by decide) (hts (.fieldLink RX8 274 "JoinMaps" "fulls" "I") (List.mem_cons_of_mem _ (List.mem_append_left _ (List.mem_append_left _ (List.mem_append_left _ (List.mem_append_left _ (List.mem_of_getElem? (i := 2) rfl))))))) rfl rfl dX8_told_55 ?_
    have hR6 := GS_R hg 0 13
    exact ret_i hx hb hr hlocks hg hR6 hm h dX8_told_58
  · have h := h.2.2.2.2.1 c0
    refine lv_tableIn (off := 58) (tgt := 59) hx hb dX8_told_1 (by rw [iI_int ha1, c0]; decide) (by rw [iI_int ha1, c0]; decide) (by rw [iI_int ha1, c0]; rfl) (by decide) ?_
    refine lv_aload_n hx hb dX8_told_59 rfl (lv_at hl 0 rfl) ?_
    refine q_getx (ci := 8) (C := RX8) (T := TX8) (N := 14) (j := 4) hx hb hts (fun _ h9 => List.mem_cons_of_mem _ (List.mem_append_left _ (List.mem_append_left _ (List.mem_append_left _ (List.mem_append_right _ h9))))) hown hK hg 0 (by decide) rfl rfl (by decide) rfl 3 (by decide) (hts (.fieldLink RX8 34 "JoinMaps" "versions" "LJoinMaps$Versions;") (List.mem_cons_of_mem _ (List.mem_append_left _ (List.mem_append_left _ (List.mem_append_left _ (List.mem_append_left _ (List.mem_of_getElem? (i := 3) rfl))))))) rfl rfl rfl dX8_told_60 ?_
    refine q_geti (ci := 7) (C := RX7) (T := TX7) (N := 3) hx hb hts (fun _ h9 => List.mem_cons_of_mem _ (List.mem_append_left _ (List.mem_append_left _ (List.mem_append_right _ h9)))) hown hK hg 4 (by decide) rfl rfl (by decide) rfl 1 (by decide) (hts (.fieldLink RX8 262 "JoinMaps$Versions" "count" "I") (List.mem_cons_of_mem _ (List.mem_append_left _ (List.mem_append_left _ (List.mem_append_left _ (List.mem_append_left _ (List.mem_of_getElem? (i := 4) rfl))))))) rfl rfl dX8_told_63 ?_
    have hR7 := GS_R hg 4 1
    exact ret_i hx hb hr hlocks hg hR7 hm h dX8_told_66
  · have h := h.2.2.2.2.2.1 c0
    refine lv_tableIn (off := 66) (tgt := 67) hx hb dX8_told_1 (by rw [iI_int ha1, c0]; decide) (by rw [iI_int ha1, c0]; decide) (by rw [iI_int ha1, c0]; rfl) (by decide) ?_
    refine lv_aload_n hx hb dX8_told_67 rfl (lv_at hl 0 rfl) ?_
    refine q_geti (ci := 8) (C := RX8) (T := TX8) (N := 14) hx hb hts (fun _ h9 => List.mem_cons_of_mem _ (List.mem_append_left _ (List.mem_append_left _ (List.mem_append_left _ (List.mem_append_right _ h9))))) hown hK hg 0 (by decide) rfl rfl (by decide) rfl 10 (by decide) (hts (.fieldLink RX8 237 "JoinMaps" "typed" "I") (List.mem_cons_of_mem _ (List.mem_append_left _ (List.mem_append_left _ (List.mem_append_left _ (List.mem_append_left _ (List.mem_of_getElem? (i := 5) rfl))))))) rfl rfl dX8_told_68 ?_
    have hR8 := GS_R hg 0 10
    exact ret_i hx hb hr hlocks hg hR8 hm h dX8_told_71
  · have h := h.2.2.2.2.2.2.1 c0
    refine lv_tableIn (off := 71) (tgt := 72) hx hb dX8_told_1 (by rw [iI_int ha1, c0]; decide) (by rw [iI_int ha1, c0]; decide) (by rw [iI_int ha1, c0]; rfl) (by decide) ?_
    refine lv_aload_n hx hb dX8_told_72 rfl (lv_at hl 0 rfl) ?_
    refine q_getx (ci := 8) (C := RX8) (T := TX8) (N := 14) (j := 2) hx hb hts (fun _ h9 => List.mem_cons_of_mem _ (List.mem_append_left _ (List.mem_append_left _ (List.mem_append_left _ (List.mem_append_right _ h9))))) hown hK hg 0 (by decide) rfl rfl (by decide) rfl 1 (by decide) (hts (.fieldLink RX8 21 "JoinMaps" "blender" "LJoinMaps$Blender;") (List.mem_cons_of_mem _ (List.mem_append_left _ (List.mem_append_left _ (List.mem_append_left _ (List.mem_append_left _ (List.mem_of_getElem? (i := 6) rfl))))))) rfl rfl rfl dX8_told_73 ?_
    refine q_geti (ci := 1) (C := RX1) (T := TX1) (N := 2) hx hb hts (fun _ h9 => List.mem_cons_of_mem _ (List.mem_append_left _ (List.mem_append_right _ h9))) hown hK hg 2 (by decide) rfl rfl (by decide) rfl 1 (by decide) (hts (.fieldLink RX8 234 "JoinMaps$Blender" "mixerKind" "I") (List.mem_cons_of_mem _ (List.mem_append_left _ (List.mem_append_left _ (List.mem_append_left _ (List.mem_append_left _ (List.mem_of_getElem? (i := 7) rfl))))))) rfl rfl dX8_told_76 ?_
    have hR9 := GS_R hg 2 1
    exact ret_i hx hb hr hlocks hg hR9 hm h dX8_told_79
  · have h := h.2.2.2.2.2.2.2 c0
    refine lv_tableIn (off := 79) (tgt := 80) hx hb dX8_told_1 (by rw [iI_int ha1, c0]; decide) (by rw [iI_int ha1, c0]; decide) (by rw [iI_int ha1, c0]; rfl) (by decide) ?_
    refine lv_aload_n hx hb dX8_told_80 rfl (lv_at hl 0 rfl) ?_
    refine call_i (run_V (a := ea E 0) (As := []) (rest := []) ⟨hx, hb, hml, hown, hts⟩ (ctX8_entriesOfAll l E  σ _  h) (cwV 0 hts gX8_told_X8_entriesOfAll rfl rfl rfl ⟨rfl, hdX8_entriesOfAll⟩ ⟨Nat.le_of_ble_eq_true rfl, Nat.le_of_ble_eq_true rfl⟩) hK hN hg (recv_x (ci := 8) (C := RX8) (T := TX8) (N := 14) hg hK (by decide) rfl (by decide) rfl) rfl hl.1 rfl (cat_sum _ (by simp)) dX8_told_81 ⟨Nat.le_refl 0, Nat.le_refl 0⟩) hg (fun r11 s10 H locs hz12 hm2 h hg => ?_)
    have hm := hm.tn hm2
    exact ret_i hx hb hr hlocks hg hz12 hm h dX8_told_84
theorem hdX8_digest : yX8_digest.cls ≠ "java/lang/invoke/MethodHandle" ∧ yX8_digest.cls ≠ "java/lang/invoke/VarHandle" ∧ (parseMethodDescriptor yX8_digest.desc).map (fun d => d.parameters.length) = some 0 := by decide +kernel
set_option maxRecDepth 100000 in
set_option maxHeartbeats 4000000 in
theorem ctX8_digest (l : Launch) (E : Ev)  (σ : SS) (Q : Int → SS → Prop)  (h : wX8_digest  σ Q) : Met l yX8_digest wsX8_digest ({ frames := 47, cells := 0, slots := 0, locals := 1033 } : Room) (Pc E σ [.ref (ea E 0)]) (Ql E (sz σ) σ Q) 0 0 (Av E) := by
  rw [wX8_digest] at h
  refine Met.ofW (cc := cX8_digest) (maxL := 5) (ret := (some .long)) (by decide) rfl ?_
  intro p e s m args below meth c s₁ B hml hv
  obtain ⟨rfl, hH, hK, hN⟩ := hv
  have hx := B.exec
  have hb := B.bytes
  have hr := B.returns
  have hts := atoms_spec (ws := wsX8_digest) B.pre
  have hown : s.vm.findClass RX8 = some m.cls := findClass_of_methodNamed B.named
  have hlocks := B.notSynchronized
  have hg : GS E σ s s.heap [] := ⟨hH, va_S.rf⟩
  have hm : Mo (sz σ) σ σ := Mo.rf (Nat.le_refl _)
  have hl := ent (vs := [.ref (ea E 0)]) (n := 5) (cats_x cats_nil) (Nat.le_of_ble_eq_true rfl)
  rw [lg_entry_eq]
  generalize (lg_sl ([.ref (ea E 0)]) ++ List.replicate (5 - (lg_sl ([.ref (ea E 0)])).length) Slot.unset).toArray = ls at hl ⊢
  have hl : lv_has ls 5 [(0, .ref (ea E 0))] := hl
  have J70 : ∀ (K33 : Int → Int → SS → Prop) (hK33 : ∀ (v1 : Int) (v3 : Int) (sL : SS) (H : Heap) (locs : List Loc) (ls : Array Slot), GS E sL s H locs → Mo (sz σ) σ sL → lv_has ls 5 [(0, .ref (ea E 0)), (1, .long (lI (v1))), (3, .int (iI (v3)))] → K33 v1 v3 sL → W p l e (headSpec wsX8_digest ({ frames := 47, cells := 0, slots := 0, locals := 1033 } : Room)).room s m (List.toArray [.ref (ea E 0)]) below meth c H locs 0 0 (MQ below (Ql E (sz σ) σ Q) (List.toArray [.ref (ea E 0)]) s 0 0 (Av E)) (F0 m 33 ls [])) (k : Nat), ∀ (v1 : Int) (v3 : Int) (v4 : Int) (sL : SS) (H : Heap) (locs : List Loc) (ls : Array Slot), GS E sL s H locs → Mo (sz σ) σ sL → lv_has ls 5 [(0, .ref (ea E 0)), (1, .long (lI (v1))), (3, .int (iI (v3))), (4, .int (iI (v4)))] → wX8_digest_L70  Q K33 k v1 v3 v4 sL → W p l e (headSpec wsX8_digest ({ frames := 47, cells := 0, slots := 0, locals := 1033 } : Room)).room s m (List.toArray [.ref (ea E 0)]) below meth c H locs 0 0 (MQ below (Ql E (sz σ) σ Q) (List.toArray [.ref (ea E 0)]) s 0 0 (Av E)) (F0 m 70 ls []) := by
    intro K33 hK33
    intro k
    induction k with
    | zero => intro v1 v3 v4 sL H locs ls hg hm hl h; exact False.elim h
    | succ k ih =>
      intro v1 v3 v4 sL H locs ls hg hm hl h
      rw [wX8_digest_L70] at h
      refine lv_iload hx hb dX8_digest_70 (lv_at hl 3 rfl) ?_
      refine lv_aload_n hx hb dX8_digest_72 rfl (lv_at hl 0 rfl) ?_
      refine q_getx (ci := 8) (C := RX8) (T := TX8) (N := 14) (j := 15) hx hb hts (fun _ h9 => List.mem_cons_of_mem _ (List.mem_append_left _ (List.mem_append_left _ (List.mem_append_left _ (List.mem_append_left _ (List.mem_append_right _ h9)))))) hown hK hg 0 (by decide) rfl rfl (by decide) rfl 8 (by decide) (hts (.fieldLink RX8 70 "JoinMaps" "first" "LJoinMaps$Row;") (List.mem_cons_of_mem _ (List.mem_append_left _ (List.mem_append_left _ (List.mem_append_left _ (List.mem_append_left _ (List.mem_append_left _ (List.mem_append_left _ (List.mem_of_getElem? (i := 2) rfl))))))))) rfl rfl rfl dX8_digest_73 ?_
      refine q_geti (ci := 6) (C := RX6) (T := TX6) (N := 3) hx hb hts (fun _ h9 => List.mem_cons_of_mem _ (List.mem_append_left _ (List.mem_append_left _ (List.mem_append_left _ (List.mem_append_right _ h9))))) hown hK hg 15 (by decide) rfl rfl (by decide) rfl 2 (by decide) (hts (.fieldLink RX8 155 "JoinMaps$Row" "length" "I") (List.mem_cons_of_mem _ (List.mem_append_left _ (List.mem_append_left _ (List.mem_append_left _ (List.mem_append_left _ (List.mem_append_left _ (List.mem_append_left _ (List.mem_of_getElem? (i := 4) rfl))))))))) rfl rfl dX8_digest_76 ?_
      have hR15 := GS_R hg 15 2
      obtain ⟨hR16, h⟩ := h
      refine j_ge (tgt := 122) hx hb dX8_digest_79 (by decide) hR16 hR15 (fun c17 => ?_) (fun c17 => ?_)
      · have h := h.1 c17
        refine lv_iinc (v := iI (v3 + 1)) (lv' := [(3, .int (iI (v3 + 1))), (0, .ref (ea E 0)), (1, .long (lI (v1))), (4, .int (iI (v4)))]) hx hb dX8_digest_122 hl (k := 2) rfl (iI_add _ _) (by decide) rfl (fun ls hl => ?_)
        refine lv_goto (tgt := 33) hx hb dX8_digest_125 (by decide) ?_
        exact hK33 (v1) (v3 + 1) (sL) _ _ _ hg hm (lv_sub hl [1, 2, 0] rfl) h
      · have h := h.2 c17
        refine q_ldc2 (z := 31) hx hb hown (hts (.constantLong RX8 282 (31)) (List.mem_cons_of_mem _ (List.mem_append_left _ (List.mem_append_left _ (List.mem_append_left _ (List.mem_append_left _ (List.mem_append_left _ (List.mem_append_left _ (List.mem_of_getElem? (i := 1) rfl))))))))) (by decide) dX8_digest_82 ?_
        refine lv_lload_n hx hb dX8_digest_85 rfl (lv_at hl 1 rfl) ?_
        refine q_lmul hx hb dX8_digest_86 ?_
        refine lv_aload_n hx hb dX8_digest_87 rfl (lv_at hl 0 rfl) ?_
        refine q_getx (ci := 8) (C := RX8) (T := TX8) (N := 14) (j := 15) hx hb hts (fun _ h9 => List.mem_cons_of_mem _ (List.mem_append_left _ (List.mem_append_left _ (List.mem_append_left _ (List.mem_append_left _ (List.mem_append_right _ h9)))))) hown hK hg 0 (by decide) rfl rfl (by decide) rfl 8 (by decide) (hts (.fieldLink RX8 70 "JoinMaps" "first" "LJoinMaps$Row;") (List.mem_cons_of_mem _ (List.mem_append_left _ (List.mem_append_left _ (List.mem_append_left _ (List.mem_append_left _ (List.mem_append_left _ (List.mem_append_left _ (List.mem_of_getElem? (i := 2) rfl))))))))) rfl rfl rfl dX8_digest_88 ?_
        refine lv_iload hx hb dX8_digest_91 (lv_at hl 3 rfl) ?_
        refine call_i (run_V (a := ea E 15) (As := [.int (iI (v4))]) (rest := [.long (lI ((31 * v1)))]) ⟨hx, hb, hml, hown, hts⟩ (ctX6_keyAt l E 15 v4 sL _ (by decide) hR16 h) (cwV 1 hts gX8_digest_X6_keyAt rfl rfl rfl ⟨rfl, hdX6_keyAt⟩ ⟨Nat.le_of_ble_eq_true rfl, Nat.le_of_ble_eq_true rfl⟩) hK hN hg (recv_x (ci := 6) (C := RX6) (T := TX6) (N := 3) hg hK (by decide) rfl (by decide) rfl) rfl hl.1 rfl (cat_sum _ (by simp)) dX8_digest_93 ⟨Nat.le_refl 0, Nat.le_refl 0⟩) hg (fun r19 s18 H locs hz20 hm2 h hg => ?_)
        have hm := hm.tn hm2
        refine q_i2l hx hb hz20 dX8_digest_96 ?_
        refine q_ladd hx hb dX8_digest_97 ?_
        refine lv_lstore_n (i := 1) (lv' := [(1, .long (lI (((31 * v1) + r19)))), (0, .ref (ea E 0)), (3, .int (iI (v3))), (4, .int (iI (v4)))]) hx hb dX8_digest_98 rfl hl (by decide) rfl (fun ls hl => ?_)
        refine q_ldc2 (z := 31) hx hb hown (hts (.constantLong RX8 282 (31)) (List.mem_cons_of_mem _ (List.mem_append_left _ (List.mem_append_left _ (List.mem_append_left _ (List.mem_append_left _ (List.mem_append_left _ (List.mem_append_left _ (List.mem_of_getElem? (i := 1) rfl))))))))) (by decide) dX8_digest_99 ?_
        refine lv_lload_n hx hb dX8_digest_102 rfl (lv_at hl 0 rfl) ?_
        refine q_lmul hx hb dX8_digest_103 ?_
        refine lv_aload_n hx hb dX8_digest_104 rfl (lv_at hl 1 rfl) ?_
        refine q_getx (ci := 8) (C := RX8) (T := TX8) (N := 14) (j := 15) hx hb hts (fun _ h9 => List.mem_cons_of_mem _ (List.mem_append_left _ (List.mem_append_left _ (List.mem_append_left _ (List.mem_append_left _ (List.mem_append_right _ h9)))))) hown hK hg 0 (by decide) rfl rfl (by decide) rfl 8 (by decide) (hts (.fieldLink RX8 70 "JoinMaps" "first" "LJoinMaps$Row;") (List.mem_cons_of_mem _ (List.mem_append_left _ (List.mem_append_left _ (List.mem_append_left _ (List.mem_append_left _ (List.mem_append_left _ (List.mem_append_left _ (List.mem_of_getElem? (i := 2) rfl))))))))) rfl rfl rfl dX8_digest_105 ?_
        refine lv_iload hx hb dX8_digest_108 (lv_at hl 3 rfl) ?_
        refine call_i (run_V (a := ea E 15) (As := [.int (iI (v4))]) (rest := [.long (lI ((31 * ((31 * v1) + r19))))]) ⟨hx, hb, hml, hown, hts⟩ (ctX6_valueAt l E 15 v4 s18 _ (by decide) hR16 h) (cwV 1 hts gX8_digest_X6_valueAt rfl rfl rfl ⟨rfl, hdX6_valueAt⟩ ⟨Nat.le_of_ble_eq_true rfl, Nat.le_of_ble_eq_true rfl⟩) hK hN hg (recv_x (ci := 6) (C := RX6) (T := TX6) (N := 3) hg hK (by decide) rfl (by decide) rfl) rfl hl.1 rfl (cat_sum _ (by simp)) dX8_digest_110 ⟨Nat.le_refl 0, Nat.le_refl 0⟩) hg (fun r22 s21 H locs hz23 hm2 h hg => ?_)
        have hm := hm.tn hm2
        refine q_i2l hx hb hz23 dX8_digest_113 ?_
        refine q_ladd hx hb dX8_digest_114 ?_
        refine lv_lstore_n (i := 1) (lv' := [(1, .long (lI (((31 * ((31 * v1) + r19)) + r22)))), (0, .ref (ea E 0)), (3, .int (iI (v3))), (4, .int (iI (v4)))]) hx hb dX8_digest_115 rfl hl (by decide) rfl (fun ls hl => ?_)
        refine lv_iinc (v := iI (v4 + 1)) (lv' := [(4, .int (iI (v4 + 1))), (1, .long (lI (((31 * ((31 * v1) + r19)) + r22)))), (0, .ref (ea E 0)), (3, .int (iI (v3)))]) hx hb dX8_digest_116 hl (k := 3) rfl (iI_add _ _) (by decide) rfl (fun ls hl => ?_)
        refine lv_goto (tgt := 70) hx hb dX8_digest_119 (by decide) ?_
        exact ih (((31 * ((31 * v1) + r19)) + r22)) (v3) (v4 + 1) (s21) _ _ _ hg hm (lv_sub hl [2, 1, 3, 0] rfl) h
  have J33 : ∀ (k : Nat), ∀ (v1 : Int) (v3 : Int) (sL : SS) (H : Heap) (locs : List Loc) (ls : Array Slot), GS E sL s H locs → Mo (sz σ) σ sL → lv_has ls 5 [(0, .ref (ea E 0)), (1, .long (lI (v1))), (3, .int (iI (v3)))] → wX8_digest_L33  Q  k v1 v3 sL → W p l e (headSpec wsX8_digest ({ frames := 47, cells := 0, slots := 0, locals := 1033 } : Room)).room s m (List.toArray [.ref (ea E 0)]) below meth c H locs 0 0 (MQ below (Ql E (sz σ) σ Q) (List.toArray [.ref (ea E 0)]) s 0 0 (Av E)) (F0 m 33 ls []) := by
    intro k
    induction k with
    | zero => intro v1 v3 sL H locs ls hg hm hl h; exact False.elim h
    | succ k ih =>
      intro v1 v3 sL H locs ls hg hm hl h
      rw [wX8_digest_L33] at h
      refine lv_iload_n hx hb dX8_digest_33 rfl (lv_at hl 2 rfl) ?_
      refine lv_bipush (v := iI 6) hx hb dX8_digest_34 (by decide) ?_
      obtain ⟨hR6, h⟩ := h
      refine j_ge (tgt := 128) hx hb dX8_digest_36 (by decide) hR6 (by decide) (fun c7 => ?_) (fun c7 => ?_)
      · have h := h.1 c7
        refine lv_lload_n hx hb dX8_digest_128 rfl (lv_at hl 1 rfl) ?_
        exact ret_l hx hb hr hlocks hg  hm h dX8_digest_129
      · have h := h.2 c7
        refine lv_aload_n hx hb dX8_digest_39 rfl (lv_at hl 0 rfl) ?_
        refine q_getx (ci := 8) (C := RX8) (T := TX8) (N := 14) (j := 15) hx hb hts (fun _ h9 => List.mem_cons_of_mem _ (List.mem_append_left _ (List.mem_append_left _ (List.mem_append_left _ (List.mem_append_left _ (List.mem_append_right _ h9)))))) hown hK hg 0 (by decide) rfl rfl (by decide) rfl 8 (by decide) (hts (.fieldLink RX8 70 "JoinMaps" "first" "LJoinMaps$Row;") (List.mem_cons_of_mem _ (List.mem_append_left _ (List.mem_append_left _ (List.mem_append_left _ (List.mem_append_left _ (List.mem_append_left _ (List.mem_append_left _ (List.mem_of_getElem? (i := 2) rfl))))))))) rfl rfl rfl dX8_digest_40 ?_
        refine lv_aload_n hx hb dX8_digest_43 rfl (lv_at hl 0 rfl) ?_
        refine q_getx (ci := 8) (C := RX8) (T := TX8) (N := 14) (j := 3) hx hb hts (fun _ h9 => List.mem_cons_of_mem _ (List.mem_append_left _ (List.mem_append_left _ (List.mem_append_left _ (List.mem_append_left _ (List.mem_append_right _ h9)))))) hown hK hg 0 (by decide) rfl rfl (by decide) rfl 2 (by decide) (hts (.fieldLink RX8 27 "JoinMaps" "maps" "[LJoinMaps$Node;") (List.mem_cons_of_mem _ (List.mem_append_left _ (List.mem_append_left _ (List.mem_append_left _ (List.mem_append_left _ (List.mem_append_left _ (List.mem_append_left _ (List.mem_of_getElem? (i := 3) rfl))))))))) rfl rfl rfl dX8_digest_44 ?_
        refine lv_iload_n hx hb dX8_digest_47 rfl (lv_at hl 2 rfl) ?_
        obtain ⟨hP8, hP9, h⟩ := h
        refine q_aald (N := 6) hx hb hK hg 3 (by decide) rfl rfl hP8 hP9 (by decide) dX8_digest_48 ?_
        have hS10 : ∀ b, (sf sL 3 (v3 : Int).toNat) = some b → sS sL b := fun b h0 => GS_F hg h0
        refine call_v (run_V (a := ea E 15) (As := [va_rf ((sf sL 3 (v3 : Int).toNat))]) (rest := []) ⟨hx, hb, hml, hown, hts⟩ (ctX6_take l E 15 (sf sL 3 (v3 : Int).toNat) sL _ (by decide) hS10 h) (cwV 1 hts gX8_digest_X6_take rfl rfl rfl ⟨rfl, hdX6_take⟩ ⟨Nat.le_of_ble_eq_true rfl, Nat.le_of_ble_eq_true rfl⟩) hK hN hg (recv_x (ci := 6) (C := RX6) (T := TX6) (N := 3) hg hK (by decide) rfl (by decide) rfl) rfl hl.1 rfl (cat_sum _ (by simp)) dX8_digest_49 ⟨Nat.le_refl 0, Nat.le_refl 0⟩) hg (fun s11 H locs hm2 h hg => ?_)
        have hm := hm.tn hm2
        refine q_ldc2 (z := 31) hx hb hown (hts (.constantLong RX8 282 (31)) (List.mem_cons_of_mem _ (List.mem_append_left _ (List.mem_append_left _ (List.mem_append_left _ (List.mem_append_left _ (List.mem_append_left _ (List.mem_append_left _ (List.mem_of_getElem? (i := 1) rfl))))))))) (by decide) dX8_digest_52 ?_
        refine lv_lload_n hx hb dX8_digest_55 rfl (lv_at hl 1 rfl) ?_
        refine q_lmul hx hb dX8_digest_56 ?_
        refine lv_aload_n hx hb dX8_digest_57 rfl (lv_at hl 0 rfl) ?_
        refine q_getx (ci := 8) (C := RX8) (T := TX8) (N := 14) (j := 15) hx hb hts (fun _ h9 => List.mem_cons_of_mem _ (List.mem_append_left _ (List.mem_append_left _ (List.mem_append_left _ (List.mem_append_left _ (List.mem_append_right _ h9)))))) hown hK hg 0 (by decide) rfl rfl (by decide) rfl 8 (by decide) (hts (.fieldLink RX8 70 "JoinMaps" "first" "LJoinMaps$Row;") (List.mem_cons_of_mem _ (List.mem_append_left _ (List.mem_append_left _ (List.mem_append_left _ (List.mem_append_left _ (List.mem_append_left _ (List.mem_append_left _ (List.mem_of_getElem? (i := 2) rfl))))))))) rfl rfl rfl dX8_digest_58 ?_
        refine q_geti (ci := 6) (C := RX6) (T := TX6) (N := 3) hx hb hts (fun _ h9 => List.mem_cons_of_mem _ (List.mem_append_left _ (List.mem_append_left _ (List.mem_append_left _ (List.mem_append_right _ h9))))) hown hK hg 15 (by decide) rfl rfl (by decide) rfl 2 (by decide) (hts (.fieldLink RX8 155 "JoinMaps$Row" "length" "I") (List.mem_cons_of_mem _ (List.mem_append_left _ (List.mem_append_left _ (List.mem_append_left _ (List.mem_append_left _ (List.mem_append_left _ (List.mem_append_left _ (List.mem_of_getElem? (i := 4) rfl))))))))) rfl rfl dX8_digest_61 ?_
        have hR14 := GS_R hg 15 2
        refine q_i2l hx hb hR14 dX8_digest_64 ?_
        refine q_ladd hx hb dX8_digest_65 ?_
        refine lv_lstore_n (i := 1) (lv' := [(1, .long (lI (((31 * v1) + (sn s11 15 2))))), (0, .ref (ea E 0)), (3, .int (iI (v3)))]) hx hb dX8_digest_66 rfl hl (by decide) rfl (fun ls hl => ?_)
        refine lv_iconst (v := iI 0) hx hb dX8_digest_67 (by decide) ?_
        refine lv_istore (i := 4) (lv' := [(4, .int (iI (0))), (1, .long (lI (((31 * v1) + (sn s11 15 2))))), (0, .ref (ea E 0)), (3, .int (iI (v3)))]) hx hb dX8_digest_68 hl (by decide) rfl (fun ls hl => ?_)
        obtain ⟨kk, h⟩ := h
        exact J70 _ ih kk (((31 * v1) + (sn s11 15 2))) (v3) (0) (s11) _ _ _ hg hm (lv_sub hl [2, 1, 3, 0] rfl) h
  have J6 : ∀ (k : Nat), ∀ (v1 : Int) (v3 : Int) (sL : SS) (H : Heap) (locs : List Loc) (ls : Array Slot), GS E sL s H locs → Mo (sz σ) σ sL → lv_has ls 5 [(0, .ref (ea E 0)), (1, .long (lI (v1))), (3, .int (iI (v3)))] → wX8_digest_L6  Q  k v1 v3 sL → W p l e (headSpec wsX8_digest ({ frames := 47, cells := 0, slots := 0, locals := 1033 } : Room)).room s m (List.toArray [.ref (ea E 0)]) below meth c H locs 0 0 (MQ below (Ql E (sz σ) σ Q) (List.toArray [.ref (ea E 0)]) s 0 0 (Av E)) (F0 m 6 ls []) := by
    intro k
    induction k with
    | zero => intro v1 v3 sL H locs ls hg hm hl h; exact False.elim h
    | succ k ih =>
      intro v1 v3 sL H locs ls hg hm hl h
      rw [wX8_digest_L6] at h
      refine lv_iload_n hx hb dX8_digest_6 rfl (lv_at hl 2 rfl) ?_
      refine lv_bipush (v := iI 6) hx hb dX8_digest_7 (by decide) ?_
      obtain ⟨hR1, h⟩ := h
      refine j_gt (tgt := 31) hx hb dX8_digest_9 (by decide) hR1 (by decide) (fun c2 => ?_) (fun c2 => ?_)
      · have h := h.1 c2
        refine lv_iconst (v := iI 0) hx hb dX8_digest_31 (by decide) ?_
        refine lv_istore_n (i := 3) (lv' := [(3, .int (iI (0))), (0, .ref (ea E 0)), (1, .long (lI (v1)))]) hx hb dX8_digest_32 rfl hl (by decide) rfl (fun ls hl => ?_)
        obtain ⟨kk, h⟩ := h
        exact J33  kk (v1) (0) (sL) _ _ _ hg hm (lv_sub hl [1, 2, 0] rfl) h
      · have h := h.2 c2
        refine q_ldc2 (z := 31) hx hb hown (hts (.constantLong RX8 282 (31)) (List.mem_cons_of_mem _ (List.mem_append_left _ (List.mem_append_left _ (List.mem_append_left _ (List.mem_append_left _ (List.mem_append_left _ (List.mem_append_left _ (List.mem_of_getElem? (i := 1) rfl))))))))) (by decide) dX8_digest_12 ?_
        refine lv_lload_n hx hb dX8_digest_15 rfl (lv_at hl 1 rfl) ?_
        refine q_lmul hx hb dX8_digest_16 ?_
        refine lv_aload_n hx hb dX8_digest_17 rfl (lv_at hl 0 rfl) ?_
        refine lv_iload_n hx hb dX8_digest_18 rfl (lv_at hl 2 rfl) ?_
        refine call_i (run_V (a := ea E 0) (As := [.int (iI (v3))]) (rest := [.long (lI ((31 * v1)))]) ⟨hx, hb, hml, hown, hts⟩ (ctX8_told l E v3 sL _ hR1 h) (cwV 1 hts gX8_digest_X8_told rfl rfl rfl ⟨rfl, hdX8_told⟩ ⟨Nat.le_of_ble_eq_true rfl, Nat.le_of_ble_eq_true rfl⟩) hK hN hg (recv_x (ci := 8) (C := RX8) (T := TX8) (N := 14) hg hK (by decide) rfl (by decide) rfl) rfl hl.1 rfl (cat_sum _ (by simp)) dX8_digest_19 ⟨Nat.le_refl 0, Nat.le_refl 0⟩) hg (fun r4 s3 H locs hz5 hm2 h hg => ?_)
        have hm := hm.tn hm2
        refine q_i2l hx hb hz5 dX8_digest_22 ?_
        refine q_ladd hx hb dX8_digest_23 ?_
        refine lv_lstore_n (i := 1) (lv' := [(1, .long (lI (((31 * v1) + r4)))), (0, .ref (ea E 0)), (3, .int (iI (v3)))]) hx hb dX8_digest_24 rfl hl (by decide) rfl (fun ls hl => ?_)
        refine lv_iinc (v := iI (v3 + 1)) (lv' := [(3, .int (iI (v3 + 1))), (1, .long (lI (((31 * v1) + r4)))), (0, .ref (ea E 0))]) hx hb dX8_digest_25 hl (k := 2) rfl (iI_add _ _) (by decide) rfl (fun ls hl => ?_)
        refine lv_goto (tgt := 6) hx hb dX8_digest_28 (by decide) ?_
        exact ih (((31 * v1) + r4)) (v3 + 1) (s3) _ _ _ hg hm (lv_sub hl [2, 1, 0] rfl) h
  refine q_ldc2 (z := 1889) hx hb hown (hts (.constantLong RX8 280 (1889)) (List.mem_cons_of_mem _ (List.mem_append_left _ (List.mem_append_left _ (List.mem_append_left _ (List.mem_append_left _ (List.mem_append_left _ (List.mem_append_left _ (List.mem_of_getElem? (i := 0) rfl))))))))) (by decide) dX8_digest_0 ?_
  refine lv_lstore_n (i := 1) (lv' := [(1, .long (lI (1889))), (0, .ref (ea E 0))]) hx hb dX8_digest_3 rfl hl (by decide) rfl (fun ls hl => ?_)
  refine lv_iconst (v := iI 0) hx hb dX8_digest_4 (by decide) ?_
  refine lv_istore_n (i := 3) (lv' := [(3, .int (iI (0))), (1, .long (lI (1889))), (0, .ref (ea E 0))]) hx hb dX8_digest_5 rfl hl (by decide) rfl (fun ls hl => ?_)
  obtain ⟨kk, h⟩ := h
  exact J6  kk (1889) (0) (σ) _ _ _ hg hm (lv_sub hl [2, 1, 0] rfl) h
