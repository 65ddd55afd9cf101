theorem hdX9_most : yX9_most.cls ≠ "java/lang/invoke/MethodHandle" ∧ yX9_most.cls ≠ "java/lang/invoke/VarHandle" ∧ (parseMethodDescriptor yX9_most.desc).map (fun d => d.parameters.length) = some 4 := by decide +kernel
set_option maxRecDepth 100000 in
set_option maxHeartbeats 4000000 in
theorem ctX9_most (l : Launch) (E : Ev) (a1 : Int) (a2 : Int) (a3 : Int) (a4 : Int) (σ : SS) (Q : Int → SS → Prop) (ha1 : R32 a1) (ha2 : R32 a2) (ha3 : R32 a3) (ha4 : R32 a4) (h : wX9_most a1 a2 a3 a4 σ Q) : Met l yX9_most wsX9_most ({ frames := 3, cells := 0, slots := 0, locals := 66 } : Room) (Pc E σ [.ref (ea E 21), .int (iI (a1)), .int (iI (a2)), .int (iI (a3)), .int (iI (a4))]) (Qi E (sz σ) σ Q) 0 0 (Av E) := by
  rw [wX9_most] at h
  refine Met.ofW (cc := cX9_most) (maxL := 8) (ret := (some .int)) (by decide) rfl ?_
  intro p e s m args below meth c s₁ B hml hv
  obtain ⟨rfl, hH, hK, hN⟩ := hv
  have hx := B.exec
  have hb := B.bytes
  have hr := B.returns
  have hts := atoms_spec (ws := wsX9_most) B.pre
  have hown : s.vm.findClass RX9 = some m.cls := findClass_of_methodNamed B.named
  have hlocks := B.notSynchronized
  have hg : GS E σ s s.heap [] := ⟨hH, va_S.rf⟩
  have hm : Mo (sz σ) σ σ := Mo.rf (Nat.le_refl _)
  have hl := ent (vs := [.ref (ea E 21), .int (iI (a1)), .int (iI (a2)), .int (iI (a3)), .int (iI (a4))]) (n := 8) (cats_x (cats_i (cats_i (cats_i (cats_i cats_nil))))) (Nat.le_of_ble_eq_true rfl)
  rw [lg_entry_eq]
  generalize (lg_sl ([.ref (ea E 21), .int (iI (a1)), .int (iI (a2)), .int (iI (a3)), .int (iI (a4))]) ++ List.replicate (8 - (lg_sl ([.ref (ea E 21), .int (iI (a1)), .int (iI (a2)), .int (iI (a3)), .int (iI (a4))])).length) Slot.unset).toArray = ls at hl ⊢
  have hl : lv_has ls 8 [(0, .ref (ea E 21)), (1, .int (iI (a1))), (2, .int (iI (a2))), (3, .int (iI (a3))), (4, .int (iI (a4)))] := hl
  have J45 : ∀ (k : Nat), ∀ (v5 : Int) (v6 : Int) (sL : SS) (H : Heap) (locs : List Loc) (ls : Array Slot), GS E sL s H locs → Mo (sz σ) σ sL → lv_has ls 8 [(0, .ref (ea E 21)), (1, .int (iI (a1))), (3, .int (iI (a3))), (4, .int (iI (a4))), (5, .int (iI (v5))), (6, .int (iI (v6)))] → wX9_most_L45 a1 a2 a3 a4 Q  k v5 v6 sL → W p l e (headSpec wsX9_most ({ frames := 3, cells := 0, slots := 0, locals := 66 } : Room)).room s m (List.toArray [.ref (ea E 21), .int (iI (a1)), .int (iI (a2)), .int (iI (a3)), .int (iI (a4))]) below meth c H locs 0 0 (MQ below (Qi E (sz σ) σ Q) (List.toArray [.ref (ea E 21), .int (iI (a1)), .int (iI (a2)), .int (iI (a3)), .int (iI (a4))]) s 0 0 (Av E)) (F0 m 45 ls []) := by
    intro k
    induction k with
    | zero => intro v5 v6 sL H locs ls hg hm hl h; exact False.elim h
    | succ k ih =>
      intro v5 v6 sL H locs ls hg hm hl h
      rw [wX9_most_L45] at h
      refine lv_iload hx hb dX9_most_45 (lv_at hl 5 rfl) ?_
      refine lv_aload_n hx hb dX9_most_47 rfl (lv_at hl 0 rfl) ?_
      refine lv_iload_n hx hb dX9_most_48 rfl (lv_at hl 1 rfl) ?_
      refine lv_iload_n hx hb dX9_most_49 rfl (lv_at hl 2 rfl) ?_
      refine lv_iconst (v := iI 1) hx hb dX9_most_50 (by decide) ?_
      refine q_iadd hx hb dX9_most_51 ?_
      obtain ⟨hR25, h⟩ := h
      refine call_i (run_V (a := ea E 21) (As := [.int (iI (a1)), .int (iI ((a3 + 1)))]) (rest := [.int (iI (v6))]) ⟨hx, hb, hml, hown, hts⟩ (ctX9_below l E a1 (a3 + 1) sL _ ha1 hR25 h) (cwV 2 hts gX9_most_X9_below rfl rfl rfl ⟨rfl, hdX9_below⟩ ⟨Nat.le_of_ble_eq_true rfl, Nat.le_of_ble_eq_true rfl⟩) hK hN hg (recv_x (ci := 9) (C := RX9) (T := TX9) (N := 27) hg hK (by decide) rfl (by decide) rfl) rfl hl.1 rfl (cat_sum _ (by simp)) dX9_most_52 ⟨Nat.le_refl 0, Nat.le_refl 0⟩) hg (fun r27 s26 H locs hz28 hm2 h hg => ?_)
      have hm := hm.tn hm2
      obtain ⟨hR29, h⟩ := h
      refine j_ge (tgt := 111) hx hb dX9_most_55 (by decide) hR29 hz28 (fun c30 => ?_) (fun c30 => ?_)
      · have h := h.1 c30
        refine lv_iload hx hb dX9_most_111 (lv_at hl 4 rfl) ?_
        obtain ⟨hR31, h⟩ := h
        exact ret_i hx hb hr hlocks hg hR31 hm h dX9_most_113
      · have h := h.2 c30
        refine lv_aload_n hx hb dX9_most_58 rfl (lv_at hl 0 rfl) ?_
        refine lv_iload_n hx hb dX9_most_59 rfl (lv_at hl 1 rfl) ?_
        refine lv_iload hx hb dX9_most_60 (lv_at hl 5 rfl) ?_
        refine call_i (run_V (a := ea E 21) (As := [.int (iI (a1)), .int (iI (v6))]) (rest := []) ⟨hx, hb, hml, hown, hts⟩ (ctX9_valueAt l E a1 v6 s26 _ ha1 hR29 h) (cwV 2 hts gX9_most_X9_valueAt rfl rfl rfl ⟨rfl, hdX9_valueAt⟩ ⟨Nat.le_of_ble_eq_true rfl, Nat.le_of_ble_eq_true rfl⟩) hK hN hg (recv_x (ci := 9) (C := RX9) (T := TX9) (N := 27) hg hK (by decide) rfl (by decide) rfl) rfl hl.1 rfl (cat_sum _ (by simp)) dX9_most_62 ⟨Nat.le_refl 0, Nat.le_refl 0⟩) hg (fun r33 s32 H locs hz34 hm2 h hg => ?_)
        have hm := hm.tn hm2
        refine lv_istore (i := 7) (lv' := [(7, .int (iI (r33))), (0, .ref (ea E 21)), (1, .int (iI (a1))), (3, .int (iI (a3))), (4, .int (iI (a4))), (5, .int (iI (v5))), (6, .int (iI (v6)))]) hx hb dX9_most_65 hl (by decide) rfl (fun ls hl => ?_)
        refine lv_iload hx hb dX9_most_67 (lv_at hl 5 rfl) ?_
        refine q_ldc (z := (-2000000001)) hx hb hown (hts (.constant RX9 120 (-2000000001)) (List.mem_cons_of_mem _ (List.mem_append_left _ (List.mem_append_left _ (List.mem_of_getElem? (i := 1) rfl))))) (by decide) dX9_most_69 ?_
        obtain ⟨hR35, h⟩ := h
        refine j_eq (tgt := 96) hx hb dX9_most_71 (by decide) hR35 (by decide) (fun c36 => ?_) (fun c36 => ?_)
        · have h := h.1 c36
          refine lv_iload hx hb dX9_most_96 (lv_at hl 0 rfl) ?_
          refine lv_goto (tgt := 103) hx hb dX9_most_98 (by decide) ?_
          refine lv_istore (i := 5) (lv' := [(5, .int (iI (r33))), (7, .int (iI (r33))), (0, .ref (ea E 21)), (1, .int (iI (a1))), (3, .int (iI (a3))), (4, .int (iI (a4))), (6, .int (iI (v6)))]) hx hb dX9_most_103 hl (by decide) rfl (fun ls hl => ?_)
          refine lv_iinc (v := iI (v6 + 1)) (lv' := [(6, .int (iI (v6 + 1))), (5, .int (iI (r33))), (7, .int (iI (r33))), (0, .ref (ea E 21)), (1, .int (iI (a1))), (3, .int (iI (a3))), (4, .int (iI (a4)))]) hx hb dX9_most_105 hl (k := 6) rfl (iI_add _ _) (by decide) rfl (fun ls hl => ?_)
          refine lv_goto (tgt := 45) hx hb dX9_most_108 (by decide) ?_
          exact ih (r33) (v6 + 1) (s32) _ _ _ hg hm (lv_sub hl [3, 4, 5, 6, 1, 0] rfl) h
        · have h := h.2 c36
          refine lv_iload hx hb dX9_most_74 (lv_at hl 4 rfl) ?_
          refine k_ne (tgt := 89) hx hb dX9_most_76 (by decide) ha4 (fun c37 => ?_) (fun c37 => ?_)
          · have h := h.1 c37
            refine lv_iload hx hb dX9_most_89 (lv_at hl 0 rfl) ?_
            refine lv_iload hx hb dX9_most_91 (lv_at hl 5 rfl) ?_
            refine j_ge (tgt := 101) hx hb dX9_most_93 (by decide) hz34 hR35 (fun c38 => ?_) (fun c38 => ?_)
            · have h := h.1 c38
              refine lv_iload hx hb dX9_most_101 (lv_at hl 5 rfl) ?_
              refine lv_istore (i := 5) (lv' := [(5, .int (iI (v5))), (7, .int (iI (r33))), (0, .ref (ea E 21)), (1, .int (iI (a1))), (3, .int (iI (a3))), (4, .int (iI (a4))), (6, .int (iI (v6)))]) hx hb dX9_most_103 hl (by decide) rfl (fun ls hl => ?_)
              refine lv_iinc (v := iI (v6 + 1)) (lv' := [(6, .int (iI (v6 + 1))), (5, .int (iI (v5))), (7, .int (iI (r33))), (0, .ref (ea E 21)), (1, .int (iI (a1))), (3, .int (iI (a3))), (4, .int (iI (a4)))]) hx hb dX9_most_105 hl (k := 6) rfl (iI_add _ _) (by decide) rfl (fun ls hl => ?_)
              refine lv_goto (tgt := 45) hx hb dX9_most_108 (by decide) ?_
              exact ih (v5) (v6 + 1) (s32) _ _ _ hg hm (lv_sub hl [3, 4, 5, 6, 1, 0] rfl) h
            · have h := h.2 c38
              refine lv_iload hx hb dX9_most_96 (lv_at hl 0 rfl) ?_
              refine lv_goto (tgt := 103) hx hb dX9_most_98 (by decide) ?_
              refine lv_istore (i := 5) (lv' := [(5, .int (iI (r33))), (7, .int (iI (r33))), (0, .ref (ea E 21)), (1, .int (iI (a1))), (3, .int (iI (a3))), (4, .int (iI (a4))), (6, .int (iI (v6)))]) hx hb dX9_most_103 hl (by decide) rfl (fun ls hl => ?_)
              refine lv_iinc (v := iI (v6 + 1)) (lv' := [(6, .int (iI (v6 + 1))), (5, .int (iI (r33))), (7, .int (iI (r33))), (0, .ref (ea E 21)), (1, .int (iI (a1))), (3, .int (iI (a3))), (4, .int (iI (a4)))]) hx hb dX9_most_105 hl (k := 6) rfl (iI_add _ _) (by decide) rfl (fun ls hl => ?_)
              refine lv_goto (tgt := 45) hx hb dX9_most_108 (by decide) ?_
              exact ih (r33) (v6 + 1) (s32) _ _ _ hg hm (lv_sub hl [3, 4, 5, 6, 1, 0] rfl) h
          · have h := h.2 c37
            refine lv_iload hx hb dX9_most_79 (lv_at hl 0 rfl) ?_
            refine lv_iload hx hb dX9_most_81 (lv_at hl 5 rfl) ?_
            refine j_le (tgt := 101) hx hb dX9_most_83 (by decide) hz34 hR35 (fun c39 => ?_) (fun c39 => ?_)
            · have h := h.1 c39
              refine lv_iload hx hb dX9_most_101 (lv_at hl 5 rfl) ?_
              refine lv_istore (i := 5) (lv' := [(5, .int (iI (v5))), (7, .int (iI (r33))), (0, .ref (ea E 21)), (1, .int (iI (a1))), (3, .int (iI (a3))), (4, .int (iI (a4))), (6, .int (iI (v6)))]) hx hb dX9_most_103 hl (by decide) rfl (fun ls hl => ?_)
              refine lv_iinc (v := iI (v6 + 1)) (lv' := [(6, .int (iI (v6 + 1))), (5, .int (iI (v5))), (7, .int (iI (r33))), (0, .ref (ea E 21)), (1, .int (iI (a1))), (3, .int (iI (a3))), (4, .int (iI (a4)))]) hx hb dX9_most_105 hl (k := 6) rfl (iI_add _ _) (by decide) rfl (fun ls hl => ?_)
              refine lv_goto (tgt := 45) hx hb dX9_most_108 (by decide) ?_
              exact ih (v5) (v6 + 1) (s32) _ _ _ hg hm (lv_sub hl [3, 4, 5, 6, 1, 0] rfl) h
            · have h := h.2 c39
              refine lv_goto (tgt := 96) hx hb dX9_most_86 (by decide) ?_
              refine lv_iload hx hb dX9_most_96 (lv_at hl 0 rfl) ?_
              refine lv_goto (tgt := 103) hx hb dX9_most_98 (by decide) ?_
              refine lv_istore (i := 5) (lv' := [(5, .int (iI (r33))), (7, .int (iI (r33))), (0, .ref (ea E 21)), (1, .int (iI (a1))), (3, .int (iI (a3))), (4, .int (iI (a4))), (6, .int (iI (v6)))]) hx hb dX9_most_103 hl (by decide) rfl (fun ls hl => ?_)
              refine lv_iinc (v := iI (v6 + 1)) (lv' := [(6, .int (iI (v6 + 1))), (5, .int (iI (r33))), (7, .int (iI (r33))), (0, .ref (ea E 21)), (1, .int (iI (a1))), (3, .int (iI (a3))), (4, .int (iI (a4)))]) hx hb dX9_most_105 hl (k := 6) rfl (iI_add _ _) (by decide) rfl (fun ls hl => ?_)
              refine lv_goto (tgt := 45) hx hb dX9_most_108 (by decide) ?_
              exact ih (r33) (v6 + 1) (s32) _ _ _ hg hm (lv_sub hl [3, 4, 5, 6, 1, 0] rfl) h
  refine lv_iload_n hx hb dX9_most_0 rfl (lv_at hl 1 rfl) ?_
  refine call_z (run_S (As := [.int (iI (a1))]) (rest := []) ⟨hx, hb, hml, hown, hts⟩ (ctX9_isMap l E a1 σ _ ha1 h) (va_cwS 1 hts gX9_most_X9_isMap rfl rfl rfl hdX9_isMap ⟨Nat.le_of_ble_eq_true rfl, Nat.le_of_ble_eq_true rfl⟩) hK hN hg rfl hl.1 rfl (cat_sum _ (by simp)) dX9_most_1 ⟨Nat.le_refl 0, Nat.le_refl 0⟩) hg (fun r2 s1 H locs hz3 hm2 h hg => ?_)
  have hm := hm.tn hm2
  refine k_eq (tgt := 26) hx hb dX9_most_4 (by decide) (z_R hz3) (fun c4 => ?_) (fun c4 => ?_)
  · have h := h.1 c4
    refine lv_aload_n hx hb dX9_most_26 rfl (lv_at hl 0 rfl) ?_
    refine q_ldc (z := (-2000000002)) hx hb hown (hts (.constant RX9 61 (-2000000002)) (List.mem_cons_of_mem _ (List.mem_append_left _ (List.mem_append_left _ (List.mem_of_getElem? (i := 0) rfl))))) (by decide) dX9_most_27 ?_
    refine call_i (run_V (a := ea E 21) (As := [.int (iI ((-2000000002)))]) (rest := []) ⟨hx, hb, hml, hown, hts⟩ (ctX9_refuses l E (-2000000002) s1 _ (by decide) h) (cwV 1 hts gX9_most_X9_refuses rfl rfl rfl ⟨rfl, hdX9_refuses⟩ ⟨Nat.le_of_ble_eq_true rfl, Nat.le_of_ble_eq_true rfl⟩) hK hN hg (recv_x (ci := 9) (C := RX9) (T := TX9) (N := 27) hg hK (by decide) rfl (by decide) rfl) rfl hl.1 rfl (cat_sum _ (by simp)) dX9_most_29 ⟨Nat.le_refl 0, Nat.le_refl 0⟩) hg (fun r6 s5 H locs hz7 hm2 h hg => ?_)
    have hm := hm.tn hm2
    exact ret_i hx hb hr hlocks hg hz7 hm h dX9_most_32
  · have h := h.2 c4
    refine lv_iload_n hx hb dX9_most_7 rfl (lv_at hl 2 rfl) ?_
    refine lv_iload_n hx hb dX9_most_8 rfl (lv_at hl 3 rfl) ?_
    refine call_z (run_S (As := [.int (iI (a2)), .int (iI (a3))]) (rest := []) ⟨hx, hb, hml, hown, hts⟩ (ctX9_isRange l E a2 a3 s1 _ ha2 ha3 h) (va_cwS 2 hts gX9_most_X9_isRange rfl rfl rfl hdX9_isRange ⟨Nat.le_of_ble_eq_true rfl, Nat.le_of_ble_eq_true rfl⟩) hK hN hg rfl hl.1 rfl (cat_sum _ (by simp)) dX9_most_9 ⟨Nat.le_refl 0, Nat.le_refl 0⟩) hg (fun r9 s8 H locs hz10 hm2 h hg => ?_)
    have hm := hm.tn hm2
    refine k_eq (tgt := 26) hx hb dX9_most_12 (by decide) (z_R hz10) (fun c11 => ?_) (fun c11 => ?_)
    · have h := h.1 c11
      refine lv_aload_n hx hb dX9_most_26 rfl (lv_at hl 0 rfl) ?_
      refine q_ldc (z := (-2000000002)) hx hb hown (hts (.constant RX9 61 (-2000000002)) (List.mem_cons_of_mem _ (List.mem_append_left _ (List.mem_append_left _ (List.mem_of_getElem? (i := 0) rfl))))) (by decide) dX9_most_27 ?_
      refine call_i (run_V (a := ea E 21) (As := [.int (iI ((-2000000002)))]) (rest := []) ⟨hx, hb, hml, hown, hts⟩ (ctX9_refuses l E (-2000000002) s8 _ (by decide) h) (cwV 1 hts gX9_most_X9_refuses rfl rfl rfl ⟨rfl, hdX9_refuses⟩ ⟨Nat.le_of_ble_eq_true rfl, Nat.le_of_ble_eq_true rfl⟩) hK hN hg (recv_x (ci := 9) (C := RX9) (T := TX9) (N := 27) hg hK (by decide) rfl (by decide) rfl) rfl hl.1 rfl (cat_sum _ (by simp)) dX9_most_29 ⟨Nat.le_refl 0, Nat.le_refl 0⟩) hg (fun r13 s12 H locs hz14 hm2 h hg => ?_)
      have hm := hm.tn hm2
      exact ret_i hx hb hr hlocks hg hz14 hm h dX9_most_32
    · have h := h.2 c11
      refine lv_iload hx hb dX9_most_15 (lv_at hl 4 rfl) ?_
      refine q_i2l hx hb ha4 dX9_most_17 ?_
      refine lv_lconst (v := lI 0) hx hb dX9_most_18 (by decide) ?_
      refine lv_lconst (v := lI 1) hx hb dX9_most_19 (by decide) ?_
      refine call_z (run_S (As := [.long (lI (a4)), .long (lI (0)), .long (lI (1))]) (rest := []) ⟨hx, hb, hml, hown, hts⟩ (ctX9_in l E a4 0 1 s8 _ (R64_of ha4) (by decide) (by decide) h) (va_cwS 3 hts gX9_most_X9_in rfl rfl rfl hdX9_in ⟨Nat.le_of_ble_eq_true rfl, Nat.le_of_ble_eq_true rfl⟩) hK hN hg rfl hl.1 rfl (cat_sum _ (by simp)) dX9_most_20 ⟨Nat.le_refl 0, Nat.le_refl 0⟩) hg (fun r16 s15 H locs hz17 hm2 h hg => ?_)
      have hm := hm.tn hm2
      refine k_ne (tgt := 33) hx hb dX9_most_23 (by decide) (z_R hz17) (fun c18 => ?_) (fun c18 => ?_)
      · have h := h.1 c18
        refine q_ldc (z := (-2000000001)) hx hb hown (hts (.constant RX9 120 (-2000000001)) (List.mem_cons_of_mem _ (List.mem_append_left _ (List.mem_append_left _ (List.mem_of_getElem? (i := 1) rfl))))) (by decide) dX9_most_33 ?_
        refine lv_istore (i := 5) (lv' := [(5, .int (iI ((-2000000001)))), (0, .ref (ea E 21)), (1, .int (iI (a1))), (2, .int (iI (a2))), (3, .int (iI (a3))), (4, .int (iI (a4)))]) hx hb dX9_most_35 hl (by decide) rfl (fun ls hl => ?_)
        refine lv_aload_n hx hb dX9_most_37 rfl (lv_at hl 1 rfl) ?_
        refine lv_iload_n hx hb dX9_most_38 rfl (lv_at hl 2 rfl) ?_
        refine lv_iload_n hx hb dX9_most_39 rfl (lv_at hl 3 rfl) ?_
        refine call_i (run_V (a := ea E 21) (As := [.int (iI (a1)), .int (iI (a2))]) (rest := []) ⟨hx, hb, hml, hown, hts⟩ (ctX9_below l E a1 a2 s15 _ ha1 ha2 h) (cwV 2 hts gX9_most_X9_below rfl rfl rfl ⟨rfl, hdX9_below⟩ ⟨Nat.le_of_ble_eq_true rfl, Nat.le_of_ble_eq_true rfl⟩) hK hN hg (recv_x (ci := 9) (C := RX9) (T := TX9) (N := 27) hg hK (by decide) rfl (by decide) rfl) rfl hl.1 rfl (cat_sum _ (by simp)) dX9_most_40 ⟨Nat.le_refl 0, Nat.le_refl 0⟩) hg (fun r20 s19 H locs hz21 hm2 h hg => ?_)
        have hm := hm.tn hm2
        refine lv_istore (i := 6) (lv' := [(6, .int (iI (r20))), (5, .int (iI ((-2000000001)))), (0, .ref (ea E 21)), (1, .int (iI (a1))), (2, .int (iI (a2))), (3, .int (iI (a3))), (4, .int (iI (a4)))]) hx hb dX9_most_43 hl (by decide) rfl (fun ls hl => ?_)
        obtain ⟨kk, h⟩ := h
        exact J45  kk ((-2000000001)) (r20) (s19) _ _ _ hg hm (lv_sub hl [2, 3, 5, 6, 1, 0] rfl) h
      · have h := h.2 c18
        refine lv_aload_n hx hb dX9_most_26 rfl (lv_at hl 0 rfl) ?_
        refine q_ldc (z := (-2000000002)) hx hb hown (hts (.constant RX9 61 (-2000000002)) (List.mem_cons_of_mem _ (List.mem_append_left _ (List.mem_append_left _ (List.mem_of_getElem? (i := 0) rfl))))) (by decide) dX9_most_27 ?_
        refine call_i (run_V (a := ea E 21) (As := [.int (iI ((-2000000002)))]) (rest := []) ⟨hx, hb, hml, hown, hts⟩ (ctX9_refuses l E (-2000000002) s15 _ (by decide) h) (cwV 1 hts gX9_most_X9_refuses rfl rfl rfl ⟨rfl, hdX9_refuses⟩ ⟨Nat.le_of_ble_eq_true rfl, Nat.le_of_ble_eq_true rfl⟩) hK hN hg (recv_x (ci := 9) (C := RX9) (T := TX9) (N := 27) hg hK (by decide) rfl (by decide) rfl) rfl hl.1 rfl (cat_sum _ (by simp)) dX9_most_29 ⟨Nat.le_refl 0, Nat.le_refl 0⟩) hg (fun r23 s22 H locs hz24 hm2 h hg => ?_)
        have hm := hm.tn hm2
        exact ret_i hx hb hr hlocks hg hz24 hm h dX9_most_32
theorem hdX9_middle : yX9_middle.cls ≠ "java/lang/invoke/MethodHandle" ∧ yX9_middle.cls ≠ "java/lang/invoke/VarHandle" ∧ (parseMethodDescriptor yX9_middle.desc).map (fun d => d.parameters.length) = some 3 := by decide +kernel
set_option maxRecDepth 100000 in
set_option maxHeartbeats 4000000 in
theorem ctX9_middle (l : Launch) (E : Ev) (a1 : Int) (a2 : Int) (a3 : Int) (σ : SS) (Q : Int → SS → Prop) (ha1 : R32 a1) (ha2 : R32 a2) (ha3 : R32 a3) (h : wX9_middle a1 a2 a3 σ Q) : Met l yX9_middle wsX9_middle ({ frames := 3, cells := 0, slots := 0, locals := 66 } : Room) (Pc E σ [.ref (ea E 21), .int (iI (a1)), .int (iI (a2)), .int (iI (a3))]) (Qi E (sz σ) σ Q) 0 0 (Av E) := by
  rw [wX9_middle] at h
  refine Met.ofW (cc := cX9_middle) (maxL := 6) (ret := (some .int)) (by decide) rfl ?_
  intro p e s m args below meth c s₁ B hml hv
  obtain ⟨rfl, hH, hK, hN⟩ := hv
  have hx := B.exec
  have hb := B.bytes
  have hr := B.returns
  have hts := atoms_spec (ws := wsX9_middle) B.pre
  have hown : s.vm.findClass RX9 = some m.cls := findClass_of_methodNamed B.named
  have hlocks := B.notSynchronized
  have hg : GS E σ s s.heap [] := ⟨hH, va_S.rf⟩
  have hm : Mo (sz σ) σ σ := Mo.rf (Nat.le_refl _)
  have hl := ent (vs := [.ref (ea E 21), .int (iI (a1)), .int (iI (a2)), .int (iI (a3))]) (n := 6) (cats_x (cats_i (cats_i (cats_i cats_nil)))) (Nat.le_of_ble_eq_true rfl)
  rw [lg_entry_eq]
  generalize (lg_sl ([.ref (ea E 21), .int (iI (a1)), .int (iI (a2)), .int (iI (a3))]) ++ List.replicate (6 - (lg_sl ([.ref (ea E 21), .int (iI (a1)), .int (iI (a2)), .int (iI (a3))])).length) Slot.unset).toArray = ls at hl ⊢
  have hl : lv_has ls 6 [(0, .ref (ea E 21)), (1, .int (iI (a1))), (2, .int (iI (a2))), (3, .int (iI (a3)))] := hl
  refine lv_iload_n hx hb dX9_middle_0 rfl (lv_at hl 1 rfl) ?_
  refine call_z (run_S (As := [.int (iI (a1))]) (rest := []) ⟨hx, hb, hml, hown, hts⟩ (ctX9_isMap l E a1 σ _ ha1 h) (va_cwS 1 hts gX9_middle_X9_isMap rfl rfl rfl hdX9_isMap ⟨Nat.le_of_ble_eq_true rfl, Nat.le_of_ble_eq_true rfl⟩) hK hN hg rfl hl.1 rfl (cat_sum _ (by simp)) dX9_middle_1 ⟨Nat.le_refl 0, Nat.le_refl 0⟩) hg (fun r2 s1 H locs hz3 hm2 h hg => ?_)
  have hm := hm.tn hm2
  refine k_eq (tgt := 15) hx hb dX9_middle_4 (by decide) (z_R hz3) (fun c4 => ?_) (fun c4 => ?_)
  · have h := h.1 c4
    refine lv_aload_n hx hb dX9_middle_15 rfl (lv_at hl 0 rfl) ?_
    refine q_ldc (z := (-2000000002)) hx hb hown (hts (.constant RX9 61 (-2000000002)) (List.mem_cons_of_mem _ (List.mem_append_left _ (List.mem_append_left _ (List.mem_of_getElem? (i := 0) rfl))))) (by decide) dX9_middle_16 ?_
    refine call_i (run_V (a := ea E 21) (As := [.int (iI ((-2000000002)))]) (rest := []) ⟨hx, hb, hml, hown, hts⟩ (ctX9_refuses l E (-2000000002) s1 _ (by decide) h) (cwV 1 hts gX9_middle_X9_refuses rfl rfl rfl ⟨rfl, hdX9_refuses⟩ ⟨Nat.le_of_ble_eq_true rfl, Nat.le_of_ble_eq_true rfl⟩) hK hN hg (recv_x (ci := 9) (C := RX9) (T := TX9) (N := 27) hg hK (by decide) rfl (by decide) rfl) rfl hl.1 rfl (cat_sum _ (by simp)) dX9_middle_18 ⟨Nat.le_refl 0, Nat.le_refl 0⟩) hg (fun r6 s5 H locs hz7 hm2 h hg => ?_)
    have hm := hm.tn hm2
    exact ret_i hx hb hr hlocks hg hz7 hm h dX9_middle_21
  · have h := h.2 c4
    refine lv_iload_n hx hb dX9_middle_7 rfl (lv_at hl 2 rfl) ?_
    refine lv_iload_n hx hb dX9_middle_8 rfl (lv_at hl 3 rfl) ?_
    refine call_z (run_S (As := [.int (iI (a2)), .int (iI (a3))]) (rest := []) ⟨hx, hb, hml, hown, hts⟩ (ctX9_isRange l E a2 a3 s1 _ ha2 ha3 h) (va_cwS 2 hts gX9_middle_X9_isRange rfl rfl rfl hdX9_isRange ⟨Nat.le_of_ble_eq_true rfl, Nat.le_of_ble_eq_true rfl⟩) hK hN hg rfl hl.1 rfl (cat_sum _ (by simp)) dX9_middle_9 ⟨Nat.le_refl 0, Nat.le_refl 0⟩) hg (fun r9 s8 H locs hz10 hm2 h hg => ?_)
    have hm := hm.tn hm2
    refine k_ne (tgt := 22) hx hb dX9_middle_12 (by decide) (z_R hz10) (fun c11 => ?_) (fun c11 => ?_)
    · have h := h.1 c11
      refine lv_aload_n hx hb dX9_middle_22 rfl (lv_at hl 0 rfl) ?_
      refine lv_iload_n hx hb dX9_middle_23 rfl (lv_at hl 1 rfl) ?_
      refine lv_iload_n hx hb dX9_middle_24 rfl (lv_at hl 2 rfl) ?_
      refine call_i (run_V (a := ea E 21) (As := [.int (iI (a1)), .int (iI (a2))]) (rest := []) ⟨hx, hb, hml, hown, hts⟩ (ctX9_below l E a1 a2 s8 _ ha1 ha2 h) (cwV 2 hts gX9_middle_X9_below rfl rfl rfl ⟨rfl, hdX9_below⟩ ⟨Nat.le_of_ble_eq_true rfl, Nat.le_of_ble_eq_true rfl⟩) hK hN hg (recv_x (ci := 9) (C := RX9) (T := TX9) (N := 27) hg hK (by decide) rfl (by decide) rfl) rfl hl.1 rfl (cat_sum _ (by simp)) dX9_middle_25 ⟨Nat.le_refl 0, Nat.le_refl 0⟩) hg (fun r13 s12 H locs hz14 hm2 h hg => ?_)
      have hm := hm.tn hm2
      refine lv_istore (i := 4) (lv' := [(4, .int (iI (r13))), (0, .ref (ea E 21)), (1, .int (iI (a1))), (2, .int (iI (a2))), (3, .int (iI (a3)))]) hx hb dX9_middle_28 hl (by decide) rfl (fun ls hl => ?_)
      refine lv_aload_n hx hb dX9_middle_30 rfl (lv_at hl 1 rfl) ?_
      refine lv_iload_n hx hb dX9_middle_31 rfl (lv_at hl 2 rfl) ?_
      refine lv_iload_n hx hb dX9_middle_32 rfl (lv_at hl 4 rfl) ?_
      refine lv_iconst (v := iI 1) hx hb dX9_middle_33 (by decide) ?_
      refine q_iadd hx hb dX9_middle_34 ?_
      obtain ⟨hR15, h⟩ := h
      refine call_i (run_V (a := ea E 21) (As := [.int (iI (a1)), .int (iI ((a3 + 1)))]) (rest := []) ⟨hx, hb, hml, hown, hts⟩ (ctX9_below l E a1 (a3 + 1) s12 _ ha1 hR15 h) (cwV 2 hts gX9_middle_X9_below rfl rfl rfl ⟨rfl, hdX9_below⟩ ⟨Nat.le_of_ble_eq_true rfl, Nat.le_of_ble_eq_true rfl⟩) hK hN hg (recv_x (ci := 9) (C := RX9) (T := TX9) (N := 27) hg hK (by decide) rfl (by decide) rfl) rfl hl.1 rfl (cat_sum _ (by simp)) dX9_middle_35 ⟨Nat.le_refl 0, Nat.le_refl 0⟩) hg (fun r17 s16 H locs hz18 hm2 h hg => ?_)
      have hm := hm.tn hm2
      refine lv_iload hx hb dX9_middle_38 (lv_at hl 0 rfl) ?_
      refine q_isub hx hb dX9_middle_40 ?_
      refine lv_istore (i := 5) (lv' := [(5, .int (iI ((r17 - r13)))), (4, .int (iI (r13))), (0, .ref (ea E 21)), (1, .int (iI (a1))), (2, .int (iI (a2))), (3, .int (iI (a3)))]) hx hb dX9_middle_41 hl (by decide) rfl (fun ls hl => ?_)
      refine lv_iload hx hb dX9_middle_43 (lv_at hl 0 rfl) ?_
      obtain ⟨hR19, h⟩ := h
      refine k_ne (tgt := 53) hx hb dX9_middle_45 (by decide) hR19 (fun c20 => ?_) (fun c20 => ?_)
      · have h := h.1 c20
        refine lv_aload_n hx hb dX9_middle_53 rfl (lv_at hl 2 rfl) ?_
        refine lv_iload_n hx hb dX9_middle_54 rfl (lv_at hl 3 rfl) ?_
        refine lv_iload hx hb dX9_middle_55 (lv_at hl 1 rfl) ?_
        refine lv_iload hx hb dX9_middle_57 (lv_at hl 0 rfl) ?_
        refine lv_iconst (v := iI 1) hx hb dX9_middle_59 (by decide) ?_
        refine q_isub hx hb dX9_middle_60 ?_
        refine lv_iconst (v := iI 2) hx hb dX9_middle_61 (by decide) ?_
        obtain ⟨hR21, h⟩ := h
        refine q_idiv hx hb hR21 (by decide) (by decide) dX9_middle_62 ?_
        refine q_iadd hx hb dX9_middle_63 ?_
        obtain ⟨hR22, h⟩ := h
        refine call_i (run_V (a := ea E 21) (As := [.int (iI (a1)), .int (iI ((r13 + (Int.tdiv (((r17 - r13) - 1)) 2))))]) (rest := []) ⟨hx, hb, hml, hown, hts⟩ (ctX9_keyAt l E a1 (r13 + (Int.tdiv (((r17 - r13) - 1)) 2)) s16 _ ha1 hR22 h) (cwV 2 hts gX9_middle_X9_keyAt rfl rfl rfl ⟨rfl, hdX9_keyAt⟩ ⟨Nat.le_of_ble_eq_true rfl, Nat.le_of_ble_eq_true rfl⟩) hK hN hg (recv_x (ci := 9) (C := RX9) (T := TX9) (N := 27) hg hK (by decide) rfl (by decide) rfl) rfl hl.1 rfl (cat_sum _ (by simp)) dX9_middle_64 ⟨Nat.le_refl 0, Nat.le_refl 0⟩) hg (fun r24 s23 H locs hz25 hm2 h hg => ?_)
        have hm := hm.tn hm2
        exact ret_i hx hb hr hlocks hg hz25 hm h dX9_middle_67
      · have h := h.2 c20
        refine q_ldc (z := (-2000000001)) hx hb hown (hts (.constant RX9 120 (-2000000001)) (List.mem_cons_of_mem _ (List.mem_append_left _ (List.mem_append_left _ (List.mem_of_getElem? (i := 1) rfl))))) (by decide) dX9_middle_48 ?_
        refine lv_goto (tgt := 67) hx hb dX9_middle_50 (by decide) ?_
        exact ret_i hx hb hr hlocks hg (by decide) hm h dX9_middle_67
    · have h := h.2 c11
      refine lv_aload_n hx hb dX9_middle_15 rfl (lv_at hl 0 rfl) ?_
      refine q_ldc (z := (-2000000002)) hx hb hown (hts (.constant RX9 61 (-2000000002)) (List.mem_cons_of_mem _ (List.mem_append_left _ (List.mem_append_left _ (List.mem_of_getElem? (i := 0) rfl))))) (by decide) dX9_middle_16 ?_
      refine call_i (run_V (a := ea E 21) (As := [.int (iI ((-2000000002)))]) (rest := []) ⟨hx, hb, hml, hown, hts⟩ (ctX9_refuses l E (-2000000002) s8 _ (by decide) h) (cwV 1 hts gX9_middle_X9_refuses rfl rfl rfl ⟨rfl, hdX9_refuses⟩ ⟨Nat.le_of_ble_eq_true rfl, Nat.le_of_ble_eq_true rfl⟩) hK hN hg (recv_x (ci := 9) (C := RX9) (T := TX9) (N := 27) hg hK (by decide) rfl (by decide) rfl) rfl hl.1 rfl (cat_sum _ (by simp)) dX9_middle_18 ⟨Nat.le_refl 0, Nat.le_refl 0⟩) hg (fun r27 s26 H locs hz28 hm2 h hg => ?_)
      have hm := hm.tn hm2
      exact ret_i hx hb hr hlocks hg hz28 hm h dX9_middle_21
theorem hdX9_gap : yX9_gap.cls ≠ "java/lang/invoke/MethodHandle" ∧ yX9_gap.cls ≠ "java/lang/invoke/VarHandle" ∧ (parseMethodDescriptor yX9_gap.desc).map (fun d => d.parameters.length) = some 1 := by decide +kernel
set_option maxRecDepth 100000 in
set_option maxHeartbeats 4000000 in
theorem ctX9_gap (l : Launch) (E : Ev) (a1 : Int) (σ : SS) (Q : Int → SS → Prop) (ha1 : R32 a1) (h : wX9_gap a1 σ Q) : Met l yX9_gap wsX9_gap ({ frames := 2, cells := 0, slots := 0, locals := 45 } : Room) (Pc E σ [.ref (ea E 21), .int (iI (a1))]) (Qi E (sz σ) σ Q) 0 0 (Av E) := by
  rw [wX9_gap] at h
  refine Met.ofW (cc := cX9_gap) (maxL := 5) (ret := (some .int)) (by decide) rfl ?_
  intro p e s m args below meth c s₁ B hml hv
  obtain ⟨rfl, hH, hK, hN⟩ := hv
  have hx := B.exec
  have hb := B.bytes
  have hr := B.returns
  have hts := atoms_spec (ws := wsX9_gap) B.pre
  have hown : s.vm.findClass RX9 = some m.cls := findClass_of_methodNamed B.named
  have hlocks := B.notSynchronized
  have hg : GS E σ s s.heap [] := ⟨hH, va_S.rf⟩
  have hm : Mo (sz σ) σ σ := Mo.rf (Nat.le_refl _)
  have hl := ent (vs := [.ref (ea E 21), .int (iI (a1))]) (n := 5) (cats_x (cats_i cats_nil)) (Nat.le_of_ble_eq_true rfl)
  rw [lg_entry_eq]
  generalize (lg_sl ([.ref (ea E 21), .int (iI (a1))]) ++ List.replicate (5 - (lg_sl ([.ref (ea E 21), .int (iI (a1))])).length) Slot.unset).toArray = ls at hl ⊢
  have hl : lv_has ls 5 [(0, .ref (ea E 21)), (1, .int (iI (a1)))] := hl
  have J19 : ∀ (k : Nat), ∀ (v2 : Int) (v3 : Int) (sL : SS) (H : Heap) (locs : List Loc) (ls : Array Slot), GS E sL s H locs → Mo (sz σ) σ sL → lv_has ls 5 [(0, .ref (ea E 21)), (1, .int (iI (a1))), (2, .int (iI (v2))), (3, .int (iI (v3)))] → wX9_gap_L19 a1 Q  k v2 v3 sL → W p l e (headSpec wsX9_gap ({ frames := 2, cells := 0, slots := 0, locals := 45 } : Room)).room s m (List.toArray [.ref (ea E 21), .int (iI (a1))]) below meth c H locs 0 0 (MQ below (Qi E (sz σ) σ Q) (List.toArray [.ref (ea E 21), .int (iI (a1))]) s 0 0 (Av E)) (F0 m 19 ls []) := by
    intro k
    induction k with
    | zero => intro v2 v3 sL H locs ls hg hm hl h; exact False.elim h
    | succ k ih =>
      intro v2 v3 sL H locs ls hg hm hl h
      rw [wX9_gap_L19] at h
      refine lv_iload_n hx hb dX9_gap_19 rfl (lv_at hl 3 rfl) ?_
      refine lv_aload_n hx hb dX9_gap_20 rfl (lv_at hl 0 rfl) ?_
      refine q_getx (ci := 9) (C := RX9) (T := TX9) (N := 27) (j := 23) hx hb hts (fun _ h9 => List.mem_cons_of_mem _ (List.mem_append_right _ h9)) hown hK hg 21 (by decide) rfl rfl (by decide) rfl 1 (by decide) (hts (.fieldLink RX9 13 "JoinMapsModel" "sizes" "[I") (List.mem_cons_of_mem _ (List.mem_append_left _ (List.mem_of_getElem? (i := 2) rfl)))) rfl rfl rfl dX9_gap_21 ?_
      refine lv_iload_n hx hb dX9_gap_24 rfl (lv_at hl 1 rfl) ?_
      obtain ⟨hP8, hP9, h⟩ := h
      refine q_iald (N := 6) hx hb hK hg 23 (by decide) rfl rfl hP8 hP9 (by decide) dX9_gap_25 ?_
      have hR10 := GS_R hg 23 (a1 : Int).toNat
      obtain ⟨hR11, h⟩ := h
      refine j_ge (tgt := 65) hx hb dX9_gap_26 (by decide) hR11 hR10 (fun c12 => ?_) (fun c12 => ?_)
      · have h := h.1 c12
        refine lv_iload_n hx hb dX9_gap_65 rfl (lv_at hl 2 rfl) ?_
        obtain ⟨hR13, h⟩ := h
        exact ret_i hx hb hr hlocks hg hR13 hm h dX9_gap_66
      · have h := h.2 c12
        refine lv_aload_n hx hb dX9_gap_29 rfl (lv_at hl 0 rfl) ?_
        refine lv_iload_n hx hb dX9_gap_30 rfl (lv_at hl 1 rfl) ?_
        refine lv_iload_n hx hb dX9_gap_31 rfl (lv_at hl 3 rfl) ?_
        refine call_i (run_V (a := ea E 21) (As := [.int (iI (a1)), .int (iI (v3))]) (rest := []) ⟨hx, hb, hml, hown, hts⟩ (ctX9_keyAt l E a1 v3 sL _ ha1 hR11 h) (cwV 2 hts gX9_gap_X9_keyAt rfl rfl rfl ⟨rfl, hdX9_keyAt⟩ ⟨Nat.le_of_ble_eq_true rfl, Nat.le_of_ble_eq_true rfl⟩) hK hN hg (recv_x (ci := 9) (C := RX9) (T := TX9) (N := 27) hg hK (by decide) rfl (by decide) rfl) rfl hl.1 rfl (cat_sum _ (by simp)) dX9_gap_32 ⟨Nat.le_refl 0, Nat.le_refl 0⟩) hg (fun r15 s14 H locs hz16 hm2 h hg => ?_)
        have hm := hm.tn hm2
        refine lv_aload_n hx hb dX9_gap_35 rfl (lv_at hl 0 rfl) ?_
        refine lv_iload_n hx hb dX9_gap_36 rfl (lv_at hl 1 rfl) ?_
        refine lv_iload_n hx hb dX9_gap_37 rfl (lv_at hl 3 rfl) ?_
        refine lv_iconst (v := iI 1) hx hb dX9_gap_38 (by decide) ?_
        refine q_isub hx hb dX9_gap_39 ?_
        obtain ⟨hR17, h⟩ := h
        refine call_i (run_V (a := ea E 21) (As := [.int (iI (a1)), .int (iI ((v3 - 1)))]) (rest := [.int (iI (r15))]) ⟨hx, hb, hml, hown, hts⟩ (ctX9_keyAt l E a1 (v3 - 1) s14 _ ha1 hR17 h) (cwV 2 hts gX9_gap_X9_keyAt rfl rfl rfl ⟨rfl, hdX9_keyAt⟩ ⟨Nat.le_of_ble_eq_true rfl, Nat.le_of_ble_eq_true rfl⟩) hK hN hg (recv_x (ci := 9) (C := RX9) (T := TX9) (N := 27) hg hK (by decide) rfl (by decide) rfl) rfl hl.1 rfl (cat_sum _ (by simp)) dX9_gap_40 ⟨Nat.le_refl 0, Nat.le_refl 0⟩) hg (fun r19 s18 H locs hz20 hm2 h hg => ?_)
        have hm := hm.tn hm2
        refine q_isub hx hb dX9_gap_43 ?_
        refine lv_istore (i := 4) (lv' := [(4, .int (iI ((r15 - r19)))), (0, .ref (ea E 21)), (1, .int (iI (a1))), (2, .int (iI (v2))), (3, .int (iI (v3)))]) hx hb dX9_gap_44 hl (by decide) rfl (fun ls hl => ?_)
        refine lv_iload hx hb dX9_gap_46 (lv_at hl 0 rfl) ?_
        refine lv_iload_n hx hb dX9_gap_48 rfl (lv_at hl 3 rfl) ?_
        obtain ⟨hR21, hR22, h⟩ := h
        refine j_le (tgt := 57) hx hb dX9_gap_49 (by decide) hR21 hR22 (fun c23 => ?_) (fun c23 => ?_)
        · have h := h.1 c23
          refine lv_iload_n hx hb dX9_gap_57 rfl (lv_at hl 3 rfl) ?_
          refine lv_istore_n (i := 2) (lv' := [(2, .int (iI (v2))), (4, .int (iI ((r15 - r19)))), (0, .ref (ea E 21)), (1, .int (iI (a1))), (3, .int (iI (v3)))]) hx hb dX9_gap_58 rfl hl (by decide) rfl (fun ls hl => ?_)
          refine lv_iinc (v := iI (v3 + 1)) (lv' := [(3, .int (iI (v3 + 1))), (2, .int (iI (v2))), (4, .int (iI ((r15 - r19)))), (0, .ref (ea E 21)), (1, .int (iI (a1)))]) hx hb dX9_gap_59 hl (k := 4) rfl (iI_add _ _) (by decide) rfl (fun ls hl => ?_)
          refine lv_goto (tgt := 19) hx hb dX9_gap_62 (by decide) ?_
          exact ih (v2) (v3 + 1) (s18) _ _ _ hg hm (lv_sub hl [3, 4, 1, 0] rfl) h
        · have h := h.2 c23
          refine lv_iload hx hb dX9_gap_52 (lv_at hl 0 rfl) ?_
          refine lv_goto (tgt := 58) hx hb dX9_gap_54 (by decide) ?_
          refine lv_istore_n (i := 2) (lv' := [(2, .int (iI ((r15 - r19)))), (4, .int (iI ((r15 - r19)))), (0, .ref (ea E 21)), (1, .int (iI (a1))), (3, .int (iI (v3)))]) hx hb dX9_gap_58 rfl hl (by decide) rfl (fun ls hl => ?_)
          refine lv_iinc (v := iI (v3 + 1)) (lv' := [(3, .int (iI (v3 + 1))), (2, .int (iI ((r15 - r19)))), (4, .int (iI ((r15 - r19)))), (0, .ref (ea E 21)), (1, .int (iI (a1)))]) hx hb dX9_gap_59 hl (k := 4) rfl (iI_add _ _) (by decide) rfl (fun ls hl => ?_)
          refine lv_goto (tgt := 19) hx hb dX9_gap_62 (by decide) ?_
          exact ih ((r15 - r19)) (v3 + 1) (s18) _ _ _ hg hm (lv_sub hl [3, 4, 1, 0] rfl) h
  refine lv_iload_n hx hb dX9_gap_0 rfl (lv_at hl 1 rfl) ?_
  refine call_z (run_S (As := [.int (iI (a1))]) (rest := []) ⟨hx, hb, hml, hown, hts⟩ (ctX9_isMap l E a1 σ _ ha1 h) (va_cwS 1 hts gX9_gap_X9_isMap rfl rfl rfl hdX9_isMap ⟨Nat.le_of_ble_eq_true rfl, Nat.le_of_ble_eq_true rfl⟩) hK hN hg rfl hl.1 rfl (cat_sum _ (by simp)) dX9_gap_1 ⟨Nat.le_refl 0, Nat.le_refl 0⟩) hg (fun r2 s1 H locs hz3 hm2 h hg => ?_)
  have hm := hm.tn hm2
  refine k_ne (tgt := 14) hx hb dX9_gap_4 (by decide) (z_R hz3) (fun c4 => ?_) (fun c4 => ?_)
  · have h := h.1 c4
    refine q_ldc (z := (-2000000001)) hx hb hown (hts (.constant RX9 120 (-2000000001)) (List.mem_cons_of_mem _ (List.mem_append_left _ (List.mem_of_getElem? (i := 1) rfl)))) (by decide) dX9_gap_14 ?_
    refine lv_istore_n (i := 2) (lv' := [(2, .int (iI ((-2000000001)))), (0, .ref (ea E 21)), (1, .int (iI (a1)))]) hx hb dX9_gap_16 rfl hl (by decide) rfl (fun ls hl => ?_)
    refine lv_iconst (v := iI 1) hx hb dX9_gap_17 (by decide) ?_
    refine lv_istore_n (i := 3) (lv' := [(3, .int (iI (1))), (2, .int (iI ((-2000000001)))), (0, .ref (ea E 21)), (1, .int (iI (a1)))]) hx hb dX9_gap_18 rfl hl (by decide) rfl (fun ls hl => ?_)
    obtain ⟨kk, h⟩ := h
    exact J19  kk ((-2000000001)) (1) (s1) _ _ _ hg hm (lv_sub hl [2, 3, 1, 0] rfl) h
  · have h := h.2 c4
    refine lv_aload_n hx hb dX9_gap_7 rfl (lv_at hl 0 rfl) ?_
    refine q_ldc (z := (-2000000002)) hx hb hown (hts (.constant RX9 61 (-2000000002)) (List.mem_cons_of_mem _ (List.mem_append_left _ (List.mem_of_getElem? (i := 0) rfl)))) (by decide) dX9_gap_8 ?_
    refine call_i (run_V (a := ea E 21) (As := [.int (iI ((-2000000002)))]) (rest := []) ⟨hx, hb, hml, hown, hts⟩ (ctX9_refuses l E (-2000000002) s1 _ (by decide) h) (cwV 1 hts gX9_gap_X9_refuses rfl rfl rfl ⟨rfl, hdX9_refuses⟩ ⟨Nat.le_of_ble_eq_true rfl, Nat.le_of_ble_eq_true rfl⟩) hK hN hg (recv_x (ci := 9) (C := RX9) (T := TX9) (N := 27) hg hK (by decide) rfl (by decide) rfl) rfl hl.1 rfl (cat_sum _ (by simp)) dX9_gap_10 ⟨Nat.le_refl 0, Nat.le_refl 0⟩) hg (fun r6 s5 H locs hz7 hm2 h hg => ?_)
    have hm := hm.tn hm2
    exact ret_i hx hb hr hlocks hg hz7 hm h dX9_gap_13
theorem hdX9_top : yX9_top.cls ≠ "java/lang/invoke/MethodHandle" ∧ yX9_top.cls ≠ "java/lang/invoke/VarHandle" ∧ (parseMethodDescriptor yX9_top.desc).map (fun d => d.parameters.length) = some 2 := by decide +kernel
set_option maxRecDepth 100000 in
set_option maxHeartbeats 4000000 in
theorem ctX9_top (l : Launch) (E : Ev) (a1 : Int) (a2 : Int) (σ : SS) (Q : Int → SS → Prop) (ha1 : R32 a1) (ha2 : R32 a2) (h : wX9_top a1 a2 σ Q) : Met l yX9_top wsX9_top ({ frames := 2, cells := 0, slots := 0, locals := 45 } : Room) (Pc E σ [.ref (ea E 21), .int (iI (a1)), .int (iI (a2))]) (Qi E (sz σ) σ Q) 0 0 (Av E) := by
  rw [wX9_top] at h
  refine Met.ofW (cc := cX9_top) (maxL := 6) (ret := (some .int)) (by decide) rfl ?_
  intro p e s m args below meth c s₁ B hml hv
  obtain ⟨rfl, hH, hK, hN⟩ := hv
  have hx := B.exec
  have hb := B.bytes
  have hr := B.returns
  have hts := atoms_spec (ws := wsX9_top) B.pre
  have hown : s.vm.findClass RX9 = some m.cls := findClass_of_methodNamed B.named
  have hlocks := B.notSynchronized
  have hg : GS E σ s s.heap [] := ⟨hH, va_S.rf⟩
  have hm : Mo (sz σ) σ σ := Mo.rf (Nat.le_refl _)
  have hl := ent (vs := [.ref (ea E 21), .int (iI (a1)), .int (iI (a2))]) (n := 6) (cats_x (cats_i (cats_i cats_nil))) (Nat.le_of_ble_eq_true rfl)
  rw [lg_entry_eq]
  generalize (lg_sl ([.ref (ea E 21), .int (iI (a1)), .int (iI (a2))]) ++ List.replicate (6 - (lg_sl ([.ref (ea E 21), .int (iI (a1)), .int (iI (a2))])).length) Slot.unset).toArray = ls at hl ⊢
  have hl : lv_has ls 6 [(0, .ref (ea E 21)), (1, .int (iI (a1))), (2, .int (iI (a2)))] := hl
  have J36 : ∀ (K20 : Int → SS → Prop) (hK20 : ∀ (v3 : Int) (sL : SS) (H : Heap) (locs : List Loc) (ls : Array Slot), GS E sL s H locs → Mo (sz σ) σ sL → lv_has ls 6 [(0, .ref (ea E 21)), (1, .int (iI (a1))), (2, .int (iI (a2))), (3, .int (iI (v3)))] → K20 v3 sL → W p l e (headSpec wsX9_top ({ frames := 2, cells := 0, slots := 0, locals := 45 } : Room)).room s m (List.toArray [.ref (ea E 21), .int (iI (a1)), .int (iI (a2))]) below meth c H locs 0 0 (MQ below (Qi E (sz σ) σ Q) (List.toArray [.ref (ea E 21), .int (iI (a1)), .int (iI (a2))]) s 0 0 (Av E)) (F0 m 20 ls [])) (k : Nat), ∀ (v3 : Int) (v4 : Int) (v5 : Int) (sL : SS) (H : Heap) (locs : List Loc) (ls : Array Slot), GS E sL s H locs → Mo (sz σ) σ sL → lv_has ls 6 [(0, .ref (ea E 21)), (1, .int (iI (a1))), (2, .int (iI (a2))), (3, .int (iI (v3))), (4, .int (iI (v4))), (5, .int (iI (v5)))] → wX9_top_L36 a1 a2 Q K20 k v3 v4 v5 sL → W p l e (headSpec wsX9_top ({ frames := 2, cells := 0, slots := 0, locals := 45 } : Room)).room s m (List.toArray [.ref (ea E 21), .int (iI (a1)), .int (iI (a2))]) below meth c H locs 0 0 (MQ below (Qi E (sz σ) σ Q) (List.toArray [.ref (ea E 21), .int (iI (a1)), .int (iI (a2))]) s 0 0 (Av E)) (F0 m 36 ls []) := by
    intro K20 hK20
    intro k
    induction k with
    | zero => intro v3 v4 v5 sL H locs ls hg hm hl h; exact False.elim h
    | succ k ih =>
      intro v3 v4 v5 sL H locs ls hg hm hl h
      rw [wX9_top_L36] at h
      refine lv_iload hx hb dX9_top_36 (lv_at hl 5 rfl) ?_
      refine lv_aload_n hx hb dX9_top_38 rfl (lv_at hl 0 rfl) ?_
      refine q_getx (ci := 9) (C := RX9) (T := TX9) (N := 27) (j := 23) hx hb hts (fun _ h9 => List.mem_cons_of_mem _ (List.mem_append_right _ h9)) hown hK hg 21 (by decide) rfl rfl (by decide) rfl 1 (by decide) (hts (.fieldLink RX9 13 "JoinMapsModel" "sizes" "[I") (List.mem_cons_of_mem _ (List.mem_append_left _ (List.mem_append_left _ (List.mem_of_getElem? (i := 1) rfl))))) rfl rfl rfl dX9_top_39 ?_
      refine lv_iload_n hx hb dX9_top_42 rfl (lv_at hl 1 rfl) ?_
      obtain ⟨hP17, hP18, h⟩ := h
      refine q_iald (N := 6) hx hb hK hg 23 (by decide) rfl rfl hP17 hP18 (by decide) dX9_top_43 ?_
      have hR19 := GS_R hg 23 (a1 : Int).toNat
      obtain ⟨hR20, h⟩ := h
      refine j_ge (tgt := 101) hx hb dX9_top_44 (by decide) hR20 hR19 (fun c21 => ?_) (fun c21 => ?_)
      · have h := h.1 c21
        refine lv_iload hx hb dX9_top_101 (lv_at hl 4 rfl) ?_
        refine lv_iload_n hx hb dX9_top_103 rfl (lv_at hl 2 rfl) ?_
        obtain ⟨hR22, h⟩ := h
        refine j_ne (tgt := 114) hx hb dX9_top_104 (by decide) hR22 ha2 (fun c23 => ?_) (fun c23 => ?_)
        · have h := h.1 c23
          refine lv_iinc (v := iI (v3 + 1)) (lv' := [(3, .int (iI (v3 + 1))), (0, .ref (ea E 21)), (1, .int (iI (a1))), (2, .int (iI (a2))), (4, .int (iI (v4))), (5, .int (iI (v5)))]) hx hb dX9_top_114 hl (k := 3) rfl (iI_add _ _) (by decide) rfl (fun ls hl => ?_)
          refine lv_goto (tgt := 20) hx hb dX9_top_117 (by decide) ?_
          exact hK20 (v3 + 1) (sL) _ _ _ hg hm (lv_sub hl [1, 2, 3, 0] rfl) h
        · have h := h.2 c23
          refine lv_aload_n hx hb dX9_top_107 rfl (lv_at hl 0 rfl) ?_
          refine lv_iload_n hx hb dX9_top_108 rfl (lv_at hl 1 rfl) ?_
          refine lv_iload_n hx hb dX9_top_109 rfl (lv_at hl 3 rfl) ?_
          obtain ⟨hR24, h⟩ := h
          refine call_i (run_V (a := ea E 21) (As := [.int (iI (a1)), .int (iI (v3))]) (rest := []) ⟨hx, hb, hml, hown, hts⟩ (ctX9_keyAt l E a1 v3 sL _ ha1 hR24 h) (cwV 2 hts gX9_top_X9_keyAt rfl rfl rfl ⟨rfl, hdX9_keyAt⟩ ⟨Nat.le_of_ble_eq_true rfl, Nat.le_of_ble_eq_true rfl⟩) hK hN hg (recv_x (ci := 9) (C := RX9) (T := TX9) (N := 27) hg hK (by decide) rfl (by decide) rfl) rfl hl.1 rfl (cat_sum _ (by simp)) dX9_top_110 ⟨Nat.le_refl 0, Nat.le_refl 0⟩) hg (fun r26 s25 H locs hz27 hm2 h hg => ?_)
          have hm := hm.tn hm2
          exact ret_i hx hb hr hlocks hg hz27 hm h dX9_top_113
      · have h := h.2 c21
        refine lv_iload hx hb dX9_top_47 (lv_at hl 4 rfl) ?_
        refine lv_aload_n hx hb dX9_top_49 rfl (lv_at hl 0 rfl) ?_
        refine lv_iload_n hx hb dX9_top_50 rfl (lv_at hl 1 rfl) ?_
        refine lv_iload hx hb dX9_top_51 (lv_at hl 5 rfl) ?_
        refine call_i (run_V (a := ea E 21) (As := [.int (iI (a1)), .int (iI (v5))]) (rest := [.int (iI (v4))]) ⟨hx, hb, hml, hown, hts⟩ (ctX9_valueAt l E a1 v5 sL _ ha1 hR20 h) (cwV 2 hts gX9_top_X9_valueAt rfl rfl rfl ⟨rfl, hdX9_valueAt⟩ ⟨Nat.le_of_ble_eq_true rfl, Nat.le_of_ble_eq_true rfl⟩) hK hN hg (recv_x (ci := 9) (C := RX9) (T := TX9) (N := 27) hg hK (by decide) rfl (by decide) rfl) rfl hl.1 rfl (cat_sum _ (by simp)) dX9_top_53 ⟨Nat.le_refl 0, Nat.le_refl 0⟩) hg (fun r29 s28 H locs hz30 hm2 h hg => ?_)
        have hm := hm.tn hm2
        refine lv_aload_n hx hb dX9_top_56 rfl (lv_at hl 0 rfl) ?_
        refine lv_iload_n hx hb dX9_top_57 rfl (lv_at hl 1 rfl) ?_
        refine lv_iload_n hx hb dX9_top_58 rfl (lv_at hl 3 rfl) ?_
        obtain ⟨hR31, h⟩ := h
        refine call_i (run_V (a := ea E 21) (As := [.int (iI (a1)), .int (iI (v3))]) (rest := [.int (iI (r29)), .int (iI (v4))]) ⟨hx, hb, hml, hown, hts⟩ (ctX9_valueAt l E a1 v3 s28 _ ha1 hR31 h) (cwV 2 hts gX9_top_X9_valueAt rfl rfl rfl ⟨rfl, hdX9_valueAt⟩ ⟨Nat.le_of_ble_eq_true rfl, Nat.le_of_ble_eq_true rfl⟩) hK hN hg (recv_x (ci := 9) (C := RX9) (T := TX9) (N := 27) hg hK (by decide) rfl (by decide) rfl) rfl hl.1 rfl (cat_sum _ (by simp)) dX9_top_59 ⟨Nat.le_refl 0, Nat.le_refl 0⟩) hg (fun r33 s32 H locs hz34 hm2 h hg => ?_)
        have hm := hm.tn hm2
        refine j_gt (tgt := 87) hx hb dX9_top_62 (by decide) hz30 hz34 (fun c35 => ?_) (fun c35 => ?_)
        · have h := h.1 c35
          refine lv_iconst (v := iI 1) hx hb dX9_top_87 (by decide) ?_
          refine lv_goto (tgt := 92) hx hb dX9_top_88 (by decide) ?_
          refine q_iadd hx hb dX9_top_92 ?_
          refine lv_istore (i := 4) (lv' := [(4, .int (iI ((v4 + 1)))), (0, .ref (ea E 21)), (1, .int (iI (a1))), (2, .int (iI (a2))), (3, .int (iI (v3))), (5, .int (iI (v5)))]) hx hb dX9_top_93 hl (by decide) rfl (fun ls hl => ?_)
          refine lv_iinc (v := iI (v5 + 1)) (lv' := [(5, .int (iI (v5 + 1))), (4, .int (iI ((v4 + 1)))), (0, .ref (ea E 21)), (1, .int (iI (a1))), (2, .int (iI (a2))), (3, .int (iI (v3)))]) hx hb dX9_top_95 hl (k := 5) rfl (iI_add _ _) (by decide) rfl (fun ls hl => ?_)
          refine lv_goto (tgt := 36) hx hb dX9_top_98 (by decide) ?_
          exact ih (v3) ((v4 + 1)) (v5 + 1) (s32) _ _ _ hg hm (lv_sub hl [2, 3, 4, 5, 1, 0] rfl) h
        · have h := h.2 c35
          refine lv_aload_n hx hb dX9_top_65 rfl (lv_at hl 0 rfl) ?_
          refine lv_iload_n hx hb dX9_top_66 rfl (lv_at hl 1 rfl) ?_
          refine lv_iload hx hb dX9_top_67 (lv_at hl 5 rfl) ?_
          refine call_i (run_V (a := ea E 21) (As := [.int (iI (a1)), .int (iI (v5))]) (rest := [.int (iI (v4))]) ⟨hx, hb, hml, hown, hts⟩ (ctX9_valueAt l E a1 v5 s32 _ ha1 hR20 h) (cwV 2 hts gX9_top_X9_valueAt rfl rfl rfl ⟨rfl, hdX9_valueAt⟩ ⟨Nat.le_of_ble_eq_true rfl, Nat.le_of_ble_eq_true rfl⟩) hK hN hg (recv_x (ci := 9) (C := RX9) (T := TX9) (N := 27) hg hK (by decide) rfl (by decide) rfl) rfl hl.1 rfl (cat_sum _ (by simp)) dX9_top_69 ⟨Nat.le_refl 0, Nat.le_refl 0⟩) hg (fun r37 s36 H locs hz38 hm2 h hg => ?_)
          have hm := hm.tn hm2
          refine lv_aload_n hx hb dX9_top_72 rfl (lv_at hl 0 rfl) ?_
          refine lv_iload_n hx hb dX9_top_73 rfl (lv_at hl 1 rfl) ?_
          refine lv_iload_n hx hb dX9_top_74 rfl (lv_at hl 3 rfl) ?_
          refine call_i (run_V (a := ea E 21) (As := [.int (iI (a1)), .int (iI (v3))]) (rest := [.int (iI (r37)), .int (iI (v4))]) ⟨hx, hb, hml, hown, hts⟩ (ctX9_valueAt l E a1 v3 s36 _ ha1 hR31 h) (cwV 2 hts gX9_top_X9_valueAt rfl rfl rfl ⟨rfl, hdX9_valueAt⟩ ⟨Nat.le_of_ble_eq_true rfl, Nat.le_of_ble_eq_true rfl⟩) hK hN hg (recv_x (ci := 9) (C := RX9) (T := TX9) (N := 27) hg hK (by decide) rfl (by decide) rfl) rfl hl.1 rfl (cat_sum _ (by simp)) dX9_top_75 ⟨Nat.le_refl 0, Nat.le_refl 0⟩) hg (fun r40 s39 H locs hz41 hm2 h hg => ?_)
          have hm := hm.tn hm2
          refine j_ne (tgt := 91) hx hb dX9_top_78 (by decide) hz38 hz41 (fun c42 => ?_) (fun c42 => ?_)
          · have h := h.1 c42
            refine lv_iconst (v := iI 0) hx hb dX9_top_91 (by decide) ?_
            refine q_iadd hx hb dX9_top_92 ?_
            refine lv_istore (i := 4) (lv' := [(4, .int (iI ((v4 + 0)))), (0, .ref (ea E 21)), (1, .int (iI (a1))), (2, .int (iI (a2))), (3, .int (iI (v3))), (5, .int (iI (v5)))]) hx hb dX9_top_93 hl (by decide) rfl (fun ls hl => ?_)
            refine lv_iinc (v := iI (v5 + 1)) (lv' := [(5, .int (iI (v5 + 1))), (4, .int (iI ((v4 + 0)))), (0, .ref (ea E 21)), (1, .int (iI (a1))), (2, .int (iI (a2))), (3, .int (iI (v3)))]) hx hb dX9_top_95 hl (k := 5) rfl (iI_add _ _) (by decide) rfl (fun ls hl => ?_)
            refine lv_goto (tgt := 36) hx hb dX9_top_98 (by decide) ?_
            exact ih (v3) ((v4 + 0)) (v5 + 1) (s39) _ _ _ hg hm (lv_sub hl [2, 3, 4, 5, 1, 0] rfl) h
          · have h := h.2 c42
            refine lv_iload hx hb dX9_top_81 (lv_at hl 5 rfl) ?_
            refine lv_iload_n hx hb dX9_top_83 rfl (lv_at hl 3 rfl) ?_
            refine j_ge (tgt := 91) hx hb dX9_top_84 (by decide) hR20 hR31 (fun c43 => ?_) (fun c43 => ?_)
            · have h := h.1 c43
              refine lv_iconst (v := iI 0) hx hb dX9_top_91 (by decide) ?_
              refine q_iadd hx hb dX9_top_92 ?_
              refine lv_istore (i := 4) (lv' := [(4, .int (iI ((v4 + 0)))), (0, .ref (ea E 21)), (1, .int (iI (a1))), (2, .int (iI (a2))), (3, .int (iI (v3))), (5, .int (iI (v5)))]) hx hb dX9_top_93 hl (by decide) rfl (fun ls hl => ?_)
              refine lv_iinc (v := iI (v5 + 1)) (lv' := [(5, .int (iI (v5 + 1))), (4, .int (iI ((v4 + 0)))), (0, .ref (ea E 21)), (1, .int (iI (a1))), (2, .int (iI (a2))), (3, .int (iI (v3)))]) hx hb dX9_top_95 hl (k := 5) rfl (iI_add _ _) (by decide) rfl (fun ls hl => ?_)
              refine lv_goto (tgt := 36) hx hb dX9_top_98 (by decide) ?_
              exact ih (v3) ((v4 + 0)) (v5 + 1) (s39) _ _ _ hg hm (lv_sub hl [2, 3, 4, 5, 1, 0] rfl) h
            · have h := h.2 c43
              refine lv_iconst (v := iI 1) hx hb dX9_top_87 (by decide) ?_
              refine lv_goto (tgt := 92) hx hb dX9_top_88 (by decide) ?_
              refine q_iadd hx hb dX9_top_92 ?_
              refine lv_istore (i := 4) (lv' := [(4, .int (iI ((v4 + 1)))), (0, .ref (ea E 21)), (1, .int (iI (a1))), (2, .int (iI (a2))), (3, .int (iI (v3))), (5, .int (iI (v5)))]) hx hb dX9_top_93 hl (by decide) rfl (fun ls hl => ?_)
              refine lv_iinc (v := iI (v5 + 1)) (lv' := [(5, .int (iI (v5 + 1))), (4, .int (iI ((v4 + 1)))), (0, .ref (ea E 21)), (1, .int (iI (a1))), (2, .int (iI (a2))), (3, .int (iI (v3)))]) hx hb dX9_top_95 hl (k := 5) rfl (iI_add _ _) (by decide) rfl (fun ls hl => ?_)
              refine lv_goto (tgt := 36) hx hb dX9_top_98 (by decide) ?_
              exact ih (v3) ((v4 + 1)) (v5 + 1) (s39) _ _ _ hg hm (lv_sub hl [2, 3, 4, 5, 1, 0] rfl) h
  have J20 : ∀ (k : Nat), ∀ (v3 : Int) (sL : SS) (H : Heap) (locs : List Loc) (ls : Array Slot), GS E sL s H locs → Mo (sz σ) σ sL → lv_has ls 6 [(0, .ref (ea E 21)), (1, .int (iI (a1))), (2, .int (iI (a2))), (3, .int (iI (v3)))] → wX9_top_L20 a1 a2 Q  k v3 sL → W p l e (headSpec wsX9_top ({ frames := 2, cells := 0, slots := 0, locals := 45 } : Room)).room s m (List.toArray [.ref (ea E 21), .int (iI (a1)), .int (iI (a2))]) below meth c H locs 0 0 (MQ below (Qi E (sz σ) σ Q) (List.toArray [.ref (ea E 21), .int (iI (a1)), .int (iI (a2))]) s 0 0 (Av E)) (F0 m 20 ls []) := by
    intro k
    induction k with
    | zero => intro v3 sL H locs ls hg hm hl h; exact False.elim h
    | succ k ih =>
      intro v3 sL H locs ls hg hm hl h
      rw [wX9_top_L20] at h
      refine lv_iload_n hx hb dX9_top_20 rfl (lv_at hl 3 rfl) ?_
      refine lv_aload_n hx hb dX9_top_21 rfl (lv_at hl 0 rfl) ?_
      refine q_getx (ci := 9) (C := RX9) (T := TX9) (N := 27) (j := 23) hx hb hts (fun _ h9 => List.mem_cons_of_mem _ (List.mem_append_right _ h9)) hown hK hg 21 (by decide) rfl rfl (by decide) rfl 1 (by decide) (hts (.fieldLink RX9 13 "JoinMapsModel" "sizes" "[I") (List.mem_cons_of_mem _ (List.mem_append_left _ (List.mem_append_left _ (List.mem_of_getElem? (i := 1) rfl))))) rfl rfl rfl dX9_top_22 ?_
      refine lv_iload_n hx hb dX9_top_25 rfl (lv_at hl 1 rfl) ?_
      obtain ⟨hP12, hP13, h⟩ := h
      refine q_iald (N := 6) hx hb hK hg 23 (by decide) rfl rfl hP12 hP13 (by decide) dX9_top_26 ?_
      have hR14 := GS_R hg 23 (a1 : Int).toNat
      obtain ⟨hR15, h⟩ := h
      refine j_ge (tgt := 120) hx hb dX9_top_27 (by decide) hR15 hR14 (fun c16 => ?_) (fun c16 => ?_)
      · have h := h.1 c16
        refine q_ldc (z := (-2000000001)) hx hb hown (hts (.constant RX9 120 (-2000000001)) (List.mem_cons_of_mem _ (List.mem_append_left _ (List.mem_append_left _ (List.mem_of_getElem? (i := 2) rfl))))) (by decide) dX9_top_120 ?_
        exact ret_i hx hb hr hlocks hg (by decide) hm h dX9_top_122
      · have h := h.2 c16
        refine lv_iconst (v := iI 0) hx hb dX9_top_30 (by decide) ?_
        refine lv_istore (i := 4) (lv' := [(4, .int (iI (0))), (0, .ref (ea E 21)), (1, .int (iI (a1))), (2, .int (iI (a2))), (3, .int (iI (v3)))]) hx hb dX9_top_31 hl (by decide) rfl (fun ls hl => ?_)
        refine lv_iconst (v := iI 0) hx hb dX9_top_33 (by decide) ?_
        refine lv_istore (i := 5) (lv' := [(5, .int (iI (0))), (4, .int (iI (0))), (0, .ref (ea E 21)), (1, .int (iI (a1))), (2, .int (iI (a2))), (3, .int (iI (v3)))]) hx hb dX9_top_34 hl (by decide) rfl (fun ls hl => ?_)
        obtain ⟨kk, h⟩ := h
        exact J36 _ ih kk (v3) (0) (0) (sL) _ _ _ hg hm (lv_sub hl [2, 3, 4, 5, 1, 0] rfl) h
  refine lv_iload_n hx hb dX9_top_0 rfl (lv_at hl 1 rfl) ?_
  refine call_z (run_S (As := [.int (iI (a1))]) (rest := []) ⟨hx, hb, hml, hown, hts⟩ (ctX9_isMap l E a1 σ _ ha1 h) (va_cwS 1 hts gX9_top_X9_isMap rfl rfl rfl hdX9_isMap ⟨Nat.le_of_ble_eq_true rfl, Nat.le_of_ble_eq_true rfl⟩) hK hN hg rfl hl.1 rfl (cat_sum _ (by simp)) dX9_top_1 ⟨Nat.le_refl 0, Nat.le_refl 0⟩) hg (fun r2 s1 H locs hz3 hm2 h hg => ?_)
  have hm := hm.tn hm2
  refine k_eq (tgt := 11) hx hb dX9_top_4 (by decide) (z_R hz3) (fun c4 => ?_) (fun c4 => ?_)
  · have h := h.1 c4
    refine lv_aload_n hx hb dX9_top_11 rfl (lv_at hl 0 rfl) ?_
    refine q_ldc (z := (-2000000002)) hx hb hown (hts (.constant RX9 61 (-2000000002)) (List.mem_cons_of_mem _ (List.mem_append_left _ (List.mem_append_left _ (List.mem_of_getElem? (i := 0) rfl))))) (by decide) dX9_top_12 ?_
    refine call_i (run_V (a := ea E 21) (As := [.int (iI ((-2000000002)))]) (rest := []) ⟨hx, hb, hml, hown, hts⟩ (ctX9_refuses l E (-2000000002) s1 _ (by decide) h) (cwV 1 hts gX9_top_X9_refuses rfl rfl rfl ⟨rfl, hdX9_refuses⟩ ⟨Nat.le_of_ble_eq_true rfl, Nat.le_of_ble_eq_true rfl⟩) hK hN hg (recv_x (ci := 9) (C := RX9) (T := TX9) (N := 27) hg hK (by decide) rfl (by decide) rfl) rfl hl.1 rfl (cat_sum _ (by simp)) dX9_top_14 ⟨Nat.le_refl 0, Nat.le_refl 0⟩) hg (fun r6 s5 H locs hz7 hm2 h hg => ?_)
    have hm := hm.tn hm2
    exact ret_i hx hb hr hlocks hg hz7 hm h dX9_top_17
  · have h := h.2 c4
    refine lv_iload_n hx hb dX9_top_7 rfl (lv_at hl 2 rfl) ?_
    refine k_ge (tgt := 18) hx hb dX9_top_8 (by decide) ha2 (fun c8 => ?_) (fun c8 => ?_)
    · have h := h.1 c8
      refine lv_iconst (v := iI 0) hx hb dX9_top_18 (by decide) ?_
      refine lv_istore_n (i := 3) (lv' := [(3, .int (iI (0))), (0, .ref (ea E 21)), (1, .int (iI (a1))), (2, .int (iI (a2)))]) hx hb dX9_top_19 rfl hl (by decide) rfl (fun ls hl => ?_)
      obtain ⟨kk, h⟩ := h
      exact J20  kk (0) (s1) _ _ _ hg hm (lv_sub hl [1, 2, 3, 0] rfl) h
    · have h := h.2 c8
      refine lv_aload_n hx hb dX9_top_11 rfl (lv_at hl 0 rfl) ?_
      refine q_ldc (z := (-2000000002)) hx hb hown (hts (.constant RX9 61 (-2000000002)) (List.mem_cons_of_mem _ (List.mem_append_left _ (List.mem_append_left _ (List.mem_of_getElem? (i := 0) rfl))))) (by decide) dX9_top_12 ?_
      refine call_i (run_V (a := ea E 21) (As := [.int (iI ((-2000000002)))]) (rest := []) ⟨hx, hb, hml, hown, hts⟩ (ctX9_refuses l E (-2000000002) s1 _ (by decide) h) (cwV 1 hts gX9_top_X9_refuses rfl rfl rfl ⟨rfl, hdX9_refuses⟩ ⟨Nat.le_of_ble_eq_true rfl, Nat.le_of_ble_eq_true rfl⟩) hK hN hg (recv_x (ci := 9) (C := RX9) (T := TX9) (N := 27) hg hK (by decide) rfl (by decide) rfl) rfl hl.1 rfl (cat_sum _ (by simp)) dX9_top_14 ⟨Nat.le_refl 0, Nat.le_refl 0⟩) hg (fun r10 s9 H locs hz11 hm2 h hg => ?_)
      have hm := hm.tn hm2
      exact ret_i hx hb hr hlocks hg hz11 hm h dX9_top_17
theorem hdX9_same : yX9_same.cls ≠ "java/lang/invoke/MethodHandle" ∧ yX9_same.cls ≠ "java/lang/invoke/VarHandle" ∧ (parseMethodDescriptor yX9_same.desc).map (fun d => d.parameters.length) = some 2 := by decide +kernel
set_option maxRecDepth 100000 in
set_option maxHeartbeats 4000000 in
theorem ctX9_same (l : Launch) (E : Ev) (a1 : Int) (a2 : Int) (σ : SS) (Q : Int → SS → Prop) (ha1 : R32 a1) (ha2 : R32 a2) (h : wX9_same a1 a2 σ Q) : Met l yX9_same wsX9_same ({ frames := 2, cells := 0, slots := 0, locals := 45 } : Room) (Pc E σ [.ref (ea E 21), .int (iI (a1)), .int (iI (a2))]) (Qi E (sz σ) σ Q) 0 0 (Av E) := by
  rw [wX9_same] at h
  refine Met.ofW (cc := cX9_same) (maxL := 5) (ret := (some .int)) (by decide) rfl ?_
  intro p e s m args below meth c s₁ B hml hv
  obtain ⟨rfl, hH, hK, hN⟩ := hv
  have hx := B.exec
  have hb := B.bytes
  have hr := B.returns
  have hts := atoms_spec (ws := wsX9_same) B.pre
  have hown : s.vm.findClass RX9 = some m.cls := findClass_of_methodNamed B.named
  have hlocks := B.notSynchronized
  have hg : GS E σ s s.heap [] := ⟨hH, va_S.rf⟩
  have hm : Mo (sz σ) σ σ := Mo.rf (Nat.le_refl _)
  have hl := ent (vs := [.ref (ea E 21), .int (iI (a1)), .int (iI (a2))]) (n := 5) (cats_x (cats_i (cats_i cats_nil))) (Nat.le_of_ble_eq_true rfl)
  rw [lg_entry_eq]
  generalize (lg_sl ([.ref (ea E 21), .int (iI (a1)), .int (iI (a2))]) ++ List.replicate (5 - (lg_sl ([.ref (ea E 21), .int (iI (a1)), .int (iI (a2))])).length) Slot.unset).toArray = ls at hl ⊢
  have hl : lv_has ls 5 [(0, .ref (ea E 21)), (1, .int (iI (a1))), (2, .int (iI (a2)))] := hl
  have J45 : ∀ (k : Nat), ∀ (v3 : Int) (v4 : Int) (sL : SS) (H : Heap) (locs : List Loc) (ls : Array Slot), GS E sL s H locs → Mo (sz σ) σ sL → lv_has ls 5 [(0, .ref (ea E 21)), (1, .int (iI (a1))), (2, .int (iI (a2))), (3, .int (iI (v3))), (4, .int (iI (v4)))] → wX9_same_L45 a1 a2 Q  k v3 v4 sL → W p l e (headSpec wsX9_same ({ frames := 2, cells := 0, slots := 0, locals := 45 } : Room)).room s m (List.toArray [.ref (ea E 21), .int (iI (a1)), .int (iI (a2))]) below meth c H locs 0 0 (MQ below (Qi E (sz σ) σ Q) (List.toArray [.ref (ea E 21), .int (iI (a1)), .int (iI (a2))]) s 0 0 (Av E)) (F0 m 45 ls []) := by
    intro k
    induction k with
    | zero => intro v3 v4 sL H locs ls hg hm hl h; exact False.elim h
    | succ k ih =>
      intro v3 v4 sL H locs ls hg hm hl h
      rw [wX9_same_L45] at h
      refine lv_iload hx hb dX9_same_45 (lv_at hl 4 rfl) ?_
      refine lv_aload_n hx hb dX9_same_47 rfl (lv_at hl 0 rfl) ?_
      refine q_getx (ci := 9) (C := RX9) (T := TX9) (N := 27) (j := 23) hx hb hts (fun _ h9 => List.mem_cons_of_mem _ (List.mem_append_right _ h9)) hown hK hg 21 (by decide) rfl rfl (by decide) rfl 1 (by decide) (hts (.fieldLink RX9 13 "JoinMapsModel" "sizes" "[I") (List.mem_cons_of_mem _ (List.mem_append_left _ (List.mem_of_getElem? (i := 1) rfl)))) rfl rfl rfl dX9_same_48 ?_
      refine lv_iload_n hx hb dX9_same_51 rfl (lv_at hl 1 rfl) ?_
      obtain ⟨hP22, hP23, h⟩ := h
      refine q_iald (N := 6) hx hb hK hg 23 (by decide) rfl rfl hP22 hP23 (by decide) dX9_same_52 ?_
      have hR24 := GS_R hg 23 (a1 : Int).toNat
      obtain ⟨hR25, h⟩ := h
      refine j_ge (tgt := 101) hx hb dX9_same_53 (by decide) hR25 hR24 (fun c26 => ?_) (fun c26 => ?_)
      · have h := h.1 c26
        refine lv_iload_n hx hb dX9_same_101 rfl (lv_at hl 3 rfl) ?_
        obtain ⟨hR27, h⟩ := h
        refine k_eq (tgt := 109) hx hb dX9_same_102 (by decide) hR27 (fun c28 => ?_) (fun c28 => ?_)
        · have h := h.1 c28
          refine lv_iconst (v := iI 0) hx hb dX9_same_109 (by decide) ?_
          exact ret_i hx hb hr hlocks hg (by decide) hm h dX9_same_110
        · have h := h.2 c28
          refine lv_iconst (v := iI 1) hx hb dX9_same_105 (by decide) ?_
          refine lv_goto (tgt := 110) hx hb dX9_same_106 (by decide) ?_
          exact ret_i hx hb hr hlocks hg (by decide) hm h dX9_same_110
      · have h := h.2 c26
        refine lv_iload_n hx hb dX9_same_56 rfl (lv_at hl 3 rfl) ?_
        obtain ⟨hR29, h⟩ := h
        refine k_eq (tgt := 101) hx hb dX9_same_57 (by decide) hR29 (fun c30 => ?_) (fun c30 => ?_)
        · have h := h.1 c30
          refine lv_iload_n hx hb dX9_same_101 rfl (lv_at hl 3 rfl) ?_
          refine k_eq (tgt := 109) hx hb dX9_same_102 (by decide) hR29 (fun c31 => ?_) (fun c31 => ?_)
          · have h := h.1 c31
            refine lv_iconst (v := iI 0) hx hb dX9_same_109 (by decide) ?_
            exact ret_i hx hb hr hlocks hg (by decide) hm h dX9_same_110
          · have h := h.2 c31
            refine lv_iconst (v := iI 1) hx hb dX9_same_105 (by decide) ?_
            refine lv_goto (tgt := 110) hx hb dX9_same_106 (by decide) ?_
            exact ret_i hx hb hr hlocks hg (by decide) hm h dX9_same_110
        · have h := h.2 c30
          refine lv_aload_n hx hb dX9_same_60 rfl (lv_at hl 0 rfl) ?_
          refine q_getx (ci := 9) (C := RX9) (T := TX9) (N := 27) (j := 22) hx hb hts (fun _ h9 => List.mem_cons_of_mem _ (List.mem_append_right _ h9)) hown hK hg 21 (by decide) rfl rfl (by decide) rfl 0 (by decide) (hts (.fieldLink RX9 7 "JoinMapsModel" "rows" "[I") (List.mem_cons_of_mem _ (List.mem_append_left _ (List.mem_of_getElem? (i := 2) rfl)))) rfl rfl rfl dX9_same_61 ?_
          refine lv_sipush (v := iI 200) hx hb dX9_same_64 (by decide) ?_
          refine lv_iload_n hx hb dX9_same_67 rfl (lv_at hl 1 rfl) ?_
          refine q_imul hx hb dX9_same_68 ?_
          refine lv_iload hx hb dX9_same_69 (lv_at hl 4 rfl) ?_
          refine q_iadd hx hb dX9_same_71 ?_
          obtain ⟨hP32, hP33, h⟩ := h
          refine q_iald (N := 1200) hx hb hK hg 22 (by decide) rfl rfl hP32 hP33 (by decide) dX9_same_72 ?_
          have hR34 := GS_R hg 22 (((200 * a1) + v4) : Int).toNat
          refine lv_aload_n hx hb dX9_same_73 rfl (lv_at hl 0 rfl) ?_
          refine q_getx (ci := 9) (C := RX9) (T := TX9) (N := 27) (j := 22) hx hb hts (fun _ h9 => List.mem_cons_of_mem _ (List.mem_append_right _ h9)) hown hK hg 21 (by decide) rfl rfl (by decide) rfl 0 (by decide) (hts (.fieldLink RX9 7 "JoinMapsModel" "rows" "[I") (List.mem_cons_of_mem _ (List.mem_append_left _ (List.mem_of_getElem? (i := 2) rfl)))) rfl rfl rfl dX9_same_74 ?_
          refine lv_sipush (v := iI 200) hx hb dX9_same_77 (by decide) ?_
          refine lv_iload_n hx hb dX9_same_80 rfl (lv_at hl 2 rfl) ?_
          refine q_imul hx hb dX9_same_81 ?_
          refine lv_iload hx hb dX9_same_82 (lv_at hl 4 rfl) ?_
          refine q_iadd hx hb dX9_same_84 ?_
          obtain ⟨hP35, hP36, h⟩ := h
          refine q_iald (N := 1200) hx hb hK hg 22 (by decide) rfl rfl hP35 hP36 (by decide) dX9_same_85 ?_
          have hR37 := GS_R hg 22 (((200 * a2) + v4) : Int).toNat
          refine j_ne (tgt := 93) hx hb dX9_same_86 (by decide) hR34 hR37 (fun c38 => ?_) (fun c38 => ?_)
          · have h := h.1 c38
            refine lv_iconst (v := iI 0) hx hb dX9_same_93 (by decide) ?_
            refine lv_istore_n (i := 3) (lv' := [(3, .int (iI (0))), (0, .ref (ea E 21)), (1, .int (iI (a1))), (2, .int (iI (a2))), (4, .int (iI (v4)))]) hx hb dX9_same_94 rfl hl (by decide) rfl (fun ls hl => ?_)
            refine lv_iinc (v := iI (v4 + 1)) (lv' := [(4, .int (iI (v4 + 1))), (3, .int (iI (0))), (0, .ref (ea E 21)), (1, .int (iI (a1))), (2, .int (iI (a2)))]) hx hb dX9_same_95 hl (k := 4) rfl (iI_add _ _) (by decide) rfl (fun ls hl => ?_)
            refine lv_goto (tgt := 45) hx hb dX9_same_98 (by decide) ?_
            exact ih (0) (v4 + 1) (sL) _ _ _ hg hm (lv_sub hl [2, 3, 4, 1, 0] rfl) h
          · have h := h.2 c38
            refine lv_iconst (v := iI 1) hx hb dX9_same_89 (by decide) ?_
            refine lv_goto (tgt := 94) hx hb dX9_same_90 (by decide) ?_
            refine lv_istore_n (i := 3) (lv' := [(3, .int (iI (1))), (0, .ref (ea E 21)), (1, .int (iI (a1))), (2, .int (iI (a2))), (4, .int (iI (v4)))]) hx hb dX9_same_94 rfl hl (by decide) rfl (fun ls hl => ?_)
            refine lv_iinc (v := iI (v4 + 1)) (lv' := [(4, .int (iI (v4 + 1))), (3, .int (iI (1))), (0, .ref (ea E 21)), (1, .int (iI (a1))), (2, .int (iI (a2)))]) hx hb dX9_same_95 hl (k := 4) rfl (iI_add _ _) (by decide) rfl (fun ls hl => ?_)
            refine lv_goto (tgt := 45) hx hb dX9_same_98 (by decide) ?_
            exact ih (1) (v4 + 1) (sL) _ _ _ hg hm (lv_sub hl [2, 3, 4, 1, 0] rfl) h
  refine lv_iload_n hx hb dX9_same_0 rfl (lv_at hl 1 rfl) ?_
  refine call_z (run_S (As := [.int (iI (a1))]) (rest := []) ⟨hx, hb, hml, hown, hts⟩ (ctX9_isMap l E a1 σ _ ha1 h) (va_cwS 1 hts gX9_same_X9_isMap rfl rfl rfl hdX9_isMap ⟨Nat.le_of_ble_eq_true rfl, Nat.le_of_ble_eq_true rfl⟩) hK hN hg rfl hl.1 rfl (cat_sum _ (by simp)) dX9_same_1 ⟨Nat.le_refl 0, Nat.le_refl 0⟩) hg (fun r2 s1 H locs hz3 hm2 h hg => ?_)
  have hm := hm.tn hm2
  refine k_eq (tgt := 14) hx hb dX9_same_4 (by decide) (z_R hz3) (fun c4 => ?_) (fun c4 => ?_)
  · have h := h.1 c4
    refine lv_aload_n hx hb dX9_same_14 rfl (lv_at hl 0 rfl) ?_
    refine q_ldc (z := (-2000000002)) hx hb hown (hts (.constant RX9 61 (-2000000002)) (List.mem_cons_of_mem _ (List.mem_append_left _ (List.mem_of_getElem? (i := 0) rfl)))) (by decide) dX9_same_15 ?_
    refine call_i (run_V (a := ea E 21) (As := [.int (iI ((-2000000002)))]) (rest := []) ⟨hx, hb, hml, hown, hts⟩ (ctX9_refuses l E (-2000000002) s1 _ (by decide) h) (cwV 1 hts gX9_same_X9_refuses rfl rfl rfl ⟨rfl, hdX9_refuses⟩ ⟨Nat.le_of_ble_eq_true rfl, Nat.le_of_ble_eq_true rfl⟩) hK hN hg (recv_x (ci := 9) (C := RX9) (T := TX9) (N := 27) hg hK (by decide) rfl (by decide) rfl) rfl hl.1 rfl (cat_sum _ (by simp)) dX9_same_17 ⟨Nat.le_refl 0, Nat.le_refl 0⟩) hg (fun r6 s5 H locs hz7 hm2 h hg => ?_)
    have hm := hm.tn hm2
    exact ret_i hx hb hr hlocks hg hz7 hm h dX9_same_20
  · have h := h.2 c4
    refine lv_iload_n hx hb dX9_same_7 rfl (lv_at hl 2 rfl) ?_
    refine call_z (run_S (As := [.int (iI (a2))]) (rest := []) ⟨hx, hb, hml, hown, hts⟩ (ctX9_isMap l E a2 s1 _ ha2 h) (va_cwS 1 hts gX9_same_X9_isMap rfl rfl rfl hdX9_isMap ⟨Nat.le_of_ble_eq_true rfl, Nat.le_of_ble_eq_true rfl⟩) hK hN hg rfl hl.1 rfl (cat_sum _ (by simp)) dX9_same_8 ⟨Nat.le_refl 0, Nat.le_refl 0⟩) hg (fun r9 s8 H locs hz10 hm2 h hg => ?_)
    have hm := hm.tn hm2
    refine k_ne (tgt := 21) hx hb dX9_same_11 (by decide) (z_R hz10) (fun c11 => ?_) (fun c11 => ?_)
    · have h := h.1 c11
      refine lv_aload_n hx hb dX9_same_21 rfl (lv_at hl 0 rfl) ?_
      refine q_getx (ci := 9) (C := RX9) (T := TX9) (N := 27) (j := 23) hx hb hts (fun _ h9 => List.mem_cons_of_mem _ (List.mem_append_right _ h9)) hown hK hg 21 (by decide) rfl rfl (by decide) rfl 1 (by decide) (hts (.fieldLink RX9 13 "JoinMapsModel" "sizes" "[I") (List.mem_cons_of_mem _ (List.mem_append_left _ (List.mem_of_getElem? (i := 1) rfl)))) rfl rfl rfl dX9_same_22 ?_
      refine lv_iload_n hx hb dX9_same_25 rfl (lv_at hl 1 rfl) ?_
      obtain ⟨hP12, hP13, h⟩ := h
      refine q_iald (N := 6) hx hb hK hg 23 (by decide) rfl rfl hP12 hP13 (by decide) dX9_same_26 ?_
      have hR14 := GS_R hg 23 (a1 : Int).toNat
      refine lv_aload_n hx hb dX9_same_27 rfl (lv_at hl 0 rfl) ?_
      refine q_getx (ci := 9) (C := RX9) (T := TX9) (N := 27) (j := 23) hx hb hts (fun _ h9 => List.mem_cons_of_mem _ (List.mem_append_right _ h9)) hown hK hg 21 (by decide) rfl rfl (by decide) rfl 1 (by decide) (hts (.fieldLink RX9 13 "JoinMapsModel" "sizes" "[I") (List.mem_cons_of_mem _ (List.mem_append_left _ (List.mem_of_getElem? (i := 1) rfl)))) rfl rfl rfl dX9_same_28 ?_
      refine lv_iload_n hx hb dX9_same_31 rfl (lv_at hl 2 rfl) ?_
      obtain ⟨hP15, hP16, h⟩ := h
      refine q_iald (N := 6) hx hb hK hg 23 (by decide) rfl rfl hP15 hP16 (by decide) dX9_same_32 ?_
      have hR17 := GS_R hg 23 (a2 : Int).toNat
      refine j_ne (tgt := 40) hx hb dX9_same_33 (by decide) hR14 hR17 (fun c18 => ?_) (fun c18 => ?_)
      · have h := h.1 c18
        refine lv_iconst (v := iI 0) hx hb dX9_same_40 (by decide) ?_
        refine lv_istore_n (i := 3) (lv' := [(3, .int (iI (0))), (0, .ref (ea E 21)), (1, .int (iI (a1))), (2, .int (iI (a2)))]) hx hb dX9_same_41 rfl hl (by decide) rfl (fun ls hl => ?_)
        refine lv_iconst (v := iI 0) hx hb dX9_same_42 (by decide) ?_
        refine lv_istore (i := 4) (lv' := [(4, .int (iI (0))), (3, .int (iI (0))), (0, .ref (ea E 21)), (1, .int (iI (a1))), (2, .int (iI (a2)))]) hx hb dX9_same_43 hl (by decide) rfl (fun ls hl => ?_)
        obtain ⟨kk, h⟩ := h
        exact J45  kk (0) (0) (s8) _ _ _ hg hm (lv_sub hl [2, 3, 4, 1, 0] rfl) h
      · have h := h.2 c18
        refine lv_iconst (v := iI 1) hx hb dX9_same_36 (by decide) ?_
        refine lv_goto (tgt := 41) hx hb dX9_same_37 (by decide) ?_
        refine lv_istore_n (i := 3) (lv' := [(3, .int (iI (1))), (0, .ref (ea E 21)), (1, .int (iI (a1))), (2, .int (iI (a2)))]) hx hb dX9_same_41 rfl hl (by decide) rfl (fun ls hl => ?_)
        refine lv_iconst (v := iI 0) hx hb dX9_same_42 (by decide) ?_
        refine lv_istore (i := 4) (lv' := [(4, .int (iI (0))), (3, .int (iI (1))), (0, .ref (ea E 21)), (1, .int (iI (a1))), (2, .int (iI (a2)))]) hx hb dX9_same_43 hl (by decide) rfl (fun ls hl => ?_)
        obtain ⟨kk, h⟩ := h
        exact J45  kk (1) (0) (s8) _ _ _ hg hm (lv_sub hl [2, 3, 4, 1, 0] rfl) h
    · have h := h.2 c11
      refine lv_aload_n hx hb dX9_same_14 rfl (lv_at hl 0 rfl) ?_
      refine q_ldc (z := (-2000000002)) hx hb hown (hts (.constant RX9 61 (-2000000002)) (List.mem_cons_of_mem _ (List.mem_append_left _ (List.mem_of_getElem? (i := 0) rfl)))) (by decide) dX9_same_15 ?_
      refine call_i (run_V (a := ea E 21) (As := [.int (iI ((-2000000002)))]) (rest := []) ⟨hx, hb, hml, hown, hts⟩ (ctX9_refuses l E (-2000000002) s8 _ (by decide) h) (cwV 1 hts gX9_same_X9_refuses rfl rfl rfl ⟨rfl, hdX9_refuses⟩ ⟨Nat.le_of_ble_eq_true rfl, Nat.le_of_ble_eq_true rfl⟩) hK hN hg (recv_x (ci := 9) (C := RX9) (T := TX9) (N := 27) hg hK (by decide) rfl (by decide) rfl) rfl hl.1 rfl (cat_sum _ (by simp)) dX9_same_17 ⟨Nat.le_refl 0, Nat.le_refl 0⟩) hg (fun r20 s19 H locs hz21 hm2 h hg => ?_)
      have hm := hm.tn hm2
      exact ret_i hx hb hr hlocks hg hz21 hm h dX9_same_20
theorem hdX9_common : yX9_common.cls ≠ "java/lang/invoke/MethodHandle" ∧ yX9_common.cls ≠ "java/lang/invoke/VarHandle" ∧ (parseMethodDescriptor yX9_common.desc).map (fun d => d.parameters.length) = some 2 := by decide +kernel
set_option maxRecDepth 100000 in
set_option maxHeartbeats 4000000 in
theorem ctX9_common (l : Launch) (E : Ev) (a1 : Int) (a2 : Int) (σ : SS) (Q : Int → SS → Prop) (ha1 : R32 a1) (ha2 : R32 a2) (h : wX9_common a1 a2 σ Q) : Met l yX9_common wsX9_common ({ frames := 3, cells := 0, slots := 0, locals := 65 } : Room) (Pc E σ [.ref (ea E 21), .int (iI (a1)), .int (iI (a2))]) (Qi E (sz σ) σ Q) 0 0 (Av E) := by
  rw [wX9_common] at h
  refine Met.ofW (cc := cX9_common) (maxL := 5) (ret := (some .int)) (by decide) rfl ?_
  intro p e s m args below meth c s₁ B hml hv
  obtain ⟨rfl, hH, hK, hN⟩ := hv
  have hx := B.exec
  have hb := B.bytes
  have hr := B.returns
  have hts := atoms_spec (ws := wsX9_common) B.pre
  have hown : s.vm.findClass RX9 = some m.cls := findClass_of_methodNamed B.named
  have hlocks := B.notSynchronized
  have hg : GS E σ s s.heap [] := ⟨hH, va_S.rf⟩
  have hm : Mo (sz σ) σ σ := Mo.rf (Nat.le_refl _)
  have hl := ent (vs := [.ref (ea E 21), .int (iI (a1)), .int (iI (a2))]) (n := 5) (cats_x (cats_i (cats_i cats_nil))) (Nat.le_of_ble_eq_true rfl)
  rw [lg_entry_eq]
  generalize (lg_sl ([.ref (ea E 21), .int (iI (a1)), .int (iI (a2))]) ++ List.replicate (5 - (lg_sl ([.ref (ea E 21), .int (iI (a1)), .int (iI (a2))])).length) Slot.unset).toArray = ls at hl ⊢
  have hl : lv_has ls 5 [(0, .ref (ea E 21)), (1, .int (iI (a1))), (2, .int (iI (a2)))] := hl
  have J26 : ∀ (k : Nat), ∀ (v3 : Int) (v4 : Int) (sL : SS) (H : Heap) (locs : List Loc) (ls : Array Slot), GS E sL s H locs → Mo (sz σ) σ sL → lv_has ls 5 [(0, .ref (ea E 21)), (1, .int (iI (a1))), (2, .int (iI (a2))), (3, .int (iI (v3))), (4, .int (iI (v4)))] → wX9_common_L26 a1 a2 Q  k v3 v4 sL → W p l e (headSpec wsX9_common ({ frames := 3, cells := 0, slots := 0, locals := 65 } : Room)).room s m (List.toArray [.ref (ea E 21), .int (iI (a1)), .int (iI (a2))]) below meth c H locs 0 0 (MQ below (Qi E (sz σ) σ Q) (List.toArray [.ref (ea E 21), .int (iI (a1)), .int (iI (a2))]) s 0 0 (Av E)) (F0 m 26 ls []) := by
    intro k
    induction k with
    | zero => intro v3 v4 sL H locs ls hg hm hl h; exact False.elim h
    | succ k ih =>
      intro v3 v4 sL H locs ls hg hm hl h
      rw [wX9_common_L26] at h
      refine lv_iload hx hb dX9_common_26 (lv_at hl 4 rfl) ?_
      refine lv_aload_n hx hb dX9_common_28 rfl (lv_at hl 0 rfl) ?_
      refine q_getx (ci := 9) (C := RX9) (T := TX9) (N := 27) (j := 23) hx hb hts (fun _ h9 => List.mem_cons_of_mem _ (List.mem_append_right _ h9)) hown hK hg 21 (by decide) rfl rfl (by decide) rfl 1 (by decide) (hts (.fieldLink RX9 13 "JoinMapsModel" "sizes" "[I") (List.mem_cons_of_mem _ (List.mem_append_left _ (List.mem_append_left _ (List.mem_of_getElem? (i := 1) rfl))))) rfl rfl rfl dX9_common_29 ?_
      refine lv_iload_n hx hb dX9_common_32 rfl (lv_at hl 1 rfl) ?_
      obtain ⟨hP15, hP16, h⟩ := h
      refine q_iald (N := 6) hx hb hK hg 23 (by decide) rfl rfl hP15 hP16 (by decide) dX9_common_33 ?_
      have hR17 := GS_R hg 23 (a1 : Int).toNat
      obtain ⟨hR18, h⟩ := h
      refine j_ge (tgt := 78) hx hb dX9_common_34 (by decide) hR18 hR17 (fun c19 => ?_) (fun c19 => ?_)
      · have h := h.1 c19
        refine lv_iload_n hx hb dX9_common_78 rfl (lv_at hl 3 rfl) ?_
        obtain ⟨hR20, h⟩ := h
        exact ret_i hx hb hr hlocks hg hR20 hm h dX9_common_79
      · have h := h.2 c19
        refine lv_iload_n hx hb dX9_common_37 rfl (lv_at hl 3 rfl) ?_
        refine lv_aload_n hx hb dX9_common_38 rfl (lv_at hl 0 rfl) ?_
        refine lv_iload_n hx hb dX9_common_39 rfl (lv_at hl 2 rfl) ?_
        refine lv_aload_n hx hb dX9_common_40 rfl (lv_at hl 0 rfl) ?_
        refine lv_iload_n hx hb dX9_common_41 rfl (lv_at hl 2 rfl) ?_
        refine lv_aload_n hx hb dX9_common_42 rfl (lv_at hl 0 rfl) ?_
        refine lv_iload_n hx hb dX9_common_43 rfl (lv_at hl 1 rfl) ?_
        refine lv_iload hx hb dX9_common_44 (lv_at hl 4 rfl) ?_
        refine call_i (run_V (a := ea E 21) (As := [.int (iI (a1)), .int (iI (v4))]) (rest := [.int (iI (a2)), .ref (ea E 21), .int (iI (a2)), .ref (ea E 21), .int (iI (v3))]) ⟨hx, hb, hml, hown, hts⟩ (ctX9_keyAt l E a1 v4 sL _ ha1 hR18 h) (cwV 2 hts gX9_common_X9_keyAt rfl rfl rfl ⟨rfl, hdX9_keyAt⟩ ⟨Nat.le_of_ble_eq_true rfl, Nat.le_of_ble_eq_true rfl⟩) hK hN hg (recv_x (ci := 9) (C := RX9) (T := TX9) (N := 27) hg hK (by decide) rfl (by decide) rfl) rfl hl.1 rfl (cat_sum1 _ (cats_i (cats_x (cats_i (cats_x (cats_i cats_nil))))) (by simp)) dX9_common_46 ⟨Nat.le_refl 0, Nat.le_refl 0⟩) hg (fun r22 s21 H locs hz23 hm2 h hg => ?_)
        have hm := hm.tn hm2
        refine call_i (run_V (a := ea E 21) (As := [.int (iI (a2)), .int (iI (r22))]) (rest := [.int (iI (a2)), .ref (ea E 21), .int (iI (v3))]) ⟨hx, hb, hml, hown, hts⟩ (ctX9_below l E a2 r22 s21 _ ha2 hz23 h) (cwV 2 hts gX9_common_X9_below rfl rfl rfl ⟨rfl, hdX9_below⟩ ⟨Nat.le_of_ble_eq_true rfl, Nat.le_of_ble_eq_true rfl⟩) hK hN hg (recv_x (ci := 9) (C := RX9) (T := TX9) (N := 27) hg hK (by decide) rfl (by decide) rfl) rfl hl.1 rfl (cat_sum _ (by simp)) dX9_common_49 ⟨Nat.le_refl 0, Nat.le_refl 0⟩) hg (fun r25 s24 H locs hz26 hm2 h hg => ?_)
        have hm := hm.tn hm2
        refine lv_aload_n hx hb dX9_common_52 rfl (lv_at hl 0 rfl) ?_
        refine lv_iload_n hx hb dX9_common_53 rfl (lv_at hl 1 rfl) ?_
        refine lv_iload hx hb dX9_common_54 (lv_at hl 4 rfl) ?_
        refine call_i (run_V (a := ea E 21) (As := [.int (iI (a1)), .int (iI (v4))]) (rest := [.int (iI (r25)), .int (iI (a2)), .ref (ea E 21), .int (iI (v3))]) ⟨hx, hb, hml, hown, hts⟩ (ctX9_keyAt l E a1 v4 s24 _ ha1 hR18 h) (cwV 2 hts gX9_common_X9_keyAt rfl rfl rfl ⟨rfl, hdX9_keyAt⟩ ⟨Nat.le_of_ble_eq_true rfl, Nat.le_of_ble_eq_true rfl⟩) hK hN hg (recv_x (ci := 9) (C := RX9) (T := TX9) (N := 27) hg hK (by decide) rfl (by decide) rfl) rfl hl.1 rfl (cat_sum _ (by simp)) dX9_common_56 ⟨Nat.le_refl 0, Nat.le_refl 0⟩) hg (fun r28 s27 H locs hz29 hm2 h hg => ?_)
        have hm := hm.tn hm2
        refine call_z (run_V (a := ea E 21) (As := [.int (iI (a2)), .int (iI (r25)), .int (iI (r28))]) (rest := [.int (iI (v3))]) ⟨hx, hb, hml, hown, hts⟩ (ctX9_isThere l E a2 r25 r28 s27 _ ha2 hz26 hz29 h) (cwV 3 hts gX9_common_X9_isThere rfl rfl rfl ⟨rfl, hdX9_isThere⟩ ⟨Nat.le_of_ble_eq_true rfl, Nat.le_of_ble_eq_true rfl⟩) hK hN hg (recv_x (ci := 9) (C := RX9) (T := TX9) (N := 27) hg hK (by decide) rfl (by decide) rfl) rfl hl.1 rfl (cat_sum _ (by simp)) dX9_common_59 ⟨Nat.le_refl 0, Nat.le_refl 0⟩) hg (fun r31 s30 H locs hz32 hm2 h hg => ?_)
        have hm := hm.tn hm2
        refine k_eq (tgt := 69) hx hb dX9_common_62 (by decide) (z_R hz32) (fun c33 => ?_) (fun c33 => ?_)
        · have h := h.1 c33
          refine lv_iconst (v := iI 0) hx hb dX9_common_69 (by decide) ?_
          refine q_iadd hx hb dX9_common_70 ?_
          refine lv_istore_n (i := 3) (lv' := [(3, .int (iI ((v3 + 0)))), (0, .ref (ea E 21)), (1, .int (iI (a1))), (2, .int (iI (a2))), (4, .int (iI (v4)))]) hx hb dX9_common_71 rfl hl (by decide) rfl (fun ls hl => ?_)
          refine lv_iinc (v := iI (v4 + 1)) (lv' := [(4, .int (iI (v4 + 1))), (3, .int (iI ((v3 + 0)))), (0, .ref (ea E 21)), (1, .int (iI (a1))), (2, .int (iI (a2)))]) hx hb dX9_common_72 hl (k := 4) rfl (iI_add _ _) (by decide) rfl (fun ls hl => ?_)
          refine lv_goto (tgt := 26) hx hb dX9_common_75 (by decide) ?_
          exact ih ((v3 + 0)) (v4 + 1) (s30) _ _ _ hg hm (lv_sub hl [2, 3, 4, 1, 0] rfl) h
        · have h := h.2 c33
          refine lv_iconst (v := iI 1) hx hb dX9_common_65 (by decide) ?_
          refine lv_goto (tgt := 70) hx hb dX9_common_66 (by decide) ?_
          refine q_iadd hx hb dX9_common_70 ?_
          refine lv_istore_n (i := 3) (lv' := [(3, .int (iI ((v3 + 1)))), (0, .ref (ea E 21)), (1, .int (iI (a1))), (2, .int (iI (a2))), (4, .int (iI (v4)))]) hx hb dX9_common_71 rfl hl (by decide) rfl (fun ls hl => ?_)
          refine lv_iinc (v := iI (v4 + 1)) (lv' := [(4, .int (iI (v4 + 1))), (3, .int (iI ((v3 + 1)))), (0, .ref (ea E 21)), (1, .int (iI (a1))), (2, .int (iI (a2)))]) hx hb dX9_common_72 hl (k := 4) rfl (iI_add _ _) (by decide) rfl (fun ls hl => ?_)
          refine lv_goto (tgt := 26) hx hb dX9_common_75 (by decide) ?_
          exact ih ((v3 + 1)) (v4 + 1) (s30) _ _ _ hg hm (lv_sub hl [2, 3, 4, 1, 0] rfl) h
  refine lv_iload_n hx hb dX9_common_0 rfl (lv_at hl 1 rfl) ?_
  refine call_z (run_S (As := [.int (iI (a1))]) (rest := []) ⟨hx, hb, hml, hown, hts⟩ (ctX9_isMap l E a1 σ _ ha1 h) (va_cwS 1 hts gX9_common_X9_isMap rfl rfl rfl hdX9_isMap ⟨Nat.le_of_ble_eq_true rfl, Nat.le_of_ble_eq_true rfl⟩) hK hN hg rfl hl.1 rfl (cat_sum _ (by simp)) dX9_common_1 ⟨Nat.le_refl 0, Nat.le_refl 0⟩) hg (fun r2 s1 H locs hz3 hm2 h hg => ?_)
  have hm := hm.tn hm2
  refine k_eq (tgt := 14) hx hb dX9_common_4 (by decide) (z_R hz3) (fun c4 => ?_) (fun c4 => ?_)
  · have h := h.1 c4
    refine lv_aload_n hx hb dX9_common_14 rfl (lv_at hl 0 rfl) ?_
    refine q_ldc (z := (-2000000002)) hx hb hown (hts (.constant RX9 61 (-2000000002)) (List.mem_cons_of_mem _ (List.mem_append_left _ (List.mem_append_left _ (List.mem_of_getElem? (i := 0) rfl))))) (by decide) dX9_common_15 ?_
    refine call_i (run_V (a := ea E 21) (As := [.int (iI ((-2000000002)))]) (rest := []) ⟨hx, hb, hml, hown, hts⟩ (ctX9_refuses l E (-2000000002) s1 _ (by decide) h) (cwV 1 hts gX9_common_X9_refuses rfl rfl rfl ⟨rfl, hdX9_refuses⟩ ⟨Nat.le_of_ble_eq_true rfl, Nat.le_of_ble_eq_true rfl⟩) hK hN hg (recv_x (ci := 9) (C := RX9) (T := TX9) (N := 27) hg hK (by decide) rfl (by decide) rfl) rfl hl.1 rfl (cat_sum _ (by simp)) dX9_common_17 ⟨Nat.le_refl 0, Nat.le_refl 0⟩) hg (fun r6 s5 H locs hz7 hm2 h hg => ?_)
    have hm := hm.tn hm2
    exact ret_i hx hb hr hlocks hg hz7 hm h dX9_common_20
  · have h := h.2 c4
    refine lv_iload_n hx hb dX9_common_7 rfl (lv_at hl 2 rfl) ?_
    refine call_z (run_S (As := [.int (iI (a2))]) (rest := []) ⟨hx, hb, hml, hown, hts⟩ (ctX9_isMap l E a2 s1 _ ha2 h) (va_cwS 1 hts gX9_common_X9_isMap rfl rfl rfl hdX9_isMap ⟨Nat.le_of_ble_eq_true rfl, Nat.le_of_ble_eq_true rfl⟩) hK hN hg rfl hl.1 rfl (cat_sum _ (by simp)) dX9_common_8 ⟨Nat.le_refl 0, Nat.le_refl 0⟩) hg (fun r9 s8 H locs hz10 hm2 h hg => ?_)
    have hm := hm.tn hm2
    refine k_ne (tgt := 21) hx hb dX9_common_11 (by decide) (z_R hz10) (fun c11 => ?_) (fun c11 => ?_)
    · have h := h.1 c11
      refine lv_iconst (v := iI 0) hx hb dX9_common_21 (by decide) ?_
      refine lv_istore_n (i := 3) (lv' := [(3, .int (iI (0))), (0, .ref (ea E 21)), (1, .int (iI (a1))), (2, .int (iI (a2)))]) hx hb dX9_common_22 rfl hl (by decide) rfl (fun ls hl => ?_)
      refine lv_iconst (v := iI 0) hx hb dX9_common_23 (by decide) ?_
      refine lv_istore (i := 4) (lv' := [(4, .int (iI (0))), (3, .int (iI (0))), (0, .ref (ea E 21)), (1, .int (iI (a1))), (2, .int (iI (a2)))]) hx hb dX9_common_24 hl (by decide) rfl (fun ls hl => ?_)
      obtain ⟨kk, h⟩ := h
      exact J26  kk (0) (0) (s8) _ _ _ hg hm (lv_sub hl [2, 3, 4, 1, 0] rfl) h
    · have h := h.2 c11
      refine lv_aload_n hx hb dX9_common_14 rfl (lv_at hl 0 rfl) ?_
      refine q_ldc (z := (-2000000002)) hx hb hown (hts (.constant RX9 61 (-2000000002)) (List.mem_cons_of_mem _ (List.mem_append_left _ (List.mem_append_left _ (List.mem_of_getElem? (i := 0) rfl))))) (by decide) dX9_common_15 ?_
      refine call_i (run_V (a := ea E 21) (As := [.int (iI ((-2000000002)))]) (rest := []) ⟨hx, hb, hml, hown, hts⟩ (ctX9_refuses l E (-2000000002) s8 _ (by decide) h) (cwV 1 hts gX9_common_X9_refuses rfl rfl rfl ⟨rfl, hdX9_refuses⟩ ⟨Nat.le_of_ble_eq_true rfl, Nat.le_of_ble_eq_true rfl⟩) hK hN hg (recv_x (ci := 9) (C := RX9) (T := TX9) (N := 27) hg hK (by decide) rfl (by decide) rfl) rfl hl.1 rfl (cat_sum _ (by simp)) dX9_common_17 ⟨Nat.le_refl 0, Nat.le_refl 0⟩) hg (fun r13 s12 H locs hz14 hm2 h hg => ?_)
      have hm := hm.tn hm2
      exact ret_i hx hb hr hlocks hg hz14 hm h dX9_common_20
theorem hdX9_apart : yX9_apart.cls ≠ "java/lang/invoke/MethodHandle" ∧ yX9_apart.cls ≠ "java/lang/invoke/VarHandle" ∧ (parseMethodDescriptor yX9_apart.desc).map (fun d => d.parameters.length) = some 2 := by decide +kernel
set_option maxRecDepth 100000 in
set_option maxHeartbeats 4000000 in
theorem ctX9_apart (l : Launch) (E : Ev) (a1 : Int) (a2 : Int) (σ : SS) (Q : Int → SS → Prop) (ha1 : R32 a1) (ha2 : R32 a2) (h : wX9_apart a1 a2 σ Q) : Met l yX9_apart wsX9_apart ({ frames := 2, cells := 0, slots := 0, locals := 45 } : Room) (Pc E σ [.ref (ea E 21), .int (iI (a1)), .int (iI (a2))]) (Qi E (sz σ) σ Q) 0 0 (Av E) := by
  rw [wX9_apart] at h
  refine Met.ofW (cc := cX9_apart) (maxL := 7) (ret := (some .int)) (by decide) rfl ?_
  intro p e s m args below meth c s₁ B hml hv
  obtain ⟨rfl, hH, hK, hN⟩ := hv
  have hx := B.exec
  have hb := B.bytes
  have hr := B.returns
  have hts := atoms_spec (ws := wsX9_apart) B.pre
  have hown : s.vm.findClass RX9 = some m.cls := findClass_of_methodNamed B.named
  have hlocks := B.notSynchronized
  have hg : GS E σ s s.heap [] := ⟨hH, va_S.rf⟩
  have hm : Mo (sz σ) σ σ := Mo.rf (Nat.le_refl _)
  have hl := ent (vs := [.ref (ea E 21), .int (iI (a1)), .int (iI (a2))]) (n := 7) (cats_x (cats_i (cats_i cats_nil))) (Nat.le_of_ble_eq_true rfl)
  rw [lg_entry_eq]
  generalize (lg_sl ([.ref (ea E 21), .int (iI (a1)), .int (iI (a2))]) ++ List.replicate (7 - (lg_sl ([.ref (ea E 21), .int (iI (a1)), .int (iI (a2))])).length) Slot.unset).toArray = ls at hl ⊢
  have hl : lv_has ls 7 [(0, .ref (ea E 21)), (1, .int (iI (a1))), (2, .int (iI (a2)))] := hl
  have J122 : ∀ (v4 : Int) (u0 : Int) (sL : SS) (H : Heap) (locs : List Loc) (ls : Array Slot), GS E sL s H locs → Mo (sz σ) σ sL → lv_has ls 7 [(4, .int (iI (v4)))] → wX9_apart_L122 a1 a2 Q  v4 u0 sL → W p l e (headSpec wsX9_apart ({ frames := 2, cells := 0, slots := 0, locals := 45 } : Room)).room s m (List.toArray [.ref (ea E 21), .int (iI (a1)), .int (iI (a2))]) below meth c H locs 0 0 (MQ below (Qi E (sz σ) σ Q) (List.toArray [.ref (ea E 21), .int (iI (a1)), .int (iI (a2))]) s 0 0 (Av E)) (F0 m 122 ls [.int (iI (u0))]) := by
    intro v4 u0 sL H locs ls hg hm hl h
    rw [wX9_apart_L122] at h
    refine lv_istore (i := 5) (lv' := [(5, .int (iI (u0))), (4, .int (iI (v4)))]) hx hb dX9_apart_122 hl (by decide) rfl (fun ls hl => ?_)
    refine lv_iload hx hb dX9_apart_124 (lv_at hl 1 rfl) ?_
    refine lv_iload hx hb dX9_apart_126 (lv_at hl 0 rfl) ?_
    obtain ⟨hR47, hR48, h⟩ := h
    refine j_ge (tgt := 136) hx hb dX9_apart_128 (by decide) hR47 hR48 (fun c49 => ?_) (fun c49 => ?_)
    · have h := h.1 c49
      refine lv_iload hx hb dX9_apart_136 (lv_at hl 0 rfl) ?_
      refine lv_istore (i := 6) (lv' := [(6, .int (iI (u0))), (5, .int (iI (u0))), (4, .int (iI (v4)))]) hx hb dX9_apart_138 hl (by decide) rfl (fun ls hl => ?_)
      refine lv_iload hx hb dX9_apart_140 (lv_at hl 0 rfl) ?_
      refine lv_sipush (v := iI 9999) hx hb dX9_apart_142 (by decide) ?_
      refine j_ne (tgt := 153) hx hb dX9_apart_145 (by decide) hR48 (by decide) (fun c50 => ?_) (fun c50 => ?_)
      · have h := h.1 c50
        refine lv_iload hx hb dX9_apart_153 (lv_at hl 0 rfl) ?_
        exact ret_i hx hb hr hlocks hg hR48 hm h dX9_apart_155
      · have h := h.2 c50
        refine q_ldc (z := (-2000000001)) hx hb hown (hts (.constant RX9 120 (-2000000001)) (List.mem_cons_of_mem _ (List.mem_append_left _ (List.mem_of_getElem? (i := 3) rfl)))) (by decide) dX9_apart_148 ?_
        refine lv_goto (tgt := 155) hx hb dX9_apart_150 (by decide) ?_
        exact ret_i hx hb hr hlocks hg (by decide) hm h dX9_apart_155
    · have h := h.2 c49
      refine lv_iload hx hb dX9_apart_131 (lv_at hl 1 rfl) ?_
      refine lv_goto (tgt := 138) hx hb dX9_apart_133 (by decide) ?_
      refine lv_istore (i := 6) (lv' := [(6, .int (iI (v4))), (5, .int (iI (u0))), (4, .int (iI (v4)))]) hx hb dX9_apart_138 hl (by decide) rfl (fun ls hl => ?_)
      refine lv_iload hx hb dX9_apart_140 (lv_at hl 0 rfl) ?_
      refine lv_sipush (v := iI 9999) hx hb dX9_apart_142 (by decide) ?_
      refine j_ne (tgt := 153) hx hb dX9_apart_145 (by decide) hR47 (by decide) (fun c51 => ?_) (fun c51 => ?_)
      · have h := h.1 c51
        refine lv_iload hx hb dX9_apart_153 (lv_at hl 0 rfl) ?_
        exact ret_i hx hb hr hlocks hg hR47 hm h dX9_apart_155
      · have h := h.2 c51
        refine q_ldc (z := (-2000000001)) hx hb hown (hts (.constant RX9 120 (-2000000001)) (List.mem_cons_of_mem _ (List.mem_append_left _ (List.mem_of_getElem? (i := 3) rfl)))) (by decide) dX9_apart_148 ?_
        refine lv_goto (tgt := 155) hx hb dX9_apart_150 (by decide) ?_
        exact ret_i hx hb hr hlocks hg (by decide) hm h dX9_apart_155
  have J98 : ∀ (v3 : Int) (u0 : Int) (sL : SS) (H : Heap) (locs : List Loc) (ls : Array Slot), GS E sL s H locs → Mo (sz σ) σ sL → lv_has ls 7 [(0, .ref (ea E 21)), (2, .int (iI (a2))), (3, .int (iI (v3)))] → wX9_apart_L98 a1 a2 Q  v3 u0 sL → W p l e (headSpec wsX9_apart ({ frames := 2, cells := 0, slots := 0, locals := 45 } : Room)).room s m (List.toArray [.ref (ea E 21), .int (iI (a1)), .int (iI (a2))]) below meth c H locs 0 0 (MQ below (Qi E (sz σ) σ Q) (List.toArray [.ref (ea E 21), .int (iI (a1)), .int (iI (a2))]) s 0 0 (Av E)) (F0 m 98 ls [.int (iI (u0))]) := by
    intro v3 u0 sL H locs ls hg hm hl h
    rw [wX9_apart_L98] at h
    refine lv_istore (i := 4) (lv' := [(4, .int (iI (u0))), (0, .ref (ea E 21)), (2, .int (iI (a2))), (3, .int (iI (v3)))]) hx hb dX9_apart_98 hl (by decide) rfl (fun ls hl => ?_)
    refine lv_iload_n hx hb dX9_apart_100 rfl (lv_at hl 3 rfl) ?_
    refine lv_aload_n hx hb dX9_apart_101 rfl (lv_at hl 1 rfl) ?_
    refine q_getx (ci := 9) (C := RX9) (T := TX9) (N := 27) (j := 23) hx hb hts (fun _ h9 => List.mem_cons_of_mem _ (List.mem_append_right _ h9)) hown hK hg 21 (by decide) rfl rfl (by decide) rfl 1 (by decide) (hts (.fieldLink RX9 13 "JoinMapsModel" "sizes" "[I") (List.mem_cons_of_mem _ (List.mem_append_left _ (List.mem_of_getElem? (i := 1) rfl)))) rfl rfl rfl dX9_apart_102 ?_
    refine lv_iload_n hx hb dX9_apart_105 rfl (lv_at hl 2 rfl) ?_
    obtain ⟨hP39, hP40, h⟩ := h
    refine q_iald (N := 6) hx hb hK hg 23 (by decide) rfl rfl hP39 hP40 (by decide) dX9_apart_106 ?_
    have hR41 := GS_R hg 23 (a2 : Int).toNat
    obtain ⟨hR42, h⟩ := h
    refine j_ge (tgt := 119) hx hb dX9_apart_107 (by decide) hR42 hR41 (fun c43 => ?_) (fun c43 => ?_)
    · have h := h.1 c43
      refine lv_sipush (v := iI 9999) hx hb dX9_apart_119 (by decide) ?_
      exact J122  (u0) (9999) (sL) _ _ _ hg hm (lv_sub hl [0] rfl) h
    · have h := h.2 c43
      refine lv_aload_n hx hb dX9_apart_110 rfl (lv_at hl 1 rfl) ?_
      refine lv_iload_n hx hb dX9_apart_111 rfl (lv_at hl 2 rfl) ?_
      refine lv_iload_n hx hb dX9_apart_112 rfl (lv_at hl 3 rfl) ?_
      refine call_i (run_V (a := ea E 21) (As := [.int (iI (a2)), .int (iI (v3))]) (rest := []) ⟨hx, hb, hml, hown, hts⟩ (ctX9_keyAt l E a2 v3 sL _ ha2 hR42 h) (cwV 2 hts gX9_apart_X9_keyAt rfl rfl rfl ⟨rfl, hdX9_keyAt⟩ ⟨Nat.le_of_ble_eq_true rfl, Nat.le_of_ble_eq_true rfl⟩) hK hN hg (recv_x (ci := 9) (C := RX9) (T := TX9) (N := 27) hg hK (by decide) rfl (by decide) rfl) rfl hl.1 rfl (cat_sum _ (by simp)) dX9_apart_113 ⟨Nat.le_refl 0, Nat.le_refl 0⟩) hg (fun r45 s44 H locs hz46 hm2 h hg => ?_)
      have hm := hm.tn hm2
      refine lv_goto (tgt := 122) hx hb dX9_apart_116 (by decide) ?_
      exact J122  (u0) (r45) (s44) _ _ _ hg hm (lv_sub hl [0] rfl) h
  have J76 : ∀ (v3 : Int) (sL : SS) (H : Heap) (locs : List Loc) (ls : Array Slot), GS E sL s H locs → Mo (sz σ) σ sL → lv_has ls 7 [(0, .ref (ea E 21)), (1, .int (iI (a1))), (2, .int (iI (a2))), (3, .int (iI (v3)))] → wX9_apart_L76 a1 a2 Q  v3 sL → W p l e (headSpec wsX9_apart ({ frames := 2, cells := 0, slots := 0, locals := 45 } : Room)).room s m (List.toArray [.ref (ea E 21), .int (iI (a1)), .int (iI (a2))]) below meth c H locs 0 0 (MQ below (Qi E (sz σ) σ Q) (List.toArray [.ref (ea E 21), .int (iI (a1)), .int (iI (a2))]) s 0 0 (Av E)) (F0 m 76 ls []) := by
    intro v3 sL H locs ls hg hm hl h
    rw [wX9_apart_L76] at h
    refine lv_iload_n hx hb dX9_apart_76 rfl (lv_at hl 3 rfl) ?_
    refine lv_aload_n hx hb dX9_apart_77 rfl (lv_at hl 0 rfl) ?_
    refine q_getx (ci := 9) (C := RX9) (T := TX9) (N := 27) (j := 23) hx hb hts (fun _ h9 => List.mem_cons_of_mem _ (List.mem_append_right _ h9)) hown hK hg 21 (by decide) rfl rfl (by decide) rfl 1 (by decide) (hts (.fieldLink RX9 13 "JoinMapsModel" "sizes" "[I") (List.mem_cons_of_mem _ (List.mem_append_left _ (List.mem_of_getElem? (i := 1) rfl)))) rfl rfl rfl dX9_apart_78 ?_
    refine lv_iload_n hx hb dX9_apart_81 rfl (lv_at hl 1 rfl) ?_
    obtain ⟨hP31, hP32, h⟩ := h
    refine q_iald (N := 6) hx hb hK hg 23 (by decide) rfl rfl hP31 hP32 (by decide) dX9_apart_82 ?_
    have hR33 := GS_R hg 23 (a1 : Int).toNat
    obtain ⟨hR34, h⟩ := h
    refine j_ge (tgt := 95) hx hb dX9_apart_83 (by decide) hR34 hR33 (fun c35 => ?_) (fun c35 => ?_)
    · have h := h.1 c35
      refine lv_sipush (v := iI 9999) hx hb dX9_apart_95 (by decide) ?_
      exact J98  (v3) (9999) (sL) _ _ _ hg hm (lv_sub hl [0, 2, 3] rfl) h
    · have h := h.2 c35
      refine lv_aload_n hx hb dX9_apart_86 rfl (lv_at hl 0 rfl) ?_
      refine lv_iload_n hx hb dX9_apart_87 rfl (lv_at hl 1 rfl) ?_
      refine lv_iload_n hx hb dX9_apart_88 rfl (lv_at hl 3 rfl) ?_
      refine call_i (run_V (a := ea E 21) (As := [.int (iI (a1)), .int (iI (v3))]) (rest := []) ⟨hx, hb, hml, hown, hts⟩ (ctX9_keyAt l E a1 v3 sL _ ha1 hR34 h) (cwV 2 hts gX9_apart_X9_keyAt rfl rfl rfl ⟨rfl, hdX9_keyAt⟩ ⟨Nat.le_of_ble_eq_true rfl, Nat.le_of_ble_eq_true rfl⟩) hK hN hg (recv_x (ci := 9) (C := RX9) (T := TX9) (N := 27) hg hK (by decide) rfl (by decide) rfl) rfl hl.1 rfl (cat_sum _ (by simp)) dX9_apart_89 ⟨Nat.le_refl 0, Nat.le_refl 0⟩) hg (fun r37 s36 H locs hz38 hm2 h hg => ?_)
      have hm := hm.tn hm2
      refine lv_goto (tgt := 98) hx hb dX9_apart_92 (by decide) ?_
      exact J98  (v3) (r37) (s36) _ _ _ hg hm (lv_sub hl [0, 2, 3] rfl) h
  have J23 : ∀ (k : Nat), ∀ (v3 : Int) (sL : SS) (H : Heap) (locs : List Loc) (ls : Array Slot), GS E sL s H locs → Mo (sz σ) σ sL → lv_has ls 7 [(0, .ref (ea E 21)), (1, .int (iI (a1))), (2, .int (iI (a2))), (3, .int (iI (v3)))] → wX9_apart_L23 a1 a2 Q  k v3 sL → W p l e (headSpec wsX9_apart ({ frames := 2, cells := 0, slots := 0, locals := 45 } : Room)).room s m (List.toArray [.ref (ea E 21), .int (iI (a1)), .int (iI (a2))]) below meth c H locs 0 0 (MQ below (Qi E (sz σ) σ Q) (List.toArray [.ref (ea E 21), .int (iI (a1)), .int (iI (a2))]) s 0 0 (Av E)) (F0 m 23 ls []) := by
    intro k
    induction k with
    | zero => intro v3 sL H locs ls hg hm hl h; exact False.elim h
    | succ k ih =>
      intro v3 sL H locs ls hg hm hl h
      rw [wX9_apart_L23] at h
      refine lv_iload_n hx hb dX9_apart_23 rfl (lv_at hl 3 rfl) ?_
      refine lv_aload_n hx hb dX9_apart_24 rfl (lv_at hl 0 rfl) ?_
      refine q_getx (ci := 9) (C := RX9) (T := TX9) (N := 27) (j := 23) hx hb hts (fun _ h9 => List.mem_cons_of_mem _ (List.mem_append_right _ h9)) hown hK hg 21 (by decide) rfl rfl (by decide) rfl 1 (by decide) (hts (.fieldLink RX9 13 "JoinMapsModel" "sizes" "[I") (List.mem_cons_of_mem _ (List.mem_append_left _ (List.mem_of_getElem? (i := 1) rfl)))) rfl rfl rfl dX9_apart_25 ?_
      refine lv_iload_n hx hb dX9_apart_28 rfl (lv_at hl 1 rfl) ?_
      obtain ⟨hP15, hP16, h⟩ := h
      refine q_iald (N := 6) hx hb hK hg 23 (by decide) rfl rfl hP15 hP16 (by decide) dX9_apart_29 ?_
      have hR17 := GS_R hg 23 (a1 : Int).toNat
      obtain ⟨hR18, h⟩ := h
      refine j_ge (tgt := 76) hx hb dX9_apart_30 (by decide) hR18 hR17 (fun c19 => ?_) (fun c19 => ?_)
      · have h := h.1 c19
        exact J76  (v3) (sL) _ _ _ hg hm (lv_sub hl [0, 1, 2, 3] rfl) h
      · have h := h.2 c19
        refine lv_iload_n hx hb dX9_apart_33 rfl (lv_at hl 3 rfl) ?_
        refine lv_aload_n hx hb dX9_apart_34 rfl (lv_at hl 0 rfl) ?_
        refine q_getx (ci := 9) (C := RX9) (T := TX9) (N := 27) (j := 23) hx hb hts (fun _ h9 => List.mem_cons_of_mem _ (List.mem_append_right _ h9)) hown hK hg 21 (by decide) rfl rfl (by decide) rfl 1 (by decide) (hts (.fieldLink RX9 13 "JoinMapsModel" "sizes" "[I") (List.mem_cons_of_mem _ (List.mem_append_left _ (List.mem_of_getElem? (i := 1) rfl)))) rfl rfl rfl dX9_apart_35 ?_
        refine lv_iload_n hx hb dX9_apart_38 rfl (lv_at hl 2 rfl) ?_
        obtain ⟨hP20, hP21, h⟩ := h
        refine q_iald (N := 6) hx hb hK hg 23 (by decide) rfl rfl hP20 hP21 (by decide) dX9_apart_39 ?_
        have hR22 := GS_R hg 23 (a2 : Int).toNat
        refine j_ge (tgt := 76) hx hb dX9_apart_40 (by decide) hR18 hR22 (fun c23 => ?_) (fun c23 => ?_)
        · have h := h.1 c23
          exact J76  (v3) (sL) _ _ _ hg hm (lv_sub hl [0, 1, 2, 3] rfl) h
        · have h := h.2 c23
          refine lv_aload_n hx hb dX9_apart_43 rfl (lv_at hl 0 rfl) ?_
          refine q_getx (ci := 9) (C := RX9) (T := TX9) (N := 27) (j := 22) hx hb hts (fun _ h9 => List.mem_cons_of_mem _ (List.mem_append_right _ h9)) hown hK hg 21 (by decide) rfl rfl (by decide) rfl 0 (by decide) (hts (.fieldLink RX9 7 "JoinMapsModel" "rows" "[I") (List.mem_cons_of_mem _ (List.mem_append_left _ (List.mem_of_getElem? (i := 2) rfl)))) rfl rfl rfl dX9_apart_44 ?_
          refine lv_sipush (v := iI 200) hx hb dX9_apart_47 (by decide) ?_
          refine lv_iload_n hx hb dX9_apart_50 rfl (lv_at hl 1 rfl) ?_
          refine q_imul hx hb dX9_apart_51 ?_
          refine lv_iload_n hx hb dX9_apart_52 rfl (lv_at hl 3 rfl) ?_
          refine q_iadd hx hb dX9_apart_53 ?_
          obtain ⟨hP24, hP25, h⟩ := h
          refine q_iald (N := 1200) hx hb hK hg 22 (by decide) rfl rfl hP24 hP25 (by decide) dX9_apart_54 ?_
          have hR26 := GS_R hg 22 (((200 * a1) + v3) : Int).toNat
          refine lv_aload_n hx hb dX9_apart_55 rfl (lv_at hl 0 rfl) ?_
          refine q_getx (ci := 9) (C := RX9) (T := TX9) (N := 27) (j := 22) hx hb hts (fun _ h9 => List.mem_cons_of_mem _ (List.mem_append_right _ h9)) hown hK hg 21 (by decide) rfl rfl (by decide) rfl 0 (by decide) (hts (.fieldLink RX9 7 "JoinMapsModel" "rows" "[I") (List.mem_cons_of_mem _ (List.mem_append_left _ (List.mem_of_getElem? (i := 2) rfl)))) rfl rfl rfl dX9_apart_56 ?_
          refine lv_sipush (v := iI 200) hx hb dX9_apart_59 (by decide) ?_
          refine lv_iload_n hx hb dX9_apart_62 rfl (lv_at hl 2 rfl) ?_
          refine q_imul hx hb dX9_apart_63 ?_
          refine lv_iload_n hx hb dX9_apart_64 rfl (lv_at hl 3 rfl) ?_
          refine q_iadd hx hb dX9_apart_65 ?_
          obtain ⟨hP27, hP28, h⟩ := h
          refine q_iald (N := 1200) hx hb hK hg 22 (by decide) rfl rfl hP27 hP28 (by decide) dX9_apart_66 ?_
          have hR29 := GS_R hg 22 (((200 * a2) + v3) : Int).toNat
          refine j_ne (tgt := 76) hx hb dX9_apart_67 (by decide) hR26 hR29 (fun c30 => ?_) (fun c30 => ?_)
          · have h := h.1 c30
            exact J76  (v3) (sL) _ _ _ hg hm (lv_sub hl [0, 1, 2, 3] rfl) h
          · have h := h.2 c30
            refine lv_iinc (v := iI (v3 + 1)) (lv' := [(3, .int (iI (v3 + 1))), (0, .ref (ea E 21)), (1, .int (iI (a1))), (2, .int (iI (a2)))]) hx hb dX9_apart_70 hl (k := 3) rfl (iI_add _ _) (by decide) rfl (fun ls hl => ?_)
            refine lv_goto (tgt := 23) hx hb dX9_apart_73 (by decide) ?_
            exact ih (v3 + 1) (sL) _ _ _ hg hm (lv_sub hl [1, 2, 3, 0] rfl) h
  refine lv_iload_n hx hb dX9_apart_0 rfl (lv_at hl 1 rfl) ?_
  refine call_z (run_S (As := [.int (iI (a1))]) (rest := []) ⟨hx, hb, hml, hown, hts⟩ (ctX9_isMap l E a1 σ _ ha1 h) (va_cwS 1 hts gX9_apart_X9_isMap rfl rfl rfl hdX9_isMap ⟨Nat.le_of_ble_eq_true rfl, Nat.le_of_ble_eq_true rfl⟩) hK hN hg rfl hl.1 rfl (cat_sum _ (by simp)) dX9_apart_1 ⟨Nat.le_refl 0, Nat.le_refl 0⟩) hg (fun r2 s1 H locs hz3 hm2 h hg => ?_)
  have hm := hm.tn hm2
  refine k_eq (tgt := 14) hx hb dX9_apart_4 (by decide) (z_R hz3) (fun c4 => ?_) (fun c4 => ?_)
  · have h := h.1 c4
    refine lv_aload_n hx hb dX9_apart_14 rfl (lv_at hl 0 rfl) ?_
    refine q_ldc (z := (-2000000002)) hx hb hown (hts (.constant RX9 61 (-2000000002)) (List.mem_cons_of_mem _ (List.mem_append_left _ (List.mem_of_getElem? (i := 0) rfl)))) (by decide) dX9_apart_15 ?_
    refine call_i (run_V (a := ea E 21) (As := [.int (iI ((-2000000002)))]) (rest := []) ⟨hx, hb, hml, hown, hts⟩ (ctX9_refuses l E (-2000000002) s1 _ (by decide) h) (cwV 1 hts gX9_apart_X9_refuses rfl rfl rfl ⟨rfl, hdX9_refuses⟩ ⟨Nat.le_of_ble_eq_true rfl, Nat.le_of_ble_eq_true rfl⟩) hK hN hg (recv_x (ci := 9) (C := RX9) (T := TX9) (N := 27) hg hK (by decide) rfl (by decide) rfl) rfl hl.1 rfl (cat_sum _ (by simp)) dX9_apart_17 ⟨Nat.le_refl 0, Nat.le_refl 0⟩) hg (fun r6 s5 H locs hz7 hm2 h hg => ?_)
    have hm := hm.tn hm2
    exact ret_i hx hb hr hlocks hg hz7 hm h dX9_apart_20
  · have h := h.2 c4
    refine lv_iload_n hx hb dX9_apart_7 rfl (lv_at hl 2 rfl) ?_
    refine call_z (run_S (As := [.int (iI (a2))]) (rest := []) ⟨hx, hb, hml, hown, hts⟩ (ctX9_isMap l E a2 s1 _ ha2 h) (va_cwS 1 hts gX9_apart_X9_isMap rfl rfl rfl hdX9_isMap ⟨Nat.le_of_ble_eq_true rfl, Nat.le_of_ble_eq_true rfl⟩) hK hN hg rfl hl.1 rfl (cat_sum _ (by simp)) dX9_apart_8 ⟨Nat.le_refl 0, Nat.le_refl 0⟩) hg (fun r9 s8 H locs hz10 hm2 h hg => ?_)
    have hm := hm.tn hm2
    refine k_ne (tgt := 21) hx hb dX9_apart_11 (by decide) (z_R hz10) (fun c11 => ?_) (fun c11 => ?_)
    · have h := h.1 c11
      refine lv_iconst (v := iI 0) hx hb dX9_apart_21 (by decide) ?_
      refine lv_istore_n (i := 3) (lv' := [(3, .int (iI (0))), (0, .ref (ea E 21)), (1, .int (iI (a1))), (2, .int (iI (a2)))]) hx hb dX9_apart_22 rfl hl (by decide) rfl (fun ls hl => ?_)
      obtain ⟨kk, h⟩ := h
      exact J23  kk (0) (s8) _ _ _ hg hm (lv_sub hl [1, 2, 3, 0] rfl) h
    · have h := h.2 c11
      refine lv_aload_n hx hb dX9_apart_14 rfl (lv_at hl 0 rfl) ?_
      refine q_ldc (z := (-2000000002)) hx hb hown (hts (.constant RX9 61 (-2000000002)) (List.mem_cons_of_mem _ (List.mem_append_left _ (List.mem_of_getElem? (i := 0) rfl)))) (by decide) dX9_apart_15 ?_
      refine call_i (run_V (a := ea E 21) (As := [.int (iI ((-2000000002)))]) (rest := []) ⟨hx, hb, hml, hown, hts⟩ (ctX9_refuses l E (-2000000002) s8 _ (by decide) h) (cwV 1 hts gX9_apart_X9_refuses rfl rfl rfl ⟨rfl, hdX9_refuses⟩ ⟨Nat.le_of_ble_eq_true rfl, Nat.le_of_ble_eq_true rfl⟩) hK hN hg (recv_x (ci := 9) (C := RX9) (T := TX9) (N := 27) hg hK (by decide) rfl (by decide) rfl) rfl hl.1 rfl (cat_sum _ (by simp)) dX9_apart_17 ⟨Nat.le_refl 0, Nat.le_refl 0⟩) hg (fun r13 s12 H locs hz14 hm2 h hg => ?_)
      have hm := hm.tn hm2
      exact ret_i hx hb hr hlocks hg hz14 hm h dX9_apart_20
theorem hdX9_copies : yX9_copies.cls ≠ "java/lang/invoke/MethodHandle" ∧ yX9_copies.cls ≠ "java/lang/invoke/VarHandle" ∧ (parseMethodDescriptor yX9_copies.desc).map (fun d => d.parameters.length) = some 4 := by decide +kernel
set_option maxRecDepth 100000 in
set_option maxHeartbeats 4000000 in
theorem ctX9_copies (l : Launch) (E : Ev) (a1 : Int) (a2 : Int) (a3 : Int) (a4 : Int) (σ : SS) (Q : SS → Prop) (ha1 : R32 a1) (ha2 : R32 a2) (ha3 : R32 a3) (ha4 : R32 a4) (h : wX9_copies a1 a2 a3 a4 σ Q) : Met l yX9_copies wsX9_copies ({ frames := 0, cells := 0, slots := 0, locals := 0 } : Room) (Pc E σ [.ref (ea E 21), .int (iI (a1)), .int (iI (a2)), .int (iI (a3)), .int (iI (a4))]) (Qv E (sz σ) σ Q) 0 0 (Av E) := by
  rw [wX9_copies] at h
  refine Met.ofW (cc := cX9_copies) (maxL := 6) (ret := none) (by decide) rfl ?_
  intro p e s m args below meth c s₁ B hml hv
  obtain ⟨rfl, hH, hK, hN⟩ := hv
  have hx := B.exec
  have hb := B.bytes
  have hr := B.returns
  have hts := atoms_spec (ws := wsX9_copies) B.pre
  have hown : s.vm.findClass RX9 = some m.cls := findClass_of_methodNamed B.named
  have hlocks := B.notSynchronized
  have hg : GS E σ s s.heap [] := ⟨hH, va_S.rf⟩
  have hm : Mo (sz σ) σ σ := Mo.rf (Nat.le_refl _)
  have hl := ent (vs := [.ref (ea E 21), .int (iI (a1)), .int (iI (a2)), .int (iI (a3)), .int (iI (a4))]) (n := 6) (cats_x (cats_i (cats_i (cats_i (cats_i cats_nil))))) (Nat.le_of_ble_eq_true rfl)
  rw [lg_entry_eq]
  generalize (lg_sl ([.ref (ea E 21), .int (iI (a1)), .int (iI (a2)), .int (iI (a3)), .int (iI (a4))]) ++ List.replicate (6 - (lg_sl ([.ref (ea E 21), .int (iI (a1)), .int (iI (a2)), .int (iI (a3)), .int (iI (a4))])).length) Slot.unset).toArray = ls at hl ⊢
  have hl : lv_has ls 6 [(0, .ref (ea E 21)), (1, .int (iI (a1))), (2, .int (iI (a2))), (3, .int (iI (a3))), (4, .int (iI (a4)))] := hl
  have J3 : ∀ (k : Nat), ∀ (v5 : Int) (sL : SS) (H : Heap) (locs : List Loc) (ls : Array Slot), GS E sL s H locs → Mo (sz σ) σ sL → lv_has ls 6 [(0, .ref (ea E 21)), (1, .int (iI (a1))), (2, .int (iI (a2))), (3, .int (iI (a3))), (4, .int (iI (a4))), (5, .int (iI (v5)))] → wX9_copies_L3 a1 a2 a3 a4 Q  k v5 sL → W p l e (headSpec wsX9_copies ({ frames := 0, cells := 0, slots := 0, locals := 0 } : Room)).room s m (List.toArray [.ref (ea E 21), .int (iI (a1)), .int (iI (a2)), .int (iI (a3)), .int (iI (a4))]) below meth c H locs 0 0 (MQ below (Qv E (sz σ) σ Q) (List.toArray [.ref (ea E 21), .int (iI (a1)), .int (iI (a2)), .int (iI (a3)), .int (iI (a4))]) s 0 0 (Av E)) (F0 m 3 ls []) := by
    intro k
    induction k with
    | zero => intro v5 sL H locs ls hg hm hl h; exact False.elim h
    | succ k ih =>
      intro v5 sL H locs ls hg hm hl h
      rw [wX9_copies_L3] at h
      refine lv_iload hx hb dX9_copies_3 (lv_at hl 5 rfl) ?_
      refine lv_iload_n hx hb dX9_copies_5 rfl (lv_at hl 3 rfl) ?_
      obtain ⟨hR1, h⟩ := h
      refine j_ge (tgt := 44) hx hb dX9_copies_6 (by decide) hR1 ha3 (fun c2 => ?_) (fun c2 => ?_)
      · have h := h.1 c2
        refine lv_aload_n hx hb dX9_copies_44 rfl (lv_at hl 0 rfl) ?_
        refine q_getx (ci := 9) (C := RX9) (T := TX9) (N := 27) (j := 23) hx hb hts (fun _ h9 => List.mem_cons_of_mem _ (List.mem_append_right _ h9)) hown hK hg 21 (by decide) rfl rfl (by decide) rfl 1 (by decide) (hts (.fieldLink RX9 13 "JoinMapsModel" "sizes" "[I") (List.mem_cons_of_mem _ (List.mem_append_left _ (List.mem_of_getElem? (i := 1) rfl)))) rfl rfl rfl dX9_copies_45 ?_
        refine lv_iload hx hb dX9_copies_48 (lv_at hl 4 rfl) ?_
        refine lv_iload_n hx hb dX9_copies_50 rfl (lv_at hl 3 rfl) ?_
        obtain ⟨hP3, hP4, h⟩ := h
        refine q_iast (N := 6) hx hb hK hg 23 (by decide) rfl rfl hP3 hP4 (by decide) ha3 dX9_copies_51 (fun H locs hg => ?_)
        exact ret_v hx hb hr hlocks hg hm h dX9_copies_52
      · have h := h.2 c2
        refine lv_aload_n hx hb dX9_copies_9 rfl (lv_at hl 0 rfl) ?_
        refine q_getx (ci := 9) (C := RX9) (T := TX9) (N := 27) (j := 22) hx hb hts (fun _ h9 => List.mem_cons_of_mem _ (List.mem_append_right _ h9)) hown hK hg 21 (by decide) rfl rfl (by decide) rfl 0 (by decide) (hts (.fieldLink RX9 7 "JoinMapsModel" "rows" "[I") (List.mem_cons_of_mem _ (List.mem_append_left _ (List.mem_of_getElem? (i := 0) rfl)))) rfl rfl rfl dX9_copies_10 ?_
        refine lv_sipush (v := iI 200) hx hb dX9_copies_13 (by decide) ?_
        refine lv_iload hx hb dX9_copies_16 (lv_at hl 4 rfl) ?_
        refine q_imul hx hb dX9_copies_18 ?_
        refine lv_iload hx hb dX9_copies_19 (lv_at hl 5 rfl) ?_
        refine q_iadd hx hb dX9_copies_21 ?_
        refine lv_aload_n hx hb dX9_copies_22 rfl (lv_at hl 0 rfl) ?_
        refine q_getx (ci := 9) (C := RX9) (T := TX9) (N := 27) (j := 22) hx hb hts (fun _ h9 => List.mem_cons_of_mem _ (List.mem_append_right _ h9)) hown hK hg 21 (by decide) rfl rfl (by decide) rfl 0 (by decide) (hts (.fieldLink RX9 7 "JoinMapsModel" "rows" "[I") (List.mem_cons_of_mem _ (List.mem_append_left _ (List.mem_of_getElem? (i := 0) rfl)))) rfl rfl rfl dX9_copies_23 ?_
        refine lv_sipush (v := iI 200) hx hb dX9_copies_26 (by decide) ?_
        refine lv_iload_n hx hb dX9_copies_29 rfl (lv_at hl 1 rfl) ?_
        refine q_imul hx hb dX9_copies_30 ?_
        refine lv_iload_n hx hb dX9_copies_31 rfl (lv_at hl 2 rfl) ?_
        refine q_iadd hx hb dX9_copies_32 ?_
        refine lv_iload hx hb dX9_copies_33 (lv_at hl 5 rfl) ?_
        refine q_iadd hx hb dX9_copies_35 ?_
        obtain ⟨hP5, hP6, h⟩ := h
        refine q_iald (N := 1200) hx hb hK hg 22 (by decide) rfl rfl hP5 hP6 (by decide) dX9_copies_36 ?_
        have hR7 := GS_R hg 22 ((((200 * a1) + a2) + v5) : Int).toNat
        obtain ⟨hP8, hP9, h⟩ := h
        refine q_iast (N := 1200) hx hb hK hg 22 (by decide) rfl rfl hP8 hP9 (by decide) hR7 dX9_copies_37 (fun H locs hg => ?_)
        refine lv_iinc (v := iI (v5 + 1)) (lv' := [(5, .int (iI (v5 + 1))), (0, .ref (ea E 21)), (1, .int (iI (a1))), (2, .int (iI (a2))), (3, .int (iI (a3))), (4, .int (iI (a4)))]) hx hb dX9_copies_38 hl (k := 5) rfl (iI_add _ _) (by decide) rfl (fun ls hl => ?_)
        refine lv_goto (tgt := 3) hx hb dX9_copies_41 (by decide) ?_
        exact ih (v5 + 1) (un sL 22 (((200 * a4) + v5) : Int).toNat ((sn sL 22 ((((200 * a1) + a2) + v5) : Int).toNat))) _ _ _ hg hm (lv_sub hl [1, 2, 3, 4, 5, 0] rfl) h
  refine lv_iconst (v := iI 0) hx hb dX9_copies_0 (by decide) ?_
  refine lv_istore (i := 5) (lv' := [(5, .int (iI (0))), (0, .ref (ea E 21)), (1, .int (iI (a1))), (2, .int (iI (a2))), (3, .int (iI (a3))), (4, .int (iI (a4)))]) hx hb dX9_copies_1 hl (by decide) rfl (fun ls hl => ?_)
  obtain ⟨kk, h⟩ := h
  exact J3  kk (0) (σ) _ _ _ hg hm (lv_sub hl [1, 2, 3, 4, 5, 0] rfl) h
theorem hdX9_cut : yX9_cut.cls ≠ "java/lang/invoke/MethodHandle" ∧ yX9_cut.cls ≠ "java/lang/invoke/VarHandle" ∧ (parseMethodDescriptor yX9_cut.desc).map (fun d => d.parameters.length) = some 3 := by decide +kernel
set_option maxRecDepth 100000 in
set_option maxHeartbeats 4000000 in
theorem ctX9_cut (l : Launch) (E : Ev) (a1 : Int) (a2 : Int) (a3 : Int) (σ : SS) (Q : Int → SS → Prop) (ha1 : R32 a1) (ha2 : R32 a2) (ha3 : R32 a3) (h : wX9_cut a1 a2 a3 σ Q) : Met l yX9_cut wsX9_cut ({ frames := 3, cells := 0, slots := 0, locals := 65 } : Room) (Pc E σ [.ref (ea E 21), .int (iI (a1)), .int (iI (a2)), .int (iI (a3))]) (Qi E (sz σ) σ Q) 0 0 (Av E) := by
  rw [wX9_cut] at h
  refine Met.ofW (cc := cX9_cut) (maxL := 5) (ret := (some .int)) (by decide) rfl ?_
  intro p e s m args below meth c s₁ B hml hv
  obtain ⟨rfl, hH, hK, hN⟩ := hv
  have hx := B.exec
  have hb := B.bytes
  have hr := B.returns
  have hts := atoms_spec (ws := wsX9_cut) B.pre
  have hown : s.vm.findClass RX9 = some m.cls := findClass_of_methodNamed B.named
  have hlocks := B.notSynchronized
  have hg : GS E σ s s.heap [] := ⟨hH, va_S.rf⟩
  have hm : Mo (sz σ) σ σ := Mo.rf (Nat.le_refl _)
  have hl := ent (vs := [.ref (ea E 21), .int (iI (a1)), .int (iI (a2)), .int (iI (a3))]) (n := 5) (cats_x (cats_i (cats_i (cats_i cats_nil)))) (Nat.le_of_ble_eq_true rfl)
  rw [lg_entry_eq]
  generalize (lg_sl ([.ref (ea E 21), .int (iI (a1)), .int (iI (a2)), .int (iI (a3))]) ++ List.replicate (5 - (lg_sl ([.ref (ea E 21), .int (iI (a1)), .int (iI (a2)), .int (iI (a3))])).length) Slot.unset).toArray = ls at hl ⊢
  have hl : lv_has ls 5 [(0, .ref (ea E 21)), (1, .int (iI (a1))), (2, .int (iI (a2))), (3, .int (iI (a3)))] := hl
  refine lv_iload_n hx hb dX9_cut_0 rfl (lv_at hl 1 rfl) ?_
  refine call_z (run_S (As := [.int (iI (a1))]) (rest := []) ⟨hx, hb, hml, hown, hts⟩ (ctX9_isMap l E a1 σ _ ha1 h) (va_cwS 1 hts gX9_cut_X9_isMap rfl rfl rfl hdX9_isMap ⟨Nat.le_of_ble_eq_true rfl, Nat.le_of_ble_eq_true rfl⟩) hK hN hg rfl hl.1 rfl (cat_sum _ (by simp)) dX9_cut_1 ⟨Nat.le_refl 0, Nat.le_refl 0⟩) hg (fun r2 s1 H locs hz3 hm2 h hg => ?_)
  have hm := hm.tn hm2
  refine k_eq (tgt := 26) hx hb dX9_cut_4 (by decide) (z_R hz3) (fun c4 => ?_) (fun c4 => ?_)
  · have h := h.1 c4
    refine lv_aload_n hx hb dX9_cut_26 rfl (lv_at hl 0 rfl) ?_
    refine q_ldc (z := (-2000000002)) hx hb hown (hts (.constant RX9 61 (-2000000002)) (List.mem_cons_of_mem _ (List.mem_append_left _ (List.mem_append_left _ (List.mem_of_getElem? (i := 0) rfl))))) (by decide) dX9_cut_27 ?_
    refine call_i (run_V (a := ea E 21) (As := [.int (iI ((-2000000002)))]) (rest := []) ⟨hx, hb, hml, hown, hts⟩ (ctX9_refuses l E (-2000000002) s1 _ (by decide) h) (cwV 1 hts gX9_cut_X9_refuses rfl rfl rfl ⟨rfl, hdX9_refuses⟩ ⟨Nat.le_of_ble_eq_true rfl, Nat.le_of_ble_eq_true rfl⟩) hK hN hg (recv_x (ci := 9) (C := RX9) (T := TX9) (N := 27) hg hK (by decide) rfl (by decide) rfl) rfl hl.1 rfl (cat_sum _ (by simp)) dX9_cut_29 ⟨Nat.le_refl 0, Nat.le_refl 0⟩) hg (fun r6 s5 H locs hz7 hm2 h hg => ?_)
    have hm := hm.tn hm2
    exact ret_i hx hb hr hlocks hg hz7 hm h dX9_cut_32
  · have h := h.2 c4
    refine lv_iload_n hx hb dX9_cut_7 rfl (lv_at hl 2 rfl) ?_
    refine call_z (run_S (As := [.int (iI (a2))]) (rest := []) ⟨hx, hb, hml, hown, hts⟩ (ctX9_isKey l E a2 s1 _ ha2 h) (va_cwS 1 hts gX9_cut_X9_isKey rfl rfl rfl hdX9_isKey ⟨Nat.le_of_ble_eq_true rfl, Nat.le_of_ble_eq_true rfl⟩) hK hN hg rfl hl.1 rfl (cat_sum _ (by simp)) dX9_cut_8 ⟨Nat.le_refl 0, Nat.le_refl 0⟩) hg (fun r9 s8 H locs hz10 hm2 h hg => ?_)
    have hm := hm.tn hm2
    refine k_eq (tgt := 26) hx hb dX9_cut_11 (by decide) (z_R hz10) (fun c11 => ?_) (fun c11 => ?_)
    · have h := h.1 c11
      refine lv_aload_n hx hb dX9_cut_26 rfl (lv_at hl 0 rfl) ?_
      refine q_ldc (z := (-2000000002)) hx hb hown (hts (.constant RX9 61 (-2000000002)) (List.mem_cons_of_mem _ (List.mem_append_left _ (List.mem_append_left _ (List.mem_of_getElem? (i := 0) rfl))))) (by decide) dX9_cut_27 ?_
      refine call_i (run_V (a := ea E 21) (As := [.int (iI ((-2000000002)))]) (rest := []) ⟨hx, hb, hml, hown, hts⟩ (ctX9_refuses l E (-2000000002) s8 _ (by decide) h) (cwV 1 hts gX9_cut_X9_refuses rfl rfl rfl ⟨rfl, hdX9_refuses⟩ ⟨Nat.le_of_ble_eq_true rfl, Nat.le_of_ble_eq_true rfl⟩) hK hN hg (recv_x (ci := 9) (C := RX9) (T := TX9) (N := 27) hg hK (by decide) rfl (by decide) rfl) rfl hl.1 rfl (cat_sum _ (by simp)) dX9_cut_29 ⟨Nat.le_refl 0, Nat.le_refl 0⟩) hg (fun r13 s12 H locs hz14 hm2 h hg => ?_)
      have hm := hm.tn hm2
      exact ret_i hx hb hr hlocks hg hz14 hm h dX9_cut_32
    · have h := h.2 c11
      refine lv_iload_n hx hb dX9_cut_14 rfl (lv_at hl 3 rfl) ?_
      refine call_z (run_S (As := [.int (iI (a3))]) (rest := []) ⟨hx, hb, hml, hown, hts⟩ (ctX9_isMap l E a3 s8 _ ha3 h) (va_cwS 1 hts gX9_cut_X9_isMap rfl rfl rfl hdX9_isMap ⟨Nat.le_of_ble_eq_true rfl, Nat.le_of_ble_eq_true rfl⟩) hK hN hg rfl hl.1 rfl (cat_sum _ (by simp)) dX9_cut_15 ⟨Nat.le_refl 0, Nat.le_refl 0⟩) hg (fun r16 s15 H locs hz17 hm2 h hg => ?_)
      have hm := hm.tn hm2
      refine k_eq (tgt := 26) hx hb dX9_cut_18 (by decide) (z_R hz17) (fun c18 => ?_) (fun c18 => ?_)
      · have h := h.1 c18
        refine lv_aload_n hx hb dX9_cut_26 rfl (lv_at hl 0 rfl) ?_
        refine q_ldc (z := (-2000000002)) hx hb hown (hts (.constant RX9 61 (-2000000002)) (List.mem_cons_of_mem _ (List.mem_append_left _ (List.mem_append_left _ (List.mem_of_getElem? (i := 0) rfl))))) (by decide) dX9_cut_27 ?_
        refine call_i (run_V (a := ea E 21) (As := [.int (iI ((-2000000002)))]) (rest := []) ⟨hx, hb, hml, hown, hts⟩ (ctX9_refuses l E (-2000000002) s15 _ (by decide) h) (cwV 1 hts gX9_cut_X9_refuses rfl rfl rfl ⟨rfl, hdX9_refuses⟩ ⟨Nat.le_of_ble_eq_true rfl, Nat.le_of_ble_eq_true rfl⟩) hK hN hg (recv_x (ci := 9) (C := RX9) (T := TX9) (N := 27) hg hK (by decide) rfl (by decide) rfl) rfl hl.1 rfl (cat_sum _ (by simp)) dX9_cut_29 ⟨Nat.le_refl 0, Nat.le_refl 0⟩) hg (fun r20 s19 H locs hz21 hm2 h hg => ?_)
        have hm := hm.tn hm2
        exact ret_i hx hb hr hlocks hg hz21 hm h dX9_cut_32
      · have h := h.2 c18
        refine lv_iload_n hx hb dX9_cut_21 rfl (lv_at hl 1 rfl) ?_
        refine lv_iload_n hx hb dX9_cut_22 rfl (lv_at hl 3 rfl) ?_
        refine j_ne (tgt := 33) hx hb dX9_cut_23 (by decide) ha1 ha3 (fun c22 => ?_) (fun c22 => ?_)
        · have h := h.1 c22
          refine lv_aload_n hx hb dX9_cut_33 rfl (lv_at hl 0 rfl) ?_
          refine call_v (run_V (a := ea E 21) (As := []) (rest := []) ⟨hx, hb, hml, hown, hts⟩ (ctX9_keeps l E  s15 _  h) (cwV 0 hts gX9_cut_X9_keeps rfl rfl rfl ⟨rfl, hdX9_keeps⟩ ⟨Nat.le_of_ble_eq_true rfl, Nat.le_of_ble_eq_true rfl⟩) hK hN hg (recv_x (ci := 9) (C := RX9) (T := TX9) (N := 27) hg hK (by decide) rfl (by decide) rfl) rfl hl.1 rfl (cat_sum _ (by simp)) dX9_cut_34 ⟨Nat.le_refl 0, Nat.le_refl 0⟩) hg (fun s23 H locs hm2 h hg => ?_)
          have hm := hm.tn hm2
          refine lv_aload_n hx hb dX9_cut_37 rfl (lv_at hl 0 rfl) ?_
          refine lv_iload_n hx hb dX9_cut_38 rfl (lv_at hl 1 rfl) ?_
          refine lv_iload_n hx hb dX9_cut_39 rfl (lv_at hl 2 rfl) ?_
          refine call_i (run_V (a := ea E 21) (As := [.int (iI (a1)), .int (iI (a2))]) (rest := []) ⟨hx, hb, hml, hown, hts⟩ (ctX9_below l E a1 a2 s23 _ ha1 ha2 h) (cwV 2 hts gX9_cut_X9_below rfl rfl rfl ⟨rfl, hdX9_below⟩ ⟨Nat.le_of_ble_eq_true rfl, Nat.le_of_ble_eq_true rfl⟩) hK hN hg (recv_x (ci := 9) (C := RX9) (T := TX9) (N := 27) hg hK (by decide) rfl (by decide) rfl) rfl hl.1 rfl (cat_sum _ (by simp)) dX9_cut_40 ⟨Nat.le_refl 0, Nat.le_refl 0⟩) hg (fun r27 s26 H locs hz28 hm2 h hg => ?_)
          have hm := hm.tn hm2
          refine lv_istore (i := 4) (lv' := [(4, .int (iI (r27))), (0, .ref (ea E 21)), (1, .int (iI (a1))), (2, .int (iI (a2))), (3, .int (iI (a3)))]) hx hb dX9_cut_43 hl (by decide) rfl (fun ls hl => ?_)
          refine lv_aload_n hx hb dX9_cut_45 rfl (lv_at hl 1 rfl) ?_
          refine lv_iload_n hx hb dX9_cut_46 rfl (lv_at hl 2 rfl) ?_
          refine lv_iload hx hb dX9_cut_47 (lv_at hl 0 rfl) ?_
          refine lv_aload_n hx hb dX9_cut_49 rfl (lv_at hl 1 rfl) ?_
          refine q_getx (ci := 9) (C := RX9) (T := TX9) (N := 27) (j := 23) hx hb hts (fun _ h9 => List.mem_cons_of_mem _ (List.mem_append_right _ h9)) hown hK hg 21 (by decide) rfl rfl (by decide) rfl 1 (by decide) (hts (.fieldLink RX9 13 "JoinMapsModel" "sizes" "[I") (List.mem_cons_of_mem _ (List.mem_append_left _ (List.mem_append_left _ (List.mem_of_getElem? (i := 1) rfl))))) rfl rfl rfl dX9_cut_50 ?_
          refine lv_iload_n hx hb dX9_cut_53 rfl (lv_at hl 2 rfl) ?_
          obtain ⟨hP29, hP30, h⟩ := h
          refine q_iald (N := 6) hx hb hK hg 23 (by decide) rfl rfl hP29 hP30 (by decide) dX9_cut_54 ?_
          have hR31 := GS_R hg 23 (a1 : Int).toNat
          refine lv_iload hx hb dX9_cut_55 (lv_at hl 0 rfl) ?_
          refine q_isub hx hb dX9_cut_57 ?_
          refine lv_iload_n hx hb dX9_cut_58 rfl (lv_at hl 4 rfl) ?_
          obtain ⟨hR32, h⟩ := h
          refine call_v (run_V (a := ea E 21) (As := [.int (iI (a1)), .int (iI (r27)), .int (iI (((sn s26 23 (a1 : Int).toNat) - r27))), .int (iI (a3))]) (rest := []) ⟨hx, hb, hml, hown, hts⟩ (ctX9_copies l E a1 r27 ((sn s26 23 (a1 : Int).toNat) - r27) a3 s26 _ ha1 hz28 hR32 ha3 h) (cwV 4 hts gX9_cut_X9_copies rfl rfl rfl ⟨rfl, hdX9_copies⟩ ⟨Nat.le_of_ble_eq_true rfl, Nat.le_of_ble_eq_true rfl⟩) hK hN hg (recv_x (ci := 9) (C := RX9) (T := TX9) (N := 27) hg hK (by decide) rfl (by decide) rfl) rfl hl.1 rfl (cat_sum _ (by simp)) dX9_cut_59 ⟨Nat.le_refl 0, Nat.le_refl 0⟩) hg (fun s33 H locs hm2 h hg => ?_)
          have hm := hm.tn hm2
          refine lv_aload_n hx hb dX9_cut_62 rfl (lv_at hl 1 rfl) ?_
          refine q_getx (ci := 9) (C := RX9) (T := TX9) (N := 27) (j := 23) hx hb hts (fun _ h9 => List.mem_cons_of_mem _ (List.mem_append_right _ h9)) hown hK hg 21 (by decide) rfl rfl (by decide) rfl 1 (by decide) (hts (.fieldLink RX9 13 "JoinMapsModel" "sizes" "[I") (List.mem_cons_of_mem _ (List.mem_append_left _ (List.mem_append_left _ (List.mem_of_getElem? (i := 1) rfl))))) rfl rfl rfl dX9_cut_63 ?_
          refine lv_iload_n hx hb dX9_cut_66 rfl (lv_at hl 2 rfl) ?_
          refine lv_iload hx hb dX9_cut_67 (lv_at hl 0 rfl) ?_
          obtain ⟨hP36, hP37, h⟩ := h
          refine q_iast (N := 6) hx hb hK hg 23 (by decide) rfl rfl hP36 hP37 (by decide) hz28 dX9_cut_69 (fun H locs hg => ?_)
          refine lv_aload_n hx hb dX9_cut_70 rfl (lv_at hl 1 rfl) ?_
          refine q_getx (ci := 9) (C := RX9) (T := TX9) (N := 27) (j := 23) hx hb hts (fun _ h9 => List.mem_cons_of_mem _ (List.mem_append_right _ h9)) hown hK hg 21 (by decide) rfl rfl (by decide) rfl 1 (by decide) (hts (.fieldLink RX9 13 "JoinMapsModel" "sizes" "[I") (List.mem_cons_of_mem _ (List.mem_append_left _ (List.mem_append_left _ (List.mem_of_getElem? (i := 1) rfl))))) rfl rfl rfl dX9_cut_71 ?_
          refine lv_iload_n hx hb dX9_cut_74 rfl (lv_at hl 4 rfl) ?_
          obtain ⟨hP38, hP39, h⟩ := h
          refine q_iald (N := 6) hx hb hK hg 23 (by decide) rfl rfl hP38 hP39 (by decide) dX9_cut_75 ?_
          have hR40 := GS_R hg 23 (a3 : Int).toNat
          exact ret_i hx hb hr hlocks hg hR40 hm h dX9_cut_76
        · have h := h.2 c22
          refine lv_aload_n hx hb dX9_cut_26 rfl (lv_at hl 0 rfl) ?_
          refine q_ldc (z := (-2000000002)) hx hb hown (hts (.constant RX9 61 (-2000000002)) (List.mem_cons_of_mem _ (List.mem_append_left _ (List.mem_append_left _ (List.mem_of_getElem? (i := 0) rfl))))) (by decide) dX9_cut_27 ?_
          refine call_i (run_V (a := ea E 21) (As := [.int (iI ((-2000000002)))]) (rest := []) ⟨hx, hb, hml, hown, hts⟩ (ctX9_refuses l E (-2000000002) s15 _ (by decide) h) (cwV 1 hts gX9_cut_X9_refuses rfl rfl rfl ⟨rfl, hdX9_refuses⟩ ⟨Nat.le_of_ble_eq_true rfl, Nat.le_of_ble_eq_true rfl⟩) hK hN hg (recv_x (ci := 9) (C := RX9) (T := TX9) (N := 27) hg hK (by decide) rfl (by decide) rfl) rfl hl.1 rfl (cat_sum _ (by simp)) dX9_cut_29 ⟨Nat.le_refl 0, Nat.le_refl 0⟩) hg (fun r42 s41 H locs hz43 hm2 h hg => ?_)
          have hm := hm.tn hm2
          exact ret_i hx hb hr hlocks hg hz43 hm h dX9_cut_32
theorem hdX9_glue : yX9_glue.cls ≠ "java/lang/invoke/MethodHandle" ∧ yX9_glue.cls ≠ "java/lang/invoke/VarHandle" ∧ (parseMethodDescriptor yX9_glue.desc).map (fun d => d.parameters.length) = some 2 := by decide +kernel
set_option maxRecDepth 100000 in
set_option maxHeartbeats 4000000 in
theorem ctX9_glue (l : Launch) (E : Ev) (a1 : Int) (a2 : Int) (σ : SS) (Q : Int → SS → Prop) (ha1 : R32 a1) (ha2 : R32 a2) (h : wX9_glue a1 a2 σ Q) : Met l yX9_glue wsX9_glue ({ frames := 2, cells := 0, slots := 0, locals := 45 } : Room) (Pc E σ [.ref (ea E 21), .int (iI (a1)), .int (iI (a2))]) (Qi E (sz σ) σ Q) 0 0 (Av E) := by
  rw [wX9_glue] at h
  refine Met.ofW (cc := cX9_glue) (maxL := 4) (ret := (some .int)) (by decide) rfl ?_
  intro p e s m args below meth c s₁ B hml hv
  obtain ⟨rfl, hH, hK, hN⟩ := hv
  have hx := B.exec
  have hb := B.bytes
  have hr := B.returns
  have hts := atoms_spec (ws := wsX9_glue) B.pre
  have hown : s.vm.findClass RX9 = some m.cls := findClass_of_methodNamed B.named
  have hlocks := B.notSynchronized
  have hg : GS E σ s s.heap [] := ⟨hH, va_S.rf⟩
  have hm : Mo (sz σ) σ σ := Mo.rf (Nat.le_refl _)
  have hl := ent (vs := [.ref (ea E 21), .int (iI (a1)), .int (iI (a2))]) (n := 4) (cats_x (cats_i (cats_i cats_nil))) (Nat.le_of_ble_eq_true rfl)
  rw [lg_entry_eq]
  generalize (lg_sl ([.ref (ea E 21), .int (iI (a1)), .int (iI (a2))]) ++ List.replicate (4 - (lg_sl ([.ref (ea E 21), .int (iI (a1)), .int (iI (a2))])).length) Slot.unset).toArray = ls at hl ⊢
  have hl : lv_has ls 4 [(0, .ref (ea E 21)), (1, .int (iI (a1))), (2, .int (iI (a2)))] := hl
  have J105 : ∀ (k : Nat), ∀ (v3 : Int) (sL : SS) (H : Heap) (locs : List Loc) (ls : Array Slot), GS E sL s H locs → Mo (sz σ) σ sL → lv_has ls 4 [(0, .ref (ea E 21)), (1, .int (iI (a1))), (2, .int (iI (a2))), (3, .int (iI (v3)))] → wX9_glue_L105 a1 a2 Q  k v3 sL → W p l e (headSpec wsX9_glue ({ frames := 2, cells := 0, slots := 0, locals := 45 } : Room)).room s m (List.toArray [.ref (ea E 21), .int (iI (a1)), .int (iI (a2))]) below meth c H locs 0 0 (MQ below (Qi E (sz σ) σ Q) (List.toArray [.ref (ea E 21), .int (iI (a1)), .int (iI (a2))]) s 0 0 (Av E)) (F0 m 105 ls []) := by
    intro k
    induction k with
    | zero => intro v3 sL H locs ls hg hm hl h; exact False.elim h
    | succ k ih =>
      intro v3 sL H locs ls hg hm hl h
      rw [wX9_glue_L105] at h
      refine lv_iload_n hx hb dX9_glue_105 rfl (lv_at hl 3 rfl) ?_
      refine lv_aload_n hx hb dX9_glue_106 rfl (lv_at hl 0 rfl) ?_
      refine q_getx (ci := 9) (C := RX9) (T := TX9) (N := 27) (j := 23) hx hb hts (fun _ h9 => List.mem_cons_of_mem _ (List.mem_append_right _ h9)) hown hK hg 21 (by decide) rfl rfl (by decide) rfl 1 (by decide) (hts (.fieldLink RX9 13 "JoinMapsModel" "sizes" "[I") (List.mem_cons_of_mem _ (List.mem_append_left _ (List.mem_append_left _ (List.mem_of_getElem? (i := 1) rfl))))) rfl rfl rfl dX9_glue_107 ?_
      refine lv_iload_n hx hb dX9_glue_110 rfl (lv_at hl 2 rfl) ?_
      obtain ⟨hP55, hP56, h⟩ := h
      refine q_iald (N := 6) hx hb hK hg 23 (by decide) rfl rfl hP55 hP56 (by decide) dX9_glue_111 ?_
      have hR57 := GS_R hg 23 (a2 : Int).toNat
      obtain ⟨hR58, h⟩ := h
      refine j_ge (tgt := 152) hx hb dX9_glue_112 (by decide) hR58 hR57 (fun c59 => ?_) (fun c59 => ?_)
      · have h := h.1 c59
        refine lv_aload_n hx hb dX9_glue_152 rfl (lv_at hl 0 rfl) ?_
        refine q_getx (ci := 9) (C := RX9) (T := TX9) (N := 27) (j := 23) hx hb hts (fun _ h9 => List.mem_cons_of_mem _ (List.mem_append_right _ h9)) hown hK hg 21 (by decide) rfl rfl (by decide) rfl 1 (by decide) (hts (.fieldLink RX9 13 "JoinMapsModel" "sizes" "[I") (List.mem_cons_of_mem _ (List.mem_append_left _ (List.mem_append_left _ (List.mem_of_getElem? (i := 1) rfl))))) rfl rfl rfl dX9_glue_153 ?_
        refine lv_iload_n hx hb dX9_glue_156 rfl (lv_at hl 1 rfl) ?_
        refine lv_dup2_11 hx hb dX9_glue_157 rfl rfl ?_
        obtain ⟨hP60, hP61, h⟩ := h
        refine q_iald (N := 6) hx hb hK hg 23 (by decide) rfl rfl hP60 hP61 (by decide) dX9_glue_158 ?_
        have hR62 := GS_R hg 23 (a1 : Int).toNat
        refine lv_aload_n hx hb dX9_glue_159 rfl (lv_at hl 0 rfl) ?_
        refine q_getx (ci := 9) (C := RX9) (T := TX9) (N := 27) (j := 23) hx hb hts (fun _ h9 => List.mem_cons_of_mem _ (List.mem_append_right _ h9)) hown hK hg 21 (by decide) rfl rfl (by decide) rfl 1 (by decide) (hts (.fieldLink RX9 13 "JoinMapsModel" "sizes" "[I") (List.mem_cons_of_mem _ (List.mem_append_left _ (List.mem_append_left _ (List.mem_of_getElem? (i := 1) rfl))))) rfl rfl rfl dX9_glue_160 ?_
        refine lv_iload_n hx hb dX9_glue_163 rfl (lv_at hl 2 rfl) ?_
        obtain ⟨hP63, hP64, h⟩ := h
        refine q_iald (N := 6) hx hb hK hg 23 (by decide) rfl rfl hP63 hP64 (by decide) dX9_glue_164 ?_
        have hR65 := GS_R hg 23 (a2 : Int).toNat
        refine q_iadd hx hb dX9_glue_165 ?_
        obtain ⟨hP66, hP67, hR68, h⟩ := h
        refine q_iast (N := 6) hx hb hK hg 23 (by decide) rfl rfl hP66 hP67 (by decide) hR68 dX9_glue_166 (fun H locs hg => ?_)
        refine lv_aload_n hx hb dX9_glue_167 rfl (lv_at hl 0 rfl) ?_
        refine q_getx (ci := 9) (C := RX9) (T := TX9) (N := 27) (j := 23) hx hb hts (fun _ h9 => List.mem_cons_of_mem _ (List.mem_append_right _ h9)) hown hK hg 21 (by decide) rfl rfl (by decide) rfl 1 (by decide) (hts (.fieldLink RX9 13 "JoinMapsModel" "sizes" "[I") (List.mem_cons_of_mem _ (List.mem_append_left _ (List.mem_append_left _ (List.mem_of_getElem? (i := 1) rfl))))) rfl rfl rfl dX9_glue_168 ?_
        refine lv_iload_n hx hb dX9_glue_171 rfl (lv_at hl 2 rfl) ?_
        refine lv_iconst (v := iI 0) hx hb dX9_glue_172 (by decide) ?_
        obtain ⟨hP69, hP70, h⟩ := h
        refine q_iast (N := 6) hx hb hK hg 23 (by decide) rfl rfl hP69 hP70 (by decide) (by decide) dX9_glue_173 (fun H locs hg => ?_)
        refine lv_aload_n hx hb dX9_glue_174 rfl (lv_at hl 0 rfl) ?_
        refine q_getx (ci := 9) (C := RX9) (T := TX9) (N := 27) (j := 23) hx hb hts (fun _ h9 => List.mem_cons_of_mem _ (List.mem_append_right _ h9)) hown hK hg 21 (by decide) rfl rfl (by decide) rfl 1 (by decide) (hts (.fieldLink RX9 13 "JoinMapsModel" "sizes" "[I") (List.mem_cons_of_mem _ (List.mem_append_left _ (List.mem_append_left _ (List.mem_of_getElem? (i := 1) rfl))))) rfl rfl rfl dX9_glue_175 ?_
        refine lv_iload_n hx hb dX9_glue_178 rfl (lv_at hl 1 rfl) ?_
        obtain ⟨hP71, hP72, h⟩ := h
        refine q_iald (N := 6) hx hb hK hg 23 (by decide) rfl rfl hP71 hP72 (by decide) dX9_glue_179 ?_
        have hR73 := GS_R hg 23 (a1 : Int).toNat
        exact ret_i hx hb hr hlocks hg hR73 hm h dX9_glue_180
      · have h := h.2 c59
        refine lv_aload_n hx hb dX9_glue_115 rfl (lv_at hl 0 rfl) ?_
        refine q_getx (ci := 9) (C := RX9) (T := TX9) (N := 27) (j := 22) hx hb hts (fun _ h9 => List.mem_cons_of_mem _ (List.mem_append_right _ h9)) hown hK hg 21 (by decide) rfl rfl (by decide) rfl 0 (by decide) (hts (.fieldLink RX9 7 "JoinMapsModel" "rows" "[I") (List.mem_cons_of_mem _ (List.mem_append_left _ (List.mem_append_left _ (List.mem_of_getElem? (i := 4) rfl))))) rfl rfl rfl dX9_glue_116 ?_
        refine lv_sipush (v := iI 200) hx hb dX9_glue_119 (by decide) ?_
        refine lv_iload_n hx hb dX9_glue_122 rfl (lv_at hl 1 rfl) ?_
        refine q_imul hx hb dX9_glue_123 ?_
        refine lv_aload_n hx hb dX9_glue_124 rfl (lv_at hl 0 rfl) ?_
        refine q_getx (ci := 9) (C := RX9) (T := TX9) (N := 27) (j := 23) hx hb hts (fun _ h9 => List.mem_cons_of_mem _ (List.mem_append_right _ h9)) hown hK hg 21 (by decide) rfl rfl (by decide) rfl 1 (by decide) (hts (.fieldLink RX9 13 "JoinMapsModel" "sizes" "[I") (List.mem_cons_of_mem _ (List.mem_append_left _ (List.mem_append_left _ (List.mem_of_getElem? (i := 1) rfl))))) rfl rfl rfl dX9_glue_125 ?_
        refine lv_iload_n hx hb dX9_glue_128 rfl (lv_at hl 1 rfl) ?_
        obtain ⟨hP74, hP75, h⟩ := h
        refine q_iald (N := 6) hx hb hK hg 23 (by decide) rfl rfl hP74 hP75 (by decide) dX9_glue_129 ?_
        have hR76 := GS_R hg 23 (a1 : Int).toNat
        refine q_iadd hx hb dX9_glue_130 ?_
        refine lv_iload_n hx hb dX9_glue_131 rfl (lv_at hl 3 rfl) ?_
        refine q_iadd hx hb dX9_glue_132 ?_
        refine lv_aload_n hx hb dX9_glue_133 rfl (lv_at hl 0 rfl) ?_
        refine q_getx (ci := 9) (C := RX9) (T := TX9) (N := 27) (j := 22) hx hb hts (fun _ h9 => List.mem_cons_of_mem _ (List.mem_append_right _ h9)) hown hK hg 21 (by decide) rfl rfl (by decide) rfl 0 (by decide) (hts (.fieldLink RX9 7 "JoinMapsModel" "rows" "[I") (List.mem_cons_of_mem _ (List.mem_append_left _ (List.mem_append_left _ (List.mem_of_getElem? (i := 4) rfl))))) rfl rfl rfl dX9_glue_134 ?_
        refine lv_sipush (v := iI 200) hx hb dX9_glue_137 (by decide) ?_
        refine lv_iload_n hx hb dX9_glue_140 rfl (lv_at hl 2 rfl) ?_
        refine q_imul hx hb dX9_glue_141 ?_
        refine lv_iload_n hx hb dX9_glue_142 rfl (lv_at hl 3 rfl) ?_
        refine q_iadd hx hb dX9_glue_143 ?_
        obtain ⟨hP77, hP78, h⟩ := h
        refine q_iald (N := 1200) hx hb hK hg 22 (by decide) rfl rfl hP77 hP78 (by decide) dX9_glue_144 ?_
        have hR79 := GS_R hg 22 (((200 * a2) + v3) : Int).toNat
        obtain ⟨hP80, hP81, h⟩ := h
        refine q_iast (N := 1200) hx hb hK hg 22 (by decide) rfl rfl hP80 hP81 (by decide) hR79 dX9_glue_145 (fun H locs hg => ?_)
        refine lv_iinc (v := iI (v3 + 1)) (lv' := [(3, .int (iI (v3 + 1))), (0, .ref (ea E 21)), (1, .int (iI (a1))), (2, .int (iI (a2)))]) hx hb dX9_glue_146 hl (k := 3) rfl (iI_add _ _) (by decide) rfl (fun ls hl => ?_)
        refine lv_goto (tgt := 105) hx hb dX9_glue_149 (by decide) ?_
        exact ih (v3 + 1) (un sL 22 ((((200 * a1) + (sn sL 23 (a1 : Int).toNat)) + v3) : Int).toNat ((sn sL 22 (((200 * a2) + v3) : Int).toNat))) _ _ _ hg hm (lv_sub hl [1, 2, 3, 0] rfl) h
  have J73 : ∀ (sL : SS) (H : Heap) (locs : List Loc) (ls : Array Slot), GS E sL s H locs → Mo (sz σ) σ sL → lv_has ls 4 [(0, .ref (ea E 21)), (1, .int (iI (a1))), (2, .int (iI (a2)))] → wX9_glue_L73 a1 a2 Q   sL → W p l e (headSpec wsX9_glue ({ frames := 2, cells := 0, slots := 0, locals := 45 } : Room)).room s m (List.toArray [.ref (ea E 21), .int (iI (a1)), .int (iI (a2))]) below meth c H locs 0 0 (MQ below (Qi E (sz σ) σ Q) (List.toArray [.ref (ea E 21), .int (iI (a1)), .int (iI (a2))]) s 0 0 (Av E)) (F0 m 73 ls []) := by
    intro sL H locs ls hg hm hl h
    rw [wX9_glue_L73] at h
    refine lv_aload_n hx hb dX9_glue_73 rfl (lv_at hl 0 rfl) ?_
    refine q_getx (ci := 9) (C := RX9) (T := TX9) (N := 27) (j := 23) hx hb hts (fun _ h9 => List.mem_cons_of_mem _ (List.mem_append_right _ h9)) hown hK hg 21 (by decide) rfl rfl (by decide) rfl 1 (by decide) (hts (.fieldLink RX9 13 "JoinMapsModel" "sizes" "[I") (List.mem_cons_of_mem _ (List.mem_append_left _ (List.mem_append_left _ (List.mem_of_getElem? (i := 1) rfl))))) rfl rfl rfl dX9_glue_74 ?_
    refine lv_iload_n hx hb dX9_glue_77 rfl (lv_at hl 1 rfl) ?_
    obtain ⟨hP41, hP42, h⟩ := h
    refine q_iald (N := 6) hx hb hK hg 23 (by decide) rfl rfl hP41 hP42 (by decide) dX9_glue_78 ?_
    have hR43 := GS_R hg 23 (a1 : Int).toNat
    refine lv_aload_n hx hb dX9_glue_79 rfl (lv_at hl 0 rfl) ?_
    refine q_getx (ci := 9) (C := RX9) (T := TX9) (N := 27) (j := 23) hx hb hts (fun _ h9 => List.mem_cons_of_mem _ (List.mem_append_right _ h9)) hown hK hg 21 (by decide) rfl rfl (by decide) rfl 1 (by decide) (hts (.fieldLink RX9 13 "JoinMapsModel" "sizes" "[I") (List.mem_cons_of_mem _ (List.mem_append_left _ (List.mem_append_left _ (List.mem_of_getElem? (i := 1) rfl))))) rfl rfl rfl dX9_glue_80 ?_
    refine lv_iload_n hx hb dX9_glue_83 rfl (lv_at hl 2 rfl) ?_
    obtain ⟨hP44, hP45, h⟩ := h
    refine q_iald (N := 6) hx hb hK hg 23 (by decide) rfl rfl hP44 hP45 (by decide) dX9_glue_84 ?_
    have hR46 := GS_R hg 23 (a2 : Int).toNat
    refine q_iadd hx hb dX9_glue_85 ?_
    refine lv_sipush (v := iI 200) hx hb dX9_glue_86 (by decide) ?_
    obtain ⟨hR47, h⟩ := h
    refine j_le (tgt := 99) hx hb dX9_glue_89 (by decide) hR47 (by decide) (fun c48 => ?_) (fun c48 => ?_)
    · have h := h.1 c48
      refine lv_aload_n hx hb dX9_glue_99 rfl (lv_at hl 0 rfl) ?_
      refine call_v (run_V (a := ea E 21) (As := []) (rest := []) ⟨hx, hb, hml, hown, hts⟩ (ctX9_keeps l E  sL _  h) (cwV 0 hts gX9_glue_X9_keeps rfl rfl rfl ⟨rfl, hdX9_keeps⟩ ⟨Nat.le_of_ble_eq_true rfl, Nat.le_of_ble_eq_true rfl⟩) hK hN hg (recv_x (ci := 9) (C := RX9) (T := TX9) (N := 27) hg hK (by decide) rfl (by decide) rfl) rfl hl.1 rfl (cat_sum _ (by simp)) dX9_glue_100 ⟨Nat.le_refl 0, Nat.le_refl 0⟩) hg (fun s49 H locs hm2 h hg => ?_)
      have hm := hm.tn hm2
      refine lv_iconst (v := iI 0) hx hb dX9_glue_103 (by decide) ?_
      refine lv_istore_n (i := 3) (lv' := [(3, .int (iI (0))), (0, .ref (ea E 21)), (1, .int (iI (a1))), (2, .int (iI (a2)))]) hx hb dX9_glue_104 rfl hl (by decide) rfl (fun ls hl => ?_)
      obtain ⟨kk, h⟩ := h
      exact J105  kk (0) (s49) _ _ _ hg hm (lv_sub hl [1, 2, 3, 0] rfl) h
    · have h := h.2 c48
      refine lv_aload_n hx hb dX9_glue_92 rfl (lv_at hl 0 rfl) ?_
      refine q_ldc (z := (-2000000004)) hx hb hown (hts (.constant RX9 113 (-2000000004)) (List.mem_cons_of_mem _ (List.mem_append_left _ (List.mem_append_left _ (List.mem_of_getElem? (i := 3) rfl))))) (by decide) dX9_glue_93 ?_
      refine call_i (run_V (a := ea E 21) (As := [.int (iI ((-2000000004)))]) (rest := []) ⟨hx, hb, hml, hown, hts⟩ (ctX9_refuses l E (-2000000004) sL _ (by decide) h) (cwV 1 hts gX9_glue_X9_refuses rfl rfl rfl ⟨rfl, hdX9_refuses⟩ ⟨Nat.le_of_ble_eq_true rfl, Nat.le_of_ble_eq_true rfl⟩) hK hN hg (recv_x (ci := 9) (C := RX9) (T := TX9) (N := 27) hg hK (by decide) rfl (by decide) rfl) rfl hl.1 rfl (cat_sum _ (by simp)) dX9_glue_95 ⟨Nat.le_refl 0, Nat.le_refl 0⟩) hg (fun r53 s52 H locs hz54 hm2 h hg => ?_)
      have hm := hm.tn hm2
      exact ret_i hx hb hr hlocks hg hz54 hm h dX9_glue_98
  refine lv_iload_n hx hb dX9_glue_0 rfl (lv_at hl 1 rfl) ?_
  refine call_z (run_S (As := [.int (iI (a1))]) (rest := []) ⟨hx, hb, hml, hown, hts⟩ (ctX9_isMap l E a1 σ _ ha1 h) (va_cwS 1 hts gX9_glue_X9_isMap rfl rfl rfl hdX9_isMap ⟨Nat.le_of_ble_eq_true rfl, Nat.le_of_ble_eq_true rfl⟩) hK hN hg rfl hl.1 rfl (cat_sum _ (by simp)) dX9_glue_1 ⟨Nat.le_refl 0, Nat.le_refl 0⟩) hg (fun r2 s1 H locs hz3 hm2 h hg => ?_)
  have hm := hm.tn hm2
  refine k_eq (tgt := 19) hx hb dX9_glue_4 (by decide) (z_R hz3) (fun c4 => ?_) (fun c4 => ?_)
  · have h := h.1 c4
    refine lv_aload_n hx hb dX9_glue_19 rfl (lv_at hl 0 rfl) ?_
    refine q_ldc (z := (-2000000002)) hx hb hown (hts (.constant RX9 61 (-2000000002)) (List.mem_cons_of_mem _ (List.mem_append_left _ (List.mem_append_left _ (List.mem_of_getElem? (i := 0) rfl))))) (by decide) dX9_glue_20 ?_
    refine call_i (run_V (a := ea E 21) (As := [.int (iI ((-2000000002)))]) (rest := []) ⟨hx, hb, hml, hown, hts⟩ (ctX9_refuses l E (-2000000002) s1 _ (by decide) h) (cwV 1 hts gX9_glue_X9_refuses rfl rfl rfl ⟨rfl, hdX9_refuses⟩ ⟨Nat.le_of_ble_eq_true rfl, Nat.le_of_ble_eq_true rfl⟩) hK hN hg (recv_x (ci := 9) (C := RX9) (T := TX9) (N := 27) hg hK (by decide) rfl (by decide) rfl) rfl hl.1 rfl (cat_sum _ (by simp)) dX9_glue_22 ⟨Nat.le_refl 0, Nat.le_refl 0⟩) hg (fun r6 s5 H locs hz7 hm2 h hg => ?_)
    have hm := hm.tn hm2
    exact ret_i hx hb hr hlocks hg hz7 hm h dX9_glue_25
  · have h := h.2 c4
    refine lv_iload_n hx hb dX9_glue_7 rfl (lv_at hl 2 rfl) ?_
    refine call_z (run_S (As := [.int (iI (a2))]) (rest := []) ⟨hx, hb, hml, hown, hts⟩ (ctX9_isMap l E a2 s1 _ ha2 h) (va_cwS 1 hts gX9_glue_X9_isMap rfl rfl rfl hdX9_isMap ⟨Nat.le_of_ble_eq_true rfl, Nat.le_of_ble_eq_true rfl⟩) hK hN hg rfl hl.1 rfl (cat_sum _ (by simp)) dX9_glue_8 ⟨Nat.le_refl 0, Nat.le_refl 0⟩) hg (fun r9 s8 H locs hz10 hm2 h hg => ?_)
    have hm := hm.tn hm2
    refine k_eq (tgt := 19) hx hb dX9_glue_11 (by decide) (z_R hz10) (fun c11 => ?_) (fun c11 => ?_)
    · have h := h.1 c11
      refine lv_aload_n hx hb dX9_glue_19 rfl (lv_at hl 0 rfl) ?_
      refine q_ldc (z := (-2000000002)) hx hb hown (hts (.constant RX9 61 (-2000000002)) (List.mem_cons_of_mem _ (List.mem_append_left _ (List.mem_append_left _ (List.mem_of_getElem? (i := 0) rfl))))) (by decide) dX9_glue_20 ?_
      refine call_i (run_V (a := ea E 21) (As := [.int (iI ((-2000000002)))]) (rest := []) ⟨hx, hb, hml, hown, hts⟩ (ctX9_refuses l E (-2000000002) s8 _ (by decide) h) (cwV 1 hts gX9_glue_X9_refuses rfl rfl rfl ⟨rfl, hdX9_refuses⟩ ⟨Nat.le_of_ble_eq_true rfl, Nat.le_of_ble_eq_true rfl⟩) hK hN hg (recv_x (ci := 9) (C := RX9) (T := TX9) (N := 27) hg hK (by decide) rfl (by decide) rfl) rfl hl.1 rfl (cat_sum _ (by simp)) dX9_glue_22 ⟨Nat.le_refl 0, Nat.le_refl 0⟩) hg (fun r13 s12 H locs hz14 hm2 h hg => ?_)
      have hm := hm.tn hm2
      exact ret_i hx hb hr hlocks hg hz14 hm h dX9_glue_25
    · have h := h.2 c11
      refine lv_iload_n hx hb dX9_glue_14 rfl (lv_at hl 1 rfl) ?_
      refine lv_iload_n hx hb dX9_glue_15 rfl (lv_at hl 2 rfl) ?_
      refine j_ne (tgt := 26) hx hb dX9_glue_16 (by decide) ha1 ha2 (fun c15 => ?_) (fun c15 => ?_)
      · have h := h.1 c15
        refine lv_aload_n hx hb dX9_glue_26 rfl (lv_at hl 0 rfl) ?_
        refine q_getx (ci := 9) (C := RX9) (T := TX9) (N := 27) (j := 23) hx hb hts (fun _ h9 => List.mem_cons_of_mem _ (List.mem_append_right _ h9)) hown hK hg 21 (by decide) rfl rfl (by decide) rfl 1 (by decide) (hts (.fieldLink RX9 13 "JoinMapsModel" "sizes" "[I") (List.mem_cons_of_mem _ (List.mem_append_left _ (List.mem_append_left _ (List.mem_of_getElem? (i := 1) rfl))))) rfl rfl rfl dX9_glue_27 ?_
        refine lv_iload_n hx hb dX9_glue_30 rfl (lv_at hl 1 rfl) ?_
        obtain ⟨hP16, hP17, h⟩ := h
        refine q_iald (N := 6) hx hb hK hg 23 (by decide) rfl rfl hP16 hP17 (by decide) dX9_glue_31 ?_
        have hR18 := GS_R hg 23 (a1 : Int).toNat
        refine k_le (tgt := 73) hx hb dX9_glue_32 (by decide) hR18 (fun c19 => ?_) (fun c19 => ?_)
        · have h := h.1 c19
          exact J73  (s8) _ _ _ hg hm (lv_sub hl [0, 1, 2] rfl) h
        · have h := h.2 c19
          refine lv_aload_n hx hb dX9_glue_35 rfl (lv_at hl 0 rfl) ?_
          refine q_getx (ci := 9) (C := RX9) (T := TX9) (N := 27) (j := 23) hx hb hts (fun _ h9 => List.mem_cons_of_mem _ (List.mem_append_right _ h9)) hown hK hg 21 (by decide) rfl rfl (by decide) rfl 1 (by decide) (hts (.fieldLink RX9 13 "JoinMapsModel" "sizes" "[I") (List.mem_cons_of_mem _ (List.mem_append_left _ (List.mem_append_left _ (List.mem_of_getElem? (i := 1) rfl))))) rfl rfl rfl dX9_glue_36 ?_
          refine lv_iload_n hx hb dX9_glue_39 rfl (lv_at hl 2 rfl) ?_
          obtain ⟨hP20, hP21, h⟩ := h
          refine q_iald (N := 6) hx hb hK hg 23 (by decide) rfl rfl hP20 hP21 (by decide) dX9_glue_40 ?_
          have hR22 := GS_R hg 23 (a2 : Int).toNat
          refine k_le (tgt := 73) hx hb dX9_glue_41 (by decide) hR22 (fun c23 => ?_) (fun c23 => ?_)
          · have h := h.1 c23
            exact J73  (s8) _ _ _ hg hm (lv_sub hl [0, 1, 2] rfl) h
          · have h := h.2 c23
            refine lv_aload_n hx hb dX9_glue_44 rfl (lv_at hl 0 rfl) ?_
            refine lv_iload_n hx hb dX9_glue_45 rfl (lv_at hl 1 rfl) ?_
            refine lv_aload_n hx hb dX9_glue_46 rfl (lv_at hl 0 rfl) ?_
            refine q_getx (ci := 9) (C := RX9) (T := TX9) (N := 27) (j := 23) hx hb hts (fun _ h9 => List.mem_cons_of_mem _ (List.mem_append_right _ h9)) hown hK hg 21 (by decide) rfl rfl (by decide) rfl 1 (by decide) (hts (.fieldLink RX9 13 "JoinMapsModel" "sizes" "[I") (List.mem_cons_of_mem _ (List.mem_append_left _ (List.mem_append_left _ (List.mem_of_getElem? (i := 1) rfl))))) rfl rfl rfl dX9_glue_47 ?_
            refine lv_iload_n hx hb dX9_glue_50 rfl (lv_at hl 1 rfl) ?_
            obtain ⟨hP24, hP25, h⟩ := h
            refine q_iald (N := 6) hx hb hK hg 23 (by decide) rfl rfl hP24 hP25 (by decide) dX9_glue_51 ?_
            have hR26 := GS_R hg 23 (a1 : Int).toNat
            refine lv_iconst (v := iI 1) hx hb dX9_glue_52 (by decide) ?_
            refine q_isub hx hb dX9_glue_53 ?_
            obtain ⟨hR27, h⟩ := h
            refine call_i (run_V (a := ea E 21) (As := [.int (iI (a1)), .int (iI (((sn s8 23 (a1 : Int).toNat) - 1)))]) (rest := []) ⟨hx, hb, hml, hown, hts⟩ (ctX9_keyAt l E a1 ((sn s8 23 (a1 : Int).toNat) - 1) s8 _ ha1 hR27 h) (cwV 2 hts gX9_glue_X9_keyAt rfl rfl rfl ⟨rfl, hdX9_keyAt⟩ ⟨Nat.le_of_ble_eq_true rfl, Nat.le_of_ble_eq_true rfl⟩) hK hN hg (recv_x (ci := 9) (C := RX9) (T := TX9) (N := 27) hg hK (by decide) rfl (by decide) rfl) rfl hl.1 rfl (cat_sum _ (by simp)) dX9_glue_54 ⟨Nat.le_refl 0, Nat.le_refl 0⟩) hg (fun r29 s28 H locs hz30 hm2 h hg => ?_)
            have hm := hm.tn hm2
            refine lv_aload_n hx hb dX9_glue_57 rfl (lv_at hl 0 rfl) ?_
            refine lv_iload_n hx hb dX9_glue_58 rfl (lv_at hl 2 rfl) ?_
            refine lv_iconst (v := iI 0) hx hb dX9_glue_59 (by decide) ?_
            refine call_i (run_V (a := ea E 21) (As := [.int (iI (a2)), .int (iI (0))]) (rest := [.int (iI (r29))]) ⟨hx, hb, hml, hown, hts⟩ (ctX9_keyAt l E a2 0 s28 _ ha2 (by decide) h) (cwV 2 hts gX9_glue_X9_keyAt rfl rfl rfl ⟨rfl, hdX9_keyAt⟩ ⟨Nat.le_of_ble_eq_true rfl, Nat.le_of_ble_eq_true rfl⟩) hK hN hg (recv_x (ci := 9) (C := RX9) (T := TX9) (N := 27) hg hK (by decide) rfl (by decide) rfl) rfl hl.1 rfl (cat_sum _ (by simp)) dX9_glue_60 ⟨Nat.le_refl 0, Nat.le_refl 0⟩) hg (fun r32 s31 H locs hz33 hm2 h hg => ?_)
            have hm := hm.tn hm2
            refine j_lt (tgt := 73) hx hb dX9_glue_63 (by decide) hz30 hz33 (fun c34 => ?_) (fun c34 => ?_)
            · have h := h.1 c34
              exact J73  (s31) _ _ _ hg hm (lv_sub hl [0, 1, 2] rfl) h
            · have h := h.2 c34
              refine lv_aload_n hx hb dX9_glue_66 rfl (lv_at hl 0 rfl) ?_
              refine q_ldc (z := (-2000000003)) hx hb hown (hts (.constant RX9 125 (-2000000003)) (List.mem_cons_of_mem _ (List.mem_append_left _ (List.mem_append_left _ (List.mem_of_getElem? (i := 2) rfl))))) (by decide) dX9_glue_67 ?_
              refine call_i (run_V (a := ea E 21) (As := [.int (iI ((-2000000003)))]) (rest := []) ⟨hx, hb, hml, hown, hts⟩ (ctX9_refuses l E (-2000000003) s31 _ (by decide) h) (cwV 1 hts gX9_glue_X9_refuses rfl rfl rfl ⟨rfl, hdX9_refuses⟩ ⟨Nat.le_of_ble_eq_true rfl, Nat.le_of_ble_eq_true rfl⟩) hK hN hg (recv_x (ci := 9) (C := RX9) (T := TX9) (N := 27) hg hK (by decide) rfl (by decide) rfl) rfl hl.1 rfl (cat_sum _ (by simp)) dX9_glue_69 ⟨Nat.le_refl 0, Nat.le_refl 0⟩) hg (fun r36 s35 H locs hz37 hm2 h hg => ?_)
              have hm := hm.tn hm2
              exact ret_i hx hb hr hlocks hg hz37 hm h dX9_glue_72
      · have h := h.2 c15
        refine lv_aload_n hx hb dX9_glue_19 rfl (lv_at hl 0 rfl) ?_
        refine q_ldc (z := (-2000000002)) hx hb hown (hts (.constant RX9 61 (-2000000002)) (List.mem_cons_of_mem _ (List.mem_append_left _ (List.mem_append_left _ (List.mem_of_getElem? (i := 0) rfl))))) (by decide) dX9_glue_20 ?_
        refine call_i (run_V (a := ea E 21) (As := [.int (iI ((-2000000002)))]) (rest := []) ⟨hx, hb, hml, hown, hts⟩ (ctX9_refuses l E (-2000000002) s8 _ (by decide) h) (cwV 1 hts gX9_glue_X9_refuses rfl rfl rfl ⟨rfl, hdX9_refuses⟩ ⟨Nat.le_of_ble_eq_true rfl, Nat.le_of_ble_eq_true rfl⟩) hK hN hg (recv_x (ci := 9) (C := RX9) (T := TX9) (N := 27) hg hK (by decide) rfl (by decide) rfl) rfl hl.1 rfl (cat_sum _ (by simp)) dX9_glue_22 ⟨Nat.le_refl 0, Nat.le_refl 0⟩) hg (fun r39 s38 H locs hz40 hm2 h hg => ?_)
        have hm := hm.tn hm2
        exact ret_i hx hb hr hlocks hg hz40 hm h dX9_glue_25
theorem hdX9_share : yX9_share.cls ≠ "java/lang/invoke/MethodHandle" ∧ yX9_share.cls ≠ "java/lang/invoke/VarHandle" ∧ (parseMethodDescriptor yX9_share.desc).map (fun d => d.parameters.length) = some 2 := by decide +kernel
set_option maxRecDepth 100000 in
set_option maxHeartbeats 4000000 in
theorem ctX9_share (l : Launch) (E : Ev) (a1 : Int) (a2 : Int) (σ : SS) (Q : Int → SS → Prop) (ha1 : R32 a1) (ha2 : R32 a2) (h : wX9_share a1 a2 σ Q) : Met l yX9_share wsX9_share ({ frames := 2, cells := 0, slots := 0, locals := 45 } : Room) (Pc E σ [.ref (ea E 21), .int (iI (a1)), .int (iI (a2))]) (Qi E (sz σ) σ Q) 0 0 (Av E) := by
  rw [wX9_share] at h
  refine Met.ofW (cc := cX9_share) (maxL := 3) (ret := (some .int)) (by decide) rfl ?_
  intro p e s m args below meth c s₁ B hml hv
  obtain ⟨rfl, hH, hK, hN⟩ := hv
  have hx := B.exec
  have hb := B.bytes
  have hr := B.returns
  have hts := atoms_spec (ws := wsX9_share) B.pre
  have hown : s.vm.findClass RX9 = some m.cls := findClass_of_methodNamed B.named
  have hlocks := B.notSynchronized
  have hg : GS E σ s s.heap [] := ⟨hH, va_S.rf⟩
  have hm : Mo (sz σ) σ σ := Mo.rf (Nat.le_refl _)
  have hl := ent (vs := [.ref (ea E 21), .int (iI (a1)), .int (iI (a2))]) (n := 3) (cats_x (cats_i (cats_i cats_nil))) (Nat.le_of_ble_eq_true rfl)
  rw [lg_entry_eq]
  generalize (lg_sl ([.ref (ea E 21), .int (iI (a1)), .int (iI (a2))]) ++ List.replicate (3 - (lg_sl ([.ref (ea E 21), .int (iI (a1)), .int (iI (a2))])).length) Slot.unset).toArray = ls at hl ⊢
  have hl : lv_has ls 3 [(0, .ref (ea E 21)), (1, .int (iI (a1))), (2, .int (iI (a2)))] := hl
  refine lv_iload_n hx hb dX9_share_0 rfl (lv_at hl 1 rfl) ?_
  refine call_z (run_S (As := [.int (iI (a1))]) (rest := []) ⟨hx, hb, hml, hown, hts⟩ (ctX9_isMap l E a1 σ _ ha1 h) (va_cwS 1 hts gX9_share_X9_isMap rfl rfl rfl hdX9_isMap ⟨Nat.le_of_ble_eq_true rfl, Nat.le_of_ble_eq_true rfl⟩) hK hN hg rfl hl.1 rfl (cat_sum _ (by simp)) dX9_share_1 ⟨Nat.le_refl 0, Nat.le_refl 0⟩) hg (fun r2 s1 H locs hz3 hm2 h hg => ?_)
  have hm := hm.tn hm2
  refine k_eq (tgt := 14) hx hb dX9_share_4 (by decide) (z_R hz3) (fun c4 => ?_) (fun c4 => ?_)
  · have h := h.1 c4
    refine lv_aload_n hx hb dX9_share_14 rfl (lv_at hl 0 rfl) ?_
    refine q_ldc (z := (-2000000002)) hx hb hown (hts (.constant RX9 61 (-2000000002)) (List.mem_cons_of_mem _ (List.mem_append_left _ (List.mem_append_left _ (List.mem_of_getElem? (i := 0) rfl))))) (by decide) dX9_share_15 ?_
    refine call_i (run_V (a := ea E 21) (As := [.int (iI ((-2000000002)))]) (rest := []) ⟨hx, hb, hml, hown, hts⟩ (ctX9_refuses l E (-2000000002) s1 _ (by decide) h) (cwV 1 hts gX9_share_X9_refuses rfl rfl rfl ⟨rfl, hdX9_refuses⟩ ⟨Nat.le_of_ble_eq_true rfl, Nat.le_of_ble_eq_true rfl⟩) hK hN hg (recv_x (ci := 9) (C := RX9) (T := TX9) (N := 27) hg hK (by decide) rfl (by decide) rfl) rfl hl.1 rfl (cat_sum _ (by simp)) dX9_share_17 ⟨Nat.le_refl 0, Nat.le_refl 0⟩) hg (fun r6 s5 H locs hz7 hm2 h hg => ?_)
    have hm := hm.tn hm2
    exact ret_i hx hb hr hlocks hg hz7 hm h dX9_share_20
  · have h := h.2 c4
    refine lv_iload_n hx hb dX9_share_7 rfl (lv_at hl 2 rfl) ?_
    refine call_z (run_S (As := [.int (iI (a2))]) (rest := []) ⟨hx, hb, hml, hown, hts⟩ (ctX9_isMap l E a2 s1 _ ha2 h) (va_cwS 1 hts gX9_share_X9_isMap rfl rfl rfl hdX9_isMap ⟨Nat.le_of_ble_eq_true rfl, Nat.le_of_ble_eq_true rfl⟩) hK hN hg rfl hl.1 rfl (cat_sum _ (by simp)) dX9_share_8 ⟨Nat.le_refl 0, Nat.le_refl 0⟩) hg (fun r9 s8 H locs hz10 hm2 h hg => ?_)
    have hm := hm.tn hm2
    refine k_ne (tgt := 21) hx hb dX9_share_11 (by decide) (z_R hz10) (fun c11 => ?_) (fun c11 => ?_)
    · have h := h.1 c11
      refine lv_aload_n hx hb dX9_share_21 rfl (lv_at hl 0 rfl) ?_
      refine call_v (run_V (a := ea E 21) (As := []) (rest := []) ⟨hx, hb, hml, hown, hts⟩ (ctX9_keeps l E  s8 _  h) (cwV 0 hts gX9_share_X9_keeps rfl rfl rfl ⟨rfl, hdX9_keeps⟩ ⟨Nat.le_of_ble_eq_true rfl, Nat.le_of_ble_eq_true rfl⟩) hK hN hg (recv_x (ci := 9) (C := RX9) (T := TX9) (N := 27) hg hK (by decide) rfl (by decide) rfl) rfl hl.1 rfl (cat_sum _ (by simp)) dX9_share_22 ⟨Nat.le_refl 0, Nat.le_refl 0⟩) hg (fun s12 H locs hm2 h hg => ?_)
      have hm := hm.tn hm2
      refine lv_aload_n hx hb dX9_share_25 rfl (lv_at hl 0 rfl) ?_
      refine lv_iload_n hx hb dX9_share_26 rfl (lv_at hl 1 rfl) ?_
      refine lv_iconst (v := iI 0) hx hb dX9_share_27 (by decide) ?_
      refine lv_aload_n hx hb dX9_share_28 rfl (lv_at hl 0 rfl) ?_
      refine q_getx (ci := 9) (C := RX9) (T := TX9) (N := 27) (j := 23) hx hb hts (fun _ h9 => List.mem_cons_of_mem _ (List.mem_append_right _ h9)) hown hK hg 21 (by decide) rfl rfl (by decide) rfl 1 (by decide) (hts (.fieldLink RX9 13 "JoinMapsModel" "sizes" "[I") (List.mem_cons_of_mem _ (List.mem_append_left _ (List.mem_append_left _ (List.mem_of_getElem? (i := 1) rfl))))) rfl rfl rfl dX9_share_29 ?_
      refine lv_iload_n hx hb dX9_share_32 rfl (lv_at hl 1 rfl) ?_
      obtain ⟨hP15, hP16, h⟩ := h
      refine q_iald (N := 6) hx hb hK hg 23 (by decide) rfl rfl hP15 hP16 (by decide) dX9_share_33 ?_
      have hR17 := GS_R hg 23 (a1 : Int).toNat
      refine lv_iload_n hx hb dX9_share_34 rfl (lv_at hl 2 rfl) ?_
      refine call_v (run_V (a := ea E 21) (As := [.int (iI (a1)), .int (iI (0)), .int (iI ((sn s12 23 (a1 : Int).toNat))), .int (iI (a2))]) (rest := []) ⟨hx, hb, hml, hown, hts⟩ (ctX9_copies l E a1 0 (sn s12 23 (a1 : Int).toNat) a2 s12 _ ha1 (by decide) hR17 ha2 h) (cwV 4 hts gX9_share_X9_copies rfl rfl rfl ⟨rfl, hdX9_copies⟩ ⟨Nat.le_of_ble_eq_true rfl, Nat.le_of_ble_eq_true rfl⟩) hK hN hg (recv_x (ci := 9) (C := RX9) (T := TX9) (N := 27) hg hK (by decide) rfl (by decide) rfl) rfl hl.1 rfl (cat_sum _ (by simp)) dX9_share_35 ⟨Nat.le_refl 0, Nat.le_refl 0⟩) hg (fun s18 H locs hm2 h hg => ?_)
      have hm := hm.tn hm2
      refine lv_aload_n hx hb dX9_share_38 rfl (lv_at hl 0 rfl) ?_
      refine q_getx (ci := 9) (C := RX9) (T := TX9) (N := 27) (j := 23) hx hb hts (fun _ h9 => List.mem_cons_of_mem _ (List.mem_append_right _ h9)) hown hK hg 21 (by decide) rfl rfl (by decide) rfl 1 (by decide) (hts (.fieldLink RX9 13 "JoinMapsModel" "sizes" "[I") (List.mem_cons_of_mem _ (List.mem_append_left _ (List.mem_append_left _ (List.mem_of_getElem? (i := 1) rfl))))) rfl rfl rfl dX9_share_39 ?_
      refine lv_iload_n hx hb dX9_share_42 rfl (lv_at hl 2 rfl) ?_
      obtain ⟨hP21, hP22, h⟩ := h
      refine q_iald (N := 6) hx hb hK hg 23 (by decide) rfl rfl hP21 hP22 (by decide) dX9_share_43 ?_
      have hR23 := GS_R hg 23 (a2 : Int).toNat
      exact ret_i hx hb hr hlocks hg hR23 hm h dX9_share_44
    · have h := h.2 c11
      refine lv_aload_n hx hb dX9_share_14 rfl (lv_at hl 0 rfl) ?_
      refine q_ldc (z := (-2000000002)) hx hb hown (hts (.constant RX9 61 (-2000000002)) (List.mem_cons_of_mem _ (List.mem_append_left _ (List.mem_append_left _ (List.mem_of_getElem? (i := 0) rfl))))) (by decide) dX9_share_15 ?_
      refine call_i (run_V (a := ea E 21) (As := [.int (iI ((-2000000002)))]) (rest := []) ⟨hx, hb, hml, hown, hts⟩ (ctX9_refuses l E (-2000000002) s8 _ (by decide) h) (cwV 1 hts gX9_share_X9_refuses rfl rfl rfl ⟨rfl, hdX9_refuses⟩ ⟨Nat.le_of_ble_eq_true rfl, Nat.le_of_ble_eq_true rfl⟩) hK hN hg (recv_x (ci := 9) (C := RX9) (T := TX9) (N := 27) hg hK (by decide) rfl (by decide) rfl) rfl hl.1 rfl (cat_sum _ (by simp)) dX9_share_17 ⟨Nat.le_refl 0, Nat.le_refl 0⟩) hg (fun r25 s24 H locs hz26 hm2 h hg => ?_)
      have hm := hm.tn hm2
      exact ret_i hx hb hr hlocks hg hz26 hm h dX9_share_20
theorem hdX9_mixed : yX9_mixed.cls ≠ "java/lang/invoke/MethodHandle" ∧ yX9_mixed.cls ≠ "java/lang/invoke/VarHandle" ∧ (parseMethodDescriptor yX9_mixed.desc).map (fun d => d.parameters.length) = some 2 := by decide +kernel
set_option maxRecDepth 100000 in
set_option maxHeartbeats 4000000 in
theorem ctX9_mixed (l : Launch) (E : Ev) (a1 : Int) (a2 : Int) (σ : SS) (Q : Int → SS → Prop) (ha1 : R32 a1) (ha2 : R32 a2) (h : wX9_mixed a1 a2 σ Q) : Met l yX9_mixed wsX9_mixed ({ frames := 1, cells := 0, slots := 0, locals := 21 } : Room) (Pc E σ [.ref (ea E 21), .int (iI (a1)), .int (iI (a2))]) (Qi E (sz σ) σ Q) 0 0 (Av E) := by
  rw [wX9_mixed] at h
  refine Met.ofW (cc := cX9_mixed) (maxL := 3) (ret := (some .int)) (by decide) rfl ?_
  intro p e s m args below meth c s₁ B hml hv
  obtain ⟨rfl, hH, hK, hN⟩ := hv
  have hx := B.exec
  have hb := B.bytes
  have hr := B.returns
  have hts := atoms_spec (ws := wsX9_mixed) B.pre
  have hown : s.vm.findClass RX9 = some m.cls := findClass_of_methodNamed B.named
  have hlocks := B.notSynchronized
  have hg : GS E σ s s.heap [] := ⟨hH, va_S.rf⟩
  have hm : Mo (sz σ) σ σ := Mo.rf (Nat.le_refl _)
  have hl := ent (vs := [.ref (ea E 21), .int (iI (a1)), .int (iI (a2))]) (n := 3) (cats_x (cats_i (cats_i cats_nil))) (Nat.le_of_ble_eq_true rfl)
  rw [lg_entry_eq]
  generalize (lg_sl ([.ref (ea E 21), .int (iI (a1)), .int (iI (a2))]) ++ List.replicate (3 - (lg_sl ([.ref (ea E 21), .int (iI (a1)), .int (iI (a2))])).length) Slot.unset).toArray = ls at hl ⊢
  have hl : lv_has ls 3 [(0, .ref (ea E 21)), (1, .int (iI (a1))), (2, .int (iI (a2)))] := hl
  refine lv_aload_n hx hb dX9_mixed_0 rfl (lv_at hl 0 rfl) ?_
  refine q_geti (ci := 9) (C := RX9) (T := TX9) (N := 27) hx hb hts (fun _ h9 => List.mem_cons_of_mem _ (List.mem_append_right _ h9)) hown hK hg 21 (by decide) rfl rfl (by decide) rfl 9 (by decide) (hts (.fieldLink RX9 141 "JoinMapsModel" "mixer" "I") (List.mem_cons_of_mem _ (List.mem_append_left _ (List.mem_of_getElem? (i := 0) rfl)))) rfl rfl dX9_mixed_1 ?_
  have hR1 := GS_R hg 21 9
  rcases (show ((sn σ 21 9) < 0 ∨ 4 < (sn σ 21 9)) ∨ (sn σ 21 9) = 0 ∨ (sn σ 21 9) = 1 ∨ (sn σ 21 9) = 2 ∨ (sn σ 21 9) = 3 ∨ (sn σ 21 9) = 4 by omega) with c0 | c0 | c0 | c0 | c0 | c0
  · have h := h.1 c0
    refine lv_tableOut (tgt := 75) hx hb dX9_mixed_4 (by rw [iI_int hR1]; omega) (by decide) ?_
    refine lv_iload_n hx hb dX9_mixed_75 rfl (lv_at hl 1 rfl) ?_
    refine q_i2l hx hb ha1 dX9_mixed_76 ?_
    refine lv_iload_n hx hb dX9_mixed_77 rfl (lv_at hl 2 rfl) ?_
    refine q_i2l hx hb ha2 dX9_mixed_78 ?_
    refine q_ladd hx hb dX9_mixed_79 ?_
    obtain ⟨hR2, h⟩ := h
    refine call_i (run_S (As := [.long (lI ((a1 + a2)))]) (rest := []) ⟨hx, hb, hml, hown, hts⟩ (ctX9_held l E (a1 + a2) σ _ hR2 h) (va_cwS 1 hts gX9_mixed_X9_held rfl rfl rfl hdX9_held ⟨Nat.le_of_ble_eq_true rfl, Nat.le_of_ble_eq_true rfl⟩) hK hN hg rfl hl.1 rfl (cat_sum _ (by simp)) dX9_mixed_80 ⟨Nat.le_refl 0, Nat.le_refl 0⟩) hg (fun r4 s3 H locs hz5 hm2 h hg => ?_)
    have hm := hm.tn hm2
    refine q_i2l hx hb hz5 dX9_mixed_83 ?_
    refine q_ldc2 (z := 2) hx hb hown (hts (.constantLong RX9 148 (2)) (List.mem_cons_of_mem _ (List.mem_append_left _ (List.mem_of_getElem? (i := 1) rfl)))) (by decide) dX9_mixed_84 ?_
    refine lv_iload_n hx hb dX9_mixed_87 rfl (lv_at hl 2 rfl) ?_
    refine q_i2l hx hb ha2 dX9_mixed_88 ?_
    refine q_lmul hx hb dX9_mixed_89 ?_
    refine q_lsub hx hb dX9_mixed_90 ?_
    obtain ⟨hR6, h⟩ := h
    refine call_i (run_S (As := [.long (lI ((r4 - (2 * a2))))]) (rest := []) ⟨hx, hb, hml, hown, hts⟩ (ctX9_held l E (r4 - (2 * a2)) s3 _ hR6 h) (va_cwS 1 hts gX9_mixed_X9_held rfl rfl rfl hdX9_held ⟨Nat.le_of_ble_eq_true rfl, Nat.le_of_ble_eq_true rfl⟩) hK hN hg rfl hl.1 rfl (cat_sum _ (by simp)) dX9_mixed_91 ⟨Nat.le_refl 0, Nat.le_refl 0⟩) hg (fun r8 s7 H locs hz9 hm2 h hg => ?_)
    have hm := hm.tn hm2
    exact ret_i hx hb hr hlocks hg hz9 hm h dX9_mixed_94
  · have h := h.2.1 c0
    refine lv_tableIn (off := 36) (tgt := 40) hx hb dX9_mixed_4 (by rw [iI_int hR1, c0]; decide) (by rw [iI_int hR1, c0]; decide) (by rw [iI_int hR1, c0]; rfl) (by decide) ?_
    refine lv_iload_n hx hb dX9_mixed_40 rfl (lv_at hl 1 rfl) ?_
    exact ret_i hx hb hr hlocks hg ha1 hm h dX9_mixed_41
  · have h := h.2.2.1 c0
    refine lv_tableIn (off := 38) (tgt := 42) hx hb dX9_mixed_4 (by rw [iI_int hR1, c0]; decide) (by rw [iI_int hR1, c0]; decide) (by rw [iI_int hR1, c0]; rfl) (by decide) ?_
    refine lv_iload_n hx hb dX9_mixed_42 rfl (lv_at hl 2 rfl) ?_
    exact ret_i hx hb hr hlocks hg ha2 hm h dX9_mixed_43
  · have h := h.2.2.2.1 c0
    refine lv_tableIn (off := 40) (tgt := 44) hx hb dX9_mixed_4 (by rw [iI_int hR1, c0]; decide) (by rw [iI_int hR1, c0]; decide) (by rw [iI_int hR1, c0]; rfl) (by decide) ?_
    refine lv_iload_n hx hb dX9_mixed_44 rfl (lv_at hl 1 rfl) ?_
    refine q_i2l hx hb ha1 dX9_mixed_45 ?_
    refine lv_iload_n hx hb dX9_mixed_46 rfl (lv_at hl 2 rfl) ?_
    refine q_i2l hx hb ha2 dX9_mixed_47 ?_
    refine q_ladd hx hb dX9_mixed_48 ?_
    obtain ⟨hR10, h⟩ := h
    refine call_i (run_S (As := [.long (lI ((a1 + a2)))]) (rest := []) ⟨hx, hb, hml, hown, hts⟩ (ctX9_held l E (a1 + a2) σ _ hR10 h) (va_cwS 1 hts gX9_mixed_X9_held rfl rfl rfl hdX9_held ⟨Nat.le_of_ble_eq_true rfl, Nat.le_of_ble_eq_true rfl⟩) hK hN hg rfl hl.1 rfl (cat_sum _ (by simp)) dX9_mixed_49 ⟨Nat.le_refl 0, Nat.le_refl 0⟩) hg (fun r12 s11 H locs hz13 hm2 h hg => ?_)
    have hm := hm.tn hm2
    exact ret_i hx hb hr hlocks hg hz13 hm h dX9_mixed_52
  · have h := h.2.2.2.2.1 c0
    refine lv_tableIn (off := 49) (tgt := 53) hx hb dX9_mixed_4 (by rw [iI_int hR1, c0]; decide) (by rw [iI_int hR1, c0]; decide) (by rw [iI_int hR1, c0]; rfl) (by decide) ?_
    refine lv_iload_n hx hb dX9_mixed_53 rfl (lv_at hl 1 rfl) ?_
    refine lv_iload_n hx hb dX9_mixed_54 rfl (lv_at hl 2 rfl) ?_
    refine j_le (tgt := 62) hx hb dX9_mixed_55 (by decide) ha1 ha2 (fun c14 => ?_) (fun c14 => ?_)
    · have h := h.1 c14
      refine lv_iload_n hx hb dX9_mixed_62 rfl (lv_at hl 2 rfl) ?_
      exact ret_i hx hb hr hlocks hg ha2 hm h dX9_mixed_63
    · have h := h.2 c14
      refine lv_iload_n hx hb dX9_mixed_58 rfl (lv_at hl 1 rfl) ?_
      refine lv_goto (tgt := 63) hx hb dX9_mixed_59 (by decide) ?_
      exact ret_i hx hb hr hlocks hg ha1 hm h dX9_mixed_63
  · have h := h.2.2.2.2.2 c0
    refine lv_tableIn (off := 60) (tgt := 64) hx hb dX9_mixed_4 (by rw [iI_int hR1, c0]; decide) (by rw [iI_int hR1, c0]; decide) (by rw [iI_int hR1, c0]; rfl) (by decide) ?_
    refine lv_iload_n hx hb dX9_mixed_64 rfl (lv_at hl 1 rfl) ?_
    refine lv_iload_n hx hb dX9_mixed_65 rfl (lv_at hl 2 rfl) ?_
    refine j_ge (tgt := 73) hx hb dX9_mixed_66 (by decide) ha1 ha2 (fun c15 => ?_) (fun c15 => ?_)
    · have h := h.1 c15
      refine lv_iload_n hx hb dX9_mixed_73 rfl (lv_at hl 2 rfl) ?_
      exact ret_i hx hb hr hlocks hg ha2 hm h dX9_mixed_74
    · have h := h.2 c15
      refine lv_iload_n hx hb dX9_mixed_69 rfl (lv_at hl 1 rfl) ?_
      refine lv_goto (tgt := 74) hx hb dX9_mixed_70 (by decide) ?_
      exact ret_i hx hb hr hlocks hg ha1 hm h dX9_mixed_74
