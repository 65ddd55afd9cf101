theorem hdX8_slide : yX8_slide.cls ≠ "java/lang/invoke/MethodHandle" ∧ yX8_slide.cls ≠ "java/lang/invoke/VarHandle" ∧ (parseMethodDescriptor yX8_slide.desc).map (fun d => d.parameters.length) = some 2 := by decide +kernel
set_option maxRecDepth 100000 in
set_option maxHeartbeats 4000000 in
theorem ctX8_slide (l : Launch) (E : Ev) (tp : Nat) (a1 : Int) (a2 : Int) (σ : SS) (Q : Int → SS → Prop) (ha1 : R32 a1) (ha2 : R32 a2) (ht : sz σ ≤ tp) (h : wX8_slide tp a1 a2 σ Q) : Met l yX8_slide wsX8_slide ({ frames := 95, cells := tp - sz σ, slots := 9 * (tp - sz σ), locals := 2565 } : Room) (Pc E σ [.ref (ea E 0), .int (iI (a1)), .int (iI (a2))]) (Qi E tp σ Q) (tp - sz σ) (9 * (tp - sz σ)) (Av E) := by
  rw [wX8_slide] at h
  refine Met.ofW (cc := cX8_slide) (maxL := 5) (ret := (some .int)) (by decide) rfl ?_
  intro p e s m args below meth c s₁ B hml hv
  obtain ⟨rfl, hH, hK, hN⟩ := hv
  have hx := B.exec
  have hb := B.bytes
  have hr := B.returns
  have hts := atoms_spec (ws := wsX8_slide) B.pre
  have hown : s.vm.findClass RX8 = some m.cls := findClass_of_methodNamed B.named
  have hlocks := B.notSynchronized
  have hg : GS E σ s s.heap [] := ⟨hH, va_S.rf⟩
  have hm : Mo tp σ σ := Mo.rf ht
  have hl := ent (vs := [.ref (ea E 0), .int (iI (a1)), .int (iI (a2))]) (n := 5) (cats_x (cats_i (cats_i cats_nil))) (Nat.le_of_ble_eq_true rfl)
  rw [lg_entry_eq]
  generalize (lg_sl ([.ref (ea E 0), .int (iI (a1)), .int (iI (a2))]) ++ List.replicate (5 - (lg_sl ([.ref (ea E 0), .int (iI (a1)), .int (iI (a2))])).length) Slot.unset).toArray = ls at hl ⊢
  have hl : lv_has ls 5 [(0, .ref (ea E 0)), (1, .int (iI (a1))), (2, .int (iI (a2)))] := hl
  refine W_narrow hg hH (show sz σ ≤ sz σ + (sz σ - sz σ) by omega) (show 9 * (sz σ - sz σ) ≤ 9 * (sz σ - sz σ) from Nat.le_refl _) ?_
  have J105 : ∀ (k : Nat), ∀ (v4 : Int) (sL : SS) (H : Heap) (locs : List Loc) (ls : Array Slot), GS E sL s H locs → Mo tp σ sL → lv_has ls 5 [(0, .ref (ea E 0)), (1, .int (iI (a1))), (2, .int (iI (a2))), (4, .int (iI (v4)))] → wX8_slide_L105 tp a1 a2 Q  k v4 sL → W p l e (headSpec wsX8_slide ({ frames := 95, cells := tp - sz σ, slots := 9 * (tp - sz σ), locals := 2565 } : Room)).room s m (List.toArray [.ref (ea E 0), .int (iI (a1)), .int (iI (a2))]) below meth c H locs (sz sL - sz σ) (9 * (sz sL - sz σ)) (MQ below (Qi E tp σ Q) (List.toArray [.ref (ea E 0), .int (iI (a1)), .int (iI (a2))]) s (tp - sz σ) (9 * (tp - sz σ)) (Av E)) (F0 m 105 ls []) := by
    intro k
    induction k with
    | zero => intro v4 sL H locs ls hg hm hl h; exact False.elim h
    | succ k ih =>
      intro v4 sL H locs ls hg hm hl h
      rw [wX8_slide_L105] at h
      refine lv_iload hx hb dX8_slide_105 (lv_at hl 3 rfl) ?_
      refine lv_aload_n hx hb dX8_slide_107 rfl (lv_at hl 0 rfl) ?_
      refine q_getx (ci := 8) (C := RX8) (T := TX8) (N := 14) (j := 15) hx hb hts (fun _ h9 => List.mem_cons_of_mem _ (List.mem_append_left _ (List.mem_append_left _ (List.mem_append_left _ (List.mem_append_left _ (List.mem_append_left _ (List.mem_append_right _ h9))))))) hown hK hg 0 (by decide) rfl rfl (by decide) rfl 8 (by decide) (hts (.fieldLink RX8 70 "JoinMaps" "first" "LJoinMaps$Row;") (List.mem_cons_of_mem _ (List.mem_append_left _ (List.mem_append_left _ (List.mem_append_left _ (List.mem_append_left _ (List.mem_append_left _ (List.mem_append_left _ (List.mem_append_left _ (List.mem_of_getElem? (i := 1) rfl)))))))))) rfl rfl rfl dX8_slide_108 ?_
      refine q_geti (ci := 6) (C := RX6) (T := TX6) (N := 3) hx hb hts (fun _ h9 => List.mem_cons_of_mem _ (List.mem_append_left _ (List.mem_append_left _ (List.mem_append_left _ (List.mem_append_left _ (List.mem_append_right _ h9)))))) hown hK hg 15 (by decide) rfl rfl (by decide) rfl 2 (by decide) (hts (.fieldLink RX8 155 "JoinMaps$Row" "length" "I") (List.mem_cons_of_mem _ (List.mem_append_left _ (List.mem_append_left _ (List.mem_append_left _ (List.mem_append_left _ (List.mem_append_left _ (List.mem_append_left _ (List.mem_append_left _ (List.mem_of_getElem? (i := 3) rfl)))))))))) rfl rfl dX8_slide_111 ?_
      have hR69 := GS_R hg 15 2
      obtain ⟨hR70, h⟩ := h
      refine j_ge (tgt := 150) hx hb dX8_slide_114 (by decide) hR70 hR69 (fun c71 => ?_) (fun c71 => ?_)
      · have h := h.1 c71
        refine lv_aload_n hx hb dX8_slide_150 rfl (lv_at hl 0 rfl) ?_
        refine lv_iload_n hx hb dX8_slide_151 rfl (lv_at hl 1 rfl) ?_
        refine lv_aload_n hx hb dX8_slide_152 rfl (lv_at hl 0 rfl) ?_
        refine q_getx (ci := 8) (C := RX8) (T := TX8) (N := 14) (j := 18) hx hb hts (fun _ h9 => List.mem_cons_of_mem _ (List.mem_append_left _ (List.mem_append_left _ (List.mem_append_left _ (List.mem_append_left _ (List.mem_append_left _ (List.mem_append_right _ h9))))))) hown hK hg 0 (by decide) rfl rfl (by decide) rfl 9 (by decide) (hts (.fieldLink RX8 74 "JoinMaps" "second" "LJoinMaps$Row;") (List.mem_cons_of_mem _ (List.mem_append_left _ (List.mem_append_left _ (List.mem_append_left _ (List.mem_append_left _ (List.mem_append_left _ (List.mem_append_left _ (List.mem_append_left _ (List.mem_of_getElem? (i := 2) rfl)))))))))) rfl rfl rfl dX8_slide_153 ?_
        refine call_i (run_V (a := ea E 0) (As := [.int (iI (a1)), .ref (ea E 18)]) (rest := []) ⟨hx, hb, hml, hown, hts⟩ (ctX8_settleRow l E tp a1 18 sL _ ha1 (by decide) hm.2.2 h) (cwV 2 hts gX8_slide_X8_settleRow rfl rfl rfl ⟨rfl, hdX8_settleRow⟩ ⟨Nat.le_of_ble_eq_true rfl, Nat.le_of_ble_eq_true rfl⟩) hK hN hg (recv_x (ci := 8) (C := RX8) (T := TX8) (N := 14) hg hK (by decide) rfl (by decide) rfl) rfl hl.1 rfl (cat_sum _ (by simp)) dX8_slide_156 (show (sz sL - sz σ) + (tp - sz sL) ≤ tp - sz σ ∧ 9 * (sz sL - sz σ) + 9 * (tp - sz sL) ≤ 9 * (tp - sz σ) by have q1 := hm.2.1; have q2 := hm.2.2; omega)) hg (fun r73 s72 H locs hz74 hm2 h hg => ?_)
        have hm := hm.ta hm2
        refine W_narrow hg hH (show sz s72 ≤ sz σ + (sz s72 - sz σ) by have q1 := hm.2.1; omega) (Nat.le_refl _) ?_
        refine W.widen (k := tp - sz σ) (n := 9 * (tp - sz σ)) (show sz s72 - sz σ ≤ _ by have q1 := hm.2.2; omega) (show 9 * (sz s72 - sz σ) ≤ _ by have q1 := hm.2.2; omega) ?_
        exact ret_i hx hb hr hlocks hg hz74 hm h dX8_slide_159
      · have h := h.2 c71
        refine lv_aload_n hx hb dX8_slide_117 rfl (lv_at hl 0 rfl) ?_
        refine q_getx (ci := 8) (C := RX8) (T := TX8) (N := 14) (j := 18) hx hb hts (fun _ h9 => List.mem_cons_of_mem _ (List.mem_append_left _ (List.mem_append_left _ (List.mem_append_left _ (List.mem_append_left _ (List.mem_append_left _ (List.mem_append_right _ h9))))))) hown hK hg 0 (by decide) rfl rfl (by decide) rfl 9 (by decide) (hts (.fieldLink RX8 74 "JoinMaps" "second" "LJoinMaps$Row;") (List.mem_cons_of_mem _ (List.mem_append_left _ (List.mem_append_left _ (List.mem_append_left _ (List.mem_append_left _ (List.mem_append_left _ (List.mem_append_left _ (List.mem_append_left _ (List.mem_of_getElem? (i := 2) rfl)))))))))) rfl rfl rfl dX8_slide_118 ?_
        refine lv_aload_n hx hb dX8_slide_121 rfl (lv_at hl 0 rfl) ?_
        refine q_getx (ci := 8) (C := RX8) (T := TX8) (N := 14) (j := 15) hx hb hts (fun _ h9 => List.mem_cons_of_mem _ (List.mem_append_left _ (List.mem_append_left _ (List.mem_append_left _ (List.mem_append_left _ (List.mem_append_left _ (List.mem_append_right _ h9))))))) hown hK hg 0 (by decide) rfl rfl (by decide) rfl 8 (by decide) (hts (.fieldLink RX8 70 "JoinMaps" "first" "LJoinMaps$Row;") (List.mem_cons_of_mem _ (List.mem_append_left _ (List.mem_append_left _ (List.mem_append_left _ (List.mem_append_left _ (List.mem_append_left _ (List.mem_append_left _ (List.mem_append_left _ (List.mem_of_getElem? (i := 1) rfl)))))))))) rfl rfl rfl dX8_slide_122 ?_
        refine lv_iload hx hb dX8_slide_125 (lv_at hl 3 rfl) ?_
        refine call_i (run_V (a := ea E 15) (As := [.int (iI (v4))]) (rest := [.ref (ea E 18)]) ⟨hx, hb, hml, hown, hts⟩ (ctX6_keyAt l E 15 v4 sL _ (by decide) hR70 h) (cwV 1 hts gX8_slide_X6_keyAt rfl rfl rfl ⟨rfl, hdX6_keyAt⟩ ⟨Nat.le_of_ble_eq_true rfl, Nat.le_of_ble_eq_true rfl⟩) hK hN hg (recv_x (ci := 6) (C := RX6) (T := TX6) (N := 3) hg hK (by decide) rfl (by decide) rfl) rfl hl.1 rfl (cat_sum _ (by simp)) dX8_slide_127 (show (sz sL - sz σ) + 0 ≤ tp - sz σ ∧ 9 * (sz sL - sz σ) + 0 ≤ 9 * (tp - sz σ) by have q1 := hm.2.1; have q2 := hm.2.2; omega)) hg (fun r76 s75 H locs hz77 hm2 h hg => ?_)
        have hm := hm.tn hm2
        refine W_narrow hg hH (show sz s75 ≤ sz σ + (sz s75 - sz σ) by have q1 := hm.2.1; omega) (Nat.le_refl _) ?_
        refine lv_iload_n hx hb dX8_slide_130 rfl (lv_at hl 2 rfl) ?_
        refine q_iadd hx hb dX8_slide_131 ?_
        refine lv_aload_n hx hb dX8_slide_132 rfl (lv_at hl 0 rfl) ?_
        refine q_getx (ci := 8) (C := RX8) (T := TX8) (N := 14) (j := 15) hx hb hts (fun _ h9 => List.mem_cons_of_mem _ (List.mem_append_left _ (List.mem_append_left _ (List.mem_append_left _ (List.mem_append_left _ (List.mem_append_left _ (List.mem_append_right _ h9))))))) hown hK hg 0 (by decide) rfl rfl (by decide) rfl 8 (by decide) (hts (.fieldLink RX8 70 "JoinMaps" "first" "LJoinMaps$Row;") (List.mem_cons_of_mem _ (List.mem_append_left _ (List.mem_append_left _ (List.mem_append_left _ (List.mem_append_left _ (List.mem_append_left _ (List.mem_append_left _ (List.mem_append_left _ (List.mem_of_getElem? (i := 1) rfl)))))))))) rfl rfl rfl dX8_slide_133 ?_
        refine lv_iload hx hb dX8_slide_136 (lv_at hl 3 rfl) ?_
        refine call_i (run_V (a := ea E 15) (As := [.int (iI (v4))]) (rest := [.int (iI ((r76 + a2))), .ref (ea E 18)]) ⟨hx, hb, hml, hown, hts⟩ (ctX6_valueAt l E 15 v4 s75 _ (by decide) hR70 h) (cwV 1 hts gX8_slide_X6_valueAt rfl rfl rfl ⟨rfl, hdX6_valueAt⟩ ⟨Nat.le_of_ble_eq_true rfl, Nat.le_of_ble_eq_true rfl⟩) hK hN hg (recv_x (ci := 6) (C := RX6) (T := TX6) (N := 3) hg hK (by decide) rfl (by decide) rfl) rfl hl.1 rfl (cat_sum _ (by simp)) dX8_slide_138 (show (sz s75 - sz σ) + 0 ≤ tp - sz σ ∧ 9 * (sz s75 - sz σ) + 0 ≤ 9 * (tp - sz σ) by have q1 := hm.2.1; have q2 := hm.2.2; omega)) hg (fun r79 s78 H locs hz80 hm2 h hg => ?_)
        have hm := hm.tn hm2
        refine W_narrow hg hH (show sz s78 ≤ sz σ + (sz s78 - sz σ) by have q1 := hm.2.1; omega) (Nat.le_refl _) ?_
        obtain ⟨hR81, h⟩ := h
        refine call_v (run_V (a := ea E 18) (As := [.int (iI ((r76 + a2))), .int (iI (r79))]) (rest := []) ⟨hx, hb, hml, hown, hts⟩ (ctX6_add l E 18 (r76 + a2) r79 s78 _ (by decide) hR81 hz80 h) (cwV 2 hts gX8_slide_X6_add rfl rfl rfl ⟨rfl, hdX6_add⟩ ⟨Nat.le_of_ble_eq_true rfl, Nat.le_of_ble_eq_true rfl⟩) hK hN hg (recv_x (ci := 6) (C := RX6) (T := TX6) (N := 3) hg hK (by decide) rfl (by decide) rfl) rfl hl.1 rfl (cat_sum _ (by simp)) dX8_slide_141 (show (sz s78 - sz σ) + 0 ≤ tp - sz σ ∧ 9 * (sz s78 - sz σ) + 0 ≤ 9 * (tp - sz σ) by have q1 := hm.2.1; have q2 := hm.2.2; omega)) hg (fun s82 H locs hm2 h hg => ?_)
        have hm := hm.tn hm2
        refine W_narrow hg hH (show sz s82 ≤ sz σ + (sz s82 - sz σ) by have q1 := hm.2.1; omega) (Nat.le_refl _) ?_
        refine lv_iinc (v := iI (v4 + 1)) (lv' := [(4, .int (iI (v4 + 1))), (0, .ref (ea E 0)), (1, .int (iI (a1))), (2, .int (iI (a2)))]) hx hb dX8_slide_144 hl (k := 3) rfl (iI_add _ _) (by decide) rfl (fun ls hl => ?_)
        refine lv_goto (tgt := 105) hx hb dX8_slide_147 (by decide) ?_
        exact ih (v4 + 1) (s82) _ _ _ hg hm (lv_sub hl [1, 2, 3, 0] rfl) h
  refine lv_iload_n hx hb dX8_slide_0 rfl (lv_at hl 1 rfl) ?_
  refine call_z (run_S (As := [.int (iI (a1))]) (rest := []) ⟨hx, hb, hml, hown, hts⟩ (ctX8_isMap l E a1 σ _ ha1 h) (va_cwS 1 hts gX8_slide_X8_isMap rfl rfl rfl hdX8_isMap ⟨Nat.le_of_ble_eq_true rfl, Nat.le_of_ble_eq_true rfl⟩) hK hN hg rfl hl.1 rfl (cat_sum _ (by simp)) dX8_slide_1 (show (sz σ - sz σ) + 0 ≤ tp - sz σ ∧ 9 * (sz σ - sz σ) + 0 ≤ 9 * (tp - sz σ) by have q1 := hm.2.1; have q2 := hm.2.2; omega)) hg (fun r2 s1 H locs hz3 hm2 h hg => ?_)
  have hm := hm.tn hm2
  refine W_narrow hg hH (show sz s1 ≤ sz σ + (sz s1 - sz σ) by have q1 := hm.2.1; omega) (Nat.le_refl _) ?_
  refine k_eq (tgt := 20) hx hb dX8_slide_4 (by decide) (z_R hz3) (fun c4 => ?_) (fun c4 => ?_)
  · have h := h.1 c4
    refine lv_aload_n hx hb dX8_slide_20 rfl (lv_at hl 0 rfl) ?_
    refine call_i (run_V (a := ea E 0) (As := []) (rest := []) ⟨hx, hb, hml, hown, hts⟩ (ctX8_bad l E  s1 _  h) (cwV 0 hts gX8_slide_X8_bad rfl rfl rfl ⟨rfl, hdX8_bad⟩ ⟨Nat.le_of_ble_eq_true rfl, Nat.le_of_ble_eq_true rfl⟩) hK hN hg (recv_x (ci := 8) (C := RX8) (T := TX8) (N := 14) hg hK (by decide) rfl (by decide) rfl) rfl hl.1 rfl (cat_sum _ (by simp)) dX8_slide_21 (show (sz s1 - sz σ) + 0 ≤ tp - sz σ ∧ 9 * (sz s1 - sz σ) + 0 ≤ 9 * (tp - sz σ) by have q1 := hm.2.1; have q2 := hm.2.2; omega)) hg (fun r6 s5 H locs hz7 hm2 h hg => ?_)
    have hm := hm.tn hm2
    refine W_narrow hg hH (show sz s5 ≤ sz σ + (sz s5 - sz σ) by have q1 := hm.2.1; omega) (Nat.le_refl _) ?_
    refine W.widen (k := tp - sz σ) (n := 9 * (tp - sz σ)) (show sz s5 - sz σ ≤ _ by have q1 := hm.2.2; omega) (show 9 * (sz s5 - sz σ) ≤ _ by have q1 := hm.2.2; omega) ?_
    exact ret_i hx hb hr hlocks hg hz7 hm h dX8_slide_24
  · have h := h.2 c4
    refine lv_iload_n hx hb dX8_slide_7 rfl (lv_at hl 2 rfl) ?_
    refine lv_sipush (v := iI (-1000)) hx hb dX8_slide_8 (by decide) ?_
    refine lv_sipush (v := iI 1000) hx hb dX8_slide_11 (by decide) ?_
    refine call_z (run_S (As := [.int (iI (a2)), .int (iI ((-1000))), .int (iI (1000))]) (rest := []) ⟨hx, hb, hml, hown, hts⟩ (ctX8_isIn l E a2 (-1000) 1000 s1 _ ha2 (by decide) (by decide) h) (va_cwS 3 hts gX8_slide_X8_isIn rfl rfl rfl hdX8_isIn ⟨Nat.le_of_ble_eq_true rfl, Nat.le_of_ble_eq_true rfl⟩) hK hN hg rfl hl.1 rfl (cat_sum _ (by simp)) dX8_slide_14 (show (sz s1 - sz σ) + 0 ≤ tp - sz σ ∧ 9 * (sz s1 - sz σ) + 0 ≤ 9 * (tp - sz σ) by have q1 := hm.2.1; have q2 := hm.2.2; omega)) hg (fun r9 s8 H locs hz10 hm2 h hg => ?_)
    have hm := hm.tn hm2
    refine W_narrow hg hH (show sz s8 ≤ sz σ + (sz s8 - sz σ) by have q1 := hm.2.1; omega) (Nat.le_refl _) ?_
    refine k_ne (tgt := 25) hx hb dX8_slide_17 (by decide) (z_R hz10) (fun c11 => ?_) (fun c11 => ?_)
    · have h := h.1 c11
      refine lv_aload_n hx hb dX8_slide_25 rfl (lv_at hl 0 rfl) ?_
      refine q_getx (ci := 8) (C := RX8) (T := TX8) (N := 14) (j := 3) hx hb hts (fun _ h9 => List.mem_cons_of_mem _ (List.mem_append_left _ (List.mem_append_left _ (List.mem_append_left _ (List.mem_append_left _ (List.mem_append_left _ (List.mem_append_right _ h9))))))) hown hK hg 0 (by decide) rfl rfl (by decide) rfl 2 (by decide) (hts (.fieldLink RX8 27 "JoinMaps" "maps" "[LJoinMaps$Node;") (List.mem_cons_of_mem _ (List.mem_append_left _ (List.mem_append_left _ (List.mem_append_left _ (List.mem_append_left _ (List.mem_append_left _ (List.mem_append_left _ (List.mem_append_left _ (List.mem_of_getElem? (i := 0) rfl)))))))))) rfl rfl rfl dX8_slide_26 ?_
      refine lv_iload_n hx hb dX8_slide_29 rfl (lv_at hl 1 rfl) ?_
      obtain ⟨hP12, hP13, h⟩ := h
      refine q_aald (N := 6) hx hb hK hg 3 (by decide) rfl rfl hP12 hP13 (by decide) dX8_slide_30 ?_
      have hS14 : ∀ b, (sf s8 3 (a1 : Int).toNat) = some b → sS s8 b := fun b h0 => GS_F hg h0
      refine call_i (run_S (As := [va_rf ((sf s8 3 (a1 : Int).toNat))]) (rest := []) ⟨hx, hb, hml, hown, hts⟩ (ctX3_countOf l E (sf s8 3 (a1 : Int).toNat) s8 _ hS14 h) (va_cwS 1 hts gX8_slide_X3_countOf rfl rfl rfl hdX3_countOf ⟨Nat.le_of_ble_eq_true rfl, Nat.le_of_ble_eq_true rfl⟩) hK hN hg rfl hl.1 rfl (cat_sum _ (by simp)) dX8_slide_31 (show (sz s8 - sz σ) + 0 ≤ tp - sz σ ∧ 9 * (sz s8 - sz σ) + 0 ≤ 9 * (tp - sz σ) by have q1 := hm.2.1; have q2 := hm.2.2; omega)) hg (fun r16 s15 H locs hz17 hm2 h hg => ?_)
      have hm := hm.tn hm2
      refine W_narrow hg hH (show sz s15 ≤ sz σ + (sz s15 - sz σ) by have q1 := hm.2.1; omega) (Nat.le_refl _) ?_
      refine lv_istore_n (i := 3) (lv' := [(3, .int (iI (r16))), (0, .ref (ea E 0)), (1, .int (iI (a1))), (2, .int (iI (a2)))]) hx hb dX8_slide_34 rfl hl (by decide) rfl (fun ls hl => ?_)
      refine lv_iload_n hx hb dX8_slide_35 rfl (lv_at hl 0 rfl) ?_
      refine k_le (tgt := 82) hx hb dX8_slide_36 (by decide) hz17 (fun c18 => ?_) (fun c18 => ?_)
      · have h := h.1 c18
        refine lv_aload_n hx hb dX8_slide_82 rfl (lv_at hl 1 rfl) ?_
        refine q_getx (ci := 8) (C := RX8) (T := TX8) (N := 14) (j := 15) hx hb hts (fun _ h9 => List.mem_cons_of_mem _ (List.mem_append_left _ (List.mem_append_left _ (List.mem_append_left _ (List.mem_append_left _ (List.mem_append_left _ (List.mem_append_right _ h9))))))) hown hK hg 0 (by decide) rfl rfl (by decide) rfl 8 (by decide) (hts (.fieldLink RX8 70 "JoinMaps" "first" "LJoinMaps$Row;") (List.mem_cons_of_mem _ (List.mem_append_left _ (List.mem_append_left _ (List.mem_append_left _ (List.mem_append_left _ (List.mem_append_left _ (List.mem_append_left _ (List.mem_append_left _ (List.mem_of_getElem? (i := 1) rfl)))))))))) rfl rfl rfl dX8_slide_83 ?_
        refine lv_aload_n hx hb dX8_slide_86 rfl (lv_at hl 1 rfl) ?_
        refine q_getx (ci := 8) (C := RX8) (T := TX8) (N := 14) (j := 3) hx hb hts (fun _ h9 => List.mem_cons_of_mem _ (List.mem_append_left _ (List.mem_append_left _ (List.mem_append_left _ (List.mem_append_left _ (List.mem_append_left _ (List.mem_append_right _ h9))))))) hown hK hg 0 (by decide) rfl rfl (by decide) rfl 2 (by decide) (hts (.fieldLink RX8 27 "JoinMaps" "maps" "[LJoinMaps$Node;") (List.mem_cons_of_mem _ (List.mem_append_left _ (List.mem_append_left _ (List.mem_append_left _ (List.mem_append_left _ (List.mem_append_left _ (List.mem_append_left _ (List.mem_append_left _ (List.mem_of_getElem? (i := 0) rfl)))))))))) rfl rfl rfl dX8_slide_87 ?_
        refine lv_iload_n hx hb dX8_slide_90 rfl (lv_at hl 2 rfl) ?_
        obtain ⟨hP19, hP20, h⟩ := h
        refine q_aald (N := 6) hx hb hK hg 3 (by decide) rfl rfl hP19 hP20 (by decide) dX8_slide_91 ?_
        have hS21 : ∀ b, (sf s15 3 (a1 : Int).toNat) = some b → sS s15 b := fun b h0 => GS_F hg h0
        refine call_v (run_V (a := ea E 15) (As := [va_rf ((sf s15 3 (a1 : Int).toNat))]) (rest := []) ⟨hx, hb, hml, hown, hts⟩ (ctX6_take l E 15 (sf s15 3 (a1 : Int).toNat) s15 _ (by decide) hS21 h) (cwV 1 hts gX8_slide_X6_take rfl rfl rfl ⟨rfl, hdX6_take⟩ ⟨Nat.le_of_ble_eq_true rfl, Nat.le_of_ble_eq_true rfl⟩) hK hN hg (recv_x (ci := 6) (C := RX6) (T := TX6) (N := 3) hg hK (by decide) rfl (by decide) rfl) rfl hl.1 rfl (cat_sum _ (by simp)) dX8_slide_92 (show (sz s15 - sz σ) + 0 ≤ tp - sz σ ∧ 9 * (sz s15 - sz σ) + 0 ≤ 9 * (tp - sz σ) by have q1 := hm.2.1; have q2 := hm.2.2; omega)) hg (fun s22 H locs hm2 h hg => ?_)
        have hm := hm.tn hm2
        refine W_narrow hg hH (show sz s22 ≤ sz σ + (sz s22 - sz σ) by have q1 := hm.2.1; omega) (Nat.le_refl _) ?_
        refine lv_aload_n hx hb dX8_slide_95 rfl (lv_at hl 1 rfl) ?_
        refine q_getx (ci := 8) (C := RX8) (T := TX8) (N := 14) (j := 18) hx hb hts (fun _ h9 => List.mem_cons_of_mem _ (List.mem_append_left _ (List.mem_append_left _ (List.mem_append_left _ (List.mem_append_left _ (List.mem_append_left _ (List.mem_append_right _ h9))))))) hown hK hg 0 (by decide) rfl rfl (by decide) rfl 9 (by decide) (hts (.fieldLink RX8 74 "JoinMaps" "second" "LJoinMaps$Row;") (List.mem_cons_of_mem _ (List.mem_append_left _ (List.mem_append_left _ (List.mem_append_left _ (List.mem_append_left _ (List.mem_append_left _ (List.mem_append_left _ (List.mem_append_left _ (List.mem_of_getElem? (i := 2) rfl)))))))))) rfl rfl rfl dX8_slide_96 ?_
        refine call_v (run_V (a := ea E 18) (As := []) (rest := []) ⟨hx, hb, hml, hown, hts⟩ (ctX6_empty l E 18 s22 _ (by decide) h) (cwV 0 hts gX8_slide_X6_empty rfl rfl rfl ⟨rfl, hdX6_empty⟩ ⟨Nat.le_of_ble_eq_true rfl, Nat.le_of_ble_eq_true rfl⟩) hK hN hg (recv_x (ci := 6) (C := RX6) (T := TX6) (N := 3) hg hK (by decide) rfl (by decide) rfl) rfl hl.1 rfl (cat_sum _ (by simp)) dX8_slide_99 (show (sz s22 - sz σ) + 0 ≤ tp - sz σ ∧ 9 * (sz s22 - sz σ) + 0 ≤ 9 * (tp - sz σ) by have q1 := hm.2.1; have q2 := hm.2.2; omega)) hg (fun s25 H locs hm2 h hg => ?_)
        have hm := hm.tn hm2
        refine W_narrow hg hH (show sz s25 ≤ sz σ + (sz s25 - sz σ) by have q1 := hm.2.1; omega) (Nat.le_refl _) ?_
        refine lv_iconst (v := iI 0) hx hb dX8_slide_102 (by decide) ?_
        refine lv_istore (i := 4) (lv' := [(4, .int (iI (0))), (3, .int (iI (r16))), (0, .ref (ea E 0)), (1, .int (iI (a1))), (2, .int (iI (a2)))]) hx hb dX8_slide_103 hl (by decide) rfl (fun ls hl => ?_)
        obtain ⟨kk, h⟩ := h
        exact J105  kk (0) (s25) _ _ _ hg hm (lv_sub hl [2, 3, 4, 0] rfl) h
      · have h := h.2 c18
        refine lv_aload_n hx hb dX8_slide_39 rfl (lv_at hl 1 rfl) ?_
        refine q_getx (ci := 8) (C := RX8) (T := TX8) (N := 14) (j := 3) hx hb hts (fun _ h9 => List.mem_cons_of_mem _ (List.mem_append_left _ (List.mem_append_left _ (List.mem_append_left _ (List.mem_append_left _ (List.mem_append_left _ (List.mem_append_right _ h9))))))) hown hK hg 0 (by decide) rfl rfl (by decide) rfl 2 (by decide) (hts (.fieldLink RX8 27 "JoinMaps" "maps" "[LJoinMaps$Node;") (List.mem_cons_of_mem _ (List.mem_append_left _ (List.mem_append_left _ (List.mem_append_left _ (List.mem_append_left _ (List.mem_append_left _ (List.mem_append_left _ (List.mem_append_left _ (List.mem_of_getElem? (i := 0) rfl)))))))))) rfl rfl rfl dX8_slide_40 ?_
        refine lv_iload_n hx hb dX8_slide_43 rfl (lv_at hl 2 rfl) ?_
        obtain ⟨hP28, hP29, h⟩ := h
        refine q_aald (N := 6) hx hb hK hg 3 (by decide) rfl rfl hP28 hP29 (by decide) dX8_slide_44 ?_
        have hS30 : ∀ b, (sf s15 3 (a1 : Int).toNat) = some b → sS s15 b := fun b h0 => GS_F hg h0
        refine lv_iconst (v := iI 0) hx hb dX8_slide_45 (by decide) ?_
        refine call_i (run_S (As := [va_rf ((sf s15 3 (a1 : Int).toNat)), .int (iI (0))]) (rest := []) ⟨hx, hb, hml, hown, hts⟩ (ctX3_keyAt l E (sf s15 3 (a1 : Int).toNat) 0 s15 _ hS30 (by decide) h) (va_cwS 2 hts gX8_slide_X3_keyAt rfl rfl rfl hdX3_keyAt ⟨Nat.le_of_ble_eq_true rfl, Nat.le_of_ble_eq_true rfl⟩) hK hN hg rfl hl.1 rfl (cat_sum _ (by simp)) dX8_slide_46 (show (sz s15 - sz σ) + 0 ≤ tp - sz σ ∧ 9 * (sz s15 - sz σ) + 0 ≤ 9 * (tp - sz σ) by have q1 := hm.2.1; have q2 := hm.2.2; omega)) hg (fun r32 s31 H locs hz33 hm2 h hg => ?_)
        have hm := hm.tn hm2
        refine W_narrow hg hH (show sz s31 ≤ sz σ + (sz s31 - sz σ) by have q1 := hm.2.1; omega) (Nat.le_refl _) ?_
        refine lv_iload_n hx hb dX8_slide_49 rfl (lv_at hl 3 rfl) ?_
        refine q_iadd hx hb dX8_slide_50 ?_
        obtain ⟨hR34, h⟩ := h
        refine call_z (run_S (As := [.int (iI ((r32 + a2)))]) (rest := []) ⟨hx, hb, hml, hown, hts⟩ (ctX8_isKey l E (r32 + a2) s31 _ hR34 h) (va_cwS 1 hts gX8_slide_X8_isKey rfl rfl rfl hdX8_isKey ⟨Nat.le_of_ble_eq_true rfl, Nat.le_of_ble_eq_true rfl⟩) hK hN hg rfl hl.1 rfl (cat_sum _ (by simp)) dX8_slide_51 (show (sz s31 - sz σ) + 0 ≤ tp - sz σ ∧ 9 * (sz s31 - sz σ) + 0 ≤ 9 * (tp - sz σ) by have q1 := hm.2.1; have q2 := hm.2.2; omega)) hg (fun r36 s35 H locs hz37 hm2 h hg => ?_)
        have hm := hm.tn hm2
        refine W_narrow hg hH (show sz s35 ≤ sz σ + (sz s35 - sz σ) by have q1 := hm.2.1; omega) (Nat.le_refl _) ?_
        refine k_eq (tgt := 77) hx hb dX8_slide_54 (by decide) (z_R hz37) (fun c38 => ?_) (fun c38 => ?_)
        · have h := h.1 c38
          refine lv_aload_n hx hb dX8_slide_77 rfl (lv_at hl 1 rfl) ?_
          refine call_i (run_V (a := ea E 0) (As := []) (rest := []) ⟨hx, hb, hml, hown, hts⟩ (ctX8_no l E  s35 _  h) (cwV 0 hts gX8_slide_X8_no rfl rfl rfl ⟨rfl, hdX8_no⟩ ⟨Nat.le_of_ble_eq_true rfl, Nat.le_of_ble_eq_true rfl⟩) hK hN hg (recv_x (ci := 8) (C := RX8) (T := TX8) (N := 14) hg hK (by decide) rfl (by decide) rfl) rfl hl.1 rfl (cat_sum _ (by simp)) dX8_slide_78 (show (sz s35 - sz σ) + 0 ≤ tp - sz σ ∧ 9 * (sz s35 - sz σ) + 0 ≤ 9 * (tp - sz σ) by have q1 := hm.2.1; have q2 := hm.2.2; omega)) hg (fun r40 s39 H locs hz41 hm2 h hg => ?_)
          have hm := hm.tn hm2
          refine W_narrow hg hH (show sz s39 ≤ sz σ + (sz s39 - sz σ) by have q1 := hm.2.1; omega) (Nat.le_refl _) ?_
          refine W.widen (k := tp - sz σ) (n := 9 * (tp - sz σ)) (show sz s39 - sz σ ≤ _ by have q1 := hm.2.2; omega) (show 9 * (sz s39 - sz σ) ≤ _ by have q1 := hm.2.2; omega) ?_
          exact ret_i hx hb hr hlocks hg hz41 hm h dX8_slide_81
        · have h := h.2 c38
          refine lv_aload_n hx hb dX8_slide_57 rfl (lv_at hl 1 rfl) ?_
          refine q_getx (ci := 8) (C := RX8) (T := TX8) (N := 14) (j := 3) hx hb hts (fun _ h9 => List.mem_cons_of_mem _ (List.mem_append_left _ (List.mem_append_left _ (List.mem_append_left _ (List.mem_append_left _ (List.mem_append_left _ (List.mem_append_right _ h9))))))) hown hK hg 0 (by decide) rfl rfl (by decide) rfl 2 (by decide) (hts (.fieldLink RX8 27 "JoinMaps" "maps" "[LJoinMaps$Node;") (List.mem_cons_of_mem _ (List.mem_append_left _ (List.mem_append_left _ (List.mem_append_left _ (List.mem_append_left _ (List.mem_append_left _ (List.mem_append_left _ (List.mem_append_left _ (List.mem_of_getElem? (i := 0) rfl)))))))))) rfl rfl rfl dX8_slide_58 ?_
          refine lv_iload_n hx hb dX8_slide_61 rfl (lv_at hl 2 rfl) ?_
          obtain ⟨hP42, hP43, h⟩ := h
          refine q_aald (N := 6) hx hb hK hg 3 (by decide) rfl rfl hP42 hP43 (by decide) dX8_slide_62 ?_
          have hS44 : ∀ b, (sf s35 3 (a1 : Int).toNat) = some b → sS s35 b := fun b h0 => GS_F hg h0
          refine lv_iload_n hx hb dX8_slide_63 rfl (lv_at hl 0 rfl) ?_
          refine lv_iconst (v := iI 1) hx hb dX8_slide_64 (by decide) ?_
          refine q_isub hx hb dX8_slide_65 ?_
          obtain ⟨hR45, h⟩ := h
          refine call_i (run_S (As := [va_rf ((sf s35 3 (a1 : Int).toNat)), .int (iI ((r16 - 1)))]) (rest := []) ⟨hx, hb, hml, hown, hts⟩ (ctX3_keyAt l E (sf s35 3 (a1 : Int).toNat) (r16 - 1) s35 _ hS44 hR45 h) (va_cwS 2 hts gX8_slide_X3_keyAt rfl rfl rfl hdX3_keyAt ⟨Nat.le_of_ble_eq_true rfl, Nat.le_of_ble_eq_true rfl⟩) hK hN hg rfl hl.1 rfl (cat_sum _ (by simp)) dX8_slide_66 (show (sz s35 - sz σ) + 0 ≤ tp - sz σ ∧ 9 * (sz s35 - sz σ) + 0 ≤ 9 * (tp - sz σ) by have q1 := hm.2.1; have q2 := hm.2.2; omega)) hg (fun r47 s46 H locs hz48 hm2 h hg => ?_)
          have hm := hm.tn hm2
          refine W_narrow hg hH (show sz s46 ≤ sz σ + (sz s46 - sz σ) by have q1 := hm.2.1; omega) (Nat.le_refl _) ?_
          refine lv_iload_n hx hb dX8_slide_69 rfl (lv_at hl 3 rfl) ?_
          refine q_iadd hx hb dX8_slide_70 ?_
          obtain ⟨hR49, h⟩ := h
          refine call_z (run_S (As := [.int (iI ((r47 + a2)))]) (rest := []) ⟨hx, hb, hml, hown, hts⟩ (ctX8_isKey l E (r47 + a2) s46 _ hR49 h) (va_cwS 1 hts gX8_slide_X8_isKey rfl rfl rfl hdX8_isKey ⟨Nat.le_of_ble_eq_true rfl, Nat.le_of_ble_eq_true rfl⟩) hK hN hg rfl hl.1 rfl (cat_sum _ (by simp)) dX8_slide_71 (show (sz s46 - sz σ) + 0 ≤ tp - sz σ ∧ 9 * (sz s46 - sz σ) + 0 ≤ 9 * (tp - sz σ) by have q1 := hm.2.1; have q2 := hm.2.2; omega)) hg (fun r51 s50 H locs hz52 hm2 h hg => ?_)
          have hm := hm.tn hm2
          refine W_narrow hg hH (show sz s50 ≤ sz σ + (sz s50 - sz σ) by have q1 := hm.2.1; omega) (Nat.le_refl _) ?_
          refine k_ne (tgt := 82) hx hb dX8_slide_74 (by decide) (z_R hz52) (fun c53 => ?_) (fun c53 => ?_)
          · have h := h.1 c53
            refine lv_aload_n hx hb dX8_slide_82 rfl (lv_at hl 1 rfl) ?_
            refine q_getx (ci := 8) (C := RX8) (T := TX8) (N := 14) (j := 15) hx hb hts (fun _ h9 => List.mem_cons_of_mem _ (List.mem_append_left _ (List.mem_append_left _ (List.mem_append_left _ (List.mem_append_left _ (List.mem_append_left _ (List.mem_append_right _ h9))))))) hown hK hg 0 (by decide) rfl rfl (by decide) rfl 8 (by decide) (hts (.fieldLink RX8 70 "JoinMaps" "first" "LJoinMaps$Row;") (List.mem_cons_of_mem _ (List.mem_append_left _ (List.mem_append_left _ (List.mem_append_left _ (List.mem_append_left _ (List.mem_append_left _ (List.mem_append_left _ (List.mem_append_left _ (List.mem_of_getElem? (i := 1) rfl)))))))))) rfl rfl rfl dX8_slide_83 ?_
            refine lv_aload_n hx hb dX8_slide_86 rfl (lv_at hl 1 rfl) ?_
            refine q_getx (ci := 8) (C := RX8) (T := TX8) (N := 14) (j := 3) hx hb hts (fun _ h9 => List.mem_cons_of_mem _ (List.mem_append_left _ (List.mem_append_left _ (List.mem_append_left _ (List.mem_append_left _ (List.mem_append_left _ (List.mem_append_right _ h9))))))) hown hK hg 0 (by decide) rfl rfl (by decide) rfl 2 (by decide) (hts (.fieldLink RX8 27 "JoinMaps" "maps" "[LJoinMaps$Node;") (List.mem_cons_of_mem _ (List.mem_append_left _ (List.mem_append_left _ (List.mem_append_left _ (List.mem_append_left _ (List.mem_append_left _ (List.mem_append_left _ (List.mem_append_left _ (List.mem_of_getElem? (i := 0) rfl)))))))))) rfl rfl rfl dX8_slide_87 ?_
            refine lv_iload_n hx hb dX8_slide_90 rfl (lv_at hl 2 rfl) ?_
            obtain ⟨hP54, hP55, h⟩ := h
            refine q_aald (N := 6) hx hb hK hg 3 (by decide) rfl rfl hP54 hP55 (by decide) dX8_slide_91 ?_
            have hS56 : ∀ b, (sf s50 3 (a1 : Int).toNat) = some b → sS s50 b := fun b h0 => GS_F hg h0
            refine call_v (run_V (a := ea E 15) (As := [va_rf ((sf s50 3 (a1 : Int).toNat))]) (rest := []) ⟨hx, hb, hml, hown, hts⟩ (ctX6_take l E 15 (sf s50 3 (a1 : Int).toNat) s50 _ (by decide) hS56 h) (cwV 1 hts gX8_slide_X6_take rfl rfl rfl ⟨rfl, hdX6_take⟩ ⟨Nat.le_of_ble_eq_true rfl, Nat.le_of_ble_eq_true rfl⟩) hK hN hg (recv_x (ci := 6) (C := RX6) (T := TX6) (N := 3) hg hK (by decide) rfl (by decide) rfl) rfl hl.1 rfl (cat_sum _ (by simp)) dX8_slide_92 (show (sz s50 - sz σ) + 0 ≤ tp - sz σ ∧ 9 * (sz s50 - sz σ) + 0 ≤ 9 * (tp - sz σ) by have q1 := hm.2.1; have q2 := hm.2.2; omega)) hg (fun s57 H locs hm2 h hg => ?_)
            have hm := hm.tn hm2
            refine W_narrow hg hH (show sz s57 ≤ sz σ + (sz s57 - sz σ) by have q1 := hm.2.1; omega) (Nat.le_refl _) ?_
            refine lv_aload_n hx hb dX8_slide_95 rfl (lv_at hl 1 rfl) ?_
            refine q_getx (ci := 8) (C := RX8) (T := TX8) (N := 14) (j := 18) hx hb hts (fun _ h9 => List.mem_cons_of_mem _ (List.mem_append_left _ (List.mem_append_left _ (List.mem_append_left _ (List.mem_append_left _ (List.mem_append_left _ (List.mem_append_right _ h9))))))) hown hK hg 0 (by decide) rfl rfl (by decide) rfl 9 (by decide) (hts (.fieldLink RX8 74 "JoinMaps" "second" "LJoinMaps$Row;") (List.mem_cons_of_mem _ (List.mem_append_left _ (List.mem_append_left _ (List.mem_append_left _ (List.mem_append_left _ (List.mem_append_left _ (List.mem_append_left _ (List.mem_append_left _ (List.mem_of_getElem? (i := 2) rfl)))))))))) rfl rfl rfl dX8_slide_96 ?_
            refine call_v (run_V (a := ea E 18) (As := []) (rest := []) ⟨hx, hb, hml, hown, hts⟩ (ctX6_empty l E 18 s57 _ (by decide) h) (cwV 0 hts gX8_slide_X6_empty rfl rfl rfl ⟨rfl, hdX6_empty⟩ ⟨Nat.le_of_ble_eq_true rfl, Nat.le_of_ble_eq_true rfl⟩) hK hN hg (recv_x (ci := 6) (C := RX6) (T := TX6) (N := 3) hg hK (by decide) rfl (by decide) rfl) rfl hl.1 rfl (cat_sum _ (by simp)) dX8_slide_99 (show (sz s57 - sz σ) + 0 ≤ tp - sz σ ∧ 9 * (sz s57 - sz σ) + 0 ≤ 9 * (tp - sz σ) by have q1 := hm.2.1; have q2 := hm.2.2; omega)) hg (fun s60 H locs hm2 h hg => ?_)
            have hm := hm.tn hm2
            refine W_narrow hg hH (show sz s60 ≤ sz σ + (sz s60 - sz σ) by have q1 := hm.2.1; omega) (Nat.le_refl _) ?_
            refine lv_iconst (v := iI 0) hx hb dX8_slide_102 (by decide) ?_
            refine lv_istore (i := 4) (lv' := [(4, .int (iI (0))), (3, .int (iI (r16))), (0, .ref (ea E 0)), (1, .int (iI (a1))), (2, .int (iI (a2)))]) hx hb dX8_slide_103 hl (by decide) rfl (fun ls hl => ?_)
            obtain ⟨kk, h⟩ := h
            exact J105  kk (0) (s60) _ _ _ hg hm (lv_sub hl [2, 3, 4, 0] rfl) h
          · have h := h.2 c53
            refine lv_aload_n hx hb dX8_slide_77 rfl (lv_at hl 1 rfl) ?_
            refine call_i (run_V (a := ea E 0) (As := []) (rest := []) ⟨hx, hb, hml, hown, hts⟩ (ctX8_no l E  s50 _  h) (cwV 0 hts gX8_slide_X8_no rfl rfl rfl ⟨rfl, hdX8_no⟩ ⟨Nat.le_of_ble_eq_true rfl, Nat.le_of_ble_eq_true rfl⟩) hK hN hg (recv_x (ci := 8) (C := RX8) (T := TX8) (N := 14) hg hK (by decide) rfl (by decide) rfl) rfl hl.1 rfl (cat_sum _ (by simp)) dX8_slide_78 (show (sz s50 - sz σ) + 0 ≤ tp - sz σ ∧ 9 * (sz s50 - sz σ) + 0 ≤ 9 * (tp - sz σ) by have q1 := hm.2.1; have q2 := hm.2.2; omega)) hg (fun r64 s63 H locs hz65 hm2 h hg => ?_)
            have hm := hm.tn hm2
            refine W_narrow hg hH (show sz s63 ≤ sz σ + (sz s63 - sz σ) by have q1 := hm.2.1; omega) (Nat.le_refl _) ?_
            refine W.widen (k := tp - sz σ) (n := 9 * (tp - sz σ)) (show sz s63 - sz σ ≤ _ by have q1 := hm.2.2; omega) (show 9 * (sz s63 - sz σ) ≤ _ by have q1 := hm.2.2; omega) ?_
            exact ret_i hx hb hr hlocks hg hz65 hm h dX8_slide_81
    · have h := h.2 c11
      refine lv_aload_n hx hb dX8_slide_20 rfl (lv_at hl 0 rfl) ?_
      refine call_i (run_V (a := ea E 0) (As := []) (rest := []) ⟨hx, hb, hml, hown, hts⟩ (ctX8_bad l E  s8 _  h) (cwV 0 hts gX8_slide_X8_bad rfl rfl rfl ⟨rfl, hdX8_bad⟩ ⟨Nat.le_of_ble_eq_true rfl, Nat.le_of_ble_eq_true rfl⟩) hK hN hg (recv_x (ci := 8) (C := RX8) (T := TX8) (N := 14) hg hK (by decide) rfl (by decide) rfl) rfl hl.1 rfl (cat_sum _ (by simp)) dX8_slide_21 (show (sz s8 - sz σ) + 0 ≤ tp - sz σ ∧ 9 * (sz s8 - sz σ) + 0 ≤ 9 * (tp - sz σ) by have q1 := hm.2.1; have q2 := hm.2.2; omega)) hg (fun r67 s66 H locs hz68 hm2 h hg => ?_)
      have hm := hm.tn hm2
      refine W_narrow hg hH (show sz s66 ≤ sz σ + (sz s66 - sz σ) by have q1 := hm.2.1; omega) (Nat.le_refl _) ?_
      refine W.widen (k := tp - sz σ) (n := 9 * (tp - sz σ)) (show sz s66 - sz σ ≤ _ by have q1 := hm.2.2; omega) (show 9 * (sz s66 - sz σ) ≤ _ by have q1 := hm.2.2; omega) ?_
      exact ret_i hx hb hr hlocks hg hz68 hm h dX8_slide_24
theorem hdX8_zip : yX8_zip.cls ≠ "java/lang/invoke/MethodHandle" ∧ yX8_zip.cls ≠ "java/lang/invoke/VarHandle" ∧ (parseMethodDescriptor yX8_zip.desc).map (fun d => d.parameters.length) = some 3 := by decide +kernel
set_option maxRecDepth 100000 in
set_option maxHeartbeats 4000000 in
theorem ctX8_zip (l : Launch) (E : Ev) (tp : Nat) (a1 : Int) (a2 : Int) (a3 : Int) (σ : SS) (Q : Int → SS → Prop) (ha1 : R32 a1) (ha2 : R32 a2) (ha3 : R32 a3) (ht : sz σ ≤ tp) (h : wX8_zip tp a1 a2 a3 σ Q) : Met l yX8_zip wsX8_zip ({ frames := 95, cells := tp - sz σ, slots := 9 * (tp - sz σ), locals := 2565 } : Room) (Pc E σ [.ref (ea E 0), .int (iI (a1)), .int (iI (a2)), .int (iI (a3))]) (Qi E tp σ Q) (tp - sz σ) (9 * (tp - sz σ)) (Av E) := by
  rw [wX8_zip] at h
  refine Met.ofW (cc := cX8_zip) (maxL := 6) (ret := (some .int)) (by decide) rfl ?_
  intro p e s m args below meth c s₁ B hml hv
  obtain ⟨rfl, hH, hK, hN⟩ := hv
  have hx := B.exec
  have hb := B.bytes
  have hr := B.returns
  have hts := atoms_spec (ws := wsX8_zip) B.pre
  have hown : s.vm.findClass RX8 = some m.cls := findClass_of_methodNamed B.named
  have hlocks := B.notSynchronized
  have hg : GS E σ s s.heap [] := ⟨hH, va_S.rf⟩
  have hm : Mo tp σ σ := Mo.rf ht
  have hl := ent (vs := [.ref (ea E 0), .int (iI (a1)), .int (iI (a2)), .int (iI (a3))]) (n := 6) (cats_x (cats_i (cats_i (cats_i cats_nil)))) (Nat.le_of_ble_eq_true rfl)
  rw [lg_entry_eq]
  generalize (lg_sl ([.ref (ea E 0), .int (iI (a1)), .int (iI (a2)), .int (iI (a3))]) ++ List.replicate (6 - (lg_sl ([.ref (ea E 0), .int (iI (a1)), .int (iI (a2)), .int (iI (a3))])).length) Slot.unset).toArray = ls at hl ⊢
  have hl : lv_has ls 6 [(0, .ref (ea E 0)), (1, .int (iI (a1))), (2, .int (iI (a2))), (3, .int (iI (a3)))] := hl
  refine W_narrow hg hH (show sz σ ≤ sz σ + (sz σ - sz σ) by omega) (show 9 * (sz σ - sz σ) ≤ 9 * (sz σ - sz σ) from Nat.le_refl _) ?_
  have J59 : ∀ (k : Nat), ∀ (v4 : Int) (v5 : Int) (sL : SS) (H : Heap) (locs : List Loc) (ls : Array Slot), GS E sL s H locs → Mo tp σ sL → lv_has ls 6 [(0, .ref (ea E 0)), (1, .int (iI (a1))), (2, .int (iI (a2))), (3, .int (iI (a3))), (4, .int (iI (v4))), (5, .int (iI (v5)))] → wX8_zip_L59 tp a1 a2 a3 Q  k v4 v5 sL → W p l e (headSpec wsX8_zip ({ frames := 95, cells := tp - sz σ, slots := 9 * (tp - sz σ), locals := 2565 } : Room)).room s m (List.toArray [.ref (ea E 0), .int (iI (a1)), .int (iI (a2)), .int (iI (a3))]) below meth c H locs (sz sL - sz σ) (9 * (sz sL - sz σ)) (MQ below (Qi E tp σ Q) (List.toArray [.ref (ea E 0), .int (iI (a1)), .int (iI (a2)), .int (iI (a3))]) s (tp - sz σ) (9 * (tp - sz σ)) (Av E)) (F0 m 59 ls []) := by
    intro k
    induction k with
    | zero => intro v4 v5 sL H locs ls hg hm hl h; exact False.elim h
    | succ k ih =>
      intro v4 v5 sL H locs ls hg hm hl h
      rw [wX8_zip_L59] at h
      refine lv_iload hx hb dX8_zip_59 (lv_at hl 5 rfl) ?_
      refine lv_iload hx hb dX8_zip_61 (lv_at hl 4 rfl) ?_
      obtain ⟨hR38, hR39, h⟩ := h
      refine j_ge (tgt := 101) hx hb dX8_zip_63 (by decide) hR38 hR39 (fun c40 => ?_) (fun c40 => ?_)
      · have h := h.1 c40
        refine lv_aload_n hx hb dX8_zip_101 rfl (lv_at hl 0 rfl) ?_
        refine lv_iload_n hx hb dX8_zip_102 rfl (lv_at hl 3 rfl) ?_
        refine lv_aload_n hx hb dX8_zip_103 rfl (lv_at hl 0 rfl) ?_
        refine q_getx (ci := 8) (C := RX8) (T := TX8) (N := 14) (j := 18) hx hb hts (fun _ h9 => List.mem_cons_of_mem _ (List.mem_append_left _ (List.mem_append_left _ (List.mem_append_left _ (List.mem_append_left _ (List.mem_append_left _ (List.mem_append_right _ h9))))))) hown hK hg 0 (by decide) rfl rfl (by decide) rfl 9 (by decide) (hts (.fieldLink RX8 74 "JoinMaps" "second" "LJoinMaps$Row;") (List.mem_cons_of_mem _ (List.mem_append_left _ (List.mem_append_left _ (List.mem_append_left _ (List.mem_append_left _ (List.mem_append_left _ (List.mem_append_left _ (List.mem_append_left _ (List.mem_of_getElem? (i := 5) rfl)))))))))) rfl rfl rfl dX8_zip_104 ?_
        refine call_i (run_V (a := ea E 0) (As := [.int (iI (a3)), .ref (ea E 18)]) (rest := []) ⟨hx, hb, hml, hown, hts⟩ (ctX8_settleRow l E tp a3 18 sL _ ha3 (by decide) hm.2.2 h) (cwV 2 hts gX8_zip_X8_settleRow rfl rfl rfl ⟨rfl, hdX8_settleRow⟩ ⟨Nat.le_of_ble_eq_true rfl, Nat.le_of_ble_eq_true rfl⟩) hK hN hg (recv_x (ci := 8) (C := RX8) (T := TX8) (N := 14) hg hK (by decide) rfl (by decide) rfl) rfl hl.1 rfl (cat_sum _ (by simp)) dX8_zip_107 (show (sz sL - sz σ) + (tp - sz sL) ≤ tp - sz σ ∧ 9 * (sz sL - sz σ) + 9 * (tp - sz sL) ≤ 9 * (tp - sz σ) by have q1 := hm.2.1; have q2 := hm.2.2; omega)) hg (fun r42 s41 H locs hz43 hm2 h hg => ?_)
        have hm := hm.ta hm2
        refine W_narrow hg hH (show sz s41 ≤ sz σ + (sz s41 - sz σ) by have q1 := hm.2.1; omega) (Nat.le_refl _) ?_
        refine W.widen (k := tp - sz σ) (n := 9 * (tp - sz σ)) (show sz s41 - sz σ ≤ _ by have q1 := hm.2.2; omega) (show 9 * (sz s41 - sz σ) ≤ _ by have q1 := hm.2.2; omega) ?_
        exact ret_i hx hb hr hlocks hg hz43 hm h dX8_zip_110
      · have h := h.2 c40
        refine lv_aload_n hx hb dX8_zip_66 rfl (lv_at hl 0 rfl) ?_
        refine q_getx (ci := 8) (C := RX8) (T := TX8) (N := 14) (j := 18) hx hb hts (fun _ h9 => List.mem_cons_of_mem _ (List.mem_append_left _ (List.mem_append_left _ (List.mem_append_left _ (List.mem_append_left _ (List.mem_append_left _ (List.mem_append_right _ h9))))))) hown hK hg 0 (by decide) rfl rfl (by decide) rfl 9 (by decide) (hts (.fieldLink RX8 74 "JoinMaps" "second" "LJoinMaps$Row;") (List.mem_cons_of_mem _ (List.mem_append_left _ (List.mem_append_left _ (List.mem_append_left _ (List.mem_append_left _ (List.mem_append_left _ (List.mem_append_left _ (List.mem_append_left _ (List.mem_of_getElem? (i := 5) rfl)))))))))) rfl rfl rfl dX8_zip_67 ?_
        refine lv_aload_n hx hb dX8_zip_70 rfl (lv_at hl 0 rfl) ?_
        refine q_getx (ci := 8) (C := RX8) (T := TX8) (N := 14) (j := 3) hx hb hts (fun _ h9 => List.mem_cons_of_mem _ (List.mem_append_left _ (List.mem_append_left _ (List.mem_append_left _ (List.mem_append_left _ (List.mem_append_left _ (List.mem_append_right _ h9))))))) hown hK hg 0 (by decide) rfl rfl (by decide) rfl 2 (by decide) (hts (.fieldLink RX8 27 "JoinMaps" "maps" "[LJoinMaps$Node;") (List.mem_cons_of_mem _ (List.mem_append_left _ (List.mem_append_left _ (List.mem_append_left _ (List.mem_append_left _ (List.mem_append_left _ (List.mem_append_left _ (List.mem_append_left _ (List.mem_of_getElem? (i := 0) rfl)))))))))) rfl rfl rfl dX8_zip_71 ?_
        refine lv_iload_n hx hb dX8_zip_74 rfl (lv_at hl 1 rfl) ?_
        obtain ⟨hP44, hP45, h⟩ := h
        refine q_aald (N := 6) hx hb hK hg 3 (by decide) rfl rfl hP44 hP45 (by decide) dX8_zip_75 ?_
        have hS46 : ∀ b, (sf sL 3 (a1 : Int).toNat) = some b → sS sL b := fun b h0 => GS_F hg h0
        refine lv_iload hx hb dX8_zip_76 (lv_at hl 5 rfl) ?_
        refine call_i (run_S (As := [va_rf ((sf sL 3 (a1 : Int).toNat)), .int (iI (v5))]) (rest := [.ref (ea E 18)]) ⟨hx, hb, hml, hown, hts⟩ (ctX3_keyAt l E (sf sL 3 (a1 : Int).toNat) v5 sL _ hS46 hR38 h) (va_cwS 2 hts gX8_zip_X3_keyAt rfl rfl rfl hdX3_keyAt ⟨Nat.le_of_ble_eq_true rfl, Nat.le_of_ble_eq_true rfl⟩) hK hN hg rfl hl.1 rfl (cat_sum _ (by simp)) dX8_zip_78 (show (sz sL - sz σ) + 0 ≤ tp - sz σ ∧ 9 * (sz sL - sz σ) + 0 ≤ 9 * (tp - sz σ) by have q1 := hm.2.1; have q2 := hm.2.2; omega)) hg (fun r48 s47 H locs hz49 hm2 h hg => ?_)
        have hm := hm.tn hm2
        refine W_narrow hg hH (show sz s47 ≤ sz σ + (sz s47 - sz σ) by have q1 := hm.2.1; omega) (Nat.le_refl _) ?_
        refine lv_aload_n hx hb dX8_zip_81 rfl (lv_at hl 0 rfl) ?_
        refine q_getx (ci := 8) (C := RX8) (T := TX8) (N := 14) (j := 3) hx hb hts (fun _ h9 => List.mem_cons_of_mem _ (List.mem_append_left _ (List.mem_append_left _ (List.mem_append_left _ (List.mem_append_left _ (List.mem_append_left _ (List.mem_append_right _ h9))))))) hown hK hg 0 (by decide) rfl rfl (by decide) rfl 2 (by decide) (hts (.fieldLink RX8 27 "JoinMaps" "maps" "[LJoinMaps$Node;") (List.mem_cons_of_mem _ (List.mem_append_left _ (List.mem_append_left _ (List.mem_append_left _ (List.mem_append_left _ (List.mem_append_left _ (List.mem_append_left _ (List.mem_append_left _ (List.mem_of_getElem? (i := 0) rfl)))))))))) rfl rfl rfl dX8_zip_82 ?_
        refine lv_iload_n hx hb dX8_zip_85 rfl (lv_at hl 2 rfl) ?_
        obtain ⟨hP50, hP51, h⟩ := h
        refine q_aald (N := 6) hx hb hK hg 3 (by decide) rfl rfl hP50 hP51 (by decide) dX8_zip_86 ?_
        have hS52 : ∀ b, (sf s47 3 (a2 : Int).toNat) = some b → sS s47 b := fun b h0 => GS_F hg h0
        refine lv_iload hx hb dX8_zip_87 (lv_at hl 5 rfl) ?_
        refine call_i (run_S (As := [va_rf ((sf s47 3 (a2 : Int).toNat)), .int (iI (v5))]) (rest := [.int (iI (r48)), .ref (ea E 18)]) ⟨hx, hb, hml, hown, hts⟩ (ctX3_keyAt l E (sf s47 3 (a2 : Int).toNat) v5 s47 _ hS52 hR38 h) (va_cwS 2 hts gX8_zip_X3_keyAt rfl rfl rfl hdX3_keyAt ⟨Nat.le_of_ble_eq_true rfl, Nat.le_of_ble_eq_true rfl⟩) hK hN hg rfl hl.1 rfl (cat_sum _ (by simp)) dX8_zip_89 (show (sz s47 - sz σ) + 0 ≤ tp - sz σ ∧ 9 * (sz s47 - sz σ) + 0 ≤ 9 * (tp - sz σ) by have q1 := hm.2.1; have q2 := hm.2.2; omega)) hg (fun r54 s53 H locs hz55 hm2 h hg => ?_)
        have hm := hm.tn hm2
        refine W_narrow hg hH (show sz s53 ≤ sz σ + (sz s53 - sz σ) by have q1 := hm.2.1; omega) (Nat.le_refl _) ?_
        refine call_v (run_V (a := ea E 18) (As := [.int (iI (r48)), .int (iI (r54))]) (rest := []) ⟨hx, hb, hml, hown, hts⟩ (ctX6_add l E 18 r48 r54 s53 _ (by decide) hz49 hz55 h) (cwV 2 hts gX8_zip_X6_add rfl rfl rfl ⟨rfl, hdX6_add⟩ ⟨Nat.le_of_ble_eq_true rfl, Nat.le_of_ble_eq_true rfl⟩) hK hN hg (recv_x (ci := 6) (C := RX6) (T := TX6) (N := 3) hg hK (by decide) rfl (by decide) rfl) rfl hl.1 rfl (cat_sum _ (by simp)) dX8_zip_92 (show (sz s53 - sz σ) + 0 ≤ tp - sz σ ∧ 9 * (sz s53 - sz σ) + 0 ≤ 9 * (tp - sz σ) by have q1 := hm.2.1; have q2 := hm.2.2; omega)) hg (fun s56 H locs hm2 h hg => ?_)
        have hm := hm.tn hm2
        refine W_narrow hg hH (show sz s56 ≤ sz σ + (sz s56 - sz σ) by have q1 := hm.2.1; omega) (Nat.le_refl _) ?_
        refine lv_iinc (v := iI (v5 + 1)) (lv' := [(5, .int (iI (v5 + 1))), (0, .ref (ea E 0)), (1, .int (iI (a1))), (2, .int (iI (a2))), (3, .int (iI (a3))), (4, .int (iI (v4)))]) hx hb dX8_zip_95 hl (k := 5) rfl (iI_add _ _) (by decide) rfl (fun ls hl => ?_)
        refine lv_goto (tgt := 59) hx hb dX8_zip_98 (by decide) ?_
        exact ih (v4) (v5 + 1) (s56) _ _ _ hg hm (lv_sub hl [1, 2, 3, 4, 5, 0] rfl) h
  refine lv_iload_n hx hb dX8_zip_0 rfl (lv_at hl 1 rfl) ?_
  refine call_z (run_S (As := [.int (iI (a1))]) (rest := []) ⟨hx, hb, hml, hown, hts⟩ (ctX8_isMap l E a1 σ _ ha1 h) (va_cwS 1 hts gX8_zip_X8_isMap rfl rfl rfl hdX8_isMap ⟨Nat.le_of_ble_eq_true rfl, Nat.le_of_ble_eq_true rfl⟩) hK hN hg rfl hl.1 rfl (cat_sum _ (by simp)) dX8_zip_1 (show (sz σ - sz σ) + 0 ≤ tp - sz σ ∧ 9 * (sz σ - sz σ) + 0 ≤ 9 * (tp - sz σ) by have q1 := hm.2.1; have q2 := hm.2.2; omega)) hg (fun r2 s1 H locs hz3 hm2 h hg => ?_)
  have hm := hm.tn hm2
  refine W_narrow hg hH (show sz s1 ≤ sz σ + (sz s1 - sz σ) by have q1 := hm.2.1; omega) (Nat.le_refl _) ?_
  refine k_eq (tgt := 21) hx hb dX8_zip_4 (by decide) (z_R hz3) (fun c4 => ?_) (fun c4 => ?_)
  · have h := h.1 c4
    refine lv_aload_n hx hb dX8_zip_21 rfl (lv_at hl 0 rfl) ?_
    refine call_i (run_V (a := ea E 0) (As := []) (rest := []) ⟨hx, hb, hml, hown, hts⟩ (ctX8_bad l E  s1 _  h) (cwV 0 hts gX8_zip_X8_bad rfl rfl rfl ⟨rfl, hdX8_bad⟩ ⟨Nat.le_of_ble_eq_true rfl, Nat.le_of_ble_eq_true rfl⟩) hK hN hg (recv_x (ci := 8) (C := RX8) (T := TX8) (N := 14) hg hK (by decide) rfl (by decide) rfl) rfl hl.1 rfl (cat_sum _ (by simp)) dX8_zip_22 (show (sz s1 - sz σ) + 0 ≤ tp - sz σ ∧ 9 * (sz s1 - sz σ) + 0 ≤ 9 * (tp - sz σ) by have q1 := hm.2.1; have q2 := hm.2.2; omega)) hg (fun r6 s5 H locs hz7 hm2 h hg => ?_)
    have hm := hm.tn hm2
    refine W_narrow hg hH (show sz s5 ≤ sz σ + (sz s5 - sz σ) by have q1 := hm.2.1; omega) (Nat.le_refl _) ?_
    refine W.widen (k := tp - sz σ) (n := 9 * (tp - sz σ)) (show sz s5 - sz σ ≤ _ by have q1 := hm.2.2; omega) (show 9 * (sz s5 - sz σ) ≤ _ by have q1 := hm.2.2; omega) ?_
    exact ret_i hx hb hr hlocks hg hz7 hm h dX8_zip_25
  · have h := h.2 c4
    refine lv_iload_n hx hb dX8_zip_7 rfl (lv_at hl 2 rfl) ?_
    refine call_z (run_S (As := [.int (iI (a2))]) (rest := []) ⟨hx, hb, hml, hown, hts⟩ (ctX8_isMap l E a2 s1 _ ha2 h) (va_cwS 1 hts gX8_zip_X8_isMap rfl rfl rfl hdX8_isMap ⟨Nat.le_of_ble_eq_true rfl, Nat.le_of_ble_eq_true rfl⟩) hK hN hg rfl hl.1 rfl (cat_sum _ (by simp)) dX8_zip_8 (show (sz s1 - sz σ) + 0 ≤ tp - sz σ ∧ 9 * (sz s1 - sz σ) + 0 ≤ 9 * (tp - sz σ) by have q1 := hm.2.1; have q2 := hm.2.2; omega)) hg (fun r9 s8 H locs hz10 hm2 h hg => ?_)
    have hm := hm.tn hm2
    refine W_narrow hg hH (show sz s8 ≤ sz σ + (sz s8 - sz σ) by have q1 := hm.2.1; omega) (Nat.le_refl _) ?_
    refine k_eq (tgt := 21) hx hb dX8_zip_11 (by decide) (z_R hz10) (fun c11 => ?_) (fun c11 => ?_)
    · have h := h.1 c11
      refine lv_aload_n hx hb dX8_zip_21 rfl (lv_at hl 0 rfl) ?_
      refine call_i (run_V (a := ea E 0) (As := []) (rest := []) ⟨hx, hb, hml, hown, hts⟩ (ctX8_bad l E  s8 _  h) (cwV 0 hts gX8_zip_X8_bad rfl rfl rfl ⟨rfl, hdX8_bad⟩ ⟨Nat.le_of_ble_eq_true rfl, Nat.le_of_ble_eq_true rfl⟩) hK hN hg (recv_x (ci := 8) (C := RX8) (T := TX8) (N := 14) hg hK (by decide) rfl (by decide) rfl) rfl hl.1 rfl (cat_sum _ (by simp)) dX8_zip_22 (show (sz s8 - sz σ) + 0 ≤ tp - sz σ ∧ 9 * (sz s8 - sz σ) + 0 ≤ 9 * (tp - sz σ) by have q1 := hm.2.1; have q2 := hm.2.2; omega)) hg (fun r13 s12 H locs hz14 hm2 h hg => ?_)
      have hm := hm.tn hm2
      refine W_narrow hg hH (show sz s12 ≤ sz σ + (sz s12 - sz σ) by have q1 := hm.2.1; omega) (Nat.le_refl _) ?_
      refine W.widen (k := tp - sz σ) (n := 9 * (tp - sz σ)) (show sz s12 - sz σ ≤ _ by have q1 := hm.2.2; omega) (show 9 * (sz s12 - sz σ) ≤ _ by have q1 := hm.2.2; omega) ?_
      exact ret_i hx hb hr hlocks hg hz14 hm h dX8_zip_25
    · have h := h.2 c11
      refine lv_iload_n hx hb dX8_zip_14 rfl (lv_at hl 3 rfl) ?_
      refine call_z (run_S (As := [.int (iI (a3))]) (rest := []) ⟨hx, hb, hml, hown, hts⟩ (ctX8_isMap l E a3 s8 _ ha3 h) (va_cwS 1 hts gX8_zip_X8_isMap rfl rfl rfl hdX8_isMap ⟨Nat.le_of_ble_eq_true rfl, Nat.le_of_ble_eq_true rfl⟩) hK hN hg rfl hl.1 rfl (cat_sum _ (by simp)) dX8_zip_15 (show (sz s8 - sz σ) + 0 ≤ tp - sz σ ∧ 9 * (sz s8 - sz σ) + 0 ≤ 9 * (tp - sz σ) by have q1 := hm.2.1; have q2 := hm.2.2; omega)) hg (fun r16 s15 H locs hz17 hm2 h hg => ?_)
      have hm := hm.tn hm2
      refine W_narrow hg hH (show sz s15 ≤ sz σ + (sz s15 - sz σ) by have q1 := hm.2.1; omega) (Nat.le_refl _) ?_
      refine k_ne (tgt := 26) hx hb dX8_zip_18 (by decide) (z_R hz17) (fun c18 => ?_) (fun c18 => ?_)
      · have h := h.1 c18
        refine lv_aload_n hx hb dX8_zip_26 rfl (lv_at hl 0 rfl) ?_
        refine q_getx (ci := 8) (C := RX8) (T := TX8) (N := 14) (j := 3) hx hb hts (fun _ h9 => List.mem_cons_of_mem _ (List.mem_append_left _ (List.mem_append_left _ (List.mem_append_left _ (List.mem_append_left _ (List.mem_append_left _ (List.mem_append_right _ h9))))))) hown hK hg 0 (by decide) rfl rfl (by decide) rfl 2 (by decide) (hts (.fieldLink RX8 27 "JoinMaps" "maps" "[LJoinMaps$Node;") (List.mem_cons_of_mem _ (List.mem_append_left _ (List.mem_append_left _ (List.mem_append_left _ (List.mem_append_left _ (List.mem_append_left _ (List.mem_append_left _ (List.mem_append_left _ (List.mem_of_getElem? (i := 0) rfl)))))))))) rfl rfl rfl dX8_zip_27 ?_
        refine lv_iload_n hx hb dX8_zip_30 rfl (lv_at hl 1 rfl) ?_
        obtain ⟨hP19, hP20, h⟩ := h
        refine q_aald (N := 6) hx hb hK hg 3 (by decide) rfl rfl hP19 hP20 (by decide) dX8_zip_31 ?_
        have hS21 : ∀ b, (sf s15 3 (a1 : Int).toNat) = some b → sS s15 b := fun b h0 => GS_F hg h0
        refine call_i (run_S (As := [va_rf ((sf s15 3 (a1 : Int).toNat))]) (rest := []) ⟨hx, hb, hml, hown, hts⟩ (ctX3_countOf l E (sf s15 3 (a1 : Int).toNat) s15 _ hS21 h) (va_cwS 1 hts gX8_zip_X3_countOf rfl rfl rfl hdX3_countOf ⟨Nat.le_of_ble_eq_true rfl, Nat.le_of_ble_eq_true rfl⟩) hK hN hg rfl hl.1 rfl (cat_sum _ (by simp)) dX8_zip_32 (show (sz s15 - sz σ) + 0 ≤ tp - sz σ ∧ 9 * (sz s15 - sz σ) + 0 ≤ 9 * (tp - sz σ) by have q1 := hm.2.1; have q2 := hm.2.2; omega)) hg (fun r23 s22 H locs hz24 hm2 h hg => ?_)
        have hm := hm.tn hm2
        refine W_narrow hg hH (show sz s22 ≤ sz σ + (sz s22 - sz σ) by have q1 := hm.2.1; omega) (Nat.le_refl _) ?_
        refine lv_aload_n hx hb dX8_zip_35 rfl (lv_at hl 0 rfl) ?_
        refine q_getx (ci := 8) (C := RX8) (T := TX8) (N := 14) (j := 3) hx hb hts (fun _ h9 => List.mem_cons_of_mem _ (List.mem_append_left _ (List.mem_append_left _ (List.mem_append_left _ (List.mem_append_left _ (List.mem_append_left _ (List.mem_append_right _ h9))))))) hown hK hg 0 (by decide) rfl rfl (by decide) rfl 2 (by decide) (hts (.fieldLink RX8 27 "JoinMaps" "maps" "[LJoinMaps$Node;") (List.mem_cons_of_mem _ (List.mem_append_left _ (List.mem_append_left _ (List.mem_append_left _ (List.mem_append_left _ (List.mem_append_left _ (List.mem_append_left _ (List.mem_append_left _ (List.mem_of_getElem? (i := 0) rfl)))))))))) rfl rfl rfl dX8_zip_36 ?_
        refine lv_iload_n hx hb dX8_zip_39 rfl (lv_at hl 2 rfl) ?_
        obtain ⟨hP25, hP26, h⟩ := h
        refine q_aald (N := 6) hx hb hK hg 3 (by decide) rfl rfl hP25 hP26 (by decide) dX8_zip_40 ?_
        have hS27 : ∀ b, (sf s22 3 (a2 : Int).toNat) = some b → sS s22 b := fun b h0 => GS_F hg h0
        refine call_i (run_S (As := [va_rf ((sf s22 3 (a2 : Int).toNat))]) (rest := [.int (iI (r23))]) ⟨hx, hb, hml, hown, hts⟩ (ctX3_countOf l E (sf s22 3 (a2 : Int).toNat) s22 _ hS27 h) (va_cwS 1 hts gX8_zip_X3_countOf rfl rfl rfl hdX3_countOf ⟨Nat.le_of_ble_eq_true rfl, Nat.le_of_ble_eq_true rfl⟩) hK hN hg rfl hl.1 rfl (cat_sum _ (by simp)) dX8_zip_41 (show (sz s22 - sz σ) + 0 ≤ tp - sz σ ∧ 9 * (sz s22 - sz σ) + 0 ≤ 9 * (tp - sz σ) by have q1 := hm.2.1; have q2 := hm.2.2; omega)) hg (fun r29 s28 H locs hz30 hm2 h hg => ?_)
        have hm := hm.tn hm2
        refine W_narrow hg hH (show sz s28 ≤ sz σ + (sz s28 - sz σ) by have q1 := hm.2.1; omega) (Nat.le_refl _) ?_
        refine q_min hx hb (by rw [hml]; exact hl.1.symm) hown (hts (.methodLink RX8 208 Lib.Math.min.name) (List.mem_cons_of_mem _ (List.mem_append_left _ (List.mem_append_left _ (List.mem_append_left _ (List.mem_append_left _ (List.mem_append_left _ (List.mem_append_left _ (List.mem_append_left _ (List.mem_of_getElem? (i := 1) rfl)))))))))) (hts (.static Lib.Math.min.name) (List.mem_cons_of_mem _ (List.mem_append_left _ (List.mem_append_left _ (List.mem_append_left _ (List.mem_append_left _ (List.mem_append_left _ (List.mem_append_left _ (List.mem_append_left _ (List.mem_of_getElem? (i := 2) rfl)))))))))) (hts (.initialized "java/lang/Math") (List.mem_cons_of_mem _ (List.mem_append_left _ (List.mem_append_left _ (List.mem_append_left _ (List.mem_append_left _ (List.mem_append_left _ (List.mem_append_left _ (List.mem_append_left _ (List.mem_of_getElem? (i := 3) rfl)))))))))) (hts (.code Lib.Math.min.name Lib.Math.min.code 2 (some .int)) (List.mem_cons_of_mem _ (List.mem_append_left _ (List.mem_append_left _ (List.mem_append_left _ (List.mem_append_left _ (List.mem_append_left _ (List.mem_append_left _ (List.mem_append_left _ (List.mem_of_getElem? (i := 4) rfl)))))))))) (Nat.le_of_ble_eq_true rfl) (by simp) (Nat.le_of_ble_eq_true rfl) (show (sz s28 - sz σ) ≤ tp - sz σ by have q1 := hm.2.1; have q2 := hm.2.2; omega) (show 9 * (sz s28 - sz σ) ≤ 9 * (tp - sz σ) by have q1 := hm.2.1; have q2 := hm.2.2; omega) hz24 hz30 dX8_zip_44 ?_
        have hR31 : R32 (min r23 r29) := by have q1 := hz24; have q2 := hz30; omega
        refine lv_istore (i := 4) (lv' := [(4, .int (iI ((min r23 r29)))), (0, .ref (ea E 0)), (1, .int (iI (a1))), (2, .int (iI (a2))), (3, .int (iI (a3)))]) hx hb dX8_zip_47 hl (by decide) rfl (fun ls hl => ?_)
        refine lv_aload_n hx hb dX8_zip_49 rfl (lv_at hl 1 rfl) ?_
        refine q_getx (ci := 8) (C := RX8) (T := TX8) (N := 14) (j := 18) hx hb hts (fun _ h9 => List.mem_cons_of_mem _ (List.mem_append_left _ (List.mem_append_left _ (List.mem_append_left _ (List.mem_append_left _ (List.mem_append_left _ (List.mem_append_right _ h9))))))) hown hK hg 0 (by decide) rfl rfl (by decide) rfl 9 (by decide) (hts (.fieldLink RX8 74 "JoinMaps" "second" "LJoinMaps$Row;") (List.mem_cons_of_mem _ (List.mem_append_left _ (List.mem_append_left _ (List.mem_append_left _ (List.mem_append_left _ (List.mem_append_left _ (List.mem_append_left _ (List.mem_append_left _ (List.mem_of_getElem? (i := 5) rfl)))))))))) rfl rfl rfl dX8_zip_50 ?_
        refine call_v (run_V (a := ea E 18) (As := []) (rest := []) ⟨hx, hb, hml, hown, hts⟩ (ctX6_empty l E 18 s28 _ (by decide) h) (cwV 0 hts gX8_zip_X6_empty rfl rfl rfl ⟨rfl, hdX6_empty⟩ ⟨Nat.le_of_ble_eq_true rfl, Nat.le_of_ble_eq_true rfl⟩) hK hN hg (recv_x (ci := 6) (C := RX6) (T := TX6) (N := 3) hg hK (by decide) rfl (by decide) rfl) rfl hl.1 rfl (cat_sum _ (by simp)) dX8_zip_53 (show (sz s28 - sz σ) + 0 ≤ tp - sz σ ∧ 9 * (sz s28 - sz σ) + 0 ≤ 9 * (tp - sz σ) by have q1 := hm.2.1; have q2 := hm.2.2; omega)) hg (fun s32 H locs hm2 h hg => ?_)
        have hm := hm.tn hm2
        refine W_narrow hg hH (show sz s32 ≤ sz σ + (sz s32 - sz σ) by have q1 := hm.2.1; omega) (Nat.le_refl _) ?_
        refine lv_iconst (v := iI 0) hx hb dX8_zip_56 (by decide) ?_
        refine lv_istore (i := 5) (lv' := [(5, .int (iI (0))), (4, .int (iI ((min r23 r29)))), (0, .ref (ea E 0)), (1, .int (iI (a1))), (2, .int (iI (a2))), (3, .int (iI (a3)))]) hx hb dX8_zip_57 hl (by decide) rfl (fun ls hl => ?_)
        obtain ⟨kk, h⟩ := h
        exact J59  kk ((min r23 r29)) (0) (s32) _ _ _ hg hm (lv_sub hl [2, 3, 4, 5, 1, 0] rfl) h
      · have h := h.2 c18
        refine lv_aload_n hx hb dX8_zip_21 rfl (lv_at hl 0 rfl) ?_
        refine call_i (run_V (a := ea E 0) (As := []) (rest := []) ⟨hx, hb, hml, hown, hts⟩ (ctX8_bad l E  s15 _  h) (cwV 0 hts gX8_zip_X8_bad rfl rfl rfl ⟨rfl, hdX8_bad⟩ ⟨Nat.le_of_ble_eq_true rfl, Nat.le_of_ble_eq_true rfl⟩) hK hN hg (recv_x (ci := 8) (C := RX8) (T := TX8) (N := 14) hg hK (by decide) rfl (by decide) rfl) rfl hl.1 rfl (cat_sum _ (by simp)) dX8_zip_22 (show (sz s15 - sz σ) + 0 ≤ tp - sz σ ∧ 9 * (sz s15 - sz σ) + 0 ≤ 9 * (tp - sz σ) by have q1 := hm.2.1; have q2 := hm.2.2; omega)) hg (fun r36 s35 H locs hz37 hm2 h hg => ?_)
        have hm := hm.tn hm2
        refine W_narrow hg hH (show sz s35 ≤ sz σ + (sz s35 - sz σ) by have q1 := hm.2.1; omega) (Nat.le_refl _) ?_
        refine W.widen (k := tp - sz σ) (n := 9 * (tp - sz σ)) (show sz s35 - sz σ ≤ _ by have q1 := hm.2.2; omega) (show 9 * (sz s35 - sz σ) ≤ _ by have q1 := hm.2.2; omega) ?_
        exact ret_i hx hb hr hlocks hg hz37 hm h dX8_zip_25
theorem hdX8_clears : yX8_clears.cls ≠ "java/lang/invoke/MethodHandle" ∧ yX8_clears.cls ≠ "java/lang/invoke/VarHandle" ∧ (parseMethodDescriptor yX8_clears.desc).map (fun d => d.parameters.length) = some 3 := by decide +kernel
set_option maxRecDepth 100000 in
set_option maxHeartbeats 4000000 in
theorem ctX8_clears (l : Launch) (E : Ev) (tp : Nat) (a1 : Int) (a2 : Int) (a3 : Int) (σ : SS) (Q : Int → SS → Prop) (ha1 : R32 a1) (ha2 : R32 a2) (ha3 : R32 a3) (ht : sz σ ≤ tp) (h : wX8_clears tp a1 a2 a3 σ Q) : Met l yX8_clears wsX8_clears ({ frames := 96, cells := tp - sz σ, slots := 9 * (tp - sz σ), locals := 2454 } : Room) (Pc E σ [.ref (ea E 0), .int (iI (a1)), .int (iI (a2)), .int (iI (a3))]) (Qi E tp σ Q) (tp - sz σ) (9 * (tp - sz σ)) (Av E) := by
  rw [wX8_clears] at h
  refine Met.ofW (cc := cX8_clears) (maxL := 5) (ret := (some .int)) (by decide) rfl ?_
  intro p e s m args below meth c s₁ B hml hv
  obtain ⟨rfl, hH, hK, hN⟩ := hv
  have hx := B.exec
  have hb := B.bytes
  have hr := B.returns
  have hts := atoms_spec (ws := wsX8_clears) B.pre
  have hown : s.vm.findClass RX8 = some m.cls := findClass_of_methodNamed B.named
  have hlocks := B.notSynchronized
  have hg : GS E σ s s.heap [] := ⟨hH, va_S.rf⟩
  have hm : Mo tp σ σ := Mo.rf ht
  have hl := ent (vs := [.ref (ea E 0), .int (iI (a1)), .int (iI (a2)), .int (iI (a3))]) (n := 5) (cats_x (cats_i (cats_i (cats_i cats_nil)))) (Nat.le_of_ble_eq_true rfl)
  rw [lg_entry_eq]
  generalize (lg_sl ([.ref (ea E 0), .int (iI (a1)), .int (iI (a2)), .int (iI (a3))]) ++ List.replicate (5 - (lg_sl ([.ref (ea E 0), .int (iI (a1)), .int (iI (a2)), .int (iI (a3))])).length) Slot.unset).toArray = ls at hl ⊢
  have hl : lv_has ls 5 [(0, .ref (ea E 0)), (1, .int (iI (a1))), (2, .int (iI (a2))), (3, .int (iI (a3)))] := hl
  refine W_narrow hg hH (show sz σ ≤ sz σ + (sz σ - sz σ) by omega) (show 9 * (sz σ - sz σ) ≤ 9 * (sz σ - sz σ) from Nat.le_refl _) ?_
  refine lv_iload_n hx hb dX8_clears_0 rfl (lv_at hl 1 rfl) ?_
  refine call_z (run_S (As := [.int (iI (a1))]) (rest := []) ⟨hx, hb, hml, hown, hts⟩ (ctX8_isMap l E a1 σ _ ha1 h) (va_cwS 1 hts gX8_clears_X8_isMap rfl rfl rfl hdX8_isMap ⟨Nat.le_of_ble_eq_true rfl, Nat.le_of_ble_eq_true rfl⟩) hK hN hg rfl hl.1 rfl (cat_sum _ (by simp)) dX8_clears_1 (show (sz σ - sz σ) + 0 ≤ tp - sz σ ∧ 9 * (sz σ - sz σ) + 0 ≤ 9 * (tp - sz σ) by have q1 := hm.2.1; have q2 := hm.2.2; omega)) hg (fun r2 s1 H locs hz3 hm2 h hg => ?_)
  have hm := hm.tn hm2
  refine W_narrow hg hH (show sz s1 ≤ sz σ + (sz s1 - sz σ) by have q1 := hm.2.1; omega) (Nat.le_refl _) ?_
  refine k_eq (tgt := 15) hx hb dX8_clears_4 (by decide) (z_R hz3) (fun c4 => ?_) (fun c4 => ?_)
  · have h := h.1 c4
    refine lv_aload_n hx hb dX8_clears_15 rfl (lv_at hl 0 rfl) ?_
    refine call_i (run_V (a := ea E 0) (As := []) (rest := []) ⟨hx, hb, hml, hown, hts⟩ (ctX8_bad l E  s1 _  h) (cwV 0 hts gX8_clears_X8_bad rfl rfl rfl ⟨rfl, hdX8_bad⟩ ⟨Nat.le_of_ble_eq_true rfl, Nat.le_of_ble_eq_true rfl⟩) hK hN hg (recv_x (ci := 8) (C := RX8) (T := TX8) (N := 14) hg hK (by decide) rfl (by decide) rfl) rfl hl.1 rfl (cat_sum _ (by simp)) dX8_clears_16 (show (sz s1 - sz σ) + 0 ≤ tp - sz σ ∧ 9 * (sz s1 - sz σ) + 0 ≤ 9 * (tp - sz σ) by have q1 := hm.2.1; have q2 := hm.2.2; omega)) hg (fun r6 s5 H locs hz7 hm2 h hg => ?_)
    have hm := hm.tn hm2
    refine W_narrow hg hH (show sz s5 ≤ sz σ + (sz s5 - sz σ) by have q1 := hm.2.1; omega) (Nat.le_refl _) ?_
    refine W.widen (k := tp - sz σ) (n := 9 * (tp - sz σ)) (show sz s5 - sz σ ≤ _ by have q1 := hm.2.2; omega) (show 9 * (sz s5 - sz σ) ≤ _ by have q1 := hm.2.2; omega) ?_
    exact ret_i hx hb hr hlocks hg hz7 hm h dX8_clears_19
  · have h := h.2 c4
    refine lv_iload_n hx hb dX8_clears_7 rfl (lv_at hl 2 rfl) ?_
    refine lv_iload_n hx hb dX8_clears_8 rfl (lv_at hl 3 rfl) ?_
    refine call_z (run_S (As := [.int (iI (a2)), .int (iI (a3))]) (rest := []) ⟨hx, hb, hml, hown, hts⟩ (ctX8_isRange l E a2 a3 s1 _ ha2 ha3 h) (va_cwS 2 hts gX8_clears_X8_isRange rfl rfl rfl hdX8_isRange ⟨Nat.le_of_ble_eq_true rfl, Nat.le_of_ble_eq_true rfl⟩) hK hN hg rfl hl.1 rfl (cat_sum _ (by simp)) dX8_clears_9 (show (sz s1 - sz σ) + 0 ≤ tp - sz σ ∧ 9 * (sz s1 - sz σ) + 0 ≤ 9 * (tp - sz σ) by have q1 := hm.2.1; have q2 := hm.2.2; omega)) hg (fun r9 s8 H locs hz10 hm2 h hg => ?_)
    have hm := hm.tn hm2
    refine W_narrow hg hH (show sz s8 ≤ sz σ + (sz s8 - sz σ) by have q1 := hm.2.1; omega) (Nat.le_refl _) ?_
    refine k_ne (tgt := 20) hx hb dX8_clears_12 (by decide) (z_R hz10) (fun c11 => ?_) (fun c11 => ?_)
    · have h := h.1 c11
      refine lv_aload_n hx hb dX8_clears_20 rfl (lv_at hl 0 rfl) ?_
      refine q_getx (ci := 8) (C := RX8) (T := TX8) (N := 14) (j := 3) hx hb hts (fun _ h9 => List.mem_cons_of_mem _ (List.mem_append_left _ (List.mem_append_left _ (List.mem_append_left _ (List.mem_append_left _ (List.mem_append_right _ h9)))))) hown hK hg 0 (by decide) rfl rfl (by decide) rfl 2 (by decide) (hts (.fieldLink RX8 27 "JoinMaps" "maps" "[LJoinMaps$Node;") (List.mem_cons_of_mem _ (List.mem_append_left _ (List.mem_append_left _ (List.mem_append_left _ (List.mem_append_left _ (List.mem_append_left _ (List.mem_append_left _ (List.mem_of_getElem? (i := 0) rfl))))))))) rfl rfl rfl dX8_clears_21 ?_
      refine lv_iload_n hx hb dX8_clears_24 rfl (lv_at hl 1 rfl) ?_
      obtain ⟨hP12, hP13, h⟩ := h
      refine q_aald (N := 6) hx hb hK hg 3 (by decide) rfl rfl hP12 hP13 (by decide) dX8_clears_25 ?_
      have hS14 : ∀ b, (sf s8 3 (a1 : Int).toNat) = some b → sS s8 b := fun b h0 => GS_F hg h0
      refine lv_iload_n hx hb dX8_clears_26 rfl (lv_at hl 2 rfl) ?_
      refine lv_iload_n hx hb dX8_clears_27 rfl (lv_at hl 3 rfl) ?_
      refine call_i (run_S (As := [va_rf ((sf s8 3 (a1 : Int).toNat)), .int (iI (a2)), .int (iI (a3))]) (rest := []) ⟨hx, hb, hml, hown, hts⟩ (ctX3_countWithin l E (sf s8 3 (a1 : Int).toNat) a2 a3 s8 _ hS14 ha2 ha3 h) (va_cwS 3 hts gX8_clears_X3_countWithin rfl rfl rfl hdX3_countWithin ⟨Nat.le_of_ble_eq_true rfl, Nat.le_of_ble_eq_true rfl⟩) hK hN hg rfl hl.1 rfl (cat_sum _ (by simp)) dX8_clears_28 (show (sz s8 - sz σ) + 0 ≤ tp - sz σ ∧ 9 * (sz s8 - sz σ) + 0 ≤ 9 * (tp - sz σ) by have q1 := hm.2.1; have q2 := hm.2.2; omega)) hg (fun r16 s15 H locs hz17 hm2 h hg => ?_)
      have hm := hm.tn hm2
      refine W_narrow hg hH (show sz s15 ≤ sz σ + (sz s15 - sz σ) by have q1 := hm.2.1; omega) (Nat.le_refl _) ?_
      refine lv_istore (i := 4) (lv' := [(4, .int (iI (r16))), (0, .ref (ea E 0)), (1, .int (iI (a1))), (2, .int (iI (a2))), (3, .int (iI (a3)))]) hx hb dX8_clears_31 hl (by decide) rfl (fun ls hl => ?_)
      refine lv_aload_n hx hb dX8_clears_33 rfl (lv_at hl 1 rfl) ?_
      refine call_v (run_V (a := ea E 0) (As := []) (rest := []) ⟨hx, hb, hml, hown, hts⟩ (ctX8_startChange l E  s15 _  h) (cwV 0 hts gX8_clears_X8_startChange rfl rfl rfl ⟨rfl, hdX8_startChange⟩ ⟨Nat.le_of_ble_eq_true rfl, Nat.le_of_ble_eq_true rfl⟩) hK hN hg (recv_x (ci := 8) (C := RX8) (T := TX8) (N := 14) hg hK (by decide) rfl (by decide) rfl) rfl hl.1 rfl (cat_sum _ (by simp)) dX8_clears_34 (show (sz s15 - sz σ) + 0 ≤ tp - sz σ ∧ 9 * (sz s15 - sz σ) + 0 ≤ 9 * (tp - sz σ) by have q1 := hm.2.1; have q2 := hm.2.2; omega)) hg (fun s18 H locs hm2 h hg => ?_)
      have hm := hm.tn hm2
      refine W_narrow hg hH (show sz s18 ≤ sz σ + (sz s18 - sz σ) by have q1 := hm.2.1; omega) (Nat.le_refl _) ?_
      refine lv_aload_n hx hb dX8_clears_37 rfl (lv_at hl 1 rfl) ?_
      refine lv_iload_n hx hb dX8_clears_38 rfl (lv_at hl 2 rfl) ?_
      refine lv_aload_n hx hb dX8_clears_39 rfl (lv_at hl 1 rfl) ?_
      refine q_getx (ci := 8) (C := RX8) (T := TX8) (N := 14) (j := 1) hx hb hts (fun _ h9 => List.mem_cons_of_mem _ (List.mem_append_left _ (List.mem_append_left _ (List.mem_append_left _ (List.mem_append_left _ (List.mem_append_right _ h9)))))) hown hK hg 0 (by decide) rfl rfl (by decide) rfl 0 (by decide) (hts (.fieldLink RX8 10 "JoinMaps" "grove" "LJoinMaps$Grove;") (List.mem_cons_of_mem _ (List.mem_append_left _ (List.mem_append_left _ (List.mem_append_left _ (List.mem_append_left _ (List.mem_append_left _ (List.mem_append_left _ (List.mem_of_getElem? (i := 1) rfl))))))))) rfl rfl rfl dX8_clears_40 ?_
      refine lv_aload_n hx hb dX8_clears_43 rfl (lv_at hl 1 rfl) ?_
      refine q_getx (ci := 8) (C := RX8) (T := TX8) (N := 14) (j := 3) hx hb hts (fun _ h9 => List.mem_cons_of_mem _ (List.mem_append_left _ (List.mem_append_left _ (List.mem_append_left _ (List.mem_append_left _ (List.mem_append_right _ h9)))))) hown hK hg 0 (by decide) rfl rfl (by decide) rfl 2 (by decide) (hts (.fieldLink RX8 27 "JoinMaps" "maps" "[LJoinMaps$Node;") (List.mem_cons_of_mem _ (List.mem_append_left _ (List.mem_append_left _ (List.mem_append_left _ (List.mem_append_left _ (List.mem_append_left _ (List.mem_append_left _ (List.mem_of_getElem? (i := 0) rfl))))))))) rfl rfl rfl dX8_clears_44 ?_
      refine lv_iload_n hx hb dX8_clears_47 rfl (lv_at hl 2 rfl) ?_
      obtain ⟨hP21, hP22, h⟩ := h
      refine q_aald (N := 6) hx hb hK hg 3 (by decide) rfl rfl hP21 hP22 (by decide) dX8_clears_48 ?_
      have hS23 : ∀ b, (sf s18 3 (a1 : Int).toNat) = some b → sS s18 b := fun b h0 => GS_F hg h0
      refine lv_iload_n hx hb dX8_clears_49 rfl (lv_at hl 3 rfl) ?_
      refine lv_iload_n hx hb dX8_clears_50 rfl (lv_at hl 4 rfl) ?_
      refine call_r (run_V (a := ea E 1) (As := [va_rf ((sf s18 3 (a1 : Int).toNat)), .int (iI (a2)), .int (iI (a3))]) (rest := [.int (iI (a1)), .ref (ea E 0)]) ⟨hx, hb, hml, hown, hts⟩ (ctX2_without l E tp (sf s18 3 (a1 : Int).toNat) a2 a3 s18 _ hS23 ha2 ha3 hm.2.2 h) (cwV 3 hts gX8_clears_X2_without rfl rfl rfl ⟨rfl, hdX2_without⟩ ⟨Nat.le_of_ble_eq_true rfl, Nat.le_of_ble_eq_true rfl⟩) hK hN hg (recv_x (ci := 2) (C := RX2) (T := TX2) (N := 4) hg hK (by decide) rfl (by decide) rfl) rfl hl.1 rfl (cat_sum _ (by simp)) dX8_clears_51 (show (sz s18 - sz σ) + (tp - sz s18) ≤ tp - sz σ ∧ 9 * (sz s18 - sz σ) + 9 * (tp - sz s18) ≤ 9 * (tp - sz σ) by have q1 := hm.2.1; have q2 := hm.2.2; omega)) hg (fun r25 s24 H locs hz26 hm2 h hg => ?_)
      have hm := hm.ta hm2
      refine W_narrow hg hH (show sz s24 ≤ sz σ + (sz s24 - sz σ) by have q1 := hm.2.1; omega) (Nat.le_refl _) ?_
      refine call_i (run_V (a := ea E 0) (As := [.int (iI (a1)), va_rf (r25)]) (rest := []) ⟨hx, hb, hml, hown, hts⟩ (ctX8_settle l E a1 r25 s24 _ ha1 hz26 h) (cwV 2 hts gX8_clears_X8_settle rfl rfl rfl ⟨rfl, hdX8_settle⟩ ⟨Nat.le_of_ble_eq_true rfl, Nat.le_of_ble_eq_true rfl⟩) hK hN hg (recv_x (ci := 8) (C := RX8) (T := TX8) (N := 14) hg hK (by decide) rfl (by decide) rfl) rfl hl.1 rfl (cat_sum _ (by simp)) dX8_clears_54 (show (sz s24 - sz σ) + 0 ≤ tp - sz σ ∧ 9 * (sz s24 - sz σ) + 0 ≤ 9 * (tp - sz σ) by have q1 := hm.2.1; have q2 := hm.2.2; omega)) hg (fun r28 s27 H locs hz29 hm2 h hg => ?_)
      have hm := hm.tn hm2
      refine W_narrow hg hH (show sz s27 ≤ sz σ + (sz s27 - sz σ) by have q1 := hm.2.1; omega) (Nat.le_refl _) ?_
      refine lv_pop hx hb dX8_clears_57 rfl ?_
      refine lv_iload hx hb dX8_clears_58 (lv_at hl 0 rfl) ?_
      refine W.widen (k := tp - sz σ) (n := 9 * (tp - sz σ)) (show sz s27 - sz σ ≤ _ by have q1 := hm.2.2; omega) (show 9 * (sz s27 - sz σ) ≤ _ by have q1 := hm.2.2; omega) ?_
      exact ret_i hx hb hr hlocks hg hz17 hm h dX8_clears_60
    · have h := h.2 c11
      refine lv_aload_n hx hb dX8_clears_15 rfl (lv_at hl 0 rfl) ?_
      refine call_i (run_V (a := ea E 0) (As := []) (rest := []) ⟨hx, hb, hml, hown, hts⟩ (ctX8_bad l E  s8 _  h) (cwV 0 hts gX8_clears_X8_bad rfl rfl rfl ⟨rfl, hdX8_bad⟩ ⟨Nat.le_of_ble_eq_true rfl, Nat.le_of_ble_eq_true rfl⟩) hK hN hg (recv_x (ci := 8) (C := RX8) (T := TX8) (N := 14) hg hK (by decide) rfl (by decide) rfl) rfl hl.1 rfl (cat_sum _ (by simp)) dX8_clears_16 (show (sz s8 - sz σ) + 0 ≤ tp - sz σ ∧ 9 * (sz s8 - sz σ) + 0 ≤ 9 * (tp - sz σ) by have q1 := hm.2.1; have q2 := hm.2.2; omega)) hg (fun r31 s30 H locs hz32 hm2 h hg => ?_)
      have hm := hm.tn hm2
      refine W_narrow hg hH (show sz s30 ≤ sz σ + (sz s30 - sz σ) by have q1 := hm.2.1; omega) (Nat.le_refl _) ?_
      refine W.widen (k := tp - sz σ) (n := 9 * (tp - sz σ)) (show sz s30 - sz σ ≤ _ by have q1 := hm.2.2; omega) (show 9 * (sz s30 - sz σ) ≤ _ by have q1 := hm.2.2; omega) ?_
      exact ret_i hx hb hr hlocks hg hz32 hm h dX8_clears_19
theorem hdX8_scatter : yX8_scatter.cls ≠ "java/lang/invoke/MethodHandle" ∧ yX8_scatter.cls ≠ "java/lang/invoke/VarHandle" ∧ (parseMethodDescriptor yX8_scatter.desc).map (fun d => d.parameters.length) = some 3 := by decide +kernel
set_option maxRecDepth 100000 in
set_option maxHeartbeats 4000000 in
theorem ctX8_scatter (l : Launch) (E : Ev) (tp : Nat) (a1 : Int) (a2 : Int) (a3 : Int) (σ : SS) (Q : Int → SS → Prop) (ha1 : R32 a1) (ha2 : R32 a2) (ha3 : R32 a3) (ht : sz σ ≤ tp) (h : wX8_scatter tp a1 a2 a3 σ Q) : Met l yX8_scatter wsX8_scatter ({ frames := 96, cells := tp - sz σ, slots := 9 * (tp - sz σ), locals := 2454 } : Room) (Pc E σ [.ref (ea E 0), .int (iI (a1)), .int (iI (a2)), .int (iI (a3))]) (Qi E tp σ Q) (tp - sz σ) (9 * (tp - sz σ)) (Av E) := by
  rw [wX8_scatter] at h
  refine Met.ofW (cc := cX8_scatter) (maxL := 9) (ret := (some .int)) (by decide) rfl ?_
  intro p e s m args below meth c s₁ B hml hv
  obtain ⟨rfl, hH, hK, hN⟩ := hv
  have hx := B.exec
  have hb := B.bytes
  have hr := B.returns
  have hts := atoms_spec (ws := wsX8_scatter) B.pre
  have hown : s.vm.findClass RX8 = some m.cls := findClass_of_methodNamed B.named
  have hlocks := B.notSynchronized
  have hg : GS E σ s s.heap [] := ⟨hH, va_S.rf⟩
  have hm : Mo tp σ σ := Mo.rf ht
  have hl := ent (vs := [.ref (ea E 0), .int (iI (a1)), .int (iI (a2)), .int (iI (a3))]) (n := 9) (cats_x (cats_i (cats_i (cats_i cats_nil)))) (Nat.le_of_ble_eq_true rfl)
  rw [lg_entry_eq]
  generalize (lg_sl ([.ref (ea E 0), .int (iI (a1)), .int (iI (a2)), .int (iI (a3))]) ++ List.replicate (9 - (lg_sl ([.ref (ea E 0), .int (iI (a1)), .int (iI (a2)), .int (iI (a3))])).length) Slot.unset).toArray = ls at hl ⊢
  have hl : lv_has ls 9 [(0, .ref (ea E 0)), (1, .int (iI (a1))), (2, .int (iI (a2))), (3, .int (iI (a3)))] := hl
  refine W_narrow hg hH (show sz σ ≤ sz σ + (sz σ - sz σ) by omega) (show 9 * (sz σ - sz σ) ≤ 9 * (sz σ - sz σ) from Nat.le_refl _) ?_
  have J51 : ∀ (k : Nat), ∀ (v4 : Option Nat) (v5 : Int) (v7 : Int) (sL : SS) (H : Heap) (locs : List Loc) (ls : Array Slot), (∀ b, v4 = some b → sS sL b) → GS E sL s H locs → Mo tp σ sL → lv_has ls 9 [(0, .ref (ea E 0)), (1, .int (iI (a1))), (3, .int (iI (a3))), (4, va_rf (v4)), (5, .long (lI (v5))), (7, .int (iI (v7)))] → wX8_scatter_L51 tp a1 a2 a3 Q  k v4 v5 v7 sL → W p l e (headSpec wsX8_scatter ({ frames := 96, cells := tp - sz σ, slots := 9 * (tp - sz σ), locals := 2454 } : Room)).room s m (List.toArray [.ref (ea E 0), .int (iI (a1)), .int (iI (a2)), .int (iI (a3))]) below meth c H locs (sz sL - sz σ) (9 * (sz sL - sz σ)) (MQ below (Qi E tp σ Q) (List.toArray [.ref (ea E 0), .int (iI (a1)), .int (iI (a2)), .int (iI (a3))]) s (tp - sz σ) (9 * (tp - sz σ)) (Av E)) (F0 m 51 ls []) := by
    intro k
    induction k with
    | zero => intro v4 v5 v7 sL H locs ls mv4 hg hm hl h; exact False.elim h
    | succ k ih =>
      intro v4 v5 v7 sL H locs ls mv4 hg hm hl h
      rw [wX8_scatter_L51] at h
      refine lv_iload hx hb dX8_scatter_51 (lv_at hl 5 rfl) ?_
      refine lv_iload_n hx hb dX8_scatter_53 rfl (lv_at hl 2 rfl) ?_
      obtain ⟨hR28, h⟩ := h
      refine j_ge (tgt := 167) hx hb dX8_scatter_54 (by decide) hR28 ha3 (fun c29 => ?_) (fun c29 => ?_)
      · have h := h.1 c29
        refine lv_aload_n hx hb dX8_scatter_167 rfl (lv_at hl 0 rfl) ?_
        refine lv_iload_n hx hb dX8_scatter_168 rfl (lv_at hl 1 rfl) ?_
        refine q_aload hx hb dX8_scatter_169 (lv_at hl 3 rfl) ?_
        refine call_i (run_V (a := ea E 0) (As := [.int (iI (a1)), va_rf (v4)]) (rest := []) ⟨hx, hb, hml, hown, hts⟩ (ctX8_settle l E a1 v4 sL _ ha1 mv4 h) (cwV 2 hts gX8_scatter_X8_settle rfl rfl rfl ⟨rfl, hdX8_settle⟩ ⟨Nat.le_of_ble_eq_true rfl, Nat.le_of_ble_eq_true rfl⟩) hK hN hg (recv_x (ci := 8) (C := RX8) (T := TX8) (N := 14) hg hK (by decide) rfl (by decide) rfl) rfl hl.1 rfl (cat_sum _ (by simp)) dX8_scatter_171 (show (sz sL - sz σ) + 0 ≤ tp - sz σ ∧ 9 * (sz sL - sz σ) + 0 ≤ 9 * (tp - sz σ) by have q1 := hm.2.1; have q2 := hm.2.2; omega)) hg (fun r31 s30 H locs hz32 hm2 h hg => ?_)
        have hS33 : ∀ b, v4 = some b → sS s30 b := (fun b h0 => hm2.1 b (mv4 b h0))
        have hm := hm.tn hm2
        refine W_narrow hg hH (show sz s30 ≤ sz σ + (sz s30 - sz σ) by have q1 := hm.2.1; omega) (Nat.le_refl _) ?_
        refine W.widen (k := tp - sz σ) (n := 9 * (tp - sz σ)) (show sz s30 - sz σ ≤ _ by have q1 := hm.2.2; omega) (show 9 * (sz s30 - sz σ) ≤ _ by have q1 := hm.2.2; omega) ?_
        exact ret_i hx hb hr hlocks hg hz32 hm h dX8_scatter_174
      · have h := h.2 c29
        refine lv_lload hx hb dX8_scatter_57 (lv_at hl 4 rfl) ?_
        refine q_ldc2 (z := 1103515245) hx hb hown (hts (.constantLong RX8 212 (1103515245)) (List.mem_cons_of_mem _ (List.mem_append_left _ (List.mem_append_left _ (List.mem_append_left _ (List.mem_append_left _ (List.mem_append_left _ (List.mem_append_left _ (List.mem_of_getElem? (i := 2) rfl))))))))) (by decide) dX8_scatter_59 ?_
        refine q_lmul hx hb dX8_scatter_62 ?_
        refine q_ldc2 (z := 12345) hx hb hown (hts (.constantLong RX8 214 (12345)) (List.mem_cons_of_mem _ (List.mem_append_left _ (List.mem_append_left _ (List.mem_append_left _ (List.mem_append_left _ (List.mem_append_left _ (List.mem_append_left _ (List.mem_of_getElem? (i := 3) rfl))))))))) (by decide) dX8_scatter_63 ?_
        refine q_ladd hx hb dX8_scatter_66 ?_
        refine q_ldc2 (z := 2147483648) hx hb hown (hts (.constantLong RX8 216 (2147483648)) (List.mem_cons_of_mem _ (List.mem_append_left _ (List.mem_append_left _ (List.mem_append_left _ (List.mem_append_left _ (List.mem_append_left _ (List.mem_append_left _ (List.mem_of_getElem? (i := 4) rfl))))))))) (by decide) dX8_scatter_67 ?_
        obtain ⟨hR34, hP35, h⟩ := h
        refine q_lrem hx hb hR34 hP35 (by decide) (by decide) dX8_scatter_70 ?_
        refine lv_lstore (i := 5) (lv' := [(5, .long (lI ((((v5 * 1103515245) + 12345) % 2147483648)))), (0, .ref (ea E 0)), (1, .int (iI (a1))), (3, .int (iI (a3))), (4, va_rf (v4)), (7, .int (iI (v7)))]) hx hb dX8_scatter_71 hl (by decide) (by simp [List.filter_cons, rf_cat, ct_i, ct_l, ct_x]) (fun ls hl => ?_)
        refine lv_lload hx hb dX8_scatter_73 (lv_at hl 0 rfl) ?_
        refine q_ldc2 (z := 65536) hx hb hown (hts (.constantLong RX8 218 (65536)) (List.mem_cons_of_mem _ (List.mem_append_left _ (List.mem_append_left _ (List.mem_append_left _ (List.mem_append_left _ (List.mem_append_left _ (List.mem_append_left _ (List.mem_of_getElem? (i := 5) rfl))))))))) (by decide) dX8_scatter_75 ?_
        obtain ⟨hR36, hP37, h⟩ := h
        refine q_ldiv hx hb hR36 hP37 (by decide) (by decide) dX8_scatter_78 ?_
        refine q_ldc2 (z := 1001) hx hb hown (hts (.constantLong RX8 220 (1001)) (List.mem_cons_of_mem _ (List.mem_append_left _ (List.mem_append_left _ (List.mem_append_left _ (List.mem_append_left _ (List.mem_append_left _ (List.mem_append_left _ (List.mem_of_getElem? (i := 6) rfl))))))))) (by decide) dX8_scatter_79 ?_
        obtain ⟨hR38, hP39, h⟩ := h
        refine q_lrem hx hb hR38 hP39 (by decide) (by decide) dX8_scatter_82 ?_
        refine q_l2i hx hb dX8_scatter_83 ?_
        refine lv_sipush (v := iI 500) hx hb dX8_scatter_84 (by decide) ?_
        refine q_isub hx hb dX8_scatter_87 ?_
        refine lv_istore (i := 8) (lv' := [(8, .int (iI (((((((v5 * 1103515245) + 12345) % 2147483648) / 65536) % 1001) - 500)))), (5, .long (lI ((((v5 * 1103515245) + 12345) % 2147483648)))), (0, .ref (ea E 0)), (1, .int (iI (a1))), (3, .int (iI (a3))), (4, va_rf (v4)), (7, .int (iI (v7)))]) hx hb dX8_scatter_88 hl (by decide) (by simp [List.filter_cons, rf_cat, ct_i, ct_l, ct_x]) (fun ls hl => ?_)
        refine lv_lload hx hb dX8_scatter_90 (lv_at hl 1 rfl) ?_
        refine q_ldc2 (z := 1024) hx hb hown (hts (.constantLong RX8 222 (1024)) (List.mem_cons_of_mem _ (List.mem_append_left _ (List.mem_append_left _ (List.mem_append_left _ (List.mem_append_left _ (List.mem_append_left _ (List.mem_append_left _ (List.mem_of_getElem? (i := 7) rfl))))))))) (by decide) dX8_scatter_92 ?_
        obtain ⟨hR40, hP41, h⟩ := h
        refine q_ldiv hx hb hR40 hP41 (by decide) (by decide) dX8_scatter_95 ?_
        refine q_ldc2 (z := 4) hx hb hown (hts (.constantLong RX8 224 (4)) (List.mem_cons_of_mem _ (List.mem_append_left _ (List.mem_append_left _ (List.mem_append_left _ (List.mem_append_left _ (List.mem_append_left _ (List.mem_append_left _ (List.mem_of_getElem? (i := 8) rfl))))))))) (by decide) dX8_scatter_96 ?_
        obtain ⟨hR42, hP43, h⟩ := h
        refine q_lrem hx hb hR42 hP43 (by decide) (by decide) dX8_scatter_99 ?_
        refine lv_lconst (v := lI 0) hx hb dX8_scatter_100 (by decide) ?_
        obtain ⟨hR44, h⟩ := h
        refine l_ne (tgt := 121) hx hb dX8_scatter_101 dX8_scatter_102 (by decide) hR44 (by decide) (fun c45 => ?_) (fun c45 => ?_)
        · have h := h.1 c45
          refine lv_aload_n hx hb dX8_scatter_121 rfl (lv_at hl 2 rfl) ?_
          refine q_getx (ci := 8) (C := RX8) (T := TX8) (N := 14) (j := 1) hx hb hts (fun _ h9 => List.mem_cons_of_mem _ (List.mem_append_left _ (List.mem_append_left _ (List.mem_append_left _ (List.mem_append_left _ (List.mem_append_right _ h9)))))) hown hK hg 0 (by decide) rfl rfl (by decide) rfl 0 (by decide) (hts (.fieldLink RX8 10 "JoinMaps" "grove" "LJoinMaps$Grove;") (List.mem_cons_of_mem _ (List.mem_append_left _ (List.mem_append_left _ (List.mem_append_left _ (List.mem_append_left _ (List.mem_append_left _ (List.mem_append_left _ (List.mem_of_getElem? (i := 9) rfl))))))))) rfl rfl rfl dX8_scatter_122 ?_
          refine q_aload hx hb dX8_scatter_125 (lv_at hl 5 rfl) ?_
          refine lv_iload hx hb dX8_scatter_127 (lv_at hl 0 rfl) ?_
          refine lv_lload hx hb dX8_scatter_129 (lv_at hl 1 rfl) ?_
          refine q_ldc2 (z := 4096) hx hb hown (hts (.constantLong RX8 226 (4096)) (List.mem_cons_of_mem _ (List.mem_append_left _ (List.mem_append_left _ (List.mem_append_left _ (List.mem_append_left _ (List.mem_append_left _ (List.mem_append_left _ (List.mem_of_getElem? (i := 10) rfl))))))))) (by decide) dX8_scatter_131 ?_
          obtain ⟨hR46, hP47, h⟩ := h
          refine q_ldiv hx hb hR46 hP47 (by decide) (by decide) dX8_scatter_134 ?_
          refine q_ldc2 (z := 1000) hx hb hown (hts (.constantLong RX8 228 (1000)) (List.mem_cons_of_mem _ (List.mem_append_left _ (List.mem_append_left _ (List.mem_append_left _ (List.mem_append_left _ (List.mem_append_left _ (List.mem_append_left _ (List.mem_of_getElem? (i := 11) rfl))))))))) (by decide) dX8_scatter_135 ?_
          obtain ⟨hR48, hP49, h⟩ := h
          refine q_lrem hx hb hR48 hP49 (by decide) (by decide) dX8_scatter_138 ?_
          refine q_l2i hx hb dX8_scatter_139 ?_
          obtain ⟨hR50, hR51, h⟩ := h
          refine call_r (run_V (a := ea E 1) (As := [va_rf (v4), .int (iI (((((((v5 * 1103515245) + 12345) % 2147483648) / 65536) % 1001) - 500))), .int (iI ((((((v5 * 1103515245) + 12345) % 2147483648) / 4096) % 1000)))]) (rest := []) ⟨hx, hb, hml, hown, hts⟩ (ctX2_with l E tp v4 ((((((v5 * 1103515245) + 12345) % 2147483648) / 65536) % 1001) - 500) (((((v5 * 1103515245) + 12345) % 2147483648) / 4096) % 1000) sL _ mv4 hR50 hR51 hm.2.2 h) (cwV 3 hts gX8_scatter_X2_with rfl rfl rfl ⟨rfl, hdX2_with⟩ ⟨Nat.le_of_ble_eq_true rfl, Nat.le_of_ble_eq_true rfl⟩) hK hN hg (recv_x (ci := 2) (C := RX2) (T := TX2) (N := 4) hg hK (by decide) rfl (by decide) rfl) rfl hl.1 rfl (cat_sum _ (by simp)) dX8_scatter_140 (show (sz sL - sz σ) + (tp - sz sL) ≤ tp - sz σ ∧ 9 * (sz sL - sz σ) + 9 * (tp - sz sL) ≤ 9 * (tp - sz σ) by have q1 := hm.2.1; have q2 := hm.2.2; omega)) hg (fun r53 s52 H locs hz54 hm2 h hg => ?_)
          have hS55 : ∀ b, v4 = some b → sS s52 b := (fun b h0 => hm2.1 b (mv4 b h0))
          have hm := hm.ta hm2
          refine W_narrow hg hH (show sz s52 ≤ sz σ + (sz s52 - sz σ) by have q1 := hm.2.1; omega) (Nat.le_refl _) ?_
          refine q_astore (i := 4) (lv' := [(4, va_rf (r53)), (8, .int (iI (((((((v5 * 1103515245) + 12345) % 2147483648) / 65536) % 1001) - 500)))), (5, .long (lI ((((v5 * 1103515245) + 12345) % 2147483648)))), (0, .ref (ea E 0)), (1, .int (iI (a1))), (3, .int (iI (a3))), (7, .int (iI (v7)))]) hx hb dX8_scatter_143 hl (by decide) (by simp [List.filter_cons, rf_cat, ct_i, ct_l, ct_x]) (fun ls hl => ?_)
          refine q_aload hx hb dX8_scatter_145 (lv_at hl 0 rfl) ?_
          refine call_i (run_S (As := [va_rf (r53)]) (rest := []) ⟨hx, hb, hml, hown, hts⟩ (ctX3_countOf l E r53 s52 _ hz54 h) (va_cwS 1 hts gX8_scatter_X3_countOf rfl rfl rfl hdX3_countOf ⟨Nat.le_of_ble_eq_true rfl, Nat.le_of_ble_eq_true rfl⟩) hK hN hg rfl hl.1 rfl (cat_sum _ (by simp)) dX8_scatter_147 (show (sz s52 - sz σ) + 0 ≤ tp - sz σ ∧ 9 * (sz s52 - sz σ) + 0 ≤ 9 * (tp - sz σ) by have q1 := hm.2.1; have q2 := hm.2.2; omega)) hg (fun r57 s56 H locs hz58 hm2 h hg => ?_)
          have hS59 : ∀ b, r53 = some b → sS s56 b := (fun b h0 => hm2.1 b (hz54 b h0))
          have hm := hm.tn hm2
          refine W_narrow hg hH (show sz s56 ≤ sz σ + (sz s56 - sz σ) by have q1 := hm.2.1; omega) (Nat.le_refl _) ?_
          refine lv_sipush (v := iI 200) hx hb dX8_scatter_150 (by decide) ?_
          refine j_le (tgt := 161) hx hb dX8_scatter_153 (by decide) hz58 (by decide) (fun c60 => ?_) (fun c60 => ?_)
          · have h := h.1 c60
            refine lv_iinc (v := iI (v7 + 1)) (lv' := [(7, .int (iI (v7 + 1))), (4, va_rf (r53)), (8, .int (iI (((((((v5 * 1103515245) + 12345) % 2147483648) / 65536) % 1001) - 500)))), (5, .long (lI ((((v5 * 1103515245) + 12345) % 2147483648)))), (0, .ref (ea E 0)), (1, .int (iI (a1))), (3, .int (iI (a3)))]) hx hb dX8_scatter_161 hl (k := 6) rfl (iI_add _ _) (by decide) (by simp [List.filter_cons, rf_cat, ct_i, ct_l, ct_x]) (fun ls hl => ?_)
            refine lv_goto (tgt := 51) hx hb dX8_scatter_164 (by decide) ?_
            exact ih (r53) ((((v5 * 1103515245) + 12345) % 2147483648)) (v7 + 1) (s56) _ _ _ hS59 hg hm (lv_sub hl [4, 5, 6, 1, 3, 0] rfl) h
          · have h := h.2 c60
            refine lv_aload_n hx hb dX8_scatter_156 rfl (lv_at hl 3 rfl) ?_
            refine call_i (run_V (a := ea E 0) (As := []) (rest := []) ⟨hx, hb, hml, hown, hts⟩ (ctX8_full l E  s56 _  h) (cwV 0 hts gX8_scatter_X8_full rfl rfl rfl ⟨rfl, hdX8_full⟩ ⟨Nat.le_of_ble_eq_true rfl, Nat.le_of_ble_eq_true rfl⟩) hK hN hg (recv_x (ci := 8) (C := RX8) (T := TX8) (N := 14) hg hK (by decide) rfl (by decide) rfl) rfl hl.1 rfl (cat_sum _ (by simp)) dX8_scatter_157 (show (sz s56 - sz σ) + 0 ≤ tp - sz σ ∧ 9 * (sz s56 - sz σ) + 0 ≤ 9 * (tp - sz σ) by have q1 := hm.2.1; have q2 := hm.2.2; omega)) hg (fun r62 s61 H locs hz63 hm2 h hg => ?_)
            have hS64 : ∀ b, r53 = some b → sS s61 b := (fun b h0 => hm2.1 b (hS59 b h0))
            have hm := hm.tn hm2
            refine W_narrow hg hH (show sz s61 ≤ sz σ + (sz s61 - sz σ) by have q1 := hm.2.1; omega) (Nat.le_refl _) ?_
            refine W.widen (k := tp - sz σ) (n := 9 * (tp - sz σ)) (show sz s61 - sz σ ≤ _ by have q1 := hm.2.2; omega) (show 9 * (sz s61 - sz σ) ≤ _ by have q1 := hm.2.2; omega) ?_
            exact ret_i hx hb hr hlocks hg hz63 hm h dX8_scatter_160
        · have h := h.2 c45
          refine lv_aload_n hx hb dX8_scatter_105 rfl (lv_at hl 2 rfl) ?_
          refine q_getx (ci := 8) (C := RX8) (T := TX8) (N := 14) (j := 1) hx hb hts (fun _ h9 => List.mem_cons_of_mem _ (List.mem_append_left _ (List.mem_append_left _ (List.mem_append_left _ (List.mem_append_left _ (List.mem_append_right _ h9)))))) hown hK hg 0 (by decide) rfl rfl (by decide) rfl 0 (by decide) (hts (.fieldLink RX8 10 "JoinMaps" "grove" "LJoinMaps$Grove;") (List.mem_cons_of_mem _ (List.mem_append_left _ (List.mem_append_left _ (List.mem_append_left _ (List.mem_append_left _ (List.mem_append_left _ (List.mem_append_left _ (List.mem_of_getElem? (i := 9) rfl))))))))) rfl rfl rfl dX8_scatter_106 ?_
          refine q_aload hx hb dX8_scatter_109 (lv_at hl 5 rfl) ?_
          refine lv_iload hx hb dX8_scatter_111 (lv_at hl 0 rfl) ?_
          refine lv_iload hx hb dX8_scatter_113 (lv_at hl 0 rfl) ?_
          obtain ⟨hR65, h⟩ := h
          refine call_r (run_V (a := ea E 1) (As := [va_rf (v4), .int (iI (((((((v5 * 1103515245) + 12345) % 2147483648) / 65536) % 1001) - 500))), .int (iI (((((((v5 * 1103515245) + 12345) % 2147483648) / 65536) % 1001) - 500)))]) (rest := []) ⟨hx, hb, hml, hown, hts⟩ (ctX2_without l E tp v4 ((((((v5 * 1103515245) + 12345) % 2147483648) / 65536) % 1001) - 500) ((((((v5 * 1103515245) + 12345) % 2147483648) / 65536) % 1001) - 500) sL _ mv4 hR65 hR65 hm.2.2 h) (cwV 3 hts gX8_scatter_X2_without rfl rfl rfl ⟨rfl, hdX2_without⟩ ⟨Nat.le_of_ble_eq_true rfl, Nat.le_of_ble_eq_true rfl⟩) hK hN hg (recv_x (ci := 2) (C := RX2) (T := TX2) (N := 4) hg hK (by decide) rfl (by decide) rfl) rfl hl.1 rfl (cat_sum _ (by simp)) dX8_scatter_115 (show (sz sL - sz σ) + (tp - sz sL) ≤ tp - sz σ ∧ 9 * (sz sL - sz σ) + 9 * (tp - sz sL) ≤ 9 * (tp - sz σ) by have q1 := hm.2.1; have q2 := hm.2.2; omega)) hg (fun r67 s66 H locs hz68 hm2 h hg => ?_)
          have hS69 : ∀ b, v4 = some b → sS s66 b := (fun b h0 => hm2.1 b (mv4 b h0))
          have hm := hm.ta hm2
          refine W_narrow hg hH (show sz s66 ≤ sz σ + (sz s66 - sz σ) by have q1 := hm.2.1; omega) (Nat.le_refl _) ?_
          refine lv_goto (tgt := 143) hx hb dX8_scatter_118 (by decide) ?_
          refine q_astore (i := 4) (lv' := [(4, va_rf (r67)), (8, .int (iI (((((((v5 * 1103515245) + 12345) % 2147483648) / 65536) % 1001) - 500)))), (5, .long (lI ((((v5 * 1103515245) + 12345) % 2147483648)))), (0, .ref (ea E 0)), (1, .int (iI (a1))), (3, .int (iI (a3))), (7, .int (iI (v7)))]) hx hb dX8_scatter_143 hl (by decide) (by simp [List.filter_cons, rf_cat, ct_i, ct_l, ct_x]) (fun ls hl => ?_)
          refine q_aload hx hb dX8_scatter_145 (lv_at hl 0 rfl) ?_
          refine call_i (run_S (As := [va_rf (r67)]) (rest := []) ⟨hx, hb, hml, hown, hts⟩ (ctX3_countOf l E r67 s66 _ hz68 h) (va_cwS 1 hts gX8_scatter_X3_countOf rfl rfl rfl hdX3_countOf ⟨Nat.le_of_ble_eq_true rfl, Nat.le_of_ble_eq_true rfl⟩) hK hN hg rfl hl.1 rfl (cat_sum _ (by simp)) dX8_scatter_147 (show (sz s66 - sz σ) + 0 ≤ tp - sz σ ∧ 9 * (sz s66 - sz σ) + 0 ≤ 9 * (tp - sz σ) by have q1 := hm.2.1; have q2 := hm.2.2; omega)) hg (fun r71 s70 H locs hz72 hm2 h hg => ?_)
          have hS73 : ∀ b, r67 = some b → sS s70 b := (fun b h0 => hm2.1 b (hz68 b h0))
          have hm := hm.tn hm2
          refine W_narrow hg hH (show sz s70 ≤ sz σ + (sz s70 - sz σ) by have q1 := hm.2.1; omega) (Nat.le_refl _) ?_
          refine lv_sipush (v := iI 200) hx hb dX8_scatter_150 (by decide) ?_
          refine j_le (tgt := 161) hx hb dX8_scatter_153 (by decide) hz72 (by decide) (fun c74 => ?_) (fun c74 => ?_)
          · have h := h.1 c74
            refine lv_iinc (v := iI (v7 + 1)) (lv' := [(7, .int (iI (v7 + 1))), (4, va_rf (r67)), (8, .int (iI (((((((v5 * 1103515245) + 12345) % 2147483648) / 65536) % 1001) - 500)))), (5, .long (lI ((((v5 * 1103515245) + 12345) % 2147483648)))), (0, .ref (ea E 0)), (1, .int (iI (a1))), (3, .int (iI (a3)))]) hx hb dX8_scatter_161 hl (k := 6) rfl (iI_add _ _) (by decide) (by simp [List.filter_cons, rf_cat, ct_i, ct_l, ct_x]) (fun ls hl => ?_)
            refine lv_goto (tgt := 51) hx hb dX8_scatter_164 (by decide) ?_
            exact ih (r67) ((((v5 * 1103515245) + 12345) % 2147483648)) (v7 + 1) (s70) _ _ _ hS73 hg hm (lv_sub hl [4, 5, 6, 1, 3, 0] rfl) h
          · have h := h.2 c74
            refine lv_aload_n hx hb dX8_scatter_156 rfl (lv_at hl 3 rfl) ?_
            refine call_i (run_V (a := ea E 0) (As := []) (rest := []) ⟨hx, hb, hml, hown, hts⟩ (ctX8_full l E  s70 _  h) (cwV 0 hts gX8_scatter_X8_full rfl rfl rfl ⟨rfl, hdX8_full⟩ ⟨Nat.le_of_ble_eq_true rfl, Nat.le_of_ble_eq_true rfl⟩) hK hN hg (recv_x (ci := 8) (C := RX8) (T := TX8) (N := 14) hg hK (by decide) rfl (by decide) rfl) rfl hl.1 rfl (cat_sum _ (by simp)) dX8_scatter_157 (show (sz s70 - sz σ) + 0 ≤ tp - sz σ ∧ 9 * (sz s70 - sz σ) + 0 ≤ 9 * (tp - sz σ) by have q1 := hm.2.1; have q2 := hm.2.2; omega)) hg (fun r76 s75 H locs hz77 hm2 h hg => ?_)
            have hS78 : ∀ b, r67 = some b → sS s75 b := (fun b h0 => hm2.1 b (hS73 b h0))
            have hm := hm.tn hm2
            refine W_narrow hg hH (show sz s75 ≤ sz σ + (sz s75 - sz σ) by have q1 := hm.2.1; omega) (Nat.le_refl _) ?_
            refine W.widen (k := tp - sz σ) (n := 9 * (tp - sz σ)) (show sz s75 - sz σ ≤ _ by have q1 := hm.2.2; omega) (show 9 * (sz s75 - sz σ) ≤ _ by have q1 := hm.2.2; omega) ?_
            exact ret_i hx hb hr hlocks hg hz77 hm h dX8_scatter_160
  refine lv_iload_n hx hb dX8_scatter_0 rfl (lv_at hl 1 rfl) ?_
  refine call_z (run_S (As := [.int (iI (a1))]) (rest := []) ⟨hx, hb, hml, hown, hts⟩ (ctX8_isMap l E a1 σ _ ha1 h) (va_cwS 1 hts gX8_scatter_X8_isMap rfl rfl rfl hdX8_isMap ⟨Nat.le_of_ble_eq_true rfl, Nat.le_of_ble_eq_true rfl⟩) hK hN hg rfl hl.1 rfl (cat_sum _ (by simp)) dX8_scatter_1 (show (sz σ - sz σ) + 0 ≤ tp - sz σ ∧ 9 * (sz σ - sz σ) + 0 ≤ 9 * (tp - sz σ) by have q1 := hm.2.1; have q2 := hm.2.2; omega)) hg (fun r2 s1 H locs hz3 hm2 h hg => ?_)
  have hm := hm.tn hm2
  refine W_narrow hg hH (show sz s1 ≤ sz σ + (sz s1 - sz σ) by have q1 := hm.2.1; omega) (Nat.le_refl _) ?_
  refine k_eq (tgt := 27) hx hb dX8_scatter_4 (by decide) (z_R hz3) (fun c4 => ?_) (fun c4 => ?_)
  · have h := h.1 c4
    refine lv_aload_n hx hb dX8_scatter_27 rfl (lv_at hl 0 rfl) ?_
    refine call_i (run_V (a := ea E 0) (As := []) (rest := []) ⟨hx, hb, hml, hown, hts⟩ (ctX8_bad l E  s1 _  h) (cwV 0 hts gX8_scatter_X8_bad rfl rfl rfl ⟨rfl, hdX8_bad⟩ ⟨Nat.le_of_ble_eq_true rfl, Nat.le_of_ble_eq_true rfl⟩) hK hN hg (recv_x (ci := 8) (C := RX8) (T := TX8) (N := 14) hg hK (by decide) rfl (by decide) rfl) rfl hl.1 rfl (cat_sum _ (by simp)) dX8_scatter_28 (show (sz s1 - sz σ) + 0 ≤ tp - sz σ ∧ 9 * (sz s1 - sz σ) + 0 ≤ 9 * (tp - sz σ) by have q1 := hm.2.1; have q2 := hm.2.2; omega)) hg (fun r6 s5 H locs hz7 hm2 h hg => ?_)
    have hm := hm.tn hm2
    refine W_narrow hg hH (show sz s5 ≤ sz σ + (sz s5 - sz σ) by have q1 := hm.2.1; omega) (Nat.le_refl _) ?_
    refine W.widen (k := tp - sz σ) (n := 9 * (tp - sz σ)) (show sz s5 - sz σ ≤ _ by have q1 := hm.2.2; omega) (show 9 * (sz s5 - sz σ) ≤ _ by have q1 := hm.2.2; omega) ?_
    exact ret_i hx hb hr hlocks hg hz7 hm h dX8_scatter_31
  · have h := h.2 c4
    refine lv_iload_n hx hb dX8_scatter_7 rfl (lv_at hl 2 rfl) ?_
    refine lv_iconst (v := iI 0) hx hb dX8_scatter_8 (by decide) ?_
    refine q_ldc (z := 999999) hx hb hown (hts (.constant RX8 211 (999999)) (List.mem_cons_of_mem _ (List.mem_append_left _ (List.mem_append_left _ (List.mem_append_left _ (List.mem_append_left _ (List.mem_append_left _ (List.mem_append_left _ (List.mem_of_getElem? (i := 0) rfl))))))))) (by decide) dX8_scatter_9 ?_
    refine call_z (run_S (As := [.int (iI (a2)), .int (iI (0)), .int (iI (999999))]) (rest := []) ⟨hx, hb, hml, hown, hts⟩ (ctX8_isIn l E a2 0 999999 s1 _ ha2 (by decide) (by decide) h) (va_cwS 3 hts gX8_scatter_X8_isIn rfl rfl rfl hdX8_isIn ⟨Nat.le_of_ble_eq_true rfl, Nat.le_of_ble_eq_true rfl⟩) hK hN hg rfl hl.1 rfl (cat_sum _ (by simp)) dX8_scatter_11 (show (sz s1 - sz σ) + 0 ≤ tp - sz σ ∧ 9 * (sz s1 - sz σ) + 0 ≤ 9 * (tp - sz σ) by have q1 := hm.2.1; have q2 := hm.2.2; omega)) hg (fun r9 s8 H locs hz10 hm2 h hg => ?_)
    have hm := hm.tn hm2
    refine W_narrow hg hH (show sz s8 ≤ sz σ + (sz s8 - sz σ) by have q1 := hm.2.1; omega) (Nat.le_refl _) ?_
    refine k_eq (tgt := 27) hx hb dX8_scatter_14 (by decide) (z_R hz10) (fun c11 => ?_) (fun c11 => ?_)
    · have h := h.1 c11
      refine lv_aload_n hx hb dX8_scatter_27 rfl (lv_at hl 0 rfl) ?_
      refine call_i (run_V (a := ea E 0) (As := []) (rest := []) ⟨hx, hb, hml, hown, hts⟩ (ctX8_bad l E  s8 _  h) (cwV 0 hts gX8_scatter_X8_bad rfl rfl rfl ⟨rfl, hdX8_bad⟩ ⟨Nat.le_of_ble_eq_true rfl, Nat.le_of_ble_eq_true rfl⟩) hK hN hg (recv_x (ci := 8) (C := RX8) (T := TX8) (N := 14) hg hK (by decide) rfl (by decide) rfl) rfl hl.1 rfl (cat_sum _ (by simp)) dX8_scatter_28 (show (sz s8 - sz σ) + 0 ≤ tp - sz σ ∧ 9 * (sz s8 - sz σ) + 0 ≤ 9 * (tp - sz σ) by have q1 := hm.2.1; have q2 := hm.2.2; omega)) hg (fun r13 s12 H locs hz14 hm2 h hg => ?_)
      have hm := hm.tn hm2
      refine W_narrow hg hH (show sz s12 ≤ sz σ + (sz s12 - sz σ) by have q1 := hm.2.1; omega) (Nat.le_refl _) ?_
      refine W.widen (k := tp - sz σ) (n := 9 * (tp - sz σ)) (show sz s12 - sz σ ≤ _ by have q1 := hm.2.2; omega) (show 9 * (sz s12 - sz σ) ≤ _ by have q1 := hm.2.2; omega) ?_
      exact ret_i hx hb hr hlocks hg hz14 hm h dX8_scatter_31
    · have h := h.2 c11
      refine lv_iload_n hx hb dX8_scatter_17 rfl (lv_at hl 3 rfl) ?_
      refine lv_iconst (v := iI 0) hx hb dX8_scatter_18 (by decide) ?_
      refine lv_bipush (v := iI 100) hx hb dX8_scatter_19 (by decide) ?_
      refine call_z (run_S (As := [.int (iI (a3)), .int (iI (0)), .int (iI (100))]) (rest := []) ⟨hx, hb, hml, hown, hts⟩ (ctX8_isIn l E a3 0 100 s8 _ ha3 (by decide) (by decide) h) (va_cwS 3 hts gX8_scatter_X8_isIn rfl rfl rfl hdX8_isIn ⟨Nat.le_of_ble_eq_true rfl, Nat.le_of_ble_eq_true rfl⟩) hK hN hg rfl hl.1 rfl (cat_sum _ (by simp)) dX8_scatter_21 (show (sz s8 - sz σ) + 0 ≤ tp - sz σ ∧ 9 * (sz s8 - sz σ) + 0 ≤ 9 * (tp - sz σ) by have q1 := hm.2.1; have q2 := hm.2.2; omega)) hg (fun r16 s15 H locs hz17 hm2 h hg => ?_)
      have hm := hm.tn hm2
      refine W_narrow hg hH (show sz s15 ≤ sz σ + (sz s15 - sz σ) by have q1 := hm.2.1; omega) (Nat.le_refl _) ?_
      refine k_ne (tgt := 32) hx hb dX8_scatter_24 (by decide) (z_R hz17) (fun c18 => ?_) (fun c18 => ?_)
      · have h := h.1 c18
        refine lv_aload_n hx hb dX8_scatter_32 rfl (lv_at hl 0 rfl) ?_
        refine call_v (run_V (a := ea E 0) (As := []) (rest := []) ⟨hx, hb, hml, hown, hts⟩ (ctX8_startChange l E  s15 _  h) (cwV 0 hts gX8_scatter_X8_startChange rfl rfl rfl ⟨rfl, hdX8_startChange⟩ ⟨Nat.le_of_ble_eq_true rfl, Nat.le_of_ble_eq_true rfl⟩) hK hN hg (recv_x (ci := 8) (C := RX8) (T := TX8) (N := 14) hg hK (by decide) rfl (by decide) rfl) rfl hl.1 rfl (cat_sum _ (by simp)) dX8_scatter_33 (show (sz s15 - sz σ) + 0 ≤ tp - sz σ ∧ 9 * (sz s15 - sz σ) + 0 ≤ 9 * (tp - sz σ) by have q1 := hm.2.1; have q2 := hm.2.2; omega)) hg (fun s19 H locs hm2 h hg => ?_)
        have hm := hm.tn hm2
        refine W_narrow hg hH (show sz s19 ≤ sz σ + (sz s19 - sz σ) by have q1 := hm.2.1; omega) (Nat.le_refl _) ?_
        refine lv_aload_n hx hb dX8_scatter_36 rfl (lv_at hl 0 rfl) ?_
        refine q_getx (ci := 8) (C := RX8) (T := TX8) (N := 14) (j := 3) hx hb hts (fun _ h9 => List.mem_cons_of_mem _ (List.mem_append_left _ (List.mem_append_left _ (List.mem_append_left _ (List.mem_append_left _ (List.mem_append_right _ h9)))))) hown hK hg 0 (by decide) rfl rfl (by decide) rfl 2 (by decide) (hts (.fieldLink RX8 27 "JoinMaps" "maps" "[LJoinMaps$Node;") (List.mem_cons_of_mem _ (List.mem_append_left _ (List.mem_append_left _ (List.mem_append_left _ (List.mem_append_left _ (List.mem_append_left _ (List.mem_append_left _ (List.mem_of_getElem? (i := 1) rfl))))))))) rfl rfl rfl dX8_scatter_37 ?_
        refine lv_iload_n hx hb dX8_scatter_40 rfl (lv_at hl 1 rfl) ?_
        obtain ⟨hP22, hP23, h⟩ := h
        refine q_aald (N := 6) hx hb hK hg 3 (by decide) rfl rfl hP22 hP23 (by decide) dX8_scatter_41 ?_
        have hS24 : ∀ b, (sf s19 3 (a1 : Int).toNat) = some b → sS s19 b := fun b h0 => GS_F hg h0
        refine q_astore (i := 4) (lv' := [(4, va_rf ((sf s19 3 (a1 : Int).toNat))), (0, .ref (ea E 0)), (1, .int (iI (a1))), (2, .int (iI (a2))), (3, .int (iI (a3)))]) hx hb dX8_scatter_42 hl (by decide) (by simp [List.filter_cons, rf_cat, ct_i, ct_l, ct_x]) (fun ls hl => ?_)
        refine lv_iload_n hx hb dX8_scatter_44 rfl (lv_at hl 3 rfl) ?_
        refine q_i2l hx hb ha2 dX8_scatter_45 ?_
        refine lv_lstore (i := 5) (lv' := [(5, .long (lI (a2))), (4, va_rf ((sf s19 3 (a1 : Int).toNat))), (0, .ref (ea E 0)), (1, .int (iI (a1))), (2, .int (iI (a2))), (3, .int (iI (a3)))]) hx hb dX8_scatter_46 hl (by decide) (by simp [List.filter_cons, rf_cat, ct_i, ct_l, ct_x]) (fun ls hl => ?_)
        refine lv_iconst (v := iI 0) hx hb dX8_scatter_48 (by decide) ?_
        refine lv_istore (i := 7) (lv' := [(7, .int (iI (0))), (5, .long (lI (a2))), (4, va_rf ((sf s19 3 (a1 : Int).toNat))), (0, .ref (ea E 0)), (1, .int (iI (a1))), (2, .int (iI (a2))), (3, .int (iI (a3)))]) hx hb dX8_scatter_49 hl (by decide) (by simp [List.filter_cons, rf_cat, ct_i, ct_l, ct_x]) (fun ls hl => ?_)
        obtain ⟨kk, h⟩ := h
        exact J51  kk ((sf s19 3 (a1 : Int).toNat)) (a2) (0) (s19) _ _ _ hS24 hg hm (lv_sub hl [3, 4, 6, 2, 1, 0] rfl) h
      · have h := h.2 c18
        refine lv_aload_n hx hb dX8_scatter_27 rfl (lv_at hl 0 rfl) ?_
        refine call_i (run_V (a := ea E 0) (As := []) (rest := []) ⟨hx, hb, hml, hown, hts⟩ (ctX8_bad l E  s15 _  h) (cwV 0 hts gX8_scatter_X8_bad rfl rfl rfl ⟨rfl, hdX8_bad⟩ ⟨Nat.le_of_ble_eq_true rfl, Nat.le_of_ble_eq_true rfl⟩) hK hN hg (recv_x (ci := 8) (C := RX8) (T := TX8) (N := 14) hg hK (by decide) rfl (by decide) rfl) rfl hl.1 rfl (cat_sum _ (by simp)) dX8_scatter_28 (show (sz s15 - sz σ) + 0 ≤ tp - sz σ ∧ 9 * (sz s15 - sz σ) + 0 ≤ 9 * (tp - sz σ) by have q1 := hm.2.1; have q2 := hm.2.2; omega)) hg (fun r26 s25 H locs hz27 hm2 h hg => ?_)
        have hm := hm.tn hm2
        refine W_narrow hg hH (show sz s25 ≤ sz σ + (sz s25 - sz σ) by have q1 := hm.2.1; omega) (Nat.le_refl _) ?_
        refine W.widen (k := tp - sz σ) (n := 9 * (tp - sz σ)) (show sz s25 - sz σ ≤ _ by have q1 := hm.2.2; omega) (show 9 * (sz s25 - sz σ) ≤ _ by have q1 := hm.2.2; omega) ?_
        exact ret_i hx hb hr hlocks hg hz27 hm h dX8_scatter_31
theorem hdX8_sound : yX8_sound.cls ≠ "java/lang/invoke/MethodHandle" ∧ yX8_sound.cls ≠ "java/lang/invoke/VarHandle" ∧ (parseMethodDescriptor yX8_sound.desc).map (fun d => d.parameters.length) = some 1 := by decide +kernel
set_option maxRecDepth 100000 in
set_option maxHeartbeats 4000000 in
theorem ctX8_sound (l : Launch) (E : Ev) (a1 : Int) (σ : SS) (Q : Int → SS → Prop) (ha1 : R32 a1) (h : wX8_sound a1 σ Q) : Met l yX8_sound wsX8_sound ({ frames := 47, cells := 0, slots := 0, locals := 1255 } : Room) (Pc E σ [.ref (ea E 0), .int (iI (a1))]) (Qi E (sz σ) σ Q) 0 0 (Av E) := by
  rw [wX8_sound] at h
  refine Met.ofW (cc := cX8_sound) (maxL := 2) (ret := (some .int)) (by decide) rfl ?_
  intro p e s m args below meth c s₁ B hml hv
  obtain ⟨rfl, hH, hK, hN⟩ := hv
  have hx := B.exec
  have hb := B.bytes
  have hr := B.returns
  have hts := atoms_spec (ws := wsX8_sound) B.pre
  have hown : s.vm.findClass RX8 = some m.cls := findClass_of_methodNamed B.named
  have hlocks := B.notSynchronized
  have hg : GS E σ s s.heap [] := ⟨hH, va_S.rf⟩
  have hm : Mo (sz σ) σ σ := Mo.rf (Nat.le_refl _)
  have hl := ent (vs := [.ref (ea E 0), .int (iI (a1))]) (n := 2) (cats_x (cats_i cats_nil)) (Nat.le_of_ble_eq_true rfl)
  rw [lg_entry_eq]
  generalize (lg_sl ([.ref (ea E 0), .int (iI (a1))]) ++ List.replicate (2 - (lg_sl ([.ref (ea E 0), .int (iI (a1))])).length) Slot.unset).toArray = ls at hl ⊢
  have hl : lv_has ls 2 [(0, .ref (ea E 0)), (1, .int (iI (a1)))] := hl
  refine lv_iload_n hx hb dX8_sound_0 rfl (lv_at hl 1 rfl) ?_
  refine call_z (run_S (As := [.int (iI (a1))]) (rest := []) ⟨hx, hb, hml, hown, hts⟩ (ctX8_isMap l E a1 σ _ ha1 h) (va_cwS 1 hts gX8_sound_X8_isMap rfl rfl rfl hdX8_isMap ⟨Nat.le_of_ble_eq_true rfl, Nat.le_of_ble_eq_true rfl⟩) hK hN hg rfl hl.1 rfl (cat_sum _ (by simp)) dX8_sound_1 ⟨Nat.le_refl 0, Nat.le_refl 0⟩) hg (fun r2 s1 H locs hz3 hm2 h hg => ?_)
  have hm := hm.tn hm2
  refine k_ne (tgt := 12) hx hb dX8_sound_4 (by decide) (z_R hz3) (fun c4 => ?_) (fun c4 => ?_)
  · have h := h.1 c4
    refine lv_aload_n hx hb dX8_sound_12 rfl (lv_at hl 0 rfl) ?_
    refine q_getx (ci := 8) (C := RX8) (T := TX8) (N := 14) (j := 3) hx hb hts (fun _ h9 => List.mem_cons_of_mem _ (List.mem_append_left _ (List.mem_append_right _ h9))) hown hK hg 0 (by decide) rfl rfl (by decide) rfl 2 (by decide) (hts (.fieldLink RX8 27 "JoinMaps" "maps" "[LJoinMaps$Node;") (List.mem_cons_of_mem _ (List.mem_append_left _ (List.mem_append_left _ (List.mem_append_left _ (List.mem_of_getElem? (i := 0) rfl)))))) rfl rfl rfl dX8_sound_13 ?_
    refine lv_iload_n hx hb dX8_sound_16 rfl (lv_at hl 1 rfl) ?_
    obtain ⟨hP5, hP6, h⟩ := h
    refine q_aald (N := 6) hx hb hK hg 3 (by decide) rfl rfl hP5 hP6 (by decide) dX8_sound_17 ?_
    have hS7 : ∀ b, (sf s1 3 (a1 : Int).toNat) = some b → sS s1 b := fun b h0 => GS_F hg h0
    refine lv_sipush (v := iI (-501)) hx hb dX8_sound_18 (by decide) ?_
    refine lv_sipush (v := iI 501) hx hb dX8_sound_21 (by decide) ?_
    refine lv_iconst (v := iI 0) hx hb dX8_sound_24 (by decide) ?_
    refine call_z (run_S (As := [va_rf ((sf s1 3 (a1 : Int).toNat)), .int (iI ((-501))), .int (iI (501)), .int (iI (0))]) (rest := []) ⟨hx, hb, hml, hown, hts⟩ (ctX2_isWell l E 44 (sf s1 3 (a1 : Int).toNat) (-501) 501 0 s1 _ hS7 (by decide) (by decide) (by decide) h) (va_cwS 4 hts gX8_sound_X2_isWell rfl rfl rfl hdX2_isWell ⟨Nat.le_of_ble_eq_true rfl, Nat.le_of_ble_eq_true rfl⟩) hK hN hg rfl hl.1 rfl (cat_sum _ (by simp)) dX8_sound_25 ⟨Nat.le_refl 0, Nat.le_refl 0⟩) hg (fun r9 s8 H locs hz10 hm2 h hg => ?_)
    have hm := hm.tn hm2
    refine k_eq (tgt := 35) hx hb dX8_sound_28 (by decide) (z_R hz10) (fun c11 => ?_) (fun c11 => ?_)
    · have h := h.1 c11
      refine lv_iconst (v := iI 0) hx hb dX8_sound_35 (by decide) ?_
      exact ret_i hx hb hr hlocks hg (by decide) hm h dX8_sound_36
    · have h := h.2 c11
      refine lv_iconst (v := iI 1) hx hb dX8_sound_31 (by decide) ?_
      refine lv_goto (tgt := 36) hx hb dX8_sound_32 (by decide) ?_
      exact ret_i hx hb hr hlocks hg (by decide) hm h dX8_sound_36
  · have h := h.2 c4
    refine lv_aload_n hx hb dX8_sound_7 rfl (lv_at hl 0 rfl) ?_
    refine call_i (run_V (a := ea E 0) (As := []) (rest := []) ⟨hx, hb, hml, hown, hts⟩ (ctX8_bad l E  s1 _  h) (cwV 0 hts gX8_sound_X8_bad rfl rfl rfl ⟨rfl, hdX8_bad⟩ ⟨Nat.le_of_ble_eq_true rfl, Nat.le_of_ble_eq_true rfl⟩) hK hN hg (recv_x (ci := 8) (C := RX8) (T := TX8) (N := 14) hg hK (by decide) rfl (by decide) rfl) rfl hl.1 rfl (cat_sum _ (by simp)) dX8_sound_8 ⟨Nat.le_refl 0, Nat.le_refl 0⟩) hg (fun r13 s12 H locs hz14 hm2 h hg => ?_)
    have hm := hm.tn hm2
    exact ret_i hx hb hr hlocks hg hz14 hm h dX8_sound_11
theorem hdX8_mixer : yX8_mixer.cls ≠ "java/lang/invoke/MethodHandle" ∧ yX8_mixer.cls ≠ "java/lang/invoke/VarHandle" ∧ (parseMethodDescriptor yX8_mixer.desc).map (fun d => d.parameters.length) = some 1 := by decide +kernel
set_option maxRecDepth 100000 in
set_option maxHeartbeats 4000000 in
theorem ctX8_mixer (l : Launch) (E : Ev) (a1 : Int) (σ : SS) (Q : Int → SS → Prop) (ha1 : R32 a1) (h : wX8_mixer a1 σ Q) : Met l yX8_mixer wsX8_mixer ({ frames := 1, cells := 0, slots := 0, locals := 22 } : Room) (Pc E σ [.ref (ea E 0), .int (iI (a1))]) (Qi E (sz σ) σ Q) 0 0 (Av E) := by
  rw [wX8_mixer] at h
  refine Met.ofW (cc := cX8_mixer) (maxL := 3) (ret := (some .int)) (by decide) rfl ?_
  intro p e s m args below meth c s₁ B hml hv
  obtain ⟨rfl, hH, hK, hN⟩ := hv
  have hx := B.exec
  have hb := B.bytes
  have hr := B.returns
  have hts := atoms_spec (ws := wsX8_mixer) B.pre
  have hown : s.vm.findClass RX8 = some m.cls := findClass_of_methodNamed B.named
  have hlocks := B.notSynchronized
  have hg : GS E σ s s.heap [] := ⟨hH, va_S.rf⟩
  have hm : Mo (sz σ) σ σ := Mo.rf (Nat.le_refl _)
  have hl := ent (vs := [.ref (ea E 0), .int (iI (a1))]) (n := 3) (cats_x (cats_i cats_nil)) (Nat.le_of_ble_eq_true rfl)
  rw [lg_entry_eq]
  generalize (lg_sl ([.ref (ea E 0), .int (iI (a1))]) ++ List.replicate (3 - (lg_sl ([.ref (ea E 0), .int (iI (a1))])).length) Slot.unset).toArray = ls at hl ⊢
  have hl : lv_has ls 3 [(0, .ref (ea E 0)), (1, .int (iI (a1)))] := hl
  refine lv_iload_n hx hb dX8_mixer_0 rfl (lv_at hl 1 rfl) ?_
  refine lv_iconst (v := iI 0) hx hb dX8_mixer_1 (by decide) ?_
  refine lv_iconst (v := iI 5) hx hb dX8_mixer_2 (by decide) ?_
  refine call_z (run_S (As := [.int (iI (a1)), .int (iI (0)), .int (iI (5))]) (rest := []) ⟨hx, hb, hml, hown, hts⟩ (ctX8_isIn l E a1 0 5 σ _ ha1 (by decide) (by decide) h) (va_cwS 3 hts gX8_mixer_X8_isIn rfl rfl rfl hdX8_isIn ⟨Nat.le_of_ble_eq_true rfl, Nat.le_of_ble_eq_true rfl⟩) hK hN hg rfl hl.1 rfl (cat_sum _ (by simp)) dX8_mixer_3 ⟨Nat.le_refl 0, Nat.le_refl 0⟩) hg (fun r2 s1 H locs hz3 hm2 h hg => ?_)
  have hm := hm.tn hm2
  refine k_ne (tgt := 14) hx hb dX8_mixer_6 (by decide) (z_R hz3) (fun c4 => ?_) (fun c4 => ?_)
  · have h := h.1 c4
    refine lv_aload_n hx hb dX8_mixer_14 rfl (lv_at hl 0 rfl) ?_
    refine q_getx (ci := 8) (C := RX8) (T := TX8) (N := 14) (j := 2) hx hb hts (fun _ h9 => List.mem_cons_of_mem _ (List.mem_append_left _ (List.mem_append_right _ h9))) hown hK hg 0 (by decide) rfl rfl (by decide) rfl 1 (by decide) (hts (.fieldLink RX8 21 "JoinMaps" "blender" "LJoinMaps$Blender;") (List.mem_cons_of_mem _ (List.mem_append_left _ (List.mem_append_left _ (List.mem_of_getElem? (i := 0) rfl))))) rfl rfl rfl dX8_mixer_15 ?_
    refine q_geti (ci := 1) (C := RX1) (T := TX1) (N := 2) hx hb hts (fun _ h9 => List.mem_cons_of_mem _ (List.mem_append_right _ h9)) hown hK hg 2 (by decide) rfl rfl (by decide) rfl 1 (by decide) (hts (.fieldLink RX8 234 "JoinMaps$Blender" "mixerKind" "I") (List.mem_cons_of_mem _ (List.mem_append_left _ (List.mem_append_left _ (List.mem_of_getElem? (i := 1) rfl))))) rfl rfl dX8_mixer_18 ?_
    have hR5 := GS_R hg 2 1
    refine lv_istore_n (i := 2) (lv' := [(2, .int (iI ((sn s1 2 1)))), (0, .ref (ea E 0)), (1, .int (iI (a1)))]) hx hb dX8_mixer_21 rfl hl (by decide) rfl (fun ls hl => ?_)
    refine lv_aload_n hx hb dX8_mixer_22 rfl (lv_at hl 1 rfl) ?_
    refine q_getx (ci := 8) (C := RX8) (T := TX8) (N := 14) (j := 2) hx hb hts (fun _ h9 => List.mem_cons_of_mem _ (List.mem_append_left _ (List.mem_append_right _ h9))) hown hK hg 0 (by decide) rfl rfl (by decide) rfl 1 (by decide) (hts (.fieldLink RX8 21 "JoinMaps" "blender" "LJoinMaps$Blender;") (List.mem_cons_of_mem _ (List.mem_append_left _ (List.mem_append_left _ (List.mem_of_getElem? (i := 0) rfl))))) rfl rfl rfl dX8_mixer_23 ?_
    refine lv_iload_n hx hb dX8_mixer_26 rfl (lv_at hl 2 rfl) ?_
    refine q_puti (ci := 1) (C := RX1) (T := TX1) (N := 2) hx hb hts (fun _ h9 => List.mem_cons_of_mem _ (List.mem_append_right _ h9)) tyX1 tyX1_ok nmX1 hown hK hg 2 (by decide) rfl rfl (by decide) rfl 1 (by decide) (hts (.fieldLink RX8 234 "JoinMaps$Blender" "mixerKind" "I") (List.mem_cons_of_mem _ (List.mem_append_left _ (List.mem_append_left _ (List.mem_of_getElem? (i := 1) rfl))))) rfl rfl (by decide +kernel) rfl ha1 dX8_mixer_27 (fun H locs hg => ?_)
    refine lv_iload_n hx hb dX8_mixer_30 rfl (lv_at hl 0 rfl) ?_
    exact ret_i hx hb hr hlocks hg hR5 hm h dX8_mixer_31
  · have h := h.2 c4
    refine lv_aload_n hx hb dX8_mixer_9 rfl (lv_at hl 0 rfl) ?_
    refine call_i (run_V (a := ea E 0) (As := []) (rest := []) ⟨hx, hb, hml, hown, hts⟩ (ctX8_bad l E  s1 _  h) (cwV 0 hts gX8_mixer_X8_bad rfl rfl rfl ⟨rfl, hdX8_bad⟩ ⟨Nat.le_of_ble_eq_true rfl, Nat.le_of_ble_eq_true rfl⟩) hK hN hg (recv_x (ci := 8) (C := RX8) (T := TX8) (N := 14) hg hK (by decide) rfl (by decide) rfl) rfl hl.1 rfl (cat_sum _ (by simp)) dX8_mixer_10 ⟨Nat.le_refl 0, Nat.le_refl 0⟩) hg (fun r7 s6 H locs hz8 hm2 h hg => ?_)
    have hm := hm.tn hm2
    exact ret_i hx hb hr hlocks hg hz8 hm h dX8_mixer_13
theorem hdX8_type : yX8_type.cls ≠ "java/lang/invoke/MethodHandle" ∧ yX8_type.cls ≠ "java/lang/invoke/VarHandle" ∧ (parseMethodDescriptor yX8_type.desc).map (fun d => d.parameters.length) = some 1 := by decide +kernel
set_option maxRecDepth 100000 in
set_option maxHeartbeats 4000000 in
theorem ctX8_type (l : Launch) (E : Ev) (a1 : Int) (σ : SS) (Q : Int → SS → Prop) (ha1 : R32 a1) (h : wX8_type a1 σ Q) : Met l yX8_type wsX8_type ({ frames := 1, cells := 0, slots := 0, locals := 22 } : Room) (Pc E σ [.ref (ea E 0), .int (iI (a1))]) (Qi E (sz σ) σ Q) 0 0 (Av E) := by
  rw [wX8_type] at h
  refine Met.ofW (cc := cX8_type) (maxL := 2) (ret := (some .int)) (by decide) rfl ?_
  intro p e s m args below meth c s₁ B hml hv
  obtain ⟨rfl, hH, hK, hN⟩ := hv
  have hx := B.exec
  have hb := B.bytes
  have hr := B.returns
  have hts := atoms_spec (ws := wsX8_type) B.pre
  have hown : s.vm.findClass RX8 = some m.cls := findClass_of_methodNamed B.named
  have hlocks := B.notSynchronized
  have hg : GS E σ s s.heap [] := ⟨hH, va_S.rf⟩
  have hm : Mo (sz σ) σ σ := Mo.rf (Nat.le_refl _)
  have hl := ent (vs := [.ref (ea E 0), .int (iI (a1))]) (n := 2) (cats_x (cats_i cats_nil)) (Nat.le_of_ble_eq_true rfl)
  rw [lg_entry_eq]
  generalize (lg_sl ([.ref (ea E 0), .int (iI (a1))]) ++ List.replicate (2 - (lg_sl ([.ref (ea E 0), .int (iI (a1))])).length) Slot.unset).toArray = ls at hl ⊢
  have hl : lv_has ls 2 [(0, .ref (ea E 0)), (1, .int (iI (a1)))] := hl
  refine lv_iload_n hx hb dX8_type_0 rfl (lv_at hl 1 rfl) ?_
  refine lv_iconst (v := iI 0) hx hb dX8_type_1 (by decide) ?_
  refine lv_bipush (v := iI 127) hx hb dX8_type_2 (by decide) ?_
  refine call_z (run_S (As := [.int (iI (a1)), .int (iI (0)), .int (iI (127))]) (rest := []) ⟨hx, hb, hml, hown, hts⟩ (ctX8_isIn l E a1 0 127 σ _ ha1 (by decide) (by decide) h) (va_cwS 3 hts gX8_type_X8_isIn rfl rfl rfl hdX8_isIn ⟨Nat.le_of_ble_eq_true rfl, Nat.le_of_ble_eq_true rfl⟩) hK hN hg rfl hl.1 rfl (cat_sum _ (by simp)) dX8_type_4 ⟨Nat.le_refl 0, Nat.le_refl 0⟩) hg (fun r2 s1 H locs hz3 hm2 h hg => ?_)
  have hm := hm.tn hm2
  refine k_ne (tgt := 15) hx hb dX8_type_7 (by decide) (z_R hz3) (fun c4 => ?_) (fun c4 => ?_)
  · have h := h.1 c4
    refine lv_aload_n hx hb dX8_type_15 rfl (lv_at hl 0 rfl) ?_
    refine q_geti (ci := 8) (C := RX8) (T := TX8) (N := 14) hx hb hts (fun _ h9 => List.mem_cons_of_mem _ (List.mem_append_right _ h9)) hown hK hg 0 (by decide) rfl rfl (by decide) rfl 10 (by decide) (hts (.fieldLink RX8 237 "JoinMaps" "typed" "I") (List.mem_cons_of_mem _ (List.mem_append_left _ (List.mem_of_getElem? (i := 0) rfl)))) rfl rfl dX8_type_16 ?_
    have hR5 := GS_R hg 0 10
    refine lv_bipush (v := iI 120) hx hb dX8_type_19 (by decide) ?_
    refine j_lt (tgt := 29) hx hb dX8_type_21 (by decide) hR5 (by decide) (fun c6 => ?_) (fun c6 => ?_)
    · have h := h.1 c6
      refine lv_aload_n hx hb dX8_type_29 rfl (lv_at hl 0 rfl) ?_
      refine q_getx (ci := 8) (C := RX8) (T := TX8) (N := 14) (j := 6) hx hb hts (fun _ h9 => List.mem_cons_of_mem _ (List.mem_append_right _ h9)) hown hK hg 0 (by decide) rfl rfl (by decide) rfl 4 (by decide) (hts (.fieldLink RX8 38 "JoinMaps" "text" "[B") (List.mem_cons_of_mem _ (List.mem_append_left _ (List.mem_of_getElem? (i := 1) rfl)))) rfl rfl rfl dX8_type_30 ?_
      refine lv_aload_n hx hb dX8_type_33 rfl (lv_at hl 0 rfl) ?_
      refine q_geti (ci := 8) (C := RX8) (T := TX8) (N := 14) hx hb hts (fun _ h9 => List.mem_cons_of_mem _ (List.mem_append_right _ h9)) hown hK hg 0 (by decide) rfl rfl (by decide) rfl 10 (by decide) (hts (.fieldLink RX8 237 "JoinMaps" "typed" "I") (List.mem_cons_of_mem _ (List.mem_append_left _ (List.mem_of_getElem? (i := 0) rfl)))) rfl rfl dX8_type_34 ?_
      have hR7 := GS_R hg 0 10
      refine lv_iload_n hx hb dX8_type_37 rfl (lv_at hl 1 rfl) ?_
      obtain ⟨hP8, h⟩ := h
      refine q_i2b hx hb hP8 dX8_type_38 ?_
      obtain ⟨hP9, hP10, h⟩ := h
      refine q_bast (N := 120) hx hb hK hg 6 (by decide) rfl rfl hP9 hP10 (by decide) hP8 dX8_type_39 (fun H locs hg => ?_)
      refine lv_aload_n hx hb dX8_type_40 rfl (lv_at hl 0 rfl) ?_
      refine lv_dup hx hb dX8_type_41 rfl ?_
      refine q_geti (ci := 8) (C := RX8) (T := TX8) (N := 14) hx hb hts (fun _ h9 => List.mem_cons_of_mem _ (List.mem_append_right _ h9)) hown hK hg 0 (by decide) rfl rfl (by decide) rfl 10 (by decide) (hts (.fieldLink RX8 237 "JoinMaps" "typed" "I") (List.mem_cons_of_mem _ (List.mem_append_left _ (List.mem_of_getElem? (i := 0) rfl)))) rfl rfl dX8_type_42 ?_
      have hR11 := GS_R hg 0 10
      refine lv_iconst (v := iI 1) hx hb dX8_type_45 (by decide) ?_
      refine q_iadd hx hb dX8_type_46 ?_
      obtain ⟨hR12, h⟩ := h
      refine q_puti (ci := 8) (C := RX8) (T := TX8) (N := 14) hx hb hts (fun _ h9 => List.mem_cons_of_mem _ (List.mem_append_right _ h9)) tyX8 tyX8_ok nmX8 hown hK hg 0 (by decide) rfl rfl (by decide) rfl 10 (by decide) (hts (.fieldLink RX8 237 "JoinMaps" "typed" "I") (List.mem_cons_of_mem _ (List.mem_append_left _ (List.mem_of_getElem? (i := 0) rfl)))) rfl rfl (by decide +kernel) rfl hR12 dX8_type_47 (fun H locs hg => ?_)
      refine lv_aload_n hx hb dX8_type_50 rfl (lv_at hl 0 rfl) ?_
      refine q_geti (ci := 8) (C := RX8) (T := TX8) (N := 14) hx hb hts (fun _ h9 => List.mem_cons_of_mem _ (List.mem_append_right _ h9)) hown hK hg 0 (by decide) rfl rfl (by decide) rfl 10 (by decide) (hts (.fieldLink RX8 237 "JoinMaps" "typed" "I") (List.mem_cons_of_mem _ (List.mem_append_left _ (List.mem_of_getElem? (i := 0) rfl)))) rfl rfl dX8_type_51 ?_
      have hR13 := GS_R hg 0 10
      exact ret_i hx hb hr hlocks hg hR13 hm h dX8_type_54
    · have h := h.2 c6
      refine lv_aload_n hx hb dX8_type_24 rfl (lv_at hl 0 rfl) ?_
      refine call_i (run_V (a := ea E 0) (As := []) (rest := []) ⟨hx, hb, hml, hown, hts⟩ (ctX8_full l E  s1 _  h) (cwV 0 hts gX8_type_X8_full rfl rfl rfl ⟨rfl, hdX8_full⟩ ⟨Nat.le_of_ble_eq_true rfl, Nat.le_of_ble_eq_true rfl⟩) hK hN hg (recv_x (ci := 8) (C := RX8) (T := TX8) (N := 14) hg hK (by decide) rfl (by decide) rfl) rfl hl.1 rfl (cat_sum _ (by simp)) dX8_type_25 ⟨Nat.le_refl 0, Nat.le_refl 0⟩) hg (fun r15 s14 H locs hz16 hm2 h hg => ?_)
      have hm := hm.tn hm2
      exact ret_i hx hb hr hlocks hg hz16 hm h dX8_type_28
  · have h := h.2 c4
    refine lv_aload_n hx hb dX8_type_10 rfl (lv_at hl 0 rfl) ?_
    refine call_i (run_V (a := ea E 0) (As := []) (rest := []) ⟨hx, hb, hml, hown, hts⟩ (ctX8_bad l E  s1 _  h) (cwV 0 hts gX8_type_X8_bad rfl rfl rfl ⟨rfl, hdX8_bad⟩ ⟨Nat.le_of_ble_eq_true rfl, Nat.le_of_ble_eq_true rfl⟩) hK hN hg (recv_x (ci := 8) (C := RX8) (T := TX8) (N := 14) hg hK (by decide) rfl (by decide) rfl) rfl hl.1 rfl (cat_sum _ (by simp)) dX8_type_11 ⟨Nat.le_refl 0, Nat.le_refl 0⟩) hg (fun r18 s17 H locs hz19 hm2 h hg => ?_)
    have hm := hm.tn hm2
    exact ret_i hx hb hr hlocks hg hz19 hm h dX8_type_14
theorem hdX8_clear : yX8_clear.cls ≠ "java/lang/invoke/MethodHandle" ∧ yX8_clear.cls ≠ "java/lang/invoke/VarHandle" ∧ (parseMethodDescriptor yX8_clear.desc).map (fun d => d.parameters.length) = some 0 := by decide +kernel
set_option maxRecDepth 100000 in
set_option maxHeartbeats 4000000 in
theorem ctX8_clear (l : Launch) (E : Ev)  (σ : SS) (Q : Int → SS → Prop)  (h : wX8_clear  σ Q) : Met l yX8_clear wsX8_clear ({ frames := 0, cells := 0, slots := 0, locals := 0 } : Room) (Pc E σ [.ref (ea E 0)]) (Qi E (sz σ) σ Q) 0 0 (Av E) := by
  rw [wX8_clear] at h
  refine Met.ofW (cc := cX8_clear) (maxL := 2) (ret := (some .int)) (by decide) rfl ?_
  intro p e s m args below meth c s₁ B hml hv
  obtain ⟨rfl, hH, hK, hN⟩ := hv
  have hx := B.exec
  have hb := B.bytes
  have hr := B.returns
  have hts := atoms_spec (ws := wsX8_clear) B.pre
  have hown : s.vm.findClass RX8 = some m.cls := findClass_of_methodNamed B.named
  have hlocks := B.notSynchronized
  have hg : GS E σ s s.heap [] := ⟨hH, va_S.rf⟩
  have hm : Mo (sz σ) σ σ := Mo.rf (Nat.le_refl _)
  have hl := ent (vs := [.ref (ea E 0)]) (n := 2) (cats_x cats_nil) (Nat.le_of_ble_eq_true rfl)
  rw [lg_entry_eq]
  generalize (lg_sl ([.ref (ea E 0)]) ++ List.replicate (2 - (lg_sl ([.ref (ea E 0)])).length) Slot.unset).toArray = ls at hl ⊢
  have hl : lv_has ls 2 [(0, .ref (ea E 0))] := hl
  refine lv_aload_n hx hb dX8_clear_0 rfl (lv_at hl 0 rfl) ?_
  refine q_geti (ci := 8) (C := RX8) (T := TX8) (N := 14) hx hb hts (fun _ h9 => List.mem_cons_of_mem _ (List.mem_append_right _ h9)) hown hK hg 0 (by decide) rfl rfl (by decide) rfl 10 (by decide) (hts (.fieldLink RX8 237 "JoinMaps" "typed" "I") (List.mem_cons_of_mem _ (List.mem_append_left _ (List.mem_of_getElem? (i := 0) rfl)))) rfl rfl dX8_clear_1 ?_
  have hR1 := GS_R hg 0 10
  refine lv_istore_n (i := 1) (lv' := [(1, .int (iI ((sn σ 0 10)))), (0, .ref (ea E 0))]) hx hb dX8_clear_4 rfl hl (by decide) rfl (fun ls hl => ?_)
  refine lv_aload_n hx hb dX8_clear_5 rfl (lv_at hl 1 rfl) ?_
  refine lv_iconst (v := iI 0) hx hb dX8_clear_6 (by decide) ?_
  refine q_puti (ci := 8) (C := RX8) (T := TX8) (N := 14) hx hb hts (fun _ h9 => List.mem_cons_of_mem _ (List.mem_append_right _ h9)) tyX8 tyX8_ok nmX8 hown hK hg 0 (by decide) rfl rfl (by decide) rfl 10 (by decide) (hts (.fieldLink RX8 237 "JoinMaps" "typed" "I") (List.mem_cons_of_mem _ (List.mem_append_left _ (List.mem_of_getElem? (i := 0) rfl)))) rfl rfl (by decide +kernel) rfl (by decide) dX8_clear_7 (fun H locs hg => ?_)
  refine lv_iload_n hx hb dX8_clear_10 rfl (lv_at hl 0 rfl) ?_
  exact ret_i hx hb hr hlocks hg hR1 hm h dX8_clear_11
theorem hdX8_sums : yX8_sums.cls ≠ "java/lang/invoke/MethodHandle" ∧ yX8_sums.cls ≠ "java/lang/invoke/VarHandle" ∧ (parseMethodDescriptor yX8_sums.desc).map (fun d => d.parameters.length) = some 0 := by decide +kernel
set_option maxRecDepth 100000 in
set_option maxHeartbeats 4000000 in
theorem ctX8_sums (l : Launch) (E : Ev) (tp : Nat) (σ : SS) (Q : Int → SS → Prop)  (ht : sz σ ≤ tp) (h : wX8_sums tp σ Q) : Met l yX8_sums wsX8_sums ({ frames := 141, cells := tp - sz σ, slots := 9 * (tp - sz σ), locals := 3716 } : Room) (Pc E σ [.ref (ea E 0)]) (Qi E tp σ Q) (tp - sz σ) (9 * (tp - sz σ)) (Av E) := by
  rw [wX8_sums] at h
  refine Met.ofW (cc := cX8_sums) (maxL := 3) (ret := (some .int)) (by decide) rfl ?_
  intro p e s m args below meth c s₁ B hml hv
  obtain ⟨rfl, hH, hK, hN⟩ := hv
  have hx := B.exec
  have hb := B.bytes
  have hr := B.returns
  have hts := atoms_spec (ws := wsX8_sums) B.pre
  have hown : s.vm.findClass RX8 = some m.cls := findClass_of_methodNamed B.named
  have hlocks := B.notSynchronized
  have hg : GS E σ s s.heap [] := ⟨hH, va_S.rf⟩
  have hm : Mo tp σ σ := Mo.rf ht
  have hl := ent (vs := [.ref (ea E 0)]) (n := 3) (cats_x cats_nil) (Nat.le_of_ble_eq_true rfl)
  rw [lg_entry_eq]
  generalize (lg_sl ([.ref (ea E 0)]) ++ List.replicate (3 - (lg_sl ([.ref (ea E 0)])).length) Slot.unset).toArray = ls at hl ⊢
  have hl : lv_has ls 3 [(0, .ref (ea E 0))] := hl
  refine W_narrow hg hH (show sz σ ≤ sz σ + (sz σ - sz σ) by omega) (show 9 * (sz σ - sz σ) ≤ 9 * (sz σ - sz σ) from Nat.le_refl _) ?_
  have J35 : ∀ (k : Nat), ∀ (v2 : Int) (sL : SS) (H : Heap) (locs : List Loc) (ls : Array Slot), GS E sL s H locs → Mo tp σ sL → lv_has ls 3 [(0, .ref (ea E 0)), (2, .int (iI (v2)))] → wX8_sums_L35 tp Q  k v2 sL → W p l e (headSpec wsX8_sums ({ frames := 141, cells := tp - sz σ, slots := 9 * (tp - sz σ), locals := 3716 } : Room)).room s m (List.toArray [.ref (ea E 0)]) below meth c H locs (sz sL - sz σ) (9 * (sz sL - sz σ)) (MQ below (Qi E tp σ Q) (List.toArray [.ref (ea E 0)]) s (tp - sz σ) (9 * (tp - sz σ)) (Av E)) (F0 m 35 ls []) := by
    intro k
    induction k with
    | zero => intro v2 sL H locs ls hg hm hl h; exact False.elim h
    | succ k ih =>
      intro v2 sL H locs ls hg hm hl h
      rw [wX8_sums_L35] at h
      refine lv_iload_n hx hb dX8_sums_35 rfl (lv_at hl 1 rfl) ?_
      refine lv_aload_n hx hb dX8_sums_36 rfl (lv_at hl 0 rfl) ?_
      refine q_getx (ci := 8) (C := RX8) (T := TX8) (N := 14) (j := 7) hx hb hts (fun _ h9 => List.mem_cons_of_mem _ (List.mem_append_left _ (List.mem_append_left _ (List.mem_append_left _ (List.mem_append_left _ (List.mem_append_left _ (List.mem_append_left _ (List.mem_append_left _ (List.mem_append_right _ h9))))))))) hown hK hg 0 (by decide) rfl rfl (by decide) rfl 5 (by decide) (hts (.fieldLink RX8 45 "JoinMaps" "plan" "LJoinMaps$Plan;") (List.mem_cons_of_mem _ (List.mem_append_left _ (List.mem_append_left _ (List.mem_append_left _ (List.mem_append_left _ (List.mem_append_left _ (List.mem_append_left _ (List.mem_append_left _ (List.mem_append_left _ (List.mem_append_left _ (List.mem_of_getElem? (i := 4) rfl)))))))))))) rfl rfl rfl dX8_sums_37 ?_
      refine q_geti (ci := 4) (C := RX4) (T := TX4) (N := 3) hx hb hts (fun _ h9 => List.mem_cons_of_mem _ (List.mem_append_left _ (List.mem_append_left _ (List.mem_append_left _ (List.mem_append_left _ (List.mem_append_left _ (List.mem_append_left _ (List.mem_append_right _ h9)))))))) hown hK hg 7 (by decide) rfl rfl (by decide) rfl 2 (by decide) (hts (.fieldLink RX8 246 "JoinMaps$Plan" "length" "I") (List.mem_cons_of_mem _ (List.mem_append_left _ (List.mem_append_left _ (List.mem_append_left _ (List.mem_append_left _ (List.mem_append_left _ (List.mem_append_left _ (List.mem_append_left _ (List.mem_append_left _ (List.mem_append_left _ (List.mem_of_getElem? (i := 5) rfl)))))))))))) rfl rfl dX8_sums_40 ?_
      have hR10 := GS_R hg 7 2
      obtain ⟨hR11, h⟩ := h
      refine j_ge (tgt := 87) hx hb dX8_sums_43 (by decide) hR11 hR10 (fun c12 => ?_) (fun c12 => ?_)
      · have h := h.1 c12
        refine lv_aload_n hx hb dX8_sums_87 rfl (lv_at hl 0 rfl) ?_
        refine q_getx (ci := 8) (C := RX8) (T := TX8) (N := 14) (j := 4) hx hb hts (fun _ h9 => List.mem_cons_of_mem _ (List.mem_append_left _ (List.mem_append_left _ (List.mem_append_left _ (List.mem_append_left _ (List.mem_append_left _ (List.mem_append_left _ (List.mem_append_left _ (List.mem_append_right _ h9))))))))) hown hK hg 0 (by decide) rfl rfl (by decide) rfl 3 (by decide) (hts (.fieldLink RX8 34 "JoinMaps" "versions" "LJoinMaps$Versions;") (List.mem_cons_of_mem _ (List.mem_append_left _ (List.mem_append_left _ (List.mem_append_left _ (List.mem_append_left _ (List.mem_append_left _ (List.mem_append_left _ (List.mem_append_left _ (List.mem_append_left _ (List.mem_append_left _ (List.mem_of_getElem? (i := 6) rfl)))))))))))) rfl rfl rfl dX8_sums_88 ?_
        refine lv_aload_n hx hb dX8_sums_91 rfl (lv_at hl 0 rfl) ?_
        refine q_getx (ci := 8) (C := RX8) (T := TX8) (N := 14) (j := 3) hx hb hts (fun _ h9 => List.mem_cons_of_mem _ (List.mem_append_left _ (List.mem_append_left _ (List.mem_append_left _ (List.mem_append_left _ (List.mem_append_left _ (List.mem_append_left _ (List.mem_append_left _ (List.mem_append_right _ h9))))))))) hown hK hg 0 (by decide) rfl rfl (by decide) rfl 2 (by decide) (hts (.fieldLink RX8 27 "JoinMaps" "maps" "[LJoinMaps$Node;") (List.mem_cons_of_mem _ (List.mem_append_left _ (List.mem_append_left _ (List.mem_append_left _ (List.mem_append_left _ (List.mem_append_left _ (List.mem_append_left _ (List.mem_append_left _ (List.mem_append_left _ (List.mem_append_left _ (List.mem_of_getElem? (i := 3) rfl)))))))))))) rfl rfl rfl dX8_sums_92 ?_
        refine call_v (run_V (a := ea E 4) (As := [.ref (ea E 3)]) (rest := []) ⟨hx, hb, hml, hown, hts⟩ (ctX7_leave l E  sL _  h) (cwV 1 hts gX8_sums_X7_leave rfl rfl rfl ⟨rfl, hdX7_leave⟩ ⟨Nat.le_of_ble_eq_true rfl, Nat.le_of_ble_eq_true rfl⟩) hK hN hg (recv_x (ci := 7) (C := RX7) (T := TX7) (N := 3) hg hK (by decide) rfl (by decide) rfl) rfl hl.1 rfl (cat_sum _ (by simp)) dX8_sums_95 (show (sz sL - sz σ) + 0 ≤ tp - sz σ ∧ 9 * (sz sL - sz σ) + 0 ≤ 9 * (tp - sz σ) by have q1 := hm.2.1; have q2 := hm.2.2; omega)) hg (fun s13 H locs hm2 h hg => ?_)
        have hm := hm.tn hm2
        refine W_narrow hg hH (show sz s13 ≤ sz σ + (sz s13 - sz σ) by have q1 := hm.2.1; omega) (Nat.le_refl _) ?_
        refine lv_aload_n hx hb dX8_sums_98 rfl (lv_at hl 0 rfl) ?_
        refine q_getx (ci := 8) (C := RX8) (T := TX8) (N := 14) (j := 12) hx hb hts (fun _ h9 => List.mem_cons_of_mem _ (List.mem_append_left _ (List.mem_append_left _ (List.mem_append_left _ (List.mem_append_left _ (List.mem_append_left _ (List.mem_append_left _ (List.mem_append_left _ (List.mem_append_right _ h9))))))))) hown hK hg 0 (by decide) rfl rfl (by decide) rfl 7 (by decide) (hts (.fieldLink RX8 63 "JoinMaps" "bench" "LJoinMaps$Bench;") (List.mem_cons_of_mem _ (List.mem_append_left _ (List.mem_append_left _ (List.mem_append_left _ (List.mem_append_left _ (List.mem_append_left _ (List.mem_append_left _ (List.mem_append_left _ (List.mem_append_left _ (List.mem_append_left _ (List.mem_of_getElem? (i := 2) rfl)))))))))))) rfl rfl rfl dX8_sums_99 ?_
        refine lv_aload_n hx hb dX8_sums_102 rfl (lv_at hl 0 rfl) ?_
        refine q_getx (ci := 8) (C := RX8) (T := TX8) (N := 14) (j := 3) hx hb hts (fun _ h9 => List.mem_cons_of_mem _ (List.mem_append_left _ (List.mem_append_left _ (List.mem_append_left _ (List.mem_append_left _ (List.mem_append_left _ (List.mem_append_left _ (List.mem_append_left _ (List.mem_append_right _ h9))))))))) hown hK hg 0 (by decide) rfl rfl (by decide) rfl 2 (by decide) (hts (.fieldLink RX8 27 "JoinMaps" "maps" "[LJoinMaps$Node;") (List.mem_cons_of_mem _ (List.mem_append_left _ (List.mem_append_left _ (List.mem_append_left _ (List.mem_append_left _ (List.mem_append_left _ (List.mem_append_left _ (List.mem_append_left _ (List.mem_append_left _ (List.mem_append_left _ (List.mem_of_getElem? (i := 3) rfl)))))))))))) rfl rfl rfl dX8_sums_103 ?_
        refine call_v (run_V (a := ea E 12) (As := [.ref (ea E 3)]) (rest := []) ⟨hx, hb, hml, hown, hts⟩ (ctX0_bring l E  s13 _  h) (cwV 1 hts gX8_sums_X0_bring rfl rfl rfl ⟨rfl, hdX0_bring⟩ ⟨Nat.le_of_ble_eq_true rfl, Nat.le_of_ble_eq_true rfl⟩) hK hN hg (recv_x (ci := 0) (C := RX0) (T := TX0) (N := 5) hg hK (by decide) rfl (by decide) rfl) rfl hl.1 rfl (cat_sum _ (by simp)) dX8_sums_106 (show (sz s13 - sz σ) + 0 ≤ tp - sz σ ∧ 9 * (sz s13 - sz σ) + 0 ≤ 9 * (tp - sz σ) by have q1 := hm.2.1; have q2 := hm.2.2; omega)) hg (fun s16 H locs hm2 h hg => ?_)
        have hm := hm.tn hm2
        refine W_narrow hg hH (show sz s16 ≤ sz σ + (sz s16 - sz σ) by have q1 := hm.2.1; omega) (Nat.le_refl _) ?_
        refine lv_aload_n hx hb dX8_sums_109 rfl (lv_at hl 0 rfl) ?_
        refine q_getx (ci := 8) (C := RX8) (T := TX8) (N := 14) (j := 10) hx hb hts (fun _ h9 => List.mem_cons_of_mem _ (List.mem_append_left _ (List.mem_append_left _ (List.mem_append_left _ (List.mem_append_left _ (List.mem_append_left _ (List.mem_append_left _ (List.mem_append_left _ (List.mem_append_right _ h9))))))))) hown hK hg 0 (by decide) rfl rfl (by decide) rfl 6 (by decide) (hts (.fieldLink RX8 54 "JoinMaps" "reader" "LJoinMaps$Reader;") (List.mem_cons_of_mem _ (List.mem_append_left _ (List.mem_append_left _ (List.mem_append_left _ (List.mem_append_left _ (List.mem_append_left _ (List.mem_append_left _ (List.mem_append_left _ (List.mem_append_left _ (List.mem_append_left _ (List.mem_of_getElem? (i := 0) rfl)))))))))))) rfl rfl rfl dX8_sums_110 ?_
        refine q_geti (ci := 5) (C := RX5) (T := TX5) (N := 11) hx hb hts (fun _ h9 => List.mem_cons_of_mem _ (List.mem_append_left _ (List.mem_append_left _ (List.mem_append_left _ (List.mem_append_left _ (List.mem_append_left _ (List.mem_append_right _ h9))))))) hown hK hg 10 (by decide) rfl rfl (by decide) rfl 10 (by decide) (hts (.fieldLink RX8 259 "JoinMaps$Reader" "sumCount" "I") (List.mem_cons_of_mem _ (List.mem_append_left _ (List.mem_append_left _ (List.mem_append_left _ (List.mem_append_left _ (List.mem_append_left _ (List.mem_append_left _ (List.mem_append_left _ (List.mem_append_left _ (List.mem_append_left _ (List.mem_of_getElem? (i := 7) rfl)))))))))))) rfl rfl dX8_sums_113 ?_
        have hR19 := GS_R hg 10 10
        refine W.widen (k := tp - sz σ) (n := 9 * (tp - sz σ)) (show sz s16 - sz σ ≤ _ by have q1 := hm.2.2; omega) (show 9 * (sz s16 - sz σ) ≤ _ by have q1 := hm.2.2; omega) ?_
        exact ret_i hx hb hr hlocks hg hR19 hm h dX8_sums_116
      · have h := h.2 c12
        refine lv_aload_n hx hb dX8_sums_46 rfl (lv_at hl 0 rfl) ?_
        refine call_v (run_V (a := ea E 0) (As := []) (rest := []) ⟨hx, hb, hml, hown, hts⟩ (ctX8_startChange l E  sL _  h) (cwV 0 hts gX8_sums_X8_startChange rfl rfl rfl ⟨rfl, hdX8_startChange⟩ ⟨Nat.le_of_ble_eq_true rfl, Nat.le_of_ble_eq_true rfl⟩) hK hN hg (recv_x (ci := 8) (C := RX8) (T := TX8) (N := 14) hg hK (by decide) rfl (by decide) rfl) rfl hl.1 rfl (cat_sum _ (by simp)) dX8_sums_47 (show (sz sL - sz σ) + 0 ≤ tp - sz σ ∧ 9 * (sz sL - sz σ) + 0 ≤ 9 * (tp - sz σ) by have q1 := hm.2.1; have q2 := hm.2.2; omega)) hg (fun s20 H locs hm2 h hg => ?_)
        have hm := hm.tn hm2
        refine W_narrow hg hH (show sz s20 ≤ sz σ + (sz s20 - sz σ) by have q1 := hm.2.1; omega) (Nat.le_refl _) ?_
        refine lv_aload_n hx hb dX8_sums_50 rfl (lv_at hl 0 rfl) ?_
        refine q_getx (ci := 8) (C := RX8) (T := TX8) (N := 14) (j := 12) hx hb hts (fun _ h9 => List.mem_cons_of_mem _ (List.mem_append_left _ (List.mem_append_left _ (List.mem_append_left _ (List.mem_append_left _ (List.mem_append_left _ (List.mem_append_left _ (List.mem_append_left _ (List.mem_append_right _ h9))))))))) hown hK hg 0 (by decide) rfl rfl (by decide) rfl 7 (by decide) (hts (.fieldLink RX8 63 "JoinMaps" "bench" "LJoinMaps$Bench;") (List.mem_cons_of_mem _ (List.mem_append_left _ (List.mem_append_left _ (List.mem_append_left _ (List.mem_append_left _ (List.mem_append_left _ (List.mem_append_left _ (List.mem_append_left _ (List.mem_append_left _ (List.mem_append_left _ (List.mem_of_getElem? (i := 2) rfl)))))))))))) rfl rfl rfl dX8_sums_51 ?_
        refine lv_aload_n hx hb dX8_sums_54 rfl (lv_at hl 0 rfl) ?_
        refine q_getx (ci := 8) (C := RX8) (T := TX8) (N := 14) (j := 7) hx hb hts (fun _ h9 => List.mem_cons_of_mem _ (List.mem_append_left _ (List.mem_append_left _ (List.mem_append_left _ (List.mem_append_left _ (List.mem_append_left _ (List.mem_append_left _ (List.mem_append_left _ (List.mem_append_right _ h9))))))))) hown hK hg 0 (by decide) rfl rfl (by decide) rfl 5 (by decide) (hts (.fieldLink RX8 45 "JoinMaps" "plan" "LJoinMaps$Plan;") (List.mem_cons_of_mem _ (List.mem_append_left _ (List.mem_append_left _ (List.mem_append_left _ (List.mem_append_left _ (List.mem_append_left _ (List.mem_append_left _ (List.mem_append_left _ (List.mem_append_left _ (List.mem_append_left _ (List.mem_of_getElem? (i := 4) rfl)))))))))))) rfl rfl rfl dX8_sums_55 ?_
        refine lv_iload_n hx hb dX8_sums_58 rfl (lv_at hl 1 rfl) ?_
        refine call_i (run_V (a := ea E 7) (As := [.int (iI (v2))]) (rest := [.ref (ea E 12)]) ⟨hx, hb, hml, hown, hts⟩ (ctX4_deedAt l E v2 s20 _ hR11 h) (cwV 1 hts gX8_sums_X4_deedAt rfl rfl rfl ⟨rfl, hdX4_deedAt⟩ ⟨Nat.le_of_ble_eq_true rfl, Nat.le_of_ble_eq_true rfl⟩) hK hN hg (recv_x (ci := 4) (C := RX4) (T := TX4) (N := 3) hg hK (by decide) rfl (by decide) rfl) rfl hl.1 rfl (cat_sum _ (by simp)) dX8_sums_59 (show (sz s20 - sz σ) + 0 ≤ tp - sz σ ∧ 9 * (sz s20 - sz σ) + 0 ≤ 9 * (tp - sz σ) by have q1 := hm.2.1; have q2 := hm.2.2; omega)) hg (fun r24 s23 H locs hz25 hm2 h hg => ?_)
        have hm := hm.tn hm2
        refine W_narrow hg hH (show sz s23 ≤ sz σ + (sz s23 - sz σ) by have q1 := hm.2.1; omega) (Nat.le_refl _) ?_
        refine lv_aload_n hx hb dX8_sums_62 rfl (lv_at hl 0 rfl) ?_
        refine q_getx (ci := 8) (C := RX8) (T := TX8) (N := 14) (j := 7) hx hb hts (fun _ h9 => List.mem_cons_of_mem _ (List.mem_append_left _ (List.mem_append_left _ (List.mem_append_left _ (List.mem_append_left _ (List.mem_append_left _ (List.mem_append_left _ (List.mem_append_left _ (List.mem_append_right _ h9))))))))) hown hK hg 0 (by decide) rfl rfl (by decide) rfl 5 (by decide) (hts (.fieldLink RX8 45 "JoinMaps" "plan" "LJoinMaps$Plan;") (List.mem_cons_of_mem _ (List.mem_append_left _ (List.mem_append_left _ (List.mem_append_left _ (List.mem_append_left _ (List.mem_append_left _ (List.mem_append_left _ (List.mem_append_left _ (List.mem_append_left _ (List.mem_append_left _ (List.mem_of_getElem? (i := 4) rfl)))))))))))) rfl rfl rfl dX8_sums_63 ?_
        refine lv_iload_n hx hb dX8_sums_66 rfl (lv_at hl 1 rfl) ?_
        refine call_i (run_V (a := ea E 7) (As := [.int (iI (v2))]) (rest := [.int (iI (r24)), .ref (ea E 12)]) ⟨hx, hb, hml, hown, hts⟩ (ctX4_numberAt l E v2 s23 _ hR11 h) (cwV 1 hts gX8_sums_X4_numberAt rfl rfl rfl ⟨rfl, hdX4_numberAt⟩ ⟨Nat.le_of_ble_eq_true rfl, Nat.le_of_ble_eq_true rfl⟩) hK hN hg (recv_x (ci := 4) (C := RX4) (T := TX4) (N := 3) hg hK (by decide) rfl (by decide) rfl) rfl hl.1 rfl (cat_sum _ (by simp)) dX8_sums_67 (show (sz s23 - sz σ) + 0 ≤ tp - sz σ ∧ 9 * (sz s23 - sz σ) + 0 ≤ 9 * (tp - sz σ) by have q1 := hm.2.1; have q2 := hm.2.2; omega)) hg (fun r27 s26 H locs hz28 hm2 h hg => ?_)
        have hm := hm.tn hm2
        refine W_narrow hg hH (show sz s26 ≤ sz σ + (sz s26 - sz σ) by have q1 := hm.2.1; omega) (Nat.le_refl _) ?_
        refine call_z (run_V (a := ea E 12) (As := [.int (iI (r24)), .int (iI (r27))]) (rest := []) ⟨hx, hb, hml, hown, hts⟩ (ctX0_act l E tp r24 r27 s26 _ hz25 hz28 hm.2.2 h) (cwV 2 hts gX8_sums_X0_act rfl rfl rfl ⟨rfl, hdX0_act⟩ ⟨Nat.le_of_ble_eq_true rfl, Nat.le_of_ble_eq_true rfl⟩) hK hN hg (recv_x (ci := 0) (C := RX0) (T := TX0) (N := 5) hg hK (by decide) rfl (by decide) rfl) rfl hl.1 rfl (cat_sum _ (by simp)) dX8_sums_70 (show (sz s26 - sz σ) + (tp - sz s26) ≤ tp - sz σ ∧ 9 * (sz s26 - sz σ) + 9 * (tp - sz s26) ≤ 9 * (tp - sz σ) by have q1 := hm.2.1; have q2 := hm.2.2; omega)) hg (fun r30 s29 H locs hz31 hm2 h hg => ?_)
        have hm := hm.ta hm2
        refine W_narrow hg hH (show sz s29 ≤ sz σ + (sz s29 - sz σ) by have q1 := hm.2.1; omega) (Nat.le_refl _) ?_
        refine k_ne (tgt := 81) hx hb dX8_sums_73 (by decide) (z_R hz31) (fun c32 => ?_) (fun c32 => ?_)
        · have h := h.1 c32
          refine lv_iinc (v := iI (v2 + 1)) (lv' := [(2, .int (iI (v2 + 1))), (0, .ref (ea E 0))]) hx hb dX8_sums_81 hl (k := 1) rfl (iI_add _ _) (by decide) rfl (fun ls hl => ?_)
          refine lv_goto (tgt := 35) hx hb dX8_sums_84 (by decide) ?_
          exact ih (v2 + 1) (s29) _ _ _ hg hm (lv_sub hl [1, 0] rfl) h
        · have h := h.2 c32
          refine lv_aload_n hx hb dX8_sums_76 rfl (lv_at hl 0 rfl) ?_
          refine call_i (run_V (a := ea E 0) (As := []) (rest := []) ⟨hx, hb, hml, hown, hts⟩ (ctX8_full l E  s29 _  h) (cwV 0 hts gX8_sums_X8_full rfl rfl rfl ⟨rfl, hdX8_full⟩ ⟨Nat.le_of_ble_eq_true rfl, Nat.le_of_ble_eq_true rfl⟩) hK hN hg (recv_x (ci := 8) (C := RX8) (T := TX8) (N := 14) hg hK (by decide) rfl (by decide) rfl) rfl hl.1 rfl (cat_sum _ (by simp)) dX8_sums_77 (show (sz s29 - sz σ) + 0 ≤ tp - sz σ ∧ 9 * (sz s29 - sz σ) + 0 ≤ 9 * (tp - sz σ) by have q1 := hm.2.1; have q2 := hm.2.2; omega)) hg (fun r34 s33 H locs hz35 hm2 h hg => ?_)
          have hm := hm.tn hm2
          refine W_narrow hg hH (show sz s33 ≤ sz σ + (sz s33 - sz σ) by have q1 := hm.2.1; omega) (Nat.le_refl _) ?_
          refine W.widen (k := tp - sz σ) (n := 9 * (tp - sz σ)) (show sz s33 - sz σ ≤ _ by have q1 := hm.2.2; omega) (show 9 * (sz s33 - sz σ) ≤ _ by have q1 := hm.2.2; omega) ?_
          exact ret_i hx hb hr hlocks hg hz35 hm h dX8_sums_80
  refine lv_aload_n hx hb dX8_sums_0 rfl (lv_at hl 0 rfl) ?_
  refine q_getx (ci := 8) (C := RX8) (T := TX8) (N := 14) (j := 10) hx hb hts (fun _ h9 => List.mem_cons_of_mem _ (List.mem_append_left _ (List.mem_append_left _ (List.mem_append_left _ (List.mem_append_left _ (List.mem_append_left _ (List.mem_append_left _ (List.mem_append_left _ (List.mem_append_right _ h9))))))))) hown hK hg 0 (by decide) rfl rfl (by decide) rfl 6 (by decide) (hts (.fieldLink RX8 54 "JoinMaps" "reader" "LJoinMaps$Reader;") (List.mem_cons_of_mem _ (List.mem_append_left _ (List.mem_append_left _ (List.mem_append_left _ (List.mem_append_left _ (List.mem_append_left _ (List.mem_append_left _ (List.mem_append_left _ (List.mem_append_left _ (List.mem_append_left _ (List.mem_of_getElem? (i := 0) rfl)))))))))))) rfl rfl rfl dX8_sums_1 ?_
  refine lv_aload_n hx hb dX8_sums_4 rfl (lv_at hl 0 rfl) ?_
  refine q_geti (ci := 8) (C := RX8) (T := TX8) (N := 14) hx hb hts (fun _ h9 => List.mem_cons_of_mem _ (List.mem_append_left _ (List.mem_append_left _ (List.mem_append_left _ (List.mem_append_left _ (List.mem_append_left _ (List.mem_append_left _ (List.mem_append_left _ (List.mem_append_right _ h9))))))))) hown hK hg 0 (by decide) rfl rfl (by decide) rfl 10 (by decide) (hts (.fieldLink RX8 237 "JoinMaps" "typed" "I") (List.mem_cons_of_mem _ (List.mem_append_left _ (List.mem_append_left _ (List.mem_append_left _ (List.mem_append_left _ (List.mem_append_left _ (List.mem_append_left _ (List.mem_append_left _ (List.mem_append_left _ (List.mem_append_left _ (List.mem_of_getElem? (i := 1) rfl)))))))))))) rfl rfl dX8_sums_5 ?_
  have hR1 := GS_R hg 0 10
  refine call_i (run_V (a := ea E 10) (As := [.int (iI ((sn σ 0 10)))]) (rest := []) ⟨hx, hb, hml, hown, hts⟩ (ctX5_read l E (sn σ 0 10) σ _ hR1 h) (cwV 1 hts gX8_sums_X5_read rfl rfl rfl ⟨rfl, hdX5_read⟩ ⟨Nat.le_of_ble_eq_true rfl, Nat.le_of_ble_eq_true rfl⟩) hK hN hg (recv_x (ci := 5) (C := RX5) (T := TX5) (N := 11) hg hK (by decide) rfl (by decide) rfl) rfl hl.1 rfl (cat_sum _ (by simp)) dX8_sums_8 (show (sz σ - sz σ) + 0 ≤ tp - sz σ ∧ 9 * (sz σ - sz σ) + 0 ≤ 9 * (tp - sz σ) by have q1 := hm.2.1; have q2 := hm.2.2; omega)) hg (fun r3 s2 H locs hz4 hm2 h hg => ?_)
  have hm := hm.tn hm2
  refine W_narrow hg hH (show sz s2 ≤ sz σ + (sz s2 - sz σ) by have q1 := hm.2.1; omega) (Nat.le_refl _) ?_
  refine lv_istore_n (i := 1) (lv' := [(1, .int (iI (r3))), (0, .ref (ea E 0))]) hx hb dX8_sums_11 rfl hl (by decide) rfl (fun ls hl => ?_)
  refine lv_iload_n hx hb dX8_sums_12 rfl (lv_at hl 0 rfl) ?_
  refine lv_iconst (v := iI (-1)) hx hb dX8_sums_13 (by decide) ?_
  refine j_eq (tgt := 22) hx hb dX8_sums_14 (by decide) hz4 (by decide) (fun c5 => ?_) (fun c5 => ?_)
  · have h := h.1 c5
    refine lv_aload_n hx hb dX8_sums_22 rfl (lv_at hl 1 rfl) ?_
    refine q_getx (ci := 8) (C := RX8) (T := TX8) (N := 14) (j := 12) hx hb hts (fun _ h9 => List.mem_cons_of_mem _ (List.mem_append_left _ (List.mem_append_left _ (List.mem_append_left _ (List.mem_append_left _ (List.mem_append_left _ (List.mem_append_left _ (List.mem_append_left _ (List.mem_append_right _ h9))))))))) hown hK hg 0 (by decide) rfl rfl (by decide) rfl 7 (by decide) (hts (.fieldLink RX8 63 "JoinMaps" "bench" "LJoinMaps$Bench;") (List.mem_cons_of_mem _ (List.mem_append_left _ (List.mem_append_left _ (List.mem_append_left _ (List.mem_append_left _ (List.mem_append_left _ (List.mem_append_left _ (List.mem_append_left _ (List.mem_append_left _ (List.mem_append_left _ (List.mem_of_getElem? (i := 2) rfl)))))))))))) rfl rfl rfl dX8_sums_23 ?_
    refine lv_aload_n hx hb dX8_sums_26 rfl (lv_at hl 1 rfl) ?_
    refine q_getx (ci := 8) (C := RX8) (T := TX8) (N := 14) (j := 3) hx hb hts (fun _ h9 => List.mem_cons_of_mem _ (List.mem_append_left _ (List.mem_append_left _ (List.mem_append_left _ (List.mem_append_left _ (List.mem_append_left _ (List.mem_append_left _ (List.mem_append_left _ (List.mem_append_right _ h9))))))))) hown hK hg 0 (by decide) rfl rfl (by decide) rfl 2 (by decide) (hts (.fieldLink RX8 27 "JoinMaps" "maps" "[LJoinMaps$Node;") (List.mem_cons_of_mem _ (List.mem_append_left _ (List.mem_append_left _ (List.mem_append_left _ (List.mem_append_left _ (List.mem_append_left _ (List.mem_append_left _ (List.mem_append_left _ (List.mem_append_left _ (List.mem_append_left _ (List.mem_of_getElem? (i := 3) rfl)))))))))))) rfl rfl rfl dX8_sums_27 ?_
    refine call_v (run_V (a := ea E 12) (As := [.ref (ea E 3)]) (rest := []) ⟨hx, hb, hml, hown, hts⟩ (ctX0_lay l E  s2 _  h) (cwV 1 hts gX8_sums_X0_lay rfl rfl rfl ⟨rfl, hdX0_lay⟩ ⟨Nat.le_of_ble_eq_true rfl, Nat.le_of_ble_eq_true rfl⟩) hK hN hg (recv_x (ci := 0) (C := RX0) (T := TX0) (N := 5) hg hK (by decide) rfl (by decide) rfl) rfl hl.1 rfl (cat_sum _ (by simp)) dX8_sums_30 (show (sz s2 - sz σ) + 0 ≤ tp - sz σ ∧ 9 * (sz s2 - sz σ) + 0 ≤ 9 * (tp - sz σ) by have q1 := hm.2.1; have q2 := hm.2.2; omega)) hg (fun s6 H locs hm2 h hg => ?_)
    have hm := hm.tn hm2
    refine W_narrow hg hH (show sz s6 ≤ sz σ + (sz s6 - sz σ) by have q1 := hm.2.1; omega) (Nat.le_refl _) ?_
    refine lv_iconst (v := iI 0) hx hb dX8_sums_33 (by decide) ?_
    refine lv_istore_n (i := 2) (lv' := [(2, .int (iI (0))), (1, .int (iI (r3))), (0, .ref (ea E 0))]) hx hb dX8_sums_34 rfl hl (by decide) rfl (fun ls hl => ?_)
    obtain ⟨kk, h⟩ := h
    exact J35  kk (0) (s6) _ _ _ hg hm (lv_sub hl [2, 0] rfl) h
  · have h := h.2 c5
    refine lv_bipush (v := iI (-10)) hx hb dX8_sums_17 (by decide) ?_
    refine lv_iload_n hx hb dX8_sums_19 rfl (lv_at hl 0 rfl) ?_
    refine q_isub hx hb dX8_sums_20 ?_
    refine W.widen (k := tp - sz σ) (n := 9 * (tp - sz σ)) (show sz s2 - sz σ ≤ _ by have q1 := hm.2.2; omega) (show 9 * (sz s2 - sz σ) ≤ _ by have q1 := hm.2.2; omega) ?_
    obtain ⟨hR9, h⟩ := h
    exact ret_i hx hb hr hlocks hg hR9 hm h dX8_sums_21
theorem hdX8_back : yX8_back.cls ≠ "java/lang/invoke/MethodHandle" ∧ yX8_back.cls ≠ "java/lang/invoke/VarHandle" ∧ (parseMethodDescriptor yX8_back.desc).map (fun d => d.parameters.length) = some 0 := by decide +kernel
set_option maxRecDepth 100000 in
set_option maxHeartbeats 4000000 in
theorem ctX8_back (l : Launch) (E : Ev)  (σ : SS) (Q : Int → SS → Prop)  (h : wX8_back  σ Q) : Met l yX8_back wsX8_back ({ frames := 2, cells := 0, slots := 0, locals := 43 } : Room) (Pc E σ [.ref (ea E 0)]) (Qi E (sz σ) σ Q) 0 0 (Av E) := by
  rw [wX8_back] at h
  refine Met.ofW (cc := cX8_back) (maxL := 1) (ret := (some .int)) (by decide) rfl ?_
  intro p e s m args below meth c s₁ B hml hv
  obtain ⟨rfl, hH, hK, hN⟩ := hv
  have hx := B.exec
  have hb := B.bytes
  have hr := B.returns
  have hts := atoms_spec (ws := wsX8_back) B.pre
  have hown : s.vm.findClass RX8 = some m.cls := findClass_of_methodNamed B.named
  have hlocks := B.notSynchronized
  have hg : GS E σ s s.heap [] := ⟨hH, va_S.rf⟩
  have hm : Mo (sz σ) σ σ := Mo.rf (Nat.le_refl _)
  have hl := ent (vs := [.ref (ea E 0)]) (n := 1) (cats_x cats_nil) (Nat.le_of_ble_eq_true rfl)
  rw [lg_entry_eq]
  generalize (lg_sl ([.ref (ea E 0)]) ++ List.replicate (1 - (lg_sl ([.ref (ea E 0)])).length) Slot.unset).toArray = ls at hl ⊢
  have hl : lv_has ls 1 [(0, .ref (ea E 0))] := hl
  refine lv_aload_n hx hb dX8_back_0 rfl (lv_at hl 0 rfl) ?_
  refine q_getx (ci := 8) (C := RX8) (T := TX8) (N := 14) (j := 4) hx hb hts (fun _ h9 => List.mem_cons_of_mem _ (List.mem_append_left _ (List.mem_append_right _ h9))) hown hK hg 0 (by decide) rfl rfl (by decide) rfl 3 (by decide) (hts (.fieldLink RX8 34 "JoinMaps" "versions" "LJoinMaps$Versions;") (List.mem_cons_of_mem _ (List.mem_append_left _ (List.mem_append_left _ (List.mem_of_getElem? (i := 0) rfl))))) rfl rfl rfl dX8_back_1 ?_
  refine q_geti (ci := 7) (C := RX7) (T := TX7) (N := 3) hx hb hts (fun _ h9 => List.mem_cons_of_mem _ (List.mem_append_right _ h9)) hown hK hg 4 (by decide) rfl rfl (by decide) rfl 1 (by decide) (hts (.fieldLink RX8 262 "JoinMaps$Versions" "count" "I") (List.mem_cons_of_mem _ (List.mem_append_left _ (List.mem_append_left _ (List.mem_of_getElem? (i := 1) rfl))))) rfl rfl dX8_back_4 ?_
  have hR1 := GS_R hg 4 1
  refine k_ne (tgt := 15) hx hb dX8_back_7 (by decide) hR1 (fun c2 => ?_) (fun c2 => ?_)
  · have h := h.1 c2
    refine lv_aload_n hx hb dX8_back_15 rfl (lv_at hl 0 rfl) ?_
    refine q_getx (ci := 8) (C := RX8) (T := TX8) (N := 14) (j := 4) hx hb hts (fun _ h9 => List.mem_cons_of_mem _ (List.mem_append_left _ (List.mem_append_right _ h9))) hown hK hg 0 (by decide) rfl rfl (by decide) rfl 3 (by decide) (hts (.fieldLink RX8 34 "JoinMaps" "versions" "LJoinMaps$Versions;") (List.mem_cons_of_mem _ (List.mem_append_left _ (List.mem_append_left _ (List.mem_of_getElem? (i := 0) rfl))))) rfl rfl rfl dX8_back_16 ?_
    refine lv_aload_n hx hb dX8_back_19 rfl (lv_at hl 0 rfl) ?_
    refine q_getx (ci := 8) (C := RX8) (T := TX8) (N := 14) (j := 3) hx hb hts (fun _ h9 => List.mem_cons_of_mem _ (List.mem_append_left _ (List.mem_append_right _ h9))) hown hK hg 0 (by decide) rfl rfl (by decide) rfl 2 (by decide) (hts (.fieldLink RX8 27 "JoinMaps" "maps" "[LJoinMaps$Node;") (List.mem_cons_of_mem _ (List.mem_append_left _ (List.mem_append_left _ (List.mem_of_getElem? (i := 2) rfl))))) rfl rfl rfl dX8_back_20 ?_
    refine call_v (run_V (a := ea E 4) (As := [.ref (ea E 3)]) (rest := []) ⟨hx, hb, hml, hown, hts⟩ (ctX7_bringLast l E  σ _  h) (cwV 1 hts gX8_back_X7_bringLast rfl rfl rfl ⟨rfl, hdX7_bringLast⟩ ⟨Nat.le_of_ble_eq_true rfl, Nat.le_of_ble_eq_true rfl⟩) hK hN hg (recv_x (ci := 7) (C := RX7) (T := TX7) (N := 3) hg hK (by decide) rfl (by decide) rfl) rfl hl.1 rfl (cat_sum _ (by simp)) dX8_back_23 ⟨Nat.le_refl 0, Nat.le_refl 0⟩) hg (fun s3 H locs hm2 h hg => ?_)
    have hm := hm.tn hm2
    refine lv_aload_n hx hb dX8_back_26 rfl (lv_at hl 0 rfl) ?_
    refine q_getx (ci := 8) (C := RX8) (T := TX8) (N := 14) (j := 4) hx hb hts (fun _ h9 => List.mem_cons_of_mem _ (List.mem_append_left _ (List.mem_append_right _ h9))) hown hK hg 0 (by decide) rfl rfl (by decide) rfl 3 (by decide) (hts (.fieldLink RX8 34 "JoinMaps" "versions" "LJoinMaps$Versions;") (List.mem_cons_of_mem _ (List.mem_append_left _ (List.mem_append_left _ (List.mem_of_getElem? (i := 0) rfl))))) rfl rfl rfl dX8_back_27 ?_
    refine q_geti (ci := 7) (C := RX7) (T := TX7) (N := 3) hx hb hts (fun _ h9 => List.mem_cons_of_mem _ (List.mem_append_right _ h9)) hown hK hg 4 (by decide) rfl rfl (by decide) rfl 1 (by decide) (hts (.fieldLink RX8 262 "JoinMaps$Versions" "count" "I") (List.mem_cons_of_mem _ (List.mem_append_left _ (List.mem_append_left _ (List.mem_of_getElem? (i := 1) rfl))))) rfl rfl dX8_back_30 ?_
    have hR6 := GS_R hg 4 1
    exact ret_i hx hb hr hlocks hg hR6 hm h dX8_back_33
  · have h := h.2 c2
    refine lv_aload_n hx hb dX8_back_10 rfl (lv_at hl 0 rfl) ?_
    refine call_i (run_V (a := ea E 0) (As := []) (rest := []) ⟨hx, hb, hml, hown, hts⟩ (ctX8_no l E  σ _  h) (cwV 0 hts gX8_back_X8_no rfl rfl rfl ⟨rfl, hdX8_no⟩ ⟨Nat.le_of_ble_eq_true rfl, Nat.le_of_ble_eq_true rfl⟩) hK hN hg (recv_x (ci := 8) (C := RX8) (T := TX8) (N := 14) hg hK (by decide) rfl (by decide) rfl) rfl hl.1 rfl (cat_sum _ (by simp)) dX8_back_11 ⟨Nat.le_refl 0, Nat.le_refl 0⟩) hg (fun r8 s7 H locs hz9 hm2 h hg => ?_)
    have hm := hm.tn hm2
    exact ret_i hx hb hr hlocks hg hz9 hm h dX8_back_14
theorem hdX8_entriesOfAll : yX8_entriesOfAll.cls ≠ "java/lang/invoke/MethodHandle" ∧ yX8_entriesOfAll.cls ≠ "java/lang/invoke/VarHandle" ∧ (parseMethodDescriptor yX8_entriesOfAll.desc).map (fun d => d.parameters.length) = some 0 := by decide +kernel
set_option maxRecDepth 100000 in
set_option maxHeartbeats 4000000 in
theorem ctX8_entriesOfAll (l : Launch) (E : Ev)  (σ : SS) (Q : Int → SS → Prop)  (h : wX8_entriesOfAll  σ Q) : Met l yX8_entriesOfAll wsX8_entriesOfAll ({ frames := 1, cells := 0, slots := 0, locals := 20 } : Room) (Pc E σ [.ref (ea E 0)]) (Qi E (sz σ) σ Q) 0 0 (Av E) := by
  rw [wX8_entriesOfAll] at h
  refine Met.ofW (cc := cX8_entriesOfAll) (maxL := 3) (ret := (some .int)) (by decide) rfl ?_
  intro p e s m args below meth c s₁ B hml hv
  obtain ⟨rfl, hH, hK, hN⟩ := hv
  have hx := B.exec
  have hb := B.bytes
  have hr := B.returns
  have hts := atoms_spec (ws := wsX8_entriesOfAll) B.pre
  have hown : s.vm.findClass RX8 = some m.cls := findClass_of_methodNamed B.named
  have hlocks := B.notSynchronized
  have hg : GS E σ s s.heap [] := ⟨hH, va_S.rf⟩
  have hm : Mo (sz σ) σ σ := Mo.rf (Nat.le_refl _)
  have hl := ent (vs := [.ref (ea E 0)]) (n := 3) (cats_x cats_nil) (Nat.le_of_ble_eq_true rfl)
  rw [lg_entry_eq]
  generalize (lg_sl ([.ref (ea E 0)]) ++ List.replicate (3 - (lg_sl ([.ref (ea E 0)])).length) Slot.unset).toArray = ls at hl ⊢
  have hl : lv_has ls 3 [(0, .ref (ea E 0))] := hl
  have J4 : ∀ (k : Nat), ∀ (v1 : Int) (v2 : Int) (sL : SS) (H : Heap) (locs : List Loc) (ls : Array Slot), GS E sL s H locs → Mo (sz σ) σ sL → lv_has ls 3 [(0, .ref (ea E 0)), (1, .int (iI (v1))), (2, .int (iI (v2)))] → wX8_entriesOfAll_L4  Q  k v1 v2 sL → W p l e (headSpec wsX8_entriesOfAll ({ frames := 1, cells := 0, slots := 0, locals := 20 } : Room)).room s m (List.toArray [.ref (ea E 0)]) below meth c H locs 0 0 (MQ below (Qi E (sz σ) σ Q) (List.toArray [.ref (ea E 0)]) s 0 0 (Av E)) (F0 m 4 ls []) := by
    intro k
    induction k with
    | zero => intro v1 v2 sL H locs ls hg hm hl h; exact False.elim h
    | succ k ih =>
      intro v1 v2 sL H locs ls hg hm hl h
      rw [wX8_entriesOfAll_L4] at h
      refine lv_iload_n hx hb dX8_entriesOfAll_4 rfl (lv_at hl 2 rfl) ?_
      refine lv_bipush (v := iI 6) hx hb dX8_entriesOfAll_5 (by decide) ?_
      obtain ⟨hR1, h⟩ := h
      refine j_ge (tgt := 28) hx hb dX8_entriesOfAll_7 (by decide) hR1 (by decide) (fun c2 => ?_) (fun c2 => ?_)
      · have h := h.1 c2
        refine lv_iload_n hx hb dX8_entriesOfAll_28 rfl (lv_at hl 1 rfl) ?_
        obtain ⟨hR3, h⟩ := h
        exact ret_i hx hb hr hlocks hg hR3 hm h dX8_entriesOfAll_29
      · have h := h.2 c2
        refine lv_iload_n hx hb dX8_entriesOfAll_10 rfl (lv_at hl 1 rfl) ?_
        refine lv_aload_n hx hb dX8_entriesOfAll_11 rfl (lv_at hl 0 rfl) ?_
        refine q_getx (ci := 8) (C := RX8) (T := TX8) (N := 14) (j := 3) hx hb hts (fun _ h9 => List.mem_cons_of_mem _ (List.mem_append_left _ (List.mem_append_right _ h9))) hown hK hg 0 (by decide) rfl rfl (by decide) rfl 2 (by decide) (hts (.fieldLink RX8 27 "JoinMaps" "maps" "[LJoinMaps$Node;") (List.mem_cons_of_mem _ (List.mem_append_left _ (List.mem_append_left _ (List.mem_of_getElem? (i := 0) rfl))))) rfl rfl rfl dX8_entriesOfAll_12 ?_
        refine lv_iload_n hx hb dX8_entriesOfAll_15 rfl (lv_at hl 2 rfl) ?_
        obtain ⟨hP4, hP5, h⟩ := h
        refine q_aald (N := 6) hx hb hK hg 3 (by decide) rfl rfl hP4 hP5 (by decide) dX8_entriesOfAll_16 ?_
        have hS6 : ∀ b, (sf sL 3 (v2 : Int).toNat) = some b → sS sL b := fun b h0 => GS_F hg h0
        refine call_i (run_S (As := [va_rf ((sf sL 3 (v2 : Int).toNat))]) (rest := [.int (iI (v1))]) ⟨hx, hb, hml, hown, hts⟩ (ctX3_countOf l E (sf sL 3 (v2 : Int).toNat) sL _ hS6 h) (va_cwS 1 hts gX8_entriesOfAll_X3_countOf rfl rfl rfl hdX3_countOf ⟨Nat.le_of_ble_eq_true rfl, Nat.le_of_ble_eq_true rfl⟩) hK hN hg rfl hl.1 rfl (cat_sum _ (by simp)) dX8_entriesOfAll_17 ⟨Nat.le_refl 0, Nat.le_refl 0⟩) hg (fun r8 s7 H locs hz9 hm2 h hg => ?_)
        have hm := hm.tn hm2
        refine q_iadd hx hb dX8_entriesOfAll_20 ?_
        refine lv_istore_n (i := 1) (lv' := [(1, .int (iI ((v1 + r8)))), (0, .ref (ea E 0)), (2, .int (iI (v2)))]) hx hb dX8_entriesOfAll_21 rfl hl (by decide) rfl (fun ls hl => ?_)
        refine lv_iinc (v := iI (v2 + 1)) (lv' := [(2, .int (iI (v2 + 1))), (1, .int (iI ((v1 + r8)))), (0, .ref (ea E 0))]) hx hb dX8_entriesOfAll_22 hl (k := 2) rfl (iI_add _ _) (by decide) rfl (fun ls hl => ?_)
        refine lv_goto (tgt := 4) hx hb dX8_entriesOfAll_25 (by decide) ?_
        exact ih ((v1 + r8)) (v2 + 1) (s7) _ _ _ hg hm (lv_sub hl [2, 1, 0] rfl) h
  refine lv_iconst (v := iI 0) hx hb dX8_entriesOfAll_0 (by decide) ?_
  refine lv_istore_n (i := 1) (lv' := [(1, .int (iI (0))), (0, .ref (ea E 0))]) hx hb dX8_entriesOfAll_1 rfl hl (by decide) rfl (fun ls hl => ?_)
  refine lv_iconst (v := iI 0) hx hb dX8_entriesOfAll_2 (by decide) ?_
  refine lv_istore_n (i := 2) (lv' := [(2, .int (iI (0))), (1, .int (iI (0))), (0, .ref (ea E 0))]) hx hb dX8_entriesOfAll_3 rfl hl (by decide) rfl (fun ls hl => ?_)
  obtain ⟨kk, h⟩ := h
  exact J4  kk (0) (0) (σ) _ _ _ hg hm (lv_sub hl [2, 1, 0] rfl) h
